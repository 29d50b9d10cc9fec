set_option maxHeartbeats 4000000 in
set_option maxRecDepth 100000 in
theorem k_X4_init (l : Launch) (dd : va_G) (g : Nat → ClassId) (sz0 b sz : Nat) : Met l yX4_init wsX4_init ({ frames := 2, cells := 19, slots := 152, locals := 40 }) (iPre dd g sz0 b sz (.inr (4, [.null, .null, .null, .int 0, .int 0, .int 0, .int 0]))) (iPost dd b sz 20 (stN g)) 19 152 (nA b sz) := by
  refine Met.ofW (cc := cX4_init) (maxL := 2) (ret := none) (by decide) rfl ?_
  intro p e s m args below meth c s₁ B hml hv
  obtain ⟨rfl, hsz, hs0, hP0, hK, hX⟩ := hv
  have hx := B.exec
  have hb := B.bytes
  have hr := B.returns
  have hts := atoms_spec (ws := wsX4_init) B.pre
  have hown : s.vm.findClass RX4 = some m.cls := findClass_of_methodNamed B.named
  have hlocks := B.notSynchronized
  have hin2 : meth.name = "<init>" := (name_of_methodNamed B.named B.method).1
  subst hsz
  obtain ⟨hI0, hA, hA0⟩ := n_start hP0 hs0
  obtain ⟨ad0, hw0⟩ : ∃ z, z = (fun _ : Nat => b) := ⟨_, rfl⟩
  obtain ⟨en0, hw1⟩ : ∃ z, z = (fun _ : Nat => (.inr (4, [.null, .null, .null, .int 0, .int 0, .int 0, .int 0]) : va_E)) := ⟨_, rfl⟩
  have A0_0 : ad0 0 = b := by rw [hw0]
  have E0_0 : en0 0 = (.inr (4, [.null, .null, .null, .int 0, .int 0, .int 0, .int 0]) : va_E) := by rw [hw1]
  have hI : nW dd 1 ad0 en0 (nA b s.heap.size) s.heap s.heap [] := by rw [hw0, hw1]; exact hI0
  have hinX0 : ∀ w ∈ wsX00, w ∈ wsX4_init := by decide +kernel
  have hinX4 : ∀ w ∈ wsX40, w ∈ wsX4_init := by decide +kernel
  obtain ⟨hX1, hX2, hX3, hX4, hX5, hX6, hX7, tFS, hZ, hT⟩ := id hX
  have hl := lv_entry ([.ref b]) (n := 2) (Nat.le_of_ble_eq_true rfl)
  rw [lg_entry_eq]
  generalize (lg_sl ([.ref b]) ++ List.replicate (2 - (lg_sl ([.ref b])).length) Slot.unset).toArray = ls at hl ⊢
  have hl : lv_has ls 2 [(0, .ref b)] := hl
  refine lv_aload_n hx hb dX4_init_0 rfl (lv_at hl 0 rfl) ?_
  refine W.objInit hx hb hown (hts (.methodLink RX4 3 objectInit) (by decide +kernel)) (hts (.instanceMethod objectInit) (by decide +kernel)) (hts (.code objectInit ⟨#[0xb1]⟩ 1 none) (by decide +kernel)) rfl (by rw [hml]; exact hl.1) rfl dX4_init_1 (Nat.le_of_ble_eq_true rfl) (Nat.le_of_ble_eq_true rfl) ?_
  refine W.eq (g2 := F0 m 4 ls []) rfl ?_
  refine lv_aload_n hx hb dX4_init_4 rfl (lv_at hl 0 rfl) ?_
  refine lv_iconst (v := 4) hx hb dX4_init_5 (by decide) ?_
  refine o_newa (atype := .int) (ty := .int) (N := 4) (a0 := (4, .inl (fun _ => 0))) hx hb (hts (.arrayClass .int) (by decide +kernel)) rfl 0 rfl hK hI hA (fun _ => by rw [vp_cell_i]; rfl) (by decide) (by decide) (Nat.le_of_ble_eq_true rfl) (Nat.le_of_ble_eq_true rfl) (Nat.le_of_ble_eq_true rfl) dX4_init_6 (fun ad1 en1 H ha1 he1 hn1 hI => ?_)
  have A1_0 : ad1 0 = b := (ha1 0 (by omega)).trans A0_0
  have E1_0 : en1 0 = .inr (4, [.null, .null, .null, .int 0, .int 0, .int 0, .int 0]) := (he1 0 (by omega)).trans E0_0
  obtain ⟨q1, A1_1⟩ : ∃ z, ad1 1 = z := ⟨_, rfl⟩
  rw [A1_1]
  have E1_1 := hn1
  refine o_putF hx hb hts hinX4 tyX4 tyX4_ok nmX4 hown hK hI 0 (by omega) A1_0 E1_0 (ci := 4) rfl 0 (by decide) (hts (.fieldLink RX4 9 "WinderLadders$State" "settings" "[I") (by decide +kernel)) rfl hin2 rfl rfl rfl (Nat.le_of_ble_eq_true rfl) dX4_init_8 (fun en2 H locs he2 hn2 hI => ?_)
  have E2_1 : en2 1 = .inl (g 0, 4, .inl (fun _ => 0)) := (he2 1 (by omega)).trans E1_1
  have E2_0 : en2 0 = .inr (4, [.ref q1, .null, .null, .int 0, .int 0, .int 0, .int 0]) := hn2
  refine lv_aload_n hx hb dX4_init_11 rfl (lv_at hl 0 rfl) ?_
  refine lv_bipush (v := 16) hx hb dX4_init_12 (by decide) ?_
  refine o_newq (N := 16) hx hb hown (hts (.classLink RX4 15 RX0) (by decide +kernel)) hX1 3 rfl hK hI hA (by decide) (by decide) (Nat.le_of_ble_eq_true rfl) (Nat.le_of_ble_eq_true rfl) (Nat.le_of_ble_eq_true rfl) dX4_init_14 (fun ad3 en3 H ha3 he3 hn3 hI => ?_)
  have A3_0 : ad3 0 = b := (ha3 0 (by omega)).trans A1_0
  have A3_1 : ad3 1 = q1 := (ha3 1 (by omega)).trans A1_1
  have E3_0 : en3 0 = .inr (4, [.ref q1, .null, .null, .int 0, .int 0, .int 0, .int 0]) := (he3 0 (by omega)).trans E2_0
  have E3_1 : en3 1 = .inl (g 0, 4, .inl (fun _ => 0)) := (he3 1 (by omega)).trans E2_1
  obtain ⟨q2, A3_2⟩ : ∃ z, ad3 2 = z := ⟨_, rfl⟩
  rw [A3_2]
  have E3_2 := hn3
  refine o_putF hx hb hts hinX4 tyX4 tyX4_ok nmX4 hown hK hI 0 (by omega) A3_0 E3_0 (ci := 4) rfl 1 (by decide) (hts (.fieldLink RX4 17 "WinderLadders$State" "clocks" "[LWinderLadders$Clock;") (by decide +kernel)) rfl hin2 rfl rfl rfl (Nat.le_of_ble_eq_true rfl) dX4_init_17 (fun en4 H locs he4 hn4 hI => ?_)
  have E4_1 : en4 1 = .inl (g 0, 4, .inl (fun _ => 0)) := (he4 1 (by omega)).trans E3_1
  have E4_2 : en4 2 = .inl (g 3, 16, .inr (.inr (.inr (.inr (fun _ => none))))) := (he4 2 (by omega)).trans E3_2
  have E4_0 : en4 0 = .inr (4, [.ref q1, .ref q2, .null, .int 0, .int 0, .int 0, .int 0]) := hn4
  refine lv_aload_n hx hb dX4_init_20 rfl (lv_at hl 0 rfl) ?_
  refine lv_iconst (v := 4) hx hb dX4_init_21 (by decide) ?_
  refine o_newa (atype := .int) (ty := .int) (N := 4) (a0 := (4, .inl (fun _ => 0))) hx hb (hts (.arrayClass .int) (by decide +kernel)) rfl 0 rfl hK hI hA (fun _ => by rw [vp_cell_i]; rfl) (by decide) (by decide) (Nat.le_of_ble_eq_true rfl) (Nat.le_of_ble_eq_true rfl) (Nat.le_of_ble_eq_true rfl) dX4_init_22 (fun ad5 en5 H ha5 he5 hn5 hI => ?_)
  have A5_0 : ad5 0 = b := (ha5 0 (by omega)).trans A3_0
  have A5_1 : ad5 1 = q1 := (ha5 1 (by omega)).trans A3_1
  have A5_2 : ad5 2 = q2 := (ha5 2 (by omega)).trans A3_2
  have E5_0 : en5 0 = .inr (4, [.ref q1, .ref q2, .null, .int 0, .int 0, .int 0, .int 0]) := (he5 0 (by omega)).trans E4_0
  have E5_1 : en5 1 = .inl (g 0, 4, .inl (fun _ => 0)) := (he5 1 (by omega)).trans E4_1
  have E5_2 : en5 2 = .inl (g 3, 16, .inr (.inr (.inr (.inr (fun _ => none))))) := (he5 2 (by omega)).trans E4_2
  obtain ⟨q3, A5_3⟩ : ∃ z, ad5 3 = z := ⟨_, rfl⟩
  rw [A5_3]
  have E5_3 := hn5
  refine o_putF hx hb hts hinX4 tyX4 tyX4_ok nmX4 hown hK hI 0 (by omega) A5_0 E5_0 (ci := 4) rfl 2 (by decide) (hts (.fieldLink RX4 21 "WinderLadders$State" "ladders" "[I") (by decide +kernel)) rfl hin2 rfl rfl rfl (Nat.le_of_ble_eq_true rfl) dX4_init_24 (fun en6 H locs he6 hn6 hI => ?_)
  have E6_1 : en6 1 = .inl (g 0, 4, .inl (fun _ => 0)) := (he6 1 (by omega)).trans E5_1
  have E6_2 : en6 2 = .inl (g 3, 16, .inr (.inr (.inr (.inr (fun _ => none))))) := (he6 2 (by omega)).trans E5_2
  have E6_3 : en6 3 = .inl (g 0, 4, .inl (fun _ => 0)) := (he6 3 (by omega)).trans E5_3
  have E6_0 : en6 0 = .inr (4, [.ref q1, .ref q2, .ref q3, .int 0, .int 0, .int 0, .int 0]) := hn6
  refine va_getsN hx hb (hZ.narrow hA0) hI.2.2 hown (va_Nw.use rfl hX7) (fun _ h => h) dX4_init_27 ?_
  refine lv_iconst (v := 0) hx hb dX4_init_30 (by decide) ?_
  refine lv_aload_n hx hb dX4_init_31 rfl (lv_at hl 0 rfl) ?_
  refine o_get hx hb hts hinX4 hown hK hI 0 (by omega) A5_0 E6_0 (ci := 4) rfl 0 (by decide) (hts (.fieldLink RX4 9 "WinderLadders$State" "settings" "[I") (by decide +kernel)) (v := .ref q1) rfl dX4_init_32 ?_
  refine lv_iconst (v := 0) hx hb dX4_init_35 (by decide) ?_
  refine lv_iconst (v := 4) hx hb dX4_init_36 (by decide) ?_
  refine o_cpyT hx hb (hml.trans hl.1.symm) hown (hts (.methodLink RX4 27 arraycopyName) (by decide +kernel)) (hts (.native arraycopyName) (by decide +kernel)) (hts (.static arraycopyName) (by decide +kernel)) (hts (.initialized "java/lang/System") (by decide +kernel)) hK hI (hT.narrow hA0) 1 (by omega) A5_1 E6_1 (Nat.le_of_ble_eq_true rfl) (Nat.le_of_ble_eq_true rfl) dX4_init_37 (fun en7 H locs he7 hn7 hI => ?_)
  have E7_0 : en7 0 = .inr (4, [.ref q1, .ref q2, .ref q3, .int 0, .int 0, .int 0, .int 0]) := (he7 0 (by omega)).trans E6_0
  have E7_2 : en7 2 = .inl (g 3, 16, .inr (.inr (.inr (.inr (fun _ => none))))) := (he7 2 (by omega)).trans E6_2
  have E7_3 : en7 3 = .inl (g 0, 4, .inl (fun _ => 0)) := (he7 3 (by omega)).trans E6_3
  have E7_1 : en7 1 = .inl (g 0, 4, .inl (va_cpy fsT (fun _ => 0) 0 0 4)) := hn7
  refine lv_iconst (v := 0) hx hb dX4_init_40 (by decide) ?_
  refine lv_istore_n (lv' := [(1, .int 0), (0, .ref b)]) hx hb dX4_init_41 rfl hl (by decide) rfl (fun ls hl => ?_)
  refine lv_iload_n hx hb dX4_init_42 rfl (lv_at hl 0 rfl) ?_
  refine lv_bipush (v := 16) hx hb dX4_init_43 (by decide) ?_
  refine lv_icmp_ge (tgt := 67) hx hb dX4_init_45 (by decide) (fun c1 => absurd c1 (by decide)) (fun _ => ?_)
  refine lv_aload_n hx hb dX4_init_48 rfl (lv_at hl 1 rfl) ?_
  refine o_get hx hb hts hinX4 hown hK hI 0 (by omega) A5_0 E7_0 (ci := 4) rfl 1 (by decide) (hts (.fieldLink RX4 17 "WinderLadders$State" "clocks" "[LWinderLadders$Clock;") (by decide +kernel)) (v := .ref q2) rfl dX4_init_49 ?_
  refine lv_iload_n hx hb dX4_init_52 rfl (lv_at hl 0 rfl) ?_
  refine o_new (fs := [.int 0, .int 0, .int 0, .int 0, .int 0, .int 0, .int 0, .int 0]) hx hb hts hinX0 tyX0 tyX0_ok hown (hts (.classLink RX4 15 RX0) (by decide +kernel)) (hts (.instantiable RX0 8) (by decide +kernel)) (hts (.initialized RX0) (by decide +kernel)) hK hI hA (ci := 0) rfl (by decide) (Nat.le_of_ble_eq_true rfl) (Nat.le_of_ble_eq_true rfl) dX4_init_53 (fun ad8 en8 H ha8 he8 hn8 hI => ?_)
  have A8_0 : ad8 0 = b := (ha8 0 (by omega)).trans A5_0
  have A8_1 : ad8 1 = q1 := (ha8 1 (by omega)).trans A5_1
  have A8_2 : ad8 2 = q2 := (ha8 2 (by omega)).trans A5_2
  have A8_3 : ad8 3 = q3 := (ha8 3 (by omega)).trans A5_3
  have E8_0 : en8 0 = .inr (4, [.ref q1, .ref q2, .ref q3, .int 0, .int 0, .int 0, .int 0]) := (he8 0 (by omega)).trans E7_0
  have E8_1 : en8 1 = .inl (g 0, 4, .inl (va_cpy fsT (fun _ => 0) 0 0 4)) := (he8 1 (by omega)).trans E7_1
  have E8_2 : en8 2 = .inl (g 3, 16, .inr (.inr (.inr (.inr (fun _ => none))))) := (he8 2 (by omega)).trans E7_2
  have E8_3 : en8 3 = .inl (g 0, 4, .inl (fun _ => 0)) := (he8 3 (by omega)).trans E7_3
  obtain ⟨q4, A8_4⟩ : ∃ z, ad8 4 = z := ⟨_, rfl⟩
  rw [A8_4]
  have E8_4 := hn8
  refine lv_dup hx hb dX4_init_56 rfl ?_
  refine o_initN (mm := 1) (rest := [.ref q4, .int 0, .ref q2]) hx hb hml hown hts hK hX hI hA hA0 A8_4 E8_4 (k_X0_init l dd g sz0 q4 H.size) ⟨va_cnB 0 hts gX4_init_X0_init_n33 rfl rfl rfl hX3 (hts (.initialized RX0) (by decide +kernel)) (by decide +kernel) ⟨Nat.le_of_ble_eq_true rfl, Nat.le_of_ble_eq_true rfl⟩, rfl, hts (.instanceMethod yX0_init) (by decide +kernel)⟩ hl (Nat.le_of_ble_eq_true rfl) ⟨Nat.le_of_ble_eq_true rfl, Nat.le_of_ble_eq_true rfl⟩ dX4_init_57 (fun ad9 en9 H locs ha9 hq9 he9 hn9 hI => ?_)
  have A9_0 : ad9 0 = b := (ha9 0 (by omega)).trans A8_0
  have A9_1 : ad9 1 = q1 := (ha9 1 (by omega)).trans A8_1
  have A9_2 : ad9 2 = q2 := (ha9 2 (by omega)).trans A8_2
  have A9_3 : ad9 3 = q3 := (ha9 3 (by omega)).trans A8_3
  have E9_0 : en9 0 = .inr (4, [.ref q1, .ref q2, .ref q3, .int 0, .int 0, .int 0, .int 0]) := (he9 0 (by omega)).trans E8_0
  have E9_1 : en9 1 = .inl (g 0, 4, .inl (va_cpy fsT (fun _ => 0) 0 0 4)) := (he9 1 (by omega)).trans E8_1
  have E9_2 : en9 2 = .inl (g 3, 16, .inr (.inr (.inr (.inr (fun _ => none))))) := (he9 2 (by omega)).trans E8_2
  have E9_3 : en9 3 = .inl (g 0, 4, .inl (fun _ => 0)) := (he9 3 (by omega)).trans E8_3
  have A9_4 : ad9 4 = q4 := hq9
  have E9_4 : en9 4 = .inr (0, [.int 0, .int 0, .int 0, .int 0, .int 0, .int 0, .int 0, .int 0]) := hn9 0
  refine o_astq (r := (RX0, TX0, 8)) hx hb hK hI 2 3 4 0 (by omega) (by omega) A9_2 A9_4 E9_2 rfl E9_4 rfl (by decide) 0 (by decide) rfl dX4_init_60 (fun en10 H locs he10 hn10 hI => ?_)
  have E10_0 : en10 0 = .inr (4, [.ref q1, .ref q2, .ref q3, .int 0, .int 0, .int 0, .int 0]) := (he10 0 (by omega)).trans E9_0
  have E10_1 : en10 1 = .inl (g 0, 4, .inl (va_cpy fsT (fun _ => 0) 0 0 4)) := (he10 1 (by omega)).trans E9_1
  have E10_3 : en10 3 = .inl (g 0, 4, .inl (fun _ => 0)) := (he10 3 (by omega)).trans E9_3
  have E10_4 : en10 4 = .inr (0, [.int 0, .int 0, .int 0, .int 0, .int 0, .int 0, .int 0, .int 0]) := (he10 4 (by omega)).trans E9_4
  have E10_2 : en10 2 = .inl (g 3, 16, .inr (.inr (.inr (.inr (va_up (fun _ => none) 0 (some q4)))))) := hn10
  refine lv_iinc (v := 1) (lv' := [(1, .int 1), (0, .ref b)]) hx hb dX4_init_61 hl (k := 0) rfl (by decide) (by decide) rfl (fun ls hl => ?_)
  refine lv_goto (tgt := 42) hx hb dX4_init_64 (by decide) ?_
  refine lv_iload_n hx hb dX4_init_42 rfl (lv_at hl 0 rfl) ?_
  refine lv_bipush (v := 16) hx hb dX4_init_43 (by decide) ?_
  refine lv_icmp_ge (tgt := 67) hx hb dX4_init_45 (by decide) (fun c2 => absurd c2 (by decide)) (fun _ => ?_)
  refine lv_aload_n hx hb dX4_init_48 rfl (lv_at hl 1 rfl) ?_
  refine o_get hx hb hts hinX4 hown hK hI 0 (by omega) A9_0 E10_0 (ci := 4) rfl 1 (by decide) (hts (.fieldLink RX4 17 "WinderLadders$State" "clocks" "[LWinderLadders$Clock;") (by decide +kernel)) (v := .ref q2) rfl dX4_init_49 ?_
  refine lv_iload_n hx hb dX4_init_52 rfl (lv_at hl 0 rfl) ?_
  refine o_new (fs := [.int 0, .int 0, .int 0, .int 0, .int 0, .int 0, .int 0, .int 0]) hx hb hts hinX0 tyX0 tyX0_ok hown (hts (.classLink RX4 15 RX0) (by decide +kernel)) (hts (.instantiable RX0 8) (by decide +kernel)) (hts (.initialized RX0) (by decide +kernel)) hK hI hA (ci := 0) rfl (by decide) (Nat.le_of_ble_eq_true rfl) (Nat.le_of_ble_eq_true rfl) dX4_init_53 (fun ad11 en11 H ha11 he11 hn11 hI => ?_)
  have A11_0 : ad11 0 = b := (ha11 0 (by omega)).trans A9_0
  have A11_1 : ad11 1 = q1 := (ha11 1 (by omega)).trans A9_1
  have A11_2 : ad11 2 = q2 := (ha11 2 (by omega)).trans A9_2
  have A11_3 : ad11 3 = q3 := (ha11 3 (by omega)).trans A9_3
  have A11_4 : ad11 4 = q4 := (ha11 4 (by omega)).trans A9_4
  have E11_0 : en11 0 = .inr (4, [.ref q1, .ref q2, .ref q3, .int 0, .int 0, .int 0, .int 0]) := (he11 0 (by omega)).trans E10_0
  have E11_1 : en11 1 = .inl (g 0, 4, .inl (va_cpy fsT (fun _ => 0) 0 0 4)) := (he11 1 (by omega)).trans E10_1
  have E11_2 : en11 2 = .inl (g 3, 16, .inr (.inr (.inr (.inr (va_up (fun _ => none) 0 (some q4)))))) := (he11 2 (by omega)).trans E10_2
  have E11_3 : en11 3 = .inl (g 0, 4, .inl (fun _ => 0)) := (he11 3 (by omega)).trans E10_3
  have E11_4 : en11 4 = .inr (0, [.int 0, .int 0, .int 0, .int 0, .int 0, .int 0, .int 0, .int 0]) := (he11 4 (by omega)).trans E10_4
  obtain ⟨q5, A11_5⟩ : ∃ z, ad11 5 = z := ⟨_, rfl⟩
  rw [A11_5]
  have E11_5 := hn11
  refine lv_dup hx hb dX4_init_56 rfl ?_
  refine o_initN (mm := 1) (rest := [.ref q5, .int 1, .ref q2]) hx hb hml hown hts hK hX hI hA hA0 A11_5 E11_5 (k_X0_init l dd g sz0 q5 H.size) ⟨va_cnB 0 hts gX4_init_X0_init_n33 rfl rfl rfl hX3 (hts (.initialized RX0) (by decide +kernel)) (by decide +kernel) ⟨Nat.le_of_ble_eq_true rfl, Nat.le_of_ble_eq_true rfl⟩, rfl, hts (.instanceMethod yX0_init) (by decide +kernel)⟩ hl (Nat.le_of_ble_eq_true rfl) ⟨Nat.le_of_ble_eq_true rfl, Nat.le_of_ble_eq_true rfl⟩ dX4_init_57 (fun ad12 en12 H locs ha12 hq12 he12 hn12 hI => ?_)
  have A12_0 : ad12 0 = b := (ha12 0 (by omega)).trans A11_0
  have A12_1 : ad12 1 = q1 := (ha12 1 (by omega)).trans A11_1
  have A12_2 : ad12 2 = q2 := (ha12 2 (by omega)).trans A11_2
  have A12_3 : ad12 3 = q3 := (ha12 3 (by omega)).trans A11_3
  have A12_4 : ad12 4 = q4 := (ha12 4 (by omega)).trans A11_4
  have E12_0 : en12 0 = .inr (4, [.ref q1, .ref q2, .ref q3, .int 0, .int 0, .int 0, .int 0]) := (he12 0 (by omega)).trans E11_0
  have E12_1 : en12 1 = .inl (g 0, 4, .inl (va_cpy fsT (fun _ => 0) 0 0 4)) := (he12 1 (by omega)).trans E11_1
  have E12_2 : en12 2 = .inl (g 3, 16, .inr (.inr (.inr (.inr (va_up (fun _ => none) 0 (some q4)))))) := (he12 2 (by omega)).trans E11_2
  have E12_3 : en12 3 = .inl (g 0, 4, .inl (fun _ => 0)) := (he12 3 (by omega)).trans E11_3
  have E12_4 : en12 4 = .inr (0, [.int 0, .int 0, .int 0, .int 0, .int 0, .int 0, .int 0, .int 0]) := (he12 4 (by omega)).trans E11_4
  have A12_5 : ad12 5 = q5 := hq12
  have E12_5 : en12 5 = .inr (0, [.int 0, .int 0, .int 0, .int 0, .int 0, .int 0, .int 0, .int 0]) := hn12 0
  refine o_astq (r := (RX0, TX0, 8)) hx hb hK hI 2 3 5 0 (by omega) (by omega) A12_2 A12_5 E12_2 rfl E12_5 rfl (by decide) 1 (by decide) rfl dX4_init_60 (fun en13 H locs he13 hn13 hI => ?_)
  have E13_0 : en13 0 = .inr (4, [.ref q1, .ref q2, .ref q3, .int 0, .int 0, .int 0, .int 0]) := (he13 0 (by omega)).trans E12_0
  have E13_1 : en13 1 = .inl (g 0, 4, .inl (va_cpy fsT (fun _ => 0) 0 0 4)) := (he13 1 (by omega)).trans E12_1
  have E13_3 : en13 3 = .inl (g 0, 4, .inl (fun _ => 0)) := (he13 3 (by omega)).trans E12_3
  have E13_4 : en13 4 = .inr (0, [.int 0, .int 0, .int 0, .int 0, .int 0, .int 0, .int 0, .int 0]) := (he13 4 (by omega)).trans E12_4
  have E13_5 : en13 5 = .inr (0, [.int 0, .int 0, .int 0, .int 0, .int 0, .int 0, .int 0, .int 0]) := (he13 5 (by omega)).trans E12_5
  have E13_2 : en13 2 = .inl (g 3, 16, .inr (.inr (.inr (.inr (va_up (va_up (fun _ => none) 0 (some q4)) 1 (some q5)))))) := hn13
  refine lv_iinc (v := 2) (lv' := [(1, .int 2), (0, .ref b)]) hx hb dX4_init_61 hl (k := 0) rfl (by decide) (by decide) rfl (fun ls hl => ?_)
  refine lv_goto (tgt := 42) hx hb dX4_init_64 (by decide) ?_
  refine lv_iload_n hx hb dX4_init_42 rfl (lv_at hl 0 rfl) ?_
  refine lv_bipush (v := 16) hx hb dX4_init_43 (by decide) ?_
  refine lv_icmp_ge (tgt := 67) hx hb dX4_init_45 (by decide) (fun c3 => absurd c3 (by decide)) (fun _ => ?_)
  refine lv_aload_n hx hb dX4_init_48 rfl (lv_at hl 1 rfl) ?_
  refine o_get hx hb hts hinX4 hown hK hI 0 (by omega) A12_0 E13_0 (ci := 4) rfl 1 (by decide) (hts (.fieldLink RX4 17 "WinderLadders$State" "clocks" "[LWinderLadders$Clock;") (by decide +kernel)) (v := .ref q2) rfl dX4_init_49 ?_
  refine lv_iload_n hx hb dX4_init_52 rfl (lv_at hl 0 rfl) ?_
  refine o_new (fs := [.int 0, .int 0, .int 0, .int 0, .int 0, .int 0, .int 0, .int 0]) hx hb hts hinX0 tyX0 tyX0_ok hown (hts (.classLink RX4 15 RX0) (by decide +kernel)) (hts (.instantiable RX0 8) (by decide +kernel)) (hts (.initialized RX0) (by decide +kernel)) hK hI hA (ci := 0) rfl (by decide) (Nat.le_of_ble_eq_true rfl) (Nat.le_of_ble_eq_true rfl) dX4_init_53 (fun ad14 en14 H ha14 he14 hn14 hI => ?_)
  have A14_0 : ad14 0 = b := (ha14 0 (by omega)).trans A12_0
  have A14_1 : ad14 1 = q1 := (ha14 1 (by omega)).trans A12_1
  have A14_2 : ad14 2 = q2 := (ha14 2 (by omega)).trans A12_2
  have A14_3 : ad14 3 = q3 := (ha14 3 (by omega)).trans A12_3
  have A14_4 : ad14 4 = q4 := (ha14 4 (by omega)).trans A12_4
  have A14_5 : ad14 5 = q5 := (ha14 5 (by omega)).trans A12_5
  have E14_0 : en14 0 = .inr (4, [.ref q1, .ref q2, .ref q3, .int 0, .int 0, .int 0, .int 0]) := (he14 0 (by omega)).trans E13_0
  have E14_1 : en14 1 = .inl (g 0, 4, .inl (va_cpy fsT (fun _ => 0) 0 0 4)) := (he14 1 (by omega)).trans E13_1
  have E14_2 : en14 2 = .inl (g 3, 16, .inr (.inr (.inr (.inr (va_up (va_up (fun _ => none) 0 (some q4)) 1 (some q5)))))) := (he14 2 (by omega)).trans E13_2
  have E14_3 : en14 3 = .inl (g 0, 4, .inl (fun _ => 0)) := (he14 3 (by omega)).trans E13_3
  have E14_4 : en14 4 = .inr (0, [.int 0, .int 0, .int 0, .int 0, .int 0, .int 0, .int 0, .int 0]) := (he14 4 (by omega)).trans E13_4
  have E14_5 : en14 5 = .inr (0, [.int 0, .int 0, .int 0, .int 0, .int 0, .int 0, .int 0, .int 0]) := (he14 5 (by omega)).trans E13_5
  obtain ⟨q6, A14_6⟩ : ∃ z, ad14 6 = z := ⟨_, rfl⟩
  rw [A14_6]
  have E14_6 := hn14
  refine lv_dup hx hb dX4_init_56 rfl ?_
  refine o_initN (mm := 1) (rest := [.ref q6, .int 2, .ref q2]) hx hb hml hown hts hK hX hI hA hA0 A14_6 E14_6 (k_X0_init l dd g sz0 q6 H.size) ⟨va_cnB 0 hts gX4_init_X0_init_n33 rfl rfl rfl hX3 (hts (.initialized RX0) (by decide +kernel)) (by decide +kernel) ⟨Nat.le_of_ble_eq_true rfl, Nat.le_of_ble_eq_true rfl⟩, rfl, hts (.instanceMethod yX0_init) (by decide +kernel)⟩ hl (Nat.le_of_ble_eq_true rfl) ⟨Nat.le_of_ble_eq_true rfl, Nat.le_of_ble_eq_true rfl⟩ dX4_init_57 (fun ad15 en15 H locs ha15 hq15 he15 hn15 hI => ?_)
  have A15_0 : ad15 0 = b := (ha15 0 (by omega)).trans A14_0
  have A15_1 : ad15 1 = q1 := (ha15 1 (by omega)).trans A14_1
  have A15_2 : ad15 2 = q2 := (ha15 2 (by omega)).trans A14_2
  have A15_3 : ad15 3 = q3 := (ha15 3 (by omega)).trans A14_3
  have A15_4 : ad15 4 = q4 := (ha15 4 (by omega)).trans A14_4
  have A15_5 : ad15 5 = q5 := (ha15 5 (by omega)).trans A14_5
  have E15_0 : en15 0 = .inr (4, [.ref q1, .ref q2, .ref q3, .int 0, .int 0, .int 0, .int 0]) := (he15 0 (by omega)).trans E14_0
  have E15_1 : en15 1 = .inl (g 0, 4, .inl (va_cpy fsT (fun _ => 0) 0 0 4)) := (he15 1 (by omega)).trans E14_1
  have E15_2 : en15 2 = .inl (g 3, 16, .inr (.inr (.inr (.inr (va_up (va_up (fun _ => none) 0 (some q4)) 1 (some q5)))))) := (he15 2 (by omega)).trans E14_2
  have E15_3 : en15 3 = .inl (g 0, 4, .inl (fun _ => 0)) := (he15 3 (by omega)).trans E14_3
  have E15_4 : en15 4 = .inr (0, [.int 0, .int 0, .int 0, .int 0, .int 0, .int 0, .int 0, .int 0]) := (he15 4 (by omega)).trans E14_4
  have E15_5 : en15 5 = .inr (0, [.int 0, .int 0, .int 0, .int 0, .int 0, .int 0, .int 0, .int 0]) := (he15 5 (by omega)).trans E14_5
  have A15_6 : ad15 6 = q6 := hq15
  have E15_6 : en15 6 = .inr (0, [.int 0, .int 0, .int 0, .int 0, .int 0, .int 0, .int 0, .int 0]) := hn15 0
  refine o_astq (r := (RX0, TX0, 8)) hx hb hK hI 2 3 6 0 (by omega) (by omega) A15_2 A15_6 E15_2 rfl E15_6 rfl (by decide) 2 (by decide) rfl dX4_init_60 (fun en16 H locs he16 hn16 hI => ?_)
  have E16_0 : en16 0 = .inr (4, [.ref q1, .ref q2, .ref q3, .int 0, .int 0, .int 0, .int 0]) := (he16 0 (by omega)).trans E15_0
  have E16_1 : en16 1 = .inl (g 0, 4, .inl (va_cpy fsT (fun _ => 0) 0 0 4)) := (he16 1 (by omega)).trans E15_1
  have E16_3 : en16 3 = .inl (g 0, 4, .inl (fun _ => 0)) := (he16 3 (by omega)).trans E15_3
  have E16_4 : en16 4 = .inr (0, [.int 0, .int 0, .int 0, .int 0, .int 0, .int 0, .int 0, .int 0]) := (he16 4 (by omega)).trans E15_4
  have E16_5 : en16 5 = .inr (0, [.int 0, .int 0, .int 0, .int 0, .int 0, .int 0, .int 0, .int 0]) := (he16 5 (by omega)).trans E15_5
  have E16_6 : en16 6 = .inr (0, [.int 0, .int 0, .int 0, .int 0, .int 0, .int 0, .int 0, .int 0]) := (he16 6 (by omega)).trans E15_6
  have E16_2 : en16 2 = .inl (g 3, 16, .inr (.inr (.inr (.inr (va_up (va_up (va_up (fun _ => none) 0 (some q4)) 1 (some q5)) 2 (some q6)))))) := hn16
  refine lv_iinc (v := 3) (lv' := [(1, .int 3), (0, .ref b)]) hx hb dX4_init_61 hl (k := 0) rfl (by decide) (by decide) rfl (fun ls hl => ?_)
  refine lv_goto (tgt := 42) hx hb dX4_init_64 (by decide) ?_
  refine lv_iload_n hx hb dX4_init_42 rfl (lv_at hl 0 rfl) ?_
  refine lv_bipush (v := 16) hx hb dX4_init_43 (by decide) ?_
  refine lv_icmp_ge (tgt := 67) hx hb dX4_init_45 (by decide) (fun c4 => absurd c4 (by decide)) (fun _ => ?_)
  refine lv_aload_n hx hb dX4_init_48 rfl (lv_at hl 1 rfl) ?_
  refine o_get hx hb hts hinX4 hown hK hI 0 (by omega) A15_0 E16_0 (ci := 4) rfl 1 (by decide) (hts (.fieldLink RX4 17 "WinderLadders$State" "clocks" "[LWinderLadders$Clock;") (by decide +kernel)) (v := .ref q2) rfl dX4_init_49 ?_
  refine lv_iload_n hx hb dX4_init_52 rfl (lv_at hl 0 rfl) ?_
  refine o_new (fs := [.int 0, .int 0, .int 0, .int 0, .int 0, .int 0, .int 0, .int 0]) hx hb hts hinX0 tyX0 tyX0_ok hown (hts (.classLink RX4 15 RX0) (by decide +kernel)) (hts (.instantiable RX0 8) (by decide +kernel)) (hts (.initialized RX0) (by decide +kernel)) hK hI hA (ci := 0) rfl (by decide) (Nat.le_of_ble_eq_true rfl) (Nat.le_of_ble_eq_true rfl) dX4_init_53 (fun ad17 en17 H ha17 he17 hn17 hI => ?_)
  have A17_0 : ad17 0 = b := (ha17 0 (by omega)).trans A15_0
  have A17_1 : ad17 1 = q1 := (ha17 1 (by omega)).trans A15_1
  have A17_2 : ad17 2 = q2 := (ha17 2 (by omega)).trans A15_2
  have A17_3 : ad17 3 = q3 := (ha17 3 (by omega)).trans A15_3
  have A17_4 : ad17 4 = q4 := (ha17 4 (by omega)).trans A15_4
  have A17_5 : ad17 5 = q5 := (ha17 5 (by omega)).trans A15_5
  have A17_6 : ad17 6 = q6 := (ha17 6 (by omega)).trans A15_6
  have E17_0 : en17 0 = .inr (4, [.ref q1, .ref q2, .ref q3, .int 0, .int 0, .int 0, .int 0]) := (he17 0 (by omega)).trans E16_0
  have E17_1 : en17 1 = .inl (g 0, 4, .inl (va_cpy fsT (fun _ => 0) 0 0 4)) := (he17 1 (by omega)).trans E16_1
  have E17_2 : en17 2 = .inl (g 3, 16, .inr (.inr (.inr (.inr (va_up (va_up (va_up (fun _ => none) 0 (some q4)) 1 (some q5)) 2 (some q6)))))) := (he17 2 (by omega)).trans E16_2
  have E17_3 : en17 3 = .inl (g 0, 4, .inl (fun _ => 0)) := (he17 3 (by omega)).trans E16_3
  have E17_4 : en17 4 = .inr (0, [.int 0, .int 0, .int 0, .int 0, .int 0, .int 0, .int 0, .int 0]) := (he17 4 (by omega)).trans E16_4
  have E17_5 : en17 5 = .inr (0, [.int 0, .int 0, .int 0, .int 0, .int 0, .int 0, .int 0, .int 0]) := (he17 5 (by omega)).trans E16_5
  have E17_6 : en17 6 = .inr (0, [.int 0, .int 0, .int 0, .int 0, .int 0, .int 0, .int 0, .int 0]) := (he17 6 (by omega)).trans E16_6
  obtain ⟨q7, A17_7⟩ : ∃ z, ad17 7 = z := ⟨_, rfl⟩
  rw [A17_7]
  have E17_7 := hn17
  refine lv_dup hx hb dX4_init_56 rfl ?_
  refine o_initN (mm := 1) (rest := [.ref q7, .int 3, .ref q2]) hx hb hml hown hts hK hX hI hA hA0 A17_7 E17_7 (k_X0_init l dd g sz0 q7 H.size) ⟨va_cnB 0 hts gX4_init_X0_init_n33 rfl rfl rfl hX3 (hts (.initialized RX0) (by decide +kernel)) (by decide +kernel) ⟨Nat.le_of_ble_eq_true rfl, Nat.le_of_ble_eq_true rfl⟩, rfl, hts (.instanceMethod yX0_init) (by decide +kernel)⟩ hl (Nat.le_of_ble_eq_true rfl) ⟨Nat.le_of_ble_eq_true rfl, Nat.le_of_ble_eq_true rfl⟩ dX4_init_57 (fun ad18 en18 H locs ha18 hq18 he18 hn18 hI => ?_)
  have A18_0 : ad18 0 = b := (ha18 0 (by omega)).trans A17_0
  have A18_1 : ad18 1 = q1 := (ha18 1 (by omega)).trans A17_1
  have A18_2 : ad18 2 = q2 := (ha18 2 (by omega)).trans A17_2
  have A18_3 : ad18 3 = q3 := (ha18 3 (by omega)).trans A17_3
  have A18_4 : ad18 4 = q4 := (ha18 4 (by omega)).trans A17_4
  have A18_5 : ad18 5 = q5 := (ha18 5 (by omega)).trans A17_5
  have A18_6 : ad18 6 = q6 := (ha18 6 (by omega)).trans A17_6
  have E18_0 : en18 0 = .inr (4, [.ref q1, .ref q2, .ref q3, .int 0, .int 0, .int 0, .int 0]) := (he18 0 (by omega)).trans E17_0
  have E18_1 : en18 1 = .inl (g 0, 4, .inl (va_cpy fsT (fun _ => 0) 0 0 4)) := (he18 1 (by omega)).trans E17_1
  have E18_2 : en18 2 = .inl (g 3, 16, .inr (.inr (.inr (.inr (va_up (va_up (va_up (fun _ => none) 0 (some q4)) 1 (some q5)) 2 (some q6)))))) := (he18 2 (by omega)).trans E17_2
  have E18_3 : en18 3 = .inl (g 0, 4, .inl (fun _ => 0)) := (he18 3 (by omega)).trans E17_3
  have E18_4 : en18 4 = .inr (0, [.int 0, .int 0, .int 0, .int 0, .int 0, .int 0, .int 0, .int 0]) := (he18 4 (by omega)).trans E17_4
  have E18_5 : en18 5 = .inr (0, [.int 0, .int 0, .int 0, .int 0, .int 0, .int 0, .int 0, .int 0]) := (he18 5 (by omega)).trans E17_5
  have E18_6 : en18 6 = .inr (0, [.int 0, .int 0, .int 0, .int 0, .int 0, .int 0, .int 0, .int 0]) := (he18 6 (by omega)).trans E17_6
  have A18_7 : ad18 7 = q7 := hq18
  have E18_7 : en18 7 = .inr (0, [.int 0, .int 0, .int 0, .int 0, .int 0, .int 0, .int 0, .int 0]) := hn18 0
  refine o_astq (r := (RX0, TX0, 8)) hx hb hK hI 2 3 7 0 (by omega) (by omega) A18_2 A18_7 E18_2 rfl E18_7 rfl (by decide) 3 (by decide) rfl dX4_init_60 (fun en19 H locs he19 hn19 hI => ?_)
  have E19_0 : en19 0 = .inr (4, [.ref q1, .ref q2, .ref q3, .int 0, .int 0, .int 0, .int 0]) := (he19 0 (by omega)).trans E18_0
  have E19_1 : en19 1 = .inl (g 0, 4, .inl (va_cpy fsT (fun _ => 0) 0 0 4)) := (he19 1 (by omega)).trans E18_1
  have E19_3 : en19 3 = .inl (g 0, 4, .inl (fun _ => 0)) := (he19 3 (by omega)).trans E18_3
  have E19_4 : en19 4 = .inr (0, [.int 0, .int 0, .int 0, .int 0, .int 0, .int 0, .int 0, .int 0]) := (he19 4 (by omega)).trans E18_4
  have E19_5 : en19 5 = .inr (0, [.int 0, .int 0, .int 0, .int 0, .int 0, .int 0, .int 0, .int 0]) := (he19 5 (by omega)).trans E18_5
  have E19_6 : en19 6 = .inr (0, [.int 0, .int 0, .int 0, .int 0, .int 0, .int 0, .int 0, .int 0]) := (he19 6 (by omega)).trans E18_6
  have E19_7 : en19 7 = .inr (0, [.int 0, .int 0, .int 0, .int 0, .int 0, .int 0, .int 0, .int 0]) := (he19 7 (by omega)).trans E18_7
  have E19_2 : en19 2 = .inl (g 3, 16, .inr (.inr (.inr (.inr (va_up (va_up (va_up (va_up (fun _ => none) 0 (some q4)) 1 (some q5)) 2 (some q6)) 3 (some q7)))))) := hn19
  refine lv_iinc (v := 4) (lv' := [(1, .int 4), (0, .ref b)]) hx hb dX4_init_61 hl (k := 0) rfl (by decide) (by decide) rfl (fun ls hl => ?_)
  refine lv_goto (tgt := 42) hx hb dX4_init_64 (by decide) ?_
  refine lv_iload_n hx hb dX4_init_42 rfl (lv_at hl 0 rfl) ?_
  refine lv_bipush (v := 16) hx hb dX4_init_43 (by decide) ?_
  refine lv_icmp_ge (tgt := 67) hx hb dX4_init_45 (by decide) (fun c5 => absurd c5 (by decide)) (fun _ => ?_)
  refine lv_aload_n hx hb dX4_init_48 rfl (lv_at hl 1 rfl) ?_
  refine o_get hx hb hts hinX4 hown hK hI 0 (by omega) A18_0 E19_0 (ci := 4) rfl 1 (by decide) (hts (.fieldLink RX4 17 "WinderLadders$State" "clocks" "[LWinderLadders$Clock;") (by decide +kernel)) (v := .ref q2) rfl dX4_init_49 ?_
  refine lv_iload_n hx hb dX4_init_52 rfl (lv_at hl 0 rfl) ?_
  refine o_new (fs := [.int 0, .int 0, .int 0, .int 0, .int 0, .int 0, .int 0, .int 0]) hx hb hts hinX0 tyX0 tyX0_ok hown (hts (.classLink RX4 15 RX0) (by decide +kernel)) (hts (.instantiable RX0 8) (by decide +kernel)) (hts (.initialized RX0) (by decide +kernel)) hK hI hA (ci := 0) rfl (by decide) (Nat.le_of_ble_eq_true rfl) (Nat.le_of_ble_eq_true rfl) dX4_init_53 (fun ad20 en20 H ha20 he20 hn20 hI => ?_)
  have A20_0 : ad20 0 = b := (ha20 0 (by omega)).trans A18_0
  have A20_1 : ad20 1 = q1 := (ha20 1 (by omega)).trans A18_1
  have A20_2 : ad20 2 = q2 := (ha20 2 (by omega)).trans A18_2
  have A20_3 : ad20 3 = q3 := (ha20 3 (by omega)).trans A18_3
  have A20_4 : ad20 4 = q4 := (ha20 4 (by omega)).trans A18_4
  have A20_5 : ad20 5 = q5 := (ha20 5 (by omega)).trans A18_5
  have A20_6 : ad20 6 = q6 := (ha20 6 (by omega)).trans A18_6
  have A20_7 : ad20 7 = q7 := (ha20 7 (by omega)).trans A18_7
  have E20_0 : en20 0 = .inr (4, [.ref q1, .ref q2, .ref q3, .int 0, .int 0, .int 0, .int 0]) := (he20 0 (by omega)).trans E19_0
  have E20_1 : en20 1 = .inl (g 0, 4, .inl (va_cpy fsT (fun _ => 0) 0 0 4)) := (he20 1 (by omega)).trans E19_1
  have E20_2 : en20 2 = .inl (g 3, 16, .inr (.inr (.inr (.inr (va_up (va_up (va_up (va_up (fun _ => none) 0 (some q4)) 1 (some q5)) 2 (some q6)) 3 (some q7)))))) := (he20 2 (by omega)).trans E19_2
  have E20_3 : en20 3 = .inl (g 0, 4, .inl (fun _ => 0)) := (he20 3 (by omega)).trans E19_3
  have E20_4 : en20 4 = .inr (0, [.int 0, .int 0, .int 0, .int 0, .int 0, .int 0, .int 0, .int 0]) := (he20 4 (by omega)).trans E19_4
  have E20_5 : en20 5 = .inr (0, [.int 0, .int 0, .int 0, .int 0, .int 0, .int 0, .int 0, .int 0]) := (he20 5 (by omega)).trans E19_5
  have E20_6 : en20 6 = .inr (0, [.int 0, .int 0, .int 0, .int 0, .int 0, .int 0, .int 0, .int 0]) := (he20 6 (by omega)).trans E19_6
  have E20_7 : en20 7 = .inr (0, [.int 0, .int 0, .int 0, .int 0, .int 0, .int 0, .int 0, .int 0]) := (he20 7 (by omega)).trans E19_7
  obtain ⟨q8, A20_8⟩ : ∃ z, ad20 8 = z := ⟨_, rfl⟩
  rw [A20_8]
  have E20_8 := hn20
  refine lv_dup hx hb dX4_init_56 rfl ?_
  refine o_initN (mm := 1) (rest := [.ref q8, .int 4, .ref q2]) hx hb hml hown hts hK hX hI hA hA0 A20_8 E20_8 (k_X0_init l dd g sz0 q8 H.size) ⟨va_cnB 0 hts gX4_init_X0_init_n33 rfl rfl rfl hX3 (hts (.initialized RX0) (by decide +kernel)) (by decide +kernel) ⟨Nat.le_of_ble_eq_true rfl, Nat.le_of_ble_eq_true rfl⟩, rfl, hts (.instanceMethod yX0_init) (by decide +kernel)⟩ hl (Nat.le_of_ble_eq_true rfl) ⟨Nat.le_of_ble_eq_true rfl, Nat.le_of_ble_eq_true rfl⟩ dX4_init_57 (fun ad21 en21 H locs ha21 hq21 he21 hn21 hI => ?_)
  have A21_0 : ad21 0 = b := (ha21 0 (by omega)).trans A20_0
  have A21_1 : ad21 1 = q1 := (ha21 1 (by omega)).trans A20_1
  have A21_2 : ad21 2 = q2 := (ha21 2 (by omega)).trans A20_2
  have A21_3 : ad21 3 = q3 := (ha21 3 (by omega)).trans A20_3
  have A21_4 : ad21 4 = q4 := (ha21 4 (by omega)).trans A20_4
  have A21_5 : ad21 5 = q5 := (ha21 5 (by omega)).trans A20_5
  have A21_6 : ad21 6 = q6 := (ha21 6 (by omega)).trans A20_6
  have A21_7 : ad21 7 = q7 := (ha21 7 (by omega)).trans A20_7
  have E21_0 : en21 0 = .inr (4, [.ref q1, .ref q2, .ref q3, .int 0, .int 0, .int 0, .int 0]) := (he21 0 (by omega)).trans E20_0
  have E21_1 : en21 1 = .inl (g 0, 4, .inl (va_cpy fsT (fun _ => 0) 0 0 4)) := (he21 1 (by omega)).trans E20_1
  have E21_2 : en21 2 = .inl (g 3, 16, .inr (.inr (.inr (.inr (va_up (va_up (va_up (va_up (fun _ => none) 0 (some q4)) 1 (some q5)) 2 (some q6)) 3 (some q7)))))) := (he21 2 (by omega)).trans E20_2
  have E21_3 : en21 3 = .inl (g 0, 4, .inl (fun _ => 0)) := (he21 3 (by omega)).trans E20_3
  have E21_4 : en21 4 = .inr (0, [.int 0, .int 0, .int 0, .int 0, .int 0, .int 0, .int 0, .int 0]) := (he21 4 (by omega)).trans E20_4
  have E21_5 : en21 5 = .inr (0, [.int 0, .int 0, .int 0, .int 0, .int 0, .int 0, .int 0, .int 0]) := (he21 5 (by omega)).trans E20_5
  have E21_6 : en21 6 = .inr (0, [.int 0, .int 0, .int 0, .int 0, .int 0, .int 0, .int 0, .int 0]) := (he21 6 (by omega)).trans E20_6
  have E21_7 : en21 7 = .inr (0, [.int 0, .int 0, .int 0, .int 0, .int 0, .int 0, .int 0, .int 0]) := (he21 7 (by omega)).trans E20_7
  have A21_8 : ad21 8 = q8 := hq21
  have E21_8 : en21 8 = .inr (0, [.int 0, .int 0, .int 0, .int 0, .int 0, .int 0, .int 0, .int 0]) := hn21 0
  refine o_astq (r := (RX0, TX0, 8)) hx hb hK hI 2 3 8 0 (by omega) (by omega) A21_2 A21_8 E21_2 rfl E21_8 rfl (by decide) 4 (by decide) rfl dX4_init_60 (fun en22 H locs he22 hn22 hI => ?_)
  have E22_0 : en22 0 = .inr (4, [.ref q1, .ref q2, .ref q3, .int 0, .int 0, .int 0, .int 0]) := (he22 0 (by omega)).trans E21_0
  have E22_1 : en22 1 = .inl (g 0, 4, .inl (va_cpy fsT (fun _ => 0) 0 0 4)) := (he22 1 (by omega)).trans E21_1
  have E22_3 : en22 3 = .inl (g 0, 4, .inl (fun _ => 0)) := (he22 3 (by omega)).trans E21_3
  have E22_4 : en22 4 = .inr (0, [.int 0, .int 0, .int 0, .int 0, .int 0, .int 0, .int 0, .int 0]) := (he22 4 (by omega)).trans E21_4
  have E22_5 : en22 5 = .inr (0, [.int 0, .int 0, .int 0, .int 0, .int 0, .int 0, .int 0, .int 0]) := (he22 5 (by omega)).trans E21_5
  have E22_6 : en22 6 = .inr (0, [.int 0, .int 0, .int 0, .int 0, .int 0, .int 0, .int 0, .int 0]) := (he22 6 (by omega)).trans E21_6
  have E22_7 : en22 7 = .inr (0, [.int 0, .int 0, .int 0, .int 0, .int 0, .int 0, .int 0, .int 0]) := (he22 7 (by omega)).trans E21_7
  have E22_8 : en22 8 = .inr (0, [.int 0, .int 0, .int 0, .int 0, .int 0, .int 0, .int 0, .int 0]) := (he22 8 (by omega)).trans E21_8
  have E22_2 : en22 2 = .inl (g 3, 16, .inr (.inr (.inr (.inr (va_up (va_up (va_up (va_up (va_up (fun _ => none) 0 (some q4)) 1 (some q5)) 2 (some q6)) 3 (some q7)) 4 (some q8)))))) := hn22
  refine lv_iinc (v := 5) (lv' := [(1, .int 5), (0, .ref b)]) hx hb dX4_init_61 hl (k := 0) rfl (by decide) (by decide) rfl (fun ls hl => ?_)
  refine lv_goto (tgt := 42) hx hb dX4_init_64 (by decide) ?_
  refine lv_iload_n hx hb dX4_init_42 rfl (lv_at hl 0 rfl) ?_
  refine lv_bipush (v := 16) hx hb dX4_init_43 (by decide) ?_
  refine lv_icmp_ge (tgt := 67) hx hb dX4_init_45 (by decide) (fun c6 => absurd c6 (by decide)) (fun _ => ?_)
  refine lv_aload_n hx hb dX4_init_48 rfl (lv_at hl 1 rfl) ?_
  refine o_get hx hb hts hinX4 hown hK hI 0 (by omega) A21_0 E22_0 (ci := 4) rfl 1 (by decide) (hts (.fieldLink RX4 17 "WinderLadders$State" "clocks" "[LWinderLadders$Clock;") (by decide +kernel)) (v := .ref q2) rfl dX4_init_49 ?_
  refine lv_iload_n hx hb dX4_init_52 rfl (lv_at hl 0 rfl) ?_
  refine o_new (fs := [.int 0, .int 0, .int 0, .int 0, .int 0, .int 0, .int 0, .int 0]) hx hb hts hinX0 tyX0 tyX0_ok hown (hts (.classLink RX4 15 RX0) (by decide +kernel)) (hts (.instantiable RX0 8) (by decide +kernel)) (hts (.initialized RX0) (by decide +kernel)) hK hI hA (ci := 0) rfl (by decide) (Nat.le_of_ble_eq_true rfl) (Nat.le_of_ble_eq_true rfl) dX4_init_53 (fun ad23 en23 H ha23 he23 hn23 hI => ?_)
  have A23_0 : ad23 0 = b := (ha23 0 (by omega)).trans A21_0
  have A23_1 : ad23 1 = q1 := (ha23 1 (by omega)).trans A21_1
  have A23_2 : ad23 2 = q2 := (ha23 2 (by omega)).trans A21_2
  have A23_3 : ad23 3 = q3 := (ha23 3 (by omega)).trans A21_3
  have A23_4 : ad23 4 = q4 := (ha23 4 (by omega)).trans A21_4
  have A23_5 : ad23 5 = q5 := (ha23 5 (by omega)).trans A21_5
  have A23_6 : ad23 6 = q6 := (ha23 6 (by omega)).trans A21_6
  have A23_7 : ad23 7 = q7 := (ha23 7 (by omega)).trans A21_7
  have A23_8 : ad23 8 = q8 := (ha23 8 (by omega)).trans A21_8
  have E23_0 : en23 0 = .inr (4, [.ref q1, .ref q2, .ref q3, .int 0, .int 0, .int 0, .int 0]) := (he23 0 (by omega)).trans E22_0
  have E23_1 : en23 1 = .inl (g 0, 4, .inl (va_cpy fsT (fun _ => 0) 0 0 4)) := (he23 1 (by omega)).trans E22_1
  have E23_2 : en23 2 = .inl (g 3, 16, .inr (.inr (.inr (.inr (va_up (va_up (va_up (va_up (va_up (fun _ => none) 0 (some q4)) 1 (some q5)) 2 (some q6)) 3 (some q7)) 4 (some q8)))))) := (he23 2 (by omega)).trans E22_2
  have E23_3 : en23 3 = .inl (g 0, 4, .inl (fun _ => 0)) := (he23 3 (by omega)).trans E22_3
  have E23_4 : en23 4 = .inr (0, [.int 0, .int 0, .int 0, .int 0, .int 0, .int 0, .int 0, .int 0]) := (he23 4 (by omega)).trans E22_4
  have E23_5 : en23 5 = .inr (0, [.int 0, .int 0, .int 0, .int 0, .int 0, .int 0, .int 0, .int 0]) := (he23 5 (by omega)).trans E22_5
  have E23_6 : en23 6 = .inr (0, [.int 0, .int 0, .int 0, .int 0, .int 0, .int 0, .int 0, .int 0]) := (he23 6 (by omega)).trans E22_6
  have E23_7 : en23 7 = .inr (0, [.int 0, .int 0, .int 0, .int 0, .int 0, .int 0, .int 0, .int 0]) := (he23 7 (by omega)).trans E22_7
  have E23_8 : en23 8 = .inr (0, [.int 0, .int 0, .int 0, .int 0, .int 0, .int 0, .int 0, .int 0]) := (he23 8 (by omega)).trans E22_8
  obtain ⟨q9, A23_9⟩ : ∃ z, ad23 9 = z := ⟨_, rfl⟩
  rw [A23_9]
  have E23_9 := hn23
  refine lv_dup hx hb dX4_init_56 rfl ?_
  refine o_initN (mm := 1) (rest := [.ref q9, .int 5, .ref q2]) hx hb hml hown hts hK hX hI hA hA0 A23_9 E23_9 (k_X0_init l dd g sz0 q9 H.size) ⟨va_cnB 0 hts gX4_init_X0_init_n33 rfl rfl rfl hX3 (hts (.initialized RX0) (by decide +kernel)) (by decide +kernel) ⟨Nat.le_of_ble_eq_true rfl, Nat.le_of_ble_eq_true rfl⟩, rfl, hts (.instanceMethod yX0_init) (by decide +kernel)⟩ hl (Nat.le_of_ble_eq_true rfl) ⟨Nat.le_of_ble_eq_true rfl, Nat.le_of_ble_eq_true rfl⟩ dX4_init_57 (fun ad24 en24 H locs ha24 hq24 he24 hn24 hI => ?_)
  have A24_0 : ad24 0 = b := (ha24 0 (by omega)).trans A23_0
  have A24_1 : ad24 1 = q1 := (ha24 1 (by omega)).trans A23_1
  have A24_2 : ad24 2 = q2 := (ha24 2 (by omega)).trans A23_2
  have A24_3 : ad24 3 = q3 := (ha24 3 (by omega)).trans A23_3
  have A24_4 : ad24 4 = q4 := (ha24 4 (by omega)).trans A23_4
  have A24_5 : ad24 5 = q5 := (ha24 5 (by omega)).trans A23_5
  have A24_6 : ad24 6 = q6 := (ha24 6 (by omega)).trans A23_6
  have A24_7 : ad24 7 = q7 := (ha24 7 (by omega)).trans A23_7
  have A24_8 : ad24 8 = q8 := (ha24 8 (by omega)).trans A23_8
  have E24_0 : en24 0 = .inr (4, [.ref q1, .ref q2, .ref q3, .int 0, .int 0, .int 0, .int 0]) := (he24 0 (by omega)).trans E23_0
  have E24_1 : en24 1 = .inl (g 0, 4, .inl (va_cpy fsT (fun _ => 0) 0 0 4)) := (he24 1 (by omega)).trans E23_1
  have E24_2 : en24 2 = .inl (g 3, 16, .inr (.inr (.inr (.inr (va_up (va_up (va_up (va_up (va_up (fun _ => none) 0 (some q4)) 1 (some q5)) 2 (some q6)) 3 (some q7)) 4 (some q8)))))) := (he24 2 (by omega)).trans E23_2
  have E24_3 : en24 3 = .inl (g 0, 4, .inl (fun _ => 0)) := (he24 3 (by omega)).trans E23_3
  have E24_4 : en24 4 = .inr (0, [.int 0, .int 0, .int 0, .int 0, .int 0, .int 0, .int 0, .int 0]) := (he24 4 (by omega)).trans E23_4
  have E24_5 : en24 5 = .inr (0, [.int 0, .int 0, .int 0, .int 0, .int 0, .int 0, .int 0, .int 0]) := (he24 5 (by omega)).trans E23_5
  have E24_6 : en24 6 = .inr (0, [.int 0, .int 0, .int 0, .int 0, .int 0, .int 0, .int 0, .int 0]) := (he24 6 (by omega)).trans E23_6
  have E24_7 : en24 7 = .inr (0, [.int 0, .int 0, .int 0, .int 0, .int 0, .int 0, .int 0, .int 0]) := (he24 7 (by omega)).trans E23_7
  have E24_8 : en24 8 = .inr (0, [.int 0, .int 0, .int 0, .int 0, .int 0, .int 0, .int 0, .int 0]) := (he24 8 (by omega)).trans E23_8
  have A24_9 : ad24 9 = q9 := hq24
  have E24_9 : en24 9 = .inr (0, [.int 0, .int 0, .int 0, .int 0, .int 0, .int 0, .int 0, .int 0]) := hn24 0
  refine o_astq (r := (RX0, TX0, 8)) hx hb hK hI 2 3 9 0 (by omega) (by omega) A24_2 A24_9 E24_2 rfl E24_9 rfl (by decide) 5 (by decide) rfl dX4_init_60 (fun en25 H locs he25 hn25 hI => ?_)
  have E25_0 : en25 0 = .inr (4, [.ref q1, .ref q2, .ref q3, .int 0, .int 0, .int 0, .int 0]) := (he25 0 (by omega)).trans E24_0
  have E25_1 : en25 1 = .inl (g 0, 4, .inl (va_cpy fsT (fun _ => 0) 0 0 4)) := (he25 1 (by omega)).trans E24_1
  have E25_3 : en25 3 = .inl (g 0, 4, .inl (fun _ => 0)) := (he25 3 (by omega)).trans E24_3
  have E25_4 : en25 4 = .inr (0, [.int 0, .int 0, .int 0, .int 0, .int 0, .int 0, .int 0, .int 0]) := (he25 4 (by omega)).trans E24_4
  have E25_5 : en25 5 = .inr (0, [.int 0, .int 0, .int 0, .int 0, .int 0, .int 0, .int 0, .int 0]) := (he25 5 (by omega)).trans E24_5
  have E25_6 : en25 6 = .inr (0, [.int 0, .int 0, .int 0, .int 0, .int 0, .int 0, .int 0, .int 0]) := (he25 6 (by omega)).trans E24_6
  have E25_7 : en25 7 = .inr (0, [.int 0, .int 0, .int 0, .int 0, .int 0, .int 0, .int 0, .int 0]) := (he25 7 (by omega)).trans E24_7
  have E25_8 : en25 8 = .inr (0, [.int 0, .int 0, .int 0, .int 0, .int 0, .int 0, .int 0, .int 0]) := (he25 8 (by omega)).trans E24_8
  have E25_9 : en25 9 = .inr (0, [.int 0, .int 0, .int 0, .int 0, .int 0, .int 0, .int 0, .int 0]) := (he25 9 (by omega)).trans E24_9
  have E25_2 : en25 2 = .inl (g 3, 16, .inr (.inr (.inr (.inr (va_up (va_up (va_up (va_up (va_up (va_up (fun _ => none) 0 (some q4)) 1 (some q5)) 2 (some q6)) 3 (some q7)) 4 (some q8)) 5 (some q9)))))) := hn25
  refine lv_iinc (v := 6) (lv' := [(1, .int 6), (0, .ref b)]) hx hb dX4_init_61 hl (k := 0) rfl (by decide) (by decide) rfl (fun ls hl => ?_)
  refine lv_goto (tgt := 42) hx hb dX4_init_64 (by decide) ?_
  refine lv_iload_n hx hb dX4_init_42 rfl (lv_at hl 0 rfl) ?_
  refine lv_bipush (v := 16) hx hb dX4_init_43 (by decide) ?_
  refine lv_icmp_ge (tgt := 67) hx hb dX4_init_45 (by decide) (fun c7 => absurd c7 (by decide)) (fun _ => ?_)
  refine lv_aload_n hx hb dX4_init_48 rfl (lv_at hl 1 rfl) ?_
  refine o_get hx hb hts hinX4 hown hK hI 0 (by omega) A24_0 E25_0 (ci := 4) rfl 1 (by decide) (hts (.fieldLink RX4 17 "WinderLadders$State" "clocks" "[LWinderLadders$Clock;") (by decide +kernel)) (v := .ref q2) rfl dX4_init_49 ?_
  refine lv_iload_n hx hb dX4_init_52 rfl (lv_at hl 0 rfl) ?_
  refine o_new (fs := [.int 0, .int 0, .int 0, .int 0, .int 0, .int 0, .int 0, .int 0]) hx hb hts hinX0 tyX0 tyX0_ok hown (hts (.classLink RX4 15 RX0) (by decide +kernel)) (hts (.instantiable RX0 8) (by decide +kernel)) (hts (.initialized RX0) (by decide +kernel)) hK hI hA (ci := 0) rfl (by decide) (Nat.le_of_ble_eq_true rfl) (Nat.le_of_ble_eq_true rfl) dX4_init_53 (fun ad26 en26 H ha26 he26 hn26 hI => ?_)
  have A26_0 : ad26 0 = b := (ha26 0 (by omega)).trans A24_0
  have A26_1 : ad26 1 = q1 := (ha26 1 (by omega)).trans A24_1
  have A26_2 : ad26 2 = q2 := (ha26 2 (by omega)).trans A24_2
  have A26_3 : ad26 3 = q3 := (ha26 3 (by omega)).trans A24_3
  have A26_4 : ad26 4 = q4 := (ha26 4 (by omega)).trans A24_4
  have A26_5 : ad26 5 = q5 := (ha26 5 (by omega)).trans A24_5
  have A26_6 : ad26 6 = q6 := (ha26 6 (by omega)).trans A24_6
  have A26_7 : ad26 7 = q7 := (ha26 7 (by omega)).trans A24_7
  have A26_8 : ad26 8 = q8 := (ha26 8 (by omega)).trans A24_8
  have A26_9 : ad26 9 = q9 := (ha26 9 (by omega)).trans A24_9
  have E26_0 : en26 0 = .inr (4, [.ref q1, .ref q2, .ref q3, .int 0, .int 0, .int 0, .int 0]) := (he26 0 (by omega)).trans E25_0
  have E26_1 : en26 1 = .inl (g 0, 4, .inl (va_cpy fsT (fun _ => 0) 0 0 4)) := (he26 1 (by omega)).trans E25_1
  have E26_2 : en26 2 = .inl (g 3, 16, .inr (.inr (.inr (.inr (va_up (va_up (va_up (va_up (va_up (va_up (fun _ => none) 0 (some q4)) 1 (some q5)) 2 (some q6)) 3 (some q7)) 4 (some q8)) 5 (some q9)))))) := (he26 2 (by omega)).trans E25_2
  have E26_3 : en26 3 = .inl (g 0, 4, .inl (fun _ => 0)) := (he26 3 (by omega)).trans E25_3
  have E26_4 : en26 4 = .inr (0, [.int 0, .int 0, .int 0, .int 0, .int 0, .int 0, .int 0, .int 0]) := (he26 4 (by omega)).trans E25_4
  have E26_5 : en26 5 = .inr (0, [.int 0, .int 0, .int 0, .int 0, .int 0, .int 0, .int 0, .int 0]) := (he26 5 (by omega)).trans E25_5
  have E26_6 : en26 6 = .inr (0, [.int 0, .int 0, .int 0, .int 0, .int 0, .int 0, .int 0, .int 0]) := (he26 6 (by omega)).trans E25_6
  have E26_7 : en26 7 = .inr (0, [.int 0, .int 0, .int 0, .int 0, .int 0, .int 0, .int 0, .int 0]) := (he26 7 (by omega)).trans E25_7
  have E26_8 : en26 8 = .inr (0, [.int 0, .int 0, .int 0, .int 0, .int 0, .int 0, .int 0, .int 0]) := (he26 8 (by omega)).trans E25_8
  have E26_9 : en26 9 = .inr (0, [.int 0, .int 0, .int 0, .int 0, .int 0, .int 0, .int 0, .int 0]) := (he26 9 (by omega)).trans E25_9
  obtain ⟨q10, A26_10⟩ : ∃ z, ad26 10 = z := ⟨_, rfl⟩
  rw [A26_10]
  have E26_10 := hn26
  refine lv_dup hx hb dX4_init_56 rfl ?_
  refine o_initN (mm := 1) (rest := [.ref q10, .int 6, .ref q2]) hx hb hml hown hts hK hX hI hA hA0 A26_10 E26_10 (k_X0_init l dd g sz0 q10 H.size) ⟨va_cnB 0 hts gX4_init_X0_init_n33 rfl rfl rfl hX3 (hts (.initialized RX0) (by decide +kernel)) (by decide +kernel) ⟨Nat.le_of_ble_eq_true rfl, Nat.le_of_ble_eq_true rfl⟩, rfl, hts (.instanceMethod yX0_init) (by decide +kernel)⟩ hl (Nat.le_of_ble_eq_true rfl) ⟨Nat.le_of_ble_eq_true rfl, Nat.le_of_ble_eq_true rfl⟩ dX4_init_57 (fun ad27 en27 H locs ha27 hq27 he27 hn27 hI => ?_)
  have A27_0 : ad27 0 = b := (ha27 0 (by omega)).trans A26_0
  have A27_1 : ad27 1 = q1 := (ha27 1 (by omega)).trans A26_1
  have A27_2 : ad27 2 = q2 := (ha27 2 (by omega)).trans A26_2
  have A27_3 : ad27 3 = q3 := (ha27 3 (by omega)).trans A26_3
  have A27_4 : ad27 4 = q4 := (ha27 4 (by omega)).trans A26_4
  have A27_5 : ad27 5 = q5 := (ha27 5 (by omega)).trans A26_5
  have A27_6 : ad27 6 = q6 := (ha27 6 (by omega)).trans A26_6
  have A27_7 : ad27 7 = q7 := (ha27 7 (by omega)).trans A26_7
  have A27_8 : ad27 8 = q8 := (ha27 8 (by omega)).trans A26_8
  have A27_9 : ad27 9 = q9 := (ha27 9 (by omega)).trans A26_9
  have E27_0 : en27 0 = .inr (4, [.ref q1, .ref q2, .ref q3, .int 0, .int 0, .int 0, .int 0]) := (he27 0 (by omega)).trans E26_0
  have E27_1 : en27 1 = .inl (g 0, 4, .inl (va_cpy fsT (fun _ => 0) 0 0 4)) := (he27 1 (by omega)).trans E26_1
  have E27_2 : en27 2 = .inl (g 3, 16, .inr (.inr (.inr (.inr (va_up (va_up (va_up (va_up (va_up (va_up (fun _ => none) 0 (some q4)) 1 (some q5)) 2 (some q6)) 3 (some q7)) 4 (some q8)) 5 (some q9)))))) := (he27 2 (by omega)).trans E26_2
  have E27_3 : en27 3 = .inl (g 0, 4, .inl (fun _ => 0)) := (he27 3 (by omega)).trans E26_3
  have E27_4 : en27 4 = .inr (0, [.int 0, .int 0, .int 0, .int 0, .int 0, .int 0, .int 0, .int 0]) := (he27 4 (by omega)).trans E26_4
  have E27_5 : en27 5 = .inr (0, [.int 0, .int 0, .int 0, .int 0, .int 0, .int 0, .int 0, .int 0]) := (he27 5 (by omega)).trans E26_5
  have E27_6 : en27 6 = .inr (0, [.int 0, .int 0, .int 0, .int 0, .int 0, .int 0, .int 0, .int 0]) := (he27 6 (by omega)).trans E26_6
  have E27_7 : en27 7 = .inr (0, [.int 0, .int 0, .int 0, .int 0, .int 0, .int 0, .int 0, .int 0]) := (he27 7 (by omega)).trans E26_7
  have E27_8 : en27 8 = .inr (0, [.int 0, .int 0, .int 0, .int 0, .int 0, .int 0, .int 0, .int 0]) := (he27 8 (by omega)).trans E26_8
  have E27_9 : en27 9 = .inr (0, [.int 0, .int 0, .int 0, .int 0, .int 0, .int 0, .int 0, .int 0]) := (he27 9 (by omega)).trans E26_9
  have A27_10 : ad27 10 = q10 := hq27
  have E27_10 : en27 10 = .inr (0, [.int 0, .int 0, .int 0, .int 0, .int 0, .int 0, .int 0, .int 0]) := hn27 0
  refine o_astq (r := (RX0, TX0, 8)) hx hb hK hI 2 3 10 0 (by omega) (by omega) A27_2 A27_10 E27_2 rfl E27_10 rfl (by decide) 6 (by decide) rfl dX4_init_60 (fun en28 H locs he28 hn28 hI => ?_)
  have E28_0 : en28 0 = .inr (4, [.ref q1, .ref q2, .ref q3, .int 0, .int 0, .int 0, .int 0]) := (he28 0 (by omega)).trans E27_0
  have E28_1 : en28 1 = .inl (g 0, 4, .inl (va_cpy fsT (fun _ => 0) 0 0 4)) := (he28 1 (by omega)).trans E27_1
  have E28_3 : en28 3 = .inl (g 0, 4, .inl (fun _ => 0)) := (he28 3 (by omega)).trans E27_3
  have E28_4 : en28 4 = .inr (0, [.int 0, .int 0, .int 0, .int 0, .int 0, .int 0, .int 0, .int 0]) := (he28 4 (by omega)).trans E27_4
  have E28_5 : en28 5 = .inr (0, [.int 0, .int 0, .int 0, .int 0, .int 0, .int 0, .int 0, .int 0]) := (he28 5 (by omega)).trans E27_5
  have E28_6 : en28 6 = .inr (0, [.int 0, .int 0, .int 0, .int 0, .int 0, .int 0, .int 0, .int 0]) := (he28 6 (by omega)).trans E27_6
  have E28_7 : en28 7 = .inr (0, [.int 0, .int 0, .int 0, .int 0, .int 0, .int 0, .int 0, .int 0]) := (he28 7 (by omega)).trans E27_7
  have E28_8 : en28 8 = .inr (0, [.int 0, .int 0, .int 0, .int 0, .int 0, .int 0, .int 0, .int 0]) := (he28 8 (by omega)).trans E27_8
  have E28_9 : en28 9 = .inr (0, [.int 0, .int 0, .int 0, .int 0, .int 0, .int 0, .int 0, .int 0]) := (he28 9 (by omega)).trans E27_9
  have E28_10 : en28 10 = .inr (0, [.int 0, .int 0, .int 0, .int 0, .int 0, .int 0, .int 0, .int 0]) := (he28 10 (by omega)).trans E27_10
  have E28_2 : en28 2 = .inl (g 3, 16, .inr (.inr (.inr (.inr (va_up (va_up (va_up (va_up (va_up (va_up (va_up (fun _ => none) 0 (some q4)) 1 (some q5)) 2 (some q6)) 3 (some q7)) 4 (some q8)) 5 (some q9)) 6 (some q10)))))) := hn28
  refine lv_iinc (v := 7) (lv' := [(1, .int 7), (0, .ref b)]) hx hb dX4_init_61 hl (k := 0) rfl (by decide) (by decide) rfl (fun ls hl => ?_)
  refine lv_goto (tgt := 42) hx hb dX4_init_64 (by decide) ?_
  refine lv_iload_n hx hb dX4_init_42 rfl (lv_at hl 0 rfl) ?_
  refine lv_bipush (v := 16) hx hb dX4_init_43 (by decide) ?_
  refine lv_icmp_ge (tgt := 67) hx hb dX4_init_45 (by decide) (fun c8 => absurd c8 (by decide)) (fun _ => ?_)
  refine lv_aload_n hx hb dX4_init_48 rfl (lv_at hl 1 rfl) ?_
  refine o_get hx hb hts hinX4 hown hK hI 0 (by omega) A27_0 E28_0 (ci := 4) rfl 1 (by decide) (hts (.fieldLink RX4 17 "WinderLadders$State" "clocks" "[LWinderLadders$Clock;") (by decide +kernel)) (v := .ref q2) rfl dX4_init_49 ?_
  refine lv_iload_n hx hb dX4_init_52 rfl (lv_at hl 0 rfl) ?_
  refine o_new (fs := [.int 0, .int 0, .int 0, .int 0, .int 0, .int 0, .int 0, .int 0]) hx hb hts hinX0 tyX0 tyX0_ok hown (hts (.classLink RX4 15 RX0) (by decide +kernel)) (hts (.instantiable RX0 8) (by decide +kernel)) (hts (.initialized RX0) (by decide +kernel)) hK hI hA (ci := 0) rfl (by decide) (Nat.le_of_ble_eq_true rfl) (Nat.le_of_ble_eq_true rfl) dX4_init_53 (fun ad29 en29 H ha29 he29 hn29 hI => ?_)
  have A29_0 : ad29 0 = b := (ha29 0 (by omega)).trans A27_0
  have A29_1 : ad29 1 = q1 := (ha29 1 (by omega)).trans A27_1
  have A29_2 : ad29 2 = q2 := (ha29 2 (by omega)).trans A27_2
  have A29_3 : ad29 3 = q3 := (ha29 3 (by omega)).trans A27_3
  have A29_4 : ad29 4 = q4 := (ha29 4 (by omega)).trans A27_4
  have A29_5 : ad29 5 = q5 := (ha29 5 (by omega)).trans A27_5
  have A29_6 : ad29 6 = q6 := (ha29 6 (by omega)).trans A27_6
  have A29_7 : ad29 7 = q7 := (ha29 7 (by omega)).trans A27_7
  have A29_8 : ad29 8 = q8 := (ha29 8 (by omega)).trans A27_8
  have A29_9 : ad29 9 = q9 := (ha29 9 (by omega)).trans A27_9
  have A29_10 : ad29 10 = q10 := (ha29 10 (by omega)).trans A27_10
  have E29_0 : en29 0 = .inr (4, [.ref q1, .ref q2, .ref q3, .int 0, .int 0, .int 0, .int 0]) := (he29 0 (by omega)).trans E28_0
  have E29_1 : en29 1 = .inl (g 0, 4, .inl (va_cpy fsT (fun _ => 0) 0 0 4)) := (he29 1 (by omega)).trans E28_1
  have E29_2 : en29 2 = .inl (g 3, 16, .inr (.inr (.inr (.inr (va_up (va_up (va_up (va_up (va_up (va_up (va_up (fun _ => none) 0 (some q4)) 1 (some q5)) 2 (some q6)) 3 (some q7)) 4 (some q8)) 5 (some q9)) 6 (some q10)))))) := (he29 2 (by omega)).trans E28_2
  have E29_3 : en29 3 = .inl (g 0, 4, .inl (fun _ => 0)) := (he29 3 (by omega)).trans E28_3
  have E29_4 : en29 4 = .inr (0, [.int 0, .int 0, .int 0, .int 0, .int 0, .int 0, .int 0, .int 0]) := (he29 4 (by omega)).trans E28_4
  have E29_5 : en29 5 = .inr (0, [.int 0, .int 0, .int 0, .int 0, .int 0, .int 0, .int 0, .int 0]) := (he29 5 (by omega)).trans E28_5
  have E29_6 : en29 6 = .inr (0, [.int 0, .int 0, .int 0, .int 0, .int 0, .int 0, .int 0, .int 0]) := (he29 6 (by omega)).trans E28_6
  have E29_7 : en29 7 = .inr (0, [.int 0, .int 0, .int 0, .int 0, .int 0, .int 0, .int 0, .int 0]) := (he29 7 (by omega)).trans E28_7
  have E29_8 : en29 8 = .inr (0, [.int 0, .int 0, .int 0, .int 0, .int 0, .int 0, .int 0, .int 0]) := (he29 8 (by omega)).trans E28_8
  have E29_9 : en29 9 = .inr (0, [.int 0, .int 0, .int 0, .int 0, .int 0, .int 0, .int 0, .int 0]) := (he29 9 (by omega)).trans E28_9
  have E29_10 : en29 10 = .inr (0, [.int 0, .int 0, .int 0, .int 0, .int 0, .int 0, .int 0, .int 0]) := (he29 10 (by omega)).trans E28_10
  obtain ⟨q11, A29_11⟩ : ∃ z, ad29 11 = z := ⟨_, rfl⟩
  rw [A29_11]
  have E29_11 := hn29
  refine lv_dup hx hb dX4_init_56 rfl ?_
  refine o_initN (mm := 1) (rest := [.ref q11, .int 7, .ref q2]) hx hb hml hown hts hK hX hI hA hA0 A29_11 E29_11 (k_X0_init l dd g sz0 q11 H.size) ⟨va_cnB 0 hts gX4_init_X0_init_n33 rfl rfl rfl hX3 (hts (.initialized RX0) (by decide +kernel)) (by decide +kernel) ⟨Nat.le_of_ble_eq_true rfl, Nat.le_of_ble_eq_true rfl⟩, rfl, hts (.instanceMethod yX0_init) (by decide +kernel)⟩ hl (Nat.le_of_ble_eq_true rfl) ⟨Nat.le_of_ble_eq_true rfl, Nat.le_of_ble_eq_true rfl⟩ dX4_init_57 (fun ad30 en30 H locs ha30 hq30 he30 hn30 hI => ?_)
  have A30_0 : ad30 0 = b := (ha30 0 (by omega)).trans A29_0
  have A30_1 : ad30 1 = q1 := (ha30 1 (by omega)).trans A29_1
  have A30_2 : ad30 2 = q2 := (ha30 2 (by omega)).trans A29_2
  have A30_3 : ad30 3 = q3 := (ha30 3 (by omega)).trans A29_3
  have A30_4 : ad30 4 = q4 := (ha30 4 (by omega)).trans A29_4
  have A30_5 : ad30 5 = q5 := (ha30 5 (by omega)).trans A29_5
  have A30_6 : ad30 6 = q6 := (ha30 6 (by omega)).trans A29_6
  have A30_7 : ad30 7 = q7 := (ha30 7 (by omega)).trans A29_7
  have A30_8 : ad30 8 = q8 := (ha30 8 (by omega)).trans A29_8
  have A30_9 : ad30 9 = q9 := (ha30 9 (by omega)).trans A29_9
  have A30_10 : ad30 10 = q10 := (ha30 10 (by omega)).trans A29_10
  have E30_0 : en30 0 = .inr (4, [.ref q1, .ref q2, .ref q3, .int 0, .int 0, .int 0, .int 0]) := (he30 0 (by omega)).trans E29_0
  have E30_1 : en30 1 = .inl (g 0, 4, .inl (va_cpy fsT (fun _ => 0) 0 0 4)) := (he30 1 (by omega)).trans E29_1
  have E30_2 : en30 2 = .inl (g 3, 16, .inr (.inr (.inr (.inr (va_up (va_up (va_up (va_up (va_up (va_up (va_up (fun _ => none) 0 (some q4)) 1 (some q5)) 2 (some q6)) 3 (some q7)) 4 (some q8)) 5 (some q9)) 6 (some q10)))))) := (he30 2 (by omega)).trans E29_2
  have E30_3 : en30 3 = .inl (g 0, 4, .inl (fun _ => 0)) := (he30 3 (by omega)).trans E29_3
  have E30_4 : en30 4 = .inr (0, [.int 0, .int 0, .int 0, .int 0, .int 0, .int 0, .int 0, .int 0]) := (he30 4 (by omega)).trans E29_4
  have E30_5 : en30 5 = .inr (0, [.int 0, .int 0, .int 0, .int 0, .int 0, .int 0, .int 0, .int 0]) := (he30 5 (by omega)).trans E29_5
  have E30_6 : en30 6 = .inr (0, [.int 0, .int 0, .int 0, .int 0, .int 0, .int 0, .int 0, .int 0]) := (he30 6 (by omega)).trans E29_6
  have E30_7 : en30 7 = .inr (0, [.int 0, .int 0, .int 0, .int 0, .int 0, .int 0, .int 0, .int 0]) := (he30 7 (by omega)).trans E29_7
  have E30_8 : en30 8 = .inr (0, [.int 0, .int 0, .int 0, .int 0, .int 0, .int 0, .int 0, .int 0]) := (he30 8 (by omega)).trans E29_8
  have E30_9 : en30 9 = .inr (0, [.int 0, .int 0, .int 0, .int 0, .int 0, .int 0, .int 0, .int 0]) := (he30 9 (by omega)).trans E29_9
  have E30_10 : en30 10 = .inr (0, [.int 0, .int 0, .int 0, .int 0, .int 0, .int 0, .int 0, .int 0]) := (he30 10 (by omega)).trans E29_10
  have A30_11 : ad30 11 = q11 := hq30
  have E30_11 : en30 11 = .inr (0, [.int 0, .int 0, .int 0, .int 0, .int 0, .int 0, .int 0, .int 0]) := hn30 0
  refine o_astq (r := (RX0, TX0, 8)) hx hb hK hI 2 3 11 0 (by omega) (by omega) A30_2 A30_11 E30_2 rfl E30_11 rfl (by decide) 7 (by decide) rfl dX4_init_60 (fun en31 H locs he31 hn31 hI => ?_)
  have E31_0 : en31 0 = .inr (4, [.ref q1, .ref q2, .ref q3, .int 0, .int 0, .int 0, .int 0]) := (he31 0 (by omega)).trans E30_0
  have E31_1 : en31 1 = .inl (g 0, 4, .inl (va_cpy fsT (fun _ => 0) 0 0 4)) := (he31 1 (by omega)).trans E30_1
  have E31_3 : en31 3 = .inl (g 0, 4, .inl (fun _ => 0)) := (he31 3 (by omega)).trans E30_3
  have E31_4 : en31 4 = .inr (0, [.int 0, .int 0, .int 0, .int 0, .int 0, .int 0, .int 0, .int 0]) := (he31 4 (by omega)).trans E30_4
  have E31_5 : en31 5 = .inr (0, [.int 0, .int 0, .int 0, .int 0, .int 0, .int 0, .int 0, .int 0]) := (he31 5 (by omega)).trans E30_5
  have E31_6 : en31 6 = .inr (0, [.int 0, .int 0, .int 0, .int 0, .int 0, .int 0, .int 0, .int 0]) := (he31 6 (by omega)).trans E30_6
  have E31_7 : en31 7 = .inr (0, [.int 0, .int 0, .int 0, .int 0, .int 0, .int 0, .int 0, .int 0]) := (he31 7 (by omega)).trans E30_7
  have E31_8 : en31 8 = .inr (0, [.int 0, .int 0, .int 0, .int 0, .int 0, .int 0, .int 0, .int 0]) := (he31 8 (by omega)).trans E30_8
  have E31_9 : en31 9 = .inr (0, [.int 0, .int 0, .int 0, .int 0, .int 0, .int 0, .int 0, .int 0]) := (he31 9 (by omega)).trans E30_9
  have E31_10 : en31 10 = .inr (0, [.int 0, .int 0, .int 0, .int 0, .int 0, .int 0, .int 0, .int 0]) := (he31 10 (by omega)).trans E30_10
  have E31_11 : en31 11 = .inr (0, [.int 0, .int 0, .int 0, .int 0, .int 0, .int 0, .int 0, .int 0]) := (he31 11 (by omega)).trans E30_11
  have E31_2 : en31 2 = .inl (g 3, 16, .inr (.inr (.inr (.inr (va_up (va_up (va_up (va_up (va_up (va_up (va_up (va_up (fun _ => none) 0 (some q4)) 1 (some q5)) 2 (some q6)) 3 (some q7)) 4 (some q8)) 5 (some q9)) 6 (some q10)) 7 (some q11)))))) := hn31
  refine lv_iinc (v := 8) (lv' := [(1, .int 8), (0, .ref b)]) hx hb dX4_init_61 hl (k := 0) rfl (by decide) (by decide) rfl (fun ls hl => ?_)
  refine lv_goto (tgt := 42) hx hb dX4_init_64 (by decide) ?_
  refine lv_iload_n hx hb dX4_init_42 rfl (lv_at hl 0 rfl) ?_
  refine lv_bipush (v := 16) hx hb dX4_init_43 (by decide) ?_
  refine lv_icmp_ge (tgt := 67) hx hb dX4_init_45 (by decide) (fun c9 => absurd c9 (by decide)) (fun _ => ?_)
  refine lv_aload_n hx hb dX4_init_48 rfl (lv_at hl 1 rfl) ?_
  refine o_get hx hb hts hinX4 hown hK hI 0 (by omega) A30_0 E31_0 (ci := 4) rfl 1 (by decide) (hts (.fieldLink RX4 17 "WinderLadders$State" "clocks" "[LWinderLadders$Clock;") (by decide +kernel)) (v := .ref q2) rfl dX4_init_49 ?_
  refine lv_iload_n hx hb dX4_init_52 rfl (lv_at hl 0 rfl) ?_
  refine o_new (fs := [.int 0, .int 0, .int 0, .int 0, .int 0, .int 0, .int 0, .int 0]) hx hb hts hinX0 tyX0 tyX0_ok hown (hts (.classLink RX4 15 RX0) (by decide +kernel)) (hts (.instantiable RX0 8) (by decide +kernel)) (hts (.initialized RX0) (by decide +kernel)) hK hI hA (ci := 0) rfl (by decide) (Nat.le_of_ble_eq_true rfl) (Nat.le_of_ble_eq_true rfl) dX4_init_53 (fun ad32 en32 H ha32 he32 hn32 hI => ?_)
  have A32_0 : ad32 0 = b := (ha32 0 (by omega)).trans A30_0
  have A32_1 : ad32 1 = q1 := (ha32 1 (by omega)).trans A30_1
  have A32_2 : ad32 2 = q2 := (ha32 2 (by omega)).trans A30_2
  have A32_3 : ad32 3 = q3 := (ha32 3 (by omega)).trans A30_3
  have A32_4 : ad32 4 = q4 := (ha32 4 (by omega)).trans A30_4
  have A32_5 : ad32 5 = q5 := (ha32 5 (by omega)).trans A30_5
  have A32_6 : ad32 6 = q6 := (ha32 6 (by omega)).trans A30_6
  have A32_7 : ad32 7 = q7 := (ha32 7 (by omega)).trans A30_7
  have A32_8 : ad32 8 = q8 := (ha32 8 (by omega)).trans A30_8
  have A32_9 : ad32 9 = q9 := (ha32 9 (by omega)).trans A30_9
  have A32_10 : ad32 10 = q10 := (ha32 10 (by omega)).trans A30_10
  have A32_11 : ad32 11 = q11 := (ha32 11 (by omega)).trans A30_11
  have E32_0 : en32 0 = .inr (4, [.ref q1, .ref q2, .ref q3, .int 0, .int 0, .int 0, .int 0]) := (he32 0 (by omega)).trans E31_0
  have E32_1 : en32 1 = .inl (g 0, 4, .inl (va_cpy fsT (fun _ => 0) 0 0 4)) := (he32 1 (by omega)).trans E31_1
  have E32_2 : en32 2 = .inl (g 3, 16, .inr (.inr (.inr (.inr (va_up (va_up (va_up (va_up (va_up (va_up (va_up (va_up (fun _ => none) 0 (some q4)) 1 (some q5)) 2 (some q6)) 3 (some q7)) 4 (some q8)) 5 (some q9)) 6 (some q10)) 7 (some q11)))))) := (he32 2 (by omega)).trans E31_2
  have E32_3 : en32 3 = .inl (g 0, 4, .inl (fun _ => 0)) := (he32 3 (by omega)).trans E31_3
  have E32_4 : en32 4 = .inr (0, [.int 0, .int 0, .int 0, .int 0, .int 0, .int 0, .int 0, .int 0]) := (he32 4 (by omega)).trans E31_4
  have E32_5 : en32 5 = .inr (0, [.int 0, .int 0, .int 0, .int 0, .int 0, .int 0, .int 0, .int 0]) := (he32 5 (by omega)).trans E31_5
  have E32_6 : en32 6 = .inr (0, [.int 0, .int 0, .int 0, .int 0, .int 0, .int 0, .int 0, .int 0]) := (he32 6 (by omega)).trans E31_6
  have E32_7 : en32 7 = .inr (0, [.int 0, .int 0, .int 0, .int 0, .int 0, .int 0, .int 0, .int 0]) := (he32 7 (by omega)).trans E31_7
  have E32_8 : en32 8 = .inr (0, [.int 0, .int 0, .int 0, .int 0, .int 0, .int 0, .int 0, .int 0]) := (he32 8 (by omega)).trans E31_8
  have E32_9 : en32 9 = .inr (0, [.int 0, .int 0, .int 0, .int 0, .int 0, .int 0, .int 0, .int 0]) := (he32 9 (by omega)).trans E31_9
  have E32_10 : en32 10 = .inr (0, [.int 0, .int 0, .int 0, .int 0, .int 0, .int 0, .int 0, .int 0]) := (he32 10 (by omega)).trans E31_10
  have E32_11 : en32 11 = .inr (0, [.int 0, .int 0, .int 0, .int 0, .int 0, .int 0, .int 0, .int 0]) := (he32 11 (by omega)).trans E31_11
  obtain ⟨q12, A32_12⟩ : ∃ z, ad32 12 = z := ⟨_, rfl⟩
  rw [A32_12]
  have E32_12 := hn32
  refine lv_dup hx hb dX4_init_56 rfl ?_
  refine o_initN (mm := 1) (rest := [.ref q12, .int 8, .ref q2]) hx hb hml hown hts hK hX hI hA hA0 A32_12 E32_12 (k_X0_init l dd g sz0 q12 H.size) ⟨va_cnB 0 hts gX4_init_X0_init_n33 rfl rfl rfl hX3 (hts (.initialized RX0) (by decide +kernel)) (by decide +kernel) ⟨Nat.le_of_ble_eq_true rfl, Nat.le_of_ble_eq_true rfl⟩, rfl, hts (.instanceMethod yX0_init) (by decide +kernel)⟩ hl (Nat.le_of_ble_eq_true rfl) ⟨Nat.le_of_ble_eq_true rfl, Nat.le_of_ble_eq_true rfl⟩ dX4_init_57 (fun ad33 en33 H locs ha33 hq33 he33 hn33 hI => ?_)
  have A33_0 : ad33 0 = b := (ha33 0 (by omega)).trans A32_0
  have A33_1 : ad33 1 = q1 := (ha33 1 (by omega)).trans A32_1
  have A33_2 : ad33 2 = q2 := (ha33 2 (by omega)).trans A32_2
  have A33_3 : ad33 3 = q3 := (ha33 3 (by omega)).trans A32_3
  have A33_4 : ad33 4 = q4 := (ha33 4 (by omega)).trans A32_4
  have A33_5 : ad33 5 = q5 := (ha33 5 (by omega)).trans A32_5
  have A33_6 : ad33 6 = q6 := (ha33 6 (by omega)).trans A32_6
  have A33_7 : ad33 7 = q7 := (ha33 7 (by omega)).trans A32_7
  have A33_8 : ad33 8 = q8 := (ha33 8 (by omega)).trans A32_8
  have A33_9 : ad33 9 = q9 := (ha33 9 (by omega)).trans A32_9
  have A33_10 : ad33 10 = q10 := (ha33 10 (by omega)).trans A32_10
  have A33_11 : ad33 11 = q11 := (ha33 11 (by omega)).trans A32_11
  have E33_0 : en33 0 = .inr (4, [.ref q1, .ref q2, .ref q3, .int 0, .int 0, .int 0, .int 0]) := (he33 0 (by omega)).trans E32_0
  have E33_1 : en33 1 = .inl (g 0, 4, .inl (va_cpy fsT (fun _ => 0) 0 0 4)) := (he33 1 (by omega)).trans E32_1
  have E33_2 : en33 2 = .inl (g 3, 16, .inr (.inr (.inr (.inr (va_up (va_up (va_up (va_up (va_up (va_up (va_up (va_up (fun _ => none) 0 (some q4)) 1 (some q5)) 2 (some q6)) 3 (some q7)) 4 (some q8)) 5 (some q9)) 6 (some q10)) 7 (some q11)))))) := (he33 2 (by omega)).trans E32_2
  have E33_3 : en33 3 = .inl (g 0, 4, .inl (fun _ => 0)) := (he33 3 (by omega)).trans E32_3
  have E33_4 : en33 4 = .inr (0, [.int 0, .int 0, .int 0, .int 0, .int 0, .int 0, .int 0, .int 0]) := (he33 4 (by omega)).trans E32_4
  have E33_5 : en33 5 = .inr (0, [.int 0, .int 0, .int 0, .int 0, .int 0, .int 0, .int 0, .int 0]) := (he33 5 (by omega)).trans E32_5
  have E33_6 : en33 6 = .inr (0, [.int 0, .int 0, .int 0, .int 0, .int 0, .int 0, .int 0, .int 0]) := (he33 6 (by omega)).trans E32_6
  have E33_7 : en33 7 = .inr (0, [.int 0, .int 0, .int 0, .int 0, .int 0, .int 0, .int 0, .int 0]) := (he33 7 (by omega)).trans E32_7
  have E33_8 : en33 8 = .inr (0, [.int 0, .int 0, .int 0, .int 0, .int 0, .int 0, .int 0, .int 0]) := (he33 8 (by omega)).trans E32_8
  have E33_9 : en33 9 = .inr (0, [.int 0, .int 0, .int 0, .int 0, .int 0, .int 0, .int 0, .int 0]) := (he33 9 (by omega)).trans E32_9
  have E33_10 : en33 10 = .inr (0, [.int 0, .int 0, .int 0, .int 0, .int 0, .int 0, .int 0, .int 0]) := (he33 10 (by omega)).trans E32_10
  have E33_11 : en33 11 = .inr (0, [.int 0, .int 0, .int 0, .int 0, .int 0, .int 0, .int 0, .int 0]) := (he33 11 (by omega)).trans E32_11
  have A33_12 : ad33 12 = q12 := hq33
  have E33_12 : en33 12 = .inr (0, [.int 0, .int 0, .int 0, .int 0, .int 0, .int 0, .int 0, .int 0]) := hn33 0
  refine o_astq (r := (RX0, TX0, 8)) hx hb hK hI 2 3 12 0 (by omega) (by omega) A33_2 A33_12 E33_2 rfl E33_12 rfl (by decide) 8 (by decide) rfl dX4_init_60 (fun en34 H locs he34 hn34 hI => ?_)
  have E34_0 : en34 0 = .inr (4, [.ref q1, .ref q2, .ref q3, .int 0, .int 0, .int 0, .int 0]) := (he34 0 (by omega)).trans E33_0
  have E34_1 : en34 1 = .inl (g 0, 4, .inl (va_cpy fsT (fun _ => 0) 0 0 4)) := (he34 1 (by omega)).trans E33_1
  have E34_3 : en34 3 = .inl (g 0, 4, .inl (fun _ => 0)) := (he34 3 (by omega)).trans E33_3
  have E34_4 : en34 4 = .inr (0, [.int 0, .int 0, .int 0, .int 0, .int 0, .int 0, .int 0, .int 0]) := (he34 4 (by omega)).trans E33_4
  have E34_5 : en34 5 = .inr (0, [.int 0, .int 0, .int 0, .int 0, .int 0, .int 0, .int 0, .int 0]) := (he34 5 (by omega)).trans E33_5
  have E34_6 : en34 6 = .inr (0, [.int 0, .int 0, .int 0, .int 0, .int 0, .int 0, .int 0, .int 0]) := (he34 6 (by omega)).trans E33_6
  have E34_7 : en34 7 = .inr (0, [.int 0, .int 0, .int 0, .int 0, .int 0, .int 0, .int 0, .int 0]) := (he34 7 (by omega)).trans E33_7
  have E34_8 : en34 8 = .inr (0, [.int 0, .int 0, .int 0, .int 0, .int 0, .int 0, .int 0, .int 0]) := (he34 8 (by omega)).trans E33_8
  have E34_9 : en34 9 = .inr (0, [.int 0, .int 0, .int 0, .int 0, .int 0, .int 0, .int 0, .int 0]) := (he34 9 (by omega)).trans E33_9
  have E34_10 : en34 10 = .inr (0, [.int 0, .int 0, .int 0, .int 0, .int 0, .int 0, .int 0, .int 0]) := (he34 10 (by omega)).trans E33_10
  have E34_11 : en34 11 = .inr (0, [.int 0, .int 0, .int 0, .int 0, .int 0, .int 0, .int 0, .int 0]) := (he34 11 (by omega)).trans E33_11
  have E34_12 : en34 12 = .inr (0, [.int 0, .int 0, .int 0, .int 0, .int 0, .int 0, .int 0, .int 0]) := (he34 12 (by omega)).trans E33_12
  have E34_2 : en34 2 = .inl (g 3, 16, .inr (.inr (.inr (.inr (va_up (va_up (va_up (va_up (va_up (va_up (va_up (va_up (va_up (fun _ => none) 0 (some q4)) 1 (some q5)) 2 (some q6)) 3 (some q7)) 4 (some q8)) 5 (some q9)) 6 (some q10)) 7 (some q11)) 8 (some q12)))))) := hn34
  refine lv_iinc (v := 9) (lv' := [(1, .int 9), (0, .ref b)]) hx hb dX4_init_61 hl (k := 0) rfl (by decide) (by decide) rfl (fun ls hl => ?_)
  refine lv_goto (tgt := 42) hx hb dX4_init_64 (by decide) ?_
  refine lv_iload_n hx hb dX4_init_42 rfl (lv_at hl 0 rfl) ?_
  refine lv_bipush (v := 16) hx hb dX4_init_43 (by decide) ?_
  refine lv_icmp_ge (tgt := 67) hx hb dX4_init_45 (by decide) (fun c10 => absurd c10 (by decide)) (fun _ => ?_)
  refine lv_aload_n hx hb dX4_init_48 rfl (lv_at hl 1 rfl) ?_
  refine o_get hx hb hts hinX4 hown hK hI 0 (by omega) A33_0 E34_0 (ci := 4) rfl 1 (by decide) (hts (.fieldLink RX4 17 "WinderLadders$State" "clocks" "[LWinderLadders$Clock;") (by decide +kernel)) (v := .ref q2) rfl dX4_init_49 ?_
  refine lv_iload_n hx hb dX4_init_52 rfl (lv_at hl 0 rfl) ?_
  refine o_new (fs := [.int 0, .int 0, .int 0, .int 0, .int 0, .int 0, .int 0, .int 0]) hx hb hts hinX0 tyX0 tyX0_ok hown (hts (.classLink RX4 15 RX0) (by decide +kernel)) (hts (.instantiable RX0 8) (by decide +kernel)) (hts (.initialized RX0) (by decide +kernel)) hK hI hA (ci := 0) rfl (by decide) (Nat.le_of_ble_eq_true rfl) (Nat.le_of_ble_eq_true rfl) dX4_init_53 (fun ad35 en35 H ha35 he35 hn35 hI => ?_)
  have A35_0 : ad35 0 = b := (ha35 0 (by omega)).trans A33_0
  have A35_1 : ad35 1 = q1 := (ha35 1 (by omega)).trans A33_1
  have A35_2 : ad35 2 = q2 := (ha35 2 (by omega)).trans A33_2
  have A35_3 : ad35 3 = q3 := (ha35 3 (by omega)).trans A33_3
  have A35_4 : ad35 4 = q4 := (ha35 4 (by omega)).trans A33_4
  have A35_5 : ad35 5 = q5 := (ha35 5 (by omega)).trans A33_5
  have A35_6 : ad35 6 = q6 := (ha35 6 (by omega)).trans A33_6
  have A35_7 : ad35 7 = q7 := (ha35 7 (by omega)).trans A33_7
  have A35_8 : ad35 8 = q8 := (ha35 8 (by omega)).trans A33_8
  have A35_9 : ad35 9 = q9 := (ha35 9 (by omega)).trans A33_9
  have A35_10 : ad35 10 = q10 := (ha35 10 (by omega)).trans A33_10
  have A35_11 : ad35 11 = q11 := (ha35 11 (by omega)).trans A33_11
  have A35_12 : ad35 12 = q12 := (ha35 12 (by omega)).trans A33_12
  have E35_0 : en35 0 = .inr (4, [.ref q1, .ref q2, .ref q3, .int 0, .int 0, .int 0, .int 0]) := (he35 0 (by omega)).trans E34_0
  have E35_1 : en35 1 = .inl (g 0, 4, .inl (va_cpy fsT (fun _ => 0) 0 0 4)) := (he35 1 (by omega)).trans E34_1
  have E35_2 : en35 2 = .inl (g 3, 16, .inr (.inr (.inr (.inr (va_up (va_up (va_up (va_up (va_up (va_up (va_up (va_up (va_up (fun _ => none) 0 (some q4)) 1 (some q5)) 2 (some q6)) 3 (some q7)) 4 (some q8)) 5 (some q9)) 6 (some q10)) 7 (some q11)) 8 (some q12)))))) := (he35 2 (by omega)).trans E34_2
  have E35_3 : en35 3 = .inl (g 0, 4, .inl (fun _ => 0)) := (he35 3 (by omega)).trans E34_3
  have E35_4 : en35 4 = .inr (0, [.int 0, .int 0, .int 0, .int 0, .int 0, .int 0, .int 0, .int 0]) := (he35 4 (by omega)).trans E34_4
  have E35_5 : en35 5 = .inr (0, [.int 0, .int 0, .int 0, .int 0, .int 0, .int 0, .int 0, .int 0]) := (he35 5 (by omega)).trans E34_5
  have E35_6 : en35 6 = .inr (0, [.int 0, .int 0, .int 0, .int 0, .int 0, .int 0, .int 0, .int 0]) := (he35 6 (by omega)).trans E34_6
  have E35_7 : en35 7 = .inr (0, [.int 0, .int 0, .int 0, .int 0, .int 0, .int 0, .int 0, .int 0]) := (he35 7 (by omega)).trans E34_7
  have E35_8 : en35 8 = .inr (0, [.int 0, .int 0, .int 0, .int 0, .int 0, .int 0, .int 0, .int 0]) := (he35 8 (by omega)).trans E34_8
  have E35_9 : en35 9 = .inr (0, [.int 0, .int 0, .int 0, .int 0, .int 0, .int 0, .int 0, .int 0]) := (he35 9 (by omega)).trans E34_9
  have E35_10 : en35 10 = .inr (0, [.int 0, .int 0, .int 0, .int 0, .int 0, .int 0, .int 0, .int 0]) := (he35 10 (by omega)).trans E34_10
  have E35_11 : en35 11 = .inr (0, [.int 0, .int 0, .int 0, .int 0, .int 0, .int 0, .int 0, .int 0]) := (he35 11 (by omega)).trans E34_11
  have E35_12 : en35 12 = .inr (0, [.int 0, .int 0, .int 0, .int 0, .int 0, .int 0, .int 0, .int 0]) := (he35 12 (by omega)).trans E34_12
  obtain ⟨q13, A35_13⟩ : ∃ z, ad35 13 = z := ⟨_, rfl⟩
  rw [A35_13]
  have E35_13 := hn35
  refine lv_dup hx hb dX4_init_56 rfl ?_
  refine o_initN (mm := 1) (rest := [.ref q13, .int 9, .ref q2]) hx hb hml hown hts hK hX hI hA hA0 A35_13 E35_13 (k_X0_init l dd g sz0 q13 H.size) ⟨va_cnB 0 hts gX4_init_X0_init_n33 rfl rfl rfl hX3 (hts (.initialized RX0) (by decide +kernel)) (by decide +kernel) ⟨Nat.le_of_ble_eq_true rfl, Nat.le_of_ble_eq_true rfl⟩, rfl, hts (.instanceMethod yX0_init) (by decide +kernel)⟩ hl (Nat.le_of_ble_eq_true rfl) ⟨Nat.le_of_ble_eq_true rfl, Nat.le_of_ble_eq_true rfl⟩ dX4_init_57 (fun ad36 en36 H locs ha36 hq36 he36 hn36 hI => ?_)
  have A36_0 : ad36 0 = b := (ha36 0 (by omega)).trans A35_0
  have A36_1 : ad36 1 = q1 := (ha36 1 (by omega)).trans A35_1
  have A36_2 : ad36 2 = q2 := (ha36 2 (by omega)).trans A35_2
  have A36_3 : ad36 3 = q3 := (ha36 3 (by omega)).trans A35_3
  have A36_4 : ad36 4 = q4 := (ha36 4 (by omega)).trans A35_4
  have A36_5 : ad36 5 = q5 := (ha36 5 (by omega)).trans A35_5
  have A36_6 : ad36 6 = q6 := (ha36 6 (by omega)).trans A35_6
  have A36_7 : ad36 7 = q7 := (ha36 7 (by omega)).trans A35_7
  have A36_8 : ad36 8 = q8 := (ha36 8 (by omega)).trans A35_8
  have A36_9 : ad36 9 = q9 := (ha36 9 (by omega)).trans A35_9
  have A36_10 : ad36 10 = q10 := (ha36 10 (by omega)).trans A35_10
  have A36_11 : ad36 11 = q11 := (ha36 11 (by omega)).trans A35_11
  have A36_12 : ad36 12 = q12 := (ha36 12 (by omega)).trans A35_12
  have E36_0 : en36 0 = .inr (4, [.ref q1, .ref q2, .ref q3, .int 0, .int 0, .int 0, .int 0]) := (he36 0 (by omega)).trans E35_0
  have E36_1 : en36 1 = .inl (g 0, 4, .inl (va_cpy fsT (fun _ => 0) 0 0 4)) := (he36 1 (by omega)).trans E35_1
  have E36_2 : en36 2 = .inl (g 3, 16, .inr (.inr (.inr (.inr (va_up (va_up (va_up (va_up (va_up (va_up (va_up (va_up (va_up (fun _ => none) 0 (some q4)) 1 (some q5)) 2 (some q6)) 3 (some q7)) 4 (some q8)) 5 (some q9)) 6 (some q10)) 7 (some q11)) 8 (some q12)))))) := (he36 2 (by omega)).trans E35_2
  have E36_3 : en36 3 = .inl (g 0, 4, .inl (fun _ => 0)) := (he36 3 (by omega)).trans E35_3
  have E36_4 : en36 4 = .inr (0, [.int 0, .int 0, .int 0, .int 0, .int 0, .int 0, .int 0, .int 0]) := (he36 4 (by omega)).trans E35_4
  have E36_5 : en36 5 = .inr (0, [.int 0, .int 0, .int 0, .int 0, .int 0, .int 0, .int 0, .int 0]) := (he36 5 (by omega)).trans E35_5
  have E36_6 : en36 6 = .inr (0, [.int 0, .int 0, .int 0, .int 0, .int 0, .int 0, .int 0, .int 0]) := (he36 6 (by omega)).trans E35_6
  have E36_7 : en36 7 = .inr (0, [.int 0, .int 0, .int 0, .int 0, .int 0, .int 0, .int 0, .int 0]) := (he36 7 (by omega)).trans E35_7
  have E36_8 : en36 8 = .inr (0, [.int 0, .int 0, .int 0, .int 0, .int 0, .int 0, .int 0, .int 0]) := (he36 8 (by omega)).trans E35_8
  have E36_9 : en36 9 = .inr (0, [.int 0, .int 0, .int 0, .int 0, .int 0, .int 0, .int 0, .int 0]) := (he36 9 (by omega)).trans E35_9
  have E36_10 : en36 10 = .inr (0, [.int 0, .int 0, .int 0, .int 0, .int 0, .int 0, .int 0, .int 0]) := (he36 10 (by omega)).trans E35_10
  have E36_11 : en36 11 = .inr (0, [.int 0, .int 0, .int 0, .int 0, .int 0, .int 0, .int 0, .int 0]) := (he36 11 (by omega)).trans E35_11
  have E36_12 : en36 12 = .inr (0, [.int 0, .int 0, .int 0, .int 0, .int 0, .int 0, .int 0, .int 0]) := (he36 12 (by omega)).trans E35_12
  have A36_13 : ad36 13 = q13 := hq36
  have E36_13 : en36 13 = .inr (0, [.int 0, .int 0, .int 0, .int 0, .int 0, .int 0, .int 0, .int 0]) := hn36 0
  refine o_astq (r := (RX0, TX0, 8)) hx hb hK hI 2 3 13 0 (by omega) (by omega) A36_2 A36_13 E36_2 rfl E36_13 rfl (by decide) 9 (by decide) rfl dX4_init_60 (fun en37 H locs he37 hn37 hI => ?_)
  have E37_0 : en37 0 = .inr (4, [.ref q1, .ref q2, .ref q3, .int 0, .int 0, .int 0, .int 0]) := (he37 0 (by omega)).trans E36_0
  have E37_1 : en37 1 = .inl (g 0, 4, .inl (va_cpy fsT (fun _ => 0) 0 0 4)) := (he37 1 (by omega)).trans E36_1
  have E37_3 : en37 3 = .inl (g 0, 4, .inl (fun _ => 0)) := (he37 3 (by omega)).trans E36_3
  have E37_4 : en37 4 = .inr (0, [.int 0, .int 0, .int 0, .int 0, .int 0, .int 0, .int 0, .int 0]) := (he37 4 (by omega)).trans E36_4
  have E37_5 : en37 5 = .inr (0, [.int 0, .int 0, .int 0, .int 0, .int 0, .int 0, .int 0, .int 0]) := (he37 5 (by omega)).trans E36_5
  have E37_6 : en37 6 = .inr (0, [.int 0, .int 0, .int 0, .int 0, .int 0, .int 0, .int 0, .int 0]) := (he37 6 (by omega)).trans E36_6
  have E37_7 : en37 7 = .inr (0, [.int 0, .int 0, .int 0, .int 0, .int 0, .int 0, .int 0, .int 0]) := (he37 7 (by omega)).trans E36_7
  have E37_8 : en37 8 = .inr (0, [.int 0, .int 0, .int 0, .int 0, .int 0, .int 0, .int 0, .int 0]) := (he37 8 (by omega)).trans E36_8
  have E37_9 : en37 9 = .inr (0, [.int 0, .int 0, .int 0, .int 0, .int 0, .int 0, .int 0, .int 0]) := (he37 9 (by omega)).trans E36_9
  have E37_10 : en37 10 = .inr (0, [.int 0, .int 0, .int 0, .int 0, .int 0, .int 0, .int 0, .int 0]) := (he37 10 (by omega)).trans E36_10
  have E37_11 : en37 11 = .inr (0, [.int 0, .int 0, .int 0, .int 0, .int 0, .int 0, .int 0, .int 0]) := (he37 11 (by omega)).trans E36_11
  have E37_12 : en37 12 = .inr (0, [.int 0, .int 0, .int 0, .int 0, .int 0, .int 0, .int 0, .int 0]) := (he37 12 (by omega)).trans E36_12
  have E37_13 : en37 13 = .inr (0, [.int 0, .int 0, .int 0, .int 0, .int 0, .int 0, .int 0, .int 0]) := (he37 13 (by omega)).trans E36_13
  have E37_2 : en37 2 = .inl (g 3, 16, .inr (.inr (.inr (.inr (va_up (va_up (va_up (va_up (va_up (va_up (va_up (va_up (va_up (va_up (fun _ => none) 0 (some q4)) 1 (some q5)) 2 (some q6)) 3 (some q7)) 4 (some q8)) 5 (some q9)) 6 (some q10)) 7 (some q11)) 8 (some q12)) 9 (some q13)))))) := hn37
  refine lv_iinc (v := 10) (lv' := [(1, .int 10), (0, .ref b)]) hx hb dX4_init_61 hl (k := 0) rfl (by decide) (by decide) rfl (fun ls hl => ?_)
  refine lv_goto (tgt := 42) hx hb dX4_init_64 (by decide) ?_
  refine lv_iload_n hx hb dX4_init_42 rfl (lv_at hl 0 rfl) ?_
  refine lv_bipush (v := 16) hx hb dX4_init_43 (by decide) ?_
  refine lv_icmp_ge (tgt := 67) hx hb dX4_init_45 (by decide) (fun c11 => absurd c11 (by decide)) (fun _ => ?_)
  refine lv_aload_n hx hb dX4_init_48 rfl (lv_at hl 1 rfl) ?_
  refine o_get hx hb hts hinX4 hown hK hI 0 (by omega) A36_0 E37_0 (ci := 4) rfl 1 (by decide) (hts (.fieldLink RX4 17 "WinderLadders$State" "clocks" "[LWinderLadders$Clock;") (by decide +kernel)) (v := .ref q2) rfl dX4_init_49 ?_
  refine lv_iload_n hx hb dX4_init_52 rfl (lv_at hl 0 rfl) ?_
  refine o_new (fs := [.int 0, .int 0, .int 0, .int 0, .int 0, .int 0, .int 0, .int 0]) hx hb hts hinX0 tyX0 tyX0_ok hown (hts (.classLink RX4 15 RX0) (by decide +kernel)) (hts (.instantiable RX0 8) (by decide +kernel)) (hts (.initialized RX0) (by decide +kernel)) hK hI hA (ci := 0) rfl (by decide) (Nat.le_of_ble_eq_true rfl) (Nat.le_of_ble_eq_true rfl) dX4_init_53 (fun ad38 en38 H ha38 he38 hn38 hI => ?_)
  have A38_0 : ad38 0 = b := (ha38 0 (by omega)).trans A36_0
  have A38_1 : ad38 1 = q1 := (ha38 1 (by omega)).trans A36_1
  have A38_2 : ad38 2 = q2 := (ha38 2 (by omega)).trans A36_2
  have A38_3 : ad38 3 = q3 := (ha38 3 (by omega)).trans A36_3
  have A38_4 : ad38 4 = q4 := (ha38 4 (by omega)).trans A36_4
  have A38_5 : ad38 5 = q5 := (ha38 5 (by omega)).trans A36_5
  have A38_6 : ad38 6 = q6 := (ha38 6 (by omega)).trans A36_6
  have A38_7 : ad38 7 = q7 := (ha38 7 (by omega)).trans A36_7
  have A38_8 : ad38 8 = q8 := (ha38 8 (by omega)).trans A36_8
  have A38_9 : ad38 9 = q9 := (ha38 9 (by omega)).trans A36_9
  have A38_10 : ad38 10 = q10 := (ha38 10 (by omega)).trans A36_10
  have A38_11 : ad38 11 = q11 := (ha38 11 (by omega)).trans A36_11
  have A38_12 : ad38 12 = q12 := (ha38 12 (by omega)).trans A36_12
  have A38_13 : ad38 13 = q13 := (ha38 13 (by omega)).trans A36_13
  have E38_0 : en38 0 = .inr (4, [.ref q1, .ref q2, .ref q3, .int 0, .int 0, .int 0, .int 0]) := (he38 0 (by omega)).trans E37_0
  have E38_1 : en38 1 = .inl (g 0, 4, .inl (va_cpy fsT (fun _ => 0) 0 0 4)) := (he38 1 (by omega)).trans E37_1
  have E38_2 : en38 2 = .inl (g 3, 16, .inr (.inr (.inr (.inr (va_up (va_up (va_up (va_up (va_up (va_up (va_up (va_up (va_up (va_up (fun _ => none) 0 (some q4)) 1 (some q5)) 2 (some q6)) 3 (some q7)) 4 (some q8)) 5 (some q9)) 6 (some q10)) 7 (some q11)) 8 (some q12)) 9 (some q13)))))) := (he38 2 (by omega)).trans E37_2
  have E38_3 : en38 3 = .inl (g 0, 4, .inl (fun _ => 0)) := (he38 3 (by omega)).trans E37_3
  have E38_4 : en38 4 = .inr (0, [.int 0, .int 0, .int 0, .int 0, .int 0, .int 0, .int 0, .int 0]) := (he38 4 (by omega)).trans E37_4
  have E38_5 : en38 5 = .inr (0, [.int 0, .int 0, .int 0, .int 0, .int 0, .int 0, .int 0, .int 0]) := (he38 5 (by omega)).trans E37_5
  have E38_6 : en38 6 = .inr (0, [.int 0, .int 0, .int 0, .int 0, .int 0, .int 0, .int 0, .int 0]) := (he38 6 (by omega)).trans E37_6
  have E38_7 : en38 7 = .inr (0, [.int 0, .int 0, .int 0, .int 0, .int 0, .int 0, .int 0, .int 0]) := (he38 7 (by omega)).trans E37_7
  have E38_8 : en38 8 = .inr (0, [.int 0, .int 0, .int 0, .int 0, .int 0, .int 0, .int 0, .int 0]) := (he38 8 (by omega)).trans E37_8
  have E38_9 : en38 9 = .inr (0, [.int 0, .int 0, .int 0, .int 0, .int 0, .int 0, .int 0, .int 0]) := (he38 9 (by omega)).trans E37_9
  have E38_10 : en38 10 = .inr (0, [.int 0, .int 0, .int 0, .int 0, .int 0, .int 0, .int 0, .int 0]) := (he38 10 (by omega)).trans E37_10
  have E38_11 : en38 11 = .inr (0, [.int 0, .int 0, .int 0, .int 0, .int 0, .int 0, .int 0, .int 0]) := (he38 11 (by omega)).trans E37_11
  have E38_12 : en38 12 = .inr (0, [.int 0, .int 0, .int 0, .int 0, .int 0, .int 0, .int 0, .int 0]) := (he38 12 (by omega)).trans E37_12
  have E38_13 : en38 13 = .inr (0, [.int 0, .int 0, .int 0, .int 0, .int 0, .int 0, .int 0, .int 0]) := (he38 13 (by omega)).trans E37_13
  obtain ⟨q14, A38_14⟩ : ∃ z, ad38 14 = z := ⟨_, rfl⟩
  rw [A38_14]
  have E38_14 := hn38
  refine lv_dup hx hb dX4_init_56 rfl ?_
  refine o_initN (mm := 1) (rest := [.ref q14, .int 10, .ref q2]) hx hb hml hown hts hK hX hI hA hA0 A38_14 E38_14 (k_X0_init l dd g sz0 q14 H.size) ⟨va_cnB 0 hts gX4_init_X0_init_n33 rfl rfl rfl hX3 (hts (.initialized RX0) (by decide +kernel)) (by decide +kernel) ⟨Nat.le_of_ble_eq_true rfl, Nat.le_of_ble_eq_true rfl⟩, rfl, hts (.instanceMethod yX0_init) (by decide +kernel)⟩ hl (Nat.le_of_ble_eq_true rfl) ⟨Nat.le_of_ble_eq_true rfl, Nat.le_of_ble_eq_true rfl⟩ dX4_init_57 (fun ad39 en39 H locs ha39 hq39 he39 hn39 hI => ?_)
  have A39_0 : ad39 0 = b := (ha39 0 (by omega)).trans A38_0
  have A39_1 : ad39 1 = q1 := (ha39 1 (by omega)).trans A38_1
  have A39_2 : ad39 2 = q2 := (ha39 2 (by omega)).trans A38_2
  have A39_3 : ad39 3 = q3 := (ha39 3 (by omega)).trans A38_3
  have A39_4 : ad39 4 = q4 := (ha39 4 (by omega)).trans A38_4
  have A39_5 : ad39 5 = q5 := (ha39 5 (by omega)).trans A38_5
  have A39_6 : ad39 6 = q6 := (ha39 6 (by omega)).trans A38_6
  have A39_7 : ad39 7 = q7 := (ha39 7 (by omega)).trans A38_7
  have A39_8 : ad39 8 = q8 := (ha39 8 (by omega)).trans A38_8
  have A39_9 : ad39 9 = q9 := (ha39 9 (by omega)).trans A38_9
  have A39_10 : ad39 10 = q10 := (ha39 10 (by omega)).trans A38_10
  have A39_11 : ad39 11 = q11 := (ha39 11 (by omega)).trans A38_11
  have A39_12 : ad39 12 = q12 := (ha39 12 (by omega)).trans A38_12
  have A39_13 : ad39 13 = q13 := (ha39 13 (by omega)).trans A38_13
  have E39_0 : en39 0 = .inr (4, [.ref q1, .ref q2, .ref q3, .int 0, .int 0, .int 0, .int 0]) := (he39 0 (by omega)).trans E38_0
  have E39_1 : en39 1 = .inl (g 0, 4, .inl (va_cpy fsT (fun _ => 0) 0 0 4)) := (he39 1 (by omega)).trans E38_1
  have E39_2 : en39 2 = .inl (g 3, 16, .inr (.inr (.inr (.inr (va_up (va_up (va_up (va_up (va_up (va_up (va_up (va_up (va_up (va_up (fun _ => none) 0 (some q4)) 1 (some q5)) 2 (some q6)) 3 (some q7)) 4 (some q8)) 5 (some q9)) 6 (some q10)) 7 (some q11)) 8 (some q12)) 9 (some q13)))))) := (he39 2 (by omega)).trans E38_2
  have E39_3 : en39 3 = .inl (g 0, 4, .inl (fun _ => 0)) := (he39 3 (by omega)).trans E38_3
  have E39_4 : en39 4 = .inr (0, [.int 0, .int 0, .int 0, .int 0, .int 0, .int 0, .int 0, .int 0]) := (he39 4 (by omega)).trans E38_4
  have E39_5 : en39 5 = .inr (0, [.int 0, .int 0, .int 0, .int 0, .int 0, .int 0, .int 0, .int 0]) := (he39 5 (by omega)).trans E38_5
  have E39_6 : en39 6 = .inr (0, [.int 0, .int 0, .int 0, .int 0, .int 0, .int 0, .int 0, .int 0]) := (he39 6 (by omega)).trans E38_6
  have E39_7 : en39 7 = .inr (0, [.int 0, .int 0, .int 0, .int 0, .int 0, .int 0, .int 0, .int 0]) := (he39 7 (by omega)).trans E38_7
  have E39_8 : en39 8 = .inr (0, [.int 0, .int 0, .int 0, .int 0, .int 0, .int 0, .int 0, .int 0]) := (he39 8 (by omega)).trans E38_8
  have E39_9 : en39 9 = .inr (0, [.int 0, .int 0, .int 0, .int 0, .int 0, .int 0, .int 0, .int 0]) := (he39 9 (by omega)).trans E38_9
  have E39_10 : en39 10 = .inr (0, [.int 0, .int 0, .int 0, .int 0, .int 0, .int 0, .int 0, .int 0]) := (he39 10 (by omega)).trans E38_10
  have E39_11 : en39 11 = .inr (0, [.int 0, .int 0, .int 0, .int 0, .int 0, .int 0, .int 0, .int 0]) := (he39 11 (by omega)).trans E38_11
  have E39_12 : en39 12 = .inr (0, [.int 0, .int 0, .int 0, .int 0, .int 0, .int 0, .int 0, .int 0]) := (he39 12 (by omega)).trans E38_12
  have E39_13 : en39 13 = .inr (0, [.int 0, .int 0, .int 0, .int 0, .int 0, .int 0, .int 0, .int 0]) := (he39 13 (by omega)).trans E38_13
  have A39_14 : ad39 14 = q14 := hq39
  have E39_14 : en39 14 = .inr (0, [.int 0, .int 0, .int 0, .int 0, .int 0, .int 0, .int 0, .int 0]) := hn39 0
  refine o_astq (r := (RX0, TX0, 8)) hx hb hK hI 2 3 14 0 (by omega) (by omega) A39_2 A39_14 E39_2 rfl E39_14 rfl (by decide) 10 (by decide) rfl dX4_init_60 (fun en40 H locs he40 hn40 hI => ?_)
  have E40_0 : en40 0 = .inr (4, [.ref q1, .ref q2, .ref q3, .int 0, .int 0, .int 0, .int 0]) := (he40 0 (by omega)).trans E39_0
  have E40_1 : en40 1 = .inl (g 0, 4, .inl (va_cpy fsT (fun _ => 0) 0 0 4)) := (he40 1 (by omega)).trans E39_1
  have E40_3 : en40 3 = .inl (g 0, 4, .inl (fun _ => 0)) := (he40 3 (by omega)).trans E39_3
  have E40_4 : en40 4 = .inr (0, [.int 0, .int 0, .int 0, .int 0, .int 0, .int 0, .int 0, .int 0]) := (he40 4 (by omega)).trans E39_4
  have E40_5 : en40 5 = .inr (0, [.int 0, .int 0, .int 0, .int 0, .int 0, .int 0, .int 0, .int 0]) := (he40 5 (by omega)).trans E39_5
  have E40_6 : en40 6 = .inr (0, [.int 0, .int 0, .int 0, .int 0, .int 0, .int 0, .int 0, .int 0]) := (he40 6 (by omega)).trans E39_6
  have E40_7 : en40 7 = .inr (0, [.int 0, .int 0, .int 0, .int 0, .int 0, .int 0, .int 0, .int 0]) := (he40 7 (by omega)).trans E39_7
  have E40_8 : en40 8 = .inr (0, [.int 0, .int 0, .int 0, .int 0, .int 0, .int 0, .int 0, .int 0]) := (he40 8 (by omega)).trans E39_8
  have E40_9 : en40 9 = .inr (0, [.int 0, .int 0, .int 0, .int 0, .int 0, .int 0, .int 0, .int 0]) := (he40 9 (by omega)).trans E39_9
  have E40_10 : en40 10 = .inr (0, [.int 0, .int 0, .int 0, .int 0, .int 0, .int 0, .int 0, .int 0]) := (he40 10 (by omega)).trans E39_10
  have E40_11 : en40 11 = .inr (0, [.int 0, .int 0, .int 0, .int 0, .int 0, .int 0, .int 0, .int 0]) := (he40 11 (by omega)).trans E39_11
  have E40_12 : en40 12 = .inr (0, [.int 0, .int 0, .int 0, .int 0, .int 0, .int 0, .int 0, .int 0]) := (he40 12 (by omega)).trans E39_12
  have E40_13 : en40 13 = .inr (0, [.int 0, .int 0, .int 0, .int 0, .int 0, .int 0, .int 0, .int 0]) := (he40 13 (by omega)).trans E39_13
  have E40_14 : en40 14 = .inr (0, [.int 0, .int 0, .int 0, .int 0, .int 0, .int 0, .int 0, .int 0]) := (he40 14 (by omega)).trans E39_14
  have E40_2 : en40 2 = .inl (g 3, 16, .inr (.inr (.inr (.inr (va_up (va_up (va_up (va_up (va_up (va_up (va_up (va_up (va_up (va_up (va_up (fun _ => none) 0 (some q4)) 1 (some q5)) 2 (some q6)) 3 (some q7)) 4 (some q8)) 5 (some q9)) 6 (some q10)) 7 (some q11)) 8 (some q12)) 9 (some q13)) 10 (some q14)))))) := hn40
  refine lv_iinc (v := 11) (lv' := [(1, .int 11), (0, .ref b)]) hx hb dX4_init_61 hl (k := 0) rfl (by decide) (by decide) rfl (fun ls hl => ?_)
  refine lv_goto (tgt := 42) hx hb dX4_init_64 (by decide) ?_
  refine lv_iload_n hx hb dX4_init_42 rfl (lv_at hl 0 rfl) ?_
  refine lv_bipush (v := 16) hx hb dX4_init_43 (by decide) ?_
  refine lv_icmp_ge (tgt := 67) hx hb dX4_init_45 (by decide) (fun c12 => absurd c12 (by decide)) (fun _ => ?_)
  refine lv_aload_n hx hb dX4_init_48 rfl (lv_at hl 1 rfl) ?_
  refine o_get hx hb hts hinX4 hown hK hI 0 (by omega) A39_0 E40_0 (ci := 4) rfl 1 (by decide) (hts (.fieldLink RX4 17 "WinderLadders$State" "clocks" "[LWinderLadders$Clock;") (by decide +kernel)) (v := .ref q2) rfl dX4_init_49 ?_
  refine lv_iload_n hx hb dX4_init_52 rfl (lv_at hl 0 rfl) ?_
  refine o_new (fs := [.int 0, .int 0, .int 0, .int 0, .int 0, .int 0, .int 0, .int 0]) hx hb hts hinX0 tyX0 tyX0_ok hown (hts (.classLink RX4 15 RX0) (by decide +kernel)) (hts (.instantiable RX0 8) (by decide +kernel)) (hts (.initialized RX0) (by decide +kernel)) hK hI hA (ci := 0) rfl (by decide) (Nat.le_of_ble_eq_true rfl) (Nat.le_of_ble_eq_true rfl) dX4_init_53 (fun ad41 en41 H ha41 he41 hn41 hI => ?_)
  have A41_0 : ad41 0 = b := (ha41 0 (by omega)).trans A39_0
  have A41_1 : ad41 1 = q1 := (ha41 1 (by omega)).trans A39_1
  have A41_2 : ad41 2 = q2 := (ha41 2 (by omega)).trans A39_2
  have A41_3 : ad41 3 = q3 := (ha41 3 (by omega)).trans A39_3
  have A41_4 : ad41 4 = q4 := (ha41 4 (by omega)).trans A39_4
  have A41_5 : ad41 5 = q5 := (ha41 5 (by omega)).trans A39_5
  have A41_6 : ad41 6 = q6 := (ha41 6 (by omega)).trans A39_6
  have A41_7 : ad41 7 = q7 := (ha41 7 (by omega)).trans A39_7
  have A41_8 : ad41 8 = q8 := (ha41 8 (by omega)).trans A39_8
  have A41_9 : ad41 9 = q9 := (ha41 9 (by omega)).trans A39_9
  have A41_10 : ad41 10 = q10 := (ha41 10 (by omega)).trans A39_10
  have A41_11 : ad41 11 = q11 := (ha41 11 (by omega)).trans A39_11
  have A41_12 : ad41 12 = q12 := (ha41 12 (by omega)).trans A39_12
  have A41_13 : ad41 13 = q13 := (ha41 13 (by omega)).trans A39_13
  have A41_14 : ad41 14 = q14 := (ha41 14 (by omega)).trans A39_14
  have E41_0 : en41 0 = .inr (4, [.ref q1, .ref q2, .ref q3, .int 0, .int 0, .int 0, .int 0]) := (he41 0 (by omega)).trans E40_0
  have E41_1 : en41 1 = .inl (g 0, 4, .inl (va_cpy fsT (fun _ => 0) 0 0 4)) := (he41 1 (by omega)).trans E40_1
  have E41_2 : en41 2 = .inl (g 3, 16, .inr (.inr (.inr (.inr (va_up (va_up (va_up (va_up (va_up (va_up (va_up (va_up (va_up (va_up (va_up (fun _ => none) 0 (some q4)) 1 (some q5)) 2 (some q6)) 3 (some q7)) 4 (some q8)) 5 (some q9)) 6 (some q10)) 7 (some q11)) 8 (some q12)) 9 (some q13)) 10 (some q14)))))) := (he41 2 (by omega)).trans E40_2
  have E41_3 : en41 3 = .inl (g 0, 4, .inl (fun _ => 0)) := (he41 3 (by omega)).trans E40_3
  have E41_4 : en41 4 = .inr (0, [.int 0, .int 0, .int 0, .int 0, .int 0, .int 0, .int 0, .int 0]) := (he41 4 (by omega)).trans E40_4
  have E41_5 : en41 5 = .inr (0, [.int 0, .int 0, .int 0, .int 0, .int 0, .int 0, .int 0, .int 0]) := (he41 5 (by omega)).trans E40_5
  have E41_6 : en41 6 = .inr (0, [.int 0, .int 0, .int 0, .int 0, .int 0, .int 0, .int 0, .int 0]) := (he41 6 (by omega)).trans E40_6
  have E41_7 : en41 7 = .inr (0, [.int 0, .int 0, .int 0, .int 0, .int 0, .int 0, .int 0, .int 0]) := (he41 7 (by omega)).trans E40_7
  have E41_8 : en41 8 = .inr (0, [.int 0, .int 0, .int 0, .int 0, .int 0, .int 0, .int 0, .int 0]) := (he41 8 (by omega)).trans E40_8
  have E41_9 : en41 9 = .inr (0, [.int 0, .int 0, .int 0, .int 0, .int 0, .int 0, .int 0, .int 0]) := (he41 9 (by omega)).trans E40_9
  have E41_10 : en41 10 = .inr (0, [.int 0, .int 0, .int 0, .int 0, .int 0, .int 0, .int 0, .int 0]) := (he41 10 (by omega)).trans E40_10
  have E41_11 : en41 11 = .inr (0, [.int 0, .int 0, .int 0, .int 0, .int 0, .int 0, .int 0, .int 0]) := (he41 11 (by omega)).trans E40_11
  have E41_12 : en41 12 = .inr (0, [.int 0, .int 0, .int 0, .int 0, .int 0, .int 0, .int 0, .int 0]) := (he41 12 (by omega)).trans E40_12
  have E41_13 : en41 13 = .inr (0, [.int 0, .int 0, .int 0, .int 0, .int 0, .int 0, .int 0, .int 0]) := (he41 13 (by omega)).trans E40_13
  have E41_14 : en41 14 = .inr (0, [.int 0, .int 0, .int 0, .int 0, .int 0, .int 0, .int 0, .int 0]) := (he41 14 (by omega)).trans E40_14
  obtain ⟨q15, A41_15⟩ : ∃ z, ad41 15 = z := ⟨_, rfl⟩
  rw [A41_15]
  have E41_15 := hn41
  refine lv_dup hx hb dX4_init_56 rfl ?_
  refine o_initN (mm := 1) (rest := [.ref q15, .int 11, .ref q2]) hx hb hml hown hts hK hX hI hA hA0 A41_15 E41_15 (k_X0_init l dd g sz0 q15 H.size) ⟨va_cnB 0 hts gX4_init_X0_init_n33 rfl rfl rfl hX3 (hts (.initialized RX0) (by decide +kernel)) (by decide +kernel) ⟨Nat.le_of_ble_eq_true rfl, Nat.le_of_ble_eq_true rfl⟩, rfl, hts (.instanceMethod yX0_init) (by decide +kernel)⟩ hl (Nat.le_of_ble_eq_true rfl) ⟨Nat.le_of_ble_eq_true rfl, Nat.le_of_ble_eq_true rfl⟩ dX4_init_57 (fun ad42 en42 H locs ha42 hq42 he42 hn42 hI => ?_)
  have A42_0 : ad42 0 = b := (ha42 0 (by omega)).trans A41_0
  have A42_1 : ad42 1 = q1 := (ha42 1 (by omega)).trans A41_1
  have A42_2 : ad42 2 = q2 := (ha42 2 (by omega)).trans A41_2
  have A42_3 : ad42 3 = q3 := (ha42 3 (by omega)).trans A41_3
  have A42_4 : ad42 4 = q4 := (ha42 4 (by omega)).trans A41_4
  have A42_5 : ad42 5 = q5 := (ha42 5 (by omega)).trans A41_5
  have A42_6 : ad42 6 = q6 := (ha42 6 (by omega)).trans A41_6
  have A42_7 : ad42 7 = q7 := (ha42 7 (by omega)).trans A41_7
  have A42_8 : ad42 8 = q8 := (ha42 8 (by omega)).trans A41_8
  have A42_9 : ad42 9 = q9 := (ha42 9 (by omega)).trans A41_9
  have A42_10 : ad42 10 = q10 := (ha42 10 (by omega)).trans A41_10
  have A42_11 : ad42 11 = q11 := (ha42 11 (by omega)).trans A41_11
  have A42_12 : ad42 12 = q12 := (ha42 12 (by omega)).trans A41_12
  have A42_13 : ad42 13 = q13 := (ha42 13 (by omega)).trans A41_13
  have A42_14 : ad42 14 = q14 := (ha42 14 (by omega)).trans A41_14
  have E42_0 : en42 0 = .inr (4, [.ref q1, .ref q2, .ref q3, .int 0, .int 0, .int 0, .int 0]) := (he42 0 (by omega)).trans E41_0
  have E42_1 : en42 1 = .inl (g 0, 4, .inl (va_cpy fsT (fun _ => 0) 0 0 4)) := (he42 1 (by omega)).trans E41_1
  have E42_2 : en42 2 = .inl (g 3, 16, .inr (.inr (.inr (.inr (va_up (va_up (va_up (va_up (va_up (va_up (va_up (va_up (va_up (va_up (va_up (fun _ => none) 0 (some q4)) 1 (some q5)) 2 (some q6)) 3 (some q7)) 4 (some q8)) 5 (some q9)) 6 (some q10)) 7 (some q11)) 8 (some q12)) 9 (some q13)) 10 (some q14)))))) := (he42 2 (by omega)).trans E41_2
  have E42_3 : en42 3 = .inl (g 0, 4, .inl (fun _ => 0)) := (he42 3 (by omega)).trans E41_3
  have E42_4 : en42 4 = .inr (0, [.int 0, .int 0, .int 0, .int 0, .int 0, .int 0, .int 0, .int 0]) := (he42 4 (by omega)).trans E41_4
  have E42_5 : en42 5 = .inr (0, [.int 0, .int 0, .int 0, .int 0, .int 0, .int 0, .int 0, .int 0]) := (he42 5 (by omega)).trans E41_5
  have E42_6 : en42 6 = .inr (0, [.int 0, .int 0, .int 0, .int 0, .int 0, .int 0, .int 0, .int 0]) := (he42 6 (by omega)).trans E41_6
  have E42_7 : en42 7 = .inr (0, [.int 0, .int 0, .int 0, .int 0, .int 0, .int 0, .int 0, .int 0]) := (he42 7 (by omega)).trans E41_7
  have E42_8 : en42 8 = .inr (0, [.int 0, .int 0, .int 0, .int 0, .int 0, .int 0, .int 0, .int 0]) := (he42 8 (by omega)).trans E41_8
  have E42_9 : en42 9 = .inr (0, [.int 0, .int 0, .int 0, .int 0, .int 0, .int 0, .int 0, .int 0]) := (he42 9 (by omega)).trans E41_9
  have E42_10 : en42 10 = .inr (0, [.int 0, .int 0, .int 0, .int 0, .int 0, .int 0, .int 0, .int 0]) := (he42 10 (by omega)).trans E41_10
  have E42_11 : en42 11 = .inr (0, [.int 0, .int 0, .int 0, .int 0, .int 0, .int 0, .int 0, .int 0]) := (he42 11 (by omega)).trans E41_11
  have E42_12 : en42 12 = .inr (0, [.int 0, .int 0, .int 0, .int 0, .int 0, .int 0, .int 0, .int 0]) := (he42 12 (by omega)).trans E41_12
  have E42_13 : en42 13 = .inr (0, [.int 0, .int 0, .int 0, .int 0, .int 0, .int 0, .int 0, .int 0]) := (he42 13 (by omega)).trans E41_13
  have E42_14 : en42 14 = .inr (0, [.int 0, .int 0, .int 0, .int 0, .int 0, .int 0, .int 0, .int 0]) := (he42 14 (by omega)).trans E41_14
  have A42_15 : ad42 15 = q15 := hq42
  have E42_15 : en42 15 = .inr (0, [.int 0, .int 0, .int 0, .int 0, .int 0, .int 0, .int 0, .int 0]) := hn42 0
  refine o_astq (r := (RX0, TX0, 8)) hx hb hK hI 2 3 15 0 (by omega) (by omega) A42_2 A42_15 E42_2 rfl E42_15 rfl (by decide) 11 (by decide) rfl dX4_init_60 (fun en43 H locs he43 hn43 hI => ?_)
  have E43_0 : en43 0 = .inr (4, [.ref q1, .ref q2, .ref q3, .int 0, .int 0, .int 0, .int 0]) := (he43 0 (by omega)).trans E42_0
  have E43_1 : en43 1 = .inl (g 0, 4, .inl (va_cpy fsT (fun _ => 0) 0 0 4)) := (he43 1 (by omega)).trans E42_1
  have E43_3 : en43 3 = .inl (g 0, 4, .inl (fun _ => 0)) := (he43 3 (by omega)).trans E42_3
  have E43_4 : en43 4 = .inr (0, [.int 0, .int 0, .int 0, .int 0, .int 0, .int 0, .int 0, .int 0]) := (he43 4 (by omega)).trans E42_4
  have E43_5 : en43 5 = .inr (0, [.int 0, .int 0, .int 0, .int 0, .int 0, .int 0, .int 0, .int 0]) := (he43 5 (by omega)).trans E42_5
  have E43_6 : en43 6 = .inr (0, [.int 0, .int 0, .int 0, .int 0, .int 0, .int 0, .int 0, .int 0]) := (he43 6 (by omega)).trans E42_6
  have E43_7 : en43 7 = .inr (0, [.int 0, .int 0, .int 0, .int 0, .int 0, .int 0, .int 0, .int 0]) := (he43 7 (by omega)).trans E42_7
  have E43_8 : en43 8 = .inr (0, [.int 0, .int 0, .int 0, .int 0, .int 0, .int 0, .int 0, .int 0]) := (he43 8 (by omega)).trans E42_8
  have E43_9 : en43 9 = .inr (0, [.int 0, .int 0, .int 0, .int 0, .int 0, .int 0, .int 0, .int 0]) := (he43 9 (by omega)).trans E42_9
  have E43_10 : en43 10 = .inr (0, [.int 0, .int 0, .int 0, .int 0, .int 0, .int 0, .int 0, .int 0]) := (he43 10 (by omega)).trans E42_10
  have E43_11 : en43 11 = .inr (0, [.int 0, .int 0, .int 0, .int 0, .int 0, .int 0, .int 0, .int 0]) := (he43 11 (by omega)).trans E42_11
  have E43_12 : en43 12 = .inr (0, [.int 0, .int 0, .int 0, .int 0, .int 0, .int 0, .int 0, .int 0]) := (he43 12 (by omega)).trans E42_12
  have E43_13 : en43 13 = .inr (0, [.int 0, .int 0, .int 0, .int 0, .int 0, .int 0, .int 0, .int 0]) := (he43 13 (by omega)).trans E42_13
  have E43_14 : en43 14 = .inr (0, [.int 0, .int 0, .int 0, .int 0, .int 0, .int 0, .int 0, .int 0]) := (he43 14 (by omega)).trans E42_14
  have E43_15 : en43 15 = .inr (0, [.int 0, .int 0, .int 0, .int 0, .int 0, .int 0, .int 0, .int 0]) := (he43 15 (by omega)).trans E42_15
  have E43_2 : en43 2 = .inl (g 3, 16, .inr (.inr (.inr (.inr (va_up (va_up (va_up (va_up (va_up (va_up (va_up (va_up (va_up (va_up (va_up (va_up (fun _ => none) 0 (some q4)) 1 (some q5)) 2 (some q6)) 3 (some q7)) 4 (some q8)) 5 (some q9)) 6 (some q10)) 7 (some q11)) 8 (some q12)) 9 (some q13)) 10 (some q14)) 11 (some q15)))))) := hn43
  refine lv_iinc (v := 12) (lv' := [(1, .int 12), (0, .ref b)]) hx hb dX4_init_61 hl (k := 0) rfl (by decide) (by decide) rfl (fun ls hl => ?_)
  refine lv_goto (tgt := 42) hx hb dX4_init_64 (by decide) ?_
  refine lv_iload_n hx hb dX4_init_42 rfl (lv_at hl 0 rfl) ?_
  refine lv_bipush (v := 16) hx hb dX4_init_43 (by decide) ?_
  refine lv_icmp_ge (tgt := 67) hx hb dX4_init_45 (by decide) (fun c13 => absurd c13 (by decide)) (fun _ => ?_)
  refine lv_aload_n hx hb dX4_init_48 rfl (lv_at hl 1 rfl) ?_
  refine o_get hx hb hts hinX4 hown hK hI 0 (by omega) A42_0 E43_0 (ci := 4) rfl 1 (by decide) (hts (.fieldLink RX4 17 "WinderLadders$State" "clocks" "[LWinderLadders$Clock;") (by decide +kernel)) (v := .ref q2) rfl dX4_init_49 ?_
  refine lv_iload_n hx hb dX4_init_52 rfl (lv_at hl 0 rfl) ?_
  refine o_new (fs := [.int 0, .int 0, .int 0, .int 0, .int 0, .int 0, .int 0, .int 0]) hx hb hts hinX0 tyX0 tyX0_ok hown (hts (.classLink RX4 15 RX0) (by decide +kernel)) (hts (.instantiable RX0 8) (by decide +kernel)) (hts (.initialized RX0) (by decide +kernel)) hK hI hA (ci := 0) rfl (by decide) (Nat.le_of_ble_eq_true rfl) (Nat.le_of_ble_eq_true rfl) dX4_init_53 (fun ad44 en44 H ha44 he44 hn44 hI => ?_)
  have A44_0 : ad44 0 = b := (ha44 0 (by omega)).trans A42_0
  have A44_1 : ad44 1 = q1 := (ha44 1 (by omega)).trans A42_1
  have A44_2 : ad44 2 = q2 := (ha44 2 (by omega)).trans A42_2
  have A44_3 : ad44 3 = q3 := (ha44 3 (by omega)).trans A42_3
  have A44_4 : ad44 4 = q4 := (ha44 4 (by omega)).trans A42_4
  have A44_5 : ad44 5 = q5 := (ha44 5 (by omega)).trans A42_5
  have A44_6 : ad44 6 = q6 := (ha44 6 (by omega)).trans A42_6
  have A44_7 : ad44 7 = q7 := (ha44 7 (by omega)).trans A42_7
  have A44_8 : ad44 8 = q8 := (ha44 8 (by omega)).trans A42_8
  have A44_9 : ad44 9 = q9 := (ha44 9 (by omega)).trans A42_9
  have A44_10 : ad44 10 = q10 := (ha44 10 (by omega)).trans A42_10
  have A44_11 : ad44 11 = q11 := (ha44 11 (by omega)).trans A42_11
  have A44_12 : ad44 12 = q12 := (ha44 12 (by omega)).trans A42_12
  have A44_13 : ad44 13 = q13 := (ha44 13 (by omega)).trans A42_13
  have A44_14 : ad44 14 = q14 := (ha44 14 (by omega)).trans A42_14
  have A44_15 : ad44 15 = q15 := (ha44 15 (by omega)).trans A42_15
  have E44_0 : en44 0 = .inr (4, [.ref q1, .ref q2, .ref q3, .int 0, .int 0, .int 0, .int 0]) := (he44 0 (by omega)).trans E43_0
  have E44_1 : en44 1 = .inl (g 0, 4, .inl (va_cpy fsT (fun _ => 0) 0 0 4)) := (he44 1 (by omega)).trans E43_1
  have E44_2 : en44 2 = .inl (g 3, 16, .inr (.inr (.inr (.inr (va_up (va_up (va_up (va_up (va_up (va_up (va_up (va_up (va_up (va_up (va_up (va_up (fun _ => none) 0 (some q4)) 1 (some q5)) 2 (some q6)) 3 (some q7)) 4 (some q8)) 5 (some q9)) 6 (some q10)) 7 (some q11)) 8 (some q12)) 9 (some q13)) 10 (some q14)) 11 (some q15)))))) := (he44 2 (by omega)).trans E43_2
  have E44_3 : en44 3 = .inl (g 0, 4, .inl (fun _ => 0)) := (he44 3 (by omega)).trans E43_3
  have E44_4 : en44 4 = .inr (0, [.int 0, .int 0, .int 0, .int 0, .int 0, .int 0, .int 0, .int 0]) := (he44 4 (by omega)).trans E43_4
  have E44_5 : en44 5 = .inr (0, [.int 0, .int 0, .int 0, .int 0, .int 0, .int 0, .int 0, .int 0]) := (he44 5 (by omega)).trans E43_5
  have E44_6 : en44 6 = .inr (0, [.int 0, .int 0, .int 0, .int 0, .int 0, .int 0, .int 0, .int 0]) := (he44 6 (by omega)).trans E43_6
  have E44_7 : en44 7 = .inr (0, [.int 0, .int 0, .int 0, .int 0, .int 0, .int 0, .int 0, .int 0]) := (he44 7 (by omega)).trans E43_7
  have E44_8 : en44 8 = .inr (0, [.int 0, .int 0, .int 0, .int 0, .int 0, .int 0, .int 0, .int 0]) := (he44 8 (by omega)).trans E43_8
  have E44_9 : en44 9 = .inr (0, [.int 0, .int 0, .int 0, .int 0, .int 0, .int 0, .int 0, .int 0]) := (he44 9 (by omega)).trans E43_9
  have E44_10 : en44 10 = .inr (0, [.int 0, .int 0, .int 0, .int 0, .int 0, .int 0, .int 0, .int 0]) := (he44 10 (by omega)).trans E43_10
  have E44_11 : en44 11 = .inr (0, [.int 0, .int 0, .int 0, .int 0, .int 0, .int 0, .int 0, .int 0]) := (he44 11 (by omega)).trans E43_11
  have E44_12 : en44 12 = .inr (0, [.int 0, .int 0, .int 0, .int 0, .int 0, .int 0, .int 0, .int 0]) := (he44 12 (by omega)).trans E43_12
  have E44_13 : en44 13 = .inr (0, [.int 0, .int 0, .int 0, .int 0, .int 0, .int 0, .int 0, .int 0]) := (he44 13 (by omega)).trans E43_13
  have E44_14 : en44 14 = .inr (0, [.int 0, .int 0, .int 0, .int 0, .int 0, .int 0, .int 0, .int 0]) := (he44 14 (by omega)).trans E43_14
  have E44_15 : en44 15 = .inr (0, [.int 0, .int 0, .int 0, .int 0, .int 0, .int 0, .int 0, .int 0]) := (he44 15 (by omega)).trans E43_15
  obtain ⟨q16, A44_16⟩ : ∃ z, ad44 16 = z := ⟨_, rfl⟩
  rw [A44_16]
  have E44_16 := hn44
  refine lv_dup hx hb dX4_init_56 rfl ?_
  refine o_initN (mm := 1) (rest := [.ref q16, .int 12, .ref q2]) hx hb hml hown hts hK hX hI hA hA0 A44_16 E44_16 (k_X0_init l dd g sz0 q16 H.size) ⟨va_cnB 0 hts gX4_init_X0_init_n33 rfl rfl rfl hX3 (hts (.initialized RX0) (by decide +kernel)) (by decide +kernel) ⟨Nat.le_of_ble_eq_true rfl, Nat.le_of_ble_eq_true rfl⟩, rfl, hts (.instanceMethod yX0_init) (by decide +kernel)⟩ hl (Nat.le_of_ble_eq_true rfl) ⟨Nat.le_of_ble_eq_true rfl, Nat.le_of_ble_eq_true rfl⟩ dX4_init_57 (fun ad45 en45 H locs ha45 hq45 he45 hn45 hI => ?_)
  have A45_0 : ad45 0 = b := (ha45 0 (by omega)).trans A44_0
  have A45_1 : ad45 1 = q1 := (ha45 1 (by omega)).trans A44_1
  have A45_2 : ad45 2 = q2 := (ha45 2 (by omega)).trans A44_2
  have A45_3 : ad45 3 = q3 := (ha45 3 (by omega)).trans A44_3
  have A45_4 : ad45 4 = q4 := (ha45 4 (by omega)).trans A44_4
  have A45_5 : ad45 5 = q5 := (ha45 5 (by omega)).trans A44_5
  have A45_6 : ad45 6 = q6 := (ha45 6 (by omega)).trans A44_6
  have A45_7 : ad45 7 = q7 := (ha45 7 (by omega)).trans A44_7
  have A45_8 : ad45 8 = q8 := (ha45 8 (by omega)).trans A44_8
  have A45_9 : ad45 9 = q9 := (ha45 9 (by omega)).trans A44_9
  have A45_10 : ad45 10 = q10 := (ha45 10 (by omega)).trans A44_10
  have A45_11 : ad45 11 = q11 := (ha45 11 (by omega)).trans A44_11
  have A45_12 : ad45 12 = q12 := (ha45 12 (by omega)).trans A44_12
  have A45_13 : ad45 13 = q13 := (ha45 13 (by omega)).trans A44_13
  have A45_14 : ad45 14 = q14 := (ha45 14 (by omega)).trans A44_14
  have A45_15 : ad45 15 = q15 := (ha45 15 (by omega)).trans A44_15
  have E45_0 : en45 0 = .inr (4, [.ref q1, .ref q2, .ref q3, .int 0, .int 0, .int 0, .int 0]) := (he45 0 (by omega)).trans E44_0
  have E45_1 : en45 1 = .inl (g 0, 4, .inl (va_cpy fsT (fun _ => 0) 0 0 4)) := (he45 1 (by omega)).trans E44_1
  have E45_2 : en45 2 = .inl (g 3, 16, .inr (.inr (.inr (.inr (va_up (va_up (va_up (va_up (va_up (va_up (va_up (va_up (va_up (va_up (va_up (va_up (fun _ => none) 0 (some q4)) 1 (some q5)) 2 (some q6)) 3 (some q7)) 4 (some q8)) 5 (some q9)) 6 (some q10)) 7 (some q11)) 8 (some q12)) 9 (some q13)) 10 (some q14)) 11 (some q15)))))) := (he45 2 (by omega)).trans E44_2
  have E45_3 : en45 3 = .inl (g 0, 4, .inl (fun _ => 0)) := (he45 3 (by omega)).trans E44_3
  have E45_4 : en45 4 = .inr (0, [.int 0, .int 0, .int 0, .int 0, .int 0, .int 0, .int 0, .int 0]) := (he45 4 (by omega)).trans E44_4
  have E45_5 : en45 5 = .inr (0, [.int 0, .int 0, .int 0, .int 0, .int 0, .int 0, .int 0, .int 0]) := (he45 5 (by omega)).trans E44_5
  have E45_6 : en45 6 = .inr (0, [.int 0, .int 0, .int 0, .int 0, .int 0, .int 0, .int 0, .int 0]) := (he45 6 (by omega)).trans E44_6
  have E45_7 : en45 7 = .inr (0, [.int 0, .int 0, .int 0, .int 0, .int 0, .int 0, .int 0, .int 0]) := (he45 7 (by omega)).trans E44_7
  have E45_8 : en45 8 = .inr (0, [.int 0, .int 0, .int 0, .int 0, .int 0, .int 0, .int 0, .int 0]) := (he45 8 (by omega)).trans E44_8
  have E45_9 : en45 9 = .inr (0, [.int 0, .int 0, .int 0, .int 0, .int 0, .int 0, .int 0, .int 0]) := (he45 9 (by omega)).trans E44_9
  have E45_10 : en45 10 = .inr (0, [.int 0, .int 0, .int 0, .int 0, .int 0, .int 0, .int 0, .int 0]) := (he45 10 (by omega)).trans E44_10
  have E45_11 : en45 11 = .inr (0, [.int 0, .int 0, .int 0, .int 0, .int 0, .int 0, .int 0, .int 0]) := (he45 11 (by omega)).trans E44_11
  have E45_12 : en45 12 = .inr (0, [.int 0, .int 0, .int 0, .int 0, .int 0, .int 0, .int 0, .int 0]) := (he45 12 (by omega)).trans E44_12
  have E45_13 : en45 13 = .inr (0, [.int 0, .int 0, .int 0, .int 0, .int 0, .int 0, .int 0, .int 0]) := (he45 13 (by omega)).trans E44_13
  have E45_14 : en45 14 = .inr (0, [.int 0, .int 0, .int 0, .int 0, .int 0, .int 0, .int 0, .int 0]) := (he45 14 (by omega)).trans E44_14
  have E45_15 : en45 15 = .inr (0, [.int 0, .int 0, .int 0, .int 0, .int 0, .int 0, .int 0, .int 0]) := (he45 15 (by omega)).trans E44_15
  have A45_16 : ad45 16 = q16 := hq45
  have E45_16 : en45 16 = .inr (0, [.int 0, .int 0, .int 0, .int 0, .int 0, .int 0, .int 0, .int 0]) := hn45 0
  refine o_astq (r := (RX0, TX0, 8)) hx hb hK hI 2 3 16 0 (by omega) (by omega) A45_2 A45_16 E45_2 rfl E45_16 rfl (by decide) 12 (by decide) rfl dX4_init_60 (fun en46 H locs he46 hn46 hI => ?_)
  have E46_0 : en46 0 = .inr (4, [.ref q1, .ref q2, .ref q3, .int 0, .int 0, .int 0, .int 0]) := (he46 0 (by omega)).trans E45_0
  have E46_1 : en46 1 = .inl (g 0, 4, .inl (va_cpy fsT (fun _ => 0) 0 0 4)) := (he46 1 (by omega)).trans E45_1
  have E46_3 : en46 3 = .inl (g 0, 4, .inl (fun _ => 0)) := (he46 3 (by omega)).trans E45_3
  have E46_4 : en46 4 = .inr (0, [.int 0, .int 0, .int 0, .int 0, .int 0, .int 0, .int 0, .int 0]) := (he46 4 (by omega)).trans E45_4
  have E46_5 : en46 5 = .inr (0, [.int 0, .int 0, .int 0, .int 0, .int 0, .int 0, .int 0, .int 0]) := (he46 5 (by omega)).trans E45_5
  have E46_6 : en46 6 = .inr (0, [.int 0, .int 0, .int 0, .int 0, .int 0, .int 0, .int 0, .int 0]) := (he46 6 (by omega)).trans E45_6
  have E46_7 : en46 7 = .inr (0, [.int 0, .int 0, .int 0, .int 0, .int 0, .int 0, .int 0, .int 0]) := (he46 7 (by omega)).trans E45_7
  have E46_8 : en46 8 = .inr (0, [.int 0, .int 0, .int 0, .int 0, .int 0, .int 0, .int 0, .int 0]) := (he46 8 (by omega)).trans E45_8
  have E46_9 : en46 9 = .inr (0, [.int 0, .int 0, .int 0, .int 0, .int 0, .int 0, .int 0, .int 0]) := (he46 9 (by omega)).trans E45_9
  have E46_10 : en46 10 = .inr (0, [.int 0, .int 0, .int 0, .int 0, .int 0, .int 0, .int 0, .int 0]) := (he46 10 (by omega)).trans E45_10
  have E46_11 : en46 11 = .inr (0, [.int 0, .int 0, .int 0, .int 0, .int 0, .int 0, .int 0, .int 0]) := (he46 11 (by omega)).trans E45_11
  have E46_12 : en46 12 = .inr (0, [.int 0, .int 0, .int 0, .int 0, .int 0, .int 0, .int 0, .int 0]) := (he46 12 (by omega)).trans E45_12
  have E46_13 : en46 13 = .inr (0, [.int 0, .int 0, .int 0, .int 0, .int 0, .int 0, .int 0, .int 0]) := (he46 13 (by omega)).trans E45_13
  have E46_14 : en46 14 = .inr (0, [.int 0, .int 0, .int 0, .int 0, .int 0, .int 0, .int 0, .int 0]) := (he46 14 (by omega)).trans E45_14
  have E46_15 : en46 15 = .inr (0, [.int 0, .int 0, .int 0, .int 0, .int 0, .int 0, .int 0, .int 0]) := (he46 15 (by omega)).trans E45_15
  have E46_16 : en46 16 = .inr (0, [.int 0, .int 0, .int 0, .int 0, .int 0, .int 0, .int 0, .int 0]) := (he46 16 (by omega)).trans E45_16
  have E46_2 : en46 2 = .inl (g 3, 16, .inr (.inr (.inr (.inr (va_up (va_up (va_up (va_up (va_up (va_up (va_up (va_up (va_up (va_up (va_up (va_up (va_up (fun _ => none) 0 (some q4)) 1 (some q5)) 2 (some q6)) 3 (some q7)) 4 (some q8)) 5 (some q9)) 6 (some q10)) 7 (some q11)) 8 (some q12)) 9 (some q13)) 10 (some q14)) 11 (some q15)) 12 (some q16)))))) := hn46
  refine lv_iinc (v := 13) (lv' := [(1, .int 13), (0, .ref b)]) hx hb dX4_init_61 hl (k := 0) rfl (by decide) (by decide) rfl (fun ls hl => ?_)
  refine lv_goto (tgt := 42) hx hb dX4_init_64 (by decide) ?_
  refine lv_iload_n hx hb dX4_init_42 rfl (lv_at hl 0 rfl) ?_
  refine lv_bipush (v := 16) hx hb dX4_init_43 (by decide) ?_
  refine lv_icmp_ge (tgt := 67) hx hb dX4_init_45 (by decide) (fun c14 => absurd c14 (by decide)) (fun _ => ?_)
  refine lv_aload_n hx hb dX4_init_48 rfl (lv_at hl 1 rfl) ?_
  refine o_get hx hb hts hinX4 hown hK hI 0 (by omega) A45_0 E46_0 (ci := 4) rfl 1 (by decide) (hts (.fieldLink RX4 17 "WinderLadders$State" "clocks" "[LWinderLadders$Clock;") (by decide +kernel)) (v := .ref q2) rfl dX4_init_49 ?_
  refine lv_iload_n hx hb dX4_init_52 rfl (lv_at hl 0 rfl) ?_
  refine o_new (fs := [.int 0, .int 0, .int 0, .int 0, .int 0, .int 0, .int 0, .int 0]) hx hb hts hinX0 tyX0 tyX0_ok hown (hts (.classLink RX4 15 RX0) (by decide +kernel)) (hts (.instantiable RX0 8) (by decide +kernel)) (hts (.initialized RX0) (by decide +kernel)) hK hI hA (ci := 0) rfl (by decide) (Nat.le_of_ble_eq_true rfl) (Nat.le_of_ble_eq_true rfl) dX4_init_53 (fun ad47 en47 H ha47 he47 hn47 hI => ?_)
  have A47_0 : ad47 0 = b := (ha47 0 (by omega)).trans A45_0
  have A47_1 : ad47 1 = q1 := (ha47 1 (by omega)).trans A45_1
  have A47_2 : ad47 2 = q2 := (ha47 2 (by omega)).trans A45_2
  have A47_3 : ad47 3 = q3 := (ha47 3 (by omega)).trans A45_3
  have A47_4 : ad47 4 = q4 := (ha47 4 (by omega)).trans A45_4
  have A47_5 : ad47 5 = q5 := (ha47 5 (by omega)).trans A45_5
  have A47_6 : ad47 6 = q6 := (ha47 6 (by omega)).trans A45_6
  have A47_7 : ad47 7 = q7 := (ha47 7 (by omega)).trans A45_7
  have A47_8 : ad47 8 = q8 := (ha47 8 (by omega)).trans A45_8
  have A47_9 : ad47 9 = q9 := (ha47 9 (by omega)).trans A45_9
  have A47_10 : ad47 10 = q10 := (ha47 10 (by omega)).trans A45_10
  have A47_11 : ad47 11 = q11 := (ha47 11 (by omega)).trans A45_11
  have A47_12 : ad47 12 = q12 := (ha47 12 (by omega)).trans A45_12
  have A47_13 : ad47 13 = q13 := (ha47 13 (by omega)).trans A45_13
  have A47_14 : ad47 14 = q14 := (ha47 14 (by omega)).trans A45_14
  have A47_15 : ad47 15 = q15 := (ha47 15 (by omega)).trans A45_15
  have A47_16 : ad47 16 = q16 := (ha47 16 (by omega)).trans A45_16
  have E47_0 : en47 0 = .inr (4, [.ref q1, .ref q2, .ref q3, .int 0, .int 0, .int 0, .int 0]) := (he47 0 (by omega)).trans E46_0
  have E47_1 : en47 1 = .inl (g 0, 4, .inl (va_cpy fsT (fun _ => 0) 0 0 4)) := (he47 1 (by omega)).trans E46_1
  have E47_2 : en47 2 = .inl (g 3, 16, .inr (.inr (.inr (.inr (va_up (va_up (va_up (va_up (va_up (va_up (va_up (va_up (va_up (va_up (va_up (va_up (va_up (fun _ => none) 0 (some q4)) 1 (some q5)) 2 (some q6)) 3 (some q7)) 4 (some q8)) 5 (some q9)) 6 (some q10)) 7 (some q11)) 8 (some q12)) 9 (some q13)) 10 (some q14)) 11 (some q15)) 12 (some q16)))))) := (he47 2 (by omega)).trans E46_2
  have E47_3 : en47 3 = .inl (g 0, 4, .inl (fun _ => 0)) := (he47 3 (by omega)).trans E46_3
  have E47_4 : en47 4 = .inr (0, [.int 0, .int 0, .int 0, .int 0, .int 0, .int 0, .int 0, .int 0]) := (he47 4 (by omega)).trans E46_4
  have E47_5 : en47 5 = .inr (0, [.int 0, .int 0, .int 0, .int 0, .int 0, .int 0, .int 0, .int 0]) := (he47 5 (by omega)).trans E46_5
  have E47_6 : en47 6 = .inr (0, [.int 0, .int 0, .int 0, .int 0, .int 0, .int 0, .int 0, .int 0]) := (he47 6 (by omega)).trans E46_6
  have E47_7 : en47 7 = .inr (0, [.int 0, .int 0, .int 0, .int 0, .int 0, .int 0, .int 0, .int 0]) := (he47 7 (by omega)).trans E46_7
  have E47_8 : en47 8 = .inr (0, [.int 0, .int 0, .int 0, .int 0, .int 0, .int 0, .int 0, .int 0]) := (he47 8 (by omega)).trans E46_8
  have E47_9 : en47 9 = .inr (0, [.int 0, .int 0, .int 0, .int 0, .int 0, .int 0, .int 0, .int 0]) := (he47 9 (by omega)).trans E46_9
  have E47_10 : en47 10 = .inr (0, [.int 0, .int 0, .int 0, .int 0, .int 0, .int 0, .int 0, .int 0]) := (he47 10 (by omega)).trans E46_10
  have E47_11 : en47 11 = .inr (0, [.int 0, .int 0, .int 0, .int 0, .int 0, .int 0, .int 0, .int 0]) := (he47 11 (by omega)).trans E46_11
  have E47_12 : en47 12 = .inr (0, [.int 0, .int 0, .int 0, .int 0, .int 0, .int 0, .int 0, .int 0]) := (he47 12 (by omega)).trans E46_12
  have E47_13 : en47 13 = .inr (0, [.int 0, .int 0, .int 0, .int 0, .int 0, .int 0, .int 0, .int 0]) := (he47 13 (by omega)).trans E46_13
  have E47_14 : en47 14 = .inr (0, [.int 0, .int 0, .int 0, .int 0, .int 0, .int 0, .int 0, .int 0]) := (he47 14 (by omega)).trans E46_14
  have E47_15 : en47 15 = .inr (0, [.int 0, .int 0, .int 0, .int 0, .int 0, .int 0, .int 0, .int 0]) := (he47 15 (by omega)).trans E46_15
  have E47_16 : en47 16 = .inr (0, [.int 0, .int 0, .int 0, .int 0, .int 0, .int 0, .int 0, .int 0]) := (he47 16 (by omega)).trans E46_16
  obtain ⟨q17, A47_17⟩ : ∃ z, ad47 17 = z := ⟨_, rfl⟩
  rw [A47_17]
  have E47_17 := hn47
  refine lv_dup hx hb dX4_init_56 rfl ?_
  refine o_initN (mm := 1) (rest := [.ref q17, .int 13, .ref q2]) hx hb hml hown hts hK hX hI hA hA0 A47_17 E47_17 (k_X0_init l dd g sz0 q17 H.size) ⟨va_cnB 0 hts gX4_init_X0_init_n33 rfl rfl rfl hX3 (hts (.initialized RX0) (by decide +kernel)) (by decide +kernel) ⟨Nat.le_of_ble_eq_true rfl, Nat.le_of_ble_eq_true rfl⟩, rfl, hts (.instanceMethod yX0_init) (by decide +kernel)⟩ hl (Nat.le_of_ble_eq_true rfl) ⟨Nat.le_of_ble_eq_true rfl, Nat.le_of_ble_eq_true rfl⟩ dX4_init_57 (fun ad48 en48 H locs ha48 hq48 he48 hn48 hI => ?_)
  have A48_0 : ad48 0 = b := (ha48 0 (by omega)).trans A47_0
  have A48_1 : ad48 1 = q1 := (ha48 1 (by omega)).trans A47_1
  have A48_2 : ad48 2 = q2 := (ha48 2 (by omega)).trans A47_2
  have A48_3 : ad48 3 = q3 := (ha48 3 (by omega)).trans A47_3
  have A48_4 : ad48 4 = q4 := (ha48 4 (by omega)).trans A47_4
  have A48_5 : ad48 5 = q5 := (ha48 5 (by omega)).trans A47_5
  have A48_6 : ad48 6 = q6 := (ha48 6 (by omega)).trans A47_6
  have A48_7 : ad48 7 = q7 := (ha48 7 (by omega)).trans A47_7
  have A48_8 : ad48 8 = q8 := (ha48 8 (by omega)).trans A47_8
  have A48_9 : ad48 9 = q9 := (ha48 9 (by omega)).trans A47_9
  have A48_10 : ad48 10 = q10 := (ha48 10 (by omega)).trans A47_10
  have A48_11 : ad48 11 = q11 := (ha48 11 (by omega)).trans A47_11
  have A48_12 : ad48 12 = q12 := (ha48 12 (by omega)).trans A47_12
  have A48_13 : ad48 13 = q13 := (ha48 13 (by omega)).trans A47_13
  have A48_14 : ad48 14 = q14 := (ha48 14 (by omega)).trans A47_14
  have A48_15 : ad48 15 = q15 := (ha48 15 (by omega)).trans A47_15
  have A48_16 : ad48 16 = q16 := (ha48 16 (by omega)).trans A47_16
  have E48_0 : en48 0 = .inr (4, [.ref q1, .ref q2, .ref q3, .int 0, .int 0, .int 0, .int 0]) := (he48 0 (by omega)).trans E47_0
  have E48_1 : en48 1 = .inl (g 0, 4, .inl (va_cpy fsT (fun _ => 0) 0 0 4)) := (he48 1 (by omega)).trans E47_1
  have E48_2 : en48 2 = .inl (g 3, 16, .inr (.inr (.inr (.inr (va_up (va_up (va_up (va_up (va_up (va_up (va_up (va_up (va_up (va_up (va_up (va_up (va_up (fun _ => none) 0 (some q4)) 1 (some q5)) 2 (some q6)) 3 (some q7)) 4 (some q8)) 5 (some q9)) 6 (some q10)) 7 (some q11)) 8 (some q12)) 9 (some q13)) 10 (some q14)) 11 (some q15)) 12 (some q16)))))) := (he48 2 (by omega)).trans E47_2
  have E48_3 : en48 3 = .inl (g 0, 4, .inl (fun _ => 0)) := (he48 3 (by omega)).trans E47_3
  have E48_4 : en48 4 = .inr (0, [.int 0, .int 0, .int 0, .int 0, .int 0, .int 0, .int 0, .int 0]) := (he48 4 (by omega)).trans E47_4
  have E48_5 : en48 5 = .inr (0, [.int 0, .int 0, .int 0, .int 0, .int 0, .int 0, .int 0, .int 0]) := (he48 5 (by omega)).trans E47_5
  have E48_6 : en48 6 = .inr (0, [.int 0, .int 0, .int 0, .int 0, .int 0, .int 0, .int 0, .int 0]) := (he48 6 (by omega)).trans E47_6
  have E48_7 : en48 7 = .inr (0, [.int 0, .int 0, .int 0, .int 0, .int 0, .int 0, .int 0, .int 0]) := (he48 7 (by omega)).trans E47_7
  have E48_8 : en48 8 = .inr (0, [.int 0, .int 0, .int 0, .int 0, .int 0, .int 0, .int 0, .int 0]) := (he48 8 (by omega)).trans E47_8
  have E48_9 : en48 9 = .inr (0, [.int 0, .int 0, .int 0, .int 0, .int 0, .int 0, .int 0, .int 0]) := (he48 9 (by omega)).trans E47_9
  have E48_10 : en48 10 = .inr (0, [.int 0, .int 0, .int 0, .int 0, .int 0, .int 0, .int 0, .int 0]) := (he48 10 (by omega)).trans E47_10
  have E48_11 : en48 11 = .inr (0, [.int 0, .int 0, .int 0, .int 0, .int 0, .int 0, .int 0, .int 0]) := (he48 11 (by omega)).trans E47_11
  have E48_12 : en48 12 = .inr (0, [.int 0, .int 0, .int 0, .int 0, .int 0, .int 0, .int 0, .int 0]) := (he48 12 (by omega)).trans E47_12
  have E48_13 : en48 13 = .inr (0, [.int 0, .int 0, .int 0, .int 0, .int 0, .int 0, .int 0, .int 0]) := (he48 13 (by omega)).trans E47_13
  have E48_14 : en48 14 = .inr (0, [.int 0, .int 0, .int 0, .int 0, .int 0, .int 0, .int 0, .int 0]) := (he48 14 (by omega)).trans E47_14
  have E48_15 : en48 15 = .inr (0, [.int 0, .int 0, .int 0, .int 0, .int 0, .int 0, .int 0, .int 0]) := (he48 15 (by omega)).trans E47_15
  have E48_16 : en48 16 = .inr (0, [.int 0, .int 0, .int 0, .int 0, .int 0, .int 0, .int 0, .int 0]) := (he48 16 (by omega)).trans E47_16
  have A48_17 : ad48 17 = q17 := hq48
  have E48_17 : en48 17 = .inr (0, [.int 0, .int 0, .int 0, .int 0, .int 0, .int 0, .int 0, .int 0]) := hn48 0
  refine o_astq (r := (RX0, TX0, 8)) hx hb hK hI 2 3 17 0 (by omega) (by omega) A48_2 A48_17 E48_2 rfl E48_17 rfl (by decide) 13 (by decide) rfl dX4_init_60 (fun en49 H locs he49 hn49 hI => ?_)
  have E49_0 : en49 0 = .inr (4, [.ref q1, .ref q2, .ref q3, .int 0, .int 0, .int 0, .int 0]) := (he49 0 (by omega)).trans E48_0
  have E49_1 : en49 1 = .inl (g 0, 4, .inl (va_cpy fsT (fun _ => 0) 0 0 4)) := (he49 1 (by omega)).trans E48_1
  have E49_3 : en49 3 = .inl (g 0, 4, .inl (fun _ => 0)) := (he49 3 (by omega)).trans E48_3
  have E49_4 : en49 4 = .inr (0, [.int 0, .int 0, .int 0, .int 0, .int 0, .int 0, .int 0, .int 0]) := (he49 4 (by omega)).trans E48_4
  have E49_5 : en49 5 = .inr (0, [.int 0, .int 0, .int 0, .int 0, .int 0, .int 0, .int 0, .int 0]) := (he49 5 (by omega)).trans E48_5
  have E49_6 : en49 6 = .inr (0, [.int 0, .int 0, .int 0, .int 0, .int 0, .int 0, .int 0, .int 0]) := (he49 6 (by omega)).trans E48_6
  have E49_7 : en49 7 = .inr (0, [.int 0, .int 0, .int 0, .int 0, .int 0, .int 0, .int 0, .int 0]) := (he49 7 (by omega)).trans E48_7
  have E49_8 : en49 8 = .inr (0, [.int 0, .int 0, .int 0, .int 0, .int 0, .int 0, .int 0, .int 0]) := (he49 8 (by omega)).trans E48_8
  have E49_9 : en49 9 = .inr (0, [.int 0, .int 0, .int 0, .int 0, .int 0, .int 0, .int 0, .int 0]) := (he49 9 (by omega)).trans E48_9
  have E49_10 : en49 10 = .inr (0, [.int 0, .int 0, .int 0, .int 0, .int 0, .int 0, .int 0, .int 0]) := (he49 10 (by omega)).trans E48_10
  have E49_11 : en49 11 = .inr (0, [.int 0, .int 0, .int 0, .int 0, .int 0, .int 0, .int 0, .int 0]) := (he49 11 (by omega)).trans E48_11
  have E49_12 : en49 12 = .inr (0, [.int 0, .int 0, .int 0, .int 0, .int 0, .int 0, .int 0, .int 0]) := (he49 12 (by omega)).trans E48_12
  have E49_13 : en49 13 = .inr (0, [.int 0, .int 0, .int 0, .int 0, .int 0, .int 0, .int 0, .int 0]) := (he49 13 (by omega)).trans E48_13
  have E49_14 : en49 14 = .inr (0, [.int 0, .int 0, .int 0, .int 0, .int 0, .int 0, .int 0, .int 0]) := (he49 14 (by omega)).trans E48_14
  have E49_15 : en49 15 = .inr (0, [.int 0, .int 0, .int 0, .int 0, .int 0, .int 0, .int 0, .int 0]) := (he49 15 (by omega)).trans E48_15
  have E49_16 : en49 16 = .inr (0, [.int 0, .int 0, .int 0, .int 0, .int 0, .int 0, .int 0, .int 0]) := (he49 16 (by omega)).trans E48_16
  have E49_17 : en49 17 = .inr (0, [.int 0, .int 0, .int 0, .int 0, .int 0, .int 0, .int 0, .int 0]) := (he49 17 (by omega)).trans E48_17
  have E49_2 : en49 2 = .inl (g 3, 16, .inr (.inr (.inr (.inr (va_up (va_up (va_up (va_up (va_up (va_up (va_up (va_up (va_up (va_up (va_up (va_up (va_up (va_up (fun _ => none) 0 (some q4)) 1 (some q5)) 2 (some q6)) 3 (some q7)) 4 (some q8)) 5 (some q9)) 6 (some q10)) 7 (some q11)) 8 (some q12)) 9 (some q13)) 10 (some q14)) 11 (some q15)) 12 (some q16)) 13 (some q17)))))) := hn49
  refine lv_iinc (v := 14) (lv' := [(1, .int 14), (0, .ref b)]) hx hb dX4_init_61 hl (k := 0) rfl (by decide) (by decide) rfl (fun ls hl => ?_)
  refine lv_goto (tgt := 42) hx hb dX4_init_64 (by decide) ?_
  refine lv_iload_n hx hb dX4_init_42 rfl (lv_at hl 0 rfl) ?_
  refine lv_bipush (v := 16) hx hb dX4_init_43 (by decide) ?_
  refine lv_icmp_ge (tgt := 67) hx hb dX4_init_45 (by decide) (fun c15 => absurd c15 (by decide)) (fun _ => ?_)
  refine lv_aload_n hx hb dX4_init_48 rfl (lv_at hl 1 rfl) ?_
  refine o_get hx hb hts hinX4 hown hK hI 0 (by omega) A48_0 E49_0 (ci := 4) rfl 1 (by decide) (hts (.fieldLink RX4 17 "WinderLadders$State" "clocks" "[LWinderLadders$Clock;") (by decide +kernel)) (v := .ref q2) rfl dX4_init_49 ?_
  refine lv_iload_n hx hb dX4_init_52 rfl (lv_at hl 0 rfl) ?_
  refine o_new (fs := [.int 0, .int 0, .int 0, .int 0, .int 0, .int 0, .int 0, .int 0]) hx hb hts hinX0 tyX0 tyX0_ok hown (hts (.classLink RX4 15 RX0) (by decide +kernel)) (hts (.instantiable RX0 8) (by decide +kernel)) (hts (.initialized RX0) (by decide +kernel)) hK hI hA (ci := 0) rfl (by decide) (Nat.le_of_ble_eq_true rfl) (Nat.le_of_ble_eq_true rfl) dX4_init_53 (fun ad50 en50 H ha50 he50 hn50 hI => ?_)
  have A50_0 : ad50 0 = b := (ha50 0 (by omega)).trans A48_0
  have A50_1 : ad50 1 = q1 := (ha50 1 (by omega)).trans A48_1
  have A50_2 : ad50 2 = q2 := (ha50 2 (by omega)).trans A48_2
  have A50_3 : ad50 3 = q3 := (ha50 3 (by omega)).trans A48_3
  have A50_4 : ad50 4 = q4 := (ha50 4 (by omega)).trans A48_4
  have A50_5 : ad50 5 = q5 := (ha50 5 (by omega)).trans A48_5
  have A50_6 : ad50 6 = q6 := (ha50 6 (by omega)).trans A48_6
  have A50_7 : ad50 7 = q7 := (ha50 7 (by omega)).trans A48_7
  have A50_8 : ad50 8 = q8 := (ha50 8 (by omega)).trans A48_8
  have A50_9 : ad50 9 = q9 := (ha50 9 (by omega)).trans A48_9
  have A50_10 : ad50 10 = q10 := (ha50 10 (by omega)).trans A48_10
  have A50_11 : ad50 11 = q11 := (ha50 11 (by omega)).trans A48_11
  have A50_12 : ad50 12 = q12 := (ha50 12 (by omega)).trans A48_12
  have A50_13 : ad50 13 = q13 := (ha50 13 (by omega)).trans A48_13
  have A50_14 : ad50 14 = q14 := (ha50 14 (by omega)).trans A48_14
  have A50_15 : ad50 15 = q15 := (ha50 15 (by omega)).trans A48_15
  have A50_16 : ad50 16 = q16 := (ha50 16 (by omega)).trans A48_16
  have A50_17 : ad50 17 = q17 := (ha50 17 (by omega)).trans A48_17
  have E50_0 : en50 0 = .inr (4, [.ref q1, .ref q2, .ref q3, .int 0, .int 0, .int 0, .int 0]) := (he50 0 (by omega)).trans E49_0
  have E50_1 : en50 1 = .inl (g 0, 4, .inl (va_cpy fsT (fun _ => 0) 0 0 4)) := (he50 1 (by omega)).trans E49_1
  have E50_2 : en50 2 = .inl (g 3, 16, .inr (.inr (.inr (.inr (va_up (va_up (va_up (va_up (va_up (va_up (va_up (va_up (va_up (va_up (va_up (va_up (va_up (va_up (fun _ => none) 0 (some q4)) 1 (some q5)) 2 (some q6)) 3 (some q7)) 4 (some q8)) 5 (some q9)) 6 (some q10)) 7 (some q11)) 8 (some q12)) 9 (some q13)) 10 (some q14)) 11 (some q15)) 12 (some q16)) 13 (some q17)))))) := (he50 2 (by omega)).trans E49_2
  have E50_3 : en50 3 = .inl (g 0, 4, .inl (fun _ => 0)) := (he50 3 (by omega)).trans E49_3
  have E50_4 : en50 4 = .inr (0, [.int 0, .int 0, .int 0, .int 0, .int 0, .int 0, .int 0, .int 0]) := (he50 4 (by omega)).trans E49_4
  have E50_5 : en50 5 = .inr (0, [.int 0, .int 0, .int 0, .int 0, .int 0, .int 0, .int 0, .int 0]) := (he50 5 (by omega)).trans E49_5
  have E50_6 : en50 6 = .inr (0, [.int 0, .int 0, .int 0, .int 0, .int 0, .int 0, .int 0, .int 0]) := (he50 6 (by omega)).trans E49_6
  have E50_7 : en50 7 = .inr (0, [.int 0, .int 0, .int 0, .int 0, .int 0, .int 0, .int 0, .int 0]) := (he50 7 (by omega)).trans E49_7
  have E50_8 : en50 8 = .inr (0, [.int 0, .int 0, .int 0, .int 0, .int 0, .int 0, .int 0, .int 0]) := (he50 8 (by omega)).trans E49_8
  have E50_9 : en50 9 = .inr (0, [.int 0, .int 0, .int 0, .int 0, .int 0, .int 0, .int 0, .int 0]) := (he50 9 (by omega)).trans E49_9
  have E50_10 : en50 10 = .inr (0, [.int 0, .int 0, .int 0, .int 0, .int 0, .int 0, .int 0, .int 0]) := (he50 10 (by omega)).trans E49_10
  have E50_11 : en50 11 = .inr (0, [.int 0, .int 0, .int 0, .int 0, .int 0, .int 0, .int 0, .int 0]) := (he50 11 (by omega)).trans E49_11
  have E50_12 : en50 12 = .inr (0, [.int 0, .int 0, .int 0, .int 0, .int 0, .int 0, .int 0, .int 0]) := (he50 12 (by omega)).trans E49_12
  have E50_13 : en50 13 = .inr (0, [.int 0, .int 0, .int 0, .int 0, .int 0, .int 0, .int 0, .int 0]) := (he50 13 (by omega)).trans E49_13
  have E50_14 : en50 14 = .inr (0, [.int 0, .int 0, .int 0, .int 0, .int 0, .int 0, .int 0, .int 0]) := (he50 14 (by omega)).trans E49_14
  have E50_15 : en50 15 = .inr (0, [.int 0, .int 0, .int 0, .int 0, .int 0, .int 0, .int 0, .int 0]) := (he50 15 (by omega)).trans E49_15
  have E50_16 : en50 16 = .inr (0, [.int 0, .int 0, .int 0, .int 0, .int 0, .int 0, .int 0, .int 0]) := (he50 16 (by omega)).trans E49_16
  have E50_17 : en50 17 = .inr (0, [.int 0, .int 0, .int 0, .int 0, .int 0, .int 0, .int 0, .int 0]) := (he50 17 (by omega)).trans E49_17
  obtain ⟨q18, A50_18⟩ : ∃ z, ad50 18 = z := ⟨_, rfl⟩
  rw [A50_18]
  have E50_18 := hn50
  refine lv_dup hx hb dX4_init_56 rfl ?_
  refine o_initN (mm := 1) (rest := [.ref q18, .int 14, .ref q2]) hx hb hml hown hts hK hX hI hA hA0 A50_18 E50_18 (k_X0_init l dd g sz0 q18 H.size) ⟨va_cnB 0 hts gX4_init_X0_init_n33 rfl rfl rfl hX3 (hts (.initialized RX0) (by decide +kernel)) (by decide +kernel) ⟨Nat.le_of_ble_eq_true rfl, Nat.le_of_ble_eq_true rfl⟩, rfl, hts (.instanceMethod yX0_init) (by decide +kernel)⟩ hl (Nat.le_of_ble_eq_true rfl) ⟨Nat.le_of_ble_eq_true rfl, Nat.le_of_ble_eq_true rfl⟩ dX4_init_57 (fun ad51 en51 H locs ha51 hq51 he51 hn51 hI => ?_)
  have A51_0 : ad51 0 = b := (ha51 0 (by omega)).trans A50_0
  have A51_1 : ad51 1 = q1 := (ha51 1 (by omega)).trans A50_1
  have A51_2 : ad51 2 = q2 := (ha51 2 (by omega)).trans A50_2
  have A51_3 : ad51 3 = q3 := (ha51 3 (by omega)).trans A50_3
  have A51_4 : ad51 4 = q4 := (ha51 4 (by omega)).trans A50_4
  have A51_5 : ad51 5 = q5 := (ha51 5 (by omega)).trans A50_5
  have A51_6 : ad51 6 = q6 := (ha51 6 (by omega)).trans A50_6
  have A51_7 : ad51 7 = q7 := (ha51 7 (by omega)).trans A50_7
  have A51_8 : ad51 8 = q8 := (ha51 8 (by omega)).trans A50_8
  have A51_9 : ad51 9 = q9 := (ha51 9 (by omega)).trans A50_9
  have A51_10 : ad51 10 = q10 := (ha51 10 (by omega)).trans A50_10
  have A51_11 : ad51 11 = q11 := (ha51 11 (by omega)).trans A50_11
  have A51_12 : ad51 12 = q12 := (ha51 12 (by omega)).trans A50_12
  have A51_13 : ad51 13 = q13 := (ha51 13 (by omega)).trans A50_13
  have A51_14 : ad51 14 = q14 := (ha51 14 (by omega)).trans A50_14
  have A51_15 : ad51 15 = q15 := (ha51 15 (by omega)).trans A50_15
  have A51_16 : ad51 16 = q16 := (ha51 16 (by omega)).trans A50_16
  have A51_17 : ad51 17 = q17 := (ha51 17 (by omega)).trans A50_17
  have E51_0 : en51 0 = .inr (4, [.ref q1, .ref q2, .ref q3, .int 0, .int 0, .int 0, .int 0]) := (he51 0 (by omega)).trans E50_0
  have E51_1 : en51 1 = .inl (g 0, 4, .inl (va_cpy fsT (fun _ => 0) 0 0 4)) := (he51 1 (by omega)).trans E50_1
  have E51_2 : en51 2 = .inl (g 3, 16, .inr (.inr (.inr (.inr (va_up (va_up (va_up (va_up (va_up (va_up (va_up (va_up (va_up (va_up (va_up (va_up (va_up (va_up (fun _ => none) 0 (some q4)) 1 (some q5)) 2 (some q6)) 3 (some q7)) 4 (some q8)) 5 (some q9)) 6 (some q10)) 7 (some q11)) 8 (some q12)) 9 (some q13)) 10 (some q14)) 11 (some q15)) 12 (some q16)) 13 (some q17)))))) := (he51 2 (by omega)).trans E50_2
  have E51_3 : en51 3 = .inl (g 0, 4, .inl (fun _ => 0)) := (he51 3 (by omega)).trans E50_3
  have E51_4 : en51 4 = .inr (0, [.int 0, .int 0, .int 0, .int 0, .int 0, .int 0, .int 0, .int 0]) := (he51 4 (by omega)).trans E50_4
  have E51_5 : en51 5 = .inr (0, [.int 0, .int 0, .int 0, .int 0, .int 0, .int 0, .int 0, .int 0]) := (he51 5 (by omega)).trans E50_5
  have E51_6 : en51 6 = .inr (0, [.int 0, .int 0, .int 0, .int 0, .int 0, .int 0, .int 0, .int 0]) := (he51 6 (by omega)).trans E50_6
  have E51_7 : en51 7 = .inr (0, [.int 0, .int 0, .int 0, .int 0, .int 0, .int 0, .int 0, .int 0]) := (he51 7 (by omega)).trans E50_7
  have E51_8 : en51 8 = .inr (0, [.int 0, .int 0, .int 0, .int 0, .int 0, .int 0, .int 0, .int 0]) := (he51 8 (by omega)).trans E50_8
  have E51_9 : en51 9 = .inr (0, [.int 0, .int 0, .int 0, .int 0, .int 0, .int 0, .int 0, .int 0]) := (he51 9 (by omega)).trans E50_9
  have E51_10 : en51 10 = .inr (0, [.int 0, .int 0, .int 0, .int 0, .int 0, .int 0, .int 0, .int 0]) := (he51 10 (by omega)).trans E50_10
  have E51_11 : en51 11 = .inr (0, [.int 0, .int 0, .int 0, .int 0, .int 0, .int 0, .int 0, .int 0]) := (he51 11 (by omega)).trans E50_11
  have E51_12 : en51 12 = .inr (0, [.int 0, .int 0, .int 0, .int 0, .int 0, .int 0, .int 0, .int 0]) := (he51 12 (by omega)).trans E50_12
  have E51_13 : en51 13 = .inr (0, [.int 0, .int 0, .int 0, .int 0, .int 0, .int 0, .int 0, .int 0]) := (he51 13 (by omega)).trans E50_13
  have E51_14 : en51 14 = .inr (0, [.int 0, .int 0, .int 0, .int 0, .int 0, .int 0, .int 0, .int 0]) := (he51 14 (by omega)).trans E50_14
  have E51_15 : en51 15 = .inr (0, [.int 0, .int 0, .int 0, .int 0, .int 0, .int 0, .int 0, .int 0]) := (he51 15 (by omega)).trans E50_15
  have E51_16 : en51 16 = .inr (0, [.int 0, .int 0, .int 0, .int 0, .int 0, .int 0, .int 0, .int 0]) := (he51 16 (by omega)).trans E50_16
  have E51_17 : en51 17 = .inr (0, [.int 0, .int 0, .int 0, .int 0, .int 0, .int 0, .int 0, .int 0]) := (he51 17 (by omega)).trans E50_17
  have A51_18 : ad51 18 = q18 := hq51
  have E51_18 : en51 18 = .inr (0, [.int 0, .int 0, .int 0, .int 0, .int 0, .int 0, .int 0, .int 0]) := hn51 0
  refine o_astq (r := (RX0, TX0, 8)) hx hb hK hI 2 3 18 0 (by omega) (by omega) A51_2 A51_18 E51_2 rfl E51_18 rfl (by decide) 14 (by decide) rfl dX4_init_60 (fun en52 H locs he52 hn52 hI => ?_)
  have E52_0 : en52 0 = .inr (4, [.ref q1, .ref q2, .ref q3, .int 0, .int 0, .int 0, .int 0]) := (he52 0 (by omega)).trans E51_0
  have E52_1 : en52 1 = .inl (g 0, 4, .inl (va_cpy fsT (fun _ => 0) 0 0 4)) := (he52 1 (by omega)).trans E51_1
  have E52_3 : en52 3 = .inl (g 0, 4, .inl (fun _ => 0)) := (he52 3 (by omega)).trans E51_3
  have E52_4 : en52 4 = .inr (0, [.int 0, .int 0, .int 0, .int 0, .int 0, .int 0, .int 0, .int 0]) := (he52 4 (by omega)).trans E51_4
  have E52_5 : en52 5 = .inr (0, [.int 0, .int 0, .int 0, .int 0, .int 0, .int 0, .int 0, .int 0]) := (he52 5 (by omega)).trans E51_5
  have E52_6 : en52 6 = .inr (0, [.int 0, .int 0, .int 0, .int 0, .int 0, .int 0, .int 0, .int 0]) := (he52 6 (by omega)).trans E51_6
  have E52_7 : en52 7 = .inr (0, [.int 0, .int 0, .int 0, .int 0, .int 0, .int 0, .int 0, .int 0]) := (he52 7 (by omega)).trans E51_7
  have E52_8 : en52 8 = .inr (0, [.int 0, .int 0, .int 0, .int 0, .int 0, .int 0, .int 0, .int 0]) := (he52 8 (by omega)).trans E51_8
  have E52_9 : en52 9 = .inr (0, [.int 0, .int 0, .int 0, .int 0, .int 0, .int 0, .int 0, .int 0]) := (he52 9 (by omega)).trans E51_9
  have E52_10 : en52 10 = .inr (0, [.int 0, .int 0, .int 0, .int 0, .int 0, .int 0, .int 0, .int 0]) := (he52 10 (by omega)).trans E51_10
  have E52_11 : en52 11 = .inr (0, [.int 0, .int 0, .int 0, .int 0, .int 0, .int 0, .int 0, .int 0]) := (he52 11 (by omega)).trans E51_11
  have E52_12 : en52 12 = .inr (0, [.int 0, .int 0, .int 0, .int 0, .int 0, .int 0, .int 0, .int 0]) := (he52 12 (by omega)).trans E51_12
  have E52_13 : en52 13 = .inr (0, [.int 0, .int 0, .int 0, .int 0, .int 0, .int 0, .int 0, .int 0]) := (he52 13 (by omega)).trans E51_13
  have E52_14 : en52 14 = .inr (0, [.int 0, .int 0, .int 0, .int 0, .int 0, .int 0, .int 0, .int 0]) := (he52 14 (by omega)).trans E51_14
  have E52_15 : en52 15 = .inr (0, [.int 0, .int 0, .int 0, .int 0, .int 0, .int 0, .int 0, .int 0]) := (he52 15 (by omega)).trans E51_15
  have E52_16 : en52 16 = .inr (0, [.int 0, .int 0, .int 0, .int 0, .int 0, .int 0, .int 0, .int 0]) := (he52 16 (by omega)).trans E51_16
  have E52_17 : en52 17 = .inr (0, [.int 0, .int 0, .int 0, .int 0, .int 0, .int 0, .int 0, .int 0]) := (he52 17 (by omega)).trans E51_17
  have E52_18 : en52 18 = .inr (0, [.int 0, .int 0, .int 0, .int 0, .int 0, .int 0, .int 0, .int 0]) := (he52 18 (by omega)).trans E51_18
  have E52_2 : en52 2 = .inl (g 3, 16, .inr (.inr (.inr (.inr (va_up (va_up (va_up (va_up (va_up (va_up (va_up (va_up (va_up (va_up (va_up (va_up (va_up (va_up (va_up (fun _ => none) 0 (some q4)) 1 (some q5)) 2 (some q6)) 3 (some q7)) 4 (some q8)) 5 (some q9)) 6 (some q10)) 7 (some q11)) 8 (some q12)) 9 (some q13)) 10 (some q14)) 11 (some q15)) 12 (some q16)) 13 (some q17)) 14 (some q18)))))) := hn52
  refine lv_iinc (v := 15) (lv' := [(1, .int 15), (0, .ref b)]) hx hb dX4_init_61 hl (k := 0) rfl (by decide) (by decide) rfl (fun ls hl => ?_)
  refine lv_goto (tgt := 42) hx hb dX4_init_64 (by decide) ?_
  refine lv_iload_n hx hb dX4_init_42 rfl (lv_at hl 0 rfl) ?_
  refine lv_bipush (v := 16) hx hb dX4_init_43 (by decide) ?_
  refine lv_icmp_ge (tgt := 67) hx hb dX4_init_45 (by decide) (fun c16 => absurd c16 (by decide)) (fun _ => ?_)
  refine lv_aload_n hx hb dX4_init_48 rfl (lv_at hl 1 rfl) ?_
  refine o_get hx hb hts hinX4 hown hK hI 0 (by omega) A51_0 E52_0 (ci := 4) rfl 1 (by decide) (hts (.fieldLink RX4 17 "WinderLadders$State" "clocks" "[LWinderLadders$Clock;") (by decide +kernel)) (v := .ref q2) rfl dX4_init_49 ?_
  refine lv_iload_n hx hb dX4_init_52 rfl (lv_at hl 0 rfl) ?_
  refine o_new (fs := [.int 0, .int 0, .int 0, .int 0, .int 0, .int 0, .int 0, .int 0]) hx hb hts hinX0 tyX0 tyX0_ok hown (hts (.classLink RX4 15 RX0) (by decide +kernel)) (hts (.instantiable RX0 8) (by decide +kernel)) (hts (.initialized RX0) (by decide +kernel)) hK hI hA (ci := 0) rfl (by decide) (Nat.le_of_ble_eq_true rfl) (Nat.le_of_ble_eq_true rfl) dX4_init_53 (fun ad53 en53 H ha53 he53 hn53 hI => ?_)
  have A53_0 : ad53 0 = b := (ha53 0 (by omega)).trans A51_0
  have A53_1 : ad53 1 = q1 := (ha53 1 (by omega)).trans A51_1
  have A53_2 : ad53 2 = q2 := (ha53 2 (by omega)).trans A51_2
  have A53_3 : ad53 3 = q3 := (ha53 3 (by omega)).trans A51_3
  have A53_4 : ad53 4 = q4 := (ha53 4 (by omega)).trans A51_4
  have A53_5 : ad53 5 = q5 := (ha53 5 (by omega)).trans A51_5
  have A53_6 : ad53 6 = q6 := (ha53 6 (by omega)).trans A51_6
  have A53_7 : ad53 7 = q7 := (ha53 7 (by omega)).trans A51_7
  have A53_8 : ad53 8 = q8 := (ha53 8 (by omega)).trans A51_8
  have A53_9 : ad53 9 = q9 := (ha53 9 (by omega)).trans A51_9
  have A53_10 : ad53 10 = q10 := (ha53 10 (by omega)).trans A51_10
  have A53_11 : ad53 11 = q11 := (ha53 11 (by omega)).trans A51_11
  have A53_12 : ad53 12 = q12 := (ha53 12 (by omega)).trans A51_12
  have A53_13 : ad53 13 = q13 := (ha53 13 (by omega)).trans A51_13
  have A53_14 : ad53 14 = q14 := (ha53 14 (by omega)).trans A51_14
  have A53_15 : ad53 15 = q15 := (ha53 15 (by omega)).trans A51_15
  have A53_16 : ad53 16 = q16 := (ha53 16 (by omega)).trans A51_16
  have A53_17 : ad53 17 = q17 := (ha53 17 (by omega)).trans A51_17
  have A53_18 : ad53 18 = q18 := (ha53 18 (by omega)).trans A51_18
  have E53_0 : en53 0 = .inr (4, [.ref q1, .ref q2, .ref q3, .int 0, .int 0, .int 0, .int 0]) := (he53 0 (by omega)).trans E52_0
  have E53_1 : en53 1 = .inl (g 0, 4, .inl (va_cpy fsT (fun _ => 0) 0 0 4)) := (he53 1 (by omega)).trans E52_1
  have E53_2 : en53 2 = .inl (g 3, 16, .inr (.inr (.inr (.inr (va_up (va_up (va_up (va_up (va_up (va_up (va_up (va_up (va_up (va_up (va_up (va_up (va_up (va_up (va_up (fun _ => none) 0 (some q4)) 1 (some q5)) 2 (some q6)) 3 (some q7)) 4 (some q8)) 5 (some q9)) 6 (some q10)) 7 (some q11)) 8 (some q12)) 9 (some q13)) 10 (some q14)) 11 (some q15)) 12 (some q16)) 13 (some q17)) 14 (some q18)))))) := (he53 2 (by omega)).trans E52_2
  have E53_3 : en53 3 = .inl (g 0, 4, .inl (fun _ => 0)) := (he53 3 (by omega)).trans E52_3
  have E53_4 : en53 4 = .inr (0, [.int 0, .int 0, .int 0, .int 0, .int 0, .int 0, .int 0, .int 0]) := (he53 4 (by omega)).trans E52_4
  have E53_5 : en53 5 = .inr (0, [.int 0, .int 0, .int 0, .int 0, .int 0, .int 0, .int 0, .int 0]) := (he53 5 (by omega)).trans E52_5
  have E53_6 : en53 6 = .inr (0, [.int 0, .int 0, .int 0, .int 0, .int 0, .int 0, .int 0, .int 0]) := (he53 6 (by omega)).trans E52_6
  have E53_7 : en53 7 = .inr (0, [.int 0, .int 0, .int 0, .int 0, .int 0, .int 0, .int 0, .int 0]) := (he53 7 (by omega)).trans E52_7
  have E53_8 : en53 8 = .inr (0, [.int 0, .int 0, .int 0, .int 0, .int 0, .int 0, .int 0, .int 0]) := (he53 8 (by omega)).trans E52_8
  have E53_9 : en53 9 = .inr (0, [.int 0, .int 0, .int 0, .int 0, .int 0, .int 0, .int 0, .int 0]) := (he53 9 (by omega)).trans E52_9
  have E53_10 : en53 10 = .inr (0, [.int 0, .int 0, .int 0, .int 0, .int 0, .int 0, .int 0, .int 0]) := (he53 10 (by omega)).trans E52_10
  have E53_11 : en53 11 = .inr (0, [.int 0, .int 0, .int 0, .int 0, .int 0, .int 0, .int 0, .int 0]) := (he53 11 (by omega)).trans E52_11
  have E53_12 : en53 12 = .inr (0, [.int 0, .int 0, .int 0, .int 0, .int 0, .int 0, .int 0, .int 0]) := (he53 12 (by omega)).trans E52_12
  have E53_13 : en53 13 = .inr (0, [.int 0, .int 0, .int 0, .int 0, .int 0, .int 0, .int 0, .int 0]) := (he53 13 (by omega)).trans E52_13
  have E53_14 : en53 14 = .inr (0, [.int 0, .int 0, .int 0, .int 0, .int 0, .int 0, .int 0, .int 0]) := (he53 14 (by omega)).trans E52_14
  have E53_15 : en53 15 = .inr (0, [.int 0, .int 0, .int 0, .int 0, .int 0, .int 0, .int 0, .int 0]) := (he53 15 (by omega)).trans E52_15
  have E53_16 : en53 16 = .inr (0, [.int 0, .int 0, .int 0, .int 0, .int 0, .int 0, .int 0, .int 0]) := (he53 16 (by omega)).trans E52_16
  have E53_17 : en53 17 = .inr (0, [.int 0, .int 0, .int 0, .int 0, .int 0, .int 0, .int 0, .int 0]) := (he53 17 (by omega)).trans E52_17
  have E53_18 : en53 18 = .inr (0, [.int 0, .int 0, .int 0, .int 0, .int 0, .int 0, .int 0, .int 0]) := (he53 18 (by omega)).trans E52_18
  obtain ⟨q19, A53_19⟩ : ∃ z, ad53 19 = z := ⟨_, rfl⟩
  rw [A53_19]
  have E53_19 := hn53
  refine lv_dup hx hb dX4_init_56 rfl ?_
  refine o_initN (mm := 1) (rest := [.ref q19, .int 15, .ref q2]) hx hb hml hown hts hK hX hI hA hA0 A53_19 E53_19 (k_X0_init l dd g sz0 q19 H.size) ⟨va_cnB 0 hts gX4_init_X0_init_n33 rfl rfl rfl hX3 (hts (.initialized RX0) (by decide +kernel)) (by decide +kernel) ⟨Nat.le_of_ble_eq_true rfl, Nat.le_of_ble_eq_true rfl⟩, rfl, hts (.instanceMethod yX0_init) (by decide +kernel)⟩ hl (Nat.le_of_ble_eq_true rfl) ⟨Nat.le_of_ble_eq_true rfl, Nat.le_of_ble_eq_true rfl⟩ dX4_init_57 (fun ad54 en54 H locs ha54 hq54 he54 hn54 hI => ?_)
  have A54_0 : ad54 0 = b := (ha54 0 (by omega)).trans A53_0
  have A54_1 : ad54 1 = q1 := (ha54 1 (by omega)).trans A53_1
  have A54_2 : ad54 2 = q2 := (ha54 2 (by omega)).trans A53_2
  have A54_3 : ad54 3 = q3 := (ha54 3 (by omega)).trans A53_3
  have A54_4 : ad54 4 = q4 := (ha54 4 (by omega)).trans A53_4
  have A54_5 : ad54 5 = q5 := (ha54 5 (by omega)).trans A53_5
  have A54_6 : ad54 6 = q6 := (ha54 6 (by omega)).trans A53_6
  have A54_7 : ad54 7 = q7 := (ha54 7 (by omega)).trans A53_7
  have A54_8 : ad54 8 = q8 := (ha54 8 (by omega)).trans A53_8
  have A54_9 : ad54 9 = q9 := (ha54 9 (by omega)).trans A53_9
  have A54_10 : ad54 10 = q10 := (ha54 10 (by omega)).trans A53_10
  have A54_11 : ad54 11 = q11 := (ha54 11 (by omega)).trans A53_11
  have A54_12 : ad54 12 = q12 := (ha54 12 (by omega)).trans A53_12
  have A54_13 : ad54 13 = q13 := (ha54 13 (by omega)).trans A53_13
  have A54_14 : ad54 14 = q14 := (ha54 14 (by omega)).trans A53_14
  have A54_15 : ad54 15 = q15 := (ha54 15 (by omega)).trans A53_15
  have A54_16 : ad54 16 = q16 := (ha54 16 (by omega)).trans A53_16
  have A54_17 : ad54 17 = q17 := (ha54 17 (by omega)).trans A53_17
  have A54_18 : ad54 18 = q18 := (ha54 18 (by omega)).trans A53_18
  have E54_0 : en54 0 = .inr (4, [.ref q1, .ref q2, .ref q3, .int 0, .int 0, .int 0, .int 0]) := (he54 0 (by omega)).trans E53_0
  have E54_1 : en54 1 = .inl (g 0, 4, .inl (va_cpy fsT (fun _ => 0) 0 0 4)) := (he54 1 (by omega)).trans E53_1
  have E54_2 : en54 2 = .inl (g 3, 16, .inr (.inr (.inr (.inr (va_up (va_up (va_up (va_up (va_up (va_up (va_up (va_up (va_up (va_up (va_up (va_up (va_up (va_up (va_up (fun _ => none) 0 (some q4)) 1 (some q5)) 2 (some q6)) 3 (some q7)) 4 (some q8)) 5 (some q9)) 6 (some q10)) 7 (some q11)) 8 (some q12)) 9 (some q13)) 10 (some q14)) 11 (some q15)) 12 (some q16)) 13 (some q17)) 14 (some q18)))))) := (he54 2 (by omega)).trans E53_2
  have E54_3 : en54 3 = .inl (g 0, 4, .inl (fun _ => 0)) := (he54 3 (by omega)).trans E53_3
  have E54_4 : en54 4 = .inr (0, [.int 0, .int 0, .int 0, .int 0, .int 0, .int 0, .int 0, .int 0]) := (he54 4 (by omega)).trans E53_4
  have E54_5 : en54 5 = .inr (0, [.int 0, .int 0, .int 0, .int 0, .int 0, .int 0, .int 0, .int 0]) := (he54 5 (by omega)).trans E53_5
  have E54_6 : en54 6 = .inr (0, [.int 0, .int 0, .int 0, .int 0, .int 0, .int 0, .int 0, .int 0]) := (he54 6 (by omega)).trans E53_6
  have E54_7 : en54 7 = .inr (0, [.int 0, .int 0, .int 0, .int 0, .int 0, .int 0, .int 0, .int 0]) := (he54 7 (by omega)).trans E53_7
  have E54_8 : en54 8 = .inr (0, [.int 0, .int 0, .int 0, .int 0, .int 0, .int 0, .int 0, .int 0]) := (he54 8 (by omega)).trans E53_8
  have E54_9 : en54 9 = .inr (0, [.int 0, .int 0, .int 0, .int 0, .int 0, .int 0, .int 0, .int 0]) := (he54 9 (by omega)).trans E53_9
  have E54_10 : en54 10 = .inr (0, [.int 0, .int 0, .int 0, .int 0, .int 0, .int 0, .int 0, .int 0]) := (he54 10 (by omega)).trans E53_10
  have E54_11 : en54 11 = .inr (0, [.int 0, .int 0, .int 0, .int 0, .int 0, .int 0, .int 0, .int 0]) := (he54 11 (by omega)).trans E53_11
  have E54_12 : en54 12 = .inr (0, [.int 0, .int 0, .int 0, .int 0, .int 0, .int 0, .int 0, .int 0]) := (he54 12 (by omega)).trans E53_12
  have E54_13 : en54 13 = .inr (0, [.int 0, .int 0, .int 0, .int 0, .int 0, .int 0, .int 0, .int 0]) := (he54 13 (by omega)).trans E53_13
  have E54_14 : en54 14 = .inr (0, [.int 0, .int 0, .int 0, .int 0, .int 0, .int 0, .int 0, .int 0]) := (he54 14 (by omega)).trans E53_14
  have E54_15 : en54 15 = .inr (0, [.int 0, .int 0, .int 0, .int 0, .int 0, .int 0, .int 0, .int 0]) := (he54 15 (by omega)).trans E53_15
  have E54_16 : en54 16 = .inr (0, [.int 0, .int 0, .int 0, .int 0, .int 0, .int 0, .int 0, .int 0]) := (he54 16 (by omega)).trans E53_16
  have E54_17 : en54 17 = .inr (0, [.int 0, .int 0, .int 0, .int 0, .int 0, .int 0, .int 0, .int 0]) := (he54 17 (by omega)).trans E53_17
  have E54_18 : en54 18 = .inr (0, [.int 0, .int 0, .int 0, .int 0, .int 0, .int 0, .int 0, .int 0]) := (he54 18 (by omega)).trans E53_18
  have A54_19 : ad54 19 = q19 := hq54
  have E54_19 : en54 19 = .inr (0, [.int 0, .int 0, .int 0, .int 0, .int 0, .int 0, .int 0, .int 0]) := hn54 0
  refine o_astq (r := (RX0, TX0, 8)) hx hb hK hI 2 3 19 0 (by omega) (by omega) A54_2 A54_19 E54_2 rfl E54_19 rfl (by decide) 15 (by decide) rfl dX4_init_60 (fun en55 H locs he55 hn55 hI => ?_)
  have E55_0 : en55 0 = .inr (4, [.ref q1, .ref q2, .ref q3, .int 0, .int 0, .int 0, .int 0]) := (he55 0 (by omega)).trans E54_0
  have E55_1 : en55 1 = .inl (g 0, 4, .inl (va_cpy fsT (fun _ => 0) 0 0 4)) := (he55 1 (by omega)).trans E54_1
  have E55_3 : en55 3 = .inl (g 0, 4, .inl (fun _ => 0)) := (he55 3 (by omega)).trans E54_3
  have E55_4 : en55 4 = .inr (0, [.int 0, .int 0, .int 0, .int 0, .int 0, .int 0, .int 0, .int 0]) := (he55 4 (by omega)).trans E54_4
  have E55_5 : en55 5 = .inr (0, [.int 0, .int 0, .int 0, .int 0, .int 0, .int 0, .int 0, .int 0]) := (he55 5 (by omega)).trans E54_5
  have E55_6 : en55 6 = .inr (0, [.int 0, .int 0, .int 0, .int 0, .int 0, .int 0, .int 0, .int 0]) := (he55 6 (by omega)).trans E54_6
  have E55_7 : en55 7 = .inr (0, [.int 0, .int 0, .int 0, .int 0, .int 0, .int 0, .int 0, .int 0]) := (he55 7 (by omega)).trans E54_7
  have E55_8 : en55 8 = .inr (0, [.int 0, .int 0, .int 0, .int 0, .int 0, .int 0, .int 0, .int 0]) := (he55 8 (by omega)).trans E54_8
  have E55_9 : en55 9 = .inr (0, [.int 0, .int 0, .int 0, .int 0, .int 0, .int 0, .int 0, .int 0]) := (he55 9 (by omega)).trans E54_9
  have E55_10 : en55 10 = .inr (0, [.int 0, .int 0, .int 0, .int 0, .int 0, .int 0, .int 0, .int 0]) := (he55 10 (by omega)).trans E54_10
  have E55_11 : en55 11 = .inr (0, [.int 0, .int 0, .int 0, .int 0, .int 0, .int 0, .int 0, .int 0]) := (he55 11 (by omega)).trans E54_11
  have E55_12 : en55 12 = .inr (0, [.int 0, .int 0, .int 0, .int 0, .int 0, .int 0, .int 0, .int 0]) := (he55 12 (by omega)).trans E54_12
  have E55_13 : en55 13 = .inr (0, [.int 0, .int 0, .int 0, .int 0, .int 0, .int 0, .int 0, .int 0]) := (he55 13 (by omega)).trans E54_13
  have E55_14 : en55 14 = .inr (0, [.int 0, .int 0, .int 0, .int 0, .int 0, .int 0, .int 0, .int 0]) := (he55 14 (by omega)).trans E54_14
  have E55_15 : en55 15 = .inr (0, [.int 0, .int 0, .int 0, .int 0, .int 0, .int 0, .int 0, .int 0]) := (he55 15 (by omega)).trans E54_15
  have E55_16 : en55 16 = .inr (0, [.int 0, .int 0, .int 0, .int 0, .int 0, .int 0, .int 0, .int 0]) := (he55 16 (by omega)).trans E54_16
  have E55_17 : en55 17 = .inr (0, [.int 0, .int 0, .int 0, .int 0, .int 0, .int 0, .int 0, .int 0]) := (he55 17 (by omega)).trans E54_17
  have E55_18 : en55 18 = .inr (0, [.int 0, .int 0, .int 0, .int 0, .int 0, .int 0, .int 0, .int 0]) := (he55 18 (by omega)).trans E54_18
  have E55_19 : en55 19 = .inr (0, [.int 0, .int 0, .int 0, .int 0, .int 0, .int 0, .int 0, .int 0]) := (he55 19 (by omega)).trans E54_19
  have E55_2 : en55 2 = .inl (g 3, 16, .inr (.inr (.inr (.inr (va_up (va_up (va_up (va_up (va_up (va_up (va_up (va_up (va_up (va_up (va_up (va_up (va_up (va_up (va_up (va_up (fun _ => none) 0 (some q4)) 1 (some q5)) 2 (some q6)) 3 (some q7)) 4 (some q8)) 5 (some q9)) 6 (some q10)) 7 (some q11)) 8 (some q12)) 9 (some q13)) 10 (some q14)) 11 (some q15)) 12 (some q16)) 13 (some q17)) 14 (some q18)) 15 (some q19)))))) := hn55
  refine lv_iinc (v := 16) (lv' := [(1, .int 16), (0, .ref b)]) hx hb dX4_init_61 hl (k := 0) rfl (by decide) (by decide) rfl (fun ls hl => ?_)
  refine lv_goto (tgt := 42) hx hb dX4_init_64 (by decide) ?_
  refine lv_iload_n hx hb dX4_init_42 rfl (lv_at hl 0 rfl) ?_
  refine lv_bipush (v := 16) hx hb dX4_init_43 (by decide) ?_
  refine lv_icmp_ge (tgt := 67) hx hb dX4_init_45 (by decide) (fun _ => ?_) (fun c17 => absurd (by decide) c17)
  exact o_ret (E := stN g) hx hb hr hI A54_0 (fun r hr => by
                  rcases (show r = 0 ∨ r = 1 ∨ r = 2 ∨ r = 3 ∨ r = 4 ∨ r = 5 ∨ r = 6 ∨ r = 7 ∨ r = 8 ∨ r = 9 ∨ r = 10 ∨ r = 11 ∨ r = 12 ∨ r = 13 ∨ r = 14 ∨ r = 15 ∨ r = 16 ∨ r = 17 ∨ r = 18 ∨ r = 19 by omega) with rfl | rfl | rfl | rfl | rfl | rfl | rfl | rfl | rfl | rfl | rfl | rfl | rfl | rfl | rfl | rfl | rfl | rfl | rfl | rfl
                  · rw [E55_0, ← A54_1, ← A54_2, ← A54_3]; rfl
                  · rw [E55_1]; rfl
                  · rw [E55_2, ← A54_4, ← A54_5, ← A54_6, ← A54_7, ← A54_8, ← A54_9, ← A54_10, ← A54_11, ← A54_12, ← A54_13, ← A54_14, ← A54_15, ← A54_16, ← A54_17, ← A54_18, ← A54_19]; exact congrArg (fun F => (.inl (g 3, 16, .inr (.inr (.inr (.inr F)))) : va_E)) (upN_eq (fun j => ad54 (4 + j)) 16)
                  · rw [E55_3]; rfl
                  · rw [E55_4]; rfl
                  · rw [E55_5]; rfl
                  · rw [E55_6]; rfl
                  · rw [E55_7]; rfl
                  · rw [E55_8]; rfl
                  · rw [E55_9]; rfl
                  · rw [E55_10]; rfl
                  · rw [E55_11]; rfl
                  · rw [E55_12]; rfl
                  · rw [E55_13]; rfl
                  · rw [E55_14]; rfl
                  · rw [E55_15]; rfl
                  · rw [E55_16]; rfl
                  · rw [E55_17]; rfl
                  · rw [E55_18]; rfl
                  · rw [E55_19]; rfl) dX4_init_67 hlocks
