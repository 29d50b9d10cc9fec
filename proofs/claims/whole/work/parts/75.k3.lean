set_option maxHeartbeats 400000 in
set_option maxRecDepth 100000 in
theorem k_X6_init (l : Launch) (dd : va_G) (g : Nat → ClassId) (sz0 b sz : Nat) : Met l yX6_init wsX6_init ({ frames := 1, cells := 8, slots := 1578, locals := 12 }) (iPre dd g sz0 b sz (.inr (6, [.null, .null, .null, .int 0, .null, .null, .null, .int 0, .null, .int 0, .null, .int 0, .int 0, .int 0, .int 0, .int 0, .int 0]))) (iPost dd b sz 9 (fun a r => if r = 0 then .inr (6, [.ref (a 1), .ref (a 2), .ref (a 3), .int 0, .ref (a 4), .ref (a 5), .ref (a 6), .int 0, .ref (a 7), .int 0, .ref (a 8), .int 0, .int 0, .int 0, .int 0, .int 0, .int 0]) else if r = 1 then .inl (g 0, 140, .inl (upd (upd (upd (upd (fun _ => 0) 0 60) 1 8) 2 5) 3 10)) else if r = 2 then .inl (g 0, 140, .inl (fun _ => 0)) else if r = 3 then .inl (g 0, 840, .inl (fun _ => 0)) else if r = 4 then .inl (g 0, 280, .inl (fun _ => 0)) else if r = 5 then .inl (g 2, 2, .inl (fun _ => 0)) else if r = 6 then .inl (g 0, 80, .inl (fun _ => 0)) else if r = 7 then .inl (g 0, 80, .inl (fun _ => 0)) else .inl (g 0, 16, .inl (fun _ => 0)))) 8 1578 (nA b sz) := by
  refine Met.ofW (cc := cX6_init) (maxL := 1) (ret := none) (by decide) rfl ?_
  intro p e s m args below meth c s₁ B hml hv
  obtain ⟨rfl, hsz, hs0, hP0, hK, hX⟩ := hv
  have hx := B.exec
  have hb := B.bytes
  have hr := B.returns
  have hts := atoms_spec (ws := wsX6_init) B.pre
  have hown : s.vm.findClass RX6 = some m.cls := findClass_of_methodNamed B.named
  have hlocks := B.notSynchronized
  have hin2 : meth.name = "<init>" := (name_of_methodNamed B.named B.method).1
  subst hsz
  obtain ⟨hI0, hA, hA0⟩ := n_start hP0 hs0
  obtain ⟨ad0, hw0⟩ : ∃ z, z = (fun _ : Nat => b) := ⟨_, rfl⟩
  obtain ⟨en0, hw1⟩ : ∃ z, z = (fun _ : Nat => (.inr (6, [.null, .null, .null, .int 0, .null, .null, .null, .int 0, .null, .int 0, .null, .int 0, .int 0, .int 0, .int 0, .int 0, .int 0]) : va_E)) := ⟨_, rfl⟩
  have A0_0 : ad0 0 = b := by rw [hw0]
  have E0_0 : en0 0 = (.inr (6, [.null, .null, .null, .int 0, .null, .null, .null, .int 0, .null, .int 0, .null, .int 0, .int 0, .int 0, .int 0, .int 0, .int 0]) : va_E) := by rw [hw1]
  have hI : nW dd 1 ad0 en0 (nA b s.heap.size) s.heap s.heap [] := by rw [hw0, hw1]; exact hI0
  have hinX6 : ∀ w ∈ wsX60, w ∈ wsX6_init := by decide +kernel
  obtain ⟨hX1, hX2, hX3, hX4, hX5, hX6, hX7, -⟩ := id hX
  have hl := lv_entry ([.ref b]) (n := 1) (Nat.le_of_ble_eq_true rfl)
  rw [lg_entry_eq]
  generalize (lg_sl ([.ref b]) ++ List.replicate (1 - (lg_sl ([.ref b])).length) Slot.unset).toArray = ls at hl ⊢
  have hl : lv_has ls 1 [(0, .ref b)] := hl
  refine lv_aload_n hx hb dX6_init_0 rfl (lv_at hl 0 rfl) ?_
  refine W.objInit hx hb hown (hts (.methodLink RX6 1 objectInit) (by decide +kernel)) (hts (.instanceMethod objectInit) (by decide +kernel)) (hts (.code objectInit ⟨#[0xb1]⟩ 1 none) (by decide +kernel)) rfl (by rw [hml]; exact hl.1) rfl dX6_init_1 (Nat.le_of_ble_eq_true rfl) (Nat.le_of_ble_eq_true rfl) ?_
  refine W.eq (g2 := F0 m 4 ls []) rfl ?_
  refine lv_aload_n hx hb dX6_init_4 rfl (lv_at hl 0 rfl) ?_
  refine lv_sipush (v := 140) hx hb dX6_init_5 (by decide) ?_
  refine o_newa (atype := .int) (ty := .int) (N := 140) (a0 := (140, .inl (fun _ => 0))) hx hb (hts (.arrayClass .int) (by decide +kernel)) rfl 0 rfl hK hI hA (fun _ => by rw [vp_cell_i]; rfl) (by decide) (by decide) (Nat.le_of_ble_eq_true rfl) (Nat.le_of_ble_eq_true rfl) (Nat.le_of_ble_eq_true rfl) dX6_init_8 (fun ad1 en1 H ha1 he1 hn1 hI => ?_)
  have A1_0 : ad1 0 = b := (ha1 0 (by omega)).trans A0_0
  have E1_0 : en1 0 = .inr (6, [.null, .null, .null, .int 0, .null, .null, .null, .int 0, .null, .int 0, .null, .int 0, .int 0, .int 0, .int 0, .int 0, .int 0]) := (he1 0 (by omega)).trans E0_0
  obtain ⟨q1, A1_1⟩ : ∃ z, ad1 1 = z := ⟨_, rfl⟩
  rw [A1_1]
  have E1_1 := hn1
  refine o_putF hx hb hts hinX6 tyX6 tyX6_ok nmX6 hown hK hI 0 (by omega) A1_0 E1_0 (ci := 6) rfl 0 (by decide) (hts (.fieldLink RX6 7 "WinderLaddersModel" "s" "[I") (by decide +kernel)) rfl hin2 rfl rfl rfl (Nat.le_of_ble_eq_true rfl) dX6_init_10 (fun en2 H locs he2 hn2 hI => ?_)
  have E2_1 : en2 1 = .inl (g 0, 140, .inl (fun _ => 0)) := (he2 1 (by omega)).trans E1_1
  have E2_0 : en2 0 = .inr (6, [.ref q1, .null, .null, .int 0, .null, .null, .null, .int 0, .null, .int 0, .null, .int 0, .int 0, .int 0, .int 0, .int 0, .int 0]) := hn2
  refine lv_aload_n hx hb dX6_init_13 rfl (lv_at hl 0 rfl) ?_
  refine lv_sipush (v := 140) hx hb dX6_init_14 (by decide) ?_
  refine o_newa (atype := .int) (ty := .int) (N := 140) (a0 := (140, .inl (fun _ => 0))) hx hb (hts (.arrayClass .int) (by decide +kernel)) rfl 0 rfl hK hI hA (fun _ => by rw [vp_cell_i]; rfl) (by decide) (by decide) (Nat.le_of_ble_eq_true rfl) (Nat.le_of_ble_eq_true rfl) (Nat.le_of_ble_eq_true rfl) dX6_init_17 (fun ad3 en3 H ha3 he3 hn3 hI => ?_)
  have A3_0 : ad3 0 = b := (ha3 0 (by omega)).trans A1_0
  have A3_1 : ad3 1 = q1 := (ha3 1 (by omega)).trans A1_1
  have E3_0 : en3 0 = .inr (6, [.ref q1, .null, .null, .int 0, .null, .null, .null, .int 0, .null, .int 0, .null, .int 0, .int 0, .int 0, .int 0, .int 0, .int 0]) := (he3 0 (by omega)).trans E2_0
  have E3_1 : en3 1 = .inl (g 0, 140, .inl (fun _ => 0)) := (he3 1 (by omega)).trans E2_1
  obtain ⟨q2, A3_2⟩ : ∃ z, ad3 2 = z := ⟨_, rfl⟩
  rw [A3_2]
  have E3_2 := hn3
  refine o_putF hx hb hts hinX6 tyX6 tyX6_ok nmX6 hown hK hI 0 (by omega) A3_0 E3_0 (ci := 6) rfl 1 (by decide) (hts (.fieldLink RX6 13 "WinderLaddersModel" "aside" "[I") (by decide +kernel)) rfl hin2 rfl rfl rfl (Nat.le_of_ble_eq_true rfl) dX6_init_19 (fun en4 H locs he4 hn4 hI => ?_)
  have E4_1 : en4 1 = .inl (g 0, 140, .inl (fun _ => 0)) := (he4 1 (by omega)).trans E3_1
  have E4_2 : en4 2 = .inl (g 0, 140, .inl (fun _ => 0)) := (he4 2 (by omega)).trans E3_2
  have E4_0 : en4 0 = .inr (6, [.ref q1, .ref q2, .null, .int 0, .null, .null, .null, .int 0, .null, .int 0, .null, .int 0, .int 0, .int 0, .int 0, .int 0, .int 0]) := hn4
  refine lv_aload_n hx hb dX6_init_22 rfl (lv_at hl 0 rfl) ?_
  refine lv_sipush (v := 840) hx hb dX6_init_23 (by decide) ?_
  refine o_newa (atype := .int) (ty := .int) (N := 840) (a0 := (840, .inl (fun _ => 0))) hx hb (hts (.arrayClass .int) (by decide +kernel)) rfl 0 rfl hK hI hA (fun _ => by rw [vp_cell_i]; rfl) (by decide) (by decide) (Nat.le_of_ble_eq_true rfl) (Nat.le_of_ble_eq_true rfl) (Nat.le_of_ble_eq_true rfl) dX6_init_26 (fun ad5 en5 H ha5 he5 hn5 hI => ?_)
  have A5_0 : ad5 0 = b := (ha5 0 (by omega)).trans A3_0
  have A5_1 : ad5 1 = q1 := (ha5 1 (by omega)).trans A3_1
  have A5_2 : ad5 2 = q2 := (ha5 2 (by omega)).trans A3_2
  have E5_0 : en5 0 = .inr (6, [.ref q1, .ref q2, .null, .int 0, .null, .null, .null, .int 0, .null, .int 0, .null, .int 0, .int 0, .int 0, .int 0, .int 0, .int 0]) := (he5 0 (by omega)).trans E4_0
  have E5_1 : en5 1 = .inl (g 0, 140, .inl (fun _ => 0)) := (he5 1 (by omega)).trans E4_1
  have E5_2 : en5 2 = .inl (g 0, 140, .inl (fun _ => 0)) := (he5 2 (by omega)).trans E4_2
  obtain ⟨q3, A5_3⟩ : ∃ z, ad5 3 = z := ⟨_, rfl⟩
  rw [A5_3]
  have E5_3 := hn5
  refine o_putF hx hb hts hinX6 tyX6 tyX6_ok nmX6 hown hK hI 0 (by omega) A5_0 E5_0 (ci := 6) rfl 2 (by decide) (hts (.fieldLink RX6 16 "WinderLaddersModel" "before" "[I") (by decide +kernel)) rfl hin2 rfl rfl rfl (Nat.le_of_ble_eq_true rfl) dX6_init_28 (fun en6 H locs he6 hn6 hI => ?_)
  have E6_1 : en6 1 = .inl (g 0, 140, .inl (fun _ => 0)) := (he6 1 (by omega)).trans E5_1
  have E6_2 : en6 2 = .inl (g 0, 140, .inl (fun _ => 0)) := (he6 2 (by omega)).trans E5_2
  have E6_3 : en6 3 = .inl (g 0, 840, .inl (fun _ => 0)) := (he6 3 (by omega)).trans E5_3
  have E6_0 : en6 0 = .inr (6, [.ref q1, .ref q2, .ref q3, .int 0, .null, .null, .null, .int 0, .null, .int 0, .null, .int 0, .int 0, .int 0, .int 0, .int 0, .int 0]) := hn6
  refine lv_aload_n hx hb dX6_init_31 rfl (lv_at hl 0 rfl) ?_
  refine lv_sipush (v := 280) hx hb dX6_init_32 (by decide) ?_
  refine o_newa (atype := .int) (ty := .int) (N := 280) (a0 := (280, .inl (fun _ => 0))) hx hb (hts (.arrayClass .int) (by decide +kernel)) rfl 0 rfl hK hI hA (fun _ => by rw [vp_cell_i]; rfl) (by decide) (by decide) (Nat.le_of_ble_eq_true rfl) (Nat.le_of_ble_eq_true rfl) (Nat.le_of_ble_eq_true rfl) dX6_init_35 (fun ad7 en7 H ha7 he7 hn7 hI => ?_)
  have A7_0 : ad7 0 = b := (ha7 0 (by omega)).trans A5_0
  have A7_1 : ad7 1 = q1 := (ha7 1 (by omega)).trans A5_1
  have A7_2 : ad7 2 = q2 := (ha7 2 (by omega)).trans A5_2
  have A7_3 : ad7 3 = q3 := (ha7 3 (by omega)).trans A5_3
  have E7_0 : en7 0 = .inr (6, [.ref q1, .ref q2, .ref q3, .int 0, .null, .null, .null, .int 0, .null, .int 0, .null, .int 0, .int 0, .int 0, .int 0, .int 0, .int 0]) := (he7 0 (by omega)).trans E6_0
  have E7_1 : en7 1 = .inl (g 0, 140, .inl (fun _ => 0)) := (he7 1 (by omega)).trans E6_1
  have E7_2 : en7 2 = .inl (g 0, 140, .inl (fun _ => 0)) := (he7 2 (by omega)).trans E6_2
  have E7_3 : en7 3 = .inl (g 0, 840, .inl (fun _ => 0)) := (he7 3 (by omega)).trans E6_3
  obtain ⟨q4, A7_4⟩ : ∃ z, ad7 4 = z := ⟨_, rfl⟩
  rw [A7_4]
  have E7_4 := hn7
  refine o_putF hx hb hts hinX6 tyX6 tyX6_ok nmX6 hown hK hI 0 (by omega) A7_0 E7_0 (ci := 6) rfl 4 (by decide) (hts (.fieldLink RX6 19 "WinderLaddersModel" "slots" "[I") (by decide +kernel)) rfl hin2 rfl rfl rfl (Nat.le_of_ble_eq_true rfl) dX6_init_37 (fun en8 H locs he8 hn8 hI => ?_)
  have E8_1 : en8 1 = .inl (g 0, 140, .inl (fun _ => 0)) := (he8 1 (by omega)).trans E7_1
  have E8_2 : en8 2 = .inl (g 0, 140, .inl (fun _ => 0)) := (he8 2 (by omega)).trans E7_2
  have E8_3 : en8 3 = .inl (g 0, 840, .inl (fun _ => 0)) := (he8 3 (by omega)).trans E7_3
  have E8_4 : en8 4 = .inl (g 0, 280, .inl (fun _ => 0)) := (he8 4 (by omega)).trans E7_4
  have E8_0 : en8 0 = .inr (6, [.ref q1, .ref q2, .ref q3, .int 0, .ref q4, .null, .null, .int 0, .null, .int 0, .null, .int 0, .int 0, .int 0, .int 0, .int 0, .int 0]) := hn8
  refine lv_aload_n hx hb dX6_init_40 rfl (lv_at hl 0 rfl) ?_
  refine lv_iconst (v := 2) hx hb dX6_init_41 (by decide) ?_
  refine o_newa (atype := .boolean) (ty := .boolean) (N := 2) (a0 := (2, .inl (fun _ => 0))) hx hb (hts (.arrayClass .boolean) (by decide +kernel)) rfl 2 rfl hK hI hA (fun _ => by rw [vp_cell_i]; rfl) (by decide) (by decide) (Nat.le_of_ble_eq_true rfl) (Nat.le_of_ble_eq_true rfl) (Nat.le_of_ble_eq_true rfl) dX6_init_42 (fun ad9 en9 H ha9 he9 hn9 hI => ?_)
  have A9_0 : ad9 0 = b := (ha9 0 (by omega)).trans A7_0
  have A9_1 : ad9 1 = q1 := (ha9 1 (by omega)).trans A7_1
  have A9_2 : ad9 2 = q2 := (ha9 2 (by omega)).trans A7_2
  have A9_3 : ad9 3 = q3 := (ha9 3 (by omega)).trans A7_3
  have A9_4 : ad9 4 = q4 := (ha9 4 (by omega)).trans A7_4
  have E9_0 : en9 0 = .inr (6, [.ref q1, .ref q2, .ref q3, .int 0, .ref q4, .null, .null, .int 0, .null, .int 0, .null, .int 0, .int 0, .int 0, .int 0, .int 0, .int 0]) := (he9 0 (by omega)).trans E8_0
  have E9_1 : en9 1 = .inl (g 0, 140, .inl (fun _ => 0)) := (he9 1 (by omega)).trans E8_1
  have E9_2 : en9 2 = .inl (g 0, 140, .inl (fun _ => 0)) := (he9 2 (by omega)).trans E8_2
  have E9_3 : en9 3 = .inl (g 0, 840, .inl (fun _ => 0)) := (he9 3 (by omega)).trans E8_3
  have E9_4 : en9 4 = .inl (g 0, 280, .inl (fun _ => 0)) := (he9 4 (by omega)).trans E8_4
  obtain ⟨q5, A9_5⟩ : ∃ z, ad9 5 = z := ⟨_, rfl⟩
  rw [A9_5]
  have E9_5 := hn9
  refine o_putF hx hb hts hinX6 tyX6 tyX6_ok nmX6 hown hK hI 0 (by omega) A9_0 E9_0 (ci := 6) rfl 5 (by decide) (hts (.fieldLink RX6 22 "WinderLaddersModel" "isSaved" "[Z") (by decide +kernel)) rfl hin2 rfl rfl rfl (Nat.le_of_ble_eq_true rfl) dX6_init_44 (fun en10 H locs he10 hn10 hI => ?_)
  have E10_1 : en10 1 = .inl (g 0, 140, .inl (fun _ => 0)) := (he10 1 (by omega)).trans E9_1
  have E10_2 : en10 2 = .inl (g 0, 140, .inl (fun _ => 0)) := (he10 2 (by omega)).trans E9_2
  have E10_3 : en10 3 = .inl (g 0, 840, .inl (fun _ => 0)) := (he10 3 (by omega)).trans E9_3
  have E10_4 : en10 4 = .inl (g 0, 280, .inl (fun _ => 0)) := (he10 4 (by omega)).trans E9_4
  have E10_5 : en10 5 = .inl (g 2, 2, .inl (fun _ => 0)) := (he10 5 (by omega)).trans E9_5
  have E10_0 : en10 0 = .inr (6, [.ref q1, .ref q2, .ref q3, .int 0, .ref q4, .ref q5, .null, .int 0, .null, .int 0, .null, .int 0, .int 0, .int 0, .int 0, .int 0, .int 0]) := hn10
  refine lv_aload_n hx hb dX6_init_47 rfl (lv_at hl 0 rfl) ?_
  refine lv_bipush (v := 80) hx hb dX6_init_48 (by decide) ?_
  refine o_newa (atype := .int) (ty := .int) (N := 80) (a0 := (80, .inl (fun _ => 0))) hx hb (hts (.arrayClass .int) (by decide +kernel)) rfl 0 rfl hK hI hA (fun _ => by rw [vp_cell_i]; rfl) (by decide) (by decide) (Nat.le_of_ble_eq_true rfl) (Nat.le_of_ble_eq_true rfl) (Nat.le_of_ble_eq_true rfl) dX6_init_50 (fun ad11 en11 H ha11 he11 hn11 hI => ?_)
  have A11_0 : ad11 0 = b := (ha11 0 (by omega)).trans A9_0
  have A11_1 : ad11 1 = q1 := (ha11 1 (by omega)).trans A9_1
  have A11_2 : ad11 2 = q2 := (ha11 2 (by omega)).trans A9_2
  have A11_3 : ad11 3 = q3 := (ha11 3 (by omega)).trans A9_3
  have A11_4 : ad11 4 = q4 := (ha11 4 (by omega)).trans A9_4
  have A11_5 : ad11 5 = q5 := (ha11 5 (by omega)).trans A9_5
  have E11_0 : en11 0 = .inr (6, [.ref q1, .ref q2, .ref q3, .int 0, .ref q4, .ref q5, .null, .int 0, .null, .int 0, .null, .int 0, .int 0, .int 0, .int 0, .int 0, .int 0]) := (he11 0 (by omega)).trans E10_0
  have E11_1 : en11 1 = .inl (g 0, 140, .inl (fun _ => 0)) := (he11 1 (by omega)).trans E10_1
  have E11_2 : en11 2 = .inl (g 0, 140, .inl (fun _ => 0)) := (he11 2 (by omega)).trans E10_2
  have E11_3 : en11 3 = .inl (g 0, 840, .inl (fun _ => 0)) := (he11 3 (by omega)).trans E10_3
  have E11_4 : en11 4 = .inl (g 0, 280, .inl (fun _ => 0)) := (he11 4 (by omega)).trans E10_4
  have E11_5 : en11 5 = .inl (g 2, 2, .inl (fun _ => 0)) := (he11 5 (by omega)).trans E10_5
  obtain ⟨q6, A11_6⟩ : ∃ z, ad11 6 = z := ⟨_, rfl⟩
  rw [A11_6]
  have E11_6 := hn11
  refine o_putF hx hb hts hinX6 tyX6 tyX6_ok nmX6 hown hK hI 0 (by omega) A11_0 E11_0 (ci := 6) rfl 6 (by decide) (hts (.fieldLink RX6 26 "WinderLaddersModel" "pad" "[I") (by decide +kernel)) rfl hin2 rfl rfl rfl (Nat.le_of_ble_eq_true rfl) dX6_init_52 (fun en12 H locs he12 hn12 hI => ?_)
  have E12_1 : en12 1 = .inl (g 0, 140, .inl (fun _ => 0)) := (he12 1 (by omega)).trans E11_1
  have E12_2 : en12 2 = .inl (g 0, 140, .inl (fun _ => 0)) := (he12 2 (by omega)).trans E11_2
  have E12_3 : en12 3 = .inl (g 0, 840, .inl (fun _ => 0)) := (he12 3 (by omega)).trans E11_3
  have E12_4 : en12 4 = .inl (g 0, 280, .inl (fun _ => 0)) := (he12 4 (by omega)).trans E11_4
  have E12_5 : en12 5 = .inl (g 2, 2, .inl (fun _ => 0)) := (he12 5 (by omega)).trans E11_5
  have E12_6 : en12 6 = .inl (g 0, 80, .inl (fun _ => 0)) := (he12 6 (by omega)).trans E11_6
  have E12_0 : en12 0 = .inr (6, [.ref q1, .ref q2, .ref q3, .int 0, .ref q4, .ref q5, .ref q6, .int 0, .null, .int 0, .null, .int 0, .int 0, .int 0, .int 0, .int 0, .int 0]) := hn12
  refine lv_aload_n hx hb dX6_init_55 rfl (lv_at hl 0 rfl) ?_
  refine lv_bipush (v := 80) hx hb dX6_init_56 (by decide) ?_
  refine o_newa (atype := .int) (ty := .int) (N := 80) (a0 := (80, .inl (fun _ => 0))) hx hb (hts (.arrayClass .int) (by decide +kernel)) rfl 0 rfl hK hI hA (fun _ => by rw [vp_cell_i]; rfl) (by decide) (by decide) (Nat.le_of_ble_eq_true rfl) (Nat.le_of_ble_eq_true rfl) (Nat.le_of_ble_eq_true rfl) dX6_init_58 (fun ad13 en13 H ha13 he13 hn13 hI => ?_)
  have A13_0 : ad13 0 = b := (ha13 0 (by omega)).trans A11_0
  have A13_1 : ad13 1 = q1 := (ha13 1 (by omega)).trans A11_1
  have A13_2 : ad13 2 = q2 := (ha13 2 (by omega)).trans A11_2
  have A13_3 : ad13 3 = q3 := (ha13 3 (by omega)).trans A11_3
  have A13_4 : ad13 4 = q4 := (ha13 4 (by omega)).trans A11_4
  have A13_5 : ad13 5 = q5 := (ha13 5 (by omega)).trans A11_5
  have A13_6 : ad13 6 = q6 := (ha13 6 (by omega)).trans A11_6
  have E13_0 : en13 0 = .inr (6, [.ref q1, .ref q2, .ref q3, .int 0, .ref q4, .ref q5, .ref q6, .int 0, .null, .int 0, .null, .int 0, .int 0, .int 0, .int 0, .int 0, .int 0]) := (he13 0 (by omega)).trans E12_0
  have E13_1 : en13 1 = .inl (g 0, 140, .inl (fun _ => 0)) := (he13 1 (by omega)).trans E12_1
  have E13_2 : en13 2 = .inl (g 0, 140, .inl (fun _ => 0)) := (he13 2 (by omega)).trans E12_2
  have E13_3 : en13 3 = .inl (g 0, 840, .inl (fun _ => 0)) := (he13 3 (by omega)).trans E12_3
  have E13_4 : en13 4 = .inl (g 0, 280, .inl (fun _ => 0)) := (he13 4 (by omega)).trans E12_4
  have E13_5 : en13 5 = .inl (g 2, 2, .inl (fun _ => 0)) := (he13 5 (by omega)).trans E12_5
  have E13_6 : en13 6 = .inl (g 0, 80, .inl (fun _ => 0)) := (he13 6 (by omega)).trans E12_6
  obtain ⟨q7, A13_7⟩ : ∃ z, ad13 7 = z := ⟨_, rfl⟩
  rw [A13_7]
  have E13_7 := hn13
  refine o_putF hx hb hts hinX6 tyX6 tyX6_ok nmX6 hown hK hI 0 (by omega) A13_0 E13_0 (ci := 6) rfl 8 (by decide) (hts (.fieldLink RX6 29 "WinderLaddersModel" "row" "[I") (by decide +kernel)) rfl hin2 rfl rfl rfl (Nat.le_of_ble_eq_true rfl) dX6_init_60 (fun en14 H locs he14 hn14 hI => ?_)
  have E14_1 : en14 1 = .inl (g 0, 140, .inl (fun _ => 0)) := (he14 1 (by omega)).trans E13_1
  have E14_2 : en14 2 = .inl (g 0, 140, .inl (fun _ => 0)) := (he14 2 (by omega)).trans E13_2
  have E14_3 : en14 3 = .inl (g 0, 840, .inl (fun _ => 0)) := (he14 3 (by omega)).trans E13_3
  have E14_4 : en14 4 = .inl (g 0, 280, .inl (fun _ => 0)) := (he14 4 (by omega)).trans E13_4
  have E14_5 : en14 5 = .inl (g 2, 2, .inl (fun _ => 0)) := (he14 5 (by omega)).trans E13_5
  have E14_6 : en14 6 = .inl (g 0, 80, .inl (fun _ => 0)) := (he14 6 (by omega)).trans E13_6
  have E14_7 : en14 7 = .inl (g 0, 80, .inl (fun _ => 0)) := (he14 7 (by omega)).trans E13_7
  have E14_0 : en14 0 = .inr (6, [.ref q1, .ref q2, .ref q3, .int 0, .ref q4, .ref q5, .ref q6, .int 0, .ref q7, .int 0, .null, .int 0, .int 0, .int 0, .int 0, .int 0, .int 0]) := hn14
  refine lv_aload_n hx hb dX6_init_63 rfl (lv_at hl 0 rfl) ?_
  refine lv_bipush (v := 16) hx hb dX6_init_64 (by decide) ?_
  refine o_newa (atype := .int) (ty := .int) (N := 16) (a0 := (16, .inl (fun _ => 0))) hx hb (hts (.arrayClass .int) (by decide +kernel)) rfl 0 rfl hK hI hA (fun _ => by rw [vp_cell_i]; rfl) (by decide) (by decide) (Nat.le_of_ble_eq_true rfl) (Nat.le_of_ble_eq_true rfl) (Nat.le_of_ble_eq_true rfl) dX6_init_66 (fun ad15 en15 H ha15 he15 hn15 hI => ?_)
  have A15_0 : ad15 0 = b := (ha15 0 (by omega)).trans A13_0
  have A15_1 : ad15 1 = q1 := (ha15 1 (by omega)).trans A13_1
  have A15_2 : ad15 2 = q2 := (ha15 2 (by omega)).trans A13_2
  have A15_3 : ad15 3 = q3 := (ha15 3 (by omega)).trans A13_3
  have A15_4 : ad15 4 = q4 := (ha15 4 (by omega)).trans A13_4
  have A15_5 : ad15 5 = q5 := (ha15 5 (by omega)).trans A13_5
  have A15_6 : ad15 6 = q6 := (ha15 6 (by omega)).trans A13_6
  have A15_7 : ad15 7 = q7 := (ha15 7 (by omega)).trans A13_7
  have E15_0 : en15 0 = .inr (6, [.ref q1, .ref q2, .ref q3, .int 0, .ref q4, .ref q5, .ref q6, .int 0, .ref q7, .int 0, .null, .int 0, .int 0, .int 0, .int 0, .int 0, .int 0]) := (he15 0 (by omega)).trans E14_0
  have E15_1 : en15 1 = .inl (g 0, 140, .inl (fun _ => 0)) := (he15 1 (by omega)).trans E14_1
  have E15_2 : en15 2 = .inl (g 0, 140, .inl (fun _ => 0)) := (he15 2 (by omega)).trans E14_2
  have E15_3 : en15 3 = .inl (g 0, 840, .inl (fun _ => 0)) := (he15 3 (by omega)).trans E14_3
  have E15_4 : en15 4 = .inl (g 0, 280, .inl (fun _ => 0)) := (he15 4 (by omega)).trans E14_4
  have E15_5 : en15 5 = .inl (g 2, 2, .inl (fun _ => 0)) := (he15 5 (by omega)).trans E14_5
  have E15_6 : en15 6 = .inl (g 0, 80, .inl (fun _ => 0)) := (he15 6 (by omega)).trans E14_6
  have E15_7 : en15 7 = .inl (g 0, 80, .inl (fun _ => 0)) := (he15 7 (by omega)).trans E14_7
  obtain ⟨q8, A15_8⟩ : ∃ z, ad15 8 = z := ⟨_, rfl⟩
  rw [A15_8]
  have E15_8 := hn15
  refine o_putF hx hb hts hinX6 tyX6 tyX6_ok nmX6 hown hK hI 0 (by omega) A15_0 E15_0 (ci := 6) rfl 10 (by decide) (hts (.fieldLink RX6 32 "WinderLaddersModel" "last" "[I") (by decide +kernel)) rfl hin2 rfl rfl rfl (Nat.le_of_ble_eq_true rfl) dX6_init_68 (fun en16 H locs he16 hn16 hI => ?_)
  have E16_1 : en16 1 = .inl (g 0, 140, .inl (fun _ => 0)) := (he16 1 (by omega)).trans E15_1
  have E16_2 : en16 2 = .inl (g 0, 140, .inl (fun _ => 0)) := (he16 2 (by omega)).trans E15_2
  have E16_3 : en16 3 = .inl (g 0, 840, .inl (fun _ => 0)) := (he16 3 (by omega)).trans E15_3
  have E16_4 : en16 4 = .inl (g 0, 280, .inl (fun _ => 0)) := (he16 4 (by omega)).trans E15_4
  have E16_5 : en16 5 = .inl (g 2, 2, .inl (fun _ => 0)) := (he16 5 (by omega)).trans E15_5
  have E16_6 : en16 6 = .inl (g 0, 80, .inl (fun _ => 0)) := (he16 6 (by omega)).trans E15_6
  have E16_7 : en16 7 = .inl (g 0, 80, .inl (fun _ => 0)) := (he16 7 (by omega)).trans E15_7
  have E16_8 : en16 8 = .inl (g 0, 16, .inl (fun _ => 0)) := (he16 8 (by omega)).trans E15_8
  have E16_0 : en16 0 = .inr (6, [.ref q1, .ref q2, .ref q3, .int 0, .ref q4, .ref q5, .ref q6, .int 0, .ref q7, .int 0, .ref q8, .int 0, .int 0, .int 0, .int 0, .int 0, .int 0]) := hn16
  refine lv_aload_n hx hb dX6_init_71 rfl (lv_at hl 0 rfl) ?_
  refine o_get hx hb hts hinX6 hown hK hI 0 (by omega) A15_0 E16_0 (ci := 6) rfl 0 (by decide) (hts (.fieldLink RX6 7 "WinderLaddersModel" "s" "[I") (by decide +kernel)) (v := .ref q1) rfl dX6_init_72 ?_
  refine lv_iconst (v := 0) hx hb dX6_init_75 (by decide) ?_
  refine lv_bipush (v := 60) hx hb dX6_init_76 (by decide) ?_
  refine o_ast hx hb hK hI 1 (by omega) A15_1 E16_1 (by decide) 0 (by decide) rfl dX6_init_78 (fun en17 H locs he17 hn17 hI => ?_)
  have E17_0 : en17 0 = .inr (6, [.ref q1, .ref q2, .ref q3, .int 0, .ref q4, .ref q5, .ref q6, .int 0, .ref q7, .int 0, .ref q8, .int 0, .int 0, .int 0, .int 0, .int 0, .int 0]) := (he17 0 (by omega)).trans E16_0
  have E17_2 : en17 2 = .inl (g 0, 140, .inl (fun _ => 0)) := (he17 2 (by omega)).trans E16_2
  have E17_3 : en17 3 = .inl (g 0, 840, .inl (fun _ => 0)) := (he17 3 (by omega)).trans E16_3
  have E17_4 : en17 4 = .inl (g 0, 280, .inl (fun _ => 0)) := (he17 4 (by omega)).trans E16_4
  have E17_5 : en17 5 = .inl (g 2, 2, .inl (fun _ => 0)) := (he17 5 (by omega)).trans E16_5
  have E17_6 : en17 6 = .inl (g 0, 80, .inl (fun _ => 0)) := (he17 6 (by omega)).trans E16_6
  have E17_7 : en17 7 = .inl (g 0, 80, .inl (fun _ => 0)) := (he17 7 (by omega)).trans E16_7
  have E17_8 : en17 8 = .inl (g 0, 16, .inl (fun _ => 0)) := (he17 8 (by omega)).trans E16_8
  have E17_1 : en17 1 = .inl (g 0, 140, .inl (upd (fun _ => 0) 0 60)) := hn17
  refine lv_aload_n hx hb dX6_init_79 rfl (lv_at hl 0 rfl) ?_
  refine o_get hx hb hts hinX6 hown hK hI 0 (by omega) A15_0 E17_0 (ci := 6) rfl 0 (by decide) (hts (.fieldLink RX6 7 "WinderLaddersModel" "s" "[I") (by decide +kernel)) (v := .ref q1) rfl dX6_init_80 ?_
  refine lv_iconst (v := 1) hx hb dX6_init_83 (by decide) ?_
  refine lv_bipush (v := 8) hx hb dX6_init_84 (by decide) ?_
  refine o_ast hx hb hK hI 1 (by omega) A15_1 E17_1 (by decide) 1 (by decide) rfl dX6_init_86 (fun en18 H locs he18 hn18 hI => ?_)
  have E18_0 : en18 0 = .inr (6, [.ref q1, .ref q2, .ref q3, .int 0, .ref q4, .ref q5, .ref q6, .int 0, .ref q7, .int 0, .ref q8, .int 0, .int 0, .int 0, .int 0, .int 0, .int 0]) := (he18 0 (by omega)).trans E17_0
  have E18_2 : en18 2 = .inl (g 0, 140, .inl (fun _ => 0)) := (he18 2 (by omega)).trans E17_2
  have E18_3 : en18 3 = .inl (g 0, 840, .inl (fun _ => 0)) := (he18 3 (by omega)).trans E17_3
  have E18_4 : en18 4 = .inl (g 0, 280, .inl (fun _ => 0)) := (he18 4 (by omega)).trans E17_4
  have E18_5 : en18 5 = .inl (g 2, 2, .inl (fun _ => 0)) := (he18 5 (by omega)).trans E17_5
  have E18_6 : en18 6 = .inl (g 0, 80, .inl (fun _ => 0)) := (he18 6 (by omega)).trans E17_6
  have E18_7 : en18 7 = .inl (g 0, 80, .inl (fun _ => 0)) := (he18 7 (by omega)).trans E17_7
  have E18_8 : en18 8 = .inl (g 0, 16, .inl (fun _ => 0)) := (he18 8 (by omega)).trans E17_8
  have E18_1 : en18 1 = .inl (g 0, 140, .inl (upd (upd (fun _ => 0) 0 60) 1 8)) := hn18
  refine lv_aload_n hx hb dX6_init_87 rfl (lv_at hl 0 rfl) ?_
  refine o_get hx hb hts hinX6 hown hK hI 0 (by omega) A15_0 E18_0 (ci := 6) rfl 0 (by decide) (hts (.fieldLink RX6 7 "WinderLaddersModel" "s" "[I") (by decide +kernel)) (v := .ref q1) rfl dX6_init_88 ?_
  refine lv_iconst (v := 2) hx hb dX6_init_91 (by decide) ?_
  refine lv_iconst (v := 5) hx hb dX6_init_92 (by decide) ?_
  refine o_ast hx hb hK hI 1 (by omega) A15_1 E18_1 (by decide) 2 (by decide) rfl dX6_init_93 (fun en19 H locs he19 hn19 hI => ?_)
  have E19_0 : en19 0 = .inr (6, [.ref q1, .ref q2, .ref q3, .int 0, .ref q4, .ref q5, .ref q6, .int 0, .ref q7, .int 0, .ref q8, .int 0, .int 0, .int 0, .int 0, .int 0, .int 0]) := (he19 0 (by omega)).trans E18_0
  have E19_2 : en19 2 = .inl (g 0, 140, .inl (fun _ => 0)) := (he19 2 (by omega)).trans E18_2
  have E19_3 : en19 3 = .inl (g 0, 840, .inl (fun _ => 0)) := (he19 3 (by omega)).trans E18_3
  have E19_4 : en19 4 = .inl (g 0, 280, .inl (fun _ => 0)) := (he19 4 (by omega)).trans E18_4
  have E19_5 : en19 5 = .inl (g 2, 2, .inl (fun _ => 0)) := (he19 5 (by omega)).trans E18_5
  have E19_6 : en19 6 = .inl (g 0, 80, .inl (fun _ => 0)) := (he19 6 (by omega)).trans E18_6
  have E19_7 : en19 7 = .inl (g 0, 80, .inl (fun _ => 0)) := (he19 7 (by omega)).trans E18_7
  have E19_8 : en19 8 = .inl (g 0, 16, .inl (fun _ => 0)) := (he19 8 (by omega)).trans E18_8
  have E19_1 : en19 1 = .inl (g 0, 140, .inl (upd (upd (upd (fun _ => 0) 0 60) 1 8) 2 5)) := hn19
  refine lv_aload_n hx hb dX6_init_94 rfl (lv_at hl 0 rfl) ?_
  refine o_get hx hb hts hinX6 hown hK hI 0 (by omega) A15_0 E19_0 (ci := 6) rfl 0 (by decide) (hts (.fieldLink RX6 7 "WinderLaddersModel" "s" "[I") (by decide +kernel)) (v := .ref q1) rfl dX6_init_95 ?_
  refine lv_iconst (v := 3) hx hb dX6_init_98 (by decide) ?_
  refine lv_bipush (v := 10) hx hb dX6_init_99 (by decide) ?_
  refine o_ast hx hb hK hI 1 (by omega) A15_1 E19_1 (by decide) 3 (by decide) rfl dX6_init_101 (fun en20 H locs he20 hn20 hI => ?_)
  have E20_0 : en20 0 = .inr (6, [.ref q1, .ref q2, .ref q3, .int 0, .ref q4, .ref q5, .ref q6, .int 0, .ref q7, .int 0, .ref q8, .int 0, .int 0, .int 0, .int 0, .int 0, .int 0]) := (he20 0 (by omega)).trans E19_0
  have E20_2 : en20 2 = .inl (g 0, 140, .inl (fun _ => 0)) := (he20 2 (by omega)).trans E19_2
  have E20_3 : en20 3 = .inl (g 0, 840, .inl (fun _ => 0)) := (he20 3 (by omega)).trans E19_3
  have E20_4 : en20 4 = .inl (g 0, 280, .inl (fun _ => 0)) := (he20 4 (by omega)).trans E19_4
  have E20_5 : en20 5 = .inl (g 2, 2, .inl (fun _ => 0)) := (he20 5 (by omega)).trans E19_5
  have E20_6 : en20 6 = .inl (g 0, 80, .inl (fun _ => 0)) := (he20 6 (by omega)).trans E19_6
  have E20_7 : en20 7 = .inl (g 0, 80, .inl (fun _ => 0)) := (he20 7 (by omega)).trans E19_7
  have E20_8 : en20 8 = .inl (g 0, 16, .inl (fun _ => 0)) := (he20 8 (by omega)).trans E19_8
  have E20_1 : en20 1 = .inl (g 0, 140, .inl (upd (upd (upd (upd (fun _ => 0) 0 60) 1 8) 2 5) 3 10)) := hn20
  exact o_ret (E := fun a r => if r = 0 then .inr (6, [.ref (a 1), .ref (a 2), .ref (a 3), .int 0, .ref (a 4), .ref (a 5), .ref (a 6), .int 0, .ref (a 7), .int 0, .ref (a 8), .int 0, .int 0, .int 0, .int 0, .int 0, .int 0]) else if r = 1 then .inl (g 0, 140, .inl (upd (upd (upd (upd (fun _ => 0) 0 60) 1 8) 2 5) 3 10)) else if r = 2 then .inl (g 0, 140, .inl (fun _ => 0)) else if r = 3 then .inl (g 0, 840, .inl (fun _ => 0)) else if r = 4 then .inl (g 0, 280, .inl (fun _ => 0)) else if r = 5 then .inl (g 2, 2, .inl (fun _ => 0)) else if r = 6 then .inl (g 0, 80, .inl (fun _ => 0)) else if r = 7 then .inl (g 0, 80, .inl (fun _ => 0)) else .inl (g 0, 16, .inl (fun _ => 0))) hx hb hr hI A15_0 (fun r hr => by
                  rcases (show r = 0 ∨ r = 1 ∨ r = 2 ∨ r = 3 ∨ r = 4 ∨ r = 5 ∨ r = 6 ∨ r = 7 ∨ r = 8 by omega) with rfl | rfl | rfl | rfl | rfl | rfl | rfl | rfl | rfl
                  · rw [E20_0]; first | rfl | (simp only [A15_0, A15_0, A15_1, A15_2, A15_3, A15_4, A15_5, A15_6, A15_7, A15_8]; rfl)
                  · rw [E20_1]; first | rfl | (simp only [A15_0, A15_0, A15_1, A15_2, A15_3, A15_4, A15_5, A15_6, A15_7, A15_8]; rfl)
                  · rw [E20_2]; first | rfl | (simp only [A15_0, A15_0, A15_1, A15_2, A15_3, A15_4, A15_5, A15_6, A15_7, A15_8]; rfl)
                  · rw [E20_3]; first | rfl | (simp only [A15_0, A15_0, A15_1, A15_2, A15_3, A15_4, A15_5, A15_6, A15_7, A15_8]; rfl)
                  · rw [E20_4]; first | rfl | (simp only [A15_0, A15_0, A15_1, A15_2, A15_3, A15_4, A15_5, A15_6, A15_7, A15_8]; rfl)
                  · rw [E20_5]; first | rfl | (simp only [A15_0, A15_0, A15_1, A15_2, A15_3, A15_4, A15_5, A15_6, A15_7, A15_8]; rfl)
                  · rw [E20_6]; first | rfl | (simp only [A15_0, A15_0, A15_1, A15_2, A15_3, A15_4, A15_5, A15_6, A15_7, A15_8]; rfl)
                  · rw [E20_7]; first | rfl | (simp only [A15_0, A15_0, A15_1, A15_2, A15_3, A15_4, A15_5, A15_6, A15_7, A15_8]; rfl)
                  · rw [E20_8]; first | rfl | (simp only [A15_0, A15_0, A15_1, A15_2, A15_3, A15_4, A15_5, A15_6, A15_7, A15_8]; rfl)) dX6_init_102 hlocks
