set_option maxHeartbeats 400000 in
set_option maxRecDepth 100000 in
theorem k_X2_init (l : Launch) (dd : va_G) (g : Nat → ClassId) (sz0 b sz : Nat) : Met l yX2_init wsX2_init ({ frames := 2, cells := 3, slots := 122, locals := 32 }) (iPre dd g sz0 b sz (.inr (2, [.null, .null, .int 0, .int 0, .int 0]))) (iPost dd b sz 4 (fun a r => if r = 0 then .inr (2, [.ref (a 1), .ref (a 2), .int 0, .int 0, .int 0]) else if r = 1 then .inl (g 1, 80, .inl (fun _ => 0)) else if r = 2 then .inr (3, [.ref (a 3), .int 0]) else .inl (g 0, 40, .inl (fun _ => 0)))) 3 122 (nA b sz) := by
  refine Met.ofW (cc := cX2_init) (maxL := 1) (ret := none) (by decide) rfl ?_
  intro p e s m args below meth c s₁ B hml hv
  obtain ⟨rfl, hsz, hs0, hP0, hK, hX⟩ := hv
  have hx := B.exec
  have hb := B.bytes
  have hr := B.returns
  have hts := atoms_spec (ws := wsX2_init) B.pre
  have hown : s.vm.findClass RX2 = some m.cls := findClass_of_methodNamed B.named
  have hlocks := B.notSynchronized
  have hin2 : meth.name = "<init>" := (name_of_methodNamed B.named B.method).1
  subst hsz
  obtain ⟨hI0, hA, hA0⟩ := n_start hP0 hs0
  obtain ⟨ad0, hw0⟩ : ∃ z, z = (fun _ : Nat => b) := ⟨_, rfl⟩
  obtain ⟨en0, hw1⟩ : ∃ z, z = (fun _ : Nat => (.inr (2, [.null, .null, .int 0, .int 0, .int 0]) : va_E)) := ⟨_, rfl⟩
  have A0_0 : ad0 0 = b := by rw [hw0]
  have E0_0 : en0 0 = (.inr (2, [.null, .null, .int 0, .int 0, .int 0]) : va_E) := by rw [hw1]
  have hI : nW dd 1 ad0 en0 (nA b s.heap.size) s.heap s.heap [] := by rw [hw0, hw1]; exact hI0
  have hinX2 : ∀ w ∈ wsX20, w ∈ wsX2_init := by decide +kernel
  have hinX3 : ∀ w ∈ wsX30, w ∈ wsX2_init := by decide +kernel
  obtain ⟨hX1, hX2, hX3, hX4, hX5, hX6, hX7, -⟩ := id hX
  have hl := lv_entry ([.ref b]) (n := 1) (Nat.le_of_ble_eq_true rfl)
  rw [lg_entry_eq]
  generalize (lg_sl ([.ref b]) ++ List.replicate (1 - (lg_sl ([.ref b])).length) Slot.unset).toArray = ls at hl ⊢
  have hl : lv_has ls 1 [(0, .ref b)] := hl
  refine lv_aload_n hx hb dX2_init_0 rfl (lv_at hl 0 rfl) ?_
  refine W.objInit hx hb hown (hts (.methodLink RX2 3 objectInit) (by decide +kernel)) (hts (.instanceMethod objectInit) (by decide +kernel)) (hts (.code objectInit ⟨#[0xb1]⟩ 1 none) (by decide +kernel)) rfl (by rw [hml]; exact hl.1) rfl dX2_init_1 (Nat.le_of_ble_eq_true rfl) (Nat.le_of_ble_eq_true rfl) ?_
  refine W.eq (g2 := F0 m 4 ls []) rfl ?_
  refine lv_aload_n hx hb dX2_init_4 rfl (lv_at hl 0 rfl) ?_
  refine lv_bipush (v := 80) hx hb dX2_init_5 (by decide) ?_
  refine o_newa (atype := .char) (ty := .char) (N := 80) (a0 := (80, .inl (fun _ => 0))) hx hb (hts (.arrayClass .char) (by decide +kernel)) rfl 1 rfl hK hI hA (fun _ => by rw [vp_cell_i]; rfl) (by decide) (by decide) (Nat.le_of_ble_eq_true rfl) (Nat.le_of_ble_eq_true rfl) (Nat.le_of_ble_eq_true rfl) dX2_init_7 (fun ad1 en1 H ha1 he1 hn1 hI => ?_)
  have A1_0 : ad1 0 = b := (ha1 0 (by omega)).trans A0_0
  have E1_0 : en1 0 = .inr (2, [.null, .null, .int 0, .int 0, .int 0]) := (he1 0 (by omega)).trans E0_0
  obtain ⟨q1, A1_1⟩ : ∃ z, ad1 1 = z := ⟨_, rfl⟩
  rw [A1_1]
  have E1_1 := hn1
  refine o_putF hx hb hts hinX2 tyX2 tyX2_ok nmX2 hown hK hI 0 (by omega) A1_0 E1_0 (ci := 2) rfl 0 (by decide) (hts (.fieldLink RX2 9 "WinderLadders$Pad" "signs" "[C") (by decide +kernel)) rfl hin2 rfl rfl rfl (Nat.le_of_ble_eq_true rfl) dX2_init_9 (fun en2 H locs he2 hn2 hI => ?_)
  have E2_1 : en2 1 = .inl (g 1, 80, .inl (fun _ => 0)) := (he2 1 (by omega)).trans E1_1
  have E2_0 : en2 0 = .inr (2, [.ref q1, .null, .int 0, .int 0, .int 0]) := hn2
  refine lv_aload_n hx hb dX2_init_12 rfl (lv_at hl 0 rfl) ?_
  refine o_new (fs := [.null, .int 0]) hx hb hts hinX3 tyX3 tyX3_ok hown (hts (.classLink RX2 15 RX3) (by decide +kernel)) (hts (.instantiable RX3 2) (by decide +kernel)) (hts (.initialized RX3) (by decide +kernel)) hK hI hA (ci := 3) rfl (by decide) (Nat.le_of_ble_eq_true rfl) (Nat.le_of_ble_eq_true rfl) dX2_init_13 (fun ad3 en3 H ha3 he3 hn3 hI => ?_)
  have A3_0 : ad3 0 = b := (ha3 0 (by omega)).trans A1_0
  have A3_1 : ad3 1 = q1 := (ha3 1 (by omega)).trans A1_1
  have E3_0 : en3 0 = .inr (2, [.ref q1, .null, .int 0, .int 0, .int 0]) := (he3 0 (by omega)).trans E2_0
  have E3_1 : en3 1 = .inl (g 1, 80, .inl (fun _ => 0)) := (he3 1 (by omega)).trans E2_1
  obtain ⟨q2, A3_2⟩ : ∃ z, ad3 2 = z := ⟨_, rfl⟩
  rw [A3_2]
  have E3_2 := hn3
  refine lv_dup hx hb dX2_init_16 rfl ?_
  refine o_initN (mm := 2) (rest := [.ref q2, .ref b]) hx hb hml hown hts hK hX hI hA hA0 A3_2 E3_2 (k_X3_init l dd g sz0 q2 H.size) ⟨va_cnB 0 hts gX2_init_X3_init_n17 rfl rfl rfl hX4 (hts (.initialized RX3) (by decide +kernel)) (by decide +kernel) ⟨Nat.le_of_ble_eq_true rfl, Nat.le_of_ble_eq_true rfl⟩, rfl, hts (.instanceMethod yX3_init) (by decide +kernel)⟩ hl (Nat.le_of_ble_eq_true rfl) ⟨Nat.le_of_ble_eq_true rfl, Nat.le_of_ble_eq_true rfl⟩ dX2_init_17 (fun ad4 en4 H locs ha4 hq4 he4 hn4 hI => ?_)
  have A4_0 : ad4 0 = b := (ha4 0 (by omega)).trans A3_0
  have A4_1 : ad4 1 = q1 := (ha4 1 (by omega)).trans A3_1
  have E4_0 : en4 0 = .inr (2, [.ref q1, .null, .int 0, .int 0, .int 0]) := (he4 0 (by omega)).trans E3_0
  have E4_1 : en4 1 = .inl (g 1, 80, .inl (fun _ => 0)) := (he4 1 (by omega)).trans E3_1
  have A4_2 : ad4 2 = q2 := hq4
  obtain ⟨q3, A4_3⟩ : ∃ z, ad4 3 = z := ⟨_, rfl⟩
  have E4_2 : en4 2 = .inr (3, [.ref q3, .int 0]) := (hn4 0).trans (by rw [← A4_3]; rfl)
  have E4_3 : en4 3 = .inl (g 0, 40, .inl (fun _ => 0)) := hn4 1
  refine o_putF hx hb hts hinX2 tyX2 tyX2_ok nmX2 hown hK hI 0 (by omega) A4_0 E4_0 (ci := 2) rfl 1 (by decide) (hts (.fieldLink RX2 18 "WinderLadders$Pad" "numbers" "LWinderLadders$Row;") (by decide +kernel)) rfl hin2 rfl rfl rfl (Nat.le_of_ble_eq_true rfl) dX2_init_20 (fun en5 H locs he5 hn5 hI => ?_)
  have E5_1 : en5 1 = .inl (g 1, 80, .inl (fun _ => 0)) := (he5 1 (by omega)).trans E4_1
  have E5_2 : en5 2 = .inr (3, [.ref q3, .int 0]) := (he5 2 (by omega)).trans E4_2
  have E5_3 : en5 3 = .inl (g 0, 40, .inl (fun _ => 0)) := (he5 3 (by omega)).trans E4_3
  have E5_0 : en5 0 = .inr (2, [.ref q1, .ref q2, .int 0, .int 0, .int 0]) := hn5
  exact o_ret (E := fun a r => if r = 0 then .inr (2, [.ref (a 1), .ref (a 2), .int 0, .int 0, .int 0]) else if r = 1 then .inl (g 1, 80, .inl (fun _ => 0)) else if r = 2 then .inr (3, [.ref (a 3), .int 0]) else .inl (g 0, 40, .inl (fun _ => 0))) hx hb hr hI A4_0 (fun r hr => by
                  rcases (show r = 0 ∨ r = 1 ∨ r = 2 ∨ r = 3 by omega) with rfl | rfl | rfl | rfl
                  · rw [E5_0]; first | rfl | (simp only [A4_0, A4_0, A4_1, A4_2, A4_3]; rfl)
                  · rw [E5_1]; first | rfl | (simp only [A4_0, A4_0, A4_1, A4_2, A4_3]; rfl)
                  · rw [E5_2]; first | rfl | (simp only [A4_0, A4_0, A4_1, A4_2, A4_3]; rfl)
                  · rw [E5_3]; first | rfl | (simp only [A4_0, A4_0, A4_1, A4_2, A4_3]; rfl)) dX2_init_23 hlocks
