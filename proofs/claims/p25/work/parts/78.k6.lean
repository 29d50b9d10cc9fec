abbrev paN (g : Nat → ClassId) (a : Nat → Nat) (r : Nat) : va_E := if r = 0 then .inr (2, [.ref (a 1), .ref (a 2), .int 0, .int 0, .int 0]) else if r = 1 then .inl (g 1, 80, .inl (fun _ => 0)) else if r = 2 then .inr (3, [.ref (a 3), .int 0]) else .inl (g 0, 40, .inl (fun _ => 0))
abbrev roN (g : Nat → ClassId) (a : Nat → Nat) (r : Nat) : va_E := if r = 0 then .inr (3, [.ref (a 1), .int 0]) else .inl (g 0, 40, .inl (fun _ => 0))
def obN (g : Nat → ClassId) (a : Nat → Nat) (r : Nat) : va_E :=
  if r = 0 then .inr (5, [.ref (a 1), .ref (a 21), .ref (a 163), .ref (a 164), .ref (a 165), .ref (a 169), .ref (a 171)])
  else if r < 21 then stN g (fun k => a (1 + k)) (r - 1)
  else if r < 163 then hiN g (fun k => a (21 + k)) (r - 21)
  else if r = 163 then .inl (g 4, 2, .inr (.inr (.inr (.inr (fun j => if j < 2 then some (a (172 + 20 * j)) else none)))))
  else if r = 164 then .inl (g 2, 2, .inl (fun _ => 0))
  else if r < 169 then paN g (fun k => a (165 + k)) (r - 165)
  else if r < 171 then roN g (fun k => a (169 + k)) (r - 169)
  else if r = 171 then .inl (g 0, 16, .inl (fun _ => 0))
  else stN g (fun k => a (172 + 20 * ((r - 172) / 20) + k)) ((r - 172) % 20)
theorem paN_cong {g : Nat → ClassId} {a a' : Nat → Nat} {r : Nat} (h : ∀ k, k < 4 → a k = a' k) : paN g a r = paN g a' r := by
  unfold paN; rw [h 1 (by decide), h 2 (by decide), h 3 (by decide)]
theorem roN_cong {g : Nat → ClassId} {a a' : Nat → Nat} {r : Nat} (h : ∀ k, k < 2 → a k = a' k) : roN g a r = roN g a' r := by
  unfold roN; rw [h 1 (by decide)]
set_option maxHeartbeats 4000000 in
set_option maxRecDepth 100000 in
theorem k_X5_init (l : Launch) (dd : va_G) (g : Nat → ClassId) (sz0 b sz : Nat) : Met l yX5_init wsX5_init ({ frames := 4, cells := 211, slots := 1788, locals := 84 }) (iPre dd g sz0 b sz (.inr (5, [.null, .null, .null, .null, .null, .null, .null]))) (iPost dd b sz 212 (obN g)) 211 1788 (nA b sz) := by
  refine Met.ofW (cc := cX5_init) (maxL := 2) (ret := none) (by decide) rfl ?_
  intro p e s m args below meth c s₁ B hml hv
  obtain ⟨rfl, hsz, hs0, hP0, hK, hX⟩ := hv
  have hx := B.exec
  have hb := B.bytes
  have hr := B.returns
  have hts := atoms_spec (ws := wsX5_init) B.pre
  have hown : s.vm.findClass RX5 = some m.cls := findClass_of_methodNamed B.named
  have hlocks := B.notSynchronized
  have hin2 : meth.name = "<init>" := (name_of_methodNamed B.named B.method).1
  subst hsz
  obtain ⟨hI0, hA, hA0⟩ := n_start hP0 hs0
  obtain ⟨ad0, hw0⟩ : ∃ z, z = (fun _ : Nat => b) := ⟨_, rfl⟩
  obtain ⟨en0, hw1⟩ : ∃ z, z = (fun _ : Nat => (.inr (5, [.null, .null, .null, .null, .null, .null, .null]) : va_E)) := ⟨_, rfl⟩
  have A0_0 : ad0 0 = b := by rw [hw0]
  have E0_0 : en0 0 = (.inr (5, [.null, .null, .null, .null, .null, .null, .null]) : va_E) := by rw [hw1]
  have hI : nW dd 1 ad0 en0 (nA b s.heap.size) s.heap s.heap [] := by rw [hw0, hw1]; exact hI0
  have hinX5 : ∀ w ∈ wsX50, w ∈ wsX5_init := by decide +kernel
  have hinX4 : ∀ w ∈ wsX40, w ∈ wsX5_init := by decide +kernel
  have hinX1 : ∀ w ∈ wsX10, w ∈ wsX5_init := by decide +kernel
  have hinX2 : ∀ w ∈ wsX20, w ∈ wsX5_init := by decide +kernel
  have hinX3 : ∀ w ∈ wsX30, w ∈ wsX5_init := by decide +kernel
  obtain ⟨hX1, hX2, hX3, hX4, hX5, hX6, hX7, -⟩ := id hX
  have hl := lv_entry ([.ref b]) (n := 2) (Nat.le_of_ble_eq_true rfl)
  rw [lg_entry_eq]
  generalize (lg_sl ([.ref b]) ++ List.replicate (2 - (lg_sl ([.ref b])).length) Slot.unset).toArray = ls at hl ⊢
  have hl : lv_has ls 2 [(0, .ref b)] := hl
  refine lv_aload_n hx hb dX5_init_0 rfl (lv_at hl 0 rfl) ?_
  refine W.objInit hx hb hown (hts (.methodLink RX5 3 objectInit) (by decide +kernel)) (hts (.instanceMethod objectInit) (by decide +kernel)) (hts (.code objectInit ⟨#[0xb1]⟩ 1 none) (by decide +kernel)) rfl (by rw [hml]; exact hl.1) rfl dX5_init_1 (Nat.le_of_ble_eq_true rfl) (Nat.le_of_ble_eq_true rfl) ?_
  refine W.eq (g2 := F0 m 4 ls []) rfl ?_
  refine lv_aload_n hx hb dX5_init_4 rfl (lv_at hl 0 rfl) ?_
  refine o_new (fs := [.null, .null, .null, .int 0, .int 0, .int 0, .int 0]) hx hb hts hinX4 tyX4 tyX4_ok hown (hts (.classLink RX5 9 RX4) (by decide +kernel)) (hts (.instantiable RX4 7) (by decide +kernel)) (hts (.initialized RX4) (by decide +kernel)) hK hI hA (ci := 4) rfl (by decide) (Nat.le_of_ble_eq_true rfl) (Nat.le_of_ble_eq_true rfl) dX5_init_5 (fun ad1 en1 H ha1 he1 hn1 hI => ?_)
  have A1_0 : ad1 0 = b := (ha1 0 (by omega)).trans A0_0
  have E1_0 : en1 0 = .inr (5, [.null, .null, .null, .null, .null, .null, .null]) := (he1 0 (by omega)).trans E0_0
  obtain ⟨q1, A1_1⟩ : ∃ z, ad1 1 = z := ⟨_, rfl⟩
  rw [A1_1]
  have E1_1 := hn1
  refine lv_dup hx hb dX5_init_8 rfl ?_
  refine o_init (mm := 20) (rest := [.ref q1, .ref b]) hx hb hml hown hts hK hX hI hA hA0 A1_1 E1_1 (k_X4_init l dd g sz0 q1 H.size) (cwI 0 hts gX5_init_X4_init rfl rfl rfl (hts (.initialized RX4) (by decide +kernel)) (hts (.methodLink RX5 11 yX4_init) (by decide +kernel)) (hts (.instanceMethod yX4_init) (by decide +kernel)) rfl (by decide +kernel) ⟨Nat.le_of_ble_eq_true rfl, Nat.le_of_ble_eq_true rfl⟩) hl (Nat.le_of_ble_eq_true rfl) ⟨Nat.le_of_ble_eq_true rfl, Nat.le_of_ble_eq_true rfl⟩ dX5_init_9 (fun ad2 en2 H locs ha2 hq2 he2 hn2 hI => ?_)
  have A2_0 : ad2 0 = b := (ha2 0 (by omega)).trans A1_0
  have E2_0 : en2 0 = .inr (5, [.null, .null, .null, .null, .null, .null, .null]) := (he2 0 (by omega)).trans E1_0
  have A2_1 : ad2 1 = q1 := hq2
  obtain ⟨af1, hf1⟩ : ∃ z, z = (fun k => ad2 (1 + k)) := ⟨_, rfl⟩
  have G2_1 : ∀ r, r < 20 → ad2 (1 + r) = af1 r := fun r _ => by rw [hf1]
  have F2_1 : ∀ r, r < 20 → en2 (1 + r) = stN g af1 r := fun r _ => by rw [hf1]; exact hn2 r
  refine o_putF hx hb hts hinX5 tyX5 tyX5_ok nmX5 hown hK hI 0 (by omega) A2_0 E2_0 (ci := 5) rfl 0 (by decide) (hts (.fieldLink RX5 12 "WinderLadders" "now" "LWinderLadders$State;") (by decide +kernel)) rfl hin2 rfl rfl rfl (Nat.le_of_ble_eq_true rfl) dX5_init_12 (fun en3 H locs he3 hn3 hI => ?_)
  have F3_1 : ∀ r, r < 20 → en3 (1 + r) = stN g af1 r := fun r hr9 => (he3 (1 + r) (by omega)).trans (F2_1 r hr9)
  have E3_0 : en3 0 = .inr (5, [.ref q1, .null, .null, .null, .null, .null, .null]) := hn3
  refine lv_aload_n hx hb dX5_init_15 rfl (lv_at hl 0 rfl) ?_
  refine o_new (fs := [.null, .int 0]) hx hb hts hinX1 tyX1 tyX1_ok hown (hts (.classLink RX5 16 RX1) (by decide +kernel)) (hts (.instantiable RX1 2) (by decide +kernel)) (hts (.initialized RX1) (by decide +kernel)) hK hI hA (ci := 1) rfl (by decide) (Nat.le_of_ble_eq_true rfl) (Nat.le_of_ble_eq_true rfl) dX5_init_16 (fun ad4 en4 H ha4 he4 hn4 hI => ?_)
  have A4_0 : ad4 0 = b := (ha4 0 (by omega)).trans A2_0
  have A4_1 : ad4 1 = q1 := (ha4 1 (by omega)).trans A2_1
  have E4_0 : en4 0 = .inr (5, [.ref q1, .null, .null, .null, .null, .null, .null]) := (he4 0 (by omega)).trans E3_0
  have F4_1 : ∀ r, r < 20 → en4 (1 + r) = stN g af1 r := fun r hr9 => (he4 (1 + r) (by omega)).trans (F3_1 r hr9)
  have G4_1 : ∀ r, r < 20 → ad4 (1 + r) = af1 r := fun r hr9 => (ha4 (1 + r) (by omega)).trans (G2_1 r hr9)
  obtain ⟨q21, A4_21⟩ : ∃ z, ad4 21 = z := ⟨_, rfl⟩
  rw [A4_21]
  have E4_21 := hn4
  refine lv_dup hx hb dX5_init_19 rfl ?_
  refine o_init (mm := 142) (rest := [.ref q21, .ref b]) hx hb hml hown hts hK hX hI hA hA0 A4_21 E4_21 (k_X1_init l dd g sz0 q21 H.size) (cwI 0 hts gX5_init_X1_init rfl rfl rfl (hts (.initialized RX1) (by decide +kernel)) (hts (.methodLink RX5 18 yX1_init) (by decide +kernel)) (hts (.instanceMethod yX1_init) (by decide +kernel)) rfl (by decide +kernel) ⟨Nat.le_of_ble_eq_true rfl, Nat.le_of_ble_eq_true rfl⟩) hl (Nat.le_of_ble_eq_true rfl) ⟨Nat.le_of_ble_eq_true rfl, Nat.le_of_ble_eq_true rfl⟩ dX5_init_20 (fun ad5 en5 H locs ha5 hq5 he5 hn5 hI => ?_)
  have A5_0 : ad5 0 = b := (ha5 0 (by omega)).trans A4_0
  have A5_1 : ad5 1 = q1 := (ha5 1 (by omega)).trans A4_1
  have E5_0 : en5 0 = .inr (5, [.ref q1, .null, .null, .null, .null, .null, .null]) := (he5 0 (by omega)).trans E4_0
  have F5_1 : ∀ r, r < 20 → en5 (1 + r) = stN g af1 r := fun r hr9 => (he5 (1 + r) (by omega)).trans (F4_1 r hr9)
  have G5_1 : ∀ r, r < 20 → ad5 (1 + r) = af1 r := fun r hr9 => (ha5 (1 + r) (by omega)).trans (G4_1 r hr9)
  have A5_21 : ad5 21 = q21 := hq5
  obtain ⟨af21, hf21⟩ : ∃ z, z = (fun k => ad5 (21 + k)) := ⟨_, rfl⟩
  have G5_21 : ∀ r, r < 142 → ad5 (21 + r) = af21 r := fun r _ => by rw [hf21]
  have F5_21 : ∀ r, r < 142 → en5 (21 + r) = hiN g af21 r := fun r _ => by rw [hf21]; exact hn5 r
  refine o_putF hx hb hts hinX5 tyX5 tyX5_ok nmX5 hown hK hI 0 (by omega) A5_0 E5_0 (ci := 5) rfl 1 (by decide) (hts (.fieldLink RX5 19 "WinderLadders" "history" "LWinderLadders$History;") (by decide +kernel)) rfl hin2 rfl rfl rfl (Nat.le_of_ble_eq_true rfl) dX5_init_23 (fun en6 H locs he6 hn6 hI => ?_)
  have F6_1 : ∀ r, r < 20 → en6 (1 + r) = stN g af1 r := fun r hr9 => (he6 (1 + r) (by omega)).trans (F5_1 r hr9)
  have F6_21 : ∀ r, r < 142 → en6 (21 + r) = hiN g af21 r := fun r hr9 => (he6 (21 + r) (by omega)).trans (F5_21 r hr9)
  have E6_0 : en6 0 = .inr (5, [.ref q1, .ref q21, .null, .null, .null, .null, .null]) := hn6
  refine lv_aload_n hx hb dX5_init_26 rfl (lv_at hl 0 rfl) ?_
  refine lv_iconst (v := 2) hx hb dX5_init_27 (by decide) ?_
  refine o_newq (N := 2) hx hb hown (hts (.classLink RX5 9 RX4) (by decide +kernel)) hX2 4 rfl hK hI hA (by decide) (by decide) (Nat.le_of_ble_eq_true rfl) (Nat.le_of_ble_eq_true rfl) (Nat.le_of_ble_eq_true rfl) dX5_init_28 (fun ad7 en7 H ha7 he7 hn7 hI => ?_)
  have A7_0 : ad7 0 = b := (ha7 0 (by omega)).trans A5_0
  have A7_1 : ad7 1 = q1 := (ha7 1 (by omega)).trans A5_1
  have A7_21 : ad7 21 = q21 := (ha7 21 (by omega)).trans A5_21
  have E7_0 : en7 0 = .inr (5, [.ref q1, .ref q21, .null, .null, .null, .null, .null]) := (he7 0 (by omega)).trans E6_0
  have F7_1 : ∀ r, r < 20 → en7 (1 + r) = stN g af1 r := fun r hr9 => (he7 (1 + r) (by omega)).trans (F6_1 r hr9)
  have G7_1 : ∀ r, r < 20 → ad7 (1 + r) = af1 r := fun r hr9 => (ha7 (1 + r) (by omega)).trans (G5_1 r hr9)
  have F7_21 : ∀ r, r < 142 → en7 (21 + r) = hiN g af21 r := fun r hr9 => (he7 (21 + r) (by omega)).trans (F6_21 r hr9)
  have G7_21 : ∀ r, r < 142 → ad7 (21 + r) = af21 r := fun r hr9 => (ha7 (21 + r) (by omega)).trans (G5_21 r hr9)
  obtain ⟨q163, A7_163⟩ : ∃ z, ad7 163 = z := ⟨_, rfl⟩
  rw [A7_163]
  have E7_163 := hn7
  refine o_putF hx hb hts hinX5 tyX5 tyX5_ok nmX5 hown hK hI 0 (by omega) A7_0 E7_0 (ci := 5) rfl 2 (by decide) (hts (.fieldLink RX5 23 "WinderLadders" "slots" "[LWinderLadders$State;") (by decide +kernel)) rfl hin2 rfl rfl rfl (Nat.le_of_ble_eq_true rfl) dX5_init_31 (fun en8 H locs he8 hn8 hI => ?_)
  have E8_163 : en8 163 = .inl (g 4, 2, .inr (.inr (.inr (.inr (fun _ => none))))) := (he8 163 (by omega)).trans E7_163
  have F8_1 : ∀ r, r < 20 → en8 (1 + r) = stN g af1 r := fun r hr9 => (he8 (1 + r) (by omega)).trans (F7_1 r hr9)
  have F8_21 : ∀ r, r < 142 → en8 (21 + r) = hiN g af21 r := fun r hr9 => (he8 (21 + r) (by omega)).trans (F7_21 r hr9)
  have E8_0 : en8 0 = .inr (5, [.ref q1, .ref q21, .ref q163, .null, .null, .null, .null]) := hn8
  refine lv_aload_n hx hb dX5_init_34 rfl (lv_at hl 0 rfl) ?_
  refine lv_iconst (v := 2) hx hb dX5_init_35 (by decide) ?_
  refine o_newa (atype := .boolean) (ty := .boolean) (N := 2) (a0 := (2, .inl (fun _ => 0))) hx hb (hts (.arrayClass .boolean) (by decide +kernel)) rfl 2 rfl hK hI hA (fun _ => by rw [vp_cell_i]; rfl) (by decide) (by decide) (Nat.le_of_ble_eq_true rfl) (Nat.le_of_ble_eq_true rfl) (Nat.le_of_ble_eq_true rfl) dX5_init_36 (fun ad9 en9 H ha9 he9 hn9 hI => ?_)
  have A9_0 : ad9 0 = b := (ha9 0 (by omega)).trans A7_0
  have A9_1 : ad9 1 = q1 := (ha9 1 (by omega)).trans A7_1
  have A9_21 : ad9 21 = q21 := (ha9 21 (by omega)).trans A7_21
  have A9_163 : ad9 163 = q163 := (ha9 163 (by omega)).trans A7_163
  have E9_0 : en9 0 = .inr (5, [.ref q1, .ref q21, .ref q163, .null, .null, .null, .null]) := (he9 0 (by omega)).trans E8_0
  have E9_163 : en9 163 = .inl (g 4, 2, .inr (.inr (.inr (.inr (fun _ => none))))) := (he9 163 (by omega)).trans E8_163
  have F9_1 : ∀ r, r < 20 → en9 (1 + r) = stN g af1 r := fun r hr9 => (he9 (1 + r) (by omega)).trans (F8_1 r hr9)
  have G9_1 : ∀ r, r < 20 → ad9 (1 + r) = af1 r := fun r hr9 => (ha9 (1 + r) (by omega)).trans (G7_1 r hr9)
  have F9_21 : ∀ r, r < 142 → en9 (21 + r) = hiN g af21 r := fun r hr9 => (he9 (21 + r) (by omega)).trans (F8_21 r hr9)
  have G9_21 : ∀ r, r < 142 → ad9 (21 + r) = af21 r := fun r hr9 => (ha9 (21 + r) (by omega)).trans (G7_21 r hr9)
  obtain ⟨q164, A9_164⟩ : ∃ z, ad9 164 = z := ⟨_, rfl⟩
  rw [A9_164]
  have E9_164 := hn9
  refine o_putF hx hb hts hinX5 tyX5 tyX5_ok nmX5 hown hK hI 0 (by omega) A9_0 E9_0 (ci := 5) rfl 3 (by decide) (hts (.fieldLink RX5 27 "WinderLadders" "slotHolds" "[Z") (by decide +kernel)) rfl hin2 rfl rfl rfl (Nat.le_of_ble_eq_true rfl) dX5_init_38 (fun en10 H locs he10 hn10 hI => ?_)
  have E10_163 : en10 163 = .inl (g 4, 2, .inr (.inr (.inr (.inr (fun _ => none))))) := (he10 163 (by omega)).trans E9_163
  have E10_164 : en10 164 = .inl (g 2, 2, .inl (fun _ => 0)) := (he10 164 (by omega)).trans E9_164
  have F10_1 : ∀ r, r < 20 → en10 (1 + r) = stN g af1 r := fun r hr9 => (he10 (1 + r) (by omega)).trans (F9_1 r hr9)
  have F10_21 : ∀ r, r < 142 → en10 (21 + r) = hiN g af21 r := fun r hr9 => (he10 (21 + r) (by omega)).trans (F9_21 r hr9)
  have E10_0 : en10 0 = .inr (5, [.ref q1, .ref q21, .ref q163, .ref q164, .null, .null, .null]) := hn10
  refine lv_aload_n hx hb dX5_init_41 rfl (lv_at hl 0 rfl) ?_
  refine o_new (fs := [.null, .null, .int 0, .int 0, .int 0]) hx hb hts hinX2 tyX2 tyX2_ok hown (hts (.classLink RX5 31 RX2) (by decide +kernel)) (hts (.instantiable RX2 5) (by decide +kernel)) (hts (.initialized RX2) (by decide +kernel)) hK hI hA (ci := 2) rfl (by decide) (Nat.le_of_ble_eq_true rfl) (Nat.le_of_ble_eq_true rfl) dX5_init_42 (fun ad11 en11 H ha11 he11 hn11 hI => ?_)
  have A11_0 : ad11 0 = b := (ha11 0 (by omega)).trans A9_0
  have A11_1 : ad11 1 = q1 := (ha11 1 (by omega)).trans A9_1
  have A11_21 : ad11 21 = q21 := (ha11 21 (by omega)).trans A9_21
  have A11_163 : ad11 163 = q163 := (ha11 163 (by omega)).trans A9_163
  have A11_164 : ad11 164 = q164 := (ha11 164 (by omega)).trans A9_164
  have E11_0 : en11 0 = .inr (5, [.ref q1, .ref q21, .ref q163, .ref q164, .null, .null, .null]) := (he11 0 (by omega)).trans E10_0
  have E11_163 : en11 163 = .inl (g 4, 2, .inr (.inr (.inr (.inr (fun _ => none))))) := (he11 163 (by omega)).trans E10_163
  have E11_164 : en11 164 = .inl (g 2, 2, .inl (fun _ => 0)) := (he11 164 (by omega)).trans E10_164
  have F11_1 : ∀ r, r < 20 → en11 (1 + r) = stN g af1 r := fun r hr9 => (he11 (1 + r) (by omega)).trans (F10_1 r hr9)
  have G11_1 : ∀ r, r < 20 → ad11 (1 + r) = af1 r := fun r hr9 => (ha11 (1 + r) (by omega)).trans (G9_1 r hr9)
  have F11_21 : ∀ r, r < 142 → en11 (21 + r) = hiN g af21 r := fun r hr9 => (he11 (21 + r) (by omega)).trans (F10_21 r hr9)
  have G11_21 : ∀ r, r < 142 → ad11 (21 + r) = af21 r := fun r hr9 => (ha11 (21 + r) (by omega)).trans (G9_21 r hr9)
  obtain ⟨q165, A11_165⟩ : ∃ z, ad11 165 = z := ⟨_, rfl⟩
  rw [A11_165]
  have E11_165 := hn11
  refine lv_dup hx hb dX5_init_45 rfl ?_
  refine o_initN (mm := 4) (rest := [.ref q165, .ref b]) hx hb hml hown hts hK hX hI hA hA0 A11_165 E11_165 (k_X2_init l dd g sz0 q165 H.size) ⟨va_cnB 0 hts gX5_init_X2_init_n33 rfl rfl rfl hX5 (hts (.initialized RX2) (by decide +kernel)) (by decide +kernel) ⟨Nat.le_of_ble_eq_true rfl, Nat.le_of_ble_eq_true rfl⟩, rfl, hts (.instanceMethod yX2_init) (by decide +kernel)⟩ hl (Nat.le_of_ble_eq_true rfl) ⟨Nat.le_of_ble_eq_true rfl, Nat.le_of_ble_eq_true rfl⟩ dX5_init_46 (fun ad12 en12 H locs ha12 hq12 he12 hn12 hI => ?_)
  have A12_0 : ad12 0 = b := (ha12 0 (by omega)).trans A11_0
  have A12_1 : ad12 1 = q1 := (ha12 1 (by omega)).trans A11_1
  have A12_21 : ad12 21 = q21 := (ha12 21 (by omega)).trans A11_21
  have A12_163 : ad12 163 = q163 := (ha12 163 (by omega)).trans A11_163
  have A12_164 : ad12 164 = q164 := (ha12 164 (by omega)).trans A11_164
  have E12_0 : en12 0 = .inr (5, [.ref q1, .ref q21, .ref q163, .ref q164, .null, .null, .null]) := (he12 0 (by omega)).trans E11_0
  have E12_163 : en12 163 = .inl (g 4, 2, .inr (.inr (.inr (.inr (fun _ => none))))) := (he12 163 (by omega)).trans E11_163
  have E12_164 : en12 164 = .inl (g 2, 2, .inl (fun _ => 0)) := (he12 164 (by omega)).trans E11_164
  have F12_1 : ∀ r, r < 20 → en12 (1 + r) = stN g af1 r := fun r hr9 => (he12 (1 + r) (by omega)).trans (F11_1 r hr9)
  have G12_1 : ∀ r, r < 20 → ad12 (1 + r) = af1 r := fun r hr9 => (ha12 (1 + r) (by omega)).trans (G11_1 r hr9)
  have F12_21 : ∀ r, r < 142 → en12 (21 + r) = hiN g af21 r := fun r hr9 => (he12 (21 + r) (by omega)).trans (F11_21 r hr9)
  have G12_21 : ∀ r, r < 142 → ad12 (21 + r) = af21 r := fun r hr9 => (ha12 (21 + r) (by omega)).trans (G11_21 r hr9)
  have A12_165 : ad12 165 = q165 := hq12
  obtain ⟨af165, hf165⟩ : ∃ z, z = (fun k => ad12 (165 + k)) := ⟨_, rfl⟩
  have G12_165 : ∀ r, r < 4 → ad12 (165 + r) = af165 r := fun r _ => by rw [hf165]
  have F12_165 : ∀ r, r < 4 → en12 (165 + r) = paN g af165 r := fun r _ => by rw [hf165]; exact hn12 r
  refine o_putF hx hb hts hinX5 tyX5 tyX5_ok nmX5 hown hK hI 0 (by omega) A12_0 E12_0 (ci := 5) rfl 4 (by decide) (hts (.fieldLink RX5 34 "WinderLadders" "pad" "LWinderLadders$Pad;") (by decide +kernel)) rfl hin2 rfl rfl rfl (Nat.le_of_ble_eq_true rfl) dX5_init_49 (fun en13 H locs he13 hn13 hI => ?_)
  have E13_163 : en13 163 = .inl (g 4, 2, .inr (.inr (.inr (.inr (fun _ => none))))) := (he13 163 (by omega)).trans E12_163
  have E13_164 : en13 164 = .inl (g 2, 2, .inl (fun _ => 0)) := (he13 164 (by omega)).trans E12_164
  have F13_1 : ∀ r, r < 20 → en13 (1 + r) = stN g af1 r := fun r hr9 => (he13 (1 + r) (by omega)).trans (F12_1 r hr9)
  have F13_21 : ∀ r, r < 142 → en13 (21 + r) = hiN g af21 r := fun r hr9 => (he13 (21 + r) (by omega)).trans (F12_21 r hr9)
  have F13_165 : ∀ r, r < 4 → en13 (165 + r) = paN g af165 r := fun r hr9 => (he13 (165 + r) (by omega)).trans (F12_165 r hr9)
  have E13_0 : en13 0 = .inr (5, [.ref q1, .ref q21, .ref q163, .ref q164, .ref q165, .null, .null]) := hn13
  refine lv_aload_n hx hb dX5_init_52 rfl (lv_at hl 0 rfl) ?_
  refine o_new (fs := [.null, .int 0]) hx hb hts hinX3 tyX3 tyX3_ok hown (hts (.classLink RX5 38 RX3) (by decide +kernel)) (hts (.instantiable RX3 2) (by decide +kernel)) (hts (.initialized RX3) (by decide +kernel)) hK hI hA (ci := 3) rfl (by decide) (Nat.le_of_ble_eq_true rfl) (Nat.le_of_ble_eq_true rfl) dX5_init_53 (fun ad14 en14 H ha14 he14 hn14 hI => ?_)
  have A14_0 : ad14 0 = b := (ha14 0 (by omega)).trans A12_0
  have A14_1 : ad14 1 = q1 := (ha14 1 (by omega)).trans A12_1
  have A14_21 : ad14 21 = q21 := (ha14 21 (by omega)).trans A12_21
  have A14_163 : ad14 163 = q163 := (ha14 163 (by omega)).trans A12_163
  have A14_164 : ad14 164 = q164 := (ha14 164 (by omega)).trans A12_164
  have A14_165 : ad14 165 = q165 := (ha14 165 (by omega)).trans A12_165
  have E14_0 : en14 0 = .inr (5, [.ref q1, .ref q21, .ref q163, .ref q164, .ref q165, .null, .null]) := (he14 0 (by omega)).trans E13_0
  have E14_163 : en14 163 = .inl (g 4, 2, .inr (.inr (.inr (.inr (fun _ => none))))) := (he14 163 (by omega)).trans E13_163
  have E14_164 : en14 164 = .inl (g 2, 2, .inl (fun _ => 0)) := (he14 164 (by omega)).trans E13_164
  have F14_1 : ∀ r, r < 20 → en14 (1 + r) = stN g af1 r := fun r hr9 => (he14 (1 + r) (by omega)).trans (F13_1 r hr9)
  have G14_1 : ∀ r, r < 20 → ad14 (1 + r) = af1 r := fun r hr9 => (ha14 (1 + r) (by omega)).trans (G12_1 r hr9)
  have F14_21 : ∀ r, r < 142 → en14 (21 + r) = hiN g af21 r := fun r hr9 => (he14 (21 + r) (by omega)).trans (F13_21 r hr9)
  have G14_21 : ∀ r, r < 142 → ad14 (21 + r) = af21 r := fun r hr9 => (ha14 (21 + r) (by omega)).trans (G12_21 r hr9)
  have F14_165 : ∀ r, r < 4 → en14 (165 + r) = paN g af165 r := fun r hr9 => (he14 (165 + r) (by omega)).trans (F13_165 r hr9)
  have G14_165 : ∀ r, r < 4 → ad14 (165 + r) = af165 r := fun r hr9 => (ha14 (165 + r) (by omega)).trans (G12_165 r hr9)
  obtain ⟨q169, A14_169⟩ : ∃ z, ad14 169 = z := ⟨_, rfl⟩
  rw [A14_169]
  have E14_169 := hn14
  refine lv_dup hx hb dX5_init_56 rfl ?_
  refine o_initN (mm := 2) (rest := [.ref q169, .ref b]) hx hb hml hown hts hK hX hI hA hA0 A14_169 E14_169 (k_X3_init l dd g sz0 q169 H.size) ⟨va_cnB 0 hts gX5_init_X3_init_n40 rfl rfl rfl hX6 (hts (.initialized RX3) (by decide +kernel)) (by decide +kernel) ⟨Nat.le_of_ble_eq_true rfl, Nat.le_of_ble_eq_true rfl⟩, rfl, hts (.instanceMethod yX3_init) (by decide +kernel)⟩ hl (Nat.le_of_ble_eq_true rfl) ⟨Nat.le_of_ble_eq_true rfl, Nat.le_of_ble_eq_true rfl⟩ dX5_init_57 (fun ad15 en15 H locs ha15 hq15 he15 hn15 hI => ?_)
  have A15_0 : ad15 0 = b := (ha15 0 (by omega)).trans A14_0
  have A15_1 : ad15 1 = q1 := (ha15 1 (by omega)).trans A14_1
  have A15_21 : ad15 21 = q21 := (ha15 21 (by omega)).trans A14_21
  have A15_163 : ad15 163 = q163 := (ha15 163 (by omega)).trans A14_163
  have A15_164 : ad15 164 = q164 := (ha15 164 (by omega)).trans A14_164
  have A15_165 : ad15 165 = q165 := (ha15 165 (by omega)).trans A14_165
  have E15_0 : en15 0 = .inr (5, [.ref q1, .ref q21, .ref q163, .ref q164, .ref q165, .null, .null]) := (he15 0 (by omega)).trans E14_0
  have E15_163 : en15 163 = .inl (g 4, 2, .inr (.inr (.inr (.inr (fun _ => none))))) := (he15 163 (by omega)).trans E14_163
  have E15_164 : en15 164 = .inl (g 2, 2, .inl (fun _ => 0)) := (he15 164 (by omega)).trans E14_164
  have F15_1 : ∀ r, r < 20 → en15 (1 + r) = stN g af1 r := fun r hr9 => (he15 (1 + r) (by omega)).trans (F14_1 r hr9)
  have G15_1 : ∀ r, r < 20 → ad15 (1 + r) = af1 r := fun r hr9 => (ha15 (1 + r) (by omega)).trans (G14_1 r hr9)
  have F15_21 : ∀ r, r < 142 → en15 (21 + r) = hiN g af21 r := fun r hr9 => (he15 (21 + r) (by omega)).trans (F14_21 r hr9)
  have G15_21 : ∀ r, r < 142 → ad15 (21 + r) = af21 r := fun r hr9 => (ha15 (21 + r) (by omega)).trans (G14_21 r hr9)
  have F15_165 : ∀ r, r < 4 → en15 (165 + r) = paN g af165 r := fun r hr9 => (he15 (165 + r) (by omega)).trans (F14_165 r hr9)
  have G15_165 : ∀ r, r < 4 → ad15 (165 + r) = af165 r := fun r hr9 => (ha15 (165 + r) (by omega)).trans (G14_165 r hr9)
  have A15_169 : ad15 169 = q169 := hq15
  obtain ⟨af169, hf169⟩ : ∃ z, z = (fun k => ad15 (169 + k)) := ⟨_, rfl⟩
  have G15_169 : ∀ r, r < 2 → ad15 (169 + r) = af169 r := fun r _ => by rw [hf169]
  have F15_169 : ∀ r, r < 2 → en15 (169 + r) = roN g af169 r := fun r _ => by rw [hf169]; exact hn15 r
  refine o_putF hx hb hts hinX5 tyX5 tyX5_ok nmX5 hown hK hI 0 (by omega) A15_0 E15_0 (ci := 5) rfl 5 (by decide) (hts (.fieldLink RX5 41 "WinderLadders" "row" "LWinderLadders$Row;") (by decide +kernel)) rfl hin2 rfl rfl rfl (Nat.le_of_ble_eq_true rfl) dX5_init_60 (fun en16 H locs he16 hn16 hI => ?_)
  have E16_163 : en16 163 = .inl (g 4, 2, .inr (.inr (.inr (.inr (fun _ => none))))) := (he16 163 (by omega)).trans E15_163
  have E16_164 : en16 164 = .inl (g 2, 2, .inl (fun _ => 0)) := (he16 164 (by omega)).trans E15_164
  have F16_1 : ∀ r, r < 20 → en16 (1 + r) = stN g af1 r := fun r hr9 => (he16 (1 + r) (by omega)).trans (F15_1 r hr9)
  have F16_21 : ∀ r, r < 142 → en16 (21 + r) = hiN g af21 r := fun r hr9 => (he16 (21 + r) (by omega)).trans (F15_21 r hr9)
  have F16_165 : ∀ r, r < 4 → en16 (165 + r) = paN g af165 r := fun r hr9 => (he16 (165 + r) (by omega)).trans (F15_165 r hr9)
  have F16_169 : ∀ r, r < 2 → en16 (169 + r) = roN g af169 r := fun r hr9 => (he16 (169 + r) (by omega)).trans (F15_169 r hr9)
  have E16_0 : en16 0 = .inr (5, [.ref q1, .ref q21, .ref q163, .ref q164, .ref q165, .ref q169, .null]) := hn16
  refine lv_aload_n hx hb dX5_init_63 rfl (lv_at hl 0 rfl) ?_
  refine lv_bipush (v := 16) hx hb dX5_init_64 (by decide) ?_
  refine o_newa (atype := .int) (ty := .int) (N := 16) (a0 := (16, .inl (fun _ => 0))) hx hb (hts (.arrayClass .int) (by decide +kernel)) rfl 0 rfl hK hI hA (fun _ => by rw [vp_cell_i]; rfl) (by decide) (by decide) (Nat.le_of_ble_eq_true rfl) (Nat.le_of_ble_eq_true rfl) (Nat.le_of_ble_eq_true rfl) dX5_init_66 (fun ad17 en17 H ha17 he17 hn17 hI => ?_)
  have A17_0 : ad17 0 = b := (ha17 0 (by omega)).trans A15_0
  have A17_1 : ad17 1 = q1 := (ha17 1 (by omega)).trans A15_1
  have A17_21 : ad17 21 = q21 := (ha17 21 (by omega)).trans A15_21
  have A17_163 : ad17 163 = q163 := (ha17 163 (by omega)).trans A15_163
  have A17_164 : ad17 164 = q164 := (ha17 164 (by omega)).trans A15_164
  have A17_165 : ad17 165 = q165 := (ha17 165 (by omega)).trans A15_165
  have A17_169 : ad17 169 = q169 := (ha17 169 (by omega)).trans A15_169
  have E17_0 : en17 0 = .inr (5, [.ref q1, .ref q21, .ref q163, .ref q164, .ref q165, .ref q169, .null]) := (he17 0 (by omega)).trans E16_0
  have E17_163 : en17 163 = .inl (g 4, 2, .inr (.inr (.inr (.inr (fun _ => none))))) := (he17 163 (by omega)).trans E16_163
  have E17_164 : en17 164 = .inl (g 2, 2, .inl (fun _ => 0)) := (he17 164 (by omega)).trans E16_164
  have F17_1 : ∀ r, r < 20 → en17 (1 + r) = stN g af1 r := fun r hr9 => (he17 (1 + r) (by omega)).trans (F16_1 r hr9)
  have G17_1 : ∀ r, r < 20 → ad17 (1 + r) = af1 r := fun r hr9 => (ha17 (1 + r) (by omega)).trans (G15_1 r hr9)
  have F17_21 : ∀ r, r < 142 → en17 (21 + r) = hiN g af21 r := fun r hr9 => (he17 (21 + r) (by omega)).trans (F16_21 r hr9)
  have G17_21 : ∀ r, r < 142 → ad17 (21 + r) = af21 r := fun r hr9 => (ha17 (21 + r) (by omega)).trans (G15_21 r hr9)
  have F17_165 : ∀ r, r < 4 → en17 (165 + r) = paN g af165 r := fun r hr9 => (he17 (165 + r) (by omega)).trans (F16_165 r hr9)
  have G17_165 : ∀ r, r < 4 → ad17 (165 + r) = af165 r := fun r hr9 => (ha17 (165 + r) (by omega)).trans (G15_165 r hr9)
  have F17_169 : ∀ r, r < 2 → en17 (169 + r) = roN g af169 r := fun r hr9 => (he17 (169 + r) (by omega)).trans (F16_169 r hr9)
  have G17_169 : ∀ r, r < 2 → ad17 (169 + r) = af169 r := fun r hr9 => (ha17 (169 + r) (by omega)).trans (G15_169 r hr9)
  obtain ⟨q171, A17_171⟩ : ∃ z, ad17 171 = z := ⟨_, rfl⟩
  rw [A17_171]
  have E17_171 := hn17
  refine o_putF hx hb hts hinX5 tyX5 tyX5_ok nmX5 hown hK hI 0 (by omega) A17_0 E17_0 (ci := 5) rfl 6 (by decide) (hts (.fieldLink RX5 45 "WinderLadders" "lasting" "[I") (by decide +kernel)) rfl hin2 rfl rfl rfl (Nat.le_of_ble_eq_true rfl) dX5_init_68 (fun en18 H locs he18 hn18 hI => ?_)
  have E18_163 : en18 163 = .inl (g 4, 2, .inr (.inr (.inr (.inr (fun _ => none))))) := (he18 163 (by omega)).trans E17_163
  have E18_164 : en18 164 = .inl (g 2, 2, .inl (fun _ => 0)) := (he18 164 (by omega)).trans E17_164
  have E18_171 : en18 171 = .inl (g 0, 16, .inl (fun _ => 0)) := (he18 171 (by omega)).trans E17_171
  have F18_1 : ∀ r, r < 20 → en18 (1 + r) = stN g af1 r := fun r hr9 => (he18 (1 + r) (by omega)).trans (F17_1 r hr9)
  have F18_21 : ∀ r, r < 142 → en18 (21 + r) = hiN g af21 r := fun r hr9 => (he18 (21 + r) (by omega)).trans (F17_21 r hr9)
  have F18_165 : ∀ r, r < 4 → en18 (165 + r) = paN g af165 r := fun r hr9 => (he18 (165 + r) (by omega)).trans (F17_165 r hr9)
  have F18_169 : ∀ r, r < 2 → en18 (169 + r) = roN g af169 r := fun r hr9 => (he18 (169 + r) (by omega)).trans (F17_169 r hr9)
  have E18_0 : en18 0 = .inr (5, [.ref q1, .ref q21, .ref q163, .ref q164, .ref q165, .ref q169, .ref q171]) := hn18
  refine lv_iconst (v := 0) hx hb dX5_init_71 (by decide) ?_
  refine lv_istore_n (lv' := [(1, .int 0), (0, .ref b)]) hx hb dX5_init_72 rfl hl (by decide) rfl (fun ls hl => ?_)
  have loop : ∀ (k i : Nat), i + k = 2 → ∀ (ad : Nat → Nat) (en : Nat → va_E) (H : Heap) (locs : List Loc) (ls : Array Slot), lv_has ls 2 [(1, .int (nI i)), (0, .ref b)] → nW dd (172 + 20 * i) ad en (nA b s.heap.size) s.heap H locs → (∀ r, r < 172 → ad r = ad17 r) → (∀ r, r < 172 → r ≠ 163 → en r = en18 r) → en 163 = .inl (g 4, 2, .inr (.inr (.inr (.inr (fun j => if j < i then some (ad (172 + 20 * j)) else none))))) → (∀ j, j < i → ∀ r, r < 20 → en (172 + 20 * j + r) = stN g (fun k => ad (172 + 20 * j + k)) r) → W p l e (headSpec wsX5_init ({ frames := 4, cells := 211, slots := 1788, locals := 84 })).room s m ([.ref b] : List Value).toArray below meth c H locs (171 + 20 * i) (1470 + 159 * i) (MQ below (iPost dd b s.heap.size 212 (obN g)) ([.ref b] : List Value).toArray s 211 1788 (nA b s.heap.size)) (F0 m 73 ls []) := by
    intro k
    induction k with
    | zero =>
      intro i hi ad en H locs ls hl hI ha9 he9 e9 es
      obtain rfl : i = 2 := by omega
      refine lv_iload_n hx hb dX5_init_73 rfl (lv_at hl 0 rfl) ?_
      refine lv_iconst (v := 2) hx hb dX5_init_74 (by decide) ?_
      refine lv_icmp_ge (tgt := 97) hx hb dX5_init_75 (by decide) (fun _ => ?_) (fun c9 => absurd (by decide) c9)
      refine o_ret (E := obN g) hx hb hr hI ((ha9 0 (by omega)).trans A17_0) (fun r hr9 => ?_) dX5_init_97 hlocks
      unfold obN
      by_cases z0 : r = 0
      · rw [if_pos z0, z0, he9 0 (by omega) (by omega), E18_0, ha9 1 (by omega), ha9 21 (by omega), ha9 163 (by omega), ha9 164 (by omega), ha9 165 (by omega), ha9 169 (by omega), ha9 171 (by omega), A17_1, A17_21, A17_163, A17_164, A17_165, A17_169, A17_171]
      rw [if_neg z0]
      by_cases z : r < 21
      · rw [if_pos z, he9 r (by omega) (by omega)]
        have := F18_1 (r - 1) (by omega)
        rw [show 1 + (r - 1) = r by omega] at this
        rw [this]
        exact stN_cong (fun k hk => by rw [← G17_1 k hk]; exact (ha9 _ (by omega)).symm)
      rw [if_neg z]
      by_cases z : r < 163
      · rw [if_pos z, he9 r (by omega) (by omega)]
        have := F18_21 (r - 21) (by omega)
        rw [show 21 + (r - 21) = r by omega] at this
        rw [this]
        exact hiN_cong (by omega) (fun k hk => by rw [← G17_21 k hk]; exact (ha9 _ (by omega)).symm)
      rw [if_neg z]
      by_cases z3 : r = 163
      · rw [if_pos z3, z3, e9]
      rw [if_neg z3]
      by_cases z4 : r = 164
      · rw [if_pos z4, z4, he9 164 (by omega) (by omega), E18_164]
      rw [if_neg z4]
      by_cases z : r < 169
      · rw [if_pos z, he9 r (by omega) (by omega)]
        have := F18_165 (r - 165) (by omega)
        rw [show 165 + (r - 165) = r by omega] at this
        rw [this]
        exact paN_cong (fun k hk => by rw [← G17_165 k hk]; exact (ha9 _ (by omega)).symm)
      rw [if_neg z]
      by_cases z : r < 171
      · rw [if_pos z, he9 r (by omega) (by omega)]
        have := F18_169 (r - 169) (by omega)
        rw [show 169 + (r - 169) = r by omega] at this
        rw [this]
        exact roN_cong (fun k hk => by rw [← G17_169 k hk]; exact (ha9 _ (by omega)).symm)
      rw [if_neg z]
      by_cases z5 : r = 171
      · rw [if_pos z5, z5, he9 171 (by omega) (by omega), E18_171]
      rw [if_neg z5]
      have := es ((r - 172) / 20) (by omega) ((r - 172) % 20) (by omega)
      rw [show 172 + 20 * ((r - 172) / 20) + (r - 172) % 20 = r by omega] at this
      exact this
    | succ k ih =>
      intro i hi ad en H locs ls hl hI ha9 he9 e9 es
      have hiN : i < 2 := by omega
      refine lv_iload_n hx hb dX5_init_73 rfl (lv_at hl 0 rfl) ?_
      refine lv_iconst (v := 2) hx hb dX5_init_74 (by decide) ?_
      refine lv_icmp_ge (tgt := 97) hx hb dX5_init_75 (by decide) (fun c9 => absurd ((nI_leI (a := 2) (b := i) (by decide) (by omega)).mp c9) (by omega)) (fun _ => ?_)
      refine lv_aload_n hx hb dX5_init_78 rfl (lv_at hl 1 rfl) ?_
      refine o_get hx hb hts hinX5 hown hK hI 0 (by omega) ((ha9 0 (by omega)).trans A17_0) ((he9 0 (by omega) (by omega)).trans E18_0) (ci := 5) rfl 2 (by decide) (hts (.fieldLink RX5 23 "WinderLadders" "slots" "[LWinderLadders$State;") (by decide +kernel)) (v := .ref q163) rfl dX5_init_79 ?_
      refine lv_iload_n hx hb dX5_init_82 rfl (lv_at hl 0 rfl) ?_
      refine o_new (fs := [.null, .null, .null, .int 0, .int 0, .int 0, .int 0]) hx hb hts hinX4 tyX4 tyX4_ok hown (hts (.classLink RX5 9 RX4) (by decide +kernel)) (hts (.instantiable RX4 7) (by decide +kernel)) (hts (.initialized RX4) (by decide +kernel)) hK hI hA (ci := 4) rfl (by decide) (by show 171 + 20 * i + 1 ≤ 211; omega) (by show 1470 + 159 * i + 7 ≤ 1788; omega) dX5_init_83 (fun ad8 en8 H ha8 he8 hn8 hI => ?_)
      obtain ⟨q, Aq⟩ : ∃ z, ad8 (172 + 20 * i) = z := ⟨_, rfl⟩
      rw [Aq]
      refine lv_dup hx hb dX5_init_86 rfl ?_
      refine o_init (mm := 20) (rest := [.ref q, .int (nI i), .ref q163]) hx hb hml hown hts hK hX hI hA hA0 Aq hn8 (k_X4_init l dd g sz0 q H.size) (cwI 0 hts gX5_init_X4_init rfl rfl rfl (hts (.initialized RX4) (by decide +kernel)) (hts (.methodLink RX5 11 yX4_init) (by decide +kernel)) (hts (.instanceMethod yX4_init) (by decide +kernel)) rfl (by decide +kernel) ⟨Nat.le_of_ble_eq_true rfl, Nat.le_of_ble_eq_true rfl⟩) hl (Nat.le_of_ble_eq_true rfl) ⟨by show 171 + 20 * i + 1 + 19 ≤ 211; omega, by show 1470 + 159 * i + 7 + 152 ≤ 1788; omega⟩ dX5_init_87 (fun ad9 en9 H locs hb9 hq9 hc9 hn9 hI => ?_)
      have c9 : ∀ r, r < 172 + 20 * i → ad9 r = ad r := fun r hr9 => (hb9 r hr9).trans (ha8 r hr9)
      have d9 : ∀ r, r < 172 + 20 * i → en9 r = en r := fun r hr9 => (hc9 r hr9).trans (he8 r hr9)
      have f9 : en9 163 = .inl (g 4, 2, .inr (.inr (.inr (.inr (fun j => if j < i then some (ad (172 + 20 * j)) else none))))) := (d9 163 (by omega)).trans e9
      have b9 : ad9 163 = q163 := (c9 163 (by omega)).trans ((ha9 163 (by omega)).trans A17_163)
      refine o_astq (r := (RX4, TX4, 7)) hx hb hK hI 163 4 (172 + 20 * i) 4 (by omega) (by omega) b9 hq9 f9 rfl (hn9 0) rfl (by decide) i hiN rfl dX5_init_90 (fun en10 H locs he10 hn10 hI => ?_)
      rw [upA (a := fun j => ad (172 + 20 * j)) (a' := fun j => ad9 (172 + 20 * j)) (fun j hj => c9 _ (by omega)) hq9] at hn10
      refine lv_iinc (v := nI (i + 1)) (lv' := [(1, .int (nI (i + 1))), (0, .ref b)]) hx hb dX5_init_91 hl (k := 0) rfl (by rw [show Int32.ofInt 1 = nI 1 from rfl, nI_add]) (by decide) rfl (fun ls hl => ?_)
      refine lv_goto (tgt := 73) hx hb dX5_init_94 (by decide) ?_
      refine W.widen (k := 171 + 20 * (i + 1)) (n := 1470 + 159 * (i + 1)) (by omega) (by omega) ?_
      refine ih (i + 1) (by omega) ad9 en10 H locs ls hl (by rw [show 172 + 20 * (i + 1) = 172 + 20 * i + 20 by omega]; exact hI) (fun r hr9 => (c9 r (by omega)).trans (ha9 r hr9)) (fun r hr9 hne => (he10 r hne).trans ((d9 r (by omega)).trans (he9 r hr9 hne))) hn10 (fun j hj r hr9 => ?_)
      rw [he10 _ (by omega)]
      by_cases z : j = i
      · subst z; exact hn9 r
      · rw [d9 _ (by omega), es j (by omega) r hr9]
        exact stN_cong (fun k hk => (c9 _ (by omega)).symm)
  exact loop 2 0 rfl ad17 en18 H locs ls hl hI (fun _ _ => rfl) (fun _ _ _ => rfl) (E18_163.trans (by rw [show (fun j => if j < 0 then some (ad17 (172 + 20 * j)) else none) = (fun _ => none) from funext fun j => if_neg (Nat.not_lt_zero _)])) (fun j hj => absurd hj (Nat.not_lt_zero _))
