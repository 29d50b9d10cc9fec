theorem upA {a a' : Nat → Nat} {i q : Nat} (h : ∀ j, j < i → a' j = a j) (hq : a' i = q) : va_up (fun j => if j < i then some (a j) else none) i (some q) = fun j => if j < i + 1 then some (a' j) else none := by
  funext j
  unfold va_up
  by_cases e : j = i
  · subst e; rw [if_pos rfl, if_pos (by omega), hq]
  · rw [if_neg e]
    show (if j < i then some (a j) else none) = _
    by_cases e2 : j < i
    · rw [if_pos e2, if_pos (by omega), h j e2]
    · rw [if_neg e2, if_neg (by omega)]
set_option maxHeartbeats 4000000 in
set_option maxRecDepth 100000 in
theorem k_X4_init (l : Launch) (dd : va_G) (g : Nat → ClassId) (sz0 b sz : Nat) : Met l yX4_init wsX4_init ({ frames := 2, cells := 19, slots := 152, locals := 40 }) (iPre dd g sz0 b sz (.inr (4, [.null, .null, .null, .int 0, .int 0, .int 0, .int 0]))) (iPost dd b sz 20 (stN g)) 19 152 (nA b sz) := by
  refine Met.ofW (cc := cX4_init) (maxL := 2) (ret := none) (by decide) rfl ?_
  intro p e s m args below meth c s₁ B hml hv
  obtain ⟨rfl, hsz, hs0, hP0, hK, hX⟩ := hv
  have hx := B.exec
  have hb := B.bytes
  have hr := B.returns
  have hts := atoms_spec (ws := wsX4_init) B.pre
  have hown : s.vm.findClass RX4 = some m.cls := findClass_of_methodNamed B.named
  have hlocks := B.notSynchronized
  have hin2 : meth.name = "<init>" := (name_of_methodNamed B.named B.method).1
  subst hsz
  obtain ⟨hI0, hA, hA0⟩ := n_start hP0 hs0
  obtain ⟨ad0, hw0⟩ : ∃ z, z = (fun _ : Nat => b) := ⟨_, rfl⟩
  obtain ⟨en0, hw1⟩ : ∃ z, z = (fun _ : Nat => (.inr (4, [.null, .null, .null, .int 0, .int 0, .int 0, .int 0]) : va_E)) := ⟨_, rfl⟩
  have A0_0 : ad0 0 = b := by rw [hw0]
  have E0_0 : en0 0 = (.inr (4, [.null, .null, .null, .int 0, .int 0, .int 0, .int 0]) : va_E) := by rw [hw1]
  have hI : nW dd 1 ad0 en0 (nA b s.heap.size) s.heap s.heap [] := by rw [hw0, hw1]; exact hI0
  have hinX0 : ∀ w ∈ wsX00, w ∈ wsX4_init := by decide +kernel
  have hinX4 : ∀ w ∈ wsX40, w ∈ wsX4_init := by decide +kernel
  obtain ⟨hX1, hX2, hX3, hX4, hX5, hX6, hX7, tFS, hZ, hT⟩ := id hX
  have hl := lv_entry ([.ref b]) (n := 2) (Nat.le_of_ble_eq_true rfl)
  rw [lg_entry_eq]
  generalize (lg_sl ([.ref b]) ++ List.replicate (2 - (lg_sl ([.ref b])).length) Slot.unset).toArray = ls at hl ⊢
  have hl : lv_has ls 2 [(0, .ref b)] := hl
  refine lv_aload_n hx hb dX4_init_0 rfl (lv_at hl 0 rfl) ?_
  refine W.objInit hx hb hown (hts (.methodLink RX4 3 objectInit) (by decide +kernel)) (hts (.instanceMethod objectInit) (by decide +kernel)) (hts (.code objectInit ⟨#[0xb1]⟩ 1 none) (by decide +kernel)) rfl (by rw [hml]; exact hl.1) rfl dX4_init_1 (Nat.le_of_ble_eq_true rfl) (Nat.le_of_ble_eq_true rfl) ?_
  refine W.eq (g2 := F0 m 4 ls []) rfl ?_
  refine lv_aload_n hx hb dX4_init_4 rfl (lv_at hl 0 rfl) ?_
  refine lv_iconst (v := 4) hx hb dX4_init_5 (by decide) ?_
  refine o_newa (atype := .int) (ty := .int) (N := 4) (a0 := (4, .inl (fun _ => 0))) hx hb (hts (.arrayClass .int) (by decide +kernel)) rfl 0 rfl hK hI hA (fun _ => by rw [vp_cell_i]; rfl) (by decide) (by decide) (Nat.le_of_ble_eq_true rfl) (Nat.le_of_ble_eq_true rfl) (Nat.le_of_ble_eq_true rfl) dX4_init_6 (fun ad1 en1 H ha1 he1 hn1 hI => ?_)
  have A1_0 : ad1 0 = b := (ha1 0 (by omega)).trans A0_0
  have E1_0 : en1 0 = .inr (4, [.null, .null, .null, .int 0, .int 0, .int 0, .int 0]) := (he1 0 (by omega)).trans E0_0
  obtain ⟨q1, A1_1⟩ : ∃ z, ad1 1 = z := ⟨_, rfl⟩
  rw [A1_1]
  have E1_1 := hn1
  refine o_putF hx hb hts hinX4 tyX4 tyX4_ok nmX4 hown hK hI 0 (by omega) A1_0 E1_0 (ci := 4) rfl 0 (by decide) (hts (.fieldLink RX4 9 "WinderLadders$State" "settings" "[I") (by decide +kernel)) rfl hin2 rfl rfl rfl (Nat.le_of_ble_eq_true rfl) dX4_init_8 (fun en2 H locs he2 hn2 hI => ?_)
  have E2_1 : en2 1 = .inl (g 0, 4, .inl (fun _ => 0)) := (he2 1 (by omega)).trans E1_1
  have E2_0 : en2 0 = .inr (4, [.ref q1, .null, .null, .int 0, .int 0, .int 0, .int 0]) := hn2
  refine lv_aload_n hx hb dX4_init_11 rfl (lv_at hl 0 rfl) ?_
  refine lv_bipush (v := 16) hx hb dX4_init_12 (by decide) ?_
  refine o_newq (N := 16) hx hb hown (hts (.classLink RX4 15 RX0) (by decide +kernel)) hX1 3 rfl hK hI hA (by decide) (by decide) (Nat.le_of_ble_eq_true rfl) (Nat.le_of_ble_eq_true rfl) (Nat.le_of_ble_eq_true rfl) dX4_init_14 (fun ad3 en3 H ha3 he3 hn3 hI => ?_)
  have A3_0 : ad3 0 = b := (ha3 0 (by omega)).trans A1_0
  have A3_1 : ad3 1 = q1 := (ha3 1 (by omega)).trans A1_1
  have E3_0 : en3 0 = .inr (4, [.ref q1, .null, .null, .int 0, .int 0, .int 0, .int 0]) := (he3 0 (by omega)).trans E2_0
  have E3_1 : en3 1 = .inl (g 0, 4, .inl (fun _ => 0)) := (he3 1 (by omega)).trans E2_1
  obtain ⟨q2, A3_2⟩ : ∃ z, ad3 2 = z := ⟨_, rfl⟩
  rw [A3_2]
  have E3_2 := hn3
  refine o_putF hx hb hts hinX4 tyX4 tyX4_ok nmX4 hown hK hI 0 (by omega) A3_0 E3_0 (ci := 4) rfl 1 (by decide) (hts (.fieldLink RX4 17 "WinderLadders$State" "clocks" "[LWinderLadders$Clock;") (by decide +kernel)) rfl hin2 rfl rfl rfl (Nat.le_of_ble_eq_true rfl) dX4_init_17 (fun en4 H locs he4 hn4 hI => ?_)
  have E4_1 : en4 1 = .inl (g 0, 4, .inl (fun _ => 0)) := (he4 1 (by omega)).trans E3_1
  have E4_2 : en4 2 = .inl (g 3, 16, .inr (.inr (.inr (.inr (fun _ => none))))) := (he4 2 (by omega)).trans E3_2
  have E4_0 : en4 0 = .inr (4, [.ref q1, .ref q2, .null, .int 0, .int 0, .int 0, .int 0]) := hn4
  refine lv_aload_n hx hb dX4_init_20 rfl (lv_at hl 0 rfl) ?_
  refine lv_iconst (v := 4) hx hb dX4_init_21 (by decide) ?_
  refine o_newa (atype := .int) (ty := .int) (N := 4) (a0 := (4, .inl (fun _ => 0))) hx hb (hts (.arrayClass .int) (by decide +kernel)) rfl 0 rfl hK hI hA (fun _ => by rw [vp_cell_i]; rfl) (by decide) (by decide) (Nat.le_of_ble_eq_true rfl) (Nat.le_of_ble_eq_true rfl) (Nat.le_of_ble_eq_true rfl) dX4_init_22 (fun ad5 en5 H ha5 he5 hn5 hI => ?_)
  have A5_0 : ad5 0 = b := (ha5 0 (by omega)).trans A3_0
  have A5_1 : ad5 1 = q1 := (ha5 1 (by omega)).trans A3_1
  have A5_2 : ad5 2 = q2 := (ha5 2 (by omega)).trans A3_2
  have E5_0 : en5 0 = .inr (4, [.ref q1, .ref q2, .null, .int 0, .int 0, .int 0, .int 0]) := (he5 0 (by omega)).trans E4_0
  have E5_1 : en5 1 = .inl (g 0, 4, .inl (fun _ => 0)) := (he5 1 (by omega)).trans E4_1
  have E5_2 : en5 2 = .inl (g 3, 16, .inr (.inr (.inr (.inr (fun _ => none))))) := (he5 2 (by omega)).trans E4_2
  obtain ⟨q3, A5_3⟩ : ∃ z, ad5 3 = z := ⟨_, rfl⟩
  rw [A5_3]
  have E5_3 := hn5
  refine o_putF hx hb hts hinX4 tyX4 tyX4_ok nmX4 hown hK hI 0 (by omega) A5_0 E5_0 (ci := 4) rfl 2 (by decide) (hts (.fieldLink RX4 21 "WinderLadders$State" "ladders" "[I") (by decide +kernel)) rfl hin2 rfl rfl rfl (Nat.le_of_ble_eq_true rfl) dX4_init_24 (fun en6 H locs he6 hn6 hI => ?_)
  have E6_1 : en6 1 = .inl (g 0, 4, .inl (fun _ => 0)) := (he6 1 (by omega)).trans E5_1
  have E6_2 : en6 2 = .inl (g 3, 16, .inr (.inr (.inr (.inr (fun _ => none))))) := (he6 2 (by omega)).trans E5_2
  have E6_3 : en6 3 = .inl (g 0, 4, .inl (fun _ => 0)) := (he6 3 (by omega)).trans E5_3
  have E6_0 : en6 0 = .inr (4, [.ref q1, .ref q2, .ref q3, .int 0, .int 0, .int 0, .int 0]) := hn6
  refine va_getsN hx hb (hZ.narrow hA0) hI.2.2 hown (va_Nw.use rfl hX7) (fun _ h => h) dX4_init_27 ?_
  refine lv_iconst (v := 0) hx hb dX4_init_30 (by decide) ?_
  refine lv_aload_n hx hb dX4_init_31 rfl (lv_at hl 0 rfl) ?_
  refine o_get hx hb hts hinX4 hown hK hI 0 (by omega) A5_0 E6_0 (ci := 4) rfl 0 (by decide) (hts (.fieldLink RX4 9 "WinderLadders$State" "settings" "[I") (by decide +kernel)) (v := .ref q1) rfl dX4_init_32 ?_
  refine lv_iconst (v := 0) hx hb dX4_init_35 (by decide) ?_
  refine lv_iconst (v := 4) hx hb dX4_init_36 (by decide) ?_
  refine o_cpyT hx hb (hml.trans hl.1.symm) hown (hts (.methodLink RX4 27 arraycopyName) (by decide +kernel)) (hts (.native arraycopyName) (by decide +kernel)) (hts (.static arraycopyName) (by decide +kernel)) (hts (.initialized "java/lang/System") (by decide +kernel)) hK hI (hT.narrow hA0) 1 (by omega) A5_1 E6_1 (Nat.le_of_ble_eq_true rfl) (Nat.le_of_ble_eq_true rfl) dX4_init_37 (fun en7 H locs he7 hn7 hI => ?_)
  have E7_0 : en7 0 = .inr (4, [.ref q1, .ref q2, .ref q3, .int 0, .int 0, .int 0, .int 0]) := (he7 0 (by omega)).trans E6_0
  have E7_2 : en7 2 = .inl (g 3, 16, .inr (.inr (.inr (.inr (fun _ => none))))) := (he7 2 (by omega)).trans E6_2
  have E7_3 : en7 3 = .inl (g 0, 4, .inl (fun _ => 0)) := (he7 3 (by omega)).trans E6_3
  have E7_1 : en7 1 = .inl (g 0, 4, .inl (va_cpy fsT (fun _ => 0) 0 0 4)) := hn7
  refine lv_iconst (v := 0) hx hb dX4_init_40 (by decide) ?_
  refine lv_istore_n (lv' := [(1, .int 0), (0, .ref b)]) hx hb dX4_init_41 rfl hl (by decide) rfl (fun ls hl => ?_)
  have loop : ∀ (k i : Nat), i + k = 16 → ∀ (ad : Nat → Nat) (en : Nat → va_E) (H : Heap) (locs : List Loc) (ls : Array Slot), lv_has ls 2 [(1, .int (nI i)), (0, .ref b)] → nW dd (4 + i) ad en (nA b s.heap.size) s.heap H locs → ad 0 = b → ad 1 = q1 → ad 2 = q2 → ad 3 = q3 → en 0 = .inr (4, [.ref q1, .ref q2, .ref q3, .int 0, .int 0, .int 0, .int 0]) → en 1 = .inl (g 0, 4, .inl (va_cpy fsT (fun _ => 0) 0 0 4)) → en 2 = .inl (g 3, 16, .inr (.inr (.inr (.inr (fun j => if j < i then some (ad (4 + j)) else none))))) → en 3 = .inl (g 0, 4, .inl (fun _ => 0)) → (∀ r, r < i → en (4 + r) = .inr (0, [.int 0, .int 0, .int 0, .int 0, .int 0, .int 0, .int 0, .int 0])) → W p l e (headSpec wsX4_init ({ frames := 2, cells := 19, slots := 152, locals := 40 })).room s m ([.ref b] : List Value).toArray below meth c H locs (3 + i) (24 + 8 * i) (MQ below (iPost dd b s.heap.size 20 (stN g)) ([.ref b] : List Value).toArray s 19 152 (nA b s.heap.size)) (F0 m 42 ls []) := by
    intro k
    induction k with
    | zero =>
      intro i hi ad en H locs ls hl hI a0 a1 a2 a3 e0 e1 e2 e3 ec
      obtain rfl : i = 16 := by omega
      refine lv_iload_n hx hb dX4_init_42 rfl (lv_at hl 0 rfl) ?_
      refine lv_bipush (v := 16) hx hb dX4_init_43 (by decide) ?_
      refine lv_icmp_ge (tgt := 67) hx hb dX4_init_45 (by decide) (fun _ => ?_) (fun c9 => absurd (by decide) c9)
      refine o_ret (E := stN g) hx hb hr hI a0 (fun r hr9 => ?_) dX4_init_67 hlocks
      unfold stN
      by_cases z0 : r = 0
      · rw [if_pos z0, z0, e0, a1, a2, a3]
      rw [if_neg z0]
      by_cases z1 : r = 1
      · rw [if_pos z1, z1, e1]
      rw [if_neg z1]
      by_cases z2 : r = 2
      · rw [if_pos z2, z2, e2]
      rw [if_neg z2]
      by_cases z3 : r = 3
      · rw [if_pos z3, z3, e3]
      rw [if_neg z3]
      have := ec (r - 4) (by omega)
      rw [show 4 + (r - 4) = r by omega] at this
      exact this
    | succ k ih =>
      intro i hi ad en H locs ls hl hI a0 a1 a2 a3 e0 e1 e2 e3 ec
      have hi16 : i < 16 := by omega
      refine lv_iload_n hx hb dX4_init_42 rfl (lv_at hl 0 rfl) ?_
      refine lv_bipush (v := 16) hx hb dX4_init_43 (by decide) ?_
      refine lv_icmp_ge (tgt := 67) hx hb dX4_init_45 (by decide) (fun c9 => absurd ((nI_leI (a := 16) (b := i) (by decide) (by omega)).mp c9) (by omega)) (fun _ => ?_)
      refine lv_aload_n hx hb dX4_init_48 rfl (lv_at hl 1 rfl) ?_
      refine o_get hx hb hts hinX4 hown hK hI 0 (by omega) a0 e0 (ci := 4) rfl 1 (by decide) (hts (.fieldLink RX4 17 "WinderLadders$State" "clocks" "[LWinderLadders$Clock;") (by decide +kernel)) (v := .ref q2) rfl dX4_init_49 ?_
      refine lv_iload_n hx hb dX4_init_52 rfl (lv_at hl 0 rfl) ?_
      refine o_new (fs := [.int 0, .int 0, .int 0, .int 0, .int 0, .int 0, .int 0, .int 0]) hx hb hts hinX0 tyX0 tyX0_ok hown (hts (.classLink RX4 15 RX0) (by decide +kernel)) (hts (.instantiable RX0 8) (by decide +kernel)) (hts (.initialized RX0) (by decide +kernel)) hK hI hA (ci := 0) rfl (by decide) (by show 3 + i + 1 ≤ 19; omega) (by show 24 + 8 * i + 8 ≤ 152; omega) dX4_init_53 (fun ad8 en8 H ha8 he8 hn8 hI => ?_)
      obtain ⟨q, Aq⟩ : ∃ z, ad8 (4 + i) = z := ⟨_, rfl⟩
      rw [Aq]
      refine lv_dup hx hb dX4_init_56 rfl ?_
      refine o_initN (mm := 1) (rest := [.ref q, .int (nI i), .ref q2]) hx hb hml hown hts hK hX hI hA hA0 Aq hn8 (k_X0_init l dd g sz0 q H.size) ⟨va_cnB 0 hts gX4_init_X0_init_n33 rfl rfl rfl hX3 (hts (.initialized RX0) (by decide +kernel)) (by decide +kernel) ⟨Nat.le_of_ble_eq_true rfl, Nat.le_of_ble_eq_true rfl⟩, rfl, hts (.instanceMethod yX0_init) (by decide +kernel)⟩ hl (Nat.le_of_ble_eq_true rfl) ⟨by show 3 + i + 1 + 0 ≤ 19; omega, by show 24 + 8 * i + 8 + 0 ≤ 152; omega⟩ dX4_init_57 (fun ad9 en9 H locs ha9 hq9 he9 hn9 hI => ?_)
      have b2 : ad9 2 = q2 := (ha9 2 (by omega)).trans ((ha8 2 (by omega)).trans a2)
      have f2 : en9 2 = .inl (g 3, 16, .inr (.inr (.inr (.inr (fun j => if j < i then some (ad (4 + j)) else none))))) := (he9 2 (by omega)).trans ((he8 2 (by omega)).trans e2)
      have fq : en9 (4 + i) = .inr (0, [.int 0, .int 0, .int 0, .int 0, .int 0, .int 0, .int 0, .int 0]) := hn9 0
      refine o_astq (r := (RX0, TX0, 8)) hx hb hK hI 2 3 (4 + i) 0 (by omega) (by omega) b2 hq9 f2 rfl fq rfl (by decide) i hi16 rfl dX4_init_60 (fun en10 H locs he10 hn10 hI => ?_)
      rw [upA (a := fun j => ad (4 + j)) (a' := fun j => ad9 (4 + j)) (fun j hj => (ha9 (4 + j) (by omega)).trans (ha8 (4 + j) (by omega))) hq9] at hn10
      refine lv_iinc (v := nI (i + 1)) (lv' := [(1, .int (nI (i + 1))), (0, .ref b)]) hx hb dX4_init_61 hl (k := 0) rfl (by rw [show Int32.ofInt 1 = nI 1 from rfl, nI_add]) (by decide) rfl (fun ls hl => ?_)
      refine lv_goto (tgt := 42) hx hb dX4_init_64 (by decide) ?_
      refine ih (i + 1) (by omega) ad9 en10 H locs ls hl hI ((ha9 0 (by omega)).trans ((ha8 0 (by omega)).trans a0)) ((ha9 1 (by omega)).trans ((ha8 1 (by omega)).trans a1)) b2 ((ha9 3 (by omega)).trans ((ha8 3 (by omega)).trans a3)) ((he10 0 (by omega)).trans ((he9 0 (by omega)).trans ((he8 0 (by omega)).trans e0))) ((he10 1 (by omega)).trans ((he9 1 (by omega)).trans ((he8 1 (by omega)).trans e1))) hn10 ((he10 3 (by omega)).trans ((he9 3 (by omega)).trans ((he8 3 (by omega)).trans e3))) (fun r hr9 => ?_)
      by_cases z : r = i
      · subst z; exact (he10 (4 + r) (by omega)).trans fq
      · exact (he10 (4 + r) (by omega)).trans ((he9 (4 + r) (by omega)).trans ((he8 (4 + r) (by omega)).trans (ec r (by omega))))
  exact loop 16 0 rfl ad5 en7 H locs ls hl hI A5_0 A5_1 A5_2 A5_3 E7_0 E7_1 (E7_2.trans (by rw [show (fun j => if j < 0 then some (ad5 (4 + j)) else none) = (fun _ => none) from funext fun j => if_neg (Nat.not_lt_zero _)])) E7_3 (fun r hr9 => absurd hr9 (Nat.not_lt_zero _))
