theorem stN_cong {g : Nat → ClassId} {a a' : Nat → Nat} {r : Nat} (h : ∀ k, k < 20 → a k = a' k) : stN g a r = stN g a' r := by
  unfold stN
  have e : (fun j => if j < 16 then some (a (4 + j)) else none) = (fun j => if j < 16 then some (a' (4 + j)) else none) := by
    funext j
    by_cases z : j < 16
    · rw [if_pos z, if_pos z, h (4 + j) (by omega)]
    · rw [if_neg z, if_neg z]
  rw [h 1 (by decide), h 2 (by decide), h 3 (by decide), e]
def hiN (g : Nat → ClassId) (a : Nat → Nat) (r : Nat) : va_E :=
  if r = 0 then .inr (1, [.ref (a 1), .int 0])
  else if r = 1 then .inl (g 4, 7, .inr (.inr (.inr (.inr (fun j => if j < 7 then some (a (2 + 20 * j)) else none)))))
  else stN g (fun k => a (2 + 20 * ((r - 2) / 20) + k)) ((r - 2) % 20)
theorem hiN_cong {g : Nat → ClassId} {a a' : Nat → Nat} {r : Nat} (hr : r < 142) (h : ∀ k, k < 142 → a k = a' k) : hiN g a r = hiN g a' r := by
  unfold hiN
  by_cases z0 : r = 0
  · rw [if_pos z0, if_pos z0, h 1 (by decide)]
  rw [if_neg z0, if_neg z0]
  by_cases z1 : r = 1
  · rw [if_pos z1, if_pos z1]
    have e : (fun j => if j < 7 then some (a (2 + 20 * j)) else none) = (fun j => if j < 7 then some (a' (2 + 20 * j)) else none) := by
      funext j
      by_cases z : j < 7
      · rw [if_pos z, if_pos z, h _ (by omega)]
      · rw [if_neg z, if_neg z]
    rw [e]
  rw [if_neg z1, if_neg z1]
  exact stN_cong (fun k hk => h _ (by omega))
set_option maxHeartbeats 4000000 in
set_option maxRecDepth 100000 in
theorem k_X1_init (l : Launch) (dd : va_G) (g : Nat → ClassId) (sz0 b sz : Nat) : Met l yX1_init wsX1_init ({ frames := 3, cells := 141, slots := 1120, locals := 62 }) (iPre dd g sz0 b sz (.inr (1, [.null, .int 0]))) (iPost dd b sz 142 (hiN g)) 141 1120 (nA b sz) := by
  refine Met.ofW (cc := cX1_init) (maxL := 2) (ret := none) (by decide) rfl ?_
  intro p e s m args below meth c s₁ B hml hv
  obtain ⟨rfl, hsz, hs0, hP0, hK, hX⟩ := hv
  have hx := B.exec
  have hb := B.bytes
  have hr := B.returns
  have hts := atoms_spec (ws := wsX1_init) B.pre
  have hown : s.vm.findClass RX1 = some m.cls := findClass_of_methodNamed B.named
  have hlocks := B.notSynchronized
  have hin2 : meth.name = "<init>" := (name_of_methodNamed B.named B.method).1
  subst hsz
  obtain ⟨hI0, hA, hA0⟩ := n_start hP0 hs0
  obtain ⟨ad0, hw0⟩ : ∃ z, z = (fun _ : Nat => b) := ⟨_, rfl⟩
  obtain ⟨en0, hw1⟩ : ∃ z, z = (fun _ : Nat => (.inr (1, [.null, .int 0]) : va_E)) := ⟨_, rfl⟩
  have A0_0 : ad0 0 = b := by rw [hw0]
  have E0_0 : en0 0 = (.inr (1, [.null, .int 0]) : va_E) := by rw [hw1]
  have hI : nW dd 1 ad0 en0 (nA b s.heap.size) s.heap s.heap [] := by rw [hw0, hw1]; exact hI0
  have hinX1 : ∀ w ∈ wsX10, w ∈ wsX1_init := by decide +kernel
  have hinX4 : ∀ w ∈ wsX40, w ∈ wsX1_init := by decide +kernel
  obtain ⟨hX1, hX2, hX3, hX4, hX5, hX6, hX7, -⟩ := id hX
  have hl := lv_entry ([.ref b]) (n := 2) (Nat.le_of_ble_eq_true rfl)
  rw [lg_entry_eq]
  generalize (lg_sl ([.ref b]) ++ List.replicate (2 - (lg_sl ([.ref b])).length) Slot.unset).toArray = ls at hl ⊢
  have hl : lv_has ls 2 [(0, .ref b)] := hl
  refine lv_aload_n hx hb dX1_init_0 rfl (lv_at hl 0 rfl) ?_
  refine W.objInit hx hb hown (hts (.methodLink RX1 3 objectInit) (by decide +kernel)) (hts (.instanceMethod objectInit) (by decide +kernel)) (hts (.code objectInit ⟨#[0xb1]⟩ 1 none) (by decide +kernel)) rfl (by rw [hml]; exact hl.1) rfl dX1_init_1 (Nat.le_of_ble_eq_true rfl) (Nat.le_of_ble_eq_true rfl) ?_
  refine W.eq (g2 := F0 m 4 ls []) rfl ?_
  refine lv_aload_n hx hb dX1_init_4 rfl (lv_at hl 0 rfl) ?_
  refine lv_bipush (v := 7) hx hb dX1_init_5 (by decide) ?_
  refine o_newq (N := 7) hx hb hown (hts (.classLink RX1 9 RX4) (by decide +kernel)) hX2 4 rfl hK hI hA (by decide) (by decide) (Nat.le_of_ble_eq_true rfl) (Nat.le_of_ble_eq_true rfl) (Nat.le_of_ble_eq_true rfl) dX1_init_7 (fun ad1 en1 H ha1 he1 hn1 hI => ?_)
  have A1_0 : ad1 0 = b := (ha1 0 (by omega)).trans A0_0
  have E1_0 : en1 0 = .inr (1, [.null, .int 0]) := (he1 0 (by omega)).trans E0_0
  obtain ⟨q1, A1_1⟩ : ∃ z, ad1 1 = z := ⟨_, rfl⟩
  rw [A1_1]
  have E1_1 := hn1
  refine o_putF hx hb hts hinX1 tyX1 tyX1_ok nmX1 hown hK hI 0 (by omega) A1_0 E1_0 (ci := 1) rfl 0 (by decide) (hts (.fieldLink RX1 11 "WinderLadders$History" "states" "[LWinderLadders$State;") (by decide +kernel)) rfl hin2 rfl rfl rfl (Nat.le_of_ble_eq_true rfl) dX1_init_10 (fun en2 H locs he2 hn2 hI => ?_)
  have E2_1 : en2 1 = .inl (g 4, 7, .inr (.inr (.inr (.inr (fun _ => none))))) := (he2 1 (by omega)).trans E1_1
  have E2_0 : en2 0 = .inr (1, [.ref q1, .int 0]) := hn2
  refine lv_iconst (v := 0) hx hb dX1_init_13 (by decide) ?_
  refine lv_istore_n (lv' := [(1, .int 0), (0, .ref b)]) hx hb dX1_init_14 rfl hl (by decide) rfl (fun ls hl => ?_)
  have loop : ∀ (k i : Nat), i + k = 7 → ∀ (ad : Nat → Nat) (en : Nat → va_E) (H : Heap) (locs : List Loc) (ls : Array Slot), lv_has ls 2 [(1, .int (nI i)), (0, .ref b)] → nW dd (2 + 20 * i) ad en (nA b s.heap.size) s.heap H locs → (∀ r, r < 2 → ad r = ad1 r) → (∀ r, r < 2 → r ≠ 1 → en r = en2 r) → en 1 = .inl (g 4, 7, .inr (.inr (.inr (.inr (fun j => if j < i then some (ad (2 + 20 * j)) else none))))) → (∀ j, j < i → ∀ r, r < 20 → en (2 + 20 * j + r) = stN g (fun k => ad (2 + 20 * j + k)) r) → W p l e (headSpec wsX1_init ({ frames := 3, cells := 141, slots := 1120, locals := 62 })).room s m ([.ref b] : List Value).toArray below meth c H locs (1 + 20 * i) (7 + 159 * i) (MQ below (iPost dd b s.heap.size 142 (hiN g)) ([.ref b] : List Value).toArray s 141 1120 (nA b s.heap.size)) (F0 m 15 ls []) := by
    intro k
    induction k with
    | zero =>
      intro i hi ad en H locs ls hl hI ha9 he9 e9 es
      obtain rfl : i = 7 := by omega
      refine lv_iload_n hx hb dX1_init_15 rfl (lv_at hl 0 rfl) ?_
      refine lv_bipush (v := 6) hx hb dX1_init_16 (by decide) ?_
      refine lv_icmp_gt (tgt := 40) hx hb dX1_init_18 (by decide) (fun _ => ?_) (fun c9 => absurd (by decide) c9)
      refine o_ret (E := hiN g) hx hb hr hI ((ha9 0 (by omega)).trans A1_0) (fun r hr9 => ?_) dX1_init_40 hlocks
      unfold hiN
      by_cases z0 : r = 0
      · rw [if_pos z0, z0, he9 0 (by omega) (by omega), E2_0, ha9 1 (by omega), A1_1]
      rw [if_neg z0]
      by_cases z1 : r = 1
      · rw [if_pos z1, z1, e9]
      rw [if_neg z1]
      have := es ((r - 2) / 20) (by omega) ((r - 2) % 20) (by omega)
      rw [show 2 + 20 * ((r - 2) / 20) + (r - 2) % 20 = r by omega] at this
      exact this
    | succ k ih =>
      intro i hi ad en H locs ls hl hI ha9 he9 e9 es
      have hiN : i < 7 := by omega
      refine lv_iload_n hx hb dX1_init_15 rfl (lv_at hl 0 rfl) ?_
      refine lv_bipush (v := 6) hx hb dX1_init_16 (by decide) ?_
      refine lv_icmp_gt (tgt := 40) hx hb dX1_init_18 (by decide) (fun c9 => absurd ((nI_ltI (a := 6) (b := i) (by decide) (by omega)).mp c9) (by omega)) (fun _ => ?_)
      refine lv_aload_n hx hb dX1_init_21 rfl (lv_at hl 1 rfl) ?_
      refine o_get hx hb hts hinX1 hown hK hI 0 (by omega) ((ha9 0 (by omega)).trans A1_0) ((he9 0 (by omega) (by omega)).trans E2_0) (ci := 1) rfl 0 (by decide) (hts (.fieldLink RX1 11 "WinderLadders$History" "states" "[LWinderLadders$State;") (by decide +kernel)) (v := .ref q1) rfl dX1_init_22 ?_
      refine lv_iload_n hx hb dX1_init_25 rfl (lv_at hl 0 rfl) ?_
      refine o_new (fs := [.null, .null, .null, .int 0, .int 0, .int 0, .int 0]) hx hb hts hinX4 tyX4 tyX4_ok hown (hts (.classLink RX1 9 RX4) (by decide +kernel)) (hts (.instantiable RX4 7) (by decide +kernel)) (hts (.initialized RX4) (by decide +kernel)) hK hI hA (ci := 4) rfl (by decide) (by show 1 + 20 * i + 1 ≤ 141; omega) (by show 7 + 159 * i + 7 ≤ 1120; omega) dX1_init_26 (fun ad8 en8 H ha8 he8 hn8 hI => ?_)
      obtain ⟨q, Aq⟩ : ∃ z, ad8 (2 + 20 * i) = z := ⟨_, rfl⟩
      rw [Aq]
      refine lv_dup hx hb dX1_init_29 rfl ?_
      refine o_init (mm := 20) (rest := [.ref q, .int (nI i), .ref q1]) hx hb hml hown hts hK hX hI hA hA0 Aq hn8 (k_X4_init l dd g sz0 q H.size) (cwI 0 hts gX1_init_X4_init rfl rfl rfl (hts (.initialized RX4) (by decide +kernel)) (hts (.methodLink RX1 17 yX4_init) (by decide +kernel)) (hts (.instanceMethod yX4_init) (by decide +kernel)) rfl (by decide +kernel) ⟨Nat.le_of_ble_eq_true rfl, Nat.le_of_ble_eq_true rfl⟩) hl (Nat.le_of_ble_eq_true rfl) ⟨by show 1 + 20 * i + 1 + 19 ≤ 141; omega, by show 7 + 159 * i + 7 + 152 ≤ 1120; omega⟩ dX1_init_30 (fun ad9 en9 H locs hb9 hq9 hc9 hn9 hI => ?_)
      have c9 : ∀ r, r < 2 + 20 * i → ad9 r = ad r := fun r hr9 => (hb9 r hr9).trans (ha8 r hr9)
      have d9 : ∀ r, r < 2 + 20 * i → en9 r = en r := fun r hr9 => (hc9 r hr9).trans (he8 r hr9)
      have f9 : en9 1 = .inl (g 4, 7, .inr (.inr (.inr (.inr (fun j => if j < i then some (ad (2 + 20 * j)) else none))))) := (d9 1 (by omega)).trans e9
      have b9 : ad9 1 = q1 := (c9 1 (by omega)).trans ((ha9 1 (by omega)).trans A1_1)
      refine o_astq (r := (RX4, TX4, 7)) hx hb hK hI 1 4 (2 + 20 * i) 4 (by omega) (by omega) b9 hq9 f9 rfl (hn9 0) rfl (by decide) i hiN rfl dX1_init_33 (fun en10 H locs he10 hn10 hI => ?_)
      rw [upA (a := fun j => ad (2 + 20 * j)) (a' := fun j => ad9 (2 + 20 * j)) (fun j hj => c9 _ (by omega)) hq9] at hn10
      refine lv_iinc (v := nI (i + 1)) (lv' := [(1, .int (nI (i + 1))), (0, .ref b)]) hx hb dX1_init_34 hl (k := 0) rfl (by rw [show Int32.ofInt 1 = nI 1 from rfl, nI_add]) (by decide) rfl (fun ls hl => ?_)
      refine lv_goto (tgt := 15) hx hb dX1_init_37 (by decide) ?_
      refine W.widen (k := 1 + 20 * (i + 1)) (n := 7 + 159 * (i + 1)) (by omega) (by omega) ?_
      refine ih (i + 1) (by omega) ad9 en10 H locs ls hl (by rw [show 2 + 20 * (i + 1) = 2 + 20 * i + 20 by omega]; exact hI) (fun r hr9 => (c9 r (by omega)).trans (ha9 r hr9)) (fun r hr9 hne => (he10 r hne).trans ((d9 r (by omega)).trans (he9 r hr9 hne))) hn10 (fun j hj r hr9 => ?_)
      rw [he10 _ (by omega)]
      by_cases z : j = i
      · subst z; exact hn9 r
      · rw [d9 _ (by omega), es j (by omega) r hr9]
        exact stN_cong (fun k hk => (c9 _ (by omega)).symm)
  exact loop 7 0 rfl ad1 en2 H locs ls hl hI (fun _ _ => rfl) (fun _ _ _ => rfl) (E2_1.trans (by rw [show (fun j => if j < 0 then some (ad1 (2 + 20 * j)) else none) = (fun _ => none) from funext fun j => if_neg (Nat.not_lt_zero _)])) (fun j hj => absurd hj (Nat.not_lt_zero _))
