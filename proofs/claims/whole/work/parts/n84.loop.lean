/-! the law's loop, and its body from the entry -/
set_option maxHeartbeats 4000000 in
set_option maxRecDepth 100000 in
theorem law_loop {p : Program} {l : Launch} {e : Env} {s : State} {m : MethodId} {below : List Frame} {meth : Method} {c : Code} {b L : Nat} {xs : Nat → Int32} {dd : va_G} {g : Nat → ClassId} {ad q : Nat → Nat} (EN : LEnv p s m meth c b L xs dd g ad q) (hL : L ≤ 2048) (hr : meth.sig.returnType = ret) (hlocks : meth.locks = false) :
    ∀ (n i : Nat), i ≤ L + 3 → L + 4 ≤ i + n → ∀ (pi : Nat → Nat) (C M : MS) (H : Heap) (locs : List Loc) (ls : Array Slot), RelE C pi M → LI dd g ad q (lA s) pi C M s.heap H locs → lv_has ls 4 [(3, .int (nI i)), (2, .ref (q 0)), (1, .ref (ad 0)), (0, .ref b)] → W p l e room_1 s m #[Value.ref b] below meth c H locs 221 3390 (lw_Z below #[Value.ref b] s) (F0 m 18 ls []) := by
  obtain ⟨hx, hb, hml, hown, hts, hX, hbl, hK, hcX, hA, hB, hap⟩ := id EN
  have hbA : ¬ lA s b := Nat.not_le.mpr hbl
  intro n
  induction n with
  | zero => intro i h1 h2; exact absurd h2 (by omega)
  | succ n ih =>
    intro i h1 h2 pi C M H locs ls hR hI hl
    refine lv_iload_n hx hb dL_law_18 rfl (lv_at hl 0 rfl) ?_
    refine lv_aload_n hx hb dL_law_19 rfl (lv_at hl 3 rfl) ?_
    refine va_slen hx hb hX hbl hbA hI.2.2 dL_law_20 ?_
    refine lv_iconst (v := 4) hx hb dL_law_21 (by decide) ?_
    refine lv_isub hx hb dL_law_22 ?_
    have eL : (nI L - nI 4).toInt = (L : Int) - 4 := pk_sub_toInt (a := L) (b := 4) (by omega) (by omega)
    have eI : (nI i).toInt = (i : Int) := nI_toInt (by omega)
    refine lv_icmp_gt (tgt := 678) hx hb dL_law_23 (by decide) (fun c9 => ?_) (fun c9 => ?_)
    · refine lv_iconst (v := 1) hx hb dL_law_678 (by decide) ?_
      refine va_forget (fun z hz => hI.2.2.2.2 z hz) ?_
      refine W.widen (k := 600000) (n := 7302250) (Nat.le_of_ble_eq_true rfl) (Nat.le_of_ble_eq_true rfl) ?_
      exact lw_ret hx hb hr hlocks dL_law_679
    · have hi : i + 4 ≤ L := by
        have c8 : ¬ (nI L - nI 4) < nI i := c9
        rw [Int32.lt_iff_toInt_lt, eL, eI] at c8
        omega
      have step : ∀ (C1 : MS) (pi1 : Nat → Nat) (M1 : MS) (H1 : Heap) (locs1 : List Loc), RelE C1 pi1 M1 → LI dd g ad q (lA s) pi1 C1 M1 s.heap H1 locs1 → W p l e room_1 s m #[Value.ref b] below meth c H1 locs1 221 3390 (lw_Z below #[Value.ref b] s) (F0 m 672 ls []) := by
        intro C1 pi1 M1 H1 locs1 hR1 hI1
        refine lv_iinc (v := nI (i + 4)) (lv' := [(3, .int (nI (i + 4))), (2, .ref (q 0)), (1, .ref (ad 0)), (0, .ref b)]) hx hb dL_law_672 hl (k := 0) rfl (by rw [show Int32.ofInt 4 = nI 4 from rfl, nI_add]) (by decide) rfl (fun ls hl => ?_)
        refine lv_goto (tgt := 18) hx hb dL_law_675 (by decide) ?_
        exact ih (i + 4) (by omega) (by omega) pi1 C1 M1 H1 locs1 ls hR1 hI1 hl
      refine lv_aload_n hx hb dL_law_26 rfl (lv_at hl 3 rfl) ?_
      refine lv_iload_n hx hb dL_law_27 rfl (lv_at hl 0 rfl) ?_
      refine va_sld hx hb hX hbl hbA hI.2.2 (vp_in_nI (show i < L by omega) (by omega)) dL_law_28 ?_
      refine lv_bipush (v := 31) hx hb dL_law_29 (by decide) ?_
      refine lv_iand hx hb dL_law_31 ?_
      obtain ⟨j, hj, ej⟩ := pk_andE (xs (nI i).toNatClampNeg) (m := 31) 5 (by decide)
      refine lv_re ej ?_
      rcases (show j = 0 ∨ j = 1 ∨ j = 2 ∨ j = 3 ∨ j = 4 ∨ j = 5 ∨ j = 6 ∨ j = 7 ∨ j = 8 ∨ j = 9 ∨ j = 10 ∨ j = 11 ∨ j = 12 ∨ j = 13 ∨ j = 14 ∨ j = 15 ∨ j = 16 ∨ j = 17 ∨ j = 18 ∨ j = 19 ∨ j = 20 ∨ j = 21 ∨ 22 ≤ j by omega) with rfl | rfl | rfl | rfl | rfl | rfl | rfl | rfl | rfl | rfl | rfl | rfl | rfl | rfl | rfl | rfl | rfl | rfl | rfl | rfl | rfl | rfl | h22
      · refine lv_tableIn (tgt := 136) (off := 104) hx hb dL_law_32 (by decide) (by decide) (by decide +kernel) (by decide) ?_
        exact lw_c0 EN hL hi hR hI hl step
      · refine lv_tableIn (tgt := 169) (off := 137) hx hb dL_law_32 (by decide) (by decide) (by decide +kernel) (by decide) ?_
        exact lw_c1 EN hL hi hR hI hl step
      · refine lv_tableIn (tgt := 212) (off := 180) hx hb dL_law_32 (by decide) (by decide) (by decide +kernel) (by decide) ?_
        exact lw_c2 EN hL hi hR hI hl step
      · refine lv_tableIn (tgt := 235) (off := 203) hx hb dL_law_32 (by decide) (by decide) (by decide +kernel) (by decide) ?_
        exact lw_c3 EN hL hi hR hI hl step
      · refine lv_tableIn (tgt := 268) (off := 236) hx hb dL_law_32 (by decide) (by decide) (by decide +kernel) (by decide) ?_
        exact lw_c4 EN hL hi hR hI hl step
      · refine lv_tableIn (tgt := 291) (off := 259) hx hb dL_law_32 (by decide) (by decide) (by decide +kernel) (by decide) ?_
        exact lw_c5 EN hL hi hR hI hl step
      · refine lv_tableIn (tgt := 314) (off := 282) hx hb dL_law_32 (by decide) (by decide) (by decide +kernel) (by decide) ?_
        exact lw_c6 EN hL hi hR hI hl step
      · refine lv_tableIn (tgt := 337) (off := 305) hx hb dL_law_32 (by decide) (by decide) (by decide +kernel) (by decide) ?_
        exact lw_c7 EN hL hi hR hI hl step
      · refine lv_tableIn (tgt := 370) (off := 338) hx hb dL_law_32 (by decide) (by decide) (by decide +kernel) (by decide) ?_
        exact lw_c8 EN hL hi hR hI hl step
      · refine lv_tableIn (tgt := 393) (off := 361) hx hb dL_law_32 (by decide) (by decide) (by decide +kernel) (by decide) ?_
        exact lw_c9 EN hL hi hR hI hl step
      · refine lv_tableIn (tgt := 416) (off := 384) hx hb dL_law_32 (by decide) (by decide) (by decide +kernel) (by decide) ?_
        exact lw_c10 EN hL hi hR hI hl step
      · refine lv_tableIn (tgt := 439) (off := 407) hx hb dL_law_32 (by decide) (by decide) (by decide +kernel) (by decide) ?_
        exact lw_c11 EN hL hi hR hI hl step
      · refine lv_tableIn (tgt := 462) (off := 430) hx hb dL_law_32 (by decide) (by decide) (by decide +kernel) (by decide) ?_
        exact lw_c12 EN hL hi hR hI hl step
      · refine lv_tableIn (tgt := 485) (off := 453) hx hb dL_law_32 (by decide) (by decide) (by decide +kernel) (by decide) ?_
        exact lw_c13 EN hL hi hR hI hl step
      · refine lv_tableIn (tgt := 498) (off := 466) hx hb dL_law_32 (by decide) (by decide) (by decide +kernel) (by decide) ?_
        exact lw_c14 EN hL hi hR hI hl step
      · refine lv_tableIn (tgt := 521) (off := 489) hx hb dL_law_32 (by decide) (by decide) (by decide +kernel) (by decide) ?_
        exact lw_c15 EN hL hi hR hI hl step
      · refine lv_tableIn (tgt := 574) (off := 542) hx hb dL_law_32 (by decide) (by decide) (by decide +kernel) (by decide) ?_
        exact lw_c16 EN hL hi hR hI hl step
      · refine lv_tableIn (tgt := 587) (off := 555) hx hb dL_law_32 (by decide) (by decide) (by decide +kernel) (by decide) ?_
        exact lw_c17 EN hL hi hR hI hl step
      · refine lv_tableIn (tgt := 600) (off := 568) hx hb dL_law_32 (by decide) (by decide) (by decide +kernel) (by decide) ?_
        exact lw_c18 EN hL hi hR hI hl step
      · refine lv_tableIn (tgt := 613) (off := 581) hx hb dL_law_32 (by decide) (by decide) (by decide +kernel) (by decide) ?_
        exact lw_c19 EN hL hi hR hI hl step
      · refine lv_tableIn (tgt := 626) (off := 594) hx hb dL_law_32 (by decide) (by decide) (by decide +kernel) (by decide) ?_
        exact lw_c20 EN hL hi hR hI hl step
      · refine lv_tableIn (tgt := 649) (off := 617) hx hb dL_law_32 (by decide) (by decide) (by decide +kernel) (by decide) ?_
        exact lw_c21 EN hL hi hR hI hl step
      · refine lv_tableOut (tgt := 672) hx hb dL_law_32 (Or.inr (by rw [nI_toInt (by omega)]; omega)) (by decide) ?_
        exact step _ _ _ _ _ hR hI
theorem nW_0 {dd : va_G} {s : State} : nW dd 0 (fun _ => 0) (fun _ => .inr (0, [])) (lA s) s.heap s.heap [] := by
  refine ⟨fun k x h => ?_, ⟨fun i j x y h => ?_, fun k x h => ?_⟩, va_S.rf⟩
  · exact absurd (iW_at h).1 (Nat.not_lt_zero _)
  · exact absurd (iW_at h).1 (Nat.not_lt_zero _)
  · exact absurd (iW_at h).1 (Nat.not_lt_zero _)
set_option maxHeartbeats 4000000 in
set_option maxRecDepth 100000 in
/-- THE LAW, from its entry -/
theorem whole_start {p : Program} {e : Env} {s : State} {m : MethodId} {below : List Frame} {meth : Method} {c : Code} (l : Launch) (hflags : l.flags = flags0) {b L : Nat} {xs : Nat → Int32} (hL : L ≤ 2048) (C0 : lw_At p s m meth c b L xs) : W p l e room_1 s m #[Value.ref b] below meth c s.heap [] 0 0 (lw_Z below #[Value.ref b] s) (entryFrame m ([Value.ref b] : List Value).toArray 4) := by
  obtain ⟨hx, hb, hr, hml, hown0, hts0, hX, hbl, hlocks, hgv⟩ := C0
  have hb : c.code = cL_law := hb
  have hown : s.vm.findClass RL = some m.cls := hown0
  have hts : ∀ w ∈ wsL_law, w.before #[Value.ref b] s = true := fun w hw => hts0 w (wsL_law_in w hw)
  obtain ⟨dd, g, hK⟩ := law_K hts0
  obtain ⟨hN, hcX⟩ := law_X hts0 hgv
  have hA : ∀ z, s.heap.size ≤ z → lA s z := fun _ h => h
  have hA0 : ∀ z, lA s z → s.heap.size ≤ z := fun _ h => h
  have hl := lv_entry ([.ref b]) (n := 4) (Nat.le_of_ble_eq_true rfl)
  rw [lg_entry_eq]
  generalize (lg_sl ([.ref b]) ++ List.replicate (4 - (lg_sl ([.ref b])).length) Slot.unset).toArray = ls at hl ⊢
  have hl : lv_has ls 4 [(0, .ref b)] := hl
  refine o_new (fs := [.null, .null, .null, .null, .null, .null, .null]) hx hb hts inlX5 tyX5 tyX5_ok hown (hts (.classLink RL 7 RX5) (by decide +kernel)) (hts (.instantiable RX5 7) (by decide +kernel)) (hts (.initialized RX5) (by decide +kernel)) hK (nW_0 (dd := dd)) hA (ci := 5) rfl (by decide) (Nat.le_of_ble_eq_true rfl) (Nat.le_of_ble_eq_true rfl) dL_law_0 (fun ad1 en1 H _ _ hn1 hI => ?_)
  obtain ⟨q0, A1⟩ : ∃ z, ad1 0 = z := ⟨_, rfl⟩
  rw [A1]
  refine lv_dup hx hb dL_law_3 rfl ?_
  refine o_init (mm := 212) (rest := [.ref q0]) hx hb hml hown hts hK hN hI hA hA0 A1 hn1 (k_X5_init l dd g s.heap.size q0 H.size) (cwI 0 hts gL_law_X5_init rfl rfl rfl (hts (.initialized RX5) (by decide +kernel)) (hts (.methodLink RL 9 yX5_init) (by decide +kernel)) (hts (.instanceMethod yX5_init) (by decide +kernel)) rfl (by decide +kernel) ⟨Nat.le_of_ble_eq_true rfl, Nat.le_of_ble_eq_true rfl⟩) hl (Nat.le_of_ble_eq_true rfl) ⟨Nat.le_of_ble_eq_true rfl, Nat.le_of_ble_eq_true rfl⟩ dL_law_4 (fun ad2 en2 H locs _ hq2 _ hn2 hI => ?_)
  refine lv_astore_n (lv' := [(1, .ref q0), (0, .ref b)]) hx hb dL_law_7 rfl hl (by decide) rfl (fun ls hl => ?_)
  refine o_new (n := 212) (fs := [.null, .null, .null, .int 0, .null, .null, .null, .int 0, .null, .int 0, .null, .int 0, .int 0, .int 0, .int 0, .int 0, .int 0]) hx hb hts inlX6 tyX6 tyX6_ok hown (hts (.classLink RL 10 RX6) (by decide +kernel)) (hts (.instantiable RX6 17) (by decide +kernel)) (hts (.initialized RX6) (by decide +kernel)) hK hI hA (ci := 6) rfl (by decide) (Nat.le_of_ble_eq_true rfl) (Nat.le_of_ble_eq_true rfl) dL_law_8 (fun ad3 en3 H ha3 he3 hn3 hI => ?_)
  obtain ⟨q1, A3⟩ : ∃ z, ad3 212 = z := ⟨_, rfl⟩
  rw [A3]
  refine lv_dup hx hb dL_law_11 rfl ?_
  refine o_init (mm := 9) (n := 212) (rest := [.ref q1]) hx hb hml hown hts hK hN hI hA hA0 A3 hn3 (k_X6_init l dd g s.heap.size q1 H.size) (cwI 0 hts gL_law_X6_init rfl rfl rfl (hts (.initialized RX6) (by decide +kernel)) (hts (.methodLink RL 12 yX6_init) (by decide +kernel)) (hts (.instanceMethod yX6_init) (by decide +kernel)) rfl (by decide +kernel) ⟨Nat.le_of_ble_eq_true rfl, Nat.le_of_ble_eq_true rfl⟩) hl (Nat.le_of_ble_eq_true rfl) ⟨Nat.le_of_ble_eq_true rfl, Nat.le_of_ble_eq_true rfl⟩ dL_law_12 (fun ad4 en4 H locs ha4 hq4 he4 hn4 hI => ?_)
  refine lv_astore_n (lv' := [(2, .ref q1), (1, .ref q0), (0, .ref b)]) hx hb dL_law_15 rfl hl (by decide) rfl (fun ls hl => ?_)
  refine lv_iconst (v := 0) hx hb dL_law_16 (by decide) ?_
  refine lv_istore_n (lv' := [(3, .int 0), (2, .ref q1), (1, .ref q0), (0, .ref b)]) hx hb dL_law_17 rfl hl (by decide) rfl (fun ls hl => ?_)
  have a42 : ∀ r, r < 212 → ad4 r = ad2 r := fun r h9 => (ha4 r h9).trans (ha3 r h9)
  have e42 : ∀ r, r < 212 → en4 r = obN g ad2 r := fun r h9 => by
    have := hn2 r
    rw [Nat.zero_add, show (fun k => ad2 (0 + k)) = ad2 from funext fun k => by rw [Nat.zero_add]] at this
    exact ((he4 r h9).trans (he3 r h9)).trans this
  have cell : ∀ r, r < 221 → va_at dd vwCl (ad4 r, en4 r) H := fun r h9 => hI.1 r _ (iW_get h9)
  have inj : ∀ i j, i < 221 → j < 221 → ad4 i = ad4 j → i = j := fun i j hi hj e9 => hI.2.1.1 i j _ _ (iW_get hi) (iW_get hj) e9
  have inA : ∀ i, i < 221 → lA s (ad4 i) := fun i hi => hI.2.1.2 i _ (iW_get hi)
  have hcP : cP dd g (fun i => ad2 (sg i)) pi0 H CC0 := cP0 (fun r h9 => by
    have := cell r (by omega)
    rw [e42 r h9, a42 r h9] at this
    exact this)
  have hmP : mP dd g (fun j => ad4 (212 + j)) H MM0 := mP0 (fun r h9 => by
    have := cell (212 + r) (by omega)
    rw [hn4 r] at this
    exact this)
  have hcA : cA (lA s) (fun i => ad2 (sg i)) := by
    refine ⟨fun i j hi hj e9 => ?_, fun i hi => ?_⟩
    · have h1 := sg_ok i hi
      have h2 := sg_ok j hj
      have e8 : ad2 (sg i) = ad2 (sg j) := e9
      rw [← a42 _ h1.2, ← a42 _ h2.2] at e8
      have := inj _ _ (by omega) (by omega) e8
      rw [← h1.1, ← h2.1, this]
    · have h1 := sg_ok i hi
      have := inA (sg i) (by omega)
      rw [a42 _ h1.2] at this
      exact this
  have hmA : mA (lA s) (fun j => ad4 (212 + j)) := ⟨fun i j hi hj e9 => by have := inj (212 + i) (212 + j) (by omega) (by omega) e9; omega, fun i hi => inA (212 + i) (by omega)⟩
  have hap : ∀ i j : Nat, i < 212 → j < 9 → (fun i => ad2 (sg i)) i ≠ (fun j => ad4 (212 + j)) j := fun i j hi hj e9 => by
    have h1 := sg_ok i hi
    have e8 : ad2 (sg i) = ad4 (212 + j) := e9
    rw [← a42 _ h1.2] at e8
    have := inj (sg i) (212 + j) (by omega) (by omega) e8
    omega
  have EN : LEnv p s m meth c b L xs dd g (fun i => ad2 (sg i)) (fun j => ad4 (212 + j)) := ⟨hx, hb, hml, hown, hts, hX, hbl, hK, hcX, hcA, hmA, hap⟩
  have eq0 : ad2 (sg 0) = q0 := hq2
  have eq1 : ad4 (212 + 0) = q1 := hq4
  rw [← eq0, ← eq1] at hl
  refine W.widen (k := 221) (n := 3390) (Nat.le_of_ble_eq_true rfl) (Nat.le_of_ble_eq_true rfl) ?_
  exact law_loop EN hL hr hlocks (L + 4) 0 (by omega) (by omega) pi0 CC0 MM0 H locs ls rel0 ⟨hcP, hmP, hI.2.2⟩ hl
