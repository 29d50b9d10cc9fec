/-! the law's loop, and its body from the entry -/
set_option maxHeartbeats 4000000 in
set_option maxRecDepth 100000 in
theorem law_loop {p : Program} {l : Launch} {e : Env} {s : State} {m : MethodId} {below : List Frame} {meth : Method} {c : Code} {b L SL : Nat} {xs : Nat → Int32} {dd : va_G} {g : Nat → ClassId} {ad : Nat → Nat} (EN : LEnv p s m meth c b L xs dd g ad) (hSL : SL ≤ 7302250) (hL : L ≤ 260) (hr : meth.sig.returnType = ret) (hlocks : meth.locks = false) :
    ∀ (n i : Nat), i ≤ 56 → 56 < i + n → ∀ (pi : Nat → Nat) (C : MS) (d : Nat) (H : Heap) (locs : List Loc) (ls : Array Slot), IN C pi d (43200 + 5000 * i) → cI dd g ad pi (lA s) s.heap H locs C → lv_has ls 6 [(2, .int (nI i)), (1, .ref (ad 0)), (0, .ref b)] → W p l e room_1 s m #[Value.ref b] below meth c H locs 212 SL (lw_Z below #[Value.ref b] s) (F0 m 10 ls []) := by
  obtain ⟨hx, hb, hml, hown, hts, hX, hbl, hK, hcX, hA⟩ := id EN
  have hbA : ¬ lA s b := Nat.not_le.mpr hbl
  have hcs : 212 ≤ room_1.cells ∧ SL ≤ room_1.slots := ⟨Nat.le_of_ble_eq_true rfl, hSL⟩
  intro n
  induction n with
  | zero => intro i h1 h2; exact absurd h2 (by omega)
  | succ n ih =>
    intro i h1 h2 pi C d H locs ls hIN hI hl
    refine lv_iload_n hx hb dL_law_10 rfl (lv_at hl 0 rfl) ?_
    refine lv_bipush (v := 56) hx hb dL_law_11 (by decide) ?_
    refine lv_icmp_ge (tgt := 119) hx hb dL_law_13 (by decide) (fun c9 => ?_) (fun c9 => ?_)
    · refine lv_iconst (v := 1) hx hb dL_law_119 (by decide) ?_
      refine va_forget (fun z hz => hI.2.2.2 z hz) ?_
      refine W.widen (k := 600000) (n := 7302250) (Nat.le_of_ble_eq_true rfl) hSL ?_
      exact lw_ret hx hb hr hlocks dL_law_120
    · have hi : i < 56 := Nat.lt_of_not_le fun z => c9 ((nI_leI (a := 56) (b := i) (by decide) (by omega)).mpr z)
      have J113 : ∀ (C1 : MS) (pi1 : Nat → Nat) (d1 : Nat) (H1 : Heap) (locs1 : List Loc) (ls1 : Array Slot) (nn rr v : Int32), IN C1 pi1 d1 (43200 + 5000 * (i + 1)) → cI dd g ad pi1 (lA s) s.heap H1 locs1 C1 → lv_has ls1 6 [(5, .int nn), (4, .int rr), (3, .int v), (2, .int (nI i)), (1, .ref (ad 0)), (0, .ref b)] → W p l e room_1 s m #[Value.ref b] below meth c H1 locs1 212 SL (lw_Z below #[Value.ref b] s) (F0 m 113 ls1 []) := by
        intro C1 pi1 d1 H1 locs1 ls1 nn rr v hIN hI hl
        refine lv_iinc (v := nI (i + 1)) (lv' := [(2, .int (nI (i + 1))), (5, .int nn), (4, .int rr), (3, .int v), (1, .ref (ad 0)), (0, .ref b)]) hx hb dL_law_113 hl (k := 3) rfl (by rw [show Int32.ofInt 1 = nI 1 from rfl, nI_add]) (by decide) rfl (fun ls hl => ?_)
        refine lv_goto (tgt := 10) hx hb dL_law_116 (by decide) ?_
        exact ih (i + 1) (by omega) (by omega) _ _ _ _ _ _ hIN hI (lv_sub hl [0, 4, 5] rfl)
      have J91 : ∀ (C1 : MS) (pi1 : Nat → Nat) (d1 : Nat) (H1 : Heap) (locs1 : List Loc) (ls1 : Array Slot) (nn rr v : Int32), IN C1 pi1 d1 (43200 + 5000 * (i + 1)) → cI dd g ad pi1 (lA s) s.heap H1 locs1 C1 → lv_has ls1 6 [(5, .int nn), (4, .int rr), (3, .int v), (2, .int (nI i)), (1, .ref (ad 0)), (0, .ref b)] → W p l e room_1 s m #[Value.ref b] below meth c H1 locs1 212 SL (lw_Z below #[Value.ref b] s) (F0 m 91 ls1 []) := by
        intro C1 pi1 d1 H1 locs1 ls1 nn rr v hIN hI hl
        refine lv_iload_n hx hb dL_law_91 rfl (lv_at hl 3 rfl) ?_
        refine lv_iconst (v := 3) hx hb dL_law_92 (by decide) ?_
        refine lv_irem hx hb dL_law_93 (by decide) ?_
        refine lv_iconst (v := 1) hx hb dL_law_94 (by decide) ?_
        refine lv_icmp_ne (tgt := 113) hx hb dL_law_95 (by decide) (fun _ => J113 _ _ _ _ _ _ _ _ _ hIN hI hl) (fun _ => ?_)
        refine lv_aload_n hx hb dL_law_98 rfl (lv_at hl 4 rfl) ?_
        refine lv_iload_n hx hb dL_law_99 rfl (lv_at hl 2 rfl) ?_
        refine lv_iconst (v := 5) hx hb dL_law_100 (by decide) ?_
        refine lv_ishr hx hb dL_law_101 ?_
        refine lv_ldc hx hb hown (hts (.constant RL 36 (65535)) (by decide +kernel)) dL_law_102 ?_
        refine lv_iand hx hb dL_law_104 ?_
        obtain ⟨x, hx5, ex⟩ := pk_andE (v >>> ((5 : Int32) &&& 31)) (m := 65535) 16 (by decide)
        refine lv_re ex ?_
        refine c_callC (As := [.ref (ad 0), .int (nI x)]) (rest := []) hx hb hml hown hts hK hcX hI (k_L_isRoundSo l dd g ad pi1 (lA s) hA C1 d1 _ hIN x (by omega)) (va_cwS 2 hts gL_law_L_isRoundSo rfl rfl rfl (by decide +kernel) ⟨Nat.le_of_ble_eq_true rfl, Nat.le_of_ble_eq_true rfl⟩) rfl hl (Nat.le_of_ble_eq_true rfl) hcs dL_law_105 rfl (fun r C1 pi1 H locs hp hI => ?_)
        obtain ⟨rfl, d2, hIN⟩ := hp
        exact lv_if_ne (tgt := 113) hx hb dL_law_108 (by decide) (fun _ => J113 _ _ _ _ _ _ _ _ _ hIN hI hl) (fun z => absurd z (by decide))
      have J64 : ∀ (C1 : MS) (pi1 : Nat → Nat) (d1 : Nat) (H1 : Heap) (locs1 : List Loc) (ls1 : Array Slot) (nn rr v : Int32), IN C1 pi1 d1 (43200 + 5000 * (i + 1)) → nn = nI (cn (C1 0)) → cI dd g ad pi1 (lA s) s.heap H1 locs1 C1 → lv_has ls1 6 [(5, .int nn), (4, .int rr), (3, .int v), (2, .int (nI i)), (1, .ref (ad 0)), (0, .ref b)] → W p l e room_1 s m #[Value.ref b] below meth c H1 locs1 212 SL (lw_Z below #[Value.ref b] s) (F0 m 64 ls1 []) := by
        intro C1 pi1 d1 H1 locs1 ls1 nn rr v hIN hnn hI hl
        have hn16 := hIN.n16
        refine lv_iload_n hx hb dL_law_64 rfl (lv_at hl 3 rfl) ?_
        refine lv_iconst (v := 3) hx hb dL_law_65 (by decide) ?_
        refine lv_irem hx hb dL_law_66 (by decide) ?_
        refine lv_iconst (v := 2) hx hb dL_law_67 (by decide) ?_
        refine lv_icmp_ne (tgt := 91) hx hb dL_law_68 (by decide) (fun _ => J91 _ _ _ _ _ _ _ _ _ hIN hI hl) (fun _ => ?_)
        refine lv_iload hx hb dL_law_71 (lv_at hl 0 rfl) ?_
        refine lv_if_le (tgt := 91) hx hb dL_law_73 (by decide) (fun _ => J91 _ _ _ _ _ _ _ _ _ hIN hI hl) (fun c8 => ?_)
        have hn0 : 0 < cn (C1 0) := Nat.pos_of_ne_zero fun z => c8 (by rw [hnn, z]; exact Int32.le_refl _)
        refine lv_aload_n hx hb dL_law_76 rfl (lv_at hl 4 rfl) ?_
        refine lv_iload_n hx hb dL_law_77 rfl (lv_at hl 2 rfl) ?_
        refine lv_iconst (v := 5) hx hb dL_law_78 (by decide) ?_
        refine lv_ishr hx hb dL_law_79 ?_
        refine lv_iload hx hb dL_law_80 (lv_at hl 0 rfl) ?_
        refine lv_re hnn ?_
        refine c_calls (As := [.int (v >>> ((5 : Int32) &&& 31)), .int (nI (cn (C1 0)))]) (rest := [.ref (ad 0)]) hx hb hml hown hts hI (k_L_low l (v >>> ((5 : Int32) &&& 31)) (cn (C1 0)) hn0 (by omega)) (va_cwS 2 hts gL_law_L_low rfl rfl rfl (by decide +kernel) ⟨Nat.le_of_ble_eq_true rfl, Nat.le_of_ble_eq_true rfl⟩) rfl hl (Nat.le_of_ble_eq_true rfl) hcs dL_law_82 rfl (fun r H locs hp hI => ?_)
        obtain ⟨x, hxn, rfl⟩ := hp
        refine c_callC (As := [.ref (ad 0), .int (nI x)]) (rest := []) hx hb hml hown hts hK hcX hI (k_L_isLastSo l dd g ad pi1 (lA s) hA C1 d1 _ hIN (by omega) (by omega) x hxn) (va_cwS 2 hts gL_law_L_isLastSo rfl rfl rfl (by decide +kernel) ⟨Nat.le_of_ble_eq_true rfl, Nat.le_of_ble_eq_true rfl⟩) rfl hl (Nat.le_of_ble_eq_true rfl) hcs dL_law_85 rfl (fun r C1 pi1 H locs hp hI => ?_)
        obtain ⟨rfl, d2, hIN⟩ := hp
        exact lv_if_eq (tgt := 111) hx hb dL_law_88 (by decide) (fun z => absurd z (by decide)) (fun _ => J91 _ _ _ _ _ _ _ _ _ hIN hI hl)
      refine lv_aload_n hx hb dL_law_16 rfl (lv_at hl 2 rfl) ?_
      refine lv_iload_n hx hb dL_law_17 rfl (lv_at hl 0 rfl) ?_
      refine l_cell (rest := []) hx hb hml hown hts hX hbl hbA hI hL i (by omega) (va_cwS 2 hts gL_law_L_cell rfl rfl rfl (by decide +kernel) ⟨Nat.le_of_ble_eq_true rfl, Nat.le_of_ble_eq_true rfl⟩) hl (Nat.le_of_ble_eq_true rfl) hcs dL_law_18 rfl (fun v H locs hI => ?_)
      refine lv_istore_n (lv' := [(3, .int v), (2, .int (nI i)), (1, .ref (ad 0)), (0, .ref b)]) hx hb dL_law_21 rfl hl (by decide) rfl (fun ls hl => ?_)
      refine lv_aload_n hx hb dL_law_22 rfl (lv_at hl 2 rfl) ?_
      refine lv_iload_n hx hb dL_law_23 rfl (lv_at hl 0 rfl) ?_
      refine c_callC (As := [.ref (ad 0), .int v]) (rest := []) hx hb hml hown hts hK hcX hI (k_L_does l dd g ad pi (lA s) hA C d _ hIN (by omega) (by omega) v) (va_cwS 2 hts gL_law_L_does rfl rfl rfl (by decide +kernel) ⟨Nat.le_of_ble_eq_true rfl, Nat.le_of_ble_eq_true rfl⟩) rfl hl (Nat.le_of_ble_eq_true rfl) hcs dL_law_24 rfl (fun r C1 pi1 H locs hp hI => ?_)
      obtain ⟨hr6, d1, hIN⟩ := hp
      rw [show 43200 + 5000 * i + 5000 = 43200 + 5000 * (i + 1) by omega] at hIN
      refine lv_istore (lv' := [(4, .int r), (3, .int v), (2, .int (nI i)), (1, .ref (ad 0)), (0, .ref b)]) hx hb dL_law_27 hl (by decide) rfl (fun ls hl => ?_)
      refine lv_aload_n hx hb dL_law_29 rfl (lv_at hl 3 rfl) ?_
      refine lv_iconst (v := 1) hx hb dL_law_30 (by decide) ?_
      refine c_calli (As := [.int 1]) (rest := []) hx hb hml hown hts hK hcX hI 0 (by omega) cE_0 rfl (k_X5_count l dd g ad pi1 (lA s) hA C1 hIN.W hIN.g hIN.Ld 1) (cwV 1 hts gL_law_X5_count rfl rfl rfl (by decide +kernel) ⟨Nat.le_of_ble_eq_true rfl, Nat.le_of_ble_eq_true rfl⟩) rfl hl (Nat.le_of_ble_eq_true rfl) hcs dL_law_31 rfl (fun nn C2 pi2 H locs hp hI => ?_)
      obtain ⟨hnn, hc9, hp9⟩ := hp
      rw [hc9, hp9] at hI
      rw [q_c1 hIN.W] at hnn
      refine lv_istore (lv' := [(5, .int nn), (4, .int r), (3, .int v), (2, .int (nI i)), (1, .ref (ad 0)), (0, .ref b)]) hx hb dL_law_34 hl (by decide) rfl (fun ls hl => ?_)
      refine lv_iload hx hb dL_law_36 (lv_at hl 1 rfl) ?_
      refine lv_bipush (v := -6) hx hb dL_law_38 (by decide) ?_
      refine lv_icmp_lt (tgt := 111) hx hb dL_law_40 (by decide) (fun z => absurd z hr6) (fun _ => ?_)
      refine lv_aload_n hx hb dL_law_43 rfl (lv_at hl 4 rfl) ?_
      refine c_callC (As := [.ref (ad 0)]) (rest := []) hx hb hml hown hts hK hcX hI (k_L_areClocksSo l dd g ad pi1 (lA s) hA C1 d1 _ hIN (by omega)) (va_cwS 1 hts gL_law_L_areClocksSo rfl rfl rfl (by decide +kernel) ⟨Nat.le_of_ble_eq_true rfl, Nat.le_of_ble_eq_true rfl⟩) rfl hl (Nat.le_of_ble_eq_true rfl) hcs dL_law_44 rfl (fun r2 C2 pi2 H locs hp hI => ?_)
      obtain ⟨er2, hc9, hp9⟩ := hp
      rw [hc9, hp9] at hI
      subst er2
      refine lv_if_eq (tgt := 111) hx hb dL_law_47 (by decide) (fun z => absurd z (by decide)) (fun _ => ?_)
      refine lv_iload_n hx hb dL_law_50 rfl (lv_at hl 3 rfl) ?_
      refine lv_iconst (v := 4) hx hb dL_law_51 (by decide) ?_
      refine lv_irem hx hb dL_law_52 (by decide) ?_
      refine lv_iconst (v := 1) hx hb dL_law_53 (by decide) ?_
      refine lv_icmp_ne (tgt := 64) hx hb dL_law_54 (by decide) (fun _ => J64 _ _ _ _ _ _ _ _ _ hIN hnn hI hl) (fun _ => ?_)
      refine lv_aload_n hx hb dL_law_57 rfl (lv_at hl 4 rfl) ?_
      refine c_callC (As := [.ref (ad 0)]) (rest := []) hx hb hml hown hts hK hcX hI (k_L_areNeedsSo l dd g ad pi1 (lA s) hA C1 d1 _ hIN) (va_cwS 1 hts gL_law_L_areNeedsSo rfl rfl rfl (by decide +kernel) ⟨Nat.le_of_ble_eq_true rfl, Nat.le_of_ble_eq_true rfl⟩) rfl hl (Nat.le_of_ble_eq_true rfl) hcs dL_law_58 rfl (fun r2 C2 pi2 H locs hp hI => ?_)
      obtain ⟨er2, ⟨d2, hIN⟩, ecn⟩ := hp
      subst er2
      exact lv_if_eq (tgt := 111) hx hb dL_law_61 (by decide) (fun z => absurd z (by decide)) (fun _ => J64 _ _ _ _ _ _ _ _ _ hIN (by rw [ecn]; exact hnn) hI hl)
theorem nW_0 {dd : va_G} {s : State} : nW dd 0 (fun _ => 0) (fun _ => .inr (0, [])) (lA s) s.heap s.heap [] := by
  refine ⟨fun k x h => ?_, ⟨fun i j x y h => ?_, fun k x h => ?_⟩, va_S.rf⟩
  · exact absurd (iW_at h).1 (Nat.not_lt_zero _)
  · exact absurd (iW_at h).1 (Nat.not_lt_zero _)
  · exact absurd (iW_at h).1 (Nat.not_lt_zero _)
set_option maxHeartbeats 4000000 in
set_option maxRecDepth 100000 in
/-- THE LAW, from its entry -/
theorem whole_start {p : Program} {e : Env} {s : State} {m : MethodId} {below : List Frame} {meth : Method} {c : Code} (l : Launch) (hflags : l.flags = flags0) {b L : Nat} {xs : Nat → Int32} (hL : L ≤ 260) (C0 : lw_At p s m meth c b L xs) : W p l e room_1 s m #[Value.ref b] below meth c s.heap [] 0 0 (lw_Z below #[Value.ref b] s) (entryFrame m ([Value.ref b] : List Value).toArray 6) := by
  obtain ⟨hx, hb, hr, hml, hown0, hts0, hX, hbl, hlocks, hgv⟩ := C0
  have hb : c.code = cL_law := hb
  have hown : s.vm.findClass RL = some m.cls := hown0
  have hts : ∀ w ∈ wsL_law, w.before #[Value.ref b] s = true := fun w hw => hts0 w (wsL_law_in w hw)
  obtain ⟨dd, g, hK⟩ := law_K hts0
  obtain ⟨hN, hcX⟩ := law_X hts0 hgv
  have hA : ∀ z, s.heap.size ≤ z → lA s z := fun _ h => h
  have hA0 : ∀ z, lA s z → s.heap.size ≤ z := fun _ h => h
  have hl := lv_entry ([.ref b]) (n := 6) (Nat.le_of_ble_eq_true rfl)
  rw [lg_entry_eq]
  generalize (lg_sl ([.ref b]) ++ List.replicate (6 - (lg_sl ([.ref b])).length) Slot.unset).toArray = ls at hl ⊢
  have hl : lv_has ls 6 [(0, .ref b)] := hl
  refine o_new (fs := [.null, .null, .null, .null, .null, .null, .null]) hx hb hts inlX5 tyX5 tyX5_ok hown (hts (.classLink RL 9 RX5) (by decide +kernel)) (hts (.instantiable RX5 7) (by decide +kernel)) (hts (.initialized RX5) (by decide +kernel)) hK (nW_0 (dd := dd)) hA (ci := 5) rfl (by decide) (Nat.le_of_ble_eq_true rfl) (Nat.le_of_ble_eq_true rfl) dL_law_0 (fun ad1 en1 H _ _ hn1 hI => ?_)
  obtain ⟨q0, A1⟩ : ∃ z, ad1 0 = z := ⟨_, rfl⟩
  rw [A1]
  refine lv_dup hx hb dL_law_3 rfl ?_
  refine o_init (mm := 212) (rest := [.ref q0]) hx hb hml hown hts hK hN hI hA hA0 A1 hn1 (k_X5_init l dd g s.heap.size q0 H.size) (cwI 0 hts gL_law_X5_init rfl rfl rfl (hts (.initialized RX5) (by decide +kernel)) (hts (.methodLink RL 74 yX5_init) (by decide +kernel)) (hts (.instanceMethod yX5_init) (by decide +kernel)) rfl (by decide +kernel) ⟨Nat.le_of_ble_eq_true rfl, Nat.le_of_ble_eq_true rfl⟩) hl (Nat.le_of_ble_eq_true rfl) ⟨Nat.le_of_ble_eq_true rfl, Nat.le_of_ble_eq_true rfl⟩ dL_law_4 (fun ad2 en2 H locs _ hq2 _ hn2 hI => ?_)
  refine lv_astore_n (lv' := [(1, .ref q0), (0, .ref b)]) hx hb dL_law_7 rfl hl (by decide) rfl (fun ls hl => ?_)
  refine lv_iconst (v := 0) hx hb dL_law_8 (by decide) ?_
  refine lv_istore_n (lv' := [(2, .int 0), (1, .ref q0), (0, .ref b)]) hx hb dL_law_9 rfl hl (by decide) rfl (fun ls hl => ?_)
  have e42 : ∀ r, r < 212 → en2 r = obN g ad2 r := fun r h9 => by
    have := hn2 r
    rw [Nat.zero_add, show (fun k => ad2 (0 + k)) = ad2 from funext fun k => by rw [Nat.zero_add]] at this
    exact this
  have cell : ∀ r, r < 212 → va_at dd vwCl (ad2 r, en2 r) H := fun r h9 => hI.1 r _ (iW_get h9)
  have inj : ∀ i j, i < 212 → j < 212 → ad2 i = ad2 j → i = j := fun i j hi hj e9 => hI.2.1.1 i j _ _ (iW_get hi) (iW_get hj) e9
  have inA : ∀ i, i < 212 → lA s (ad2 i) := fun i hi => hI.2.1.2 i _ (iW_get hi)
  have hcP : cP dd g (fun i => ad2 (sg i)) pi0 H CC0 := cP0 (fun r h9 => by
    have := cell r h9
    rw [e42 r h9] at this
    exact this)
  have hcA : cA (lA s) (fun i => ad2 (sg i)) := by
    refine ⟨fun i j hi hj e9 => ?_, fun i hi => inA (sg i) (sg_ok i hi).2⟩
    have h1 := sg_ok i hi
    have h2 := sg_ok j hj
    have := inj _ _ h1.2 h2.2 e9
    rw [← h1.1, ← h2.1, this]
  have EN : LEnv p s m meth c b L xs dd g (fun i => ad2 (sg i)) := ⟨hx, hb, hml, hown, hts, hX, hbl, hK, hcX, hcA⟩
  have eq0 : ad2 (sg 0) = q0 := hq2
  rw [← eq0] at hl
  refine W.widen (k := 212) (n := 1795) (Nat.le_of_ble_eq_true rfl) (Nat.le_of_ble_eq_true rfl) ?_
  exact law_loop EN (Nat.le_of_ble_eq_true rfl) hL hr hlocks 57 0 (by omega) (by omega) pi0 CC0 0 H locs ls in0 ⟨hcP, hI.2.2⟩ hl
