/-! the walk's rows over the class's cells -/
section CR
variable {p : Program} {l : Launch} {e : Env} {R : Room} {s : State} {m : MethodId} {args : Array Value} {below : List Frame} {meth : Method} {c : Code} {H : Heap} {locs : List Loc} {cells slots : Nat} {Q : State → Prop}
variable {cc : ByteArray} {pc : Nat} {ls : Array Slot} {rest : List Value} {dd : va_G} {g : Nat → ClassId} {A : Nat → Prop} {ad pi : Nat → Nat} {C : MS} {H0 : Heap} {own0 : String} {Ts : List Cond}
theorem c_get (hx : p.tables.exec = Jvm.exec) (hb : c.code = cc) {index : Nat} (hts : ∀ w ∈ Ts, w.before args s = true) (hown : s.vm.findClass own0 = some m.cls) (hK : va_K dd vwCl (tysW g) s) (hI : cI dd g ad pi A H0 H locs C) (i : Nat) (hi : i < 212) {ci : Nat} {fs : List Value} (hE : cE ad g pi C i = .inr (ci, fs)) {Cn : String} {T : u_T} {N : Nat} (hc : vwCl[ci]? = some (Cn, T, N)) (hin : ∀ w ∈ u_ws Cn T N, w ∈ Ts) (k : Nat) (hk : k < N) (hlink : (Cond.fieldLink own0 index (T k).1 (T k).2.1 (T k).2.2.1).before args s = true) {v : Value} (hv : fs[k]? = some v) (hdg : decode cc pc = .ok (.getfield index, 3))
    (kk : W p l e R s m args below meth c H locs cells slots Q (F0 m (pc + 3) ls (v :: rest))) : W p l e R s m args below meth c H locs cells slots Q (F0 m pc ls (.ref (ad i) :: rest)) :=
  va_get hx hb hts hin hown hK hI.1 i (by rw [cW_get hi, hE]) hc k hk hlink (fun _ h => h) hv hdg kk
theorem c_putG (hx : p.tables.exec = Jvm.exec) (hb : c.code = cc) {index : Nat} (hts : ∀ w ∈ Ts, w.before args s = true) (hown : s.vm.findClass own0 = some m.cls) (hK : va_K dd vwCl (tysW g) s) (hA : cA A ad) (hI : cI dd g ad pi A H0 H locs C) (i : Nat) (hi : i < 212) {ci : Nat} {fs : List Value} (hE : cE ad g pi C i = .inr (ci, fs)) {Cn : String} {T : u_T} {N : Nat} {ty0 : Nat → FieldType} (hty : ∀ k, k < N → parseFieldDescriptor (T k).2.2.1 = some (ty0 k)) (hnm : ∀ a, a < N → ∀ b, b < N → a ≠ b → (T a).2.1 ≠ (T b).2.1) (hc : vwCl[ci]? = some (Cn, T, N)) (hin : ∀ w ∈ u_ws Cn T N, w ∈ Ts) (k : Nat) (hk : k < N) (hl : k < fs.length) (hlink : (Cond.fieldLink own0 index (T k).1 (T k).2.1 (T k).2.2.1).before args s = true) (hfin : (T k).2.2.2 = false) {x : Int32} {ty : FieldType} (hd : parseFieldDescriptor (T k).2.2.1 = some ty) (hn : narrow ty (.int x) = .int x) (hf : fits ty (.int x) = true) (r j : Nat) (ho : own r j = i) (hE2 : cE ad g pi (mset C r j x) i = .inr (ci, fs.set k (.int x))) (hdg : decode cc pc = .ok (.putfield index, 3))
    (kk : ∀ (H1 : Heap) (locs1 : List Loc), cI dd g ad pi A H0 H1 locs1 (mset C r j x) → W p l e R s m args below meth c H1 locs1 cells slots Q (F0 m (pc + 3) ls rest)) : W p l e R s m args below meth c H locs cells slots Q (F0 m pc ls (.int x :: .ref (ad i) :: rest)) :=
  va_put (v := .int x) (ty := ty) hx hb hts hin ty0 hty hnm hown hK hI.1 (hA.D g pi C) hI.2 i (by rw [cW_get hi, hE]) hc k hk hlink (fun _ h => h) hfin hd hn hf hl hdg (fun H1 locs1 h1 _ h3 => kk H1 locs1 ⟨cP_mset h1 hE2 ho, h3⟩)
theorem c_putC (hx : p.tables.exec = Jvm.exec) (hb : c.code = cc) {index : Nat} (hts : ∀ w ∈ Ts, w.before args s = true) (hin : ∀ w ∈ wsX00, w ∈ Ts) (hown : s.vm.findClass own0 = some m.cls) (hK : va_K dd vwCl (tysW g) s) (hA : cA A ad) (hI : cI dd g ad pi A H0 H locs C) (k u w fl : Nat) (hk : k < 10) (hu : u < 16) (hwf : (w, fl) ∈ [(0, 0), (1, 1), (2, 2), (3, 3), (4, 4), (5, 5), (7, 6), (6, 7)]) (hlink : (Cond.fieldLink own0 index (TX0 fl).1 (TX0 fl).2.1 (TX0 fl).2.2.1).before args s = true) {x : Int32} (hz : w = 6 → x = 0 ∨ x = 1) (hdg : decode cc pc = .ok (.putfield index, 3))
    (kk : ∀ (H1 : Heap) (locs1 : List Loc), cI dd g ad pi A H0 H1 locs1 (mset C k (12 + 8 * u + w) x) → W p l e R s m args below meth c H1 locs1 cells slots Q (F0 m (pc + 3) ls rest)) : W p l e R s m args below meth c H locs cells slots Q (F0 m pc ls (.int x :: .ref (ad (15 + 20 * k + u)) :: rest)) := by
  have key : ∀ (ty : FieldType) (hk8 : fl < 8) (hw8 : w < 8), parseFieldDescriptor (TX0 fl).2.2.1 = some ty → narrow ty (.int x) = .int x → fits ty (.int x) = true → (TX0 fl).2.2.2 = false → [.int (mset C k (12 + 8 * u + w) x k (12 + 8 * u + 0)), .int (mset C k (12 + 8 * u + w) x k (12 + 8 * u + 1)), .int (mset C k (12 + 8 * u + w) x k (12 + 8 * u + 2)), .int (mset C k (12 + 8 * u + w) x k (12 + 8 * u + 3)), .int (mset C k (12 + 8 * u + w) x k (12 + 8 * u + 4)), .int (mset C k (12 + 8 * u + w) x k (12 + 8 * u + 5)), .int (mset C k (12 + 8 * u + w) x k (12 + 8 * u + 7)), .int (mset C k (12 + 8 * u + w) x k (12 + 8 * u + 6))] = ([.int (C k (12 + 8 * u + 0)), .int (C k (12 + 8 * u + 1)), .int (C k (12 + 8 * u + 2)), .int (C k (12 + 8 * u + 3)), .int (C k (12 + 8 * u + 4)), .int (C k (12 + 8 * u + 5)), .int (C k (12 + 8 * u + 7)), .int (C k (12 + 8 * u + 6))] : List Value).set fl (.int x) → W p l e R s m args below meth c H locs cells slots Q (F0 m pc ls (.int x :: .ref (ad (15 + 20 * k + u)) :: rest)) := by
    intro ty hk8 hw8 hd hn hf hfin he
    exact c_putG hx hb hts hown hK hA hI (15 + 20 * k + u) (by omega) (cE_cl hu) tyX0_ok nmX0 (ci := 0) rfl hin fl hk8 hk8 hlink hfin hd hn hf k (12 + 8 * u + w) (own_cl hk hu hw8) (by rw [cE_cl hu, he]) hdg kk
  simp only [List.mem_cons, List.not_mem_nil, or_false, Prod.mk.injEq] at hwf
  rcases hwf with ⟨rfl, rfl⟩ | ⟨rfl, rfl⟩ | ⟨rfl, rfl⟩ | ⟨rfl, rfl⟩ | ⟨rfl, rfl⟩ | ⟨rfl, rfl⟩ | ⟨rfl, rfl⟩ | ⟨rfl, rfl⟩
  · exact key .int (by decide) (by decide) (by decide +kernel) rfl rfl rfl (by simp [mset])
  · exact key .int (by decide) (by decide) (by decide +kernel) rfl rfl rfl (by simp [mset])
  · exact key .int (by decide) (by decide) (by decide +kernel) rfl rfl rfl (by simp [mset])
  · exact key .int (by decide) (by decide) (by decide +kernel) rfl rfl rfl (by simp [mset])
  · exact key .int (by decide) (by decide) (by decide +kernel) rfl rfl rfl (by simp [mset])
  · exact key .int (by decide) (by decide) (by decide +kernel) rfl rfl rfl (by simp [mset])
  · exact key .int (by decide) (by decide) (by decide +kernel) rfl rfl rfl (by simp [mset])
  · rcases hz rfl with rfl | rfl
    · exact key .boolean (by decide) (by decide) (by decide +kernel) rfl rfl rfl (by simp [mset])
    · exact key .boolean (by decide) (by decide) (by decide +kernel) rfl rfl rfl (by simp [mset])
theorem c_putS (hx : p.tables.exec = Jvm.exec) (hb : c.code = cc) {index : Nat} (hts : ∀ w ∈ Ts, w.before args s = true) (hin : ∀ w ∈ wsX40, w ∈ Ts) (hown : s.vm.findClass own0 = some m.cls) (hK : va_K dd vwCl (tysW g) s) (hA : cA A ad) (hI : cI dd g ad pi A H0 H locs C) (k w fl : Nat) (hk : k < 10) (hwf : (w, fl) ∈ [(5, 3), (6, 4), (4, 5), (7, 6)]) (hlink : (Cond.fieldLink own0 index (TX4 fl).1 (TX4 fl).2.1 (TX4 fl).2.2.1).before args s = true) {x : Int32} (hdg : decode cc pc = .ok (.putfield index, 3))
    (kk : ∀ (H1 : Heap) (locs1 : List Loc), cI dd g ad pi A H0 H1 locs1 (mset C k w x) → W p l e R s m args below meth c H1 locs1 cells slots Q (F0 m (pc + 3) ls rest)) : W p l e R s m args below meth c H locs cells slots Q (F0 m pc ls (.int x :: .ref (ad (11 + 20 * k)) :: rest)) := by
  simp only [List.mem_cons, List.not_mem_nil, or_false, Prod.mk.injEq] at hwf
  rcases hwf with ⟨rfl, rfl⟩ | ⟨rfl, rfl⟩ | ⟨rfl, rfl⟩ | ⟨rfl, rfl⟩
  · exact c_putG hx hb hts hown hK hA hI (11 + 20 * k) (by omega) cE_st tyX4_ok nmX4 (ci := 4) rfl hin 3 (by decide) (Nat.le_of_ble_eq_true rfl) hlink rfl (ty := .int) (by decide +kernel) rfl rfl k 5 (by rw [own_lo hk]; rfl) (by rw [cE_st]; simp [mset]) hdg kk
  · exact c_putG hx hb hts hown hK hA hI (11 + 20 * k) (by omega) cE_st tyX4_ok nmX4 (ci := 4) rfl hin 4 (by decide) (Nat.le_of_ble_eq_true rfl) hlink rfl (ty := .int) (by decide +kernel) rfl rfl k 6 (by rw [own_lo hk]; rfl) (by rw [cE_st]; simp [mset]) hdg kk
  · exact c_putG hx hb hts hown hK hA hI (11 + 20 * k) (by omega) cE_st tyX4_ok nmX4 (ci := 4) rfl hin 5 (by decide) (Nat.le_of_ble_eq_true rfl) hlink rfl (ty := .int) (by decide +kernel) rfl rfl k 4 (by rw [own_lo hk]; rfl) (by rw [cE_st]; simp [mset]) hdg kk
  · exact c_putG hx hb hts hown hK hA hI (11 + 20 * k) (by omega) cE_st tyX4_ok nmX4 (ci := 4) rfl hin 6 (by decide) (Nat.le_of_ble_eq_true rfl) hlink rfl (ty := .int) (by decide +kernel) rfl rfl k 7 (by rw [own_lo hk]; rfl) (by rw [cE_st]; simp [mset]) hdg kk
theorem c_putH (hx : p.tables.exec = Jvm.exec) (hb : c.code = cc) {index : Nat} (hts : ∀ w ∈ Ts, w.before args s = true) (hin : ∀ w ∈ wsX10, w ∈ Ts) (hown : s.vm.findClass own0 = some m.cls) (hK : va_K dd vwCl (tysW g) s) (hA : cA A ad) (hI : cI dd g ad pi A H0 H locs C) (hlink : (Cond.fieldLink own0 index (TX1 1).1 (TX1 1).2.1 (TX1 1).2.2.1).before args s = true) {x : Int32} (hdg : decode cc pc = .ok (.putfield index, 3))
    (kk : ∀ (H1 : Heap) (locs1 : List Loc), cI dd g ad pi A H0 H1 locs1 (mset C 10 0 x) → W p l e R s m args below meth c H1 locs1 cells slots Q (F0 m (pc + 3) ls rest)) : W p l e R s m args below meth c H locs cells slots Q (F0 m pc ls (.int x :: .ref (ad 1) :: rest)) :=
  c_putG hx hb hts hown hK hA hI 1 (by decide) cE_1 tyX1_ok nmX1 (ci := 1) rfl hin 1 (by decide) (Nat.le_of_ble_eq_true rfl) hlink rfl (ty := .int) (by decide +kernel) rfl rfl 10 0 rfl (by rw [cE_1]; simp [mset]) hdg kk
theorem c_putP (hx : p.tables.exec = Jvm.exec) (hb : c.code = cc) {index : Nat} (hts : ∀ w ∈ Ts, w.before args s = true) (hin : ∀ w ∈ wsX20, w ∈ Ts) (hown : s.vm.findClass own0 = some m.cls) (hK : va_K dd vwCl (tysW g) s) (hA : cA A ad) (hI : cI dd g ad pi A H0 H locs C) (w fl : Nat) (hwf : (w, fl) ∈ [(1, 2), (2, 3), (3, 4)]) (hlink : (Cond.fieldLink own0 index (TX2 fl).1 (TX2 fl).2.1 (TX2 fl).2.2.1).before args s = true) {x : Int32} (hdg : decode cc pc = .ok (.putfield index, 3))
    (kk : ∀ (H1 : Heap) (locs1 : List Loc), cI dd g ad pi A H0 H1 locs1 (mset C 10 w x) → W p l e R s m args below meth c H1 locs1 cells slots Q (F0 m (pc + 3) ls rest)) : W p l e R s m args below meth c H locs cells slots Q (F0 m pc ls (.int x :: .ref (ad 5) :: rest)) := by
  simp only [List.mem_cons, List.not_mem_nil, or_false, Prod.mk.injEq] at hwf
  rcases hwf with ⟨rfl, rfl⟩ | ⟨rfl, rfl⟩ | ⟨rfl, rfl⟩
  · exact c_putG hx hb hts hown hK hA hI 5 (by decide) cE_5 tyX2_ok nmX2 (ci := 2) rfl hin 2 (by decide) (Nat.le_of_ble_eq_true rfl) hlink rfl (ty := .int) (by decide +kernel) rfl rfl 10 1 rfl (by rw [cE_5]; simp [mset]) hdg kk
  · exact c_putG hx hb hts hown hK hA hI 5 (by decide) cE_5 tyX2_ok nmX2 (ci := 2) rfl hin 3 (by decide) (Nat.le_of_ble_eq_true rfl) hlink rfl (ty := .int) (by decide +kernel) rfl rfl 10 2 rfl (by rw [cE_5]; simp [mset]) hdg kk
  · exact c_putG hx hb hts hown hK hA hI 5 (by decide) cE_5 tyX2_ok nmX2 (ci := 2) rfl hin 4 (by decide) (Nat.le_of_ble_eq_true rfl) hlink rfl (ty := .int) (by decide +kernel) rfl rfl 10 3 rfl (by rw [cE_5]; simp [mset]) hdg kk
/-- the two Rows: b = 7 (of the pad), its counter place 4; b = 9, its place 5 -/
theorem c_putR (hx : p.tables.exec = Jvm.exec) (hb : c.code = cc) {index : Nat} (hts : ∀ w ∈ Ts, w.before args s = true) (hin : ∀ w ∈ wsX30, w ∈ Ts) (hown : s.vm.findClass own0 = some m.cls) (hK : va_K dd vwCl (tysW g) s) (hA : cA A ad) (hI : cI dd g ad pi A H0 H locs C) (b w : Nat) (hbw : (b, w) ∈ [(7, 4), (9, 5)]) (hlink : (Cond.fieldLink own0 index (TX3 1).1 (TX3 1).2.1 (TX3 1).2.2.1).before args s = true) {x : Int32} (hdg : decode cc pc = .ok (.putfield index, 3))
    (kk : ∀ (H1 : Heap) (locs1 : List Loc), cI dd g ad pi A H0 H1 locs1 (mset C 10 w x) → W p l e R s m args below meth c H1 locs1 cells slots Q (F0 m (pc + 3) ls rest)) : W p l e R s m args below meth c H locs cells slots Q (F0 m pc ls (.int x :: .ref (ad b) :: rest)) := by
  simp only [List.mem_cons, List.not_mem_nil, or_false, Prod.mk.injEq] at hbw
  rcases hbw with ⟨rfl, rfl⟩ | ⟨rfl, rfl⟩
  · exact c_putG hx hb hts hown hK hA hI 7 (by decide) cE_7 tyX3_ok nmX3 (ci := 3) rfl hin 1 (by decide) (Nat.le_of_ble_eq_true rfl) hlink rfl (ty := .int) (by decide +kernel) rfl rfl 10 4 rfl (by rw [cE_7]; simp [mset]) hdg kk
  · exact c_putG hx hb hts hown hK hA hI 9 (by decide) cE_9 tyX3_ok nmX3 (ci := 3) rfl hin 1 (by decide) (Nat.le_of_ble_eq_true rfl) hlink rfl (ty := .int) (by decide +kernel) rfl rfl 10 5 rfl (by rw [cE_9]; simp [mset]) hdg kk
/-! arrays -/
theorem c_ald (hx : p.tables.exec = Jvm.exec) (hb : c.code = cc) (hK : va_K dd vwCl (tysW g) s) (hI : cI dd g ad pi A H0 H locs C) (i : Nat) (hi : i < 212) {n : Nat} {f : Nat → Int32} (hE : cE ad g pi C i = .inl (g 0, n, .inl f)) (hn : n < 2 ^ 31) (j : Nat) (hj : j < n) {x : Int32} (hx2 : x = nI j) {v : Int32} (hv : f j = v) (hdg : decode cc pc = .ok (.iaload, 1))
    (kk : W p l e R s m args below meth c H locs cells slots Q (F0 m (pc + 1) ls (.int v :: rest))) : W p l e R s m args below meth c H locs cells slots Q (F0 m pc ls (.int x :: .ref (ad i) :: rest)) := by
  subst hx2; subst hv
  have ej : (nI j).toNatClampNeg = j := nI_clamp (by omega)
  rw [← ej] at kk
  exact va_iald hx hb hK hI.1 i 0 (by rw [cW_get hi, hE]) rfl (vp_in_nI hj hn) hdg kk
theorem c_cld (hx : p.tables.exec = Jvm.exec) (hb : c.code = cc) (hK : va_K dd vwCl (tysW g) s) (hI : cI dd g ad pi A H0 H locs C) (j : Nat) (hj : j < 80) {x : Int32} (hx2 : x = nI j) {v : Int32} (hv : C 12 j = v) (hdg : decode cc pc = .ok (.caload, 1))
    (kk : W p l e R s m args below meth c H locs cells slots Q (F0 m (pc + 1) ls (.int v :: rest))) : W p l e R s m args below meth c H locs cells slots Q (F0 m pc ls (.int x :: .ref (ad 6) :: rest)) := by
  subst hx2; subst hv
  have ej : (nI j).toNatClampNeg = j := nI_clamp (by omega)
  rw [← ej] at kk
  exact va_cald hx hb hK hI.1 6 1 (by rw [cW_get (by decide), cE_6]) rfl (vp_in_nI hj (by decide)) hdg kk
theorem c_zld (hx : p.tables.exec = Jvm.exec) (hb : c.code = cc) (hK : va_K dd vwCl (tysW g) s) (hI : cI dd g ad pi A H0 H locs C) (j : Nat) (hj : j < 2) {x : Int32} (hx2 : x = nI j) {v : Int32} (hv : C 11 j = v) (hdg : decode cc pc = .ok (.baload, 1))
    (kk : W p l e R s m args below meth c H locs cells slots Q (F0 m (pc + 1) ls (.int v :: rest))) : W p l e R s m args below meth c H locs cells slots Q (F0 m pc ls (.int x :: .ref (ad 4) :: rest)) := by
  subst hx2; subst hv
  have ej : (nI j).toNatClampNeg = j := nI_clamp (by omega)
  rw [← ej] at kk
  exact va_zald hx hb hK hI.1 4 2 (by rw [cW_get (by decide), cE_4]) rfl (vp_in_nI hj (by decide)) hdg kk
theorem c_aldC (hx : p.tables.exec = Jvm.exec) (hb : c.code = cc) (hK : va_K dd vwCl (tysW g) s) (hI : cI dd g ad pi A H0 H locs C) (k : Nat) (hk : k < 10) (j : Nat) (hj : j < 16) {x : Int32} (hx2 : x = nI j) (hdg : decode cc pc = .ok (.aaload, 1))
    (kk : W p l e R s m args below meth c H locs cells slots Q (F0 m (pc + 1) ls (.ref (ad (15 + 20 * k + j)) :: rest))) : W p l e R s m args below meth c H locs cells slots Q (F0 m pc ls (.int x :: .ref (ad (13 + 20 * k)) :: rest)) := by
  subst hx2
  have ej : (nI j).toNatClampNeg = j := nI_clamp (by omega)
  refine va_aldq (C := "WinderLadders$Clock") hx hb hK hI.1 (13 + 20 * k) 3 (by rw [cW_get (by omega), cE_ck]) rfl (vp_in_nI hj (by decide)) hdg ?_
  rw [ej]; exact kk
theorem c_aldH (hx : p.tables.exec = Jvm.exec) (hb : c.code = cc) (hK : va_K dd vwCl (tysW g) s) (hI : cI dd g ad pi A H0 H locs C) (j : Nat) (hj : j < 7) {x : Int32} (hx2 : x = nI j) (hdg : decode cc pc = .ok (.aaload, 1))
    (kk : W p l e R s m args below meth c H locs cells slots Q (F0 m (pc + 1) ls (.ref (ad (11 + 20 * pi j)) :: rest))) : W p l e R s m args below meth c H locs cells slots Q (F0 m pc ls (.int x :: .ref (ad 2) :: rest)) := by
  subst hx2
  have ej : (nI j).toNatClampNeg = j := nI_clamp (by omega)
  refine va_aldq (C := "WinderLadders$State") hx hb hK hI.1 2 4 (by rw [cW_get (by decide), cE_2]) rfl (vp_in_nI hj (by decide)) hdg ?_
  rw [ej]; exact kk
theorem c_aldL (hx : p.tables.exec = Jvm.exec) (hb : c.code = cc) (hK : va_K dd vwCl (tysW g) s) (hI : cI dd g ad pi A H0 H locs C) (j : Nat) (hj : j < 2) {x : Int32} (hx2 : x = nI j) (hdg : decode cc pc = .ok (.aaload, 1))
    (kk : W p l e R s m args below meth c H locs cells slots Q (F0 m (pc + 1) ls (.ref (ad (11 + 20 * (8 + j))) :: rest))) : W p l e R s m args below meth c H locs cells slots Q (F0 m pc ls (.int x :: .ref (ad 3) :: rest)) := by
  subst hx2
  have ej : (nI j).toNatClampNeg = j := nI_clamp (by omega)
  refine va_aldq (C := "WinderLadders$State") hx hb hK hI.1 3 4 (by rw [cW_get (by decide), cE_3]) rfl (vp_in_nI hj (by decide)) hdg ?_
  rw [ej]; exact kk
theorem c_astG (hx : p.tables.exec = Jvm.exec) (hb : c.code = cc) (hK : va_K dd vwCl (tysW g) s) (hA : cA A ad) (hI : cI dd g ad pi A H0 H locs C) (i : Nat) (hi : i < 212) {n : Nat} {f : Nat → Int32} (hE : cE ad g pi C i = .inl (g 0, n, .inl f)) (hn : n < 2 ^ 31) (j : Nat) (hj : j < n) {x y : Int32} (hx2 : x = nI j) (r b : Nat) (ho : own r b = i) (hE2 : cE ad g pi (mset C r b y) i = .inl (g 0, n, .inl (upd f j y))) (hdg : decode cc pc = .ok (.iastore, 1))
    (kk : ∀ (H1 : Heap) (locs1 : List Loc), cI dd g ad pi A H0 H1 locs1 (mset C r b y) → W p l e R s m args below meth c H1 locs1 cells slots Q (F0 m (pc + 1) ls rest)) : W p l e R s m args below meth c H locs cells slots Q (F0 m pc ls (.int y :: .int x :: .ref (ad i) :: rest)) := by
  subst hx2
  have ej : (nI j).toNatClampNeg = j := nI_clamp (by omega)
  refine va_iast hx hb hK hI.1 (hA.D g pi C) hI.2 i 0 (by rw [cW_get hi, hE]) rfl (vp_in_nI hj hn) hdg (fun H1 locs1 h1 _ h3 => ?_)
  rw [ej] at h1
  exact kk H1 locs1 ⟨cP_mset h1 hE2 ho, h3⟩
theorem c_astS (hx : p.tables.exec = Jvm.exec) (hb : c.code = cc) (hK : va_K dd vwCl (tysW g) s) (hA : cA A ad) (hI : cI dd g ad pi A H0 H locs C) (k : Nat) (hk : k < 10) (j : Nat) (hj : j < 4) {x y : Int32} (hx2 : x = nI j) (hdg : decode cc pc = .ok (.iastore, 1))
    (kk : ∀ (H1 : Heap) (locs1 : List Loc), cI dd g ad pi A H0 H1 locs1 (mset C k j y) → W p l e R s m args below meth c H1 locs1 cells slots Q (F0 m (pc + 1) ls rest)) : W p l e R s m args below meth c H locs cells slots Q (F0 m pc ls (.int y :: .int x :: .ref (ad (12 + 20 * k)) :: rest)) := by
  refine c_astG hx hb hK hA hI (12 + 20 * k) (by omega) cE_se (by decide) j hj hx2 k j (by rw [own_lo hk, if_pos hj]) ?_ hdg kk
  rw [cE_se]
  have e : (fun b => if b < 4 then mset C k j y k b else 0) = upd (fun b => if b < 4 then C k b else 0) j y := by
    funext b
    simp only [upd, mset]
    by_cases h1 : b = j
    · subst h1; simp [hj]
    · simp [h1]
  rw [e]
theorem c_astL (hx : p.tables.exec = Jvm.exec) (hb : c.code = cc) (hK : va_K dd vwCl (tysW g) s) (hA : cA A ad) (hI : cI dd g ad pi A H0 H locs C) (k : Nat) (hk : k < 10) (j : Nat) (hj : j < 4) {x y : Int32} (hx2 : x = nI j) (hdg : decode cc pc = .ok (.iastore, 1))
    (kk : ∀ (H1 : Heap) (locs1 : List Loc), cI dd g ad pi A H0 H1 locs1 (mset C k (8 + j) y) → W p l e R s m args below meth c H1 locs1 cells slots Q (F0 m (pc + 1) ls rest)) : W p l e R s m args below meth c H locs cells slots Q (F0 m pc ls (.int y :: .int x :: .ref (ad (14 + 20 * k)) :: rest)) := by
  refine c_astG hx hb hK hA hI (14 + 20 * k) (by omega) cE_la (by decide) j hj hx2 k (8 + j) (by rw [own_lo hk, if_neg (by omega), if_neg (by omega), if_pos (by omega)]) ?_ hdg kk
  rw [cE_la]
  have e : (fun b => if b < 4 then mset C k (8 + j) y k (8 + b) else 0) = upd (fun b => if b < 4 then C k (8 + b) else 0) j y := by
    funext b
    simp only [upd, mset]
    by_cases h1 : b = j
    · subst h1; simp [hj]
    · have : ¬ 8 + b = 8 + j := by omega
      simp [h1]
  rw [e]
/-- the numbers of a Row: b = 8, row 13; b = 10, row 14 -/
theorem c_astR (hx : p.tables.exec = Jvm.exec) (hb : c.code = cc) (hK : va_K dd vwCl (tysW g) s) (hA : cA A ad) (hI : cI dd g ad pi A H0 H locs C) (b r : Nat) (hbr : (b, r) ∈ [(8, 13), (10, 14)]) (j : Nat) (hj : j < 40) {x y : Int32} (hx2 : x = nI j) (hdg : decode cc pc = .ok (.iastore, 1))
    (kk : ∀ (H1 : Heap) (locs1 : List Loc), cI dd g ad pi A H0 H1 locs1 (mset C r j y) → W p l e R s m args below meth c H1 locs1 cells slots Q (F0 m (pc + 1) ls rest)) : W p l e R s m args below meth c H locs cells slots Q (F0 m pc ls (.int y :: .int x :: .ref (ad b) :: rest)) := by
  simp only [List.mem_cons, List.not_mem_nil, or_false, Prod.mk.injEq] at hbr
  rcases hbr with ⟨rfl, rfl⟩ | ⟨rfl, rfl⟩
  · exact c_astG hx hb hK hA hI 8 (by decide) cE_8 (by decide) j hj hx2 13 j rfl (by rw [cE_8, mset_row]) hdg kk
  · exact c_astG hx hb hK hA hI 10 (by decide) cE_10 (by decide) j hj hx2 14 j rfl (by rw [cE_10, mset_row]) hdg kk
/-- what lasts() tells of each clock: cell 211, row 15 -/
theorem c_astW (hx : p.tables.exec = Jvm.exec) (hb : c.code = cc) (hK : va_K dd vwCl (tysW g) s) (hA : cA A ad) (hI : cI dd g ad pi A H0 H locs C) (j : Nat) (hj : j < 16) {x y : Int32} (hx2 : x = nI j) (hdg : decode cc pc = .ok (.iastore, 1))
    (kk : ∀ (H1 : Heap) (locs1 : List Loc), cI dd g ad pi A H0 H1 locs1 (mset C 15 j y) → W p l e R s m args below meth c H1 locs1 cells slots Q (F0 m (pc + 1) ls rest)) : W p l e R s m args below meth c H locs cells slots Q (F0 m pc ls (.int y :: .int x :: .ref (ad 211) :: rest)) :=
  c_astG hx hb hK hA hI 211 (by decide) cE_211 (by decide) j hj hx2 15 j rfl (by rw [cE_211, mset_row]) hdg kk
theorem c_len (hx : p.tables.exec = Jvm.exec) (hb : c.code = cc) (hK : va_K dd vwCl (tysW g) s) (hI : cI dd g ad pi A H0 H locs C) (hdg : decode cc pc = .ok (.arraylength, 1))
    (kk : W p l e R s m args below meth c H locs cells slots Q (F0 m (pc + 1) ls (.int 16 :: rest))) : W p l e R s m args below meth c H locs cells slots Q (F0 m pc ls (.ref (ad 211) :: rest)) :=
  va_alen (v := 16) hx hb hK hI.1 211 0 (by rw [cW_get (by decide), cE_211]) rfl rfl hdg kk
theorem c_cst (hx : p.tables.exec = Jvm.exec) (hb : c.code = cc) (hK : va_K dd vwCl (tysW g) s) (hA : cA A ad) (hI : cI dd g ad pi A H0 H locs C) (j : Nat) (hj : j < 80) {x y : Int32} (hx2 : x = nI j) (hy : vp_nar .char y = y) (hdg : decode cc pc = .ok (.castore, 1))
    (kk : ∀ (H1 : Heap) (locs1 : List Loc), cI dd g ad pi A H0 H1 locs1 (mset C 12 j y) → W p l e R s m args below meth c H1 locs1 cells slots Q (F0 m (pc + 1) ls rest)) : W p l e R s m args below meth c H locs cells slots Q (F0 m pc ls (.int y :: .int x :: .ref (ad 6) :: rest)) := by
  subst hx2
  have ej : (nI j).toNatClampNeg = j := nI_clamp (by omega)
  refine va_cast hx hb hK hI.1 (hA.D g pi C) hI.2 6 1 (by rw [cW_get (by decide), cE_6]) rfl (vp_in_nI hj (by decide)) hdg (fun H1 locs1 h1 _ h3 => ?_)
  rw [ej, hy] at h1
  exact kk H1 locs1 ⟨cP_mset h1 (by rw [cE_6, mset_row]) rfl, h3⟩
theorem c_zst (hx : p.tables.exec = Jvm.exec) (hb : c.code = cc) (hK : va_K dd vwCl (tysW g) s) (hA : cA A ad) (hI : cI dd g ad pi A H0 H locs C) (j : Nat) (hj : j < 2) {x y : Int32} (hx2 : x = nI j) (hz : y = 0 ∨ y = 1) (hdg : decode cc pc = .ok (.bastore, 1))
    (kk : ∀ (H1 : Heap) (locs1 : List Loc), cI dd g ad pi A H0 H1 locs1 (mset C 11 j y) → W p l e R s m args below meth c H1 locs1 cells slots Q (F0 m (pc + 1) ls rest)) : W p l e R s m args below meth c H locs cells slots Q (F0 m pc ls (.int y :: .int x :: .ref (ad 4) :: rest)) := by
  subst hx2
  have ej : (nI j).toNatClampNeg = j := nI_clamp (by omega)
  have hn : vp_nar .boolean y = y := by rcases hz with rfl | rfl <;> rfl
  refine va_zast hx hb hK hI.1 (hA.D g pi C) hI.2 4 2 (by rw [cW_get (by decide), cE_4]) rfl (vp_in_nI hj (by decide)) hdg (fun H1 locs1 h1 _ h3 => ?_)
  rw [ej, hn] at h1
  exact kk H1 locs1 ⟨cP_mset h1 (by rw [cE_4, mset_row]) rfl, h3⟩
theorem cE_pi {ad : Nat → Nat} {g : Nat → ClassId} {pi pi' : Nat → Nat} {C : MS} {i : Nat} (h : i ≠ 2) : cE ad g pi' C i = cE ad g pi C i := by
  unfold cE
  by_cases h11 : i < 11
  · rcases (show i = 0 ∨ i = 1 ∨ i = 3 ∨ i = 4 ∨ i = 5 ∨ i = 6 ∨ i = 7 ∨ i = 8 ∨ i = 9 ∨ i = 10 by omega) with rfl | rfl | rfl | rfl | rfl | rfl | rfl | rfl | rfl | rfl <;> rfl
  · rw [if_neg h11, if_neg h11]
theorem c_astH (hx : p.tables.exec = Jvm.exec) (hb : c.code = cc) (hK : va_K dd vwCl (tysW g) s) (hA : cA A ad) (hI : cI dd g ad pi A H0 H locs C) (j : Nat) (hj : j < 7) {x : Int32} (hx2 : x = nI j) (k : Nat) (hk : k < 10) (hdg : decode cc pc = .ok (.aastore, 1))
    (kk : ∀ (H1 : Heap) (locs1 : List Loc), cI dd g ad (va_up pi j k) A H0 H1 locs1 C → W p l e R s m args below meth c H1 locs1 cells slots Q (F0 m (pc + 1) ls rest)) : W p l e R s m args below meth c H locs cells slots Q (F0 m pc ls (.ref (ad (11 + 20 * k)) :: .int x :: .ref (ad 2) :: rest)) := by
  subst hx2
  have ej : (nI j).toNatClampNeg = j := nI_clamp (by omega)
  refine va_astq (r := (RX4, TX4, 7)) hx hb hK hI.1 (hA.D g pi C) hI.2 2 4 (11 + 20 * k) 4 (by rw [cW_get (by decide), cE_2]) rfl (by rw [cW_get (by omega), cE_st]) rfl (vp_in_nI hj (by decide)) hdg (fun H1 locs1 h1 _ h3 => ?_)
  rw [ej] at h1
  refine kk H1 locs1 ⟨cP_set h1 ?_ (fun a _ hne => cE_pi hne), h3⟩
  rw [cE_2]
  have e : (fun b => some (ad (11 + 20 * va_up pi j k b))) = va_up (fun b => some (ad (11 + 20 * pi b))) j (some (ad (11 + 20 * k))) := by
    funext b; simp only [va_up]; split <;> rfl
  rw [e]
/-! returns -/
theorem c_iret {v : Int32} {post : Int32 → MS → (Nat → Nat) → Prop} (hx : p.tables.exec = Jvm.exec) (hb : c.code = cc) (hr : meth.sig.returnType = some .int) (hI : cI dd g ad pi A s.heap H locs C) (hp : post v C pi) (hdg : decode cc pc = .ok (.ireturn, 1)) (hlocks : meth.locks = false) : W p l e R s m args below meth c H locs cells slots (MQ below (cQi dd g ad A post) args s cells slots A) (F0 m pc ls [.int v]) :=
  W.iret (v := v) hx hb hr (fun t ht hW => ⟨⟨v, (C, pi), rfl, hp, by show cP dd g ad pi t.heap C; rw [ht]; exact hI.1⟩, hI.2.F ht⟩) hI.2.2.2 hdg hlocks
theorem c_zret {v : Int32} {ty : FieldType} {post : Int32 → MS → (Nat → Nat) → Prop} (hx : p.tables.exec = Jvm.exec) (hb : c.code = cc) (hr : meth.sig.returnType = some ty) (hn : narrow ty (.int v) = .int v) (hI : cI dd g ad pi A s.heap H locs C) (hp : post v C pi) (hdg : decode cc pc = .ok (.ireturn, 1)) (hlocks : meth.locks = false) : W p l e R s m args below meth c H locs cells slots (MQ below (cQi dd g ad A post) args s cells slots A) (F0 m pc ls [.int v]) :=
  W.zret (v := v) hx hb hr hn (fun t ht hW => ⟨⟨v, (C, pi), rfl, hp, by show cP dd g ad pi t.heap C; rw [ht]; exact hI.1⟩, hI.2.F ht⟩) hI.2.2.2 hdg hlocks
theorem c_vret {post : MS → (Nat → Nat) → Prop} (hx : p.tables.exec = Jvm.exec) (hb : c.code = cc) (hr : meth.sig.returnType = none) (hI : cI dd g ad pi A s.heap H locs C) (hp : post C pi) (hdg : decode cc pc = .ok (.return_, 1)) (hlocks : meth.locks = false) : W p l e R s m args below meth c H locs cells slots (MQ below (cQv dd g ad A post) args s cells slots A) (F0 m pc ls []) :=
  W.vret hx hb hr (fun t ht hW => ⟨⟨(C, pi), rfl, hp, by show cP dd g ad pi t.heap C; rw [ht]; exact hI.1⟩, hI.2.F ht⟩) hI.2.2.2 hdg hlocks
/-! calls -/
variable {nL index n maxL : Nat} {y : MethodName} {bytes : ByteArray} {ret : Option FieldType} {ws : List Cond} {rm : Room} {As : List Value} {lv : List (Nat × Value)}
theorem c_calli (hx : p.tables.exec = Jvm.exec) (hb : c.code = cc) (hml : c.maxLocals = nL) (hown : s.vm.findClass own0 = some m.cls) (hts : ∀ w ∈ Ts, w.before args s = true) (hK : va_K dd vwCl (tysW g) s) (hX : cX A s) (hI : cI dd g ad pi A s.heap H locs C) (i : Nat) (hi : i < 212) {ci : Nat} {fs : List Value} (hE : cE ad g pi C i = .inr (ci, fs)) {Cn : String} {T : u_T} {N : Nat} (hc : vwCl[ci]? = some (Cn, T, N)) {post : Int32 → MS → (Nat → Nat) → Prop} (hM : Met l y ws rm (cPre dd g ad pi A C (.ref (ad i) :: As)) (cQi dd g ad A post) 0 0 A) (cw : CallW R s args own0 Cn index y bytes maxL ret ws rm 0 0 n) (hn : As.length = n) (hl : lv_has ls nL lv) (hr : (rest.map fun v => v.category).sum ≤ 8) (hcs : cells ≤ R.cells ∧ slots ≤ R.slots) (hdg : decode cc pc = .ok (.invokevirtual index, 3)) {st : List Value} (hst : st = As.reverse ++ .ref (ad i) :: rest)
    (kk : ∀ (r : Int32) (C1 : MS) (pi1 : Nat → Nat) (H1 : Heap) (locs1 : List Loc), post r C1 pi1 → cI dd g ad pi1 A s.heap H1 locs1 C1 → W p l e R s m args below meth c H1 locs1 cells slots Q (F0 m (pc + 3) ls (.int r :: rest))) : W p l e R s m args below meth c H locs cells slots Q (F0 m pc ls st) := by
  have he : (cW g ad pi C)[i]? = some (ad i, .inr (ci, fs)) := by rw [cW_get hi, hE]
  refine va_calli (va_runV (As := As) (rest := rest) ⟨hx, hb, hml, hown, hts⟩ hM cw ⟨cPre_blind dd g ad pi A C _, va_recv hK hI.1 hc he, fun U hU hW => ⟨rfl, by rw [hU]; exact hI.1, va_K.moved hW.alike hK, hX.moved hI.2 hU hW⟩⟩ rfl hn hl.1 hst (lv_room hr) hdg hcs) hI.2 (fun _ _ h => h) (fun _ h => h) (fun r u t H1 locs1 ht _ hp hB _ _ hS => ?_)
  exact kk r u.1 u.2 H1 locs1 hp ⟨by rw [← ht]; exact hB, hS⟩
theorem c_callv (hx : p.tables.exec = Jvm.exec) (hb : c.code = cc) (hml : c.maxLocals = nL) (hown : s.vm.findClass own0 = some m.cls) (hts : ∀ w ∈ Ts, w.before args s = true) (hK : va_K dd vwCl (tysW g) s) (hX : cX A s) (hI : cI dd g ad pi A s.heap H locs C) (i : Nat) (hi : i < 212) {ci : Nat} {fs : List Value} (hE : cE ad g pi C i = .inr (ci, fs)) {Cn : String} {T : u_T} {N : Nat} (hc : vwCl[ci]? = some (Cn, T, N)) {post : MS → (Nat → Nat) → Prop} (hM : Met l y ws rm (cPre dd g ad pi A C (.ref (ad i) :: As)) (cQv dd g ad A post) 0 0 A) (cw : CallW R s args own0 Cn index y bytes maxL ret ws rm 0 0 n) (hn : As.length = n) (hl : lv_has ls nL lv) (hr : (rest.map fun v => v.category).sum ≤ 8) (hcs : cells ≤ R.cells ∧ slots ≤ R.slots) (hdg : decode cc pc = .ok (.invokevirtual index, 3)) {st : List Value} (hst : st = As.reverse ++ .ref (ad i) :: rest)
    (kk : ∀ (C1 : MS) (pi1 : Nat → Nat) (H1 : Heap) (locs1 : List Loc), post C1 pi1 → cI dd g ad pi1 A s.heap H1 locs1 C1 → W p l e R s m args below meth c H1 locs1 cells slots Q (F0 m (pc + 3) ls rest)) : W p l e R s m args below meth c H locs cells slots Q (F0 m pc ls st) := by
  have he : (cW g ad pi C)[i]? = some (ad i, .inr (ci, fs)) := by rw [cW_get hi, hE]
  refine va_callv (va_runV (As := As) (rest := rest) ⟨hx, hb, hml, hown, hts⟩ hM cw ⟨cPre_blind dd g ad pi A C _, va_recv hK hI.1 hc he, fun U hU hW => ⟨rfl, by rw [hU]; exact hI.1, va_K.moved hW.alike hK, hX.moved hI.2 hU hW⟩⟩ rfl hn hl.1 hst (lv_room hr) hdg hcs) hI.2 (fun _ _ h => h) (fun _ h => h) (fun u t H1 locs1 ht _ hp hB _ _ hS => ?_)
  exact kk u.1 u.2 H1 locs1 hp ⟨by rw [← ht]; exact hB, hS⟩
theorem c_kept (hI : cI dd g ad pi A H0 H locs C) {H1 : Heap} {locs1 : List Loc} (hk : ∀ q : Nat, q < H.size → H1[q]? = H[q]?) (hS : va_S A H0 H1 locs1) : cI dd g ad pi A H0 H1 locs1 C := ⟨hI.1.kept (fun k x hx => hk x.1 (hI.1 k x hx).lt), hS⟩
theorem c_calls (hx : p.tables.exec = Jvm.exec) (hb : c.code = cc) (hml : c.maxLocals = nL) (hown : s.vm.findClass own0 = some m.cls) (hts : ∀ w ∈ Ts, w.before args s = true) (hI : cI dd g ad pi A H0 H locs C) {post : Int32 → Prop} (hM : Met l y ws rm (sPre As) (sQi post) 0 0 (fun _ => False)) (cw : CallB R s args own0 index y bytes maxL ret ws rm 0 0 n ∧ (Cond.static y).before args s = true) (hn : As.length = n) (hl : lv_has ls nL lv) (hr : (rest.map fun v => v.category).sum ≤ 8) (hcs : cells ≤ R.cells ∧ slots ≤ R.slots) (hdg : decode cc pc = .ok (.invokestatic index, 3)) {st : List Value} (hst : st = As.reverse ++ rest)
    (kk : ∀ (r : Int32) (H1 : Heap) (locs1 : List Loc), post r → cI dd g ad pi A H0 H1 locs1 C → W p l e R s m args below meth c H1 locs1 cells slots Q (F0 m (pc + 3) ls (.int r :: rest))) : W p l e R s m args below meth c H locs cells slots Q (F0 m pc ls st) :=
  s_calli hx hb hml hown hts hI.2 hM cw hn hl hr hcs hdg hst (fun r H1 locs1 hp hk hS => kk r H1 locs1 hp (c_kept hI hk hS))
/-- a nest mate's private static function of numbers -/
theorem c_calln (hx : p.tables.exec = Jvm.exec) (hb : c.code = cc) (hml : c.maxLocals = nL) (hown : s.vm.findClass own0 = some m.cls) (hts : ∀ w ∈ Ts, w.before args s = true) (hI : cI dd g ad pi A H0 H locs C) {post : Int32 → Prop} {host : String} (hM : Met l y ws rm (sPre As) (sQi post) 0 0 (fun _ => False)) (cw : va_CN R s args own0 index y host bytes maxL ret ws rm 0 0 n ∧ (Cond.static y).before args s = true ∧ True) (hn : As.length = n) (hl : lv_has ls nL lv) (hr : (rest.map fun v => v.category).sum ≤ 8) (hcs : cells ≤ R.cells ∧ slots ≤ R.slots) (hdg : decode cc pc = .ok (.invokestatic index, 3)) {st : List Value} (hst : st = As.reverse ++ rest)
    (kk : ∀ (r : Int32) (H1 : Heap) (locs1 : List Loc), post r → cI dd g ad pi A H0 H1 locs1 C → W p l e R s m args below meth c H1 locs1 cells slots Q (F0 m (pc + 3) ls (.int r :: rest))) : W p l e R s m args below meth c H locs cells slots Q (F0 m pc ls st) := by
  refine va_calli (va_runSN (As := As) (rest := rest) ⟨hx, hb, hml, hown, hts⟩ hM cw ⟨sPre_blind _, fun U hU hW => ⟨rfl, trivial⟩⟩ rfl hn hl.1 hst (lv_room hr) hdg hcs) hI.2 (fun _ _ h => h.elim) (fun _ h => h.elim) (fun r u t H1 locs1 ht _ hp hB _ hk hS => ?_)
  exact kk r H1 locs1 hp (c_kept hI (fun q h => hk q h (fun z => z)) hS)
end CR
