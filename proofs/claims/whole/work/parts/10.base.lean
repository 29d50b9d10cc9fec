abbrev vwCl : List vw_C := [(RX0, TX0, 8), (RX1, TX1, 2), (RX2, TX2, 5), (RX3, TX3, 2), (RX4, TX4, 7), (RX5, TX5, 7), (RX6, TX6, 17)]
/-! the worlds: the model's nine cells by one table of numbers M (M k j: the k-th field, place j) -/
abbrev MS : Type := Nat → Nat → Int32
def mset (M : MS) (k j : Nat) (x : Int32) : MS := fun a b => if a = k ∧ b = j then x else M a b
theorem mset_row (M : MS) (k j : Nat) (x : Int32) : mset M k j x k = upd (M k) j x := by
  funext b; simp [mset, upd]
theorem mset_ne (M : MS) {k a : Nat} (h : a ≠ k) (j : Nat) (x : Int32) : mset M k j x a = M a := by
  funext b; simp [mset, h]
theorem mset_eq (M : MS) (k j : Nat) (x : Int32) : mset M k j x k j = x := by simp [mset]
theorem mset_nj (M : MS) {k j b : Nat} (h : b ≠ j) (x : Int32) (a : Nat) : mset M k j x a b = M a b := by simp [mset, h]
theorem mset_nk (M : MS) {k a : Nat} (h : a ≠ k) (j b : Nat) (x : Int32) : mset M k j x a b = M a b := by simp [mset, h]
abbrev tysW (g : Nat → ClassId) : List (ClassId × FieldType) := [(g 0, .int), (g 1, .char), (g 2, .boolean), (g 3, .object "WinderLadders$Clock"), (g 4, .object "WinderLadders$State")]
def mFs (q : Nat → Nat) (M : MS) : List Value := [.ref (q 1), .ref (q 2), .ref (q 3), .int (M 3 0), .ref (q 4), .ref (q 5), .ref (q 6), .int (M 7 0), .ref (q 7), .int (M 9 0), .ref (q 8), .int (M 11 0), .int (M 12 0), .int (M 13 0), .int (M 14 0), .int (M 15 0), .int (M 16 0)]
def mW (g : Nat → ClassId) (q : Nat → Nat) (M : MS) : va_W := [(q 0, .inr (6, mFs q M)), (q 1, .inl (g 0, 140, .inl (M 0))), (q 2, .inl (g 0, 140, .inl (M 1))), (q 3, .inl (g 0, 840, .inl (M 2))), (q 4, .inl (g 0, 280, .inl (M 4))), (q 5, .inl (g 2, 2, .inl (M 5))), (q 6, .inl (g 0, 80, .inl (M 6))), (q 7, .inl (g 0, 80, .inl (M 8))), (q 8, .inl (g 0, 16, .inl (M 10)))]
theorem arrV_congr (cA : ClassId) {N : Nat} {f h : Nat → Value} (e : ∀ j, j < N → f j = h j) : arrV cA N f = arrV cA N h := by
  unfold arrV
  rw [show (fun j : Fin N => f j.val) = (fun j : Fin N => h j.val) from funext fun j => e j.val j.isLt]
/-- an array's place in the world, its length, its kind, by its field -/
def mAr (k : Nat) : Nat := match k with | 0 => 1 | 1 => 2 | 2 => 3 | 4 => 4 | 5 => 5 | 6 => 6 | 8 => 7 | _ => 8
def mLen (k : Nat) : Nat := match k with | 0 => 140 | 1 => 140 | 2 => 840 | 4 => 280 | 5 => 2 | 6 => 80 | 8 => 80 | _ => 16
def mP (dd : va_G) (g : Nat → ClassId) (q : Nat → Nat) (H : Heap) (M : MS) : Prop := va_P dd vwCl (mW g q M) H
/-- the model's cells are apart, and of the kind A -/
def mA (A : Nat → Prop) (q : Nat → Nat) : Prop := (∀ i j : Nat, i < 9 → j < 9 → q i = q j → i = j) ∧ ∀ i : Nat, i < 9 → A (q i)
theorem mW_at (g : Nat → ClassId) (q : Nat → Nat) (M : MS) {i : Nat} {x : Nat × va_E} (h : (mW g q M)[i]? = some x) : i < 9 ∧ x.1 = q i := by
  have hi : i < 9 := (List.getElem?_eq_some_iff.mp h).1
  refine ⟨hi, ?_⟩
  rcases (show i = 0 ∨ i = 1 ∨ i = 2 ∨ i = 3 ∨ i = 4 ∨ i = 5 ∨ i = 6 ∨ i = 7 ∨ i = 8 by omega) with rfl | rfl | rfl | rfl | rfl | rfl | rfl | rfl | rfl <;> (cases h; rfl)
theorem mA.D {A : Nat → Prop} {q : Nat → Nat} (h : mA A q) (g : Nat → ClassId) (M : MS) : va_D A (mW g q M) := by
  refine ⟨fun i j x y hx hy e => ?_, fun k x hx => ?_⟩
  · obtain ⟨hi, ei⟩ := mW_at g q M hx
    obtain ⟨hj, ej⟩ := mW_at g q M hy
    exact h.1 i j hi hj (by rw [← ei, ← ej]; exact e)
  · obtain ⟨hi, ei⟩ := mW_at g q M hx
    rw [ei]; exact h.2 k hi
theorem mP_cell {dd : va_G} {g : Nat → ClassId} {q : Nat → Nat} {H : Heap} {M N : MS} (h : mP dd g q H M) (e : ∀ k, k < 17 → ∀ j, j < mLen k → M k j = N k j) (e0 : ∀ k, k < 17 → M k 0 = N k 0) : mP dd g q H N := by
  have hF : mFs q M = mFs q N := by
    simp only [mFs, e0 3 (by decide), e0 7 (by decide), e0 9 (by decide), e0 11 (by decide), e0 12 (by decide), e0 13 (by decide), e0 14 (by decide), e0 15 (by decide), e0 16 (by decide)]
  have hA : ∀ (k n : Nat) (cA : ClassId), k < 17 → n = mLen k → vp_cell cA (n, .inl (M k)) = vp_cell cA (n, .inl (N k)) := by
    intro k n cA hk hn
    rw [vp_cell_i, vp_cell_i]
    subst hn
    exact arrV_congr cA (fun j hj => by rw [e k hk j hj])
  intro i x hx
  have hi := (mW_at g q N hx).1
  have h2 := fun y hy => h i y hy
  rcases (show i = 0 ∨ i = 1 ∨ i = 2 ∨ i = 3 ∨ i = 4 ∨ i = 5 ∨ i = 6 ∨ i = 7 ∨ i = 8 by omega) with rfl | rfl | rfl | rfl | rfl | rfl | rfl | rfl | rfl <;> cases hx
  · have := h2 _ rfl
    rw [hF] at this
    exact this
  · exact (h2 _ rfl).trans (congrArg some (hA 0 _ _ (by decide) rfl))
  · exact (h2 _ rfl).trans (congrArg some (hA 1 _ _ (by decide) rfl))
  · exact (h2 _ rfl).trans (congrArg some (hA 2 _ _ (by decide) rfl))
  · exact (h2 _ rfl).trans (congrArg some (hA 4 _ _ (by decide) rfl))
  · exact (h2 _ rfl).trans (congrArg some (hA 5 _ _ (by decide) rfl))
  · exact (h2 _ rfl).trans (congrArg some (hA 6 _ _ (by decide) rfl))
  · exact (h2 _ rfl).trans (congrArg some (hA 8 _ _ (by decide) rfl))
  · exact (h2 _ rfl).trans (congrArg some (hA 10 _ _ (by decide) rfl))
theorem mW_put (g : Nat → ClassId) (q : Nat → Nat) (M : MS) (k : Nat) (hk : k ∈ [3, 7, 9, 11, 12, 13, 14, 15, 16]) (x : Int32) : (mW g q M).set 0 (q 0, .inr (6, (mFs q M).set k (.int x))) = mW g q (mset M k 0 x) := by
  simp only [List.mem_cons, List.not_mem_nil, or_false] at hk
  rcases hk with rfl | rfl | rfl | rfl | rfl | rfl | rfl | rfl | rfl <;> simp [mW, mFs, mset, mset_ne]
theorem mW_ast (g : Nat → ClassId) (q : Nat → Nat) (M : MS) (k : Nat) (hk : k ∈ [0, 1, 2, 4, 6, 8, 10]) (j : Nat) (x : Int32) : (mW g q M).set (mAr k) (q (mAr k), .inl (g 0, mLen k, .inl (upd (M k) j x))) = mW g q (mset M k j x) := by
  simp only [List.mem_cons, List.not_mem_nil, or_false] at hk
  rcases hk with rfl | rfl | rfl | rfl | rfl | rfl | rfl <;> simp [mW, mFs, mAr, mLen, mset_row, mset_ne, mset_nk]
theorem mW_zst (g : Nat → ClassId) (q : Nat → Nat) (M : MS) (j : Nat) (x : Int32) : (mW g q M).set 5 (q 5, .inl (g 2, 2, .inl (upd (M 5) j x))) = mW g q (mset M 5 j x) := by
  simp [mW, mFs, mset_row, mset_ne, mset_nk]
theorem mFs_len (q : Nat → Nat) (M : MS) : (mFs q M).length = 17 := rfl
/-- the walk's world: the picture, and what hasn't changed -/
def mI (dd : va_G) (g : Nat → ClassId) (q : Nat → Nat) (A : Nat → Prop) (H0 H : Heap) (locs : List Loc) (M : MS) : Prop := mP dd g q H M ∧ va_S A H0 H locs
def mPre (dd : va_G) (g : Nat → ClassId) (q : Nat → Nat) (M : MS) (av : List Value) : Array Value → State → Prop := va_Pc av (fun U => mP dd g q U.heap M ∧ va_K dd vwCl (tysW g) U)
def mQi (dd : va_G) (g : Nat → ClassId) (q : Nat → Nat) (A : Nat → Prop) (post : Int32 → MS → Prop) : Array Value → State → Outcome → State → Prop := va_Qi post (fun M' t => mP dd g q t.heap M') A
def mQv (dd : va_G) (g : Nat → ClassId) (q : Nat → Nat) (A : Nat → Prop) (post : MS → Prop) : Array Value → State → Outcome → State → Prop := va_Qv post (fun M' t => mP dd g q t.heap M') A
/-- a function of numbers: it reads and writes no cell -/
def sPre (av : List Value) : Array Value → State → Prop := va_Pc av (fun _ => True)
def sQi (post : Int32 → Prop) : Array Value → State → Outcome → State → Prop := va_Qi (fun r (_ : Unit) => post r) (fun _ _ => True) (fun _ => False)
theorem mPre_blind (dd : va_G) (g : Nat → ClassId) (q : Nat → Nat) (M : MS) (av : List Value) : FrameBlind (mPre dd g q M av) := fun a U gg mk h => by
  obtain ⟨h0, hP, hK⟩ := h
  exact ⟨h0, hP, va_K.moved (u := U) (U := U.calling gg mk a) (Vm.Alike.refl U.vm) hK⟩
theorem sPre_blind (av : List Value) : FrameBlind (sPre av) := fun a U gg mk h => ⟨h.1, trivial⟩
section MR
variable {p : Program} {l : Launch} {e : Env} {R : Room} {s : State} {m : MethodId} {args : Array Value} {below : List Frame} {meth : Method} {c : Code} {H : Heap} {locs : List Loc} {cells slots : Nat} {Q : State → Prop}
variable {cc : ByteArray} {pc : Nat} {ls : Array Slot} {rest : List Value} {dd : va_G} {g : Nat → ClassId} {A : Nat → Prop} {q : Nat → Nat} {M : MS} {H0 : Heap} {own : String} {Ts : List Cond}
theorem m_get (hx : p.tables.exec = Jvm.exec) (hb : c.code = cc) {index : Nat} (hts : ∀ w ∈ Ts, w.before args s = true) (hin : ∀ w ∈ wsX60, w ∈ Ts) (hown : s.vm.findClass own = some m.cls) (hK : va_K dd vwCl (tysW g) s) (hI : mI dd g q A H0 H locs M) (k : Nat) (hk : k < 17) (hlink : (Cond.fieldLink own index (TX6 k).1 (TX6 k).2.1 (TX6 k).2.2.1).before args s = true) {v : Value} (hv : (mFs q M)[k]? = some v) (hdg : decode cc pc = .ok (.getfield index, 3))
    (kk : W p l e R s m args below meth c H locs cells slots Q (F0 m (pc + 3) ls (v :: rest))) : W p l e R s m args below meth c H locs cells slots Q (F0 m pc ls (.ref (q 0) :: rest)) :=
  va_get (C := RX6) (T := TX6) (N := 17) hx hb hts hin hown hK hI.1 0 (ci := 6) (fs := mFs q M) rfl rfl k hk hlink (fun _ h => h) hv hdg kk
theorem m_put (hx : p.tables.exec = Jvm.exec) (hb : c.code = cc) {index : Nat} (hts : ∀ w ∈ Ts, w.before args s = true) (hin : ∀ w ∈ wsX60, w ∈ Ts) (hown : s.vm.findClass own = some m.cls) (hK : va_K dd vwCl (tysW g) s) (hA : mA A q) (hI : mI dd g q A H0 H locs M) (k : Nat) (hk : k ∈ [3, 7, 9, 11, 12, 13, 14, 15, 16]) (hlink : (Cond.fieldLink own index (TX6 k).1 (TX6 k).2.1 (TX6 k).2.2.1).before args s = true) {x : Int32} (hz : k = 12 → x = 0 ∨ x = 1) (hdg : decode cc pc = .ok (.putfield index, 3))
    (kk : ∀ (H1 : Heap) (locs1 : List Loc), mI dd g q A H0 H1 locs1 (mset M k 0 x) → W p l e R s m args below meth c H1 locs1 cells slots Q (F0 m (pc + 3) ls rest)) : W p l e R s m args below meth c H locs cells slots Q (F0 m pc ls (.int x :: .ref (q 0) :: rest)) := by
  have key : ∀ (ty : FieldType), parseFieldDescriptor (TX6 k).2.2.1 = some ty → narrow ty (.int x) = .int x → fits ty (.int x) = true → (TX6 k).2.2.2 = false → k < 17 → W p l e R s m args below meth c H locs cells slots Q (F0 m pc ls (.int x :: .ref (q 0) :: rest)) := by
    intro ty hd hn hf hfin hk17
    refine va_put (C := RX6) (T := TX6) (N := 17) (v := .int x) (ty := ty) hx hb hts hin tyX6 tyX6_ok nmX6 hown hK hI.1 (hA.D g M) hI.2 0 (ci := 6) (fs := mFs q M) rfl rfl k hk17 hlink (fun _ h => h) hfin hd hn hf hk17 hdg (fun H1 locs1 h1 _ h3 => ?_)
    rw [mW_put g q M k hk x] at h1
    exact kk H1 locs1 ⟨h1, h3⟩
  simp only [List.mem_cons, List.not_mem_nil, or_false] at hk
  rcases hk with rfl | rfl | rfl | rfl | rfl | rfl | rfl | rfl | rfl
  · exact key .int (by decide +kernel) rfl rfl rfl (by decide)
  · exact key .int (by decide +kernel) rfl rfl rfl (by decide)
  · exact key .int (by decide +kernel) rfl rfl rfl (by decide)
  · exact key .int (by decide +kernel) rfl rfl rfl (by decide)
  · rcases hz rfl with rfl | rfl
    · exact key .boolean (by decide +kernel) rfl rfl rfl (by decide)
    · exact key .boolean (by decide +kernel) rfl rfl rfl (by decide)
  · exact key .int (by decide +kernel) rfl rfl rfl (by decide)
  · exact key .int (by decide +kernel) rfl rfl rfl (by decide)
  · exact key .int (by decide +kernel) rfl rfl rfl (by decide)
  · exact key .int (by decide +kernel) rfl rfl rfl (by decide)
theorem mLen_le (k : Nat) : mLen k ≤ 840 := by unfold mLen; split <;> decide
theorem m_ald (hx : p.tables.exec = Jvm.exec) (hb : c.code = cc) (hK : va_K dd vwCl (tysW g) s) (hI : mI dd g q A H0 H locs M) (k : Nat) (hk : k ∈ [0, 1, 2, 4, 6, 8, 10]) (j : Nat) (hj : j < mLen k) {i : Int32} (hi : i = nI j) {v : Int32} (hv : M k j = v) (hdg : decode cc pc = .ok (.iaload, 1))
    (kk : W p l e R s m args below meth c H locs cells slots Q (F0 m (pc + 1) ls (.int v :: rest))) : W p l e R s m args below meth c H locs cells slots Q (F0 m pc ls (.int i :: .ref (q (mAr k)) :: rest)) := by
  subst hi; subst hv
  have hl := mLen_le k
  have ej : (nI j).toNatClampNeg = j := nI_clamp (by omega)
  have hin := vp_in_nI hj (by omega)
  rw [← ej] at kk
  simp only [List.mem_cons, List.not_mem_nil, or_false] at hk
  rcases hk with rfl | rfl | rfl | rfl | rfl | rfl | rfl
  · exact va_iald hx hb hK hI.1 1 0 rfl rfl hin hdg kk
  · exact va_iald hx hb hK hI.1 2 0 rfl rfl hin hdg kk
  · exact va_iald hx hb hK hI.1 3 0 rfl rfl hin hdg kk
  · exact va_iald hx hb hK hI.1 4 0 rfl rfl hin hdg kk
  · exact va_iald hx hb hK hI.1 6 0 rfl rfl hin hdg kk
  · exact va_iald hx hb hK hI.1 7 0 rfl rfl hin hdg kk
  · exact va_iald hx hb hK hI.1 8 0 rfl rfl hin hdg kk
theorem m_zld (hx : p.tables.exec = Jvm.exec) (hb : c.code = cc) (hK : va_K dd vwCl (tysW g) s) (hI : mI dd g q A H0 H locs M) (j : Nat) (hj : j < 2) {i : Int32} (hi : i = nI j) {v : Int32} (hv : M 5 j = v) (hdg : decode cc pc = .ok (.baload, 1))
    (kk : W p l e R s m args below meth c H locs cells slots Q (F0 m (pc + 1) ls (.int v :: rest))) : W p l e R s m args below meth c H locs cells slots Q (F0 m pc ls (.int i :: .ref (q 5) :: rest)) := by
  subst hi; subst hv
  have ej : (nI j).toNatClampNeg = j := nI_clamp (by omega)
  have hin := vp_in_nI hj (by omega)
  rw [← ej] at kk
  exact va_zald hx hb hK hI.1 5 2 rfl rfl hin hdg kk
theorem m_ast (hx : p.tables.exec = Jvm.exec) (hb : c.code = cc) (hK : va_K dd vwCl (tysW g) s) (hA : mA A q) (hI : mI dd g q A H0 H locs M) (k : Nat) (hk : k ∈ [0, 1, 2, 4, 6, 8, 10]) (j : Nat) (hj : j < mLen k) {i x : Int32} (hi : i = nI j) (hdg : decode cc pc = .ok (.iastore, 1))
    (kk : ∀ (H1 : Heap) (locs1 : List Loc), mI dd g q A H0 H1 locs1 (mset M k j x) → W p l e R s m args below meth c H1 locs1 cells slots Q (F0 m (pc + 1) ls rest)) : W p l e R s m args below meth c H locs cells slots Q (F0 m pc ls (.int x :: .int i :: .ref (q (mAr k)) :: rest)) := by
  subst hi
  have hl := mLen_le k
  have ej : (nI j).toNatClampNeg = j := nI_clamp (by omega)
  have hin := vp_in_nI hj (by omega)
  have fin : ∀ (H1 : Heap) (locs1 : List Loc), va_P dd vwCl ((mW g q M).set (mAr k) (q (mAr k), .inl (g 0, mLen k, .inl (upd (M k) (nI j).toNatClampNeg x)))) H1 → va_S A H0 H1 locs1 → W p l e R s m args below meth c H1 locs1 cells slots Q (F0 m (pc + 1) ls rest) := by
    intro H1 locs1 h1 h3
    rw [ej, mW_ast g q M k hk j x] at h1
    exact kk H1 locs1 ⟨h1, h3⟩
  simp only [List.mem_cons, List.not_mem_nil, or_false] at hk
  rcases hk with rfl | rfl | rfl | rfl | rfl | rfl | rfl
  · exact va_iast hx hb hK hI.1 (hA.D g M) hI.2 1 0 rfl rfl hin hdg (fun H1 locs1 h1 _ h3 => fin H1 locs1 h1 h3)
  · exact va_iast hx hb hK hI.1 (hA.D g M) hI.2 2 0 rfl rfl hin hdg (fun H1 locs1 h1 _ h3 => fin H1 locs1 h1 h3)
  · exact va_iast hx hb hK hI.1 (hA.D g M) hI.2 3 0 rfl rfl hin hdg (fun H1 locs1 h1 _ h3 => fin H1 locs1 h1 h3)
  · exact va_iast hx hb hK hI.1 (hA.D g M) hI.2 4 0 rfl rfl hin hdg (fun H1 locs1 h1 _ h3 => fin H1 locs1 h1 h3)
  · exact va_iast hx hb hK hI.1 (hA.D g M) hI.2 6 0 rfl rfl hin hdg (fun H1 locs1 h1 _ h3 => fin H1 locs1 h1 h3)
  · exact va_iast hx hb hK hI.1 (hA.D g M) hI.2 7 0 rfl rfl hin hdg (fun H1 locs1 h1 _ h3 => fin H1 locs1 h1 h3)
  · exact va_iast hx hb hK hI.1 (hA.D g M) hI.2 8 0 rfl rfl hin hdg (fun H1 locs1 h1 _ h3 => fin H1 locs1 h1 h3)
theorem m_zst (hx : p.tables.exec = Jvm.exec) (hb : c.code = cc) (hK : va_K dd vwCl (tysW g) s) (hA : mA A q) (hI : mI dd g q A H0 H locs M) (j : Nat) (hj : j < 2) {i x : Int32} (hi : i = nI j) (hz : x = 0 ∨ x = 1) (hdg : decode cc pc = .ok (.bastore, 1))
    (kk : ∀ (H1 : Heap) (locs1 : List Loc), mI dd g q A H0 H1 locs1 (mset M 5 j x) → W p l e R s m args below meth c H1 locs1 cells slots Q (F0 m (pc + 1) ls rest)) : W p l e R s m args below meth c H locs cells slots Q (F0 m pc ls (.int x :: .int i :: .ref (q 5) :: rest)) := by
  subst hi
  have ej : (nI j).toNatClampNeg = j := nI_clamp (by omega)
  have hin := vp_in_nI hj (by omega)
  have hn : vp_nar .boolean x = x := by rcases hz with rfl | rfl <;> rfl
  refine va_zast hx hb hK hI.1 (hA.D g M) hI.2 5 2 rfl rfl hin hdg (fun H1 locs1 h1 _ h3 => ?_)
  rw [ej, hn, mW_zst g q M j x] at h1
  exact kk H1 locs1 ⟨h1, h3⟩
variable {nL index n maxL : Nat} {y : MethodName} {bytes : ByteArray} {ret : Option FieldType} {ws : List Cond} {rm : Room} {As : List Value} {lv : List (Nat × Value)}
theorem m_calli (hx : p.tables.exec = Jvm.exec) (hb : c.code = cc) (hml : c.maxLocals = nL) (hown : s.vm.findClass own = some m.cls) (hts : ∀ w ∈ Ts, w.before args s = true) (hK : va_K dd vwCl (tysW g) s) (hI : mI dd g q A H0 H locs M) {post : Int32 → MS → Prop} (hM : Met l y ws rm (mPre dd g q M (.ref (q 0) :: As)) (mQi dd g q A post) 0 0 A) (cw : CallW R s args own RX6 index y bytes maxL ret ws rm 0 0 n) (hn : As.length = n) (hl : lv_has ls nL lv) (hr : (rest.map fun v => v.category).sum ≤ 8) (hc : cells ≤ R.cells ∧ slots ≤ R.slots) (hdg : decode cc pc = .ok (.invokevirtual index, 3)) {st : List Value} (hst : st = As.reverse ++ .ref (q 0) :: rest)
    (kk : ∀ (r : Int32) (M' : MS) (H1 : Heap) (locs1 : List Loc), post r M' → mI dd g q A H0 H1 locs1 M' → W p l e R s m args below meth c H1 locs1 cells slots Q (F0 m (pc + 3) ls (.int r :: rest))) : W p l e R s m args below meth c H locs cells slots Q (F0 m pc ls st) := by
  refine va_calli (va_runV (As := As) (rest := rest) ⟨hx, hb, hml, hown, hts⟩ hM cw ⟨mPre_blind dd g q M _, va_recv hK hI.1 (ci := 6) (q0 := 0) rfl rfl, fun U hU hW => ⟨rfl, by rw [hU]; exact hI.1, va_K.moved hW.alike hK⟩⟩ rfl hn hl.1 hst (lv_room hr) hdg hc) hI.2 (fun _ _ h => h) (fun _ h => h) (fun r u t H1 locs1 ht _ hp hB _ _ hS => ?_)
  exact kk r u H1 locs1 hp ⟨by rw [← ht]; exact hB, hS⟩
theorem m_callv (hx : p.tables.exec = Jvm.exec) (hb : c.code = cc) (hml : c.maxLocals = nL) (hown : s.vm.findClass own = some m.cls) (hts : ∀ w ∈ Ts, w.before args s = true) (hK : va_K dd vwCl (tysW g) s) (hI : mI dd g q A H0 H locs M) {post : MS → Prop} (hM : Met l y ws rm (mPre dd g q M (.ref (q 0) :: As)) (mQv dd g q A post) 0 0 A) (cw : CallW R s args own RX6 index y bytes maxL ret ws rm 0 0 n) (hn : As.length = n) (hl : lv_has ls nL lv) (hr : (rest.map fun v => v.category).sum ≤ 8) (hc : cells ≤ R.cells ∧ slots ≤ R.slots) (hdg : decode cc pc = .ok (.invokevirtual index, 3)) {st : List Value} (hst : st = As.reverse ++ .ref (q 0) :: rest)
    (kk : ∀ (M' : MS) (H1 : Heap) (locs1 : List Loc), post M' → mI dd g q A H0 H1 locs1 M' → W p l e R s m args below meth c H1 locs1 cells slots Q (F0 m (pc + 3) ls rest)) : W p l e R s m args below meth c H locs cells slots Q (F0 m pc ls st) := by
  refine va_callv (va_runV (As := As) (rest := rest) ⟨hx, hb, hml, hown, hts⟩ hM cw ⟨mPre_blind dd g q M _, va_recv hK hI.1 (ci := 6) (q0 := 0) rfl rfl, fun U hU hW => ⟨rfl, by rw [hU]; exact hI.1, va_K.moved hW.alike hK⟩⟩ rfl hn hl.1 hst (lv_room hr) hdg hc) hI.2 (fun _ _ h => h) (fun _ h => h) (fun u t H1 locs1 ht _ hp hB _ _ hS => ?_)
  exact kk u H1 locs1 hp ⟨by rw [← ht]; exact hB, hS⟩
/-- a static call of a function of numbers -/
theorem s_calli (hx : p.tables.exec = Jvm.exec) (hb : c.code = cc) (hml : c.maxLocals = nL) (hown : s.vm.findClass own = some m.cls) (hts : ∀ w ∈ Ts, w.before args s = true) (hS : va_S A H0 H locs) {post : Int32 → Prop} (hM : Met l y ws rm (sPre As) (sQi post) 0 0 (fun _ => False)) (cw : CallB R s args own index y bytes maxL ret ws rm 0 0 n ∧ (Cond.static y).before args s = true) (hn : As.length = n) (hl : lv_has ls nL lv) (hr : (rest.map fun v => v.category).sum ≤ 8) (hc : cells ≤ R.cells ∧ slots ≤ R.slots) (hdg : decode cc pc = .ok (.invokestatic index, 3)) {st : List Value} (hst : st = As.reverse ++ rest)
    (kk : ∀ (r : Int32) (H1 : Heap) (locs1 : List Loc), post r → (∀ q : Nat, q < H.size → H1[q]? = H[q]?) → va_S A H0 H1 locs1 → W p l e R s m args below meth c H1 locs1 cells slots Q (F0 m (pc + 3) ls (.int r :: rest))) : W p l e R s m args below meth c H locs cells slots Q (F0 m pc ls st) := by
  refine va_calli (va_runS (As := As) (rest := rest) ⟨hx, hb, hml, hown, hts⟩ hM cw ⟨sPre_blind _, fun U hU hW => ⟨rfl, trivial⟩⟩ rfl hn hl.1 hst (lv_room hr) hdg hc) hS (fun _ _ h => h.elim) (fun _ h => h.elim) (fun r u t H1 locs1 ht _ hp hB _ hk hS => ?_)
  exact kk r H1 locs1 hp (fun q h => hk q h (fun z => z)) hS
theorem m_calls (hx : p.tables.exec = Jvm.exec) (hb : c.code = cc) (hml : c.maxLocals = nL) (hown : s.vm.findClass own = some m.cls) (hts : ∀ w ∈ Ts, w.before args s = true) (hI : mI dd g q A H0 H locs M) {post : Int32 → Prop} (hM : Met l y ws rm (sPre As) (sQi post) 0 0 (fun _ => False)) (cw : CallB R s args own index y bytes maxL ret ws rm 0 0 n ∧ (Cond.static y).before args s = true) (hn : As.length = n) (hl : lv_has ls nL lv) (hr : (rest.map fun v => v.category).sum ≤ 8) (hc : cells ≤ R.cells ∧ slots ≤ R.slots) (hdg : decode cc pc = .ok (.invokestatic index, 3)) {st : List Value} (hst : st = As.reverse ++ rest)
    (kk : ∀ (r : Int32) (H1 : Heap) (locs1 : List Loc), post r → mI dd g q A H0 H1 locs1 M → W p l e R s m args below meth c H1 locs1 cells slots Q (F0 m (pc + 3) ls (.int r :: rest))) : W p l e R s m args below meth c H locs cells slots Q (F0 m pc ls st) := by
  refine s_calli hx hb hml hown hts hI.2 hM cw hn hl hr hc hdg hst (fun r H1 locs1 hp hk hS => ?_)
  exact kk r H1 locs1 hp ⟨hI.1.kept (fun k x hx => hk x.1 (hI.1 k x hx).lt), hS⟩
end MR
