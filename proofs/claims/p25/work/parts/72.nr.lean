/-! the constructors' rows: what is made and what stays, said of every place -/
section ND
variable {p : Program} {l : Launch} {e : Env} {R : Room} {s : State} {m : MethodId} {args : Array Value} {below : List Frame} {meth : Method} {c : Code} {H : Heap} {locs : List Loc} {cells slots : Nat} {Q : State → Prop}
variable {cc : ByteArray} {pc : Nat} {ls : Array Slot} {rest : List Value} {dd : va_G} {g : Nat → ClassId} {A : Nat → Prop} {H0 : Heap} {own0 : String} {Ts : List Cond} {n : Nat} {ad : Nat → Nat} {en : Nat → va_E}
theorem o_newa (hx : p.tables.exec = Jvm.exec) (hb : c.code = cc) {atype : ArrayType} (harr : (Cond.arrayClass (newarray.typeOf atype)).before args s = true) {ty : FieldType} (hty : newarray.typeOf atype = ty) (t : Nat) (ht : (tysW g)[t]? = some (g t, ty)) (hK : va_K dd vwCl (tysW g) s) (hI : nW dd n ad en A H0 H locs) (hA : ∀ q, H0.size ≤ q → A q)
    {k : Int32} {N : Nat} {a0 : vp_A} (ha : ∀ cA : ClassId, vp_cell cA a0 = arrV cA N (fun _ => defaultValue ty)) (hn : ¬ k < 0) (hN : k.toNatClampNeg = N) (hbytes : N * componentBytes ty ≤ 536870912) (hcells : cells + 1 ≤ R.cells) (hslots : slots + N ≤ R.slots) (hdg : decode cc pc = .ok (.newarray atype, 2))
    (kk : ∀ (ad1 : Nat → Nat) (en1 : Nat → va_E) (H1 : Heap), (∀ r, r < n → ad1 r = ad r) → (∀ r, r < n → en1 r = en r) → en1 n = .inl (g t, a0) → nW dd (n + 1) ad1 en1 A H0 H1 locs → W p l e R s m args below meth c H1 locs (cells + 1) (slots + N) Q (F0 m (pc + 2) ls (.ref (ad1 n) :: rest))) : W p l e R s m args below meth c H locs cells slots Q (F0 m pc ls (.int k :: rest)) := by
  refine n_newa hx hb harr hty t ht hK hI hA ha hn hN hbytes hcells hslots hdg (fun q H1 hI1 => ?_)
  have := kk (va_up ad n q) (va_up en n _) H1 (fun r hr => if_neg (by omega)) (fun r hr => if_neg (by omega)) (if_pos rfl) hI1
  rw [show va_up ad n q n = q from if_pos rfl] at this
  exact this
theorem o_newq (hx : p.tables.exec = Jvm.exec) (hb : c.code = cc) {C : String} {index : Nat} (hown : s.vm.findClass own0 = some m.cls) (hclink : (Cond.classLink own0 index C).before args s = true) (hover : va_AO C s) (t : Nat) (ht : (tysW g)[t]? = some (g t, .object C)) (hK : va_K dd vwCl (tysW g) s) (hI : nW dd n ad en A H0 H locs) (hA : ∀ q, H0.size ≤ q → A q)
    {k : Int32} {N : Nat} (hn : ¬ k < 0) (hN : k.toNatClampNeg = N) (hbytes : N * 4 ≤ 536870912) (hcells : cells + 1 ≤ R.cells) (hslots : slots + N ≤ R.slots) (hdg : decode cc pc = .ok (.anewarray index, 3))
    (kk : ∀ (ad1 : Nat → Nat) (en1 : Nat → va_E) (H1 : Heap), (∀ r, r < n → ad1 r = ad r) → (∀ r, r < n → en1 r = en r) → en1 n = .inl (g t, N, .inr (.inr (.inr (.inr (fun _ => none))))) → nW dd (n + 1) ad1 en1 A H0 H1 locs → W p l e R s m args below meth c H1 locs (cells + 1) (slots + N) Q (F0 m (pc + 3) ls (.ref (ad1 n) :: rest))) : W p l e R s m args below meth c H locs cells slots Q (F0 m pc ls (.int k :: rest)) := by
  refine n_newq hx hb hown hclink hover t ht hK hI hA hn hN hbytes hcells hslots hdg (fun q H1 hI1 => ?_)
  have := kk (va_up ad n q) (va_up en n _) H1 (fun r hr => if_neg (by omega)) (fun r hr => if_neg (by omega)) (if_pos rfl) hI1
  rw [show va_up ad n q n = q from if_pos rfl] at this
  exact this
theorem o_new (hx : p.tables.exec = Jvm.exec) (hb : c.code = cc) {Cn : String} {T : u_T} {N ci index : Nat} (hts : ∀ w ∈ Ts, w.before args s = true) (hin : ∀ w ∈ u_ws Cn T N, w ∈ Ts) (ty : Nat → FieldType) (hty : ∀ k, k < N → parseFieldDescriptor (T k).2.2.1 = some (ty k)) (hown : s.vm.findClass own0 = some m.cls) (hcl : (Cond.classLink own0 index Cn).before args s = true) (hinst : (Cond.instantiable Cn N).before args s = true) (hini : (Cond.initialized Cn).before args s = true)
    (hK : va_K dd vwCl (tysW g) s) (hI : nW dd n ad en A H0 H locs) (hA : ∀ q, H0.size ≤ q → A q) (hc : vwCl[ci]? = some (Cn, T, N)) {fs : List Value} (hfs : ∀ j, j < N → defaultValue (ty j) = vp_V fs j) (hcells : cells + 1 ≤ R.cells) (hslots : slots + N ≤ R.slots) (hdg : decode cc pc = .ok (.new index, 3))
    (kk : ∀ (ad1 : Nat → Nat) (en1 : Nat → va_E) (H1 : Heap), (∀ r, r < n → ad1 r = ad r) → (∀ r, r < n → en1 r = en r) → en1 n = .inr (ci, fs) → nW dd (n + 1) ad1 en1 A H0 H1 locs → W p l e R s m args below meth c H1 locs (cells + 1) (slots + N) Q (F0 m (pc + 3) ls (.ref (ad1 n) :: rest))) : W p l e R s m args below meth c H locs cells slots Q (F0 m pc ls rest) := by
  refine n_new hx hb hts hin ty hty hown hcl hinst hini hK hI hA hc hfs hcells hslots hdg (fun q H1 hI1 => ?_)
  have := kk (va_up ad n q) (va_up en n _) H1 (fun r hr => if_neg (by omega)) (fun r hr => if_neg (by omega)) (if_pos rfl) hI1
  rw [show va_up ad n q n = q from if_pos rfl] at this
  exact this
theorem o_putF (hx : p.tables.exec = Jvm.exec) (hb : c.code = cc) {Cn : String} {T : u_T} {N ci index : Nat} (hts : ∀ w ∈ Ts, w.before args s = true) (hin : ∀ w ∈ u_ws Cn T N, w ∈ Ts) (ty0 : Nat → FieldType) (hty : ∀ k, k < N → parseFieldDescriptor (T k).2.2.1 = some (ty0 k)) (hnm : ∀ a, a < N → ∀ b, b < N → a ≠ b → (T a).2.1 ≠ (T b).2.1) (hown : s.vm.findClass own0 = some m.cls) (hK : va_K dd vwCl (tysW g) s) (hI : nW dd n ad en A H0 H locs) (i : Nat) (hi : i < n) {b0 : Nat} (hb0 : ad i = b0) {fs : List Value} (he : en i = .inr (ci, fs)) (hc : vwCl[ci]? = some (Cn, T, N)) (k : Nat) (hk : k < N) (hlink : (Cond.fieldLink own0 index (T k).1 (T k).2.1 (T k).2.2.1).before args s = true) (hfin : (T k).2.2.2 = true) (hin2 : meth.name = "<init>") (hdecl : (T k).1 = own0) {q : Nat} (hn : narrow (ty0 k) (.ref q) = .ref q) (hfit : fits (ty0 k) (.ref q) = true) (hl : k < fs.length) (hdg : decode cc pc = .ok (.putfield index, 3))
    (kk : ∀ (en1 : Nat → va_E) (H1 : Heap) (locs1 : List Loc), (∀ r, r ≠ i → en1 r = en r) → en1 i = .inr (ci, fs.set k (.ref q)) → nW dd n ad en1 A H0 H1 locs1 → W p l e R s m args below meth c H1 locs1 cells slots Q (F0 m (pc + 3) ls rest)) : W p l e R s m args below meth c H locs cells slots Q (F0 m pc ls (.ref q :: .ref b0 :: rest)) := by
  subst hb0
  exact n_putF hx hb hts hin ty0 hty hnm hown hK hI i hi he hc k hk hlink hfin hin2 hdecl hn hfit hl hdg (fun H1 locs1 hI1 => kk _ H1 locs1 (fun r hr => if_neg hr) (if_pos rfl) hI1)
theorem o_ast (hx : p.tables.exec = Jvm.exec) (hb : c.code = cc) (hK : va_K dd vwCl (tysW g) s) (hI : nW dd n ad en A H0 H locs) (i : Nat) (hi : i < n) {b0 : Nat} (hb0 : ad i = b0) {N : Nat} {f : Nat → Int32} (he : en i = .inl (g 0, N, .inl f)) (hN : N < 2 ^ 31) (j : Nat) (hj : j < N) {x y : Int32} (hx2 : x = nI j) (hdg : decode cc pc = .ok (.iastore, 1))
    (kk : ∀ (en1 : Nat → va_E) (H1 : Heap) (locs1 : List Loc), (∀ r, r ≠ i → en1 r = en r) → en1 i = .inl (g 0, N, .inl (upd f j y)) → nW dd n ad en1 A H0 H1 locs1 → W p l e R s m args below meth c H1 locs1 cells slots Q (F0 m (pc + 1) ls rest)) : W p l e R s m args below meth c H locs cells slots Q (F0 m pc ls (.int y :: .int x :: .ref b0 :: rest)) := by
  subst hb0
  exact n_ast hx hb hK hI i hi he hN j hj hx2 hdg (fun H1 locs1 hI1 => kk _ H1 locs1 (fun r hr => if_neg hr) (if_pos rfl) hI1)
theorem o_astq (hx : p.tables.exec = Jvm.exec) (hb : c.code = cc) (hK : va_K dd vwCl (tysW g) s) (hI : nW dd n ad en A H0 H locs) (i t v ci : Nat) (hi : i < n) (hv : v < n) {b0 v0 : Nat} (hb0 : ad i = b0) (hv0 : ad v = v0) {r : vw_C} {N : Nat} {vs : List Value} {f : Nat → Option Nat} (he : en i = .inl (g t, N, .inr (.inr (.inr (.inr f))))) (ht : (tysW g)[t]? = some (g t, .object r.1)) (hev : en v = .inr (ci, vs)) (hc : vwCl[ci]? = some r) (hN : N < 2 ^ 31) (j : Nat) (hj : j < N) {x : Int32} (hx2 : x = nI j) (hdg : decode cc pc = .ok (.aastore, 1))
    (kk : ∀ (en1 : Nat → va_E) (H1 : Heap) (locs1 : List Loc), (∀ r, r ≠ i → en1 r = en r) → en1 i = .inl (g t, N, .inr (.inr (.inr (.inr (va_up f j (some v0)))))) → nW dd n ad en1 A H0 H1 locs1 → W p l e R s m args below meth c H1 locs1 cells slots Q (F0 m (pc + 1) ls rest)) : W p l e R s m args below meth c H locs cells slots Q (F0 m pc ls (.ref v0 :: .int x :: .ref b0 :: rest)) := by
  subst hb0; subst hv0
  exact n_astq hx hb hK hI i t v ci hi hv he ht hev hc hN j hj hx2 hdg (fun H1 locs1 hI1 => kk _ H1 locs1 (fun r hr => if_neg hr) (if_pos rfl) hI1)
/-- the joined world: the callee's cells behind the caller's -/
theorem iJ_lo {α : Type} {n r : Nat} {f h : Nat → α} (hr : r < n) : iJ n f h r = f r := if_pos hr
theorem iJ_hi {α : Type} {n r : Nat} {f h : Nat → α} : iJ n f h (n + r) = h r := by unfold iJ; rw [if_neg (by omega), Nat.add_sub_cancel_left]
/-- settings out of the table that begins them -/
theorem o_cpyT {index t : Nat} (hexec : p.tables.exec = Jvm.exec) (hb : c.code = cc) (hml : c.maxLocals = ls.size) (hown : s.vm.findClass own0 = some m.cls) (hlink : (Cond.methodLink own0 index arraycopyName).before args s = true) (hnat : (Cond.native arraycopyName).before args s = true) (hstat : (Cond.static arraycopyName).before args s = true) (hini : (Cond.initialized "java/lang/System").before args s = true)
    (hK : va_K dd vwCl (tysW g) s) (hI : nW dd n ad en A s.heap H locs) {F : Nat → Int32} (hX : va_T .int t 4 (fun j => .int (F j)) A s s.heap) (i : Nat) (hi : i < n) {b0 : Nat} (hb0 : ad i = b0) {f : Nat → Int32} (he : en i = .inl (g 0, 4, .inl f)) (hframes : 1 ≤ R.frames) (hlocals : (rest.map fun v => v.category).sum + (nativeFrameWords "java/lang/System" "arraycopy" 5 + 11) ≤ R.locals) (hdg : decode cc pc = .ok (.invokestatic index, 3))
    (kk : ∀ (en1 : Nat → va_E) (H1 : Heap) (locs1 : List Loc), (∀ r, r ≠ i → en1 r = en r) → en1 i = .inl (g 0, 4, .inl (va_cpy F f 0 0 4)) → nW dd n ad en1 A s.heap H1 locs1 → W p l e R s m args below meth c H1 locs1 cells slots Q (F0 m (pc + 3) ls rest)) : W p l e R s m args below meth c H locs cells slots Q (F0 m pc ls (.int 4 :: .int 0 :: .ref b0 :: .int 0 :: .ref t :: rest)) := by
  subst hb0
  obtain ⟨hP, hD, hS⟩ := hI
  have ha1 : (iW n ad en)[i]? = some (ad i, .inl (g 0, 4, .inl f)) := by rw [iW_get hi, he]
  intro T hT X
  obtain ⟨scr, hs1, hs2, hs3, hs4, _, hs5, hs7⟩ := hX
  have hc0 : H[t]? = some scr := by rw [hS.2.1 t (Array.getElem?_eq_some_iff.mp hs1).1 hs7]; exact hs1
  have hc1 : H[ad i]? = some (vp_cell (g 0) (4, .inl f)) := hP i _ ha1
  obtain ⟨hs6, k0, hk0, cm0, hkk0⟩ := hs2
  obtain ⟨-, k1, hk1, cm1, hkk1⟩ := (hK.2 0 (g 0, .int) rfl).1 4 (fun j => .int (f j))
  have z4 : (4 : Int32).toNatClampNeg = 4 := by decide
  have z0 : (0 : Int32).toNatClampNeg = 0 := by decide
  obtain ⟨vm', X', step⟩ := X.arraycopy hexec hown hlink hnat hstat hini (src := t) (dst := ad i) (cs := scr) (cd := vp_cell (g 0) (4, .inl f)) (srcPos := 0) (destPos := 0) (n := 4) (by rw [hT]; exact hc0) (by rw [hT]; exact hc1)
    hs6 (fun _ h => by cases h) hs3 (fun h => by cases h) hk0 hk1 hkk0 hkk1 (by simp [refKind]) (by decide) (by decide) (by decide)
    (by rw [show (0 : Int32).toInt = 0 from by decide, show (4 : Int32).toInt = 4 from by decide]; omega)
    (by rw [show (0 : Int32).toInt = 0 from by decide, show (4 : Int32).toInt = 4 from by decide]; show ¬ _ > ((arrV (g 0) 4 (fun j => .int (f j))).slots.size : Int); rw [arrV_size]; omega)
    (fun vm₁ _ k hk => by
      have hk4 : k < 4 := by rw [z4] at hk; exact hk
      have e : scr.slots.getD ((0 : Int32).toNatClampNeg + k) .null = .int (F k) := by
        rw [z0, Nat.zero_add, Array.getD_eq_getD_getElem?, hs5 _ hk4]
        rfl
      refine ⟨?_, ?_⟩
      · rw [e]
        rfl
      · rw [e]
        exact trivial)
    (g := F0 m pc ls (.int 4 :: .int 0 :: .ref (ad i) :: .int 0 :: .ref t :: rest)) rfl (by rw [hml]) (rest := rest) rfl (by rw [hb]; exact hdg) hframes (by show 2 * 0 + _ + _ ≤ _; omega)
  have e1 : copied scr (vp_cell (g 0) (4, .inl f)) 0 0 4 = vp_cell (g 0) (4, .inl (va_cpy F f 0 0 4)) := va_copiedX (n0 := 4) (fun z => .int z) scr (g 0) F f hs5 (by decide)
  rw [e1] at X' step
  have hl : ad i < H.size := (Array.getElem?_eq_some_iff.mp hc1).1
  have hheap : ((T.setVm vm').setCell (ad i) (vp_cell (g 0) (4, .inl (va_cpy F f 0 0 4)))).heap = H.setIfInBounds (ad i) (vp_cell (g 0) (4, .inl (va_cpy F f 0 0 4))) := by rw [← hT]; rfl
  have oq : ∀ q : Nat, q ≠ ad i → (H.setIfInBounds (ad i) (vp_cell (g 0) (4, .inl (va_cpy F f 0 0 4))))[q]? = H[q]? := fun q hq => by simp [Array.getElem?_setIfInBounds, Ne.symm hq]
  have hP1 := hP.set (e := .inl (g 0, 4, .inl (va_cpy F f 0 0 4))) hD ha1 (show (H.setIfInBounds (ad i) _)[ad i]? = some _ by simp [Array.getElem?_setIfInBounds, hl]) oq
  have hD1 := hD.set (e := .inl (g 0, 4, .inl (va_cpy F f 0 0 4))) ha1
  rw [iW_set] at hP1 hD1
  obtain ⟨t', a1, b1⟩ := kk _ _ _ (fun r hr => if_neg hr) (if_pos rfl) ⟨hP1, hD1, ⟨by simp; exact hS.1, fun q g1 g2 => by
      rw [oq q (fun e => g2 (by rw [e]; exact hD.2 i _ ha1))]
      exact hS.2.1 q g1 g2, fun q hq => by
      rcases List.mem_append.mp hq with h | h
      · exact hS.2.2 q h
      · obtain ⟨z, -, hz⟩ := List.mem_map.mp h
        rw [← hz]
        exact hD.2 i _ ha1⟩⟩ _ hheap X'
  exact ⟨t', step t' a1, b1⟩
theorem n_start {sz0 b : Nat} {e0 : va_E} {U : State} (hP : va_P dd vwCl [(b, e0)] U.heap) (h0 : sz0 ≤ b) : nW dd 1 (fun _ => b) (fun _ => e0) (nA b U.heap.size) U.heap U.heap [] ∧ (∀ q, U.heap.size ≤ q → nA b U.heap.size q) ∧ ∀ q, nA b U.heap.size q → sz0 ≤ q := by
  have hlt : b < U.heap.size := (hP 0 _ rfl).lt
  refine ⟨⟨hP, ⟨fun i j x y hx hy _ => ?_, fun k x hx => ?_⟩, va_S.rf⟩, fun q h => Or.inr h, fun q h => ?_⟩
  · have hi : i < 1 := (iW_at hx).1
    have hj : j < 1 := (iW_at hy).1
    omega
  · rw [(iW_at hx).2]; exact Or.inl rfl
  · rcases h with rfl | h
    · exact h0
    · omega
theorem o_ret {b mm : Nat} {E : (Nat → Nat) → Nat → va_E} (hx : p.tables.exec = Jvm.exec) (hb : c.code = cc) (hr : meth.sig.returnType = none) (hI : nW dd mm ad en (nA b s.heap.size) s.heap H locs) (h0 : ad 0 = b) (hE : ∀ r, r < mm → en r = E ad r) (hdg : decode cc pc = .ok (.return_, 1)) (hlocks : meth.locks = false) : W p l e R s m args below meth c H locs cells slots (MQ below (iPost dd b s.heap.size mm E) args s cells slots (nA b s.heap.size)) (F0 m pc ls []) := by
  obtain ⟨hP, hD, hS⟩ := hI
  rw [iW_ext (a' := ad) (e' := E ad) (fun r hr => ⟨rfl, hE r hr⟩)] at hP hD
  exact W.vret hx hb hr (fun t ht hW => ⟨⟨ad, rfl, trivial, h0, by rw [ht]; exact hP, hD⟩, hS.F ht⟩) hS.2.2 hdg hlocks
theorem o_get (hx : p.tables.exec = Jvm.exec) (hb : c.code = cc) {Cn : String} {T : u_T} {N ci index : Nat} (hts : ∀ w ∈ Ts, w.before args s = true) (hin : ∀ w ∈ u_ws Cn T N, w ∈ Ts) (hown : s.vm.findClass own0 = some m.cls) (hK : va_K dd vwCl (tysW g) s) (hI : nW dd n ad en A H0 H locs) (i : Nat) (hi : i < n) {b0 : Nat} (hb0 : ad i = b0) {fs : List Value} (he : en i = .inr (ci, fs)) (hc : vwCl[ci]? = some (Cn, T, N)) (k : Nat) (hk : k < N) (hlink : (Cond.fieldLink own0 index (T k).1 (T k).2.1 (T k).2.2.1).before args s = true) {v : Value} (hv : fs[k]? = some v) (hdg : decode cc pc = .ok (.getfield index, 3))
    (kk : W p l e R s m args below meth c H locs cells slots Q (F0 m (pc + 3) ls (v :: rest))) : W p l e R s m args below meth c H locs cells slots Q (F0 m pc ls (.ref b0 :: rest)) := by
  subst hb0
  exact n_get hx hb hts hin hown hK hI i hi he hc k hk hlink hv hdg kk
variable {nL index maxL : Nat} {y : MethodName} {bytes : ByteArray} {ws : List Cond} {rm : Room} {lv : List (Nat × Value)}
theorem o_init {sz0 mm mc ms : Nat} (hx : p.tables.exec = Jvm.exec) (hb : c.code = cc) (hml : c.maxLocals = nL) (hown : s.vm.findClass own0 = some m.cls) (hts : ∀ w ∈ Ts, w.before args s = true) (hK : va_K dd vwCl (tysW g) s) (hX : nX sz0 s) (hI : nW dd (n + 1) ad en A s.heap H locs) (hA : ∀ q, s.heap.size ≤ q → A q) (hA0 : ∀ q, A q → sz0 ≤ q) {b0 : Nat} (hb0 : ad n = b0) {e0 : va_E} (he : en n = e0) {E : (Nat → Nat) → Nat → va_E} (hM : Met l y ws rm (iPre dd g sz0 b0 H.size e0) (iPost dd b0 H.size mm E) mc ms (nA b0 H.size)) (cw : CallB R s args own0 index y bytes maxL none ws rm mc ms 0 ∧ y.name = "<init>" ∧ (Cond.instanceMethod y).before args s = true) (hl : lv_has ls nL lv) (hr : (rest.map fun v => v.category).sum ≤ 8) (hcs : cells + mc ≤ R.cells ∧ slots + ms ≤ R.slots) (hdg : decode cc pc = .ok (.invokespecial index, 3))
    (kk : ∀ (ad1 : Nat → Nat) (en1 : Nat → va_E) (H1 : Heap) (locs1 : List Loc), (∀ r, r < n → ad1 r = ad r) → ad1 n = b0 → (∀ r, r < n → en1 r = en r) → (∀ r, en1 (n + r) = E (fun k => ad1 (n + k)) r) → nW dd (n + mm) ad1 en1 A s.heap H1 locs1 → W p l e R s m args below meth c H1 locs1 (cells + mc) (slots + ms) Q (F0 m (pc + 3) ls rest)) : W p l e R s m args below meth c H locs cells slots Q (F0 m pc ls (.ref b0 :: rest)) := by
  subst hb0
  refine n_init hx hb hml hown hts hK hX hI hA hA0 he hM cw hl hr hcs hdg (fun a H1 locs1 h0 hI1 => ?_)
  refine kk (iJ n ad a) (iJ n en (E a)) H1 locs1 (fun r hr => iJ_lo hr) ?_ (fun r hr => iJ_lo hr) (fun r => ?_) hI1
  · have := iJ_hi (n := n) (r := 0) (f := ad) (h := a); rw [Nat.add_zero] at this; rw [this]; exact h0
  · rw [iJ_hi, show (fun k => iJ n ad a (n + k)) = a from funext fun k => iJ_hi]
theorem o_initN {sz0 mm mc ms : Nat} {host : String} (hx : p.tables.exec = Jvm.exec) (hb : c.code = cc) (hml : c.maxLocals = nL) (hown : s.vm.findClass own0 = some m.cls) (hts : ∀ w ∈ Ts, w.before args s = true) (hK : va_K dd vwCl (tysW g) s) (hX : nX sz0 s) (hI : nW dd (n + 1) ad en A s.heap H locs) (hA : ∀ q, s.heap.size ≤ q → A q) (hA0 : ∀ q, A q → sz0 ≤ q) {b0 : Nat} (hb0 : ad n = b0) {e0 : va_E} (he : en n = e0) {E : (Nat → Nat) → Nat → va_E} (hM : Met l y ws rm (iPre dd g sz0 b0 H.size e0) (iPost dd b0 H.size mm E) mc ms (nA b0 H.size)) (cw : va_CN R s args own0 index y host bytes maxL none ws rm mc ms 0 ∧ y.name = "<init>" ∧ (Cond.instanceMethod y).before args s = true) (hl : lv_has ls nL lv) (hr : (rest.map fun v => v.category).sum ≤ 8) (hcs : cells + mc ≤ R.cells ∧ slots + ms ≤ R.slots) (hdg : decode cc pc = .ok (.invokespecial index, 3))
    (kk : ∀ (ad1 : Nat → Nat) (en1 : Nat → va_E) (H1 : Heap) (locs1 : List Loc), (∀ r, r < n → ad1 r = ad r) → ad1 n = b0 → (∀ r, r < n → en1 r = en r) → (∀ r, en1 (n + r) = E (fun k => ad1 (n + k)) r) → nW dd (n + mm) ad1 en1 A s.heap H1 locs1 → W p l e R s m args below meth c H1 locs1 (cells + mc) (slots + ms) Q (F0 m (pc + 3) ls rest)) : W p l e R s m args below meth c H locs cells slots Q (F0 m pc ls (.ref b0 :: rest)) := by
  subst hb0
  refine n_initN hx hb hml hown hts hK hX hI hA hA0 he hM cw hl hr hcs hdg (fun a H1 locs1 h0 hI1 => ?_)
  refine kk (iJ n ad a) (iJ n en (E a)) H1 locs1 (fun r hr => iJ_lo hr) ?_ (fun r hr => iJ_lo hr) (fun r => ?_) hI1
  · have := iJ_hi (n := n) (r := 0) (f := ad) (h := a); rw [Nat.add_zero] at this; rw [this]; exact h0
  · rw [iJ_hi, show (fun k => iJ n ad a (n + k)) = a from funext fun k => iJ_hi]
end ND
def upN (q : Nat → Nat) : Nat → Nat → Option Nat
  | 0 => fun _ => none
  | i + 1 => va_up (upN q i) i (some (q i))
theorem upN_eq (q : Nat → Nat) : ∀ n, upN q n = fun j => if j < n then some (q j) else none := by
  intro n
  induction n with
  | zero => funext j; show none = _; rw [if_neg (by omega)]
  | succ n ih =>
    funext j
    show va_up (upN q n) n (some (q n)) j = _
    rw [ih]
    unfold va_up
    by_cases h : j = n
    · subst h; rw [if_pos rfl, if_pos (by omega)]
    · rw [if_neg h]
      by_cases h2 : j < n
      · rw [if_pos (show j < n + 1 by omega)]; exact if_pos h2
      · rw [if_neg (show ¬ j < n + 1 by omega)]; exact if_neg h2
def stN (g : Nat → ClassId) (a : Nat → Nat) (r : Nat) : va_E :=
  if r = 0 then .inr (4, [.ref (a 1), .ref (a 2), .ref (a 3), .int 0, .int 0, .int 0, .int 0])
  else if r = 1 then .inl (g 0, 4, .inl (va_cpy fsT (fun _ => 0) 0 0 4))
  else if r = 2 then .inl (g 3, 16, .inr (.inr (.inr (.inr (fun j => if j < 16 then some (a (4 + j)) else none)))))
  else if r = 3 then .inl (g 0, 4, .inl (fun _ => 0))
  else .inr (0, [.int 0, .int 0, .int 0, .int 0, .int 0, .int 0, .int 0, .int 0])
