/-! worlds that are made cell by cell -/
def iW (n : Nat) (a : Nat → Nat) (e : Nat → va_E) : va_W := (List.range n).map (fun r => (a r, e r))
section IW
variable {n : Nat} {a : Nat → Nat} {e : Nat → va_E}
theorem iW_get {i : Nat} (h : i < n) : (iW n a e)[i]? = some (a i, e i) := by
  unfold iW; rw [List.getElem?_map, List.getElem?_range h]; rfl
theorem iW_at {i : Nat} {x : Nat × va_E} (h : (iW n a e)[i]? = some x) : i < n ∧ x = (a i, e i) := by
  have hi : i < n := by
    have := (List.getElem?_eq_some_iff.mp h).1
    simpa [iW] using this
  rw [iW_get hi] at h
  exact ⟨hi, (Option.some.inj h).symm⟩
theorem iW_ext {a' : Nat → Nat} {e' : Nat → va_E} (h : ∀ r, r < n → a r = a' r ∧ e r = e' r) : iW n a e = iW n a' e' := by
  unfold iW
  apply List.map_congr_left
  intro r hr
  obtain ⟨h1, h2⟩ := h r (List.mem_range.mp hr)
  rw [h1, h2]
theorem iW_push {q : Nat} {x : va_E} : iW n a e ++ [(q, x)] = iW (n + 1) (va_up a n q) (va_up e n x) := by
  have h1 : iW n (va_up a n q) (va_up e n x) = iW n a e := iW_ext (fun r hr => by unfold va_up; rw [if_neg (by omega), if_neg (by omega)]; exact ⟨rfl, rfl⟩)
  conv => rhs; unfold iW
  rw [List.range_succ, List.map_append]
  show _ = iW n (va_up a n q) (va_up e n x) ++ _
  rw [h1]
  simp [va_up]
theorem iW_set {i : Nat} {x : va_E} : (iW n a e).set i (a i, x) = iW n a (va_up e i x) := by
  apply List.ext_getElem?
  intro j
  by_cases hj : j < n
  · rw [iW_get hj]
    by_cases h : i = j
    · subst h
      rw [List.getElem?_set_self (by simp [iW, hj])]; simp [va_up]
    · rw [List.getElem?_set_ne h, iW_get hj]; simp [va_up, Ne.symm h]
  · rw [List.getElem?_eq_none (by simp [iW]; omega), List.getElem?_eq_none (by simp [iW]; omega)]
end IW
/-- the walk of a constructor: the cells made so far -/
def nW (dd : va_G) (n : Nat) (a : Nat → Nat) (e : Nat → va_E) (A : Nat → Prop) (H0 H : Heap) (locs : List Loc) : Prop := va_P dd vwCl (iW n a e) H ∧ va_D A (iW n a e) ∧ va_S A H0 H locs
def nA (b sz : Nat) : Nat → Prop := fun q => q = b ∨ sz ≤ q
theorem ty_inj {dd : va_G} {g : Nat → ClassId} {s : State} {cA : ClassId} {ty : FieldType} {t : Nat} (ht : (tysW g)[t]? = some (g t, ty)) (hl : (tysW g).length = 5) (hK : va_K dd vwCl (tysW g ++ [(cA, ty)]) s) : cA = g t := by
  have h1 := (hK.2 5 (cA, ty) (by rw [List.getElem?_append_right (by omega), hl]; rfl)).2
  have ht5 : t < 5 := by rw [← hl]; exact (List.getElem?_eq_some_iff.mp ht).1
  have h2 := (hK.2 t (g t, ty) (by rw [List.getElem?_append_left (by omega)]; exact ht)).2
  unfold va_RA at h1 h2
  cases ty with
  | object C =>
    obtain ⟨_, _, _, _, _, a⟩ := h1
    obtain ⟨_, _, _, _, _, b⟩ := h2
    exact Option.some.inj (a.symm.trans b)
  | _ => exact Option.some.inj (h1.symm.trans h2)
section NR
variable {p : Program} {l : Launch} {e : Env} {R : Room} {s : State} {m : MethodId} {args : Array Value} {below : List Frame} {meth : Method} {c : Code} {H : Heap} {locs : List Loc} {cells slots : Nat} {Q : State → Prop}
variable {cc : ByteArray} {pc : Nat} {ls : Array Slot} {rest : List Value} {dd : va_G} {g : Nat → ClassId} {A : Nat → Prop} {H0 : Heap} {own0 : String} {Ts : List Cond} {n : Nat} {ad : Nat → Nat} {en : Nat → va_E}
theorem n_newa (hx : p.tables.exec = Jvm.exec) (hb : c.code = cc) {atype : ArrayType} (harr : (Cond.arrayClass (newarray.typeOf atype)).before args s = true) {ty : FieldType} (hty : newarray.typeOf atype = ty) (t : Nat) (ht : (tysW g)[t]? = some (g t, ty)) (hK : va_K dd vwCl (tysW g) s) (hI : nW dd n ad en A H0 H locs) (hA : ∀ q, H0.size ≤ q → A q)
    {k : Int32} {N : Nat} {a0 : vp_A} (ha : ∀ cA : ClassId, vp_cell cA a0 = arrV cA N (fun _ => defaultValue ty)) (hn : ¬ k < 0) (hN : k.toNatClampNeg = N) (hbytes : N * componentBytes ty ≤ 536870912) (hcells : cells + 1 ≤ R.cells) (hslots : slots + N ≤ R.slots) (hdg : decode cc pc = .ok (.newarray atype, 2))
    (kk : ∀ (q : Nat) (H1 : Heap), nW dd (n + 1) (va_up ad n q) (va_up en n (.inl (g t, a0))) A H0 H1 locs → W p l e R s m args below meth c H1 locs (cells + 1) (slots + N) Q (F0 m (pc + 2) ls (.ref q :: rest))) : W p l e R s m args below meth c H locs cells slots Q (F0 m pc ls (.int k :: rest)) := by
  refine va_newa hx hb harr hty hK hI.1 hI.2.1 hI.2.2 hA ha hn hN hbytes hcells hslots hdg (fun q cA H1 hK1 hP hD hS => ?_)
  have hc := ty_inj ht rfl hK1
  subst hc
  exact kk q H1 ⟨by rw [← iW_push]; exact hP, by rw [← iW_push]; exact hD, hS⟩
theorem n_newq (hx : p.tables.exec = Jvm.exec) (hb : c.code = cc) {C : String} {index : Nat} (hown : s.vm.findClass own0 = some m.cls) (hclink : (Cond.classLink own0 index C).before args s = true) (hover : va_AO C s) (t : Nat) (ht : (tysW g)[t]? = some (g t, .object C)) (hK : va_K dd vwCl (tysW g) s) (hI : nW dd n ad en A H0 H locs) (hA : ∀ q, H0.size ≤ q → A q)
    {k : Int32} {N : Nat} (hn : ¬ k < 0) (hN : k.toNatClampNeg = N) (hbytes : N * 4 ≤ 536870912) (hcells : cells + 1 ≤ R.cells) (hslots : slots + N ≤ R.slots) (hdg : decode cc pc = .ok (.anewarray index, 3))
    (kk : ∀ (q : Nat) (H1 : Heap), nW dd (n + 1) (va_up ad n q) (va_up en n (.inl (g t, N, .inr (.inr (.inr (.inr (fun _ => none))))))) A H0 H1 locs → W p l e R s m args below meth c H1 locs (cells + 1) (slots + N) Q (F0 m (pc + 3) ls (.ref q :: rest))) : W p l e R s m args below meth c H locs cells slots Q (F0 m pc ls (.int k :: rest)) := by
  refine va_newq hx hb hown hclink hover hK hI.1 hI.2.1 hI.2.2 hA hn hN hbytes hcells hslots hdg (fun q cA H1 hK1 hP hD hS => ?_)
  have hc := ty_inj ht rfl hK1
  subst hc
  exact kk q H1 ⟨by rw [← iW_push]; exact hP, by rw [← iW_push]; exact hD, hS⟩
theorem n_new (hx : p.tables.exec = Jvm.exec) (hb : c.code = cc) {Cn : String} {T : u_T} {N ci index : Nat} (hts : ∀ w ∈ Ts, w.before args s = true) (hin : ∀ w ∈ u_ws Cn T N, w ∈ Ts) (ty : Nat → FieldType) (hty : ∀ k, k < N → parseFieldDescriptor (T k).2.2.1 = some (ty k)) (hown : s.vm.findClass own0 = some m.cls) (hcl : (Cond.classLink own0 index Cn).before args s = true) (hinst : (Cond.instantiable Cn N).before args s = true) (hini : (Cond.initialized Cn).before args s = true)
    (hK : va_K dd vwCl (tysW g) s) (hI : nW dd n ad en A H0 H locs) (hA : ∀ q, H0.size ≤ q → A q) (hc : vwCl[ci]? = some (Cn, T, N)) {fs : List Value} (hfs : ∀ j, j < N → defaultValue (ty j) = vp_V fs j) (hcells : cells + 1 ≤ R.cells) (hslots : slots + N ≤ R.slots) (hdg : decode cc pc = .ok (.new index, 3))
    (kk : ∀ (q : Nat) (H1 : Heap), nW dd (n + 1) (va_up ad n q) (va_up en n (.inr (ci, fs))) A H0 H1 locs → W p l e R s m args below meth c H1 locs (cells + 1) (slots + N) Q (F0 m (pc + 3) ls (.ref q :: rest))) : W p l e R s m args below meth c H locs cells slots Q (F0 m pc ls rest) := by
  refine va_new hx hb hts hin ty hty hown hcl hinst hini hK hI.1 hI.2.1 hI.2.2 hA hc hfs hcells hslots hdg (fun q H1 hP hD hS => ?_)
  exact kk q H1 ⟨by rw [← iW_push]; exact hP, by rw [← iW_push]; exact hD, hS⟩
/-- a final field, in its constructor -/
theorem n_putF (hx : p.tables.exec = Jvm.exec) (hb : c.code = cc) {Cn : String} {T : u_T} {N ci index : Nat} (hts : ∀ w ∈ Ts, w.before args s = true) (hin : ∀ w ∈ u_ws Cn T N, w ∈ Ts) (ty0 : Nat → FieldType) (hty : ∀ k, k < N → parseFieldDescriptor (T k).2.2.1 = some (ty0 k)) (hnm : ∀ a, a < N → ∀ b, b < N → a ≠ b → (T a).2.1 ≠ (T b).2.1) (hown : s.vm.findClass own0 = some m.cls) (hK : va_K dd vwCl (tysW g) s) (hI : nW dd n ad en A H0 H locs) (i : Nat) (hi : i < n) {fs : List Value} (he : en i = .inr (ci, fs)) (hc : vwCl[ci]? = some (Cn, T, N)) (k : Nat) (hk : k < N) (hlink : (Cond.fieldLink own0 index (T k).1 (T k).2.1 (T k).2.2.1).before args s = true) (hfin : (T k).2.2.2 = true) (hin2 : meth.name = "<init>") (hdecl : (T k).1 = own0) {q : Nat} (hn : narrow (ty0 k) (.ref q) = .ref q) (hfit : fits (ty0 k) (.ref q) = true) (hl : k < fs.length) (hdg : decode cc pc = .ok (.putfield index, 3))
    (kk : ∀ (H1 : Heap) (locs1 : List Loc), nW dd n ad (va_up en i (.inr (ci, fs.set k (.ref q)))) A H0 H1 locs1 → W p l e R s m args below meth c H1 locs1 cells slots Q (F0 m (pc + 3) ls rest)) : W p l e R s m args below meth c H locs cells slots Q (F0 m pc ls (.ref q :: .ref (ad i) :: rest)) := by
  refine va_putF (v := .ref q) (ty := ty0 k) hx hb hts hin ty0 hty hnm hown hK hI.1 hI.2.1 hI.2.2 i (by rw [iW_get hi, he]) hc k hk hlink (fun _ h => h) hfin hin2 hdecl (hty k hk) hn hfit hl hdg (fun H1 locs1 hP hD hS => ?_)
  rw [iW_set] at hP hD
  exact kk H1 locs1 ⟨hP, hD, hS⟩
theorem n_get (hx : p.tables.exec = Jvm.exec) (hb : c.code = cc) {Cn : String} {T : u_T} {N ci index : Nat} (hts : ∀ w ∈ Ts, w.before args s = true) (hin : ∀ w ∈ u_ws Cn T N, w ∈ Ts) (hown : s.vm.findClass own0 = some m.cls) (hK : va_K dd vwCl (tysW g) s) (hI : nW dd n ad en A H0 H locs) (i : Nat) (hi : i < n) {fs : List Value} (he : en i = .inr (ci, fs)) (hc : vwCl[ci]? = some (Cn, T, N)) (k : Nat) (hk : k < N) (hlink : (Cond.fieldLink own0 index (T k).1 (T k).2.1 (T k).2.2.1).before args s = true) {v : Value} (hv : fs[k]? = some v) (hdg : decode cc pc = .ok (.getfield index, 3))
    (kk : W p l e R s m args below meth c H locs cells slots Q (F0 m (pc + 3) ls (v :: rest))) : W p l e R s m args below meth c H locs cells slots Q (F0 m pc ls (.ref (ad i) :: rest)) :=
  va_get hx hb hts hin hown hK hI.1 i (by rw [iW_get hi, he]) hc k hk hlink (fun _ h => h) hv hdg kk
theorem n_ast (hx : p.tables.exec = Jvm.exec) (hb : c.code = cc) (hK : va_K dd vwCl (tysW g) s) (hI : nW dd n ad en A H0 H locs) (i : Nat) (hi : i < n) {N : Nat} {f : Nat → Int32} (he : en i = .inl (g 0, N, .inl f)) (hN : N < 2 ^ 31) (j : Nat) (hj : j < N) {x y : Int32} (hx2 : x = nI j) (hdg : decode cc pc = .ok (.iastore, 1))
    (kk : ∀ (H1 : Heap) (locs1 : List Loc), nW dd n ad (va_up en i (.inl (g 0, N, .inl (upd f j y)))) A H0 H1 locs1 → W p l e R s m args below meth c H1 locs1 cells slots Q (F0 m (pc + 1) ls rest)) : W p l e R s m args below meth c H locs cells slots Q (F0 m pc ls (.int y :: .int x :: .ref (ad i) :: rest)) := by
  subst hx2
  have ej : (nI j).toNatClampNeg = j := nI_clamp (by omega)
  refine va_iast hx hb hK hI.1 hI.2.1 hI.2.2 i 0 (by rw [iW_get hi, he]) rfl (vp_in_nI hj hN) hdg (fun H1 locs1 hP hD hS => ?_)
  rw [ej, iW_set] at hP hD
  exact kk H1 locs1 ⟨hP, hD, hS⟩
theorem n_astq (hx : p.tables.exec = Jvm.exec) (hb : c.code = cc) (hK : va_K dd vwCl (tysW g) s) (hI : nW dd n ad en A H0 H locs) (i t v ci : Nat) (hi : i < n) (hv : v < n) {r : vw_C} {N : Nat} {vs : List Value} {f : Nat → Option Nat} (he : en i = .inl (g t, N, .inr (.inr (.inr (.inr f))))) (ht : (tysW g)[t]? = some (g t, .object r.1)) (hev : en v = .inr (ci, vs)) (hc : vwCl[ci]? = some r) (hN : N < 2 ^ 31) (j : Nat) (hj : j < N) {x : Int32} (hx2 : x = nI j) (hdg : decode cc pc = .ok (.aastore, 1))
    (kk : ∀ (H1 : Heap) (locs1 : List Loc), nW dd n ad (va_up en i (.inl (g t, N, .inr (.inr (.inr (.inr (va_up f j (some (ad v)))))))))  A H0 H1 locs1 → W p l e R s m args below meth c H1 locs1 cells slots Q (F0 m (pc + 1) ls rest)) : W p l e R s m args below meth c H locs cells slots Q (F0 m pc ls (.ref (ad v) :: .int x :: .ref (ad i) :: rest)) := by
  subst hx2
  have ej : (nI j).toNatClampNeg = j := nI_clamp (by omega)
  refine va_astq hx hb hK hI.1 hI.2.1 hI.2.2 i t v ci (by rw [iW_get hi, he]) ht (by rw [iW_get hv, hev]) hc (vp_in_nI hj hN) hdg (fun H1 locs1 hP hD hS => ?_)
  rw [ej, iW_set] at hP hD
  exact kk H1 locs1 ⟨hP, hD, hS⟩
end NR
