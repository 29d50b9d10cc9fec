/-! what the constructors rest on; calls of constructors -/
def fsT : Nat → Int32 := fun j => if j = 0 then 60 else if j = 1 then 8 else if j = 2 then 5 else 10
def nX (sz0 : Nat) (U : State) : Prop := va_AO RX0 U ∧ va_AO RX4 U ∧ va_Nw (.methodLinkNest RX4 33 yX0_init "WinderLadders") U ∧ va_Nw (.methodLinkNest RX2 17 yX3_init "WinderLadders") U ∧ va_Nw (.methodLinkNest RX5 33 yX2_init "WinderLadders") U ∧ va_Nw (.methodLinkNest RX5 40 yX3_init "WinderLadders") U ∧ va_Nw (.fieldLinkNest RX4 24 "WinderLadders" "FIRST_SETTINGS" "[I" "WinderLadders") U ∧
  ∃ t : Nat, va_Z "WinderLadders" "FIRST_SETTINGS" "[I" (.ref t) (fun q => sz0 ≤ q) U U.heap ∧ va_T .int t 4 (fun j => .int (fsT j)) (fun q => sz0 ≤ q) U U.heap
theorem nX.moved {sz0 : Nat} {A : Nat → Prop} {s U : State} {H : Heap} {locs : List Loc} (h : nX sz0 s) (hA : ∀ q, A q → sz0 ≤ q) (hS : va_S A s.heap H locs) (hU : U.heap = H) (hW : s.WarmedH U.vm) : nX sz0 U := by
  obtain ⟨a1, a2, b1, b2, b3, b4, b5, t, h2, h3⟩ := h
  have hk : ∀ q : Nat, q < s.heap.size → ¬ sz0 ≤ q → H[q]? = s.heap[q]? := fun q h1 h2 => hS.2.1 q h1 (fun z => h2 (hA q z))
  refine ⟨a1.moved hW.alike, a2.moved hW.alike, b1.warmM hW, b2.warmM hW, b3.warmM hW, b4.warmM hW, b5.warmF hW, t, ?_, ?_⟩
  · rw [hU]; exact (h2.kept hk).moved hW.alike
  · rw [hU]; exact (h3.kept hk).moved hW.alike
theorem nX.same {sz0 : Nat} {s U : State} (h : nX sz0 s) (hh : U.heap = s.heap) (hv : s.vm = U.vm) : nX sz0 U := by
  obtain ⟨a1, a2, b1, b2, b3, b4, b5, t, h2, h3⟩ := h
  have hA : s.vm.Alike U.vm := hv ▸ Vm.Alike.refl s.vm
  refine ⟨a1.moved hA, a2.moved hA, b1.same rfl hv, b2.same rfl hv, b3.same rfl hv, b4.same rfl hv, b5.same rfl hv, t, ?_, ?_⟩
  · rw [hh]; exact h2.moved hA
  · rw [hh]; exact h3.moved hA
def iPre (dd : va_G) (g : Nat → ClassId) (sz0 b sz : Nat) (e0 : va_E) : Array Value → State → Prop := va_Pc [.ref b] (fun U => U.heap.size = sz ∧ sz0 ≤ b ∧ va_P dd vwCl [(b, e0)] U.heap ∧ va_K dd vwCl (tysW g) U ∧ nX sz0 U)
def iPost (dd : va_G) (b sz m : Nat) (E : (Nat → Nat) → Nat → va_E) : Array Value → State → Outcome → State → Prop := va_Qv (fun (_ : Nat → Nat) => True) (fun a t => a 0 = b ∧ va_P dd vwCl (iW m a (E a)) t.heap ∧ va_D (nA b sz) (iW m a (E a))) (nA b sz)
theorem iPre_blind (dd : va_G) (g : Nat → ClassId) (sz0 b sz : Nat) (e0 : va_E) : FrameBlind (iPre dd g sz0 b sz e0) := fun a U gg mk h => by
  obtain ⟨h0, h1, h2, hP, hK, hX⟩ := h
  exact ⟨h0, h1, h2, hP, va_K.moved (u := U) (U := U.calling gg mk a) (Vm.Alike.refl U.vm) hK, hX.same rfl rfl⟩
def iJ {α : Type} (n : Nat) (f g : Nat → α) : Nat → α := fun r => if r < n then f r else g (r - n)
theorem iW_app {n m : Nat} {a b : Nat → Nat} {e f : Nat → va_E} : iW n a e ++ iW m b f = iW (n + m) (iJ n a b) (iJ n e f) := by
  apply List.ext_getElem?
  intro j
  by_cases h : j < n
  · rw [List.getElem?_append_left (by simp [iW, h]), iW_get h, iW_get (by omega)]
    simp [iJ, h]
  · rw [List.getElem?_append_right (by simp [iW]; omega), show (iW n a e).length = n by simp [iW]]
    by_cases h2 : j < n + m
    · rw [iW_get (by omega), iW_get h2]; simp [iJ, h]
    · rw [List.getElem?_eq_none (by simp [iW]; omega), List.getElem?_eq_none (by simp [iW]; omega)]
theorem nW_join {dd : va_G} {n m : Nat} {ad a : Nat → Nat} {en f : Nat → va_E} {A : Nat → Prop} {H0 H H1 : Heap} {locs locs1 : List Loc} (hI : nW dd (n + 1) ad en A H0 H locs) (hA : ∀ q, H0.size ≤ q → A q) (hk : ∀ q : Nat, q < H.size → ¬ nA (ad n) H.size q → H1[q]? = H[q]?) (hS1 : va_S A H0 H1 locs1) (hP1 : va_P dd vwCl (iW m a f) H1) (hD1 : va_D (nA (ad n) H.size) (iW m a f)) : nW dd (n + m) (iJ n ad a) (iJ n en f) A H0 H1 locs1 := by
  have hlt : ∀ i, i < n + 1 → ad i < H.size := fun i hi => (hI.1 i _ (iW_get hi)).lt
  have hne : ∀ i, i < n → ad i ≠ ad n := fun i hi z => by
    have := hI.2.1.1 i n _ _ (iW_get (by omega)) (iW_get (by omega)) z
    omega
  have hP0 : va_P dd vwCl (iW n ad en) H1 := by
    intro k x hx
    obtain ⟨hk2, rfl⟩ := iW_at hx
    have h1 := hI.1 k (ad k, en k) (iW_get (by omega))
    refine h1.kept (hk (ad k) (hlt k (by omega)) ?_)
    rintro (z | z)
    · exact hne k hk2 z
    · have := hlt k (by omega); omega
  refine ⟨by rw [← iW_app]; exact hP0.app hP1, ?_, hS1⟩
  rw [← iW_app]
  refine va_D.app ⟨fun i j x y hx hy z => ?_, fun k x hx => ?_⟩ (hD1.weaken (fun k x hx hz => ?_)) (fun i j x y hx hy z => ?_)
  · obtain ⟨hi, rfl⟩ := iW_at hx
    obtain ⟨hj, rfl⟩ := iW_at hy
    exact hI.2.1.1 i j _ _ (iW_get (by omega)) (iW_get (by omega)) z
  · obtain ⟨hi, rfl⟩ := iW_at hx
    exact hI.2.1.2 k _ (iW_get (show k < n + 1 by omega))
  · rcases hz with hz | hz
    · rw [hz]; exact hI.2.1.2 n (ad n, en n) (iW_get (by omega))
    · exact hA _ (Nat.le_trans hI.2.2.1 hz)
  · obtain ⟨hi, rfl⟩ := iW_at hx
    have hy2 := hD1.2 j y hy
    rcases hy2 with hy2 | hy2
    · rw [hy2] at z; exact hne i hi z
    · have := hlt i (by omega); rw [← z] at hy2; exact absurd hy2 (by show ¬ H.size ≤ ad i; omega)
section NC
variable {p : Program} {l : Launch} {e : Env} {R : Room} {s : State} {m : MethodId} {args : Array Value} {below : List Frame} {meth : Method} {c : Code} {H : Heap} {locs : List Loc} {cells slots : Nat} {Q : State → Prop}
variable {cc : ByteArray} {pc : Nat} {ls : Array Slot} {rest : List Value} {dd : va_G} {g : Nat → ClassId} {A : Nat → Prop} {H0 : Heap} {own0 : String} {Ts : List Cond} {n : Nat} {ad : Nat → Nat} {en : Nat → va_E}
variable {nL index maxL : Nat} {y : MethodName} {bytes : ByteArray} {ws : List Cond} {rm : Room} {lv : List (Nat × Value)}
theorem n_pre {sz0 : Nat} (hK : va_K dd vwCl (tysW g) s) (hX : nX sz0 s) (hI : nW dd (n + 1) ad en A s.heap H locs) (hA0 : ∀ q, A q → sz0 ≤ q) {e0 : va_E} (he : en n = e0) : PreS s H (iPre dd g sz0 (ad n) H.size e0) [.ref (ad n)] := by
  refine ⟨iPre_blind dd g sz0 (ad n) H.size e0, fun U hU hW => ⟨rfl, by rw [hU], hA0 _ (hI.2.1.2 n _ (iW_get (by omega))), ?_, va_K.moved hW.alike hK, hX.moved hA0 hI.2.2 hU hW⟩⟩
  rw [hU]
  intro k x hx
  have hk : k < 1 := (List.getElem?_eq_some_iff.mp hx).1
  rw [show k = 0 by omega] at hx
  cases hx
  have := hI.1 n (ad n, en n) (iW_get (by omega))
  rw [he] at this
  exact this
theorem n_init {sz0 mm mc ms : Nat} (hx : p.tables.exec = Jvm.exec) (hb : c.code = cc) (hml : c.maxLocals = nL) (hown : s.vm.findClass own0 = some m.cls) (hts : ∀ w ∈ Ts, w.before args s = true) (hK : va_K dd vwCl (tysW g) s) (hX : nX sz0 s) (hI : nW dd (n + 1) ad en A s.heap H locs) (hA : ∀ q, s.heap.size ≤ q → A q) (hA0 : ∀ q, A q → sz0 ≤ q) {e0 : va_E} (he : en n = e0) {E : (Nat → Nat) → Nat → va_E} (hM : Met l y ws rm (iPre dd g sz0 (ad n) H.size e0) (iPost dd (ad n) H.size mm E) mc ms (nA (ad n) H.size)) (cw : CallB R s args own0 index y bytes maxL none ws rm mc ms 0 ∧ y.name = "<init>" ∧ (Cond.instanceMethod y).before args s = true) (hl : lv_has ls nL lv) (hr : (rest.map fun v => v.category).sum ≤ 8) (hcs : cells + mc ≤ R.cells ∧ slots + ms ≤ R.slots) (hdg : decode cc pc = .ok (.invokespecial index, 3))
    (kk : ∀ (a : Nat → Nat) (H1 : Heap) (locs1 : List Loc), a 0 = ad n → nW dd (n + mm) (iJ n ad a) (iJ n en (E a)) A s.heap H1 locs1 → W p l e R s m args below meth c H1 locs1 (cells + mc) (slots + ms) Q (F0 m (pc + 3) ls rest)) : W p l e R s m args below meth c H locs cells slots Q (F0 m pc ls (.ref (ad n) :: rest)) := by
  have hf : ∀ q, nA (ad n) H.size q → A q := fun q h => by
    rcases h with h | h
    · rw [h]; exact hI.2.1.2 n (ad n, en n) (iW_get (by omega))
    · exact hA q (Nat.le_trans hI.2.2.1 h)
  refine va_callv (va_runI (As := []) (rest := rest) ⟨hx, hb, hml, hown, hts⟩ hM cw (n_pre hK hX hI hA0 he) rfl rfl hl.1 rfl (lv_room hr) hdg hcs) hI.2.2 (fun q _ h => hf q h) hf (fun a t H1 locs1 ht _ _ hB _ hk hS => ?_)
  obtain ⟨h0, hP1, hD1⟩ := hB
  rw [ht] at hP1
  exact kk a H1 locs1 h0 (nW_join hI hA hk hS hP1 hD1)
theorem n_initN {sz0 mm mc ms : Nat} {host : String} (hx : p.tables.exec = Jvm.exec) (hb : c.code = cc) (hml : c.maxLocals = nL) (hown : s.vm.findClass own0 = some m.cls) (hts : ∀ w ∈ Ts, w.before args s = true) (hK : va_K dd vwCl (tysW g) s) (hX : nX sz0 s) (hI : nW dd (n + 1) ad en A s.heap H locs) (hA : ∀ q, s.heap.size ≤ q → A q) (hA0 : ∀ q, A q → sz0 ≤ q) {e0 : va_E} (he : en n = e0) {E : (Nat → Nat) → Nat → va_E} (hM : Met l y ws rm (iPre dd g sz0 (ad n) H.size e0) (iPost dd (ad n) H.size mm E) mc ms (nA (ad n) H.size)) (cw : va_CN R s args own0 index y host bytes maxL none ws rm mc ms 0 ∧ y.name = "<init>" ∧ (Cond.instanceMethod y).before args s = true) (hl : lv_has ls nL lv) (hr : (rest.map fun v => v.category).sum ≤ 8) (hcs : cells + mc ≤ R.cells ∧ slots + ms ≤ R.slots) (hdg : decode cc pc = .ok (.invokespecial index, 3))
    (kk : ∀ (a : Nat → Nat) (H1 : Heap) (locs1 : List Loc), a 0 = ad n → nW dd (n + mm) (iJ n ad a) (iJ n en (E a)) A s.heap H1 locs1 → W p l e R s m args below meth c H1 locs1 (cells + mc) (slots + ms) Q (F0 m (pc + 3) ls rest)) : W p l e R s m args below meth c H locs cells slots Q (F0 m pc ls (.ref (ad n) :: rest)) := by
  have hf : ∀ q, nA (ad n) H.size q → A q := fun q h => by
    rcases h with h | h
    · rw [h]; exact hI.2.1.2 n (ad n, en n) (iW_get (by omega))
    · exact hA q (Nat.le_trans hI.2.2.1 h)
  refine va_callv (va_runIN (As := []) (rest := rest) ⟨hx, hb, hml, hown, hts⟩ hM cw (n_pre hK hX hI hA0 he) rfl rfl hl.1 rfl (lv_room hr) hdg hcs) hI.2.2 (fun q _ h => hf q h) hf (fun a t H1 locs1 ht _ _ hB _ hk hS => ?_)
  obtain ⟨h0, hP1, hD1⟩ := hB
  rw [ht] at hP1
  exact kk a H1 locs1 h0 (nW_join hI hA hk hS hP1 hD1)
end NC
