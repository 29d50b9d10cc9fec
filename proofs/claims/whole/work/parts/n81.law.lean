/-! the law's own world: the class's cells and the reference's, apart from one another -/
def cF (ad : Nat → Nat) : Nat → Prop := fun z => ∃ i : Nat, i < 212 ∧ z = ad i
def mF (q : Nat → Nat) : Nat → Prop := fun z => ∃ i : Nat, i < 9 ∧ z = q i
theorem cF_A {A : Nat → Prop} {ad : Nat → Nat} (h : cA A ad) : cA (cF ad) ad := ⟨h.1, fun i hi => ⟨i, hi, rfl⟩⟩
theorem mF_A {A : Nat → Prop} {q : Nat → Nat} (h : mA A q) : mA (mF q) q := ⟨h.1, fun i hi => ⟨i, hi, rfl⟩⟩
theorem cF_sub {A : Nat → Prop} {ad : Nat → Nat} (h : cA A ad) : ∀ z, cF ad z → A z := fun z k => by
  obtain ⟨i, hi, e⟩ := k
  rw [e]; exact h.2 i hi
theorem mF_sub {A : Nat → Prop} {q : Nat → Nat} (h : mA A q) : ∀ z, mF q z → A z := fun z k => by
  obtain ⟨i, hi, e⟩ := k
  rw [e]; exact h.2 i hi
theorem cX.narrow {A B : Nat → Prop} {U : State} (h : cX A U) (hs : ∀ q, B q → A q) : cX B U := by
  obtain ⟨h1, h0, t, h2, h3⟩ := h
  exact ⟨h1, h0, t, h2.narrow hs, h3.narrow hs⟩
def LI (dd : va_G) (g : Nat → ClassId) (ad q : Nat → Nat) (A : Nat → Prop) (pi : Nat → Nat) (C M : MS) (H0 H : Heap) (locs : List Loc) : Prop := cP dd g ad pi H C ∧ mP dd g q H M ∧ va_S A H0 H locs
def lA (s : State) : Nat → Prop := fun z => s.heap.size ≤ z
def LEnv (p : Program) (s : State) (m : MethodId) (meth : Method) (c : Code) (b L : Nat) (xs : Nat → Int32) (dd : va_G) (g : Nat → ClassId) (ad q : Nat → Nat) : Prop :=
  p.tables.exec = Jvm.exec ∧ c.code = cL_law ∧ c.maxLocals = 4 ∧ s.vm.findClass RL = some m.cls ∧ (∀ w ∈ wsL_law, w.before #[Value.ref b] s = true) ∧ va_X b L xs s s.heap ∧ b < s.heap.size ∧ va_K dd vwCl (tysW g) s ∧ cX (lA s) s ∧ cA (lA s) ad ∧ mA (lA s) q ∧ ∀ i j : Nat, i < 212 → j < 9 → ad i ≠ q j
section LW
variable {p : Program} {l : Launch} {e : Env} {R : Room} {s : State} {m : MethodId} {args : Array Value} {below : List Frame} {meth : Method} {c : Code} {H : Heap} {locs : List Loc} {cells slots : Nat} {Q : State → Prop}
variable {cc : ByteArray} {pc : Nat} {ls : Array Slot} {rest : List Value} {dd : va_G} {g : Nat → ClassId} {A : Nat → Prop} {ad q pi : Nat → Nat} {C M : MS} {own0 : String} {Ts : List Cond}
variable {nL index n maxL : Nat} {y : MethodName} {bytes : ByteArray} {ret0 : Option FieldType} {ws : List Cond} {rm : Room} {As : List Value} {lv : List (Nat × Value)}
theorem l_c (hx : p.tables.exec = Jvm.exec) (hb : c.code = cc) (hml : c.maxLocals = nL) (hown : s.vm.findClass own0 = some m.cls) (hts : ∀ w ∈ Ts, w.before args s = true) (hK : va_K dd vwCl (tysW g) s) (hX : cX A s) (hA : cA A ad) (hB : mA A q) (hap : ∀ i j : Nat, i < 212 → j < 9 → ad i ≠ q j) (hI : LI dd g ad q A pi C M s.heap H locs) {post : Int32 → MS → (Nat → Nat) → Prop} (hM : Met l y ws rm (cPre dd g ad pi (cF ad) C (.ref (ad 0) :: As)) (cQi dd g ad (cF ad) post) 0 0 (cF ad)) (cw : CallW R s args own0 RX5 index y bytes maxL ret0 ws rm 0 0 n) (hn : As.length = n) (hl : lv_has ls nL lv) (hr : (rest.map fun v => v.category).sum ≤ 8) (hcs : cells ≤ R.cells ∧ slots ≤ R.slots) (hdg : decode cc pc = .ok (.invokevirtual index, 3)) {st : List Value} (hst : st = As.reverse ++ .ref (ad 0) :: rest)
    (kk : ∀ (r : Int32) (C1 : MS) (pi1 : Nat → Nat) (H1 : Heap) (locs1 : List Loc), post r C1 pi1 → LI dd g ad q A pi1 C1 M s.heap H1 locs1 → W p l e R s m args below meth c H1 locs1 cells slots Q (F0 m (pc + 3) ls (.int r :: rest))) : W p l e R s m args below meth c H locs cells slots Q (F0 m pc ls st) := by
  obtain ⟨fs, hE⟩ : ∃ fs, cE ad g pi C 0 = .inr (5, fs) := ⟨_, cE_0⟩
  have he : (cW g ad pi C)[0]? = some (ad 0, .inr (5, fs)) := by rw [cW_get (by decide), hE]
  refine va_calli (va_runV (As := As) (rest := rest) ⟨hx, hb, hml, hown, hts⟩ hM cw ⟨cPre_blind dd g ad pi (cF ad) C _, va_recv hK hI.1 (rfl : vwCl[5]? = some (RX5, TX5, 7)) he, fun U hU hW => ⟨rfl, by rw [hU]; exact hI.1, va_K.moved hW.alike hK, (hX.moved hI.2.2 hU hW).narrow (cF_sub hA)⟩⟩ rfl hn hl.1 hst (lv_room hr) hdg hcs) hI.2.2 (fun z _ h => cF_sub hA z h) (fun z h => cF_sub hA z h) (fun r u t H1 locs1 ht _ hp hB2 _ hk hS => ?_)
  refine kk r u.1 u.2 H1 locs1 hp ⟨by rw [← ht]; exact hB2, hI.2.1.kept (fun k x hx9 => hk x.1 (hI.2.1 k x hx9).lt (fun z => ?_)), hS⟩
  obtain ⟨i, hi, e9⟩ := z
  obtain ⟨hk9, ex⟩ := mW_at g q M hx9
  exact hap i k hi hk9 (by rw [← e9, ex])
theorem l_m (hx : p.tables.exec = Jvm.exec) (hb : c.code = cc) (hml : c.maxLocals = nL) (hown : s.vm.findClass own0 = some m.cls) (hts : ∀ w ∈ Ts, w.before args s = true) (hK : va_K dd vwCl (tysW g) s) (hA : cA A ad) (hB : mA A q) (hap : ∀ i j : Nat, i < 212 → j < 9 → ad i ≠ q j) (hI : LI dd g ad q A pi C M s.heap H locs) {post : Int32 → MS → Prop} (hM : Met l y ws rm (mPre dd g q M (.ref (q 0) :: As)) (mQi dd g q (mF q) post) 0 0 (mF q)) (cw : CallW R s args own0 RX6 index y bytes maxL ret0 ws rm 0 0 n) (hn : As.length = n) (hl : lv_has ls nL lv) (hr : (rest.map fun v => v.category).sum ≤ 8) (hcs : cells ≤ R.cells ∧ slots ≤ R.slots) (hdg : decode cc pc = .ok (.invokevirtual index, 3)) {st : List Value} (hst : st = As.reverse ++ .ref (q 0) :: rest)
    (kk : ∀ (r : Int32) (M1 : MS) (H1 : Heap) (locs1 : List Loc), post r M1 → LI dd g ad q A pi C M1 s.heap H1 locs1 → W p l e R s m args below meth c H1 locs1 cells slots Q (F0 m (pc + 3) ls (.int r :: rest))) : W p l e R s m args below meth c H locs cells slots Q (F0 m pc ls st) := by
  refine va_calli (va_runV (As := As) (rest := rest) ⟨hx, hb, hml, hown, hts⟩ hM cw ⟨mPre_blind dd g q M _, va_recv hK hI.2.1 (ci := 6) (q0 := 0) rfl rfl, fun U hU hW => ⟨rfl, by rw [hU]; exact hI.2.1, va_K.moved hW.alike hK⟩⟩ rfl hn hl.1 hst (lv_room hr) hdg hcs) hI.2.2 (fun z _ h => mF_sub hB z h) (fun z h => mF_sub hB z h) (fun r u t H1 locs1 ht _ hp hB2 _ hk hS => ?_)
  refine kk r u H1 locs1 hp ⟨hI.1.kept (fun k x hx9 => hk x.1 (hI.1 k x hx9).lt (fun z => ?_)), by rw [← ht]; exact hB2, hS⟩
  obtain ⟨j, hj, e9⟩ := z
  obtain ⟨hk9, ex⟩ := cW_at hx9
  refine hap k j hk9 hj ?_
  rw [← e9, ex]
end LW
