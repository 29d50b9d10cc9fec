abbrev vwCl : List vw_C := [(RX0, TX0, 8), (RX1, TX1, 2), (RX2, TX2, 5), (RX3, TX3, 2), (RX4, TX4, 7), (RX5, TX5, 7)]
/-! the worlds: the model's nine cells by one table of numbers M (M k j: the k-th field, place j) -/
abbrev MS : Type := Nat → Nat → Int32
def mset (M : MS) (k j : Nat) (x : Int32) : MS := fun a b => if a = k ∧ b = j then x else M a b
theorem mset_row (M : MS) (k j : Nat) (x : Int32) : mset M k j x k = upd (M k) j x := by
  funext b; simp [mset, upd]
theorem mset_ne (M : MS) {k a : Nat} (h : a ≠ k) (j : Nat) (x : Int32) : mset M k j x a = M a := by
  funext b; simp [mset, h]
theorem mset_eq (M : MS) (k j : Nat) (x : Int32) : mset M k j x k j = x := by simp [mset]
theorem mset_nj (M : MS) {k j b : Nat} (h : b ≠ j) (x : Int32) (a : Nat) : mset M k j x a b = M a b := by simp [mset, h]
theorem mset_nk (M : MS) {k a : Nat} (h : a ≠ k) (j b : Nat) (x : Int32) : mset M k j x a b = M a b := by simp [mset, h]
abbrev tysW (g : Nat → ClassId) : List (ClassId × FieldType) := [(g 0, .int), (g 1, .char), (g 2, .boolean), (g 3, .object "WinderLadders$Clock"), (g 4, .object "WinderLadders$State")]
theorem arrV_congr (cA : ClassId) {N : Nat} {f h : Nat → Value} (e : ∀ j, j < N → f j = h j) : arrV cA N f = arrV cA N h := by
  unfold arrV
  rw [show (fun j : Fin N => f j.val) = (fun j : Fin N => h j.val) from funext fun j => e j.val j.isLt]
/-- a function of numbers: it reads and writes no cell -/
def sPre (av : List Value) : Array Value → State → Prop := va_Pc av (fun _ => True)
def sQi (post : Int32 → Prop) : Array Value → State → Outcome → State → Prop := va_Qi (fun r (_ : Unit) => post r) (fun _ _ => True) (fun _ => False)
theorem sPre_blind (av : List Value) : FrameBlind (sPre av) := fun a U gg mk h => ⟨h.1, trivial⟩
section MR
variable {p : Program} {l : Launch} {e : Env} {R : Room} {s : State} {m : MethodId} {args : Array Value} {below : List Frame} {meth : Method} {c : Code} {H : Heap} {locs : List Loc} {cells slots : Nat} {Q : State → Prop}
variable {cc : ByteArray} {pc : Nat} {ls : Array Slot} {rest : List Value} {dd : va_G} {g : Nat → ClassId} {A : Nat → Prop} {q : Nat → Nat} {M : MS} {H0 : Heap} {own : String} {Ts : List Cond}
variable {nL index n maxL : Nat} {y : MethodName} {bytes : ByteArray} {ret : Option FieldType} {ws : List Cond} {rm : Room} {As : List Value} {lv : List (Nat × Value)}
/-- a static call of a function of numbers -/
theorem s_calli (hx : p.tables.exec = Jvm.exec) (hb : c.code = cc) (hml : c.maxLocals = nL) (hown : s.vm.findClass own = some m.cls) (hts : ∀ w ∈ Ts, w.before args s = true) (hS : va_S A H0 H locs) {post : Int32 → Prop} (hM : Met l y ws rm (sPre As) (sQi post) 0 0 (fun _ => False)) (cw : CallB R s args own index y bytes maxL ret ws rm 0 0 n ∧ (Cond.static y).before args s = true) (hn : As.length = n) (hl : lv_has ls nL lv) (hr : (rest.map fun v => v.category).sum ≤ 8) (hc : cells ≤ R.cells ∧ slots ≤ R.slots) (hdg : decode cc pc = .ok (.invokestatic index, 3)) {st : List Value} (hst : st = As.reverse ++ rest)
    (kk : ∀ (r : Int32) (H1 : Heap) (locs1 : List Loc), post r → (∀ q : Nat, q < H.size → H1[q]? = H[q]?) → va_S A H0 H1 locs1 → W p l e R s m args below meth c H1 locs1 cells slots Q (F0 m (pc + 3) ls (.int r :: rest))) : W p l e R s m args below meth c H locs cells slots Q (F0 m pc ls st) := by
  refine va_calli (va_runS (As := As) (rest := rest) ⟨hx, hb, hml, hown, hts⟩ hM cw ⟨sPre_blind _, fun U hU hW => ⟨rfl, trivial⟩⟩ rfl hn hl.1 hst (lv_room hr) hdg hc) hS (fun _ _ h => h.elim) (fun _ h => h.elim) (fun r u t H1 locs1 ht _ hp hB _ hk hS => ?_)
  exact kk r H1 locs1 hp (fun q h => hk q h (fun z => z)) hS
end MR
