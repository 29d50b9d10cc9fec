/-! the law's own world -/
def lA (s : State) : Nat → Prop := fun z => s.heap.size ≤ z
def LEnv (p : Program) (s : State) (m : MethodId) (meth : Method) (c : Code) (b L : Nat) (xs : Nat → Int32) (dd : va_G) (g : Nat → ClassId) (ad : Nat → Nat) : Prop :=
  p.tables.exec = Jvm.exec ∧ c.code = cL_law ∧ c.maxLocals = 6 ∧ s.vm.findClass RL = some m.cls ∧ (∀ w ∈ wsL_law, w.before #[Value.ref b] s = true) ∧ va_X b L xs s s.heap ∧ b < s.heap.size ∧ va_K dd vwCl (tysW g) s ∧ cX (lA s) s ∧ cA (lA s) ad
section LW
variable {p : Program} {l : Launch} {e : Env} {R : Room} {s : State} {m : MethodId} {args : Array Value} {below : List Frame} {meth : Method} {c : Code} {H : Heap} {locs : List Loc} {cells slots : Nat} {Q : State → Prop}
variable {cc : ByteArray} {pc : Nat} {ls : Array Slot} {rest : List Value} {dd : va_G} {g : Nat → ClassId} {A : Nat → Prop} {ad pi : Nat → Nat} {C : MS} {own0 : String} {Ts : List Cond}
variable {nL index n maxL : Nat} {bytes : ByteArray} {ret0 : Option FieldType} {lv : List (Nat × Value)}
theorem l_cell (hx : p.tables.exec = Jvm.exec) (hb : c.code = cc) (hml : c.maxLocals = nL) (hown : s.vm.findClass own0 = some m.cls) (hts : ∀ w ∈ Ts, w.before args s = true) {b L : Nat} {xs : Nat → Int32} (hX : va_X b L xs s s.heap) (hbl : b < s.heap.size) (hbA : ¬ A b) (hI : cI dd g ad pi A s.heap H locs C) (hL : L ≤ 260) (k : Nat) (hk : k ≤ 56) (cw : CallB R s args own0 index yL_cell bytes maxL ret0 wsL_cell { frames := 0, cells := 0, slots := 0, locals := 0 } 0 0 2 ∧ (Cond.static yL_cell).before args s = true) (hl : lv_has ls nL lv) (hr : (rest.map fun v => v.category).sum ≤ 8) (hcs : cells ≤ R.cells ∧ slots ≤ R.slots) (hdg : decode cc pc = .ok (.invokestatic index, 3)) {st : List Value} (hst : st = .int (nI k) :: .ref b :: rest)
    (kk : ∀ (r : Int32) (H1 : Heap) (locs1 : List Loc), cI dd g ad pi A s.heap H1 locs1 C → W p l e R s m args below meth c H1 locs1 cells slots Q (F0 m (pc + 3) ls (.int r :: rest))) : W p l e R s m args below meth c H locs cells slots Q (F0 m pc ls st) := by
  refine va_calli (va_runS (As := [.ref b, .int (nI k)]) (rest := rest) ⟨hx, hb, hml, hown, hts⟩ (k_L_cell l b L xs hL k hk) cw ⟨clPre_blind b L xs _, fun U hU hW => ⟨rfl, by rw [hU]; exact va_X.moved hW.alike (hX.kept (hI.2.2.1 b hbl hbA)), by rw [hU]; exact Nat.lt_of_lt_of_le hbl hI.2.1⟩⟩ rfl rfl hl.1 hst (lv_room hr) hdg hcs) hI.2 (fun _ _ h => h.elim) (fun _ h => h.elim) (fun r u t H1 locs1 ht _ hp hB _ hk hS => ?_)
  exact kk r H1 locs1 (c_kept hI (fun q h => hk q h (fun z => z)) hS)
end LW
