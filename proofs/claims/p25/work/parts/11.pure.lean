/-! the walk's goal, returns, and the pure words of a beat's state (f: the table's row 0, a place as the model has it) -/
abbrev wk (p : Program) (l : Launch) (e : Env) (ws : List Cond) (rm : Room) (s : State) (m : MethodId) (av : List Value) (below : List Frame) (meth : Method) (c : Code) (H : Heap) (locs : List Loc) (Qc : Array Value → State → Outcome → State → Prop) (A : Nat → Prop) (fr : JFrame) : Prop :=
  W p l e (headSpec ws rm).room s m av.toArray below meth c H locs 0 0 (MQ below Qc av.toArray s 0 0 A) fr
section MB
variable {p : Program} {l : Launch} {e : Env} {R : Room} {s : State} {m : MethodId} {args : Array Value} {below : List Frame} {meth : Method} {c : Code} {H : Heap} {locs : List Loc} {cells slots : Nat} {Q : State → Prop}
variable {cc : ByteArray} {pc : Nat} {ls : Array Slot} {rest : List Value} {dd : va_G} {g : Nat → ClassId} {A : Nat → Prop} {q : Nat → Nat} {M : MS}
theorem lv_re {x y : Int32} (h : x = y) (k : W p l e R s m args below meth c H locs cells slots Q (F0 m pc ls (.int y :: rest))) : W p l e R s m args below meth c H locs cells slots Q (F0 m pc ls (.int x :: rest)) := h ▸ k
theorem s_iret {v : Int32} {post : Int32 → Prop} (hx : p.tables.exec = Jvm.exec) (hb : c.code = cc) (hr : meth.sig.returnType = some .int) (hS : va_S (fun _ => False) s.heap H locs) (hp : post v) (hdg : decode cc pc = .ok (.ireturn, 1)) (hlocks : meth.locks = false) : W p l e R s m args below meth c H locs cells slots (MQ below (sQi post) args s cells slots (fun _ => False)) (F0 m pc ls [.int v]) :=
  W.iret (v := v) hx hb hr (fun t ht hW => ⟨⟨v, (), rfl, hp, trivial⟩, hS.F ht⟩) hS.2.2 hdg hlocks
theorem s_zret {v : Int32} {ty : FieldType} {post : Int32 → Prop} (hx : p.tables.exec = Jvm.exec) (hb : c.code = cc) (hr : meth.sig.returnType = some ty) (hn : narrow ty (.int v) = .int v) (hS : va_S (fun _ => False) s.heap H locs) (hp : post v) (hdg : decode cc pc = .ok (.ireturn, 1)) (hlocks : meth.locks = false) : W p l e R s m args below meth c H locs cells slots (MQ below (sQi post) args s cells slots (fun _ => False)) (F0 m pc ls [.int v]) :=
  W.zret (v := v) hx hb hr hn (fun t ht hW => ⟨⟨v, (), rfl, hp, trivial⟩, hS.F ht⟩) hS.2.2 hdg hlocks
end MB
/-! a row of the table changed as a whole -/
def ms0 (M : MS) (f : Nat → Int32) : MS := fun a => if a = 0 then f else M a
theorem ms0_0 (M : MS) (f : Nat → Int32) : ms0 M f 0 = f := rfl
theorem ms0_ms0 (M : MS) (f h : Nat → Int32) : ms0 (ms0 M f) h = ms0 M h := by funext a; simp only [ms0]; split <;> rfl
theorem ms0_self (M : MS) : ms0 M (M 0) = M := by
  funext a; simp only [ms0]; split
  · next h => rw [h]
  · rfl
theorem ms0_k (M : MS) (f : Nat → Int32) {k : Nat} (h : k ≠ 0) : ms0 M f k = M k := by simp [ms0, h]
theorem mset_0 (M : MS) (j : Nat) (x : Int32) : mset M 0 j x = ms0 M (upd (M 0) j x) := by
  funext a b; by_cases h : a = 0
  · subst h; simp [mset, ms0, upd]
  · simp [mset, ms0, h]
theorem upd_self {f : Nat → Int32} {k : Nat} {x : Int32} : upd f k x k = x := by simp [upd]
theorem upd_ne {f : Nat → Int32} {k j : Nat} {x : Int32} (h : j ≠ k) : upd f k x j = f j := by simp [upd, h]
theorem upd_id (f : Nat → Int32) (k : Nat) : upd f k (f k) = f := by
  funext j; simp only [upd]; split
  · next h => rw [h]
  · rfl
theorem upd_upd (f : Nat → Int32) (k : Nat) (x y : Int32) : upd (upd f k x) k y = upd f k y := by
  funext j; simp only [upd]; split <;> rfl
/-! numbers -/
def jabs (x : Int32) : Int32 := if 0 ≤ x then x else -x
def inB (v lo hi : Int32) : Bool := decide (¬ v < lo) && decide (¬ hi < v)
theorem inB_t {v lo hi : Int32} : inB v lo hi = true ↔ ¬ v < lo ∧ ¬ hi < v := by simp [inB]
theorem inB_f {v lo hi : Int32} : inB v lo hi = false ↔ ¬ (¬ v < lo ∧ ¬ hi < v) := by rw [← inB_t]; simp
def manyN (x : Int32) : Nat → Int32
  | 0 => 0
  | k + 1 => manyN x k + (x >>> (nI k &&& 31) &&& 1)
/-! the state: how many clocks, ladders; what a loop over them says -/
def cn (f : Nat → Int32) : Nat := (f 5).toNatClampNeg
def ln (f : Nat → Int32) : Nat := (f 6).toNatClampNeg
def Wk (f : Nat → Int32) : Prop := f 5 = nI (cn f) ∧ cn f ≤ 16 ∧ f 6 = nI (ln f) ∧ ln f ≤ 4
def isC (f : Nat → Int32) (c : Int32) (i : Nat) : Prop := i < cn f ∧ c = nI i
theorem Wk.congr {f h : Nat → Int32} (w : Wk f) (e5 : h 5 = f 5) (e6 : h 6 = f 6) : Wk h ∧ cn h = cn f ∧ ln h = ln f := by
  have a : cn h = cn f := by simp only [cn, e5]
  have b : ln h = ln f := by simp only [ln, e6]
  refine ⟨⟨by rw [a, e5]; exact w.1, by rw [a]; exact w.2.1, by rw [b, e6]; exact w.2.2.1, by rw [b]; exact w.2.2.2⟩, a, b⟩
def rt (f : Nat → Int32) (c : Nat) : Int32 := f (12 + 8 * c + 2) + 3 * f (12 + 8 * c + 3)
def offB (f : Nat → Int32) (c : Nat) (t : Int32) : Bool := decide (¬ jabs (f (12 + 8 * c + 4)) ≤ t)
def o2i (o : Option Nat) : Int32 := match o with | none => -6 | some k => nI k
/-- the ladder for a clock of r rungs, among the first k -/
def ladP (f : Nat → Int32) (r : Int32) : Nat → Option Nat
  | 0 => none
  | k + 1 => match ladP f r k with
    | none => if ¬ r ≤ 0 ∧ ¬ f (8 + k) < r then some k else none
    | some j => if (¬ r ≤ 0 ∧ ¬ f (8 + k) < r) ∧ ¬ f (8 + j) ≤ f (8 + k) then some k else some j
theorem ladP_lt (f : Nat → Int32) (r : Int32) : ∀ (k j : Nat), ladP f r k = some j → j < k := by
  intro k
  induction k with
  | zero => intro j h; cases h
  | succ k ih =>
    intro j h
    unfold ladP at h
    split at h
    · split at h
      · cases h; omega
      · cases h
    · next i hi =>
      have := ih i hi
      split at h
      · cases h; omega
      · cases h; omega
def ladF (f : Nat → Int32) (c : Nat) : Option Nat := ladP f (f (12 + 8 * c + 1)) (ln f)
def canW (f : Nat → Int32) (c : Nat) : Bool := decide (f (12 + 8 * c + 1) = 0) || (ladF f c).isSome
theorem canW_t {f : Nat → Int32} {c : Nat} : canW f c = true ↔ f (12 + 8 * c + 1) = 0 ∨ ladF f c ≠ none := by
  unfold canW
  cases ladF f c <;> simp
theorem canW_f {f : Nat → Int32} {c : Nat} : canW f c = false ↔ ¬ (f (12 + 8 * c + 1) = 0 ∨ ladF f c ≠ none) := by rw [← canW_t]; simp
def dayM (f : Nat → Int32) (c : Nat) : Nat → Int32 :=
  if f (12 + 8 * c + 6) = 1 then
    if ¬ f (12 + 8 * c + 5) + 1 ≤ f 1 then upd (upd (upd (upd f (12 + 8 * c + 5) (f (12 + 8 * c + 5) + 1)) (12 + 8 * c + 4) (f (12 + 8 * c + 4) + rt f c)) (12 + 8 * c + 6) 0) (12 + 8 * c + 4) 43200
    else upd (upd f (12 + 8 * c + 5) (f (12 + 8 * c + 5) + 1)) (12 + 8 * c + 4) (f (12 + 8 * c + 4) + rt f c)
  else upd f (12 + 8 * c + 5) (f (12 + 8 * c + 5) + 1)
def stillN (f : Nat → Int32) : Nat → Int32
  | 0 => 0
  | k + 1 => stillN f k ||| (if f (12 + 8 * k + 6) = 1 then (0 : Int32) else (1 : Int32) <<< (nI k &&& 31))
theorem isC_iff {f : Nat → Int32} (w : Wk f) (x : Int32) : inB x 0 (f 5 - 1) = true ↔ ∃ i, isC f x i := by
  rw [inB_t]
  obtain ⟨h5, h16, -, -⟩ := w
  have e1 : (f 5 - 1).toInt = (cn f : Int) - 1 := by
    rw [h5]
    have := pk_sub_toInt (a := cn f) (b := 1) (by omega) (by omega)
    exact this
  constructor
  · rintro ⟨h1, h2⟩
    obtain ⟨j, hj, rfl⟩ := nI_of h1
    refine ⟨j, ?_, rfl⟩
    have h3 : ¬ (f 5 - 1).toInt < (nI j).toInt := fun z => h2 (Int32.lt_iff_toInt_lt.mpr z)
    rw [e1, nI_toInt hj] at h3
    omega
  · rintro ⟨i, hi, rfl⟩
    refine ⟨nI_pos (by omega), fun z => ?_⟩
    have h3 := Int32.lt_iff_toInt_lt.mp z
    rw [e1, nI_toInt (by omega)] at h3
    omega
theorem nI_nm {n : Nat} (h : n < 2 ^ 31) : nI n ≠ -6 := by
  intro z
  have e : (nI n).toInt = (-6 : Int32).toInt := by rw [z]
  rw [nI_toInt h, show (-6 : Int32).toInt = -6 from by decide] at e
  omega
theorem o2i_ne {o : Option Nat} (h : ∀ k, o = some k → k < 2 ^ 31) : o2i o ≠ -6 ↔ o ≠ none := by
  cases o with
  | none => simp [o2i]
  | some k => simp [o2i, nI_nm (h k rfl)]
theorem ladF_lt {f : Nat → Int32} (w : Wk f) (c : Nat) : ∀ k, ladF f c = some k → k < 2 ^ 31 := fun k h => by
  have := ladP_lt _ _ _ _ h
  have := w.2.2.2
  omega
