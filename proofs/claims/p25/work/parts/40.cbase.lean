/-! the class's cells: 212 of them, by number; the numbers in one table C (rows 0..9: the States, laid out as the model's; 10: lengths and counters; 11 slotHolds; 12 signs; 13, 14 the numbers of the two Rows; 15 lasting); pi: which State the history's places hold -/
def cE (ad : Nat → Nat) (g : Nat → ClassId) (pi : Nat → Nat) (C : MS) (i : Nat) : va_E :=
  if i < 11 then
    (match i with
     | 0 => .inr (5, [.ref (ad (11 + 20 * 0)), .ref (ad 1), .ref (ad 3), .ref (ad 4), .ref (ad 5), .ref (ad 9), .ref (ad 211)])
     | 1 => .inr (1, [.ref (ad 2), .int (C 10 0)])
     | 2 => .inl (g 4, 7, .inr (.inr (.inr (.inr (fun j => some (ad (11 + 20 * pi j)))))))
     | 3 => .inl (g 4, 2, .inr (.inr (.inr (.inr (fun j => some (ad (11 + 20 * (8 + j))))))))
     | 4 => .inl (g 2, 2, .inl (C 11))
     | 5 => .inr (2, [.ref (ad 6), .ref (ad 7), .int (C 10 1), .int (C 10 2), .int (C 10 3)])
     | 6 => .inl (g 1, 80, .inl (C 12))
     | 7 => .inr (3, [.ref (ad 8), .int (C 10 4)])
     | 8 => .inl (g 0, 40, .inl (C 13))
     | 9 => .inr (3, [.ref (ad 10), .int (C 10 5)])
     | _ => .inl (g 0, 40, .inl (C 14)))
  else if i = 211 then .inl (g 0, 16, .inl (C 15))
  else
    if (i - 11) % 20 = 0 then .inr (4, [.ref (ad (12 + 20 * ((i - 11) / 20))), .ref (ad (13 + 20 * ((i - 11) / 20))), .ref (ad (14 + 20 * ((i - 11) / 20))), .int (C ((i - 11) / 20) 5), .int (C ((i - 11) / 20) 6), .int (C ((i - 11) / 20) 4), .int (C ((i - 11) / 20) 7)])
    else if (i - 11) % 20 = 1 then .inl (g 0, 4, .inl (fun j => if j < 4 then C ((i - 11) / 20) j else 0))
    else if (i - 11) % 20 = 2 then .inl (g 3, 16, .inr (.inr (.inr (.inr (fun j => some (ad (15 + 20 * ((i - 11) / 20) + j)))))))
    else if (i - 11) % 20 = 3 then .inl (g 0, 4, .inl (fun j => if j < 4 then C ((i - 11) / 20) (8 + j) else 0))
    else .inr (0, [.int (C ((i - 11) / 20) (12 + 8 * ((i - 11) % 20 - 4) + 0)), .int (C ((i - 11) / 20) (12 + 8 * ((i - 11) % 20 - 4) + 1)), .int (C ((i - 11) / 20) (12 + 8 * ((i - 11) % 20 - 4) + 2)), .int (C ((i - 11) / 20) (12 + 8 * ((i - 11) % 20 - 4) + 3)), .int (C ((i - 11) / 20) (12 + 8 * ((i - 11) % 20 - 4) + 4)), .int (C ((i - 11) / 20) (12 + 8 * ((i - 11) % 20 - 4) + 5)), .int (C ((i - 11) / 20) (12 + 8 * ((i - 11) % 20 - 4) + 7)), .int (C ((i - 11) / 20) (12 + 8 * ((i - 11) % 20 - 4) + 6))])
section CE
variable {ad : Nat → Nat} {g : Nat → ClassId} {pi : Nat → Nat} {C : MS} {k c : Nat}
theorem cE_0 : cE ad g pi C 0 = .inr (5, [.ref (ad (11 + 20 * 0)), .ref (ad 1), .ref (ad 3), .ref (ad 4), .ref (ad 5), .ref (ad 9), .ref (ad 211)]) := rfl
theorem cE_1 : cE ad g pi C 1 = .inr (1, [.ref (ad 2), .int (C 10 0)]) := rfl
theorem cE_2 : cE ad g pi C 2 = .inl (g 4, 7, .inr (.inr (.inr (.inr (fun j => some (ad (11 + 20 * pi j))))))) := rfl
theorem cE_3 : cE ad g pi C 3 = .inl (g 4, 2, .inr (.inr (.inr (.inr (fun j => some (ad (11 + 20 * (8 + j)))))))) := rfl
theorem cE_4 : cE ad g pi C 4 = .inl (g 2, 2, .inl (C 11)) := rfl
theorem cE_5 : cE ad g pi C 5 = .inr (2, [.ref (ad 6), .ref (ad 7), .int (C 10 1), .int (C 10 2), .int (C 10 3)]) := rfl
theorem cE_6 : cE ad g pi C 6 = .inl (g 1, 80, .inl (C 12)) := rfl
theorem cE_7 : cE ad g pi C 7 = .inr (3, [.ref (ad 8), .int (C 10 4)]) := rfl
theorem cE_8 : cE ad g pi C 8 = .inl (g 0, 40, .inl (C 13)) := rfl
theorem cE_9 : cE ad g pi C 9 = .inr (3, [.ref (ad 10), .int (C 10 5)]) := rfl
theorem cE_10 : cE ad g pi C 10 = .inl (g 0, 40, .inl (C 14)) := rfl
theorem cE_211 : cE ad g pi C 211 = .inl (g 0, 16, .inl (C 15)) := rfl
theorem cE_st (hk : k < 10 := by omega) : cE ad g pi C (11 + 20 * k) = .inr (4, [.ref (ad (12 + 20 * k)), .ref (ad (13 + 20 * k)), .ref (ad (14 + 20 * k)), .int (C k 5), .int (C k 6), .int (C k 4), .int (C k 7)]) := by
  unfold cE
  rw [if_neg (by omega), if_neg (by omega), show (11 + 20 * k - 11) / 20 = k by omega, if_pos (by omega)]
theorem cE_se : cE ad g pi C (12 + 20 * k) = .inl (g 0, 4, .inl (fun j => if j < 4 then C k j else 0)) := by
  unfold cE
  rw [if_neg (by omega), if_neg (by omega), show (12 + 20 * k - 11) / 20 = k by omega, if_neg (by omega), if_pos (by omega)]
theorem cE_ck : cE ad g pi C (13 + 20 * k) = .inl (g 3, 16, .inr (.inr (.inr (.inr (fun j => some (ad (15 + 20 * k + j))))))) := by
  unfold cE
  rw [if_neg (by omega), if_neg (by omega), show (13 + 20 * k - 11) / 20 = k by omega, if_neg (by omega), if_neg (by omega), if_pos (by omega)]
theorem cE_la : cE ad g pi C (14 + 20 * k) = .inl (g 0, 4, .inl (fun j => if j < 4 then C k (8 + j) else 0)) := by
  unfold cE
  rw [if_neg (by omega), if_neg (by omega), show (14 + 20 * k - 11) / 20 = k by omega, if_neg (by omega), if_neg (by omega), if_neg (by omega), if_pos (by omega)]
theorem cE_cl (hc : c < 16) : cE ad g pi C (15 + 20 * k + c) = .inr (0, [.int (C k (12 + 8 * c + 0)), .int (C k (12 + 8 * c + 1)), .int (C k (12 + 8 * c + 2)), .int (C k (12 + 8 * c + 3)), .int (C k (12 + 8 * c + 4)), .int (C k (12 + 8 * c + 5)), .int (C k (12 + 8 * c + 7)), .int (C k (12 + 8 * c + 6))]) := by
  unfold cE
  rw [if_neg (by omega), if_neg (by omega), show (15 + 20 * k + c - 11) / 20 = k by omega, show (15 + 20 * k + c - 11) % 20 = 4 + c by omega, if_neg (by omega), if_neg (by omega), if_neg (by omega), if_neg (by omega), show 4 + c - 4 = c by omega]
end CE
/-- which cell holds a number -/
def own (a b : Nat) : Nat :=
  if a = 10 then (if b = 0 then 1 else if b < 4 then 5 else if b = 4 then 7 else if b = 5 then 9 else 1000)
  else if a = 11 then 4 else if a = 12 then 6 else if a = 13 then 8 else if a = 14 then 10 else if a = 15 then 211 else if 10 ≤ a then 1000
  else if b < 4 then 12 + 20 * a else if b < 8 then 11 + 20 * a else if b < 12 then 14 + 20 * a else if b < 140 then 15 + 20 * a + (b - 12) / 8 else 1000
theorem own_lo {a b : Nat} (h : a < 10) : own a b = if b < 4 then 12 + 20 * a else if b < 8 then 11 + 20 * a else if b < 12 then 14 + 20 * a else if b < 140 then 15 + 20 * a + (b - 12) / 8 else 1000 := by
  unfold own
  rw [if_neg (by omega), if_neg (by omega), if_neg (by omega), if_neg (by omega), if_neg (by omega), if_neg (by omega), if_neg (by omega)]
theorem own_cl {k c w : Nat} (hk : k < 10) (hc : c < 16) (hw : w < 8) : own k (12 + 8 * c + w) = 15 + 20 * k + c := by
  rw [own_lo hk, if_neg (by omega), if_neg (by omega), if_neg (by omega), if_pos (by omega), show (12 + 8 * c + w - 12) / 8 = c by omega]
theorem cE_own {ad : Nat → Nat} {g : Nat → ClassId} {pi : Nat → Nat} {C C' : MS} {i : Nat} (hi : i < 212) (h : ∀ a b, own a b = i → C' a b = C a b) : cE ad g pi C' i = cE ad g pi C i := by
  by_cases h11 : i < 11
  · rcases (show i = 0 ∨ i = 1 ∨ i = 2 ∨ i = 3 ∨ i = 4 ∨ i = 5 ∨ i = 6 ∨ i = 7 ∨ i = 8 ∨ i = 9 ∨ i = 10 by omega) with rfl | rfl | rfl | rfl | rfl | rfl | rfl | rfl | rfl | rfl | rfl
    · rfl
    · rw [cE_1, cE_1, h 10 0 (by decide)]
    · rfl
    · rfl
    · rw [cE_4, cE_4, show C' 11 = C 11 from funext fun b => h 11 b (by simp [own])]
    · rw [cE_5, cE_5, h 10 1 (by decide), h 10 2 (by decide), h 10 3 (by decide)]
    · rw [cE_6, cE_6, show C' 12 = C 12 from funext fun b => h 12 b (by simp [own])]
    · rw [cE_7, cE_7, h 10 4 (by decide)]
    · rw [cE_8, cE_8, show C' 13 = C 13 from funext fun b => h 13 b (by simp [own])]
    · rw [cE_9, cE_9, h 10 5 (by decide)]
    · rw [cE_10, cE_10, show C' 14 = C 14 from funext fun b => h 14 b (by simp [own])]
  by_cases h211 : i = 211
  · subst h211
    rw [cE_211, cE_211, show C' 15 = C 15 from funext fun b => h 15 b (by simp [own])]
  · obtain ⟨k, r, hr, rfl⟩ : ∃ k r, r < 20 ∧ i = 11 + 20 * k + r := ⟨(i - 11) / 20, (i - 11) % 20, Nat.mod_lt _ (by decide), by omega⟩
    have hk : k < 10 := by omega
    by_cases r0 : r = 0
    · subst r0
      rw [show 11 + 20 * k + 0 = 11 + 20 * k by omega, cE_st, cE_st, h k 5 (by rw [own_lo hk]; simp), h k 6 (by rw [own_lo hk]; simp), h k 4 (by rw [own_lo hk]; simp), h k 7 (by rw [own_lo hk]; simp)]
    by_cases r1 : r = 1
    · subst r1
      rw [show 11 + 20 * k + 1 = 12 + 20 * k by omega, cE_se, cE_se]
      have e : (fun j => if j < 4 then C' k j else 0) = (fun j => if j < 4 then C k j else 0) := by
        funext j; by_cases z : j < 4
        · rw [if_pos z, if_pos z]; exact h k j (by rw [own_lo hk, if_pos z]; omega)
        · rw [if_neg z, if_neg z]
      rw [e]
    by_cases r2 : r = 2
    · subst r2
      rw [show 11 + 20 * k + 2 = 13 + 20 * k by omega, cE_ck, cE_ck]
    by_cases r3 : r = 3
    · subst r3
      rw [show 11 + 20 * k + 3 = 14 + 20 * k by omega, cE_la, cE_la]
      have e : (fun j => if j < 4 then C' k (8 + j) else 0) = (fun j => if j < 4 then C k (8 + j) else 0) := by
        funext j; by_cases z : j < 4
        · rw [if_pos z, if_pos z]; exact h k (8 + j) (by rw [own_lo hk, if_neg (by omega), if_neg (by omega), if_pos (by omega)]; omega)
        · rw [if_neg z, if_neg z]
      rw [e]
    obtain ⟨c, rfl⟩ : ∃ c, r = 4 + c := ⟨r - 4, by omega⟩
    have hc : c < 16 := by omega
    have e : ∀ w, w < 8 → C' k (12 + 8 * c + w) = C k (12 + 8 * c + w) := fun w hw => h k _ (by rw [own_cl hk hc hw]; omega)
    rw [show 11 + 20 * k + (4 + c) = 15 + 20 * k + c by omega, cE_cl hc, cE_cl hc, e 0 (by decide), e 1 (by decide), e 2 (by decide), e 3 (by decide), e 4 (by decide), e 5 (by decide), e 6 (by decide), e 7 (by decide)]
def cW (g : Nat → ClassId) (ad pi : Nat → Nat) (C : MS) : va_W := (List.range 212).map (fun i => (ad i, cE ad g pi C i))
def cP (dd : va_G) (g : Nat → ClassId) (ad pi : Nat → Nat) (H : Heap) (C : MS) : Prop := va_P dd vwCl (cW g ad pi C) H
def cA (A : Nat → Prop) (ad : Nat → Nat) : Prop := (∀ i j : Nat, i < 212 → j < 212 → ad i = ad j → i = j) ∧ ∀ i : Nat, i < 212 → A (ad i)
theorem cW_get {g : Nat → ClassId} {ad pi : Nat → Nat} {C : MS} {i : Nat} (h : i < 212) : (cW g ad pi C)[i]? = some (ad i, cE ad g pi C i) := by
  unfold cW; rw [List.getElem?_map, List.getElem?_range h]; rfl
theorem cW_at {g : Nat → ClassId} {ad pi : Nat → Nat} {C : MS} {i : Nat} {x : Nat × va_E} (h : (cW g ad pi C)[i]? = some x) : i < 212 ∧ x = (ad i, cE ad g pi C i) := by
  have hi : i < 212 := by
    have := (List.getElem?_eq_some_iff.mp h).1
    simpa [cW] using this
  rw [cW_get hi] at h
  exact ⟨hi, (Option.some.inj h).symm⟩
theorem cA.D {A : Nat → Prop} {ad : Nat → Nat} (h : cA A ad) (g : Nat → ClassId) (pi : Nat → Nat) (C : MS) : va_D A (cW g ad pi C) := by
  refine ⟨fun i j x y hx hy e => ?_, fun k x hx => ?_⟩
  · obtain ⟨hi, ei⟩ := cW_at hx
    obtain ⟨hj, ej⟩ := cW_at hy
    subst ei; subst ej
    exact h.1 i j hi hj e
  · obtain ⟨hi, ei⟩ := cW_at hx
    subst ei
    exact h.2 k hi
/-- one cell is written -/
theorem cP_set {dd : va_G} {g : Nat → ClassId} {ad pi pi' : Nat → Nat} {H : Heap} {C C' : MS} {i : Nat} {e : va_E} (h : va_P dd vwCl ((cW g ad pi C).set i (ad i, e)) H) (hi : cE ad g pi' C' i = e) (ho : ∀ j, j < 212 → j ≠ i → cE ad g pi' C' j = cE ad g pi C j) : cP dd g ad pi' H C' := by
  intro j x hx
  obtain ⟨hj, ex⟩ := cW_at hx
  subst ex
  by_cases hji : j = i
  · subst hji
    have hl : j < (cW g ad pi C).length := by simp [cW, hj]
    have := h j (ad j, e) (by rw [List.getElem?_set_self hl])
    rw [hi]; exact this
  · have := h j (ad j, cE ad g pi C j) (by rw [List.getElem?_set_ne (Ne.symm hji)]; exact cW_get hj)
    rw [ho j hj hji]; exact this
theorem cP_mset {dd : va_G} {g : Nat → ClassId} {ad pi : Nat → Nat} {H : Heap} {C : MS} {i k j : Nat} {x : Int32} {e : va_E} (h : va_P dd vwCl ((cW g ad pi C).set i (ad i, e)) H) (hi : cE ad g pi (mset C k j x) i = e) (ho : own k j = i) : cP dd g ad pi H (mset C k j x) := by
  refine cP_set h hi (fun a ha hne => cE_own ha (fun u v huv => ?_))
  simp only [mset]
  rw [if_neg]
  rintro ⟨rfl, rfl⟩
  exact hne (huv.symm.trans ho)
/-- the class's environment: what its methods' words don't say (links to nest mates; the table of the greatest settings) -/
def cX (A : Nat → Prop) (U : State) : Prop := va_Nw (.methodLinkNest RX4 54 yX5_isWithin "WinderLadders") U ∧ va_Nw (.fieldLinkNest RX4 51 "WinderLadders" "MOST_SETTINGS" "[I" "WinderLadders") U ∧ ∃ t : Nat, va_Z "WinderLadders" "MOST_SETTINGS" "[I" (.ref t) A U U.heap ∧ va_T .int t 4 (fun j => .int (if j = 0 then 999 else 30)) A U U.heap
theorem cX.moved {A : Nat → Prop} {s U : State} {H : Heap} {locs : List Loc} (h : cX A s) (hS : va_S A s.heap H locs) (hU : U.heap = H) (hW : s.WarmedH U.vm) : cX A U := by
  obtain ⟨h1, h0, t, h2, h3⟩ := h
  refine ⟨h1.warmM hW, h0.warmF hW, t, ?_, ?_⟩
  · rw [hU]; exact (h2.kept hS.2.1).moved hW.alike
  · rw [hU]; exact (h3.kept hS.2.1).moved hW.alike
def cI (dd : va_G) (g : Nat → ClassId) (ad pi : Nat → Nat) (A : Nat → Prop) (H0 H : Heap) (locs : List Loc) (C : MS) : Prop := cP dd g ad pi H C ∧ va_S A H0 H locs
def cPre (dd : va_G) (g : Nat → ClassId) (ad pi : Nat → Nat) (A : Nat → Prop) (C : MS) (av : List Value) : Array Value → State → Prop := va_Pc av (fun U => cP dd g ad pi U.heap C ∧ va_K dd vwCl (tysW g) U ∧ cX A U)
def cQi (dd : va_G) (g : Nat → ClassId) (ad : Nat → Nat) (A : Nat → Prop) (post : Int32 → MS → (Nat → Nat) → Prop) : Array Value → State → Outcome → State → Prop := va_Qi (fun r (u : MS × (Nat → Nat)) => post r u.1 u.2) (fun u t => cP dd g ad u.2 t.heap u.1) A
def cQv (dd : va_G) (g : Nat → ClassId) (ad : Nat → Nat) (A : Nat → Prop) (post : MS → (Nat → Nat) → Prop) : Array Value → State → Outcome → State → Prop := va_Qv (fun (u : MS × (Nat → Nat)) => post u.1 u.2) (fun u t => cP dd g ad u.2 t.heap u.1) A
theorem cX.same {A : Nat → Prop} {s U : State} (h : cX A s) (hh : U.heap = s.heap) (hv : s.vm = U.vm) : cX A U := by
  obtain ⟨h1, h0, t, h2, h3⟩ := h
  refine ⟨h1.same rfl hv, h0.same rfl hv, t, ?_, ?_⟩
  · rw [hh]; exact h2.moved (hv ▸ Vm.Alike.refl s.vm)
  · rw [hh]; exact h3.moved (hv ▸ Vm.Alike.refl s.vm)
theorem cPre_blind (dd : va_G) (g : Nat → ClassId) (ad pi : Nat → Nat) (A : Nat → Prop) (C : MS) (av : List Value) : FrameBlind (cPre dd g ad pi A C av) := fun a U gg mk h => by
  obtain ⟨h0, hP, hK, hX⟩ := h
  exact ⟨h0, hP, va_K.moved (u := U) (U := U.calling gg mk a) (Vm.Alike.refl U.vm) hK, hX.same rfl rfl⟩
