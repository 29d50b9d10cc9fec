/-! the law's start: what the tables and the statics say; the two objects as they are made -/
theorem tb_mem {w : Cond} {i : Nat} (h : tables_1[i]? = some w) : w ∈ lw_tbl := List.mem_append_right _ (List.mem_of_getElem? h)
section ST
variable {args : Array Value} {s : State}
theorem prim_K {cA0 : Unit} {ty : FieldType} (h : (Cond.arrayClass ty).before args s = true) : ∃ cA : ClassId, ArrOfT s cA ty ∧ s.vm.findClass ("[" ++ ty.toString) = some cA := by
  obtain ⟨c, k, comp, h1, h2, h3⟩ := Cond.arrayClass_spec h
  exact ⟨c, fun n z => ⟨(fun k h => by cases h), k, h2, comp, h3⟩, h1⟩
theorem obj_K {C : String} (h : (Cond.arrayOver (.object C)).before args s = true) : ∃ cA : ClassId, ArrOfT s cA (.object C) ∧ va_RA s cA (.object C) := by
  obtain ⟨comp, c, k, h1, h2, h3, h4, h5⟩ := Cond.arrayOver_spec h
  exact ⟨c, fun n z => ⟨(fun k h => by cases h), k, h3, comp, h4⟩, k, comp, h3, h4, h1, h5⟩
theorem law_K (hts : ∀ w ∈ lw_tbl, w.before args s = true) : ∃ (dd : va_G) (g : Nat → ClassId), va_K dd vwCl (tysW g) s := by
  obtain ⟨c0, i0, k0⟩ := u_known (C := RX0) (T := TX0) (N := 8) (n := 8) hts inX0 (hts (.instantiable RX0 8) (tb_mem (i := 30) (by decide +kernel)))
  obtain ⟨c1, i1, k1⟩ := u_known (C := RX1) (T := TX1) (N := 2) (n := 2) hts inX1 (hts (.instantiable RX1 2) (tb_mem (i := 105) (by decide +kernel)))
  obtain ⟨c2, i2, k2⟩ := u_known (C := RX2) (T := TX2) (N := 5) (n := 5) hts inX2 (hts (.instantiable RX2 5) (tb_mem (i := 122) (by decide +kernel)))
  obtain ⟨c3, i3, k3⟩ := u_known (C := RX3) (T := TX3) (N := 2) (n := 2) hts inX3 (hts (.instantiable RX3 2) (tb_mem (i := 128) (by decide +kernel)))
  obtain ⟨c4, i4, k4⟩ := u_known (C := RX4) (T := TX4) (N := 7) (n := 7) hts inX4 (hts (.instantiable RX4 7) (tb_mem (i := 18) (by decide +kernel)))
  obtain ⟨c5, i5, k5⟩ := u_known (C := RX5) (T := TX5) (N := 7) (n := 7) hts inX5 (hts (.instantiable RX5 7) (tb_mem (i := 10) (by decide +kernel)))
  obtain ⟨g0, a0, b0⟩ := prim_K (cA0 := ()) (ty := .int) (hts (.arrayClass .int) (tb_mem (i := 74) (by decide +kernel)))
  obtain ⟨g1, a1, b1⟩ := prim_K (cA0 := ()) (ty := .char) (hts (.arrayClass .char) (tb_mem (i := 143) (by decide +kernel)))
  obtain ⟨g2, a2, b2⟩ := prim_K (cA0 := ()) (ty := .boolean) (hts (.arrayClass .boolean) (tb_mem (i := 142) (by decide +kernel)))
  obtain ⟨g3, a3, b3⟩ := obj_K (C := "WinderLadders$Clock") (hts (.arrayOver (.object "WinderLadders$Clock")) (tb_mem (i := 24) (by decide +kernel)))
  obtain ⟨g4, a4, b4⟩ := obj_K (C := "WinderLadders$State") (hts (.arrayOver (.object "WinderLadders$State")) (tb_mem (i := 111) (by decide +kernel)))
  refine ⟨(fun k => if k = 0 then c0 else if k = 1 then c1 else if k = 2 then c2 else if k = 3 then c3 else if k = 4 then c4 else c5, fun k => if k = 0 then i0 else if k = 1 then i1 else if k = 2 then i2 else if k = 3 then i3 else if k = 4 then i4 else i5), fun k => if k = 0 then g0 else if k = 1 then g1 else if k = 2 then g2 else if k = 3 then g3 else g4, ?_, ?_⟩
  · intro k q hq
    match k, hq with
    | 0, hq => cases hq; exact k0
    | 1, hq => cases hq; exact k1
    | 2, hq => cases hq; exact k2
    | 3, hq => cases hq; exact k3
    | 4, hq => cases hq; exact k4
    | 5, hq => cases hq; exact k5
    | k + 6, hq => simp [vwCl] at hq
  · intro k q hq
    match k, hq with
    | 0, hq => cases hq; exact ⟨a0, b0⟩
    | 1, hq => cases hq; exact ⟨a1, b1⟩
    | 2, hq => cases hq; exact ⟨a2, b2⟩
    | 3, hq => cases hq; exact ⟨a3, b3⟩
    | 4, hq => cases hq; exact ⟨a4, b4⟩
    | k + 5, hq => simp [tysW] at hq
theorem law_X (hts : ∀ w ∈ lw_tbl, w.before args s = true) (hgv : (Jvm.Cond.and given_1 narrow_1).before args s = true) : nX s.heap.size s ∧ cX (lA s) s := by
  have hs := flat_of_before _ hgv
  have hA : ∀ a : Nat, a < s.heap.size → ¬ lA s a := fun a h => Nat.not_le.mpr h
  obtain ⟨t1, v1, w1⟩ := va_Tof (A := lA s) (N := 4) (ty := .int) (tm := .static "WinderLadders" "FIRST_SETTINGS" "[I") (f := fun j => .int (fsT j)) (by decide) (hs (.arrayOf (.static "WinderLadders" "FIRST_SETTINGS" "[I") .int) (by decide +kernel)) (va_eqt (z := 4) (hs (.eq (.length (.static "WinderLadders" "FIRST_SETTINGS" "[I")) (.int 4)) (by decide +kernel))) (fun j hj => by
    rcases (show j = 0 ∨ j = 1 ∨ j = 2 ∨ j = 3 by omega) with rfl | rfl | rfl | rfl
    · exact va_eqt (z := 60) (hs (.eq (.elem (.static "WinderLadders" "FIRST_SETTINGS" "[I") (.int 0)) (.int 60)) (by decide +kernel))
    · exact va_eqt (z := 8) (hs (.eq (.elem (.static "WinderLadders" "FIRST_SETTINGS" "[I") (.int 1)) (.int 8)) (by decide +kernel))
    · exact va_eqt (z := 5) (hs (.eq (.elem (.static "WinderLadders" "FIRST_SETTINGS" "[I") (.int 2)) (.int 5)) (by decide +kernel))
    · exact va_eqt (z := 10) (hs (.eq (.elem (.static "WinderLadders" "FIRST_SETTINGS" "[I") (.int 3)) (.int 10)) (by decide +kernel))) hA
  obtain ⟨t2, v2, w2⟩ := va_Tof (A := lA s) (N := 4) (ty := .int) (tm := .static "WinderLadders" "MOST_SETTINGS" "[I") (f := fun j => .int (if j = 0 then 999 else 30)) (by decide) (hs (.arrayOf (.static "WinderLadders" "MOST_SETTINGS" "[I") .int) (by decide +kernel)) (va_eqt (z := 4) (hs (.eq (.length (.static "WinderLadders" "MOST_SETTINGS" "[I")) (.int 4)) (by decide +kernel))) (fun j hj => by
    rcases (show j = 0 ∨ j = 1 ∨ j = 2 ∨ j = 3 by omega) with rfl | rfl | rfl | rfl
    · exact va_eqt (z := 999) (hs (.eq (.elem (.static "WinderLadders" "MOST_SETTINGS" "[I") (.int 0)) (.int 999)) (by decide +kernel))
    · exact va_eqt (z := 30) (hs (.eq (.elem (.static "WinderLadders" "MOST_SETTINGS" "[I") (.int 1)) (.int 30)) (by decide +kernel))
    · exact va_eqt (z := 30) (hs (.eq (.elem (.static "WinderLadders" "MOST_SETTINGS" "[I") (.int 2)) (.int 30)) (by decide +kernel))
    · exact va_eqt (z := 30) (hs (.eq (.elem (.static "WinderLadders" "MOST_SETTINGS" "[I") (.int 3)) (.int 30)) (by decide +kernel))) hA
  have hin := hts (.initialized "WinderLadders") (tb_mem (i := 1) (by decide +kernel))
  have z1 := va_Zof (A := lA s) (hts (.laysStatic "WinderLadders" "FIRST_SETTINGS" "[I") (tb_mem (i := 26) (by decide +kernel))) hin v1 hA
  have z2 := va_Zof (A := lA s) (hts (.laysStatic "WinderLadders" "MOST_SETTINGS" "[I") (tb_mem (i := 295) (by decide +kernel))) hin v2 hA
  refine ⟨⟨va_AO.of (A := args) (hts (.arrayOver (.object RX0)) (tb_mem (i := 24) (by decide +kernel))), va_AO.of (A := args) (hts (.arrayOver (.object RX4)) (tb_mem (i := 111) (by decide +kernel))), va_Nw.of rfl (hts (.methodLinkNest RX4 33 yX0_init "WinderLadders") (tb_mem (i := 31) (by decide +kernel))), va_Nw.of rfl (hts (.methodLinkNest RX2 17 yX3_init "WinderLadders") (tb_mem (i := 129) (by decide +kernel))), va_Nw.of rfl (hts (.methodLinkNest RX5 33 yX2_init "WinderLadders") (tb_mem (i := 123) (by decide +kernel))), va_Nw.of rfl (hts (.methodLinkNest RX5 40 yX3_init "WinderLadders") (tb_mem (i := 159) (by decide +kernel))), va_Nw.of rfl (hts (.fieldLinkNest RX4 24 "WinderLadders" "FIRST_SETTINGS" "[I" "WinderLadders") (tb_mem (i := 25) (by decide +kernel))), t1, z1, w1⟩, ⟨va_Nw.of rfl (hts (.methodLinkNest RX4 54 yX5_isWithin "WinderLadders") (tb_mem (i := 247) (by decide +kernel))), va_Nw.of rfl (hts (.fieldLinkNest RX4 51 "WinderLadders" "MOST_SETTINGS" "[I" "WinderLadders") (tb_mem (i := 294) (by decide +kernel))), t2, z2, w2⟩⟩
end ST
/-! the two objects as their constructors leave them -/
def CC0 : MS := fun a j => if a < 10 ∧ j < 4 then fsT j else 0
def pi0 : Nat → Nat := fun j => j + 1
theorem CC0_4 {a j : Nat} (h : 4 ≤ j) : CC0 a j = 0 := if_neg (by omega)
theorem CC0_10 {a : Nat} (h : 10 ≤ a) : CC0 a = fun _ => 0 := by funext j; exact if_neg (by omega)
theorem CC0_lo {a j : Nat} (h : a < 10) (hj : j < 4) : CC0 a j = fsT j := if_pos ⟨h, hj⟩
theorem in0 : IN CC0 pi0 0 43200 := by
  have c5 : cn (CC0 0) = 0 := by unfold cn; rw [CC0_4 (by decide)]; decide
  have l6 : ln (CC0 0) = 0 := by unfold ln; rw [CC0_4 (by decide)]; decide
  have s0 : CC0 0 0 = nI 60 := CC0_lo (by decide) (by decide)
  have s1 : CC0 0 1 = nI 8 := CC0_lo (by decide) (by decide)
  have s2 : CC0 0 2 = nI 5 := CC0_lo (by decide) (by decide)
  have s3 : CC0 0 3 = nI 10 := CC0_lo (by decide) (by decide)
  have W : Wk (CC0 0) := ⟨by rw [c5, CC0_4 (by decide)]; rfl, by rw [c5]; decide, by rw [l6, CC0_4 (by decide)]; rfl, by rw [l6]; decide⟩
  refine ⟨by decide, by rw [CC0_10 (by decide)]; rfl, ⟨fun j hj => by unfold pi0; omega, fun i j hi hj e => by unfold pi0 at e; omega⟩, ⟨⟨0, by decide, by rw [CC0_4 (by decide)]; rfl, W, ⟨⟨60, by decide, by decide, s0⟩, ⟨8, by decide, by decide, s1⟩, ⟨5, by decide, by decide, s2⟩, ⟨10, by decide, by decide, s3⟩, fun j hj => ?_⟩, fun c hc => ?_⟩, fun c hc => ?_⟩, fun k hk c hc => Or.inl (CC0_4 (by omega)), fun j hj => absurd hj (Nat.not_lt_zero _)⟩
  · rw [l6] at hj; exact absurd hj (Nat.not_lt_zero _)
  · rw [c5] at hc; exact absurd hc (Nat.not_lt_zero _)
  · rw [c5] at hc; exact absurd hc (Nat.not_lt_zero _)
/-- which of the cells, in the order in which they are made, is which -/
def sg (i : Nat) : Nat := if i = 0 then 0 else if i = 1 then 21 else if i = 2 then 22 else if i < 11 then i + 160 else if i < 31 then i - 10 else if i < 171 then i - 8 else if i = 211 then 171 else i + 1
def ts (r : Nat) : Nat := if r = 0 then 0 else if r < 21 then r + 10 else if r = 21 then 1 else if r = 22 then 2 else if r < 163 then r + 8 else if r < 171 then r - 160 else if r = 171 then 211 else r - 1
theorem sg_ok : ∀ i, i < 212 → ts (sg i) = i ∧ sg i < 212 := by decide +kernel
theorem sg_st : ∀ k, k < 10 → ∀ r, r < 20 → sg (11 + 20 * k + r) = sg (11 + 20 * k) + r := by decide +kernel
theorem sg_k : ∀ k, k < 10 → sg (11 + 20 * k) = if k = 0 then 1 else if k < 8 then 3 + 20 * k else 12 + 20 * k := by decide +kernel
theorem obN_st {g : Nat → ClassId} {a : Nat → Nat} {k r : Nat} (hk : k < 10) (hr : r < 20) : obN g a (sg (11 + 20 * k) + r) = stN g (fun t => a (sg (11 + 20 * k) + t)) r := by
  rw [sg_k k hk]
  unfold obN
  by_cases k0 : k = 0
  · rw [if_pos k0, if_neg (by omega), if_pos (by omega), show 1 + r - 1 = r by omega]
  rw [if_neg k0]
  by_cases k8 : k < 8
  · rw [if_pos k8, if_neg (by omega), if_neg (by omega), if_pos (by omega)]
    unfold hiN
    rw [if_neg (by omega), if_neg (by omega), show (3 + 20 * k + r - 21 - 2) / 20 = k - 1 by omega, show (3 + 20 * k + r - 21 - 2) % 20 = r by omega]
    refine stN_cong (fun t ht => ?_)
    show a (21 + (2 + 20 * (k - 1) + t)) = _
    rw [show 21 + (2 + 20 * (k - 1) + t) = 3 + 20 * k + t by omega]
  · rw [if_neg k8, if_neg (by omega), if_neg (by omega), if_neg (by omega), if_neg (by omega), if_neg (by omega), if_neg (by omega), if_neg (by omega), if_neg (by omega), show (12 + 20 * k + r - 172) / 20 = k - 8 by omega, show (12 + 20 * k + r - 172) % 20 = r by omega]
    refine stN_cong (fun t ht => ?_)
    rw [show 172 + 20 * (k - 8) + t = 12 + 20 * k + t by omega]
theorem at_refs {dd : va_G} {cl : List vw_C} {q : Nat} {cA : ClassId} {N : Nat} {f f' : Nat → Option Nat} {H : Heap} (h : va_at dd cl (q, .inl (cA, N, .inr (.inr (.inr (.inr f))))) H) (e : ∀ j, j < N → f j = f' j) : va_at dd cl (q, .inl (cA, N, .inr (.inr (.inr (.inr f'))))) H := by
  have h1 : H[q]? = some (vp_cell cA (N, .inr (.inr (.inr (.inr f))))) := h
  show H[q]? = some (vp_cell cA (N, .inr (.inr (.inr (.inr f')))))
  rw [h1, vp_cell_q, vp_cell_q, arrV_congr cA (fun j hj => by rw [e j hj])]
theorem stN_at {dd : va_G} {g : Nat → ClassId} {ad : Nat → Nat} {k r q : Nat} {H : Heap} (hk : k < 10) (hr : r < 20) (h : va_at dd vwCl (q, stN g (fun t => ad (sg (11 + 20 * k) + t)) r) H) : va_at dd vwCl (q, cE (fun i => ad (sg i)) g pi0 CC0 (11 + 20 * k + r)) H := by
  have s1 := fun t ht => sg_st k hk t ht
  unfold stN at h
  by_cases z0 : r = 0
  · subst z0
    rw [if_pos rfl] at h
    rw [show 11 + 20 * k + 0 = 11 + 20 * k by omega, cE_st, CC0_4 (by decide), CC0_4 (by decide), CC0_4 (by decide), CC0_4 (by decide)]
    have a1 := s1 1 (by decide)
    have a2 := s1 2 (by decide)
    have a3 := s1 3 (by decide)
    rw [show 12 + 20 * k = 11 + 20 * k + 1 by omega, show 13 + 20 * k = 11 + 20 * k + 2 by omega, show 14 + 20 * k = 11 + 20 * k + 3 by omega, a1, a2, a3]
    exact h
  rw [if_neg z0] at h
  by_cases z1 : r = 1
  · subst z1
    rw [if_pos rfl] at h
    rw [show 11 + 20 * k + 1 = 12 + 20 * k by omega, cE_se]
    have e : (fun j => if j < 4 then CC0 k j else 0) = va_cpy fsT (fun _ => 0) 0 0 4 := by
      funext j
      unfold va_cpy CC0
      by_cases z : j < 4
      · rw [if_pos z, if_pos ⟨hk, z⟩, if_pos (by omega), show 0 + (j - 0) = j by omega]
      · rw [if_neg z, if_neg (by omega)]
    rw [e]; exact h
  rw [if_neg z1] at h
  by_cases z2 : r = 2
  · subst z2
    rw [if_pos rfl] at h
    rw [show 11 + 20 * k + 2 = 13 + 20 * k by omega, cE_ck]
    refine at_refs h (fun j hj => ?_)
    rw [if_pos hj, show 15 + 20 * k + j = 11 + 20 * k + (4 + j) by omega, s1 (4 + j) (by omega)]
  rw [if_neg z2] at h
  by_cases z3 : r = 3
  · subst z3
    rw [if_pos rfl] at h
    rw [show 11 + 20 * k + 3 = 14 + 20 * k by omega, cE_la]
    have e : (fun j => if j < 4 then CC0 k (8 + j) else 0) = (fun _ => 0) := by
      funext j
      by_cases z : j < 4
      · rw [if_pos z, CC0_4 (by omega)]
      · rw [if_neg z]
    rw [e]; exact h
  rw [if_neg z3] at h
  rw [show 11 + 20 * k + r = 15 + 20 * k + (r - 4) by omega, cE_cl (by omega), CC0_4 (by omega), CC0_4 (by omega), CC0_4 (by omega), CC0_4 (by omega), CC0_4 (by omega), CC0_4 (by omega), CC0_4 (by omega), CC0_4 (by omega)]
  exact h
theorem cP0 {dd : va_G} {g : Nat → ClassId} {ad : Nat → Nat} {H : Heap} (h : ∀ r, r < 212 → va_at dd vwCl (ad r, obN g ad r) H) : cP dd g (fun i => ad (sg i)) pi0 H CC0 := by
  intro i x hx
  obtain ⟨hi, ex⟩ := cW_at hx
  subst ex
  have h1 := h (sg i) (sg_ok i hi).2
  by_cases h11 : i < 11
  · rcases (show i = 0 ∨ i = 1 ∨ i = 2 ∨ i = 3 ∨ i = 4 ∨ i = 5 ∨ i = 6 ∨ i = 7 ∨ i = 8 ∨ i = 9 ∨ i = 10 by omega) with rfl | rfl | rfl | rfl | rfl | rfl | rfl | rfl | rfl | rfl | rfl
    · exact h1
    · rw [cE_1, CC0_10 (by decide)]; exact h1
    · rw [cE_2]
      have h2 : va_at dd vwCl (ad (sg 2), .inl (g 4, 7, .inr (.inr (.inr (.inr (fun j => if j < 7 then some (ad (21 + (2 + 20 * j))) else none)))))) H := h1
      refine at_refs h2 (fun j hj => ?_)
      rw [if_pos hj, show 11 + 20 * pi0 j = 11 + 20 * (j + 1) from rfl, sg_k (j + 1) (by omega), if_neg (by omega), if_pos (by omega), show 3 + 20 * (j + 1) = 21 + (2 + 20 * j) by omega]
    · rw [cE_3]
      have h2 : va_at dd vwCl (ad (sg 3), .inl (g 4, 2, .inr (.inr (.inr (.inr (fun j => if j < 2 then some (ad (172 + 20 * j)) else none)))))) H := h1
      refine at_refs h2 (fun j hj => ?_)
      rw [if_pos hj, sg_k (8 + j) (by omega), if_neg (by omega), if_neg (by omega), show 12 + 20 * (8 + j) = 172 + 20 * j by omega]
    · rw [cE_4, CC0_10 (by decide)]; exact h1
    · rw [cE_5, CC0_10 (by decide)]; exact h1
    · rw [cE_6, CC0_10 (by decide)]; exact h1
    · rw [cE_7, CC0_10 (by decide)]; exact h1
    · rw [cE_8, CC0_10 (by decide)]; exact h1
    · rw [cE_9, CC0_10 (by decide)]; exact h1
    · rw [cE_10, CC0_10 (by decide)]; exact h1
  by_cases h211 : i = 211
  · subst h211
    rw [cE_211, CC0_10 (by decide)]; exact h1
  · obtain ⟨k, r, hr, rfl⟩ : ∃ k r, r < 20 ∧ i = 11 + 20 * k + r := ⟨(i - 11) / 20, (i - 11) % 20, Nat.mod_lt _ (by decide), by omega⟩
    have hk : k < 10 := by omega
    rw [sg_st k hk r hr] at h1
    rw [obN_st hk hr] at h1
    have := stN_at hk hr h1
    rw [show sg (11 + 20 * k) + r = sg (11 + 20 * k + r) from (sg_st k hk r hr).symm] at this
    exact this
