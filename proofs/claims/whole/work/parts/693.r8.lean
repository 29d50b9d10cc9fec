/-! the relation of the two objects, and every call's part in it -/
def Sg (b : Nat → Int32) (j : Nat) : Nat → Int32 := fun i => b (140 * j + i)
def RelT (C M : MS) (len : Nat) : Prop := len ≤ 80 ∧ C 10 1 = nI len ∧ M 7 0 = nI len ∧ (∀ j, j < len → C 12 j = M 6 j) ∧ chOk (C 12) len
def RelP (C : MS) (pi : Nat → Nat) (M : MS) (d : Nat) : Prop := piOk pi ∧ d ≤ 6 ∧ C 10 0 = nI d ∧ M 3 0 = nI d
def RelH (C : MS) (pi : Nat → Nat) (M : MS) (d : Nat) : Prop := ∀ j, j < d → Ro (C (pi j)) (Sg (M 2) j)
def RelS (C M : MS) : Prop := ∀ j, j < 2 → (M 5 j = 0 ∧ C 11 j = 0) ∨ (M 5 j = 1 ∧ C 11 j = 1 ∧ Ro (C (8 + j)) (Sg (M 4) j))
def Rel (C : MS) (pi : Nat → Nat) (M : MS) (d len : Nat) : Prop := RelP C pi M d ∧ RelT C M len ∧ Ro (C 0) (M 0) ∧ (∀ k, k < 10 → goOk (C k)) ∧ RelH C pi M d ∧ RelS C M
def RelE (C : MS) (pi : Nat → Nat) (M : MS) : Prop := ∃ d len, Rel C pi M d len
section R8
variable {C C1 : MS} {pi pi1 : Nat → Nat} {M M1 : MS} {d len : Nat} {r r2 : Int32}
theorem Rel.cM (R : Rel C pi M d len) (e0 : M1 0 = M 0) (e2 : M1 2 = M 2) (e3 : M1 3 0 = M 3 0) (e4 : M1 4 = M 4) (e5 : M1 5 = M 5) (e6 : M1 6 = M 6) (e7 : M1 7 0 = M 7 0) : Rel C pi M1 d len := by
  obtain ⟨⟨p1, p2, p3, p4⟩, ⟨t1, t2, t3, t4, t5⟩, h0, hg, hh, hs⟩ := R
  refine ⟨⟨p1, p2, p3, by rw [e3]; exact p4⟩, ⟨t1, t2, by rw [e7]; exact t3, by rw [e6]; exact t4, t5⟩, by rw [e0]; exact h0, hg, ?_, ?_⟩
  · unfold RelH; rw [e2]; exact hh
  · unfold RelS; rw [e4, e5]; exact hs
theorem Rel.cC (R : Rel C pi M d len) (e : ∀ a, a < 10 → C1 a = C a) (e0 : C1 10 0 = C 10 0) (e1 : C1 10 1 = C 10 1) (e11 : C1 11 = C 11) (e12 : C1 12 = C 12) : Rel C1 pi M d len := by
  obtain ⟨⟨p1, p2, p3, p4⟩, ⟨t1, t2, t3, t4, t5⟩, h0, hg, hh, hs⟩ := R
  refine ⟨⟨p1, p2, by rw [e0]; exact p3, p4⟩, ⟨t1, by rw [e1]; exact t2, t3, by rw [e12]; exact t4, by rw [e12]; exact t5⟩, by rw [e 0 (by decide)]; exact h0, fun k hk => by rw [e k hk]; exact hg k hk, fun j hj => ?_, fun j hj => ?_⟩
  · have := p1.1 j (by omega)
    rw [e (pi j) (by omega)]; exact hh j hj
  · rw [e11, e (8 + j) (by omega)]; exact hs j hj
/-- a state is recorded and the present one becomes F, f' -/
theorem Rel.push {F f' : Nat → Int32} {len' : Nat} (R : Rel C pi M d len) (hF : Ro F f') (gF : goOk F)
    (c0 : C1 0 = F) (cd : C1 (pi d) = cpS (C (pi d)) (C 0)) (cr : ∀ a, a < 10 → a ≠ 0 → a ≠ pi d → C1 a = C a) (c11 : C1 11 = C 11) (hk : (d < 6 ∧ C1 10 0 = nI (d + 1) ∧ pi1 = pi) ∨ (¬ d < 6 ∧ C1 10 0 = nI d ∧ pi1 = rot pi))
    (m0 : M1 0 = f') (m2 : M1 2 = knB (M 2) (M 0) d) (m3 : M1 3 0 = nI (knN d)) (m4 : M1 4 = M 4) (m5 : M1 5 = M 5) (T : RelT C1 M1 len') : RelE C1 pi1 M1 := by
  obtain ⟨⟨p1, p2, p3, p4⟩, -, h0, hg, hh, hs⟩ := R
  have pd := p1.1 d (by omega)
  have gC : ∀ k, k < 10 → goOk (C1 k) := by
    intro k hk
    by_cases z0 : k = 0
    · rw [z0, c0]; exact gF
    · by_cases z1 : k = pi d
      · rw [z1, cd]; exact goOk_cpS h0 (hg (pi d) (by omega))
      · rw [cr k hk z0 z1]; exact hg k hk
  have gS : RelS C1 M1 := by
    intro j hj
    rw [m4, m5, c11, cr (8 + j) (by omega) (by omega) (by omega)]; exact hs j hj
  have new : Ro (C1 (pi d)) (M 0) := by rw [cd]; exact h0.cpd _
  have old : ∀ j, j < d → Ro (C1 (pi j)) (Sg (M 2) j) := by
    intro j hj
    have pj := p1.1 j (by omega)
    have ne : pi j ≠ pi d := fun z => by have := p1.2 j d (by omega) (by omega) z; omega
    rw [cr (pi j) (by omega) (by omega) ne]; exact hh j hj
  rcases hk with ⟨hd, k0, rfl⟩ | ⟨hd, k0, rfl⟩
  · have ekn : knN d = d + 1 := by unfold knN; rw [if_neg (by omega)]
    have ekb : knB (M 2) (M 0) d = cp1 (M 2) (M 0) (140 * d) 140 := by unfold knB; rw [if_neg (by omega)]
    refine ⟨d + 1, len', ⟨p1, by omega, k0, by rw [m3, ekn]⟩, T, by rw [c0, m0]; exact hF, gC, fun j hj => ?_, gS⟩
    rw [m2, ekb]
    by_cases z : j = d
    · subst z
      refine new.congr (fun i hi => ?_) (fun _ _ => rfl)
      unfold Sg cp1
      rw [if_pos (by omega), Nat.add_sub_cancel_left]
    · refine (old j (by omega)).congr (fun i hi => ?_) (fun _ _ => rfl)
      unfold Sg cp1
      rw [if_neg (by omega)]
  · have d6 : d = 6 := by omega
    subst d6
    have ekn : knN 6 = 6 := rfl
    have ekb : knB (M 2) (M 0) 6 = cp1 (sh1 (M 2) 700) (M 0) 700 140 := rfl
    refine ⟨6, len', ⟨rot_ok p1, by omega, k0, by rw [m3, ekn]⟩, T, by rw [c0, m0]; exact hF, gC, fun j hj => ?_, gS⟩
    rw [m2, ekb, rot_e (by omega), if_neg (by omega)]
    by_cases z : j = 5
    · subst z
      refine new.congr (fun i hi => ?_) (fun _ _ => rfl)
      unfold Sg cp1
      rw [if_pos (by omega), show 140 * 5 + i - 700 = i by omega]
    · refine (old (j + 1) (by omega)).congr (fun i hi => ?_) (fun _ _ => rfl)
      unfold Sg cp1 sh1
      rw [if_neg (by omega), if_pos (by omega), show 140 + (140 * j + i) = 140 * (j + 1) + i by omega]
/-- a change that isn't one: only the place behind the history was written -/
theorem Rel.stay (R : Rel C pi M d len) (c0 : C1 0 = C 0) (cd : C1 (pi d) = cpS (C (pi d)) (C 0)) (cr : ∀ a, a < 10 → a ≠ 0 → a ≠ pi d → C1 a = C a) (k0 : C1 10 0 = C 10 0) (k1 : C1 10 1 = C 10 1) (c11 : C1 11 = C 11) (c12 : C1 12 = C 12) : RelE C1 pi M := by
  obtain ⟨⟨p1, p2, p3, p4⟩, ⟨t1, t2, t3, t4, t5⟩, h0, hg, hh, hs⟩ := R
  have pd := p1.1 d (by omega)
  refine ⟨d, len, ⟨p1, p2, by rw [k0]; exact p3, p4⟩, ⟨t1, by rw [k1]; exact t2, t3, by rw [c12]; exact t4, by rw [c12]; exact t5⟩, by rw [c0]; exact h0, fun k hk => ?_, fun j hj => ?_, fun j hj => ?_⟩
  · by_cases z0 : k = 0
    · rw [z0, c0]; exact hg 0 (by decide)
    · by_cases z1 : k = pi d
      · rw [z1, cd]; exact goOk_cpS h0 (hg (pi d) (by omega))
      · rw [cr k hk z0 z1]; exact hg k hk
  · have pj := p1.1 j (by omega)
    have ne : pi j ≠ pi d := fun z => by have := p1.2 j d (by omega) (by omega) z; omega
    rw [cr (pi j) (by omega) (by omega) ne]; exact hh j hj
  · rw [c11, cr (8 + j) (by omega) (by omega) (by omega)]; exact hs j hj
theorem prM_rows (p1 : piOk pi) (hd : d ≤ 6) {F : Nat → Int32} : mrow (prM C pi d) 0 F 0 = F ∧ mrow (prM C pi d) 0 F (pi d) = cpS (C (pi d)) (C 0) ∧ ∀ a, a ≠ 0 → a ≠ pi d → mrow (prM C pi d) 0 F a = C a := by
  have pd := p1.1 d (by omega)
  refine ⟨mrow_s _ _ _, ?_, fun a h1 h2 => ?_⟩
  · rw [mrow_n _ (by omega)]; exact mrow_s _ _ _
  · rw [mrow_n _ h1]; exact mrow_n _ h2 _
theorem knM_2 {kn : Nat} : knM M kn 2 = knB (M 2) (M 0) kn := by
  unfold knM; rw [mset_ne _ (by decide), mrow_s]
theorem knM_3 {kn : Nat} : knM M kn 3 0 = nI (knN kn) := by
  unfold knM; exact mset_eq _ _ _ _
theorem Rel.op {F f' : Nat → Int32} {Rc flt v : Int32} (R : Rel C pi M d len) (g : Cg (C 0) Rc F flt v f') (hc : opC C pi d F Rc C1 pi1) (hm : opP flt v f' M d r2 M1) : Rc = r2 ∧ RelE C1 pi1 M1 := by
  obtain ⟨p1, p2, p3, p4⟩ := R.1
  have pd := p1.1 d (by omega)
  obtain ⟨q0, q1, q2⟩ := prM_rows (C := C) (F := F) p1 p2
  rcases g with ⟨g1, g2, g3, g4, g5⟩ | ⟨g1, g2, g3⟩
  · rcases hm with ⟨_, hr, hM⟩ | ⟨z, _⟩
    · refine ⟨by rw [g2, hr], ?_⟩
      have gg : goOk F := by rw [g5]; exact goOk_Mx g4 (R.2.2.2.1 0 (by decide))
      have T : ∀ N : MS, N 10 1 = C 10 1 → N 12 = C 12 → RelT N M1 len := by
        intro N n1 n2
        obtain ⟨t1, t2, t3, t4, t5⟩ := R.2.1
        exact ⟨t1, by rw [n1]; exact t2, by rw [hM, ms0_k _ _ (by decide), knM_k _ _ (by decide) (by decide)]; exact t3, by rw [n2, hM, ms0_k _ _ (by decide), knM_k _ _ (by decide) (by decide)]; exact t4, by rw [n2]; exact t5⟩
      have mk := fun (N : MS) (pj : Nat → Nat) a b c d2 e t => Rel.push (C1 := N) (pi1 := pj) (M1 := M1) (len' := len) R (Ro.of g4 _ g5) gg a b c d2 e (by rw [hM]; rfl) (by rw [hM, ms0_k _ _ (by decide), knM_2]) (by rw [hM, ms0_k _ _ (by decide), knM_3]) (by rw [hM, ms0_k _ _ (by decide), knM_k _ _ (by decide) (by decide)]) (by rw [hM, ms0_k _ _ (by decide), knM_k _ _ (by decide) (by decide)]) t
      rcases hc with ⟨_, hd, hC, hp⟩ | ⟨_, hd, hC, hp⟩ | ⟨z, _⟩
      · have o : ∀ a, a ≠ 10 → C1 a = mrow (prM C pi d) 0 F a := fun a h => by rw [hC, mset_ne _ h]
        refine mk C1 pi1 (by rw [o 0 (by decide)]; exact q0) (by rw [o (pi d) (by omega)]; exact q1) (fun a h1 h2 h3 => by rw [o a (by omega)]; exact q2 a h2 h3) (by rw [o 11 (by decide)]; exact q2 11 (by decide) (by omega)) (Or.inl ⟨hd, by rw [hC]; exact mset_eq _ _ _ _, hp⟩) (T C1 ?_ (by rw [o 12 (by decide)]; exact q2 12 (by decide) (by omega)))
        rw [hC, mset_nj _ (by decide), q2 10 (by decide) (by omega)]
      · refine mk C1 pi1 (by rw [hC]; exact q0) (by rw [hC]; exact q1) (fun a h1 h2 h3 => by rw [hC]; exact q2 a h2 h3) (by rw [hC]; exact q2 11 (by decide) (by omega)) (Or.inr ⟨hd, by rw [hC, q2 10 (by decide) (by omega)]; exact p3, hp⟩) (T C1 (by rw [hC, q2 10 (by decide) (by omega)]) (by rw [hC]; exact q2 12 (by decide) (by omega)))
      · exact absurd (by rw [g2]; exact g3) z
    · exact absurd g1 z
  · have n0 : ¬ 0 ≤ Rc := by rw [g2]; exact Int32.lt_nle g1
    rcases hm with ⟨z, _⟩ | ⟨_, hr, hM⟩
    · rw [z] at g1; exact absurd g1 (by decide)
    · refine ⟨by rw [g2, hr], ?_⟩
      rcases hc with ⟨z, _⟩ | ⟨z, _⟩ | ⟨_, hC, hp⟩
      · exact absurd z n0
      · exact absurd z n0
      · rw [hM, hp]
        exact R.stay (by rw [hC, q0]; exact g3) (by rw [hC]; exact q1) (fun a h1 h2 h3 => by rw [hC]; exact q2 a h2 h3) (by rw [hC, q2 10 (by decide) (by omega)]) (by rw [hC, q2 10 (by decide) (by omega)]) (by rw [hC]; exact q2 11 (by decide) (by omega)) (by rw [hC]; exact q2 12 (by decide) (by omega))
theorem Rel.E (R : Rel C pi M d len) : RelE C pi M := ⟨d, len, R⟩
end R8
