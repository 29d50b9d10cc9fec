/-! the relation, seventh: texts -/
section R7
variable {t t' : Nat → Int32} {len : Nat}
theorem chr_cong (e : ∀ j, j < len → t j = t' j) : chr t len = chr t' len := by
  funext p
  unfold chr
  by_cases z : p < len
  · rw [if_pos z, if_pos z, e p z]
  · rw [if_neg z, if_neg z]
theorem nxB_cong (e : ∀ j, j < len → t j = t' j) : nxB t len = nxB t' len := by
  funext p lo hi
  unfold nxB
  by_cases z : p < len
  · rw [e p z]
  · simp [z]
theorem rN_cong (hc : chr t len = chr t' len) (hn : nxB t len = nxB t' len) : rN t len = rN t' len := by
  funext p; unfold rN; rw [hc, hn]
theorem rB_cong2 (hc : chr t len = chr t' len) (hn : nxB t len = nxB t' len) : ∀ u, rB t len u = rB t' len u := by
  intro u
  induction u with
  | zero => rfl
  | succ u ih => funext p n w; unfold rB; rw [hn, rN_cong hc hn, ih]
theorem rP_cong (hc : chr t len = chr t' len) (hn : nxB t len = nxB t' len) : rP t len = rP t' len := by
  funext p; unfold rP; rw [hc, hn, rN_cong hc hn]
theorem rO_cong (hc : chr t len = chr t' len) (hn : nxB t len = nxB t' len) : rO t len = rO t' len := by
  funext p; unfold rO; rw [hc, rN_cong hc hn, rP_cong hc hn, rB_cong2 hc hn]
theorem gF_cong (e : ∀ j, j < len → t j = t' j) : ∀ u, gF t len u = gF t' len u := by
  intro u
  induction u with
  | zero => rfl
  | succ u ih => funext p; unfold gF; rw [rO_cong (chr_cong e) (nxB_cong e), chr_cong e, ih]
theorem cO_cong (e : ∀ j, j < len → t j = t' j) : ∀ u, cO t len u = cO t' len u := by
  intro u
  induction u with
  | zero => rfl
  | succ u ih => funext p f; unfold cO exE' exF'; rw [rO_cong (chr_cong e) (nxB_cong e), chr_cong e, ih]
theorem rO_chr {T : Nat → Int32} {p : Nat} (h : (rO T len p).1 = true) : chr T len p = 43 ∨ chr T len p = 97 ∨ chr T len p = 98 ∨ chr T len p = 108 ∨ chr T len p = 115 ∨ chr T len p = 116 := by
  by_cases a : chr T len p = 115
  · exact Or.inr (Or.inr (Or.inr (Or.inr (Or.inl a))))
  by_cases b : chr T len p = 97
  · exact Or.inr (Or.inl b)
  by_cases c : chr T len p = 43
  · exact Or.inl c
  by_cases d : chr T len p = 108
  · exact Or.inr (Or.inr (Or.inr (Or.inl d)))
  by_cases e : chr T len p = 98
  · exact Or.inr (Or.inr (Or.inl e))
  by_cases g : chr T len p = 116
  · exact Or.inr (Or.inr (Or.inr (Or.inr (Or.inr g))))
  unfold rO at h
  dsimp only at h
  rw [if_neg a, if_neg b, if_neg c, if_neg d, if_neg e, if_neg g] at h
  exact absurd (show false = true from h) (by decide)
theorem cc_co {T : Nat → Int32} (h80 : len ≤ 80) : ∀ (U p : Nat) (h f : Nat → Int32) (q u : Nat), Ro f h → goOk f → ((q = 0 ∧ p = 0) ∨ (0 < q ∧ chr T len q = 59 ∧ p = q + 1)) → p ≤ len → len < p + U → len ≤ p + u → gF T len U p = none → (ccO T len u q f).1 = (cO T len U p h).1 ∧ Ro (ccO T len u q f).2 (cO T len U p h).2 ∧ goOk (ccO T len u q f).2 := by
  intro U
  induction U with
  | zero => intro p h f q u r k hq hp hU; omega
  | succ U ih =>
    intro p h f q u r k hq hp hU hu hg
    have hz : q = 0 ∨ (0 < q ∧ chr T len q = 59) := by
      rcases hq with ⟨a, _⟩ | ⟨a, b, _⟩
      · exact Or.inl a
      · exact Or.inr ⟨a, b⟩
    have ep : p0of T len q = p := by
      unfold p0of
      rcases hq with ⟨a, b⟩ | ⟨a, b, c⟩
      · rw [if_pos a, b]
      · rw [if_neg (by omega), c]
    unfold gF at hg
    have hO : (rO T len p).1 = true := by
      cases e : (rO T len p).1 with
      | true => rfl
      | false => rw [e, if_neg (by decide)] at hg; cases hg
    rw [if_pos hO] at hg
    have pl := rO_place T len p hp
    have pl3 := pl.2.2 hO
    obtain ⟨u', rfl⟩ : ∃ u', u = u' + 1 := ⟨u - 1, by omega⟩
    have key := Cg_one r (one := (rO T len p).2.2.1.1) (two := (rO T len p).2.2.1.2.1) (three := (rO T len p).2.2.1.2.2) (w := (rO T len p).2.2.2.2) (rO_len T len p hp h80) (rO_chr hO)
    have eE : exE' T len p h = exE h (chr T len p) (rO T len p).2.2.1.1 (rO T len p).2.2.1.2.1 (rO T len p).2.2.1.2.2 (rO T len p).2.2.2.1 (rO T len p).2.2.2.2 := rfl
    have eF : exF' T len p h = exF h (chr T len p) (rO T len p).2.2.1.1 (rO T len p).2.2.1.2.1 (rO T len p).2.2.1.2.2 (rO T len p).2.2.2.1 (rO T len p).2.2.2.2 := rfl
    rw [← eE, ← eF] at key
    rcases key with ⟨k1, k2, k3, k4⟩ | ⟨k1, k2, k4⟩
    · have k2' : 0 ≤ oneR f (chr T len (p0of T len q)) (rO T len (p0of T len q)).2.2 := by rw [ep]; exact k2
      have k4' : oneF f (chr T len p) (rO T len p).2.2 = Mx (cn (exF' T len p h)) (exF' T len p h) f := k4
      rw [ccO_go hz (by rw [ep]; exact hO) k2', ep, k4']
      have r' := Ro.of k3 f rfl
      have g' := goOk_Mx k3 k
      by_cases hl : (rO T len p).2.1 < len
      · rw [if_pos hl] at hg
        have h59 : chr T len (rO T len p).2.1 = 59 := by
          by_cases z : inB (chr T len (rO T len p).2.1) 59 59 = true
          · obtain ⟨a, b⟩ := inB_t.mp z
            exact Int32.le_antisymm (Int32.not_lt.mp b) (Int32.not_lt.mp a)
          · rw [if_neg z] at hg; cases hg
        rw [if_pos (inB_yes h59)] at hg
        rw [cO_go k1 hl]
        have := ih ((rO T len p).2.1 + 1) (exF' T len p h) _ (rO T len p).2.1 u' r' g' (Or.inr ⟨by omega, h59, rfl⟩) hl (by omega) (by omega) hg
        exact ⟨by rw [this.1], this.2⟩
      · rw [cO_end k1 hl, ccO_no1 (by omega) (by rw [chr_out (by omega)]; decide)]
        exact ⟨rfl, r', g'⟩
    · have k2' : ¬ 0 ≤ oneR f (chr T len (p0of T len q)) (rO T len (p0of T len q)).2.2 := by rw [ep]; exact k2
      have k4' : oneF f (chr T len p) (rO T len p).2.2 = f := k4
      rw [ccO_no3 hz (by rw [ep]; exact hO) k2', ep, k4', cO_no k1]
      exact ⟨rfl, r, k⟩
end R7
/-- what holds of the class's row throughout the orders of a text -/
def InvO (f : Nat → Int32) : Prop := ∃ h, Ro f h
theorem InvO_w {f : Nat → Int32} (h : InvO f) : Wk f ∧ Lad f := by obtain ⟨h, r⟩ := h; exact ⟨r.W, r.L⟩
theorem InvO_s (f : Nat → Int32) (c : Int32) (R : (Int32 × Int32 × Int32) × Nat × (Nat → Int32)) (h : InvO f) (h0 : 0 ≤ oneR f c R) : InvO (oneF f c R) := by
  obtain ⟨h, r⟩ := h
  have fin : ∀ {Rc : Int32} {F f' : Nat → Int32} {flt v : Int32}, Cg f Rc F flt v f' → InvO F := by
    intro Rc F f' flt v k
    rcases k with ⟨a, b, c, d, e⟩ | ⟨a, b, c⟩
    · exact ⟨f', Ro.of d f e⟩
    · rw [c]; exact ⟨h, r⟩
  unfold oneR at h0
  unfold oneF
  by_cases a43 : c = 43
  · rw [if_pos a43]; exact fin (Cg_hang r _ _ _)
  rw [if_neg a43] at h0 ⊢
  by_cases a97 : c = 97
  · rw [if_pos a97]; exact fin (Cg_chg r 1)
  rw [if_neg a97] at h0 ⊢
  by_cases a98 : c = 98
  · rw [if_pos a98] at h0 ⊢
    unfold bwF
    by_cases g : gdB f R.2.2 R.2.1 = true
    · rw [if_pos g]
      by_cases m : 0 ≤ moN f R.2.2 R.2.1
      · rw [if_pos m]
        have g2 := (gdN_Ro r).mp ((gdB_t _ _ _).mp g)
        obtain ⟨v, c5⟩ := bw_Iv (x := f 7 + moN f R.2.2 R.2.1) r.1 g2
        exact ⟨_, Ro.of v f (by rw [c5]; exact bwF_Mx r g2 _)⟩
      · rw [if_neg m]; exact ⟨h, r⟩
    · rw [if_neg g]; exact ⟨h, r⟩
  rw [if_neg a98] at h0 ⊢
  by_cases a108 : c = 108
  · rw [if_pos a108]; exact fin (Cg_lad r _)
  rw [if_neg a108] at h0 ⊢
  by_cases a115 : c = 115
  · rw [if_pos a115]; exact fin (Cg_chg r 0)
  rw [if_neg a115] at h0 ⊢
  by_cases a116 : c = 116
  · rw [if_pos a116]; exact fin (Cg_pass r _)
  rw [if_neg a116]; exact ⟨h, r⟩
/-! signs that are put -/
theorem cmp0 (a : Int64) : lg_cmp a 0 = 0 ↔ a = 0 := by
  unfold lg_cmp
  by_cases e : a = 0
  · subst e; decide
  · by_cases z : a > 0
    · rw [if_pos z]; exact ⟨fun q => absurd q (by decide), fun q => absurd q e⟩
    · rw [if_neg z, if_neg e]; exact ⟨fun q => absurd q (by decide), fun q => absurd q e⟩
theorem shK_0 {x : Int64} {k : Nat} (hk : k < 7) (h : shK x k = 0) : shK x (k + 1) = 0 := by
  have tb : ∀ k, k < 8 → ((nI (8 * k)).toInt64.toUInt64 &&& Int64.toUInt64 63) = UInt64.ofNat (8 * k) ∧ (UInt64.ofNat (8 * k)).toNat % 64 = 8 * k := by decide +kernel
  unfold shK at h ⊢
  rw [(tb k (by omega)).1] at h
  rw [(tb (k + 1) (by omega)).1]
  have h1 : x.toUInt64 >>> UInt64.ofNat (8 * k) = 0 := congrArg Int64.toUInt64 h
  have h2 : x.toUInt64 >>> UInt64.ofNat (8 * (k + 1)) = 0 := by
    apply UInt64.toNat_inj.mp
    have := congrArg UInt64.toNat h1
    rw [UInt64.toNat_shiftRight, (tb k (by omega)).2] at this
    rw [UInt64.toNat_shiftRight, (tb (k + 1) (by omega)).2, show 8 * (k + 1) = 8 * k + 8 by omega, Nat.shiftRight_add, this]
    rfl
  rw [h2]; rfl
theorem shK_up {x : Int64} : ∀ d k, k + d < 8 → shK x k = 0 → shK x (k + d) = 0 := by
  intro d
  induction d with
  | zero => intro k _ h; exact h
  | succ d ih => intro k hk h; exact shK_0 (k := k + d) (by omega) (ih k (by omega) h)
theorem chK_0 {x : Int64} {k : Nat} (h : shK x k = 0) : chK x k = 0 := by unfold chK; rw [h]; decide
theorem badS_up {x : Int64} : ∀ d k, badS x k = true → badS x (k + d) = true := by
  intro d
  induction d with
  | zero => intro k h; exact h
  | succ d ih => intro k h; show (badS x (k + d) || _) = true; rw [ih k h]; rfl
theorem enK_t {x : Int64} {k : Nat} (h0 : 0 < k) (h : shK x k = 0) : enK x k = true := by
  unfold enK; rw [(cmp0 _).mpr h]; simp; omega
theorem enK_f {x : Int64} {k : Nat} (h : k = 0 ∨ shK x k ≠ 0) : enK x k = false := by
  unfold enK
  rcases h with h | h
  · simp [h]
  · have : ¬ lg_cmp (shK x k) 0 = 0 := fun z => h ((cmp0 _).mp z)
    simp [this]
theorem si_bad (x : Int64) : ∀ u i, i + u = 8 → badS x i = false → manS x i = i → (∀ k, k < i → inB (chK x k) 33 126 = true) → (badS x 8 = true ∧ siN x u i = 0) ∨ (badS x 8 = false ∧ manS x 8 = siN x u i ∧ 0 < siN x u i) := by
  intro u
  induction u with
  | zero =>
    intro i hi hb hm hk
    have e : i = 8 := by omega
    subst e
    exact Or.inr ⟨hb, hm, show 0 < 8 by decide⟩
  | succ u ih =>
    intro i hi hb hm hk
    have bad1 : enK x i = false → inB (chK x i) 33 126 = false → badS x 8 = true := by
      intro a b
      have h1 : badS x (i + 1) = true := by show (badS x i || (!enK x i && !inB (chK x i) 33 126)) = true; rw [a, b]; simp
      have := badS_up (8 - (i + 1)) (i + 1) h1
      rw [show i + 1 + (8 - (i + 1)) = 8 by omega] at this
      exact this
    unfold siN
    by_cases z0 : chK x i = 0
    · rw [if_pos z0]
      have nb : inB (chK x i) 33 126 = false := by rw [z0]; decide
      by_cases zs : shK x i = 0
      · rw [if_pos ((cmp0 _).mpr zs)]
        by_cases i0 : i = 0
        · subst i0; exact Or.inl ⟨bad1 (enK_f (Or.inl rfl)) nb, rfl⟩
        · have up : ∀ d, i + d ≤ 8 → badS x (i + d) = false ∧ manS x (i + d) = i := by
            intro d
            induction d with
            | zero => intro _; exact ⟨hb, hm⟩
            | succ d ih2 =>
              intro hd
              obtain ⟨a, b⟩ := ih2 (by omega)
              have en := enK_t (x := x) (k := i + d) (by omega) (shK_up d i (by omega) zs)
              refine ⟨?_, ?_⟩
              · show (badS x (i + d) || (!enK x (i + d) && !inB (chK x (i + d)) 33 126)) = false
                rw [a, en]; rfl
              · show manS x (i + d) + (if enK x (i + d) = true then 0 else 1) = i
                rw [en, b, if_pos rfl, Nat.add_zero]
          obtain ⟨a, b⟩ := up (8 - i) (by omega)
          rw [show i + (8 - i) = 8 by omega] at a b
          exact Or.inr ⟨a, b, by omega⟩
      · rw [if_neg (fun q => zs ((cmp0 _).mp q))]
        exact Or.inl ⟨bad1 (enK_f (Or.inr zs)) nb, rfl⟩
    · rw [if_neg z0]
      have zs : shK x i ≠ 0 := fun q => z0 (chK_0 q)
      by_cases y1 : chK x i < 33
      · rw [if_pos y1]
        exact Or.inl ⟨bad1 (enK_f (Or.inr zs)) (inB_f.mpr fun q => q.1 y1), rfl⟩
      · rw [if_neg y1]
        by_cases y2 : chK x i ≤ 126
        · rw [if_pos y2]
          have yb : inB (chK x i) 33 126 = true := inB_t.mpr ⟨y1, Int32.not_lt.mpr y2⟩
          refine ih (i + 1) (by omega) ?_ ?_ (fun k hk2 => ?_)
          · show (badS x i || (!enK x i && !inB (chK x i) 33 126)) = false
            rw [hb, yb]; simp
          · show manS x i + (if enK x i = true then 0 else 1) = i + 1
            rw [hm, enK_f (Or.inr zs)]; rfl
          · by_cases e : k = i
            · rw [e]; exact yb
            · exact hk k (by omega)
        · rw [if_neg y2]
          exact Or.inl ⟨bad1 (enK_f (Or.inr zs)) (inB_f.mpr fun q => q.2 (Int32.not_le.mp y2)), rfl⟩
theorem put_eq {x : Int64} {len : Nat} : (siN x 8 0 = 0 ∧ putE x len = -2) ∨ (¬ siN x 8 0 = 0 ∧ 80 < len + siN x 8 0 ∧ putE x len = -4) ∨ (¬ siN x 8 0 = 0 ∧ len + siN x 8 0 ≤ 80 ∧ putE x len = 0 ∧ manS x 8 = siN x 8 0) := by
  unfold putE
  rcases si_bad x 8 0 rfl rfl rfl (fun k hk => absurd hk (Nat.not_lt_zero _)) with ⟨a, b⟩ | ⟨a, b, c⟩
  · rw [if_pos a]; exact Or.inl ⟨b, rfl⟩
  · rw [if_neg (by rw [a]; decide), b]
    by_cases z : len + siN x 8 0 ≤ 80
    · rw [if_pos z]; exact Or.inr (Or.inr ⟨by omega, z, rfl, rfl⟩)
    · rw [if_neg z]; exact Or.inr (Or.inl ⟨by omega, by omega, rfl⟩)
theorem put_row {b b' : Nat → Int32} {x : Int64} {len n : Nat} (e : ∀ j, j < len → b j = b' j) : ∀ j, j < len + n → ptP b x len n n j = putP b' x len n n j := by
  intro j hj
  rw [ptP_ok n (Nat.le_refl _)]
  unfold putP
  by_cases z : len ≤ j
  · rw [if_pos ⟨z, hj⟩, if_pos (by omega), show len + n - 1 - j = n - (j - len) - 1 by omega]
  · rw [if_neg (by omega), if_neg (by omega)]; exact e j (by omega)
theorem put_ch {b : Nat → Int32} {x : Int64} {len : Nat} (h : chOk b len) : chOk (ptP b x len (siN x 8 0) (siN x 8 0)) (len + siN x 8 0) := by
  intro j hj
  rw [ptP_ok _ (Nat.le_refl _)]
  by_cases z : len ≤ j
  · rw [if_pos ⟨z, hj⟩]
    exact inB_sm (siN_ok x 8 0 _ (Nat.zero_le _) (by omega))
  · rw [if_neg (by omega)]; exact h j (by omega)
