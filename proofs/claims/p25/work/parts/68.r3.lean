/-! the relation, third: counts; what a change answers, and that it keeps the relation -/
section R3
variable {n c : Nat} {h f : Nat → Int32}
theorem stillN_e : ∀ k, (∀ c, c < k → GoO h c) → stillN h k = stC h k := by
  intro k
  induction k with
  | zero => intro _; rfl
  | succ k ih =>
    intro g
    unfold stillN stC
    rw [ih (fun c hc => g c (by omega))]
    rcases g k (by omega) with e | ⟨e, _⟩
    · rw [if_pos e, if_neg (by rw [e]; decide), Int32.or_zero]
    · rw [if_neg (show ¬ h (12 + 8 * k + 6) = 1 by rw [e]; decide), if_pos e]
/-- the set of clocks that stand still, as bits of a number -/
def stB (h : Nat → Int32) : Nat → Nat
  | 0 => 0
  | k + 1 => if h (12 + 8 * k + 6) = 0 then stB h k + 2 ^ k else stB h k
theorem stB_lt (h : Nat → Int32) : ∀ k, stB h k < 2 ^ k := by
  intro k
  induction k with
  | zero => exact Nat.one_pos
  | succ k ih => unfold stB; rw [Nat.pow_succ]; split <;> omega
theorem or_pow {a k : Nat} (ha : a < 2 ^ k) : a ||| 2 ^ k = a + 2 ^ k := by
  have := Nat.two_pow_add_eq_or_of_lt ha 1
  rw [Nat.mul_one] at this
  rw [Nat.or_comm, Nat.add_comm, this]
theorem sh_tab : ∀ k, k < 16 → (1 : Int32) <<< (nI k &&& 31) = nI (2 ^ k) := by decide +kernel
theorem nI_or {a b : Nat} (ha : a < 2 ^ 31) (hb : b < 2 ^ 31) : nI a ||| nI b = nI (a ||| b) := by
  unfold nI
  apply Int32.toBitVec_inj.mp
  rw [Int32.toBitVec_or]
  apply BitVec.eq_of_toNat_eq
  have hab : a ||| b < 2 ^ 31 := Nat.or_lt_two_pow ha hb
  rw [BitVec.toNat_or]
  have e : ∀ x : Nat, x < 2 ^ 31 → (Int32.ofNat x).toBitVec.toNat = x := fun x hx => by
    have := pk_tn (n := x) (by omega)
    exact this
  rw [e a ha, e b hb, e _ hab]
theorem stC_B : ∀ k, k ≤ 16 → stC h k = nI (stB h k) := by
  intro k
  induction k with
  | zero => intro _; rfl
  | succ k ih =>
    intro hk
    have hl := stB_lt h k
    have h16 : 2 ^ k ≤ 2 ^ 15 := Nat.pow_le_pow_right (by decide) (by omega)
    unfold stC stB
    rw [ih (by omega)]
    split
    · rw [sh_tab k (by omega), nI_or (by omega) (by omega), or_pow hl]
    · rfl
/-- how many bits there are -/
def popN (a : Nat) : Nat → Nat
  | 0 => 0
  | k + 1 => popN a k + a / 2 ^ k % 2
theorem popN_hi : ∀ k a m, k ≤ m → popN (a + 2 ^ m) k = popN a k := by
  intro k
  induction k with
  | zero => intro a m _; rfl
  | succ k ih =>
    intro a m hk
    unfold popN
    rw [ih a m (by omega)]
    obtain ⟨e, rfl⟩ : ∃ e, m = k + 1 + e := ⟨m - (k + 1), by omega⟩
    have h1 : (a + 2 ^ (k + 1 + e)) / 2 ^ k = a / 2 ^ k + 2 * 2 ^ e := by
      rw [show 2 ^ (k + 1 + e) = 2 ^ k * (2 * 2 ^ e) by rw [Nat.pow_add, Nat.pow_succ, Nat.mul_assoc]]
      exact Nat.add_mul_div_left _ _ (Nat.two_pow_pos k)
    rw [h1, Nat.add_mul_mod_self_left]
theorem popN_0 : ∀ k a, a < 2 ^ k → ∀ m, k ≤ m → popN a m = popN a k := by
  intro k a ha m hk
  induction m with
  | zero => rw [show k = 0 by omega]
  | succ m ih =>
    by_cases e : k = m + 1
    · rw [e]
    · show popN a m + a / 2 ^ m % 2 = _
      rw [ih (by omega), Nat.div_eq_of_lt (Nat.lt_of_lt_of_le ha (Nat.pow_le_pow_right (by decide) (by omega)))]; rfl
theorem popN_st : ∀ k, popN (stB h k) k = k - goN h k := by
  intro k
  induction k with
  | zero => rfl
  | succ k ih =>
    have hl := stB_lt h k
    have hg := goN_le h k
    unfold stB goN popN
    by_cases e : h (12 + 8 * k + 6) = 0
    · rw [if_pos e, if_pos e, popN_hi k _ k (Nat.le_refl _), ih, Nat.add_div_right _ (Nat.two_pow_pos k), Nat.div_eq_of_lt hl]
      omega
    · rw [if_neg e, if_neg e, ih, Nat.div_eq_of_lt hl]
      omega
theorem bit_tab {a k : Nat} (ha : a < 2 ^ 16) (hk : k < 16) : nI a >>> (nI k &&& 31) &&& 1 = nI (a / 2 ^ k % 2) := by
  rw [pk_shrN (n := a) (by omega) (nI k &&& 31) k ((show ∀ k, k < 16 → ((nI k &&& 31).toBitVec.smod 32).toNat = k from by decide +kernel) k hk)]
  have := pk_andN (n := a / 2 ^ k) (Nat.lt_of_le_of_lt (Nat.div_le_self _ _) (by omega)) (m := 1) 1 (by decide)
  exact this
theorem manyN_pop {a : Nat} (ha : a < 2 ^ 16) : ∀ k, k ≤ 16 → manyN (nI a) k = nI (popN a k) := by
  intro k
  induction k with
  | zero => intro _; rfl
  | succ k ih =>
    intro hk
    unfold manyN popN
    rw [ih (by omega), bit_tab ha (by omega), nI_add]
theorem stV_go (W : Wk h) (g : ∀ c, c < cn h → GoO h c) : stV h = nI (cn h - goN h (cn h)) := by
  have h16 := W.2.1
  have hl := stB_lt h (cn h)
  have hl16 : stB h (cn h) < 2 ^ 16 := Nat.lt_of_lt_of_le hl (Nat.pow_le_pow_right (by decide) h16)
  unfold stV
  rw [stillN_e _ g, stC_B _ h16, manyN_pop hl16 16 (Nat.le_refl _), popN_0 (cn h) _ hl 16 h16, popN_st]
theorem goN_Mx : ∀ k, k ≤ n → goN (Mx n h f) k = goN h k := by
  intro k
  induction k with
  | zero => intro _; rfl
  | succ k ih =>
    intro hk
    unfold goN
    rw [ih (by omega), Mx_in (by omega)]
theorem goN_congr {h' : Nat → Int32} : ∀ k, (∀ c, c < k → h' (12 + 8 * c + 6) = h (12 + 8 * c + 6)) → goN h' k = goN h k := by
  intro k
  induction k with
  | zero => intro _; rfl
  | succ k ih =>
    intro e
    unfold goN
    rw [ih (fun c hc => e c (by omega)), e k (by omega)]
/-! the night of the change -/
theorem chgA_ot (a : Int32) : ∀ k {c w : Nat}, w < 8 → w ≠ 4 → chgA h a k (12 + 8 * c + w) = h (12 + 8 * c + w) := by
  intro k
  induction k with
  | zero => intro c w _ _; rfl
  | succ k ih =>
    intro c w hw h4
    unfold chgA chg1
    rw [upd_ne (by omega)]; exact ih hw h4
theorem chgA_o4 (a : Int32) : ∀ k {c : Nat}, k ≤ c → chgA h a k (12 + 8 * c + 4) = h (12 + 8 * c + 4) := by
  intro k
  induction k with
  | zero => intro c _; rfl
  | succ k ih =>
    intro c hc
    unfold chgA chg1
    rw [upd_ne (by omega)]; exact ih (by omega)
theorem chC_Mx (a : Int32) : ∀ k, k ≤ n → chC (Mx n h f) (if a = 1 then -3600 else 3600) k = Mx n (chgA h a k) f := by
  intro k
  induction k with
  | zero => intro _; rfl
  | succ k ih =>
    intro hk
    unfold chC chgA chg1
    rw [ih (by omega), Mx_in (by omega), Mx_in (by omega)]
    by_cases e : chgA h a k (12 + 8 * k + 6) = 0
    · rw [if_pos e, if_pos e, Int32.add_zero, upd_id]
    · rw [if_neg e, if_neg e, Mx_upd (by omega)]
theorem chgA_st (a : Int32) : ∀ k, (∀ c, c < k → GoO h c) → ∀ c, c < k → GoO (chgA h a k) c := by
  intro k g c hc
  unfold GoO
  rw [chgA_ot a k (by decide) (by decide)]
  rcases g c hc with e | ⟨e, e4⟩
  · exact Or.inl e
  · refine Or.inr ⟨e, ?_⟩
    clear g hc
    induction k with
    | zero => exact e4
    | succ k ih =>
      unfold chgA chg1
      by_cases z : c = k
      · subst z
        rw [upd_self, show chgA h a c (12 + 8 * c + 6) = h (12 + 8 * c + 6) from chgA_ot a c (by decide) (by decide), if_pos e, Int32.add_zero]; exact ih
      · rw [upd_ne (by omega)]; exact ih
theorem chgA_Iv (a : Int32) (v : Iv h) : Iv (chgA h a (cn h)) := by
  obtain ⟨D, hD, h4, W, S, vc⟩ := v
  have lo := fun j (hj : j < 12) => chgA_lo h a (cn h) hj
  refine ⟨D, hD, by rw [lo 4 (by decide)]; exact h4, W.low (lo 5 (by decide)) (lo 6 (by decide)), S.congr W.2.2.2 lo, fun c hc => ?_⟩
  rw [cn_low (lo 5 (by decide))] at hc
  obtain ⟨v0, v1, v3, v5, v6⟩ := vc c hc
  have o := fun (w : Nat) (hw : w < 8) (h4 : w ≠ 4) => chgA_ot (h := h) a (cn h) (c := c) hw h4
  refine ⟨by rw [o 0 (by decide) (by decide)]; exact v0, by rw [o 1 (by decide) (by decide)]; exact v1, by rw [o 3 (by decide) (by decide)]; exact v3, by rw [o 5 (by decide) (by decide)]; exact v5, ?_⟩
  exact chgA_st a (cn h) (fun c hc => (vc c hc).go) c hc
end R3
