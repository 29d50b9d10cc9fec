/-! the order in which clocks need a winder: each rank has its clock, and the keys rise with the ranks -/
theorem pigeon : ∀ (n : Nat) (r : Nat → Nat), (∀ c, c < n → r c < n) → (∀ a b, a < n → b < n → r a = r b → a = b) → ∀ k, k < n → ∃ c, c < n ∧ r c = k := by
  intro n
  induction n with
  | zero => intro r _ _ k hk; exact absurd hk (Nat.not_lt_zero _)
  | succ n ih =>
    intro r hr hi k hk
    have hr' : ∀ c, c < n → (fun c => if r c = n then r n else r c) c < n := by
      intro c hc
      show (if r c = n then r n else r c) < n
      split
      · next e =>
        have h1 := hr n (by omega)
        have : r n ≠ n := fun z => by have := hi c n (by omega) (by omega) (by rw [e, z]); omega
        omega
      · next e => have := hr c (by omega); omega
    have hi' : ∀ a b, a < n → b < n → (fun c => if r c = n then r n else r c) a = (fun c => if r c = n then r n else r c) b → a = b := by
      intro a b ha hb e
      have e : (if r a = n then r n else r a) = (if r b = n then r n else r b) := e
      by_cases ea : r a = n
      · by_cases eb : r b = n
        · exact hi a b (by omega) (by omega) (by rw [ea, eb])
        · rw [if_pos ea, if_neg eb] at e
          have := hi n b (by omega) (by omega) e; omega
      · by_cases eb : r b = n
        · rw [if_neg ea, if_pos eb] at e
          have := hi a n (by omega) (by omega) e; omega
        · rw [if_neg ea, if_neg eb] at e
          exact hi a b (by omega) (by omega) e
    by_cases kv : r n = k
    · exact ⟨n, by omega, kv⟩
    · by_cases kn : k = n
      · have hv : r n < n := by have := hr n (by omega); omega
        obtain ⟨c, hc, e⟩ := ih _ hr' hi' (r n) hv
        have e : (if r c = n then r n else r c) = r n := e
        by_cases q : r c = n
        · exact ⟨c, by omega, by omega⟩
        · rw [if_neg q] at e
          have := hi c n (by omega) (by omega) e; omega
      · obtain ⟨c, hc, e⟩ := ih _ hr' hi' k (by omega)
        have e : (if r c = n then r n else r c) = k := e
        by_cases q : r c = n
        · rw [if_pos q] at e; exact absurd e kv
        · rw [if_neg q] at e; exact ⟨c, by omega, e⟩
def ke (f : Nat → Int32) (c : Nat) : Nat := 16 * duS f c + c
theorem raN_s {f : Nat → Int32} {c k : Nat} (hk : k < 16) (hc : c < 16) : raN f c (k + 1) = raN f c k + if ke f k < ke f c then 1 else 0 := by
  show (if duS f k < duS f c then raN f c k + 1 else if duS f k = duS f c then (if c ≤ k then raN f c k else raN f c k + 1) else raN f c k) = _
  unfold ke
  split
  · rw [if_pos (by omega)]
  · split
    · split
      · rw [if_neg (by omega), Nat.add_zero]
      · rw [if_pos (by omega)]
    · rw [if_neg (by omega), Nat.add_zero]
theorem raN_mono {f : Nat → Int32} {a b : Nat} (ha : a < 16) (hb : b < 16) (h : ke f a < ke f b) : ∀ k, k ≤ 16 → raN f a k + (if a < k then 1 else 0) ≤ raN f b k := by
  intro k
  induction k with
  | zero => intro _; rw [if_neg (Nat.not_lt_zero _)]; exact Nat.le_refl _
  | succ k ih =>
    intro hk
    have i := ih (by omega)
    rw [raN_s (by omega) ha, raN_s (by omega) hb]
    by_cases e : a = k
    · subst e
      rw [if_neg (Nat.lt_irrefl _)] at i
      rw [if_neg (Nat.lt_irrefl _), if_pos (by omega), if_pos h]; omega
    · by_cases y : ke f k < ke f a
      · rw [if_pos y, if_pos (show ke f k < ke f b by omega)]
        by_cases q : a < k
        · rw [if_pos q] at i; rw [if_pos (by omega)]; omega
        · rw [if_neg q] at i; rw [if_neg (by omega)]; omega
      · rw [if_neg y]
        by_cases q : a < k
        · rw [if_pos q] at i; rw [if_pos (by omega)]; omega
        · rw [if_neg q] at i; rw [if_neg (by omega)]; omega
theorem raN_lt2 {f : Nat → Int32} {n a b : Nat} (hn : n ≤ 16) (ha : a < n) (hb : b < n) (h : ke f a < ke f b) : raN f a n < raN f b n := by
  have := raN_mono (show a < 16 by omega) (show b < 16 by omega) h n hn
  rw [if_pos ha] at this; omega
theorem raN_inj {f : Nat → Int32} {n : Nat} (hn : n ≤ 16) (a b : Nat) (ha : a < n) (hb : b < n) (h : raN f a n = raN f b n) : a = b := by
  rcases Nat.lt_trichotomy (ke f a) (ke f b) with y | y | y
  · have := raN_lt2 hn ha hb y; omega
  · unfold ke at y; omega
  · have := raN_lt2 hn hb ha y; omega
theorem ke_lt {f : Nat → Int32} {n a b : Nat} (hn : n ≤ 16) (ha : a < n) (hb : b < n) (h : raN f a n < raN f b n) : ke f a < ke f b := by
  rcases Nat.lt_trichotomy (ke f a) (ke f b) with y | y | y
  · exact y
  · have : a = b := by unfold ke at y; omega
    subst this; omega
  · have := raN_lt2 hn hb ha y; omega
/-- the clock of a rank -/
def RK (f : Nat → Int32) (k c : Nat) : Prop := c < cn f ∧ raN f c (cn f) = k
theorem RK_ex {f : Nat → Int32} (hn : cn f ≤ 16) {k : Nat} (hk : k < cn f) : ∃ c, RK f k c :=
  pigeon (cn f) (fun c => raN f c (cn f)) (fun c hc => raN_lt f c (cn f) hc) (fun a b ha hb e => raN_inj hn a b ha hb e) k hk
theorem neC_rank {f : Nat → Int32} (hn : cn f ≤ 16) {k c : Nat} (h : RK f k c) : neC f (cn f) (nI k) (cn f) = nI c := by
  obtain ⟨hc, e⟩ := h
  have hk := raN_lt f c (cn f) hc
  have key : ∀ m, m ≤ cn f → cn f - m ≤ c → neC f (cn f) (nI k) m = nI c := by
    intro m
    induction m with
    | zero => intro _ z; omega
    | succ m ih =>
      intro hm z
      unfold neC
      by_cases y : cn f - (m + 1) = c
      · rw [y, e, if_pos rfl]
      · rw [if_neg (fun q => y ?_)]
        · exact ih (by omega) (by omega)
        · have hl := raN_lt f (cn f - (m + 1)) (cn f) (by omega)
          have := (nI_eq (by omega) (by omega)).mp q
          exact raN_inj (f := f) hn _ _ (by omega) hc (by omega)
  exact key _ (Nat.le_refl _) (by omega)
theorem neC_none {f : Nat → Int32} (W : Wk f) : neC f (cn f) (nI (cn f)) (cn f) = -1 := neC_out W (Or.inr (Int32.lt_irrefl))
/-- the set of the clocks of the ranks below k -/
def SB (f : Nat → Int32) (k s : Nat) : Prop := s < 2 ^ 16 ∧ ∀ i, s.testBit i = true ↔ (i < cn f ∧ raN f i (cn f) < k)
theorem SB_0 (f : Nat → Int32) : SB f 0 0 := ⟨by decide, fun i => ⟨fun z => (by rw [Nat.zero_testBit] at z; cases z), fun z => absurd z.2 (Nat.not_lt_zero _)⟩⟩
theorem SB_s {f : Nat → Int32} {k s c : Nat} (h : SB f k s) (hn : cn f ≤ 16) (r : RK f k c) : SB f (k + 1) (s ||| 2 ^ c) := by
  have hc := r.1
  refine ⟨Nat.or_lt_two_pow h.1 (Nat.pow_lt_pow_right (by decide) (by omega)), fun i => ?_⟩
  rw [Nat.testBit_or, Nat.testBit_two_pow, Bool.or_eq_true, h.2 i, decide_eq_true_iff]
  constructor
  · rintro (z | z)
    · exact ⟨z.1, by omega⟩
    · subst z; exact ⟨hc, by have := r.2; omega⟩
  · rintro ⟨z1, z2⟩
    by_cases q : raN f i (cn f) < k
    · exact Or.inl ⟨z1, q⟩
    · exact Or.inr (raN_inj (f := f) hn c i hc z1 (by have := r.2; omega))
theorem ones_tab : ∀ n, n < 17 → (1 : Int32) <<< (nI n &&& 31) - 1 = nI (2 ^ n - 1) := by decide +kernel
theorem SB_n {f : Nat → Int32} {s : Nat} (h : SB f (cn f) s) (hn : cn f ≤ 16) : nI s = (1 : Int32) <<< (nI (cn f) &&& 31) - 1 := by
  rw [ones_tab (cn f) (by omega)]
  refine congrArg nI (Nat.eq_of_testBit_eq fun i => ?_)
  rw [Nat.testBit_two_pow_sub_one]
  by_cases z : i < cn f
  · rw [decide_eq_true z]; exact (h.2 i).mpr ⟨z, raN_lt f i (cn f) z⟩
  · rw [decide_eq_false z]
    cases e : s.testBit i with
    | false => rfl
    | true => exact absurd ((h.2 i).mp e).1 z
theorem SB_or {f : Nat → Int32} {k s c : Nat} (h : SB f k s) (hc : c < 16) : nI s ||| (1 : Int32) <<< (nI c &&& 31) = nI (s ||| 2 ^ c) := by
  have h1 := h.1
  have h2 : 2 ^ c < 2 ^ 16 := Nat.pow_lt_pow_right (by decide) hc
  rw [sh_tab c hc, nI_or (by omega) (by omega)]
/-- the key of the rank before -/
def LB (f : Nat → Int32) (k : Nat) (x : Int32) : Prop := (k = 0 ∧ x = -1) ∨ ∃ c, 0 < k ∧ RK f (k - 1) c ∧ x = nI (ke f c)
theorem duS_31 {f : Nat → Int32} (h : Tm f) (c : Nat) : duS f c ≤ 31 := by
  have h1 := h.1.2
  unfold duS duC stD
  split
  · omega
  · have := duL_le f c (f 0) (max 1 (ix (f 1) + 1 - ix (f (12 + 8 * c + 5))) - 1) 1
    have : max 1 (ix (f 1) + 1 - ix (f (12 + 8 * c + 5))) ≤ 31 := by omega
    omega
theorem LB_gt {f : Nat → Int32} {k c : Nat} {x : Int32} (T : Tm f) (hn : cn f ≤ 16) (h : LB f k x) (r : RK f k c) : ¬ nI (16 * duS f c + c) ≤ x := by
  have hc := r.1
  have d1 := duS_31 T c
  rcases h with ⟨_, rfl⟩ | ⟨c', hk, r', rfl⟩
  · intro z
    rw [Int32.le_iff_toInt_le, nI_toInt (by omega), show (-1 : Int32).toInt = -1 from by decide] at z; omega
  · have d2 := duS_31 T c'
    have hc' := r'.1
    have := ke_lt (f := f) hn r'.1 r.1 (by have := r'.2; have := r.2; omega)
    intro z
    unfold ke at z this
    have := (nI_leI (by omega) (by omega)).mp z
    omega
theorem LB_s {f : Nat → Int32} {k c : Nat} (r : RK f k c) : LB f (k + 1) (nI (16 * duS f c + c)) := Or.inr ⟨c, by omega, r, rfl⟩
theorem duS_0 {f : Nat → Int32} {c : Nat} (h : offB f c (f 0) = true) : duS f c = 0 := by unfold duS duC; rw [if_pos h]
theorem duS_p {f : Nat → Int32} {c : Nat} (h : offB f c (f 0) = false) : 0 < duS f c := by
  unfold duS duC; rw [h, if_neg (by decide)]
  exact (duL_spec (h := f) c (f 0) (stD f c - 1) 1).1
