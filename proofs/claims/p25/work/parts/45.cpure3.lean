/-! what the class's States do -/
section CR2
variable {p : Program} {l : Launch} {e : Env} {R : Room} {s : State} {m : MethodId} {args : Array Value} {below : List Frame} {meth : Method} {c : Code} {H : Heap} {locs : List Loc} {cells slots : Nat} {Q : State → Prop}
variable {cc : ByteArray} {pc : Nat} {ls : Array Slot} {rest : List Value} {dd : va_G} {g : Nat → ClassId} {A : Nat → Prop} {ad pi : Nat → Nat} {C : MS} {H0 : Heap} {own0 : String}
def stS (f h : Nat → Int32) : Nat → Int32 := fun j => if j < 4 then h j else f j
def laS (f h : Nat → Int32) : Nat → Int32 := fun j => if 8 ≤ j ∧ j < 12 then h j else f j
theorem cP_row {i k : Nat} {F : Nat → Int32} {e : va_E} (h : va_P dd vwCl ((cW g ad pi C).set i (ad i, e)) H) (hi : cE ad g pi (mrow C k F) i = e) (ho : ∀ j, own k j ≠ i → F j = C k j) : cP dd g ad pi H (mrow C k F) := by
  refine cP_set h hi (fun a ha hne => cE_own ha (fun u v huv => ?_))
  by_cases hu : u = k
  · subst hu; rw [mrow_s]; exact ho v (fun z => hne (huv.symm.trans z))
  · rw [mrow_n _ hu]
theorem c_cpyS {index : Nat} (hexec : p.tables.exec = Jvm.exec) (hb : c.code = cc) (hml : c.maxLocals = ls.size) (hown : s.vm.findClass own0 = some m.cls) (hlink : (Cond.methodLink own0 index arraycopyName).before args s = true) (hnat : (Cond.native arraycopyName).before args s = true) (hstat : (Cond.static arraycopyName).before args s = true) (hini : (Cond.initialized "java/lang/System").before args s = true)
    (hK : va_K dd vwCl (tysW g) s) (hA : cA A ad) (hI : cI dd g ad pi A H0 H locs C) (k k2 : Nat) (hk : k < 10) (hk2 : k2 < 10) (hne : k ≠ k2) (hframes : 1 ≤ R.frames) (hlocals : (rest.map fun v => v.category).sum + (nativeFrameWords "java/lang/System" "arraycopy" 5 + 11) ≤ R.locals) (hdg : decode cc pc = .ok (.invokestatic index, 3))
    (kk : ∀ (H1 : Heap) (locs1 : List Loc), cI dd g ad pi A H0 H1 locs1 (mrow C k (stS (C k) (C k2))) → W p l e R s m args below meth c H1 locs1 cells slots Q (F0 m (pc + 3) ls rest)) : W p l e R s m args below meth c H locs cells slots Q (F0 m pc ls (.int 4 :: .int 0 :: .ref (ad (12 + 20 * k)) :: .int 0 :: .ref (ad (12 + 20 * k2)) :: rest)) := by
  refine va_copyi hexec hb hml hown hlink hnat hstat hini hK hI.1 (hA.D g pi C) hI.2 (12 + 20 * k2) (12 + 20 * k) 0 0 (by rw [cW_get (by omega), cE_se]) (by rw [cW_get (by omega), cE_se]) rfl rfl rfl (by decide) (by decide) (by decide) (by decide) (by decide) (fun i _ => rfl) hframes hlocals hdg (fun H1 locs1 h1 _ h3 => kk H1 locs1 ⟨?_, h3⟩)
  refine cP_row h1 ?_ (fun j hj => ?_)
  · rw [cE_se]
    have e : (fun j => if j < 4 then mrow C k (stS (C k) (C k2)) k j else 0) = va_cpy (fun j => if j < 4 then C k2 j else 0) (fun j => if j < 4 then C k j else 0) (Int32.toNatClampNeg 0) (Int32.toNatClampNeg 0) (Int32.toNatClampNeg 4) := by
      funext j
      rw [show (Int32.toNatClampNeg 0) = 0 from by decide, show (Int32.toNatClampNeg 4) = 4 from by decide, mrow_s]
      unfold stS va_cpy
      by_cases z : j < 4
      · rw [if_pos z, if_pos z, if_pos (by omega), show 0 + (j - 0) = j by omega]; exact (if_pos z).symm
      · rw [if_neg z, if_neg (by omega)]; exact (if_neg z).symm
    rw [e]
  · unfold stS; rw [if_neg]; intro z; exact hj (by rw [own_lo hk, if_pos z])
theorem c_cpyL {index : Nat} (hexec : p.tables.exec = Jvm.exec) (hb : c.code = cc) (hml : c.maxLocals = ls.size) (hown : s.vm.findClass own0 = some m.cls) (hlink : (Cond.methodLink own0 index arraycopyName).before args s = true) (hnat : (Cond.native arraycopyName).before args s = true) (hstat : (Cond.static arraycopyName).before args s = true) (hini : (Cond.initialized "java/lang/System").before args s = true)
    (hK : va_K dd vwCl (tysW g) s) (hA : cA A ad) (hI : cI dd g ad pi A H0 H locs C) (k k2 : Nat) (hk : k < 10) (hk2 : k2 < 10) (hne : k ≠ k2) (hframes : 1 ≤ R.frames) (hlocals : (rest.map fun v => v.category).sum + (nativeFrameWords "java/lang/System" "arraycopy" 5 + 11) ≤ R.locals) (hdg : decode cc pc = .ok (.invokestatic index, 3))
    (kk : ∀ (H1 : Heap) (locs1 : List Loc), cI dd g ad pi A H0 H1 locs1 (mrow C k (laS (C k) (C k2))) → W p l e R s m args below meth c H1 locs1 cells slots Q (F0 m (pc + 3) ls rest)) : W p l e R s m args below meth c H locs cells slots Q (F0 m pc ls (.int 4 :: .int 0 :: .ref (ad (14 + 20 * k)) :: .int 0 :: .ref (ad (14 + 20 * k2)) :: rest)) := by
  refine va_copyi hexec hb hml hown hlink hnat hstat hini hK hI.1 (hA.D g pi C) hI.2 (14 + 20 * k2) (14 + 20 * k) 0 0 (by rw [cW_get (by omega), cE_la]) (by rw [cW_get (by omega), cE_la]) rfl rfl rfl (by decide) (by decide) (by decide) (by decide) (by decide) (fun i _ => rfl) hframes hlocals hdg (fun H1 locs1 h1 _ h3 => kk H1 locs1 ⟨?_, h3⟩)
  refine cP_row h1 ?_ (fun j hj => ?_)
  · rw [cE_la]
    have e : (fun j => if j < 4 then mrow C k (laS (C k) (C k2)) k (8 + j) else 0) = va_cpy (fun j => if j < 4 then C k2 (8 + j) else 0) (fun j => if j < 4 then C k (8 + j) else 0) (Int32.toNatClampNeg 0) (Int32.toNatClampNeg 0) (Int32.toNatClampNeg 4) := by
      funext j
      rw [show (Int32.toNatClampNeg 0) = 0 from by decide, show (Int32.toNatClampNeg 4) = 4 from by decide, mrow_s]
      unfold laS va_cpy
      by_cases z : j < 4
      · rw [if_pos z, if_pos (by omega), if_pos (by omega), show 0 + (j - 0) = j by omega]; exact (if_pos z).symm
      · rw [if_neg z, if_neg (by omega)]; exact (if_neg z).symm
    rw [e]
  · unfold laS; rw [if_neg]; intro z; exact hj (by rw [own_lo hk, if_neg (by omega), if_neg (by omega), if_pos z.2])
end CR2
def rsR (f : Nat → Int32) (x v : Int32) : Int32 := if x < 0 then -2 else if 4 ≤ x then -2 else if inB v 1 (if ix x = 0 then 999 else 30) = true then f (ix x) else -2
def rsF (f : Nat → Int32) (x v : Int32) : Nat → Int32 := if x < 0 then f else if 4 ≤ x then f else if inB v 1 (if ix x = 0 then 999 else 30) = true then upd f (ix x) v else f
def acR (f : Nat → Int32) (h u d : Int32) : Int32 := if inB h 0 99 = true then if inB u 0 30 = true then if inB d (-99) 99 = true then if cn f < 16 then nI (cn f) else -4 else -2 else -2 else -2
def acF (f : Nat → Int32) (h u d : Int32) : Nat → Int32 := if inB h 0 99 = true then if inB u 0 30 = true then if inB d (-99) 99 = true then if cn f < 16 then upd (begC f (cn f) h u d) 5 (nI (cn f + 1)) else f else f else f else f
theorem begC_low (f : Nat → Int32) (c : Nat) (h u d : Int32) {j : Nat} (hj : j < 12) : begC f c h u d j = f j := by
  unfold begC
  iterate 8 rw [upd_ne (by omega)]
def alR (f : Nat → Int32) (u : Int32) : Int32 := if inB u 1 30 = true then if ln f < 4 then nI (ln f) else -4 else -2
def alF (f : Nat → Int32) (u : Int32) : Nat → Int32 := if inB u 1 30 = true then if ln f < 4 then upd (upd f (8 + ln f) u) 6 (nI (ln f + 1)) else f else f
def tsR (f : Nat → Int32) (x t : Int32) : Int32 := if isCb f x = true then if inB t (-20) 20 = true then if inB (f (12 + 8 * ix x + 3) + t) (-20) 20 = true then f (12 + 8 * ix x + 3) + t + 20 else -5 else -2 else -1
def tsF (f : Nat → Int32) (x t : Int32) : Nat → Int32 := if isCb f x = true then if inB t (-20) 20 = true then if inB (f (12 + 8 * ix x + 3) + t) (-20) 20 = true then upd f (12 + 8 * ix x + 3) (f (12 + 8 * ix x + 3) + t) else f else f else f
def dcA (f : Nat → Int32) (wd : Int32) : Nat → Nat → Int32
  | 0 => f
  | c + 1 => dayC (dcA f wd c) c wd
def dcD (f : Nat → Int32) (wd : Int32) (n : Nat) : Nat → Nat → Int32
  | 0 => f
  | d + 1 => dcA (dcD f wd n d) wd n
theorem dayC_low (f : Nat → Int32) (c : Nat) (wd : Int32) {j : Nat} (hj : j < 12) : dayC f c wd j = f j := by
  unfold dayC
  split
  · split
    · rw [upd_ne (by omega)]
    · iterate 3 rw [upd_ne (by omega)]
  · split
    · iterate 2 rw [upd_ne (by omega)]
    · iterate 4 rw [upd_ne (by omega)]
theorem dcA_low (f : Nat → Int32) (wd : Int32) (c : Nat) {j : Nat} (hj : j < 12) : dcA f wd c j = f j := by
  induction c with
  | zero => rfl
  | succ c ih => unfold dcA; rw [dayC_low _ _ _ hj, ih]
theorem dcD_low (f : Nat → Int32) (wd : Int32) (n d : Nat) {j : Nat} (hj : j < 12) : dcD f wd n d j = f j := by
  induction d with
  | zero => rfl
  | succ d ih => unfold dcD; rw [dcA_low _ _ _ hj, ih]
theorem Wk.low {f h : Nat → Int32} (w : Wk f) (h5 : h 5 = f 5) (h6 : h 6 = f 6) : Wk h := by
  unfold Wk cn ln; rw [h5, h6]; exact w
theorem cn_low {f h : Nat → Int32} (h5 : h 5 = f 5) : cn h = cn f := by unfold cn; rw [h5]
theorem ln_low {f h : Nat → Int32} (h6 : h 6 = f 6) : ln h = ln f := by unfold ln; rw [h6]
def psW (f : Nat → Int32) (m : Int32) : Nat → Int32 := upd (dcD f (f 1) (cn f) (ix m)) 4 (f 4 + m)
def psR (f : Nat → Int32) (m : Int32) : Int32 := if inB m 1 99 = true then if f 4 + m ≤ 9999 then nI (cn f - goN (psW f m) (cn f)) else -5 else -2
def psF (f : Nat → Int32) (m : Int32) : Nat → Int32 := if inB m 1 99 = true then if f 4 + m ≤ 9999 then psW f m else f else f
def chC (f : Nat → Int32) (sec : Int32) : Nat → Nat → Int32
  | 0 => f
  | c + 1 => if chC f sec c (12 + 8 * c + 6) = 0 then chC f sec c else upd (chC f sec c) (12 + 8 * c + 4) (chC f sec c (12 + 8 * c + 4) + sec)
theorem chC_low (f : Nat → Int32) (sec : Int32) (c : Nat) {j : Nat} (hj : j < 12) : chC f sec c j = f j := by
  induction c with
  | zero => rfl
  | succ c ih => unfold chC; split; exact ih; rw [upd_ne (by omega)]; exact ih
def ccS (x : Int32) : Int32 := if x = 0 then 3600 else -3600
def ccF (f : Nat → Int32) (x : Int32) : Nat → Int32 := if x = 0 then chC f 3600 (cn f) else if x = 1 then chC f (-3600) (cn f) else f
def ccR (f : Nat → Int32) (x : Int32) : Int32 := if x = 0 then nI (goN (chC f 3600 (cn f)) (cn f)) else if x = 1 then nI (goN (chC f (-3600) (cn f)) (cn f)) else -2
def cpK (f h : Nat → Int32) : Nat → Nat → Int32
  | 0 => f
  | c + 1 => cpyC (cpK f h c) h c c
def cpS (f h : Nat → Int32) : Nat → Int32 := upd (upd (upd (upd (cpK (laS (stS f h) h) h (cn h)) 5 (nI (cn h))) 6 (h 6)) 4 (h 4)) 7 (h 7)
/-! what the class's Rows do; the minutes -/
def atR (w : Nat → Int32) (L : Nat) (x : Int32) : Int32 := if x < 0 then -6 else if nI L ≤ x then -6 else w (ix x)
def trN (w : Nat → Int32) (L : Nat) : Nat → Nat → Int32
  | 0 => w
  | i + 1 => upd (upd (trN w L i) i (trN w L i (L - 1 - i))) (L - 1 - i) (trN w L i i)
def hrN (f w : Nat → Int32) : Nat → Int32
  | 0 => 0
  | n + 1 => f (12 + 8 * ix (w n) + 0)
def ndN (f w : Nat → Int32) (n : Nat) : Int32 := o2i (ladF f (ix (w n)))
def caN (f w : Nat → Int32) : Nat → Int32
  | 0 => -6
  | n + 1 => if ndN f w n = -6 then caN f w n else if ndN f w n = caN f w n then caN f w n else ndN f w n
def spN (f w : Nat → Int32) : Nat → Int32
  | 0 => 0
  | n + 1 => if ndN f w n = -6 then spN f w n + jabs (f (12 + 8 * ix (w n) + 0) - hrN f w n) else if ndN f w n = caN f w n then spN f w n + jabs (f (12 + 8 * ix (w n) + 0) - hrN f w n) else spN f w n + jabs (f (12 + 8 * ix (w n) + 0) - hrN f w n) + 2 * f (12 + 8 * ix (w n) + 0)
def wkN (f w : Nat → Int32) : Nat → Nat
  | 0 => 0
  | n + 1 => if canW f (ix (w n)) = true then wkN f w n + 1 else wkN f w n
theorem wkN_le (f w : Nat → Int32) (n : Nat) : wkN f w n ≤ n := by
  induction n with
  | zero => exact Nat.le_refl _
  | succ n ih => unfold wkN; split <;> omega
def moN (f w : Nat → Int32) (n : Nat) : Int32 := (spN f w n + hrN f w n) * f 2 + nI (wkN f w n) * f 3
def gdN (f w : Nat → Int32) (n : Nat) : Prop := ∀ i, i < n → isCb f (w i) = true
def wbN (f w : Nat → Int32) : Nat → Nat → Int32
  | 0 => f
  | n + 1 => if canW (wbN f w n) (ix (w n)) = true then winC (wbN f w n) (ix (w n)) (f 0) else wbN f w n
theorem turC_low (f : Nat → Int32) (c : Nat) {j : Nat} (hj : j < 12) : turC f c j = f j := by
  unfold turC
  split
  · split
    · rfl
    · split
      · rfl
      · rw [upd_ne (by omega)]
  · split
    · split
      · rfl
      · split
        · rfl
        · rw [upd_ne (by omega)]
    · rw [upd_ne (by omega)]
theorem setC_low (f : Nat → Int32) (c : Nat) {j : Nat} (hj : j < 12) : setC f c j = f j := by
  unfold setC; iterate 4 rw [upd_ne (by omega)]
theorem winC_low (f : Nat → Int32) (c : Nat) (t : Int32) {j : Nat} (hj : j < 12) : winC f c t j = f j := by
  unfold winC
  split
  · exact setC_low _ _ hj
  · split
    · rw [setC_low _ _ hj, turC_low _ _ hj]
    · exact setC_low _ _ hj
theorem wbN_low (f w : Nat → Int32) (n : Nat) {j : Nat} (hj : j < 12) : wbN f w n j = f j := by
  induction n with
  | zero => rfl
  | succ n ih => unfold wbN; split; rw [winC_low _ _ _ hj]; exact ih; exact ih
theorem turC_rungs (f : Nat → Int32) (c i : Nat) : turC f c (12 + 8 * i + 1) = f (12 + 8 * i + 1) := by
  unfold turC
  split
  · split
    · rfl
    · split
      · rfl
      · rw [upd_ne (by omega)]
  · split
    · split
      · rfl
      · split
        · rfl
        · rw [upd_ne (by omega)]
    · rw [upd_ne (by omega)]
theorem setC_rungs (f : Nat → Int32) (c i : Nat) : setC f c (12 + 8 * i + 1) = f (12 + 8 * i + 1) := by
  unfold setC; iterate 4 rw [upd_ne (by omega)]
theorem winC_rungs (f : Nat → Int32) (c i : Nat) (t : Int32) : winC f c t (12 + 8 * i + 1) = f (12 + 8 * i + 1) := by
  unfold winC
  split
  · exact setC_rungs _ _ _
  · split
    · rw [setC_rungs, turC_rungs]
    · exact setC_rungs _ _ _
theorem wbN_rungs (f w : Nat → Int32) (n i : Nat) : wbN f w n (12 + 8 * i + 1) = f (12 + 8 * i + 1) := by
  induction n with
  | zero => rfl
  | succ n ih => unfold wbN; split; rw [winC_rungs]; exact ih; exact ih
theorem Lad.low {f h : Nat → Int32} (H : Lad f) (hl : ∀ j, j < 12 → h j = f j) (hr : ∀ i, h (12 + 8 * i + 1) = f (12 + 8 * i + 1)) (w : Wk f) : Lad h := by
  refine ⟨fun j hj => ?_, fun c hc => ?_⟩
  · rw [ln_low (hl 6 (by decide))] at hj
    have := w.2.2.2
    rw [hl (8 + j) (by omega)]; exact H.1 j hj
  · rw [cn_low (hl 5 (by decide))] at hc
    rw [hr c]; exact H.2 c hc
theorem atR_in {w : Nat → Int32} {L j : Nat} (hL : L ≤ 40) (h : j < L) : atR w L (nI j) = w j := by
  unfold atR
  rw [if_neg (nI_pos (by omega)), if_neg (fun z => by have := (nI_leI (a := L) (b := j) (by omega) (by omega)).mp z; omega), ix_nI (by omega)]
theorem gdN_s {f w : Nat → Int32} {n : Nat} (h : gdN f w n) (hb : isCb f (w n) = true) : gdN f w (n + 1) := fun i hi => by
  rcases Nat.lt_or_ge i n with z | z
  · exact h i z
  · rw [show i = n by omega]; exact hb
theorem isCb_low {f h : Nat → Int32} {x : Int32} (h5 : h 5 = f 5) : isCb h x = isCb f x := by unfold isCb; rw [h5]
