/-! a call of the script, on either side -/
theorem Rel.T0 {C : MS} {pi : Nat → Nat} {M : MS} {d len : Nat} (R : Rel C pi M d len) : Tm (M 0) := Ro.T (f := M 0) ⟨R.ro.1, fun _ _ => rfl⟩
theorem Rel.last {C : MS} {pi : Nat → Nat} {M : MS} {d len : Nat} (R : Rel C pi M d len) {x : Int32} (hb : isCb (M 0) x = true) : offB (lastN (M 0) (ix x) (duS (M 0) (ix x))) (ix x) (lastN (M 0) (ix x) (duS (M 0) (ix x)) 0) = true ∧ ∀ d, d < duS (M 0) (ix x) → offB (lastN (M 0) (ix x) d) (ix x) (lastN (M 0) (ix x) d 0) = false := by
  obtain ⟨i, hi, rfl⟩ := (isC_iff R.ro.1.W x).mp hb
  have := R.ro.1.W.2.1
  rw [ix_nI (by omega)]
  exact lasts_spec R.ro.1 hi
theorem Rel.last2 {C : MS} {pi : Nat → Nat} {M : MS} {d len : Nat} (R : Rel C pi M d len) {i : Nat} (hi : i < cn (M 0)) : offB (lastN (M 0) (ix (nI i)) (duS (M 0) i)) (ix (nI i)) (lastN (M 0) (ix (nI i)) (duS (M 0) i) 0) = true ∧ ∀ d, d < duS (M 0) i → offB (lastN (M 0) (ix (nI i)) d) (ix (nI i)) (lastN (M 0) (ix (nI i)) d 0) = false := by
  have := R.ro.1.W.2.1
  rw [ix_nI (by omega)]
  exact lasts_spec R.ro.1 hi
set_option maxHeartbeats 4000000 in
set_option maxRecDepth 100000 in
theorem lw_c0 {p : Program} {l : Launch} {e : Env} {s : State} {m : MethodId} {below : List Frame} {meth : Method} {c : Code} {b L : Nat} {xs : Nat → Int32} {dd : va_G} {g : Nat → ClassId} {ad q : Nat → Nat} (EN : LEnv p s m meth c b L xs dd g ad q) (hL : L ≤ 2048) {i : Nat} (hi : i + 4 ≤ L) {pi : Nat → Nat} {C M : MS} {H : Heap} {locs : List Loc} {ls : Array Slot} (hR : RelE C pi M) (hI : LI dd g ad q (lA s) pi C M s.heap H locs) (hl : lv_has ls 4 [(3, .int (nI i)), (2, .ref (q 0)), (1, .ref (ad 0)), (0, .ref b)]) {Q : State → Prop} (kk : ∀ (C1 : MS) (pi1 : Nat → Nat) (M1 : MS) (H1 : Heap) (locs1 : List Loc), RelE C1 pi1 M1 → LI dd g ad q (lA s) pi1 C1 M1 s.heap H1 locs1 → W p l e room_1 s m #[Value.ref b] below meth c H1 locs1 221 3390 Q (F0 m 672 ls [])) : W p l e room_1 s m #[Value.ref b] below meth c H locs 221 3390 Q (F0 m 136 ls []) := by
  obtain ⟨hx, hb, hml, hown, hts, hX, hbl, hK, hcX, hA, hB, hap⟩ := EN
  have hbA : ¬ lA s b := Nat.not_le.mpr hbl
  obtain ⟨d, len, R⟩ := hR
  refine lv_aload_n hx hb dL_law_136 rfl (lv_at hl 2 rfl) ?_
  refine lv_aload_n hx hb dL_law_137 rfl (lv_at hl 3 rfl) ?_
  refine lv_iload_n hx hb dL_law_138 rfl (lv_at hl 0 rfl) ?_
  refine lv_iconst (v := 1) hx hb dL_law_139 (by decide) ?_
  refine lv_iadd hx hb dL_law_140 ?_
  refine lv_re (show nI i + (1 : Int32) = nI (i + 1) from nI_add i 1) ?_
  refine va_sld hx hb hX hbl hbA hI.2.2 (vp_in_nI (show i + 1 < L by omega) (by omega)) dL_law_141 ?_
  refine lv_re (show xs (nI (i + 1)).toNatClampNeg = xs (i + 1) by rw [nI_clamp (by omega)]) ?_
  refine lv_aload_n hx hb dL_law_142 rfl (lv_at hl 3 rfl) ?_
  refine lv_iload_n hx hb dL_law_143 rfl (lv_at hl 0 rfl) ?_
  refine lv_iconst (v := 2) hx hb dL_law_144 (by decide) ?_
  refine lv_iadd hx hb dL_law_145 ?_
  refine lv_re (show nI i + (2 : Int32) = nI (i + 2) from nI_add i 2) ?_
  refine va_sld hx hb hX hbl hbA hI.2.2 (vp_in_nI (show i + 2 < L by omega) (by omega)) dL_law_146 ?_
  refine lv_re (show xs (nI (i + 2)).toNatClampNeg = xs (i + 2) by rw [nI_clamp (by omega)]) ?_
  refine l_c (As := [.int (xs (i + 1)), .int (xs (i + 2))]) (rest := []) hx hb hml hown hts hK hcX hA hB hap hI (k_X5_set l dd g ad pi (cF ad) (cF_A hA) C d R.1.2.1 R.1.2.2.1 R.1.1 R.ro.W R.g0 (xs (i + 1)) (xs (i + 2))) (cwV 2 hts gL_law_X5_set rfl rfl rfl (by decide +kernel) ⟨Nat.le_of_ble_eq_true rfl, Nat.le_of_ble_eq_true rfl⟩) rfl hl (Nat.le_of_ble_eq_true rfl) ⟨Nat.le_of_ble_eq_true rfl, Nat.le_of_ble_eq_true rfl⟩ dL_law_147 rfl (fun r C1 pi1 H locs hpc hI => ?_)
  refine lv_aload_n hx hb dL_law_150 rfl (lv_at hl 1 rfl) ?_
  refine lv_aload_n hx hb dL_law_151 rfl (lv_at hl 3 rfl) ?_
  refine lv_iload_n hx hb dL_law_152 rfl (lv_at hl 0 rfl) ?_
  refine lv_iconst (v := 1) hx hb dL_law_153 (by decide) ?_
  refine lv_iadd hx hb dL_law_154 ?_
  refine lv_re (show nI i + (1 : Int32) = nI (i + 1) from nI_add i 1) ?_
  refine va_sld hx hb hX hbl hbA hI.2.2 (vp_in_nI (show i + 1 < L by omega) (by omega)) dL_law_155 ?_
  refine lv_re (show xs (nI (i + 1)).toNatClampNeg = xs (i + 1) by rw [nI_clamp (by omega)]) ?_
  refine lv_aload_n hx hb dL_law_156 rfl (lv_at hl 3 rfl) ?_
  refine lv_iload_n hx hb dL_law_157 rfl (lv_at hl 0 rfl) ?_
  refine lv_iconst (v := 2) hx hb dL_law_158 (by decide) ?_
  refine lv_iadd hx hb dL_law_159 ?_
  refine lv_re (show nI i + (2 : Int32) = nI (i + 2) from nI_add i 2) ?_
  refine va_sld hx hb hX hbl hbA hI.2.2 (vp_in_nI (show i + 2 < L by omega) (by omega)) dL_law_160 ?_
  refine lv_re (show xs (nI (i + 2)).toNatClampNeg = xs (i + 2) by rw [nI_clamp (by omega)]) ?_
  refine l_m (As := [.int (xs (i + 1)), .int (xs (i + 2))]) (rest := [.int r]) hx hb hml hown hts hK hA hB hap hI (k_X6_set l dd g q (mF q) (mF_A hB) M (xs (i + 1)) (xs (i + 2)) d R.1.2.1 R.1.2.2.2) (cwV 2 hts gL_law_X6_set rfl rfl rfl (by decide +kernel) ⟨Nat.le_of_ble_eq_true rfl, Nat.le_of_ble_eq_true rfl⟩) rfl hl (Nat.le_of_ble_eq_true rfl) ⟨Nat.le_of_ble_eq_true rfl, Nat.le_of_ble_eq_true rfl⟩ dL_law_161 rfl (fun r2 M1 H locs hpm hI => ?_)
  obtain ⟨e1, R1⟩ := rel_set R hpc hpm
  exact lv_icmp_eq (tgt := 672) hx hb dL_law_164 (by decide) (fun _ => kk _ _ _ _ _ R1 hI) (fun c9 => absurd e1 c9)
set_option maxHeartbeats 4000000 in
set_option maxRecDepth 100000 in
theorem lw_c1 {p : Program} {l : Launch} {e : Env} {s : State} {m : MethodId} {below : List Frame} {meth : Method} {c : Code} {b L : Nat} {xs : Nat → Int32} {dd : va_G} {g : Nat → ClassId} {ad q : Nat → Nat} (EN : LEnv p s m meth c b L xs dd g ad q) (hL : L ≤ 2048) {i : Nat} (hi : i + 4 ≤ L) {pi : Nat → Nat} {C M : MS} {H : Heap} {locs : List Loc} {ls : Array Slot} (hR : RelE C pi M) (hI : LI dd g ad q (lA s) pi C M s.heap H locs) (hl : lv_has ls 4 [(3, .int (nI i)), (2, .ref (q 0)), (1, .ref (ad 0)), (0, .ref b)]) {Q : State → Prop} (kk : ∀ (C1 : MS) (pi1 : Nat → Nat) (M1 : MS) (H1 : Heap) (locs1 : List Loc), RelE C1 pi1 M1 → LI dd g ad q (lA s) pi1 C1 M1 s.heap H1 locs1 → W p l e room_1 s m #[Value.ref b] below meth c H1 locs1 221 3390 Q (F0 m 672 ls [])) : W p l e room_1 s m #[Value.ref b] below meth c H locs 221 3390 Q (F0 m 169 ls []) := by
  obtain ⟨hx, hb, hml, hown, hts, hX, hbl, hK, hcX, hA, hB, hap⟩ := EN
  have hbA : ¬ lA s b := Nat.not_le.mpr hbl
  obtain ⟨d, len, R⟩ := hR
  refine lv_aload_n hx hb dL_law_169 rfl (lv_at hl 2 rfl) ?_
  refine lv_aload_n hx hb dL_law_170 rfl (lv_at hl 3 rfl) ?_
  refine lv_iload_n hx hb dL_law_171 rfl (lv_at hl 0 rfl) ?_
  refine lv_iconst (v := 1) hx hb dL_law_172 (by decide) ?_
  refine lv_iadd hx hb dL_law_173 ?_
  refine lv_re (show nI i + (1 : Int32) = nI (i + 1) from nI_add i 1) ?_
  refine va_sld hx hb hX hbl hbA hI.2.2 (vp_in_nI (show i + 1 < L by omega) (by omega)) dL_law_174 ?_
  refine lv_re (show xs (nI (i + 1)).toNatClampNeg = xs (i + 1) by rw [nI_clamp (by omega)]) ?_
  refine lv_aload_n hx hb dL_law_175 rfl (lv_at hl 3 rfl) ?_
  refine lv_iload_n hx hb dL_law_176 rfl (lv_at hl 0 rfl) ?_
  refine lv_iconst (v := 2) hx hb dL_law_177 (by decide) ?_
  refine lv_iadd hx hb dL_law_178 ?_
  refine lv_re (show nI i + (2 : Int32) = nI (i + 2) from nI_add i 2) ?_
  refine va_sld hx hb hX hbl hbA hI.2.2 (vp_in_nI (show i + 2 < L by omega) (by omega)) dL_law_179 ?_
  refine lv_re (show xs (nI (i + 2)).toNatClampNeg = xs (i + 2) by rw [nI_clamp (by omega)]) ?_
  refine lv_aload_n hx hb dL_law_180 rfl (lv_at hl 3 rfl) ?_
  refine lv_iload_n hx hb dL_law_181 rfl (lv_at hl 0 rfl) ?_
  refine lv_iconst (v := 3) hx hb dL_law_182 (by decide) ?_
  refine lv_iadd hx hb dL_law_183 ?_
  refine lv_re (show nI i + (3 : Int32) = nI (i + 3) from nI_add i 3) ?_
  refine va_sld hx hb hX hbl hbA hI.2.2 (vp_in_nI (show i + 3 < L by omega) (by omega)) dL_law_184 ?_
  refine lv_re (show xs (nI (i + 3)).toNatClampNeg = xs (i + 3) by rw [nI_clamp (by omega)]) ?_
  refine l_c (As := [.int (xs (i + 1)), .int (xs (i + 2)), .int (xs (i + 3))]) (rest := []) hx hb hml hown hts hK hcX hA hB hap hI (k_X5_hang l dd g ad pi (cF ad) (cF_A hA) C d R.1.2.1 R.1.2.2.1 R.1.1 R.ro.W R.g0 (xs (i + 1)) (xs (i + 2)) (xs (i + 3))) (cwV 3 hts gL_law_X5_hang rfl rfl rfl (by decide +kernel) ⟨Nat.le_of_ble_eq_true rfl, Nat.le_of_ble_eq_true rfl⟩) rfl hl (Nat.le_of_ble_eq_true rfl) ⟨Nat.le_of_ble_eq_true rfl, Nat.le_of_ble_eq_true rfl⟩ dL_law_185 rfl (fun r C1 pi1 H locs hpc hI => ?_)
  refine lv_aload_n hx hb dL_law_188 rfl (lv_at hl 1 rfl) ?_
  refine lv_aload_n hx hb dL_law_189 rfl (lv_at hl 3 rfl) ?_
  refine lv_iload_n hx hb dL_law_190 rfl (lv_at hl 0 rfl) ?_
  refine lv_iconst (v := 1) hx hb dL_law_191 (by decide) ?_
  refine lv_iadd hx hb dL_law_192 ?_
  refine lv_re (show nI i + (1 : Int32) = nI (i + 1) from nI_add i 1) ?_
  refine va_sld hx hb hX hbl hbA hI.2.2 (vp_in_nI (show i + 1 < L by omega) (by omega)) dL_law_193 ?_
  refine lv_re (show xs (nI (i + 1)).toNatClampNeg = xs (i + 1) by rw [nI_clamp (by omega)]) ?_
  refine lv_aload_n hx hb dL_law_194 rfl (lv_at hl 3 rfl) ?_
  refine lv_iload_n hx hb dL_law_195 rfl (lv_at hl 0 rfl) ?_
  refine lv_iconst (v := 2) hx hb dL_law_196 (by decide) ?_
  refine lv_iadd hx hb dL_law_197 ?_
  refine lv_re (show nI i + (2 : Int32) = nI (i + 2) from nI_add i 2) ?_
  refine va_sld hx hb hX hbl hbA hI.2.2 (vp_in_nI (show i + 2 < L by omega) (by omega)) dL_law_198 ?_
  refine lv_re (show xs (nI (i + 2)).toNatClampNeg = xs (i + 2) by rw [nI_clamp (by omega)]) ?_
  refine lv_aload_n hx hb dL_law_199 rfl (lv_at hl 3 rfl) ?_
  refine lv_iload_n hx hb dL_law_200 rfl (lv_at hl 0 rfl) ?_
  refine lv_iconst (v := 3) hx hb dL_law_201 (by decide) ?_
  refine lv_iadd hx hb dL_law_202 ?_
  refine lv_re (show nI i + (3 : Int32) = nI (i + 3) from nI_add i 3) ?_
  refine va_sld hx hb hX hbl hbA hI.2.2 (vp_in_nI (show i + 3 < L by omega) (by omega)) dL_law_203 ?_
  refine lv_re (show xs (nI (i + 3)).toNatClampNeg = xs (i + 3) by rw [nI_clamp (by omega)]) ?_
  refine l_m (As := [.int (xs (i + 1)), .int (xs (i + 2)), .int (xs (i + 3))]) (rest := [.int r]) hx hb hml hown hts hK hA hB hap hI (k_X6_hang l dd g q (mF q) (mF_A hB) M (xs (i + 1)) (xs (i + 2)) (xs (i + 3)) d R.1.2.1 R.1.2.2.2 R.ro.1.W) (cwV 3 hts gL_law_X6_hang rfl rfl rfl (by decide +kernel) ⟨Nat.le_of_ble_eq_true rfl, Nat.le_of_ble_eq_true rfl⟩) rfl hl (Nat.le_of_ble_eq_true rfl) ⟨Nat.le_of_ble_eq_true rfl, Nat.le_of_ble_eq_true rfl⟩ dL_law_204 rfl (fun r2 M1 H locs hpm hI => ?_)
  obtain ⟨e1, R1⟩ := rel_hang R hpc hpm
  exact lv_icmp_eq (tgt := 672) hx hb dL_law_207 (by decide) (fun _ => kk _ _ _ _ _ R1 hI) (fun c9 => absurd e1 c9)
set_option maxHeartbeats 4000000 in
set_option maxRecDepth 100000 in
theorem lw_c2 {p : Program} {l : Launch} {e : Env} {s : State} {m : MethodId} {below : List Frame} {meth : Method} {c : Code} {b L : Nat} {xs : Nat → Int32} {dd : va_G} {g : Nat → ClassId} {ad q : Nat → Nat} (EN : LEnv p s m meth c b L xs dd g ad q) (hL : L ≤ 2048) {i : Nat} (hi : i + 4 ≤ L) {pi : Nat → Nat} {C M : MS} {H : Heap} {locs : List Loc} {ls : Array Slot} (hR : RelE C pi M) (hI : LI dd g ad q (lA s) pi C M s.heap H locs) (hl : lv_has ls 4 [(3, .int (nI i)), (2, .ref (q 0)), (1, .ref (ad 0)), (0, .ref b)]) {Q : State → Prop} (kk : ∀ (C1 : MS) (pi1 : Nat → Nat) (M1 : MS) (H1 : Heap) (locs1 : List Loc), RelE C1 pi1 M1 → LI dd g ad q (lA s) pi1 C1 M1 s.heap H1 locs1 → W p l e room_1 s m #[Value.ref b] below meth c H1 locs1 221 3390 Q (F0 m 672 ls [])) : W p l e room_1 s m #[Value.ref b] below meth c H locs 221 3390 Q (F0 m 212 ls []) := by
  obtain ⟨hx, hb, hml, hown, hts, hX, hbl, hK, hcX, hA, hB, hap⟩ := EN
  have hbA : ¬ lA s b := Nat.not_le.mpr hbl
  obtain ⟨d, len, R⟩ := hR
  refine lv_aload_n hx hb dL_law_212 rfl (lv_at hl 2 rfl) ?_
  refine lv_aload_n hx hb dL_law_213 rfl (lv_at hl 3 rfl) ?_
  refine lv_iload_n hx hb dL_law_214 rfl (lv_at hl 0 rfl) ?_
  refine lv_iconst (v := 1) hx hb dL_law_215 (by decide) ?_
  refine lv_iadd hx hb dL_law_216 ?_
  refine lv_re (show nI i + (1 : Int32) = nI (i + 1) from nI_add i 1) ?_
  refine va_sld hx hb hX hbl hbA hI.2.2 (vp_in_nI (show i + 1 < L by omega) (by omega)) dL_law_217 ?_
  refine lv_re (show xs (nI (i + 1)).toNatClampNeg = xs (i + 1) by rw [nI_clamp (by omega)]) ?_
  refine l_c (As := [.int (xs (i + 1))]) (rest := []) hx hb hml hown hts hK hcX hA hB hap hI (k_X5_ladder l dd g ad pi (cF ad) (cF_A hA) C d R.1.2.1 R.1.2.2.1 R.1.1 R.ro.W R.g0 (xs (i + 1))) (cwV 1 hts gL_law_X5_ladder rfl rfl rfl (by decide +kernel) ⟨Nat.le_of_ble_eq_true rfl, Nat.le_of_ble_eq_true rfl⟩) rfl hl (Nat.le_of_ble_eq_true rfl) ⟨Nat.le_of_ble_eq_true rfl, Nat.le_of_ble_eq_true rfl⟩ dL_law_218 rfl (fun r C1 pi1 H locs hpc hI => ?_)
  refine lv_aload_n hx hb dL_law_221 rfl (lv_at hl 1 rfl) ?_
  refine lv_aload_n hx hb dL_law_222 rfl (lv_at hl 3 rfl) ?_
  refine lv_iload_n hx hb dL_law_223 rfl (lv_at hl 0 rfl) ?_
  refine lv_iconst (v := 1) hx hb dL_law_224 (by decide) ?_
  refine lv_iadd hx hb dL_law_225 ?_
  refine lv_re (show nI i + (1 : Int32) = nI (i + 1) from nI_add i 1) ?_
  refine va_sld hx hb hX hbl hbA hI.2.2 (vp_in_nI (show i + 1 < L by omega) (by omega)) dL_law_226 ?_
  refine lv_re (show xs (nI (i + 1)).toNatClampNeg = xs (i + 1) by rw [nI_clamp (by omega)]) ?_
  refine l_m (As := [.int (xs (i + 1))]) (rest := [.int r]) hx hb hml hown hts hK hA hB hap hI (k_X6_ladder l dd g q (mF q) (mF_A hB) M (xs (i + 1)) d R.1.2.1 R.1.2.2.2 R.ro.1.W) (cwV 1 hts gL_law_X6_ladder rfl rfl rfl (by decide +kernel) ⟨Nat.le_of_ble_eq_true rfl, Nat.le_of_ble_eq_true rfl⟩) rfl hl (Nat.le_of_ble_eq_true rfl) ⟨Nat.le_of_ble_eq_true rfl, Nat.le_of_ble_eq_true rfl⟩ dL_law_227 rfl (fun r2 M1 H locs hpm hI => ?_)
  obtain ⟨e1, R1⟩ := rel_ladder R hpc hpm
  exact lv_icmp_eq (tgt := 672) hx hb dL_law_230 (by decide) (fun _ => kk _ _ _ _ _ R1 hI) (fun c9 => absurd e1 c9)
set_option maxHeartbeats 4000000 in
set_option maxRecDepth 100000 in
theorem lw_c3 {p : Program} {l : Launch} {e : Env} {s : State} {m : MethodId} {below : List Frame} {meth : Method} {c : Code} {b L : Nat} {xs : Nat → Int32} {dd : va_G} {g : Nat → ClassId} {ad q : Nat → Nat} (EN : LEnv p s m meth c b L xs dd g ad q) (hL : L ≤ 2048) {i : Nat} (hi : i + 4 ≤ L) {pi : Nat → Nat} {C M : MS} {H : Heap} {locs : List Loc} {ls : Array Slot} (hR : RelE C pi M) (hI : LI dd g ad q (lA s) pi C M s.heap H locs) (hl : lv_has ls 4 [(3, .int (nI i)), (2, .ref (q 0)), (1, .ref (ad 0)), (0, .ref b)]) {Q : State → Prop} (kk : ∀ (C1 : MS) (pi1 : Nat → Nat) (M1 : MS) (H1 : Heap) (locs1 : List Loc), RelE C1 pi1 M1 → LI dd g ad q (lA s) pi1 C1 M1 s.heap H1 locs1 → W p l e room_1 s m #[Value.ref b] below meth c H1 locs1 221 3390 Q (F0 m 672 ls [])) : W p l e room_1 s m #[Value.ref b] below meth c H locs 221 3390 Q (F0 m 235 ls []) := by
  obtain ⟨hx, hb, hml, hown, hts, hX, hbl, hK, hcX, hA, hB, hap⟩ := EN
  have hbA : ¬ lA s b := Nat.not_le.mpr hbl
  obtain ⟨d, len, R⟩ := hR
  refine lv_aload_n hx hb dL_law_235 rfl (lv_at hl 2 rfl) ?_
  refine lv_aload_n hx hb dL_law_236 rfl (lv_at hl 3 rfl) ?_
  refine lv_iload_n hx hb dL_law_237 rfl (lv_at hl 0 rfl) ?_
  refine lv_iconst (v := 1) hx hb dL_law_238 (by decide) ?_
  refine lv_iadd hx hb dL_law_239 ?_
  refine lv_re (show nI i + (1 : Int32) = nI (i + 1) from nI_add i 1) ?_
  refine va_sld hx hb hX hbl hbA hI.2.2 (vp_in_nI (show i + 1 < L by omega) (by omega)) dL_law_240 ?_
  refine lv_re (show xs (nI (i + 1)).toNatClampNeg = xs (i + 1) by rw [nI_clamp (by omega)]) ?_
  refine lv_aload_n hx hb dL_law_241 rfl (lv_at hl 3 rfl) ?_
  refine lv_iload_n hx hb dL_law_242 rfl (lv_at hl 0 rfl) ?_
  refine lv_iconst (v := 2) hx hb dL_law_243 (by decide) ?_
  refine lv_iadd hx hb dL_law_244 ?_
  refine lv_re (show nI i + (2 : Int32) = nI (i + 2) from nI_add i 2) ?_
  refine va_sld hx hb hX hbl hbA hI.2.2 (vp_in_nI (show i + 2 < L by omega) (by omega)) dL_law_245 ?_
  refine lv_re (show xs (nI (i + 2)).toNatClampNeg = xs (i + 2) by rw [nI_clamp (by omega)]) ?_
  refine l_c (As := [.int (xs (i + 1)), .int (xs (i + 2))]) (rest := []) hx hb hml hown hts hK hcX hA hB hap hI (k_X5_screw l dd g ad pi (cF ad) (cF_A hA) C d R.1.2.1 R.1.2.2.1 R.1.1 R.ro.W R.g0 (xs (i + 1)) (xs (i + 2))) (cwV 2 hts gL_law_X5_screw rfl rfl rfl (by decide +kernel) ⟨Nat.le_of_ble_eq_true rfl, Nat.le_of_ble_eq_true rfl⟩) rfl hl (Nat.le_of_ble_eq_true rfl) ⟨Nat.le_of_ble_eq_true rfl, Nat.le_of_ble_eq_true rfl⟩ dL_law_246 rfl (fun r C1 pi1 H locs hpc hI => ?_)
  refine lv_aload_n hx hb dL_law_249 rfl (lv_at hl 1 rfl) ?_
  refine lv_aload_n hx hb dL_law_250 rfl (lv_at hl 3 rfl) ?_
  refine lv_iload_n hx hb dL_law_251 rfl (lv_at hl 0 rfl) ?_
  refine lv_iconst (v := 1) hx hb dL_law_252 (by decide) ?_
  refine lv_iadd hx hb dL_law_253 ?_
  refine lv_re (show nI i + (1 : Int32) = nI (i + 1) from nI_add i 1) ?_
  refine va_sld hx hb hX hbl hbA hI.2.2 (vp_in_nI (show i + 1 < L by omega) (by omega)) dL_law_254 ?_
  refine lv_re (show xs (nI (i + 1)).toNatClampNeg = xs (i + 1) by rw [nI_clamp (by omega)]) ?_
  refine lv_aload_n hx hb dL_law_255 rfl (lv_at hl 3 rfl) ?_
  refine lv_iload_n hx hb dL_law_256 rfl (lv_at hl 0 rfl) ?_
  refine lv_iconst (v := 2) hx hb dL_law_257 (by decide) ?_
  refine lv_iadd hx hb dL_law_258 ?_
  refine lv_re (show nI i + (2 : Int32) = nI (i + 2) from nI_add i 2) ?_
  refine va_sld hx hb hX hbl hbA hI.2.2 (vp_in_nI (show i + 2 < L by omega) (by omega)) dL_law_259 ?_
  refine lv_re (show xs (nI (i + 2)).toNatClampNeg = xs (i + 2) by rw [nI_clamp (by omega)]) ?_
  refine l_m (As := [.int (xs (i + 1)), .int (xs (i + 2))]) (rest := [.int r]) hx hb hml hown hts hK hA hB hap hI (k_X6_screw l dd g q (mF q) (mF_A hB) M (xs (i + 1)) (xs (i + 2)) d R.1.2.1 R.1.2.2.2 R.ro.1.W) (cwV 2 hts gL_law_X6_screw rfl rfl rfl (by decide +kernel) ⟨Nat.le_of_ble_eq_true rfl, Nat.le_of_ble_eq_true rfl⟩) rfl hl (Nat.le_of_ble_eq_true rfl) ⟨Nat.le_of_ble_eq_true rfl, Nat.le_of_ble_eq_true rfl⟩ dL_law_260 rfl (fun r2 M1 H locs hpm hI => ?_)
  obtain ⟨e1, R1⟩ := rel_screw R hpc hpm
  exact lv_icmp_eq (tgt := 672) hx hb dL_law_263 (by decide) (fun _ => kk _ _ _ _ _ R1 hI) (fun c9 => absurd e1 c9)
set_option maxHeartbeats 4000000 in
set_option maxRecDepth 100000 in
theorem lw_c4 {p : Program} {l : Launch} {e : Env} {s : State} {m : MethodId} {below : List Frame} {meth : Method} {c : Code} {b L : Nat} {xs : Nat → Int32} {dd : va_G} {g : Nat → ClassId} {ad q : Nat → Nat} (EN : LEnv p s m meth c b L xs dd g ad q) (hL : L ≤ 2048) {i : Nat} (hi : i + 4 ≤ L) {pi : Nat → Nat} {C M : MS} {H : Heap} {locs : List Loc} {ls : Array Slot} (hR : RelE C pi M) (hI : LI dd g ad q (lA s) pi C M s.heap H locs) (hl : lv_has ls 4 [(3, .int (nI i)), (2, .ref (q 0)), (1, .ref (ad 0)), (0, .ref b)]) {Q : State → Prop} (kk : ∀ (C1 : MS) (pi1 : Nat → Nat) (M1 : MS) (H1 : Heap) (locs1 : List Loc), RelE C1 pi1 M1 → LI dd g ad q (lA s) pi1 C1 M1 s.heap H1 locs1 → W p l e room_1 s m #[Value.ref b] below meth c H1 locs1 221 3390 Q (F0 m 672 ls [])) : W p l e room_1 s m #[Value.ref b] below meth c H locs 221 3390 Q (F0 m 268 ls []) := by
  obtain ⟨hx, hb, hml, hown, hts, hX, hbl, hK, hcX, hA, hB, hap⟩ := EN
  have hbA : ¬ lA s b := Nat.not_le.mpr hbl
  obtain ⟨d, len, R⟩ := hR
  refine lv_aload_n hx hb dL_law_268 rfl (lv_at hl 2 rfl) ?_
  refine lv_aload_n hx hb dL_law_269 rfl (lv_at hl 3 rfl) ?_
  refine lv_iload_n hx hb dL_law_270 rfl (lv_at hl 0 rfl) ?_
  refine lv_iconst (v := 1) hx hb dL_law_271 (by decide) ?_
  refine lv_iadd hx hb dL_law_272 ?_
  refine lv_re (show nI i + (1 : Int32) = nI (i + 1) from nI_add i 1) ?_
  refine va_sld hx hb hX hbl hbA hI.2.2 (vp_in_nI (show i + 1 < L by omega) (by omega)) dL_law_273 ?_
  refine lv_re (show xs (nI (i + 1)).toNatClampNeg = xs (i + 1) by rw [nI_clamp (by omega)]) ?_
  refine l_c (As := [.int (xs (i + 1))]) (rest := []) hx hb hml hown hts hK hcX hA hB hap hI (k_X5_round l dd g ad pi (cF ad) (cF_A hA) C d R.1.2.1 R.1.2.2.1 R.1.1 R.ro.W R.g0 R.ro.L (xs (i + 1))) (cwV 1 hts gL_law_X5_round rfl rfl rfl (by decide +kernel) ⟨Nat.le_of_ble_eq_true rfl, Nat.le_of_ble_eq_true rfl⟩) rfl hl (Nat.le_of_ble_eq_true rfl) ⟨Nat.le_of_ble_eq_true rfl, Nat.le_of_ble_eq_true rfl⟩ dL_law_274 rfl (fun r C1 pi1 H locs hpc hI => ?_)
  refine lv_aload_n hx hb dL_law_277 rfl (lv_at hl 1 rfl) ?_
  refine lv_aload_n hx hb dL_law_278 rfl (lv_at hl 3 rfl) ?_
  refine lv_iload_n hx hb dL_law_279 rfl (lv_at hl 0 rfl) ?_
  refine lv_iconst (v := 1) hx hb dL_law_280 (by decide) ?_
  refine lv_iadd hx hb dL_law_281 ?_
  refine lv_re (show nI i + (1 : Int32) = nI (i + 1) from nI_add i 1) ?_
  refine va_sld hx hb hX hbl hbA hI.2.2 (vp_in_nI (show i + 1 < L by omega) (by omega)) dL_law_282 ?_
  refine lv_re (show xs (nI (i + 1)).toNatClampNeg = xs (i + 1) by rw [nI_clamp (by omega)]) ?_
  refine l_m (As := [.int (xs (i + 1))]) (rest := [.int r]) hx hb hml hown hts hK hA hB hap hI (k_X6_round l dd g q (mF q) (mF_A hB) M (xs (i + 1)) d R.1.2.1 R.1.2.2.2 R.ro.1.W) (cwV 1 hts gL_law_X6_round rfl rfl rfl (by decide +kernel) ⟨Nat.le_of_ble_eq_true rfl, Nat.le_of_ble_eq_true rfl⟩) rfl hl (Nat.le_of_ble_eq_true rfl) ⟨Nat.le_of_ble_eq_true rfl, Nat.le_of_ble_eq_true rfl⟩ dL_law_283 rfl (fun r2 M1 H locs hpm hI => ?_)
  obtain ⟨e1, R1⟩ := rel_round R hpc hpm
  exact lv_icmp_eq (tgt := 672) hx hb dL_law_286 (by decide) (fun _ => kk _ _ _ _ _ R1 hI) (fun c9 => absurd e1 c9)
set_option maxHeartbeats 4000000 in
set_option maxRecDepth 100000 in
theorem lw_c5 {p : Program} {l : Launch} {e : Env} {s : State} {m : MethodId} {below : List Frame} {meth : Method} {c : Code} {b L : Nat} {xs : Nat → Int32} {dd : va_G} {g : Nat → ClassId} {ad q : Nat → Nat} (EN : LEnv p s m meth c b L xs dd g ad q) (hL : L ≤ 2048) {i : Nat} (hi : i + 4 ≤ L) {pi : Nat → Nat} {C M : MS} {H : Heap} {locs : List Loc} {ls : Array Slot} (hR : RelE C pi M) (hI : LI dd g ad q (lA s) pi C M s.heap H locs) (hl : lv_has ls 4 [(3, .int (nI i)), (2, .ref (q 0)), (1, .ref (ad 0)), (0, .ref b)]) {Q : State → Prop} (kk : ∀ (C1 : MS) (pi1 : Nat → Nat) (M1 : MS) (H1 : Heap) (locs1 : List Loc), RelE C1 pi1 M1 → LI dd g ad q (lA s) pi1 C1 M1 s.heap H1 locs1 → W p l e room_1 s m #[Value.ref b] below meth c H1 locs1 221 3390 Q (F0 m 672 ls [])) : W p l e room_1 s m #[Value.ref b] below meth c H locs 221 3390 Q (F0 m 291 ls []) := by
  obtain ⟨hx, hb, hml, hown, hts, hX, hbl, hK, hcX, hA, hB, hap⟩ := EN
  have hbA : ¬ lA s b := Nat.not_le.mpr hbl
  obtain ⟨d, len, R⟩ := hR
  refine lv_aload_n hx hb dL_law_291 rfl (lv_at hl 2 rfl) ?_
  refine lv_aload_n hx hb dL_law_292 rfl (lv_at hl 3 rfl) ?_
  refine lv_iload_n hx hb dL_law_293 rfl (lv_at hl 0 rfl) ?_
  refine lv_iconst (v := 1) hx hb dL_law_294 (by decide) ?_
  refine lv_iadd hx hb dL_law_295 ?_
  refine lv_re (show nI i + (1 : Int32) = nI (i + 1) from nI_add i 1) ?_
  refine va_sld hx hb hX hbl hbA hI.2.2 (vp_in_nI (show i + 1 < L by omega) (by omega)) dL_law_296 ?_
  refine lv_re (show xs (nI (i + 1)).toNatClampNeg = xs (i + 1) by rw [nI_clamp (by omega)]) ?_
  refine l_c (As := [.int (xs (i + 1))]) (rest := []) hx hb hml hown hts hK hcX hA hB hap hI (k_X5_pass l dd g ad pi (cF ad) (cF_A hA) C d R.1.2.1 R.1.2.2.1 R.1.1 R.ro.W R.g0 (xs (i + 1))) (cwV 1 hts gL_law_X5_pass rfl rfl rfl (by decide +kernel) ⟨Nat.le_of_ble_eq_true rfl, Nat.le_of_ble_eq_true rfl⟩) rfl hl (Nat.le_of_ble_eq_true rfl) ⟨Nat.le_of_ble_eq_true rfl, Nat.le_of_ble_eq_true rfl⟩ dL_law_297 rfl (fun r C1 pi1 H locs hpc hI => ?_)
  refine lv_aload_n hx hb dL_law_300 rfl (lv_at hl 1 rfl) ?_
  refine lv_aload_n hx hb dL_law_301 rfl (lv_at hl 3 rfl) ?_
  refine lv_iload_n hx hb dL_law_302 rfl (lv_at hl 0 rfl) ?_
  refine lv_iconst (v := 1) hx hb dL_law_303 (by decide) ?_
  refine lv_iadd hx hb dL_law_304 ?_
  refine lv_re (show nI i + (1 : Int32) = nI (i + 1) from nI_add i 1) ?_
  refine va_sld hx hb hX hbl hbA hI.2.2 (vp_in_nI (show i + 1 < L by omega) (by omega)) dL_law_305 ?_
  refine lv_re (show xs (nI (i + 1)).toNatClampNeg = xs (i + 1) by rw [nI_clamp (by omega)]) ?_
  refine l_m (As := [.int (xs (i + 1))]) (rest := [.int r]) hx hb hml hown hts hK hA hB hap hI (k_X6_pass l dd g q (mF q) (mF_A hB) M (xs (i + 1)) d R.1.2.1 R.1.2.2.2 R.ro.1.W) (cwV 1 hts gL_law_X6_pass rfl rfl rfl (by decide +kernel) ⟨Nat.le_of_ble_eq_true rfl, Nat.le_of_ble_eq_true rfl⟩) rfl hl (Nat.le_of_ble_eq_true rfl) ⟨Nat.le_of_ble_eq_true rfl, Nat.le_of_ble_eq_true rfl⟩ dL_law_306 rfl (fun r2 M1 H locs hpm hI => ?_)
  obtain ⟨e1, R1⟩ := rel_pass R hpc hpm
  exact lv_icmp_eq (tgt := 672) hx hb dL_law_309 (by decide) (fun _ => kk _ _ _ _ _ R1 hI) (fun c9 => absurd e1 c9)
set_option maxHeartbeats 4000000 in
set_option maxRecDepth 100000 in
theorem lw_c6 {p : Program} {l : Launch} {e : Env} {s : State} {m : MethodId} {below : List Frame} {meth : Method} {c : Code} {b L : Nat} {xs : Nat → Int32} {dd : va_G} {g : Nat → ClassId} {ad q : Nat → Nat} (EN : LEnv p s m meth c b L xs dd g ad q) (hL : L ≤ 2048) {i : Nat} (hi : i + 4 ≤ L) {pi : Nat → Nat} {C M : MS} {H : Heap} {locs : List Loc} {ls : Array Slot} (hR : RelE C pi M) (hI : LI dd g ad q (lA s) pi C M s.heap H locs) (hl : lv_has ls 4 [(3, .int (nI i)), (2, .ref (q 0)), (1, .ref (ad 0)), (0, .ref b)]) {Q : State → Prop} (kk : ∀ (C1 : MS) (pi1 : Nat → Nat) (M1 : MS) (H1 : Heap) (locs1 : List Loc), RelE C1 pi1 M1 → LI dd g ad q (lA s) pi1 C1 M1 s.heap H1 locs1 → W p l e room_1 s m #[Value.ref b] below meth c H1 locs1 221 3390 Q (F0 m 672 ls [])) : W p l e room_1 s m #[Value.ref b] below meth c H locs 221 3390 Q (F0 m 314 ls []) := by
  obtain ⟨hx, hb, hml, hown, hts, hX, hbl, hK, hcX, hA, hB, hap⟩ := EN
  have hbA : ¬ lA s b := Nat.not_le.mpr hbl
  obtain ⟨d, len, R⟩ := hR
  refine lv_aload_n hx hb dL_law_314 rfl (lv_at hl 2 rfl) ?_
  refine lv_aload_n hx hb dL_law_315 rfl (lv_at hl 3 rfl) ?_
  refine lv_iload_n hx hb dL_law_316 rfl (lv_at hl 0 rfl) ?_
  refine lv_iconst (v := 1) hx hb dL_law_317 (by decide) ?_
  refine lv_iadd hx hb dL_law_318 ?_
  refine lv_re (show nI i + (1 : Int32) = nI (i + 1) from nI_add i 1) ?_
  refine va_sld hx hb hX hbl hbA hI.2.2 (vp_in_nI (show i + 1 < L by omega) (by omega)) dL_law_319 ?_
  refine lv_re (show xs (nI (i + 1)).toNatClampNeg = xs (i + 1) by rw [nI_clamp (by omega)]) ?_
  refine l_c (As := [.int (xs (i + 1))]) (rest := []) hx hb hml hown hts hK hcX hA hB hap hI (k_X5_change l dd g ad pi (cF ad) (cF_A hA) C d R.1.2.1 R.1.2.2.1 R.1.1 R.ro.W R.g0 (xs (i + 1))) (cwV 1 hts gL_law_X5_change rfl rfl rfl (by decide +kernel) ⟨Nat.le_of_ble_eq_true rfl, Nat.le_of_ble_eq_true rfl⟩) rfl hl (Nat.le_of_ble_eq_true rfl) ⟨Nat.le_of_ble_eq_true rfl, Nat.le_of_ble_eq_true rfl⟩ dL_law_320 rfl (fun r C1 pi1 H locs hpc hI => ?_)
  refine lv_aload_n hx hb dL_law_323 rfl (lv_at hl 1 rfl) ?_
  refine lv_aload_n hx hb dL_law_324 rfl (lv_at hl 3 rfl) ?_
  refine lv_iload_n hx hb dL_law_325 rfl (lv_at hl 0 rfl) ?_
  refine lv_iconst (v := 1) hx hb dL_law_326 (by decide) ?_
  refine lv_iadd hx hb dL_law_327 ?_
  refine lv_re (show nI i + (1 : Int32) = nI (i + 1) from nI_add i 1) ?_
  refine va_sld hx hb hX hbl hbA hI.2.2 (vp_in_nI (show i + 1 < L by omega) (by omega)) dL_law_328 ?_
  refine lv_re (show xs (nI (i + 1)).toNatClampNeg = xs (i + 1) by rw [nI_clamp (by omega)]) ?_
  refine l_m (As := [.int (xs (i + 1))]) (rest := [.int r]) hx hb hml hown hts hK hA hB hap hI (k_X6_change l dd g q (mF q) (mF_A hB) M (xs (i + 1)) d R.1.2.1 R.1.2.2.2 R.ro.1.W) (cwV 1 hts gL_law_X6_change rfl rfl rfl (by decide +kernel) ⟨Nat.le_of_ble_eq_true rfl, Nat.le_of_ble_eq_true rfl⟩) rfl hl (Nat.le_of_ble_eq_true rfl) ⟨Nat.le_of_ble_eq_true rfl, Nat.le_of_ble_eq_true rfl⟩ dL_law_329 rfl (fun r2 M1 H locs hpm hI => ?_)
  obtain ⟨e1, R1⟩ := rel_change R hpc hpm
  exact lv_icmp_eq (tgt := 672) hx hb dL_law_332 (by decide) (fun _ => kk _ _ _ _ _ R1 hI) (fun c9 => absurd e1 c9)
set_option maxHeartbeats 4000000 in
set_option maxRecDepth 100000 in
theorem lw_c7 {p : Program} {l : Launch} {e : Env} {s : State} {m : MethodId} {below : List Frame} {meth : Method} {c : Code} {b L : Nat} {xs : Nat → Int32} {dd : va_G} {g : Nat → ClassId} {ad q : Nat → Nat} (EN : LEnv p s m meth c b L xs dd g ad q) (hL : L ≤ 2048) {i : Nat} (hi : i + 4 ≤ L) {pi : Nat → Nat} {C M : MS} {H : Heap} {locs : List Loc} {ls : Array Slot} (hR : RelE C pi M) (hI : LI dd g ad q (lA s) pi C M s.heap H locs) (hl : lv_has ls 4 [(3, .int (nI i)), (2, .ref (q 0)), (1, .ref (ad 0)), (0, .ref b)]) {Q : State → Prop} (kk : ∀ (C1 : MS) (pi1 : Nat → Nat) (M1 : MS) (H1 : Heap) (locs1 : List Loc), RelE C1 pi1 M1 → LI dd g ad q (lA s) pi1 C1 M1 s.heap H1 locs1 → W p l e room_1 s m #[Value.ref b] below meth c H1 locs1 221 3390 Q (F0 m 672 ls [])) : W p l e room_1 s m #[Value.ref b] below meth c H locs 221 3390 Q (F0 m 337 ls []) := by
  obtain ⟨hx, hb, hml, hown, hts, hX, hbl, hK, hcX, hA, hB, hap⟩ := EN
  have hbA : ¬ lA s b := Nat.not_le.mpr hbl
  obtain ⟨d, len, R⟩ := hR
  refine lv_aload_n hx hb dL_law_337 rfl (lv_at hl 2 rfl) ?_
  refine lv_aload_n hx hb dL_law_338 rfl (lv_at hl 3 rfl) ?_
  refine lv_iload_n hx hb dL_law_339 rfl (lv_at hl 0 rfl) ?_
  refine lv_iconst (v := 1) hx hb dL_law_340 (by decide) ?_
  refine lv_iadd hx hb dL_law_341 ?_
  refine lv_re (show nI i + (1 : Int32) = nI (i + 1) from nI_add i 1) ?_
  refine va_sld hx hb hX hbl hbA hI.2.2 (vp_in_nI (show i + 1 < L by omega) (by omega)) dL_law_342 ?_
  refine lv_re (show xs (nI (i + 1)).toNatClampNeg = xs (i + 1) by rw [nI_clamp (by omega)]) ?_
  refine lv_aload_n hx hb dL_law_343 rfl (lv_at hl 3 rfl) ?_
  refine lv_iload_n hx hb dL_law_344 rfl (lv_at hl 0 rfl) ?_
  refine lv_iconst (v := 2) hx hb dL_law_345 (by decide) ?_
  refine lv_iadd hx hb dL_law_346 ?_
  refine lv_re (show nI i + (2 : Int32) = nI (i + 2) from nI_add i 2) ?_
  refine va_sld hx hb hX hbl hbA hI.2.2 (vp_in_nI (show i + 2 < L by omega) (by omega)) dL_law_347 ?_
  refine lv_re (show xs (nI (i + 2)).toNatClampNeg = xs (i + 2) by rw [nI_clamp (by omega)]) ?_
  refine l_c (As := [.int (xs (i + 1)), .int (xs (i + 2))]) (rest := []) hx hb hml hown hts hK hcX hA hB hap hI (k_X5_of l dd g ad pi (cF ad) (cF_A hA) C R.ro.W R.g0 R.ro.L (xs (i + 1)) (xs (i + 2))) (cwV 2 hts gL_law_X5_of rfl rfl rfl (by decide +kernel) ⟨Nat.le_of_ble_eq_true rfl, Nat.le_of_ble_eq_true rfl⟩) rfl hl (Nat.le_of_ble_eq_true rfl) ⟨Nat.le_of_ble_eq_true rfl, Nat.le_of_ble_eq_true rfl⟩ dL_law_348 rfl (fun r C1 pi1 H locs hpc hI => ?_)
  refine lv_aload_n hx hb dL_law_351 rfl (lv_at hl 1 rfl) ?_
  refine lv_aload_n hx hb dL_law_352 rfl (lv_at hl 3 rfl) ?_
  refine lv_iload_n hx hb dL_law_353 rfl (lv_at hl 0 rfl) ?_
  refine lv_iconst (v := 1) hx hb dL_law_354 (by decide) ?_
  refine lv_iadd hx hb dL_law_355 ?_
  refine lv_re (show nI i + (1 : Int32) = nI (i + 1) from nI_add i 1) ?_
  refine va_sld hx hb hX hbl hbA hI.2.2 (vp_in_nI (show i + 1 < L by omega) (by omega)) dL_law_356 ?_
  refine lv_re (show xs (nI (i + 1)).toNatClampNeg = xs (i + 1) by rw [nI_clamp (by omega)]) ?_
  refine lv_aload_n hx hb dL_law_357 rfl (lv_at hl 3 rfl) ?_
  refine lv_iload_n hx hb dL_law_358 rfl (lv_at hl 0 rfl) ?_
  refine lv_iconst (v := 2) hx hb dL_law_359 (by decide) ?_
  refine lv_iadd hx hb dL_law_360 ?_
  refine lv_re (show nI i + (2 : Int32) = nI (i + 2) from nI_add i 2) ?_
  refine va_sld hx hb hX hbl hbA hI.2.2 (vp_in_nI (show i + 2 < L by omega) (by omega)) dL_law_361 ?_
  refine lv_re (show xs (nI (i + 2)).toNatClampNeg = xs (i + 2) by rw [nI_clamp (by omega)]) ?_
  refine l_m (As := [.int (xs (i + 1)), .int (xs (i + 2))]) (rest := [.int r]) hx hb hml hown hts hK hA hB hap hI (k_X6_of l dd g q (mF q) (mF_A hB) M (xs (i + 1)) (xs (i + 2)) R.ro.1.W) (cwV 2 hts gL_law_X6_of rfl rfl rfl (by decide +kernel) ⟨Nat.le_of_ble_eq_true rfl, Nat.le_of_ble_eq_true rfl⟩) rfl hl (Nat.le_of_ble_eq_true rfl) ⟨Nat.le_of_ble_eq_true rfl, Nat.le_of_ble_eq_true rfl⟩ dL_law_362 rfl (fun r2 M1 H locs hpm hI => ?_)
  obtain ⟨e1, R1⟩ := rel_of R hpc hpm
  exact lv_icmp_eq (tgt := 672) hx hb dL_law_365 (by decide) (fun _ => kk _ _ _ _ _ R1 hI) (fun c9 => absurd e1 c9)
set_option maxHeartbeats 4000000 in
set_option maxRecDepth 100000 in
theorem lw_c8 {p : Program} {l : Launch} {e : Env} {s : State} {m : MethodId} {below : List Frame} {meth : Method} {c : Code} {b L : Nat} {xs : Nat → Int32} {dd : va_G} {g : Nat → ClassId} {ad q : Nat → Nat} (EN : LEnv p s m meth c b L xs dd g ad q) (hL : L ≤ 2048) {i : Nat} (hi : i + 4 ≤ L) {pi : Nat → Nat} {C M : MS} {H : Heap} {locs : List Loc} {ls : Array Slot} (hR : RelE C pi M) (hI : LI dd g ad q (lA s) pi C M s.heap H locs) (hl : lv_has ls 4 [(3, .int (nI i)), (2, .ref (q 0)), (1, .ref (ad 0)), (0, .ref b)]) {Q : State → Prop} (kk : ∀ (C1 : MS) (pi1 : Nat → Nat) (M1 : MS) (H1 : Heap) (locs1 : List Loc), RelE C1 pi1 M1 → LI dd g ad q (lA s) pi1 C1 M1 s.heap H1 locs1 → W p l e room_1 s m #[Value.ref b] below meth c H1 locs1 221 3390 Q (F0 m 672 ls [])) : W p l e room_1 s m #[Value.ref b] below meth c H locs 221 3390 Q (F0 m 370 ls []) := by
  obtain ⟨hx, hb, hml, hown, hts, hX, hbl, hK, hcX, hA, hB, hap⟩ := EN
  have hbA : ¬ lA s b := Nat.not_le.mpr hbl
  obtain ⟨d, len, R⟩ := hR
  refine lv_aload_n hx hb dL_law_370 rfl (lv_at hl 2 rfl) ?_
  refine lv_aload_n hx hb dL_law_371 rfl (lv_at hl 3 rfl) ?_
  refine lv_iload_n hx hb dL_law_372 rfl (lv_at hl 0 rfl) ?_
  refine lv_iconst (v := 1) hx hb dL_law_373 (by decide) ?_
  refine lv_iadd hx hb dL_law_374 ?_
  refine lv_re (show nI i + (1 : Int32) = nI (i + 1) from nI_add i 1) ?_
  refine va_sld hx hb hX hbl hbA hI.2.2 (vp_in_nI (show i + 1 < L by omega) (by omega)) dL_law_375 ?_
  refine lv_re (show xs (nI (i + 1)).toNatClampNeg = xs (i + 1) by rw [nI_clamp (by omega)]) ?_
  refine l_c (As := [.int (xs (i + 1))]) (rest := []) hx hb hml hown hts hK hcX hA hB hap hI (k_X5_ofLadder l dd g ad pi (cF ad) (cF_A hA) C R.ro.W R.g0 (xs (i + 1))) (cwV 1 hts gL_law_X5_ofLadder rfl rfl rfl (by decide +kernel) ⟨Nat.le_of_ble_eq_true rfl, Nat.le_of_ble_eq_true rfl⟩) rfl hl (Nat.le_of_ble_eq_true rfl) ⟨Nat.le_of_ble_eq_true rfl, Nat.le_of_ble_eq_true rfl⟩ dL_law_376 rfl (fun r C1 pi1 H locs hpc hI => ?_)
  refine lv_aload_n hx hb dL_law_379 rfl (lv_at hl 1 rfl) ?_
  refine lv_aload_n hx hb dL_law_380 rfl (lv_at hl 3 rfl) ?_
  refine lv_iload_n hx hb dL_law_381 rfl (lv_at hl 0 rfl) ?_
  refine lv_iconst (v := 1) hx hb dL_law_382 (by decide) ?_
  refine lv_iadd hx hb dL_law_383 ?_
  refine lv_re (show nI i + (1 : Int32) = nI (i + 1) from nI_add i 1) ?_
  refine va_sld hx hb hX hbl hbA hI.2.2 (vp_in_nI (show i + 1 < L by omega) (by omega)) dL_law_384 ?_
  refine lv_re (show xs (nI (i + 1)).toNatClampNeg = xs (i + 1) by rw [nI_clamp (by omega)]) ?_
  refine l_m (As := [.int (xs (i + 1))]) (rest := [.int r]) hx hb hml hown hts hK hA hB hap hI (k_X6_ofLadder l dd g q (mF q) (mF_A hB) M (xs (i + 1)) R.ro.1.W) (cwV 1 hts gL_law_X6_ofLadder rfl rfl rfl (by decide +kernel) ⟨Nat.le_of_ble_eq_true rfl, Nat.le_of_ble_eq_true rfl⟩) rfl hl (Nat.le_of_ble_eq_true rfl) ⟨Nat.le_of_ble_eq_true rfl, Nat.le_of_ble_eq_true rfl⟩ dL_law_385 rfl (fun r2 M1 H locs hpm hI => ?_)
  obtain ⟨e1, R1⟩ := rel_ofLadder R hpc hpm
  exact lv_icmp_eq (tgt := 672) hx hb dL_law_388 (by decide) (fun _ => kk _ _ _ _ _ R1 hI) (fun c9 => absurd e1 c9)
set_option maxHeartbeats 4000000 in
set_option maxRecDepth 100000 in
theorem lw_c9 {p : Program} {l : Launch} {e : Env} {s : State} {m : MethodId} {below : List Frame} {meth : Method} {c : Code} {b L : Nat} {xs : Nat → Int32} {dd : va_G} {g : Nat → ClassId} {ad q : Nat → Nat} (EN : LEnv p s m meth c b L xs dd g ad q) (hL : L ≤ 2048) {i : Nat} (hi : i + 4 ≤ L) {pi : Nat → Nat} {C M : MS} {H : Heap} {locs : List Loc} {ls : Array Slot} (hR : RelE C pi M) (hI : LI dd g ad q (lA s) pi C M s.heap H locs) (hl : lv_has ls 4 [(3, .int (nI i)), (2, .ref (q 0)), (1, .ref (ad 0)), (0, .ref b)]) {Q : State → Prop} (kk : ∀ (C1 : MS) (pi1 : Nat → Nat) (M1 : MS) (H1 : Heap) (locs1 : List Loc), RelE C1 pi1 M1 → LI dd g ad q (lA s) pi1 C1 M1 s.heap H1 locs1 → W p l e room_1 s m #[Value.ref b] below meth c H1 locs1 221 3390 Q (F0 m 672 ls [])) : W p l e room_1 s m #[Value.ref b] below meth c H locs 221 3390 Q (F0 m 393 ls []) := by
  obtain ⟨hx, hb, hml, hown, hts, hX, hbl, hK, hcX, hA, hB, hap⟩ := EN
  have hbA : ¬ lA s b := Nat.not_le.mpr hbl
  obtain ⟨d, len, R⟩ := hR
  refine lv_aload_n hx hb dL_law_393 rfl (lv_at hl 2 rfl) ?_
  refine lv_aload_n hx hb dL_law_394 rfl (lv_at hl 3 rfl) ?_
  refine lv_iload_n hx hb dL_law_395 rfl (lv_at hl 0 rfl) ?_
  refine lv_iconst (v := 1) hx hb dL_law_396 (by decide) ?_
  refine lv_iadd hx hb dL_law_397 ?_
  refine lv_re (show nI i + (1 : Int32) = nI (i + 1) from nI_add i 1) ?_
  refine va_sld hx hb hX hbl hbA hI.2.2 (vp_in_nI (show i + 1 < L by omega) (by omega)) dL_law_398 ?_
  refine lv_re (show xs (nI (i + 1)).toNatClampNeg = xs (i + 1) by rw [nI_clamp (by omega)]) ?_
  refine l_c (As := [.int (xs (i + 1))]) (rest := []) hx hb hml hown hts hK hcX hA hB hap hI (k_X5_count l dd g ad pi (cF ad) (cF_A hA) C R.ro.W R.g0 R.ro.L (xs (i + 1))) (cwV 1 hts gL_law_X5_count rfl rfl rfl (by decide +kernel) ⟨Nat.le_of_ble_eq_true rfl, Nat.le_of_ble_eq_true rfl⟩) rfl hl (Nat.le_of_ble_eq_true rfl) ⟨Nat.le_of_ble_eq_true rfl, Nat.le_of_ble_eq_true rfl⟩ dL_law_399 rfl (fun r C1 pi1 H locs hpc hI => ?_)
  refine lv_aload_n hx hb dL_law_402 rfl (lv_at hl 1 rfl) ?_
  refine lv_aload_n hx hb dL_law_403 rfl (lv_at hl 3 rfl) ?_
  refine lv_iload_n hx hb dL_law_404 rfl (lv_at hl 0 rfl) ?_
  refine lv_iconst (v := 1) hx hb dL_law_405 (by decide) ?_
  refine lv_iadd hx hb dL_law_406 ?_
  refine lv_re (show nI i + (1 : Int32) = nI (i + 1) from nI_add i 1) ?_
  refine va_sld hx hb hX hbl hbA hI.2.2 (vp_in_nI (show i + 1 < L by omega) (by omega)) dL_law_407 ?_
  refine lv_re (show xs (nI (i + 1)).toNatClampNeg = xs (i + 1) by rw [nI_clamp (by omega)]) ?_
  refine l_m (As := [.int (xs (i + 1))]) (rest := [.int r]) hx hb hml hown hts hK hA hB hap hI (k_X6_count l dd g q (mF q) (mF_A hB) M (xs (i + 1)) R.ro.1.W) (cwV 1 hts gL_law_X6_count rfl rfl rfl (by decide +kernel) ⟨Nat.le_of_ble_eq_true rfl, Nat.le_of_ble_eq_true rfl⟩) rfl hl (Nat.le_of_ble_eq_true rfl) ⟨Nat.le_of_ble_eq_true rfl, Nat.le_of_ble_eq_true rfl⟩ dL_law_408 rfl (fun r2 M1 H locs hpm hI => ?_)
  obtain ⟨e1, R1⟩ := rel_count R hpc hpm
  exact lv_icmp_eq (tgt := 672) hx hb dL_law_411 (by decide) (fun _ => kk _ _ _ _ _ R1 hI) (fun c9 => absurd e1 c9)
set_option maxHeartbeats 4000000 in
set_option maxRecDepth 100000 in
theorem lw_c10 {p : Program} {l : Launch} {e : Env} {s : State} {m : MethodId} {below : List Frame} {meth : Method} {c : Code} {b L : Nat} {xs : Nat → Int32} {dd : va_G} {g : Nat → ClassId} {ad q : Nat → Nat} (EN : LEnv p s m meth c b L xs dd g ad q) (hL : L ≤ 2048) {i : Nat} (hi : i + 4 ≤ L) {pi : Nat → Nat} {C M : MS} {H : Heap} {locs : List Loc} {ls : Array Slot} (hR : RelE C pi M) (hI : LI dd g ad q (lA s) pi C M s.heap H locs) (hl : lv_has ls 4 [(3, .int (nI i)), (2, .ref (q 0)), (1, .ref (ad 0)), (0, .ref b)]) {Q : State → Prop} (kk : ∀ (C1 : MS) (pi1 : Nat → Nat) (M1 : MS) (H1 : Heap) (locs1 : List Loc), RelE C1 pi1 M1 → LI dd g ad q (lA s) pi1 C1 M1 s.heap H1 locs1 → W p l e room_1 s m #[Value.ref b] below meth c H1 locs1 221 3390 Q (F0 m 672 ls [])) : W p l e room_1 s m #[Value.ref b] below meth c H locs 221 3390 Q (F0 m 416 ls []) := by
  obtain ⟨hx, hb, hml, hown, hts, hX, hbl, hK, hcX, hA, hB, hap⟩ := EN
  have hbA : ¬ lA s b := Nat.not_le.mpr hbl
  obtain ⟨d, len, R⟩ := hR
  refine lv_aload_n hx hb dL_law_416 rfl (lv_at hl 2 rfl) ?_
  refine lv_aload_n hx hb dL_law_417 rfl (lv_at hl 3 rfl) ?_
  refine lv_iload_n hx hb dL_law_418 rfl (lv_at hl 0 rfl) ?_
  refine lv_iconst (v := 1) hx hb dL_law_419 (by decide) ?_
  refine lv_iadd hx hb dL_law_420 ?_
  refine lv_re (show nI i + (1 : Int32) = nI (i + 1) from nI_add i 1) ?_
  refine va_sld hx hb hX hbl hbA hI.2.2 (vp_in_nI (show i + 1 < L by omega) (by omega)) dL_law_421 ?_
  refine lv_re (show xs (nI (i + 1)).toNatClampNeg = xs (i + 1) by rw [nI_clamp (by omega)]) ?_
  refine l_c (As := [.int (xs (i + 1))]) (rest := []) hx hb hml hown hts hK hcX hA hB hap hI (k_X5_takes l dd g ad pi (cF ad) (cF_A hA) C R.ro.W R.ro.L (xs (i + 1))) (cwV 1 hts gL_law_X5_takes rfl rfl rfl (by decide +kernel) ⟨Nat.le_of_ble_eq_true rfl, Nat.le_of_ble_eq_true rfl⟩) rfl hl (Nat.le_of_ble_eq_true rfl) ⟨Nat.le_of_ble_eq_true rfl, Nat.le_of_ble_eq_true rfl⟩ dL_law_422 rfl (fun r C1 pi1 H locs hpc hI => ?_)
  refine lv_aload_n hx hb dL_law_425 rfl (lv_at hl 1 rfl) ?_
  refine lv_aload_n hx hb dL_law_426 rfl (lv_at hl 3 rfl) ?_
  refine lv_iload_n hx hb dL_law_427 rfl (lv_at hl 0 rfl) ?_
  refine lv_iconst (v := 1) hx hb dL_law_428 (by decide) ?_
  refine lv_iadd hx hb dL_law_429 ?_
  refine lv_re (show nI i + (1 : Int32) = nI (i + 1) from nI_add i 1) ?_
  refine va_sld hx hb hX hbl hbA hI.2.2 (vp_in_nI (show i + 1 < L by omega) (by omega)) dL_law_430 ?_
  refine lv_re (show xs (nI (i + 1)).toNatClampNeg = xs (i + 1) by rw [nI_clamp (by omega)]) ?_
  refine l_m (As := [.int (xs (i + 1))]) (rest := [.int r]) hx hb hml hown hts hK hA hB hap hI (k_X6_takes l dd g q (mF q) (mF_A hB) M (xs (i + 1)) R.ro.1.W) (cwV 1 hts gL_law_X6_takes rfl rfl rfl (by decide +kernel) ⟨Nat.le_of_ble_eq_true rfl, Nat.le_of_ble_eq_true rfl⟩) rfl hl (Nat.le_of_ble_eq_true rfl) ⟨Nat.le_of_ble_eq_true rfl, Nat.le_of_ble_eq_true rfl⟩ dL_law_431 rfl (fun r2 M1 H locs hpm hI => ?_)
  obtain ⟨e1, R1⟩ := rel_takes R hpc hpm
  exact lv_icmp_eq (tgt := 672) hx hb dL_law_434 (by decide) (fun _ => kk _ _ _ _ _ R1 hI) (fun c9 => absurd e1 c9)
set_option maxHeartbeats 4000000 in
set_option maxRecDepth 100000 in
theorem lw_c11 {p : Program} {l : Launch} {e : Env} {s : State} {m : MethodId} {below : List Frame} {meth : Method} {c : Code} {b L : Nat} {xs : Nat → Int32} {dd : va_G} {g : Nat → ClassId} {ad q : Nat → Nat} (EN : LEnv p s m meth c b L xs dd g ad q) (hL : L ≤ 2048) {i : Nat} (hi : i + 4 ≤ L) {pi : Nat → Nat} {C M : MS} {H : Heap} {locs : List Loc} {ls : Array Slot} (hR : RelE C pi M) (hI : LI dd g ad q (lA s) pi C M s.heap H locs) (hl : lv_has ls 4 [(3, .int (nI i)), (2, .ref (q 0)), (1, .ref (ad 0)), (0, .ref b)]) {Q : State → Prop} (kk : ∀ (C1 : MS) (pi1 : Nat → Nat) (M1 : MS) (H1 : Heap) (locs1 : List Loc), RelE C1 pi1 M1 → LI dd g ad q (lA s) pi1 C1 M1 s.heap H1 locs1 → W p l e room_1 s m #[Value.ref b] below meth c H1 locs1 221 3390 Q (F0 m 672 ls [])) : W p l e room_1 s m #[Value.ref b] below meth c H locs 221 3390 Q (F0 m 439 ls []) := by
  obtain ⟨hx, hb, hml, hown, hts, hX, hbl, hK, hcX, hA, hB, hap⟩ := EN
  have hbA : ¬ lA s b := Nat.not_le.mpr hbl
  obtain ⟨d, len, R⟩ := hR
  refine lv_aload_n hx hb dL_law_439 rfl (lv_at hl 2 rfl) ?_
  refine lv_aload_n hx hb dL_law_440 rfl (lv_at hl 3 rfl) ?_
  refine lv_iload_n hx hb dL_law_441 rfl (lv_at hl 0 rfl) ?_
  refine lv_iconst (v := 1) hx hb dL_law_442 (by decide) ?_
  refine lv_iadd hx hb dL_law_443 ?_
  refine lv_re (show nI i + (1 : Int32) = nI (i + 1) from nI_add i 1) ?_
  refine va_sld hx hb hX hbl hbA hI.2.2 (vp_in_nI (show i + 1 < L by omega) (by omega)) dL_law_444 ?_
  refine lv_re (show xs (nI (i + 1)).toNatClampNeg = xs (i + 1) by rw [nI_clamp (by omega)]) ?_
  refine l_c (As := [.int (xs (i + 1))]) (rest := []) hx hb hml hown hts hK hcX hA hB hap hI (k_X5_lasts l dd g ad pi (cF ad) (cF_A hA) C R.ro.W R.g0 R.ro.T (xs (i + 1))) (cwV 1 hts gL_law_X5_lasts rfl rfl rfl (by decide +kernel) ⟨Nat.le_of_ble_eq_true rfl, Nat.le_of_ble_eq_true rfl⟩) rfl hl (Nat.le_of_ble_eq_true rfl) ⟨Nat.le_of_ble_eq_true rfl, Nat.le_of_ble_eq_true rfl⟩ dL_law_445 rfl (fun r C1 pi1 H locs hpc hI => ?_)
  refine lv_aload_n hx hb dL_law_448 rfl (lv_at hl 1 rfl) ?_
  refine lv_aload_n hx hb dL_law_449 rfl (lv_at hl 3 rfl) ?_
  refine lv_iload_n hx hb dL_law_450 rfl (lv_at hl 0 rfl) ?_
  refine lv_iconst (v := 1) hx hb dL_law_451 (by decide) ?_
  refine lv_iadd hx hb dL_law_452 ?_
  refine lv_re (show nI i + (1 : Int32) = nI (i + 1) from nI_add i 1) ?_
  refine va_sld hx hb hX hbl hbA hI.2.2 (vp_in_nI (show i + 1 < L by omega) (by omega)) dL_law_453 ?_
  refine lv_re (show xs (nI (i + 1)).toNatClampNeg = xs (i + 1) by rw [nI_clamp (by omega)]) ?_
  refine l_m (As := [.int (xs (i + 1))]) (rest := [.int r]) hx hb hml hown hts hK hA hB hap hI (k_X6_lasts l dd g q (mF q) (mF_A hB) M (xs (i + 1)) (duS (M 0) (ix (xs (i + 1)))) (duS_lt R.T0 _) (fun hb9 => R.last hb9) R.ro.1.W) (cwV 1 hts gL_law_X6_lasts rfl rfl rfl (by decide +kernel) ⟨Nat.le_of_ble_eq_true rfl, Nat.le_of_ble_eq_true rfl⟩) rfl hl (Nat.le_of_ble_eq_true rfl) ⟨Nat.le_of_ble_eq_true rfl, Nat.le_of_ble_eq_true rfl⟩ dL_law_454 rfl (fun r2 M1 H locs hpm hI => ?_)
  obtain ⟨e1, R1⟩ := rel_lasts R hpc hpm
  exact lv_icmp_eq (tgt := 672) hx hb dL_law_457 (by decide) (fun _ => kk _ _ _ _ _ R1 hI) (fun c9 => absurd e1 c9)
set_option maxHeartbeats 4000000 in
set_option maxRecDepth 100000 in
theorem lw_c12 {p : Program} {l : Launch} {e : Env} {s : State} {m : MethodId} {below : List Frame} {meth : Method} {c : Code} {b L : Nat} {xs : Nat → Int32} {dd : va_G} {g : Nat → ClassId} {ad q : Nat → Nat} (EN : LEnv p s m meth c b L xs dd g ad q) (hL : L ≤ 2048) {i : Nat} (hi : i + 4 ≤ L) {pi : Nat → Nat} {C M : MS} {H : Heap} {locs : List Loc} {ls : Array Slot} (hR : RelE C pi M) (hI : LI dd g ad q (lA s) pi C M s.heap H locs) (hl : lv_has ls 4 [(3, .int (nI i)), (2, .ref (q 0)), (1, .ref (ad 0)), (0, .ref b)]) {Q : State → Prop} (kk : ∀ (C1 : MS) (pi1 : Nat → Nat) (M1 : MS) (H1 : Heap) (locs1 : List Loc), RelE C1 pi1 M1 → LI dd g ad q (lA s) pi1 C1 M1 s.heap H1 locs1 → W p l e room_1 s m #[Value.ref b] below meth c H1 locs1 221 3390 Q (F0 m 672 ls [])) : W p l e room_1 s m #[Value.ref b] below meth c H locs 221 3390 Q (F0 m 462 ls []) := by
  obtain ⟨hx, hb, hml, hown, hts, hX, hbl, hK, hcX, hA, hB, hap⟩ := EN
  have hbA : ¬ lA s b := Nat.not_le.mpr hbl
  obtain ⟨d, len, R⟩ := hR
  refine lv_aload_n hx hb dL_law_462 rfl (lv_at hl 2 rfl) ?_
  refine lv_aload_n hx hb dL_law_463 rfl (lv_at hl 3 rfl) ?_
  refine lv_iload_n hx hb dL_law_464 rfl (lv_at hl 0 rfl) ?_
  refine lv_iconst (v := 1) hx hb dL_law_465 (by decide) ?_
  refine lv_iadd hx hb dL_law_466 ?_
  refine lv_re (show nI i + (1 : Int32) = nI (i + 1) from nI_add i 1) ?_
  refine va_sld hx hb hX hbl hbA hI.2.2 (vp_in_nI (show i + 1 < L by omega) (by omega)) dL_law_467 ?_
  refine lv_re (show xs (nI (i + 1)).toNatClampNeg = xs (i + 1) by rw [nI_clamp (by omega)]) ?_
  refine l_c (As := [.int (xs (i + 1))]) (rest := []) hx hb hml hown hts hK hcX hA hB hap hI (k_X5_needs l dd g ad pi (cF ad) (cF_A hA) C R.ro.W R.g0 R.ro.T (xs (i + 1))) (cwV 1 hts gL_law_X5_needs rfl rfl rfl (by decide +kernel) ⟨Nat.le_of_ble_eq_true rfl, Nat.le_of_ble_eq_true rfl⟩) rfl hl (Nat.le_of_ble_eq_true rfl) ⟨Nat.le_of_ble_eq_true rfl, Nat.le_of_ble_eq_true rfl⟩ dL_law_468 rfl (fun r C1 pi1 H locs hpc hI => ?_)
  refine lv_aload_n hx hb dL_law_471 rfl (lv_at hl 1 rfl) ?_
  refine lv_aload_n hx hb dL_law_472 rfl (lv_at hl 3 rfl) ?_
  refine lv_iload_n hx hb dL_law_473 rfl (lv_at hl 0 rfl) ?_
  refine lv_iconst (v := 1) hx hb dL_law_474 (by decide) ?_
  refine lv_iadd hx hb dL_law_475 ?_
  refine lv_re (show nI i + (1 : Int32) = nI (i + 1) from nI_add i 1) ?_
  refine va_sld hx hb hX hbl hbA hI.2.2 (vp_in_nI (show i + 1 < L by omega) (by omega)) dL_law_476 ?_
  refine lv_re (show xs (nI (i + 1)).toNatClampNeg = xs (i + 1) by rw [nI_clamp (by omega)]) ?_
  refine l_m (As := [.int (xs (i + 1))]) (rest := [.int r]) hx hb hml hown hts hK hA hB hap hI (k_X6_needs l dd g q (mF q) (mF_A hB) M (xs (i + 1)) (duS (M 0)) (fun _ => duS_lt R.T0 _) (fun i9 hi9 _ => R.last2 hi9) R.ro.1.W) (cwV 1 hts gL_law_X6_needs rfl rfl rfl (by decide +kernel) ⟨Nat.le_of_ble_eq_true rfl, Nat.le_of_ble_eq_true rfl⟩) rfl hl (Nat.le_of_ble_eq_true rfl) ⟨Nat.le_of_ble_eq_true rfl, Nat.le_of_ble_eq_true rfl⟩ dL_law_477 rfl (fun r2 M1 H locs hpm hI => ?_)
  obtain ⟨e1, R1⟩ := rel_needs R hpc hpm
  exact lv_icmp_eq (tgt := 672) hx hb dL_law_480 (by decide) (fun _ => kk _ _ _ _ _ R1 hI) (fun c9 => absurd e1 c9)
set_option maxHeartbeats 4000000 in
set_option maxRecDepth 100000 in
theorem lw_c13 {p : Program} {l : Launch} {e : Env} {s : State} {m : MethodId} {below : List Frame} {meth : Method} {c : Code} {b L : Nat} {xs : Nat → Int32} {dd : va_G} {g : Nat → ClassId} {ad q : Nat → Nat} (EN : LEnv p s m meth c b L xs dd g ad q) (hL : L ≤ 2048) {i : Nat} (hi : i + 4 ≤ L) {pi : Nat → Nat} {C M : MS} {H : Heap} {locs : List Loc} {ls : Array Slot} (hR : RelE C pi M) (hI : LI dd g ad q (lA s) pi C M s.heap H locs) (hl : lv_has ls 4 [(3, .int (nI i)), (2, .ref (q 0)), (1, .ref (ad 0)), (0, .ref b)]) {Q : State → Prop} (kk : ∀ (C1 : MS) (pi1 : Nat → Nat) (M1 : MS) (H1 : Heap) (locs1 : List Loc), RelE C1 pi1 M1 → LI dd g ad q (lA s) pi1 C1 M1 s.heap H1 locs1 → W p l e room_1 s m #[Value.ref b] below meth c H1 locs1 221 3390 Q (F0 m 672 ls [])) : W p l e room_1 s m #[Value.ref b] below meth c H locs 221 3390 Q (F0 m 485 ls []) := by
  obtain ⟨hx, hb, hml, hown, hts, hX, hbl, hK, hcX, hA, hB, hap⟩ := EN
  have hbA : ¬ lA s b := Nat.not_le.mpr hbl
  obtain ⟨d, len, R⟩ := hR
  refine lv_aload_n hx hb dL_law_485 rfl (lv_at hl 2 rfl) ?_
  refine l_c (As := []) (rest := []) hx hb hml hown hts hK hcX hA hB hap hI (k_X5_ladderFor l dd g ad pi (cF ad) (cF_A hA) C R.ro.W R.g0 R.ro.L) (cwV 0 hts gL_law_X5_ladderFor rfl rfl rfl (by decide +kernel) ⟨Nat.le_of_ble_eq_true rfl, Nat.le_of_ble_eq_true rfl⟩) rfl hl (Nat.le_of_ble_eq_true rfl) ⟨Nat.le_of_ble_eq_true rfl, Nat.le_of_ble_eq_true rfl⟩ dL_law_486 rfl (fun r C1 pi1 H locs hpc hI => ?_)
  refine lv_aload_n hx hb dL_law_489 rfl (lv_at hl 1 rfl) ?_
  refine l_m (As := []) (rest := [.int r]) hx hb hml hown hts hK hA hB hap hI (k_X6_ladderFor l dd g q (mF q) (mF_A hB) M R.ro.1.W) (cwV 0 hts gL_law_X6_ladderFor rfl rfl rfl (by decide +kernel) ⟨Nat.le_of_ble_eq_true rfl, Nat.le_of_ble_eq_true rfl⟩) rfl hl (Nat.le_of_ble_eq_true rfl) ⟨Nat.le_of_ble_eq_true rfl, Nat.le_of_ble_eq_true rfl⟩ dL_law_490 rfl (fun r2 M1 H locs hpm hI => ?_)
  obtain ⟨e1, R1⟩ := rel_ladderFor R hpc hpm
  exact lv_icmp_eq (tgt := 672) hx hb dL_law_493 (by decide) (fun _ => kk _ _ _ _ _ R1 hI) (fun c9 => absurd e1 c9)
set_option maxHeartbeats 4000000 in
set_option maxRecDepth 100000 in
theorem lw_c14 {p : Program} {l : Launch} {e : Env} {s : State} {m : MethodId} {below : List Frame} {meth : Method} {c : Code} {b L : Nat} {xs : Nat → Int32} {dd : va_G} {g : Nat → ClassId} {ad q : Nat → Nat} (EN : LEnv p s m meth c b L xs dd g ad q) (hL : L ≤ 2048) {i : Nat} (hi : i + 4 ≤ L) {pi : Nat → Nat} {C M : MS} {H : Heap} {locs : List Loc} {ls : Array Slot} (hR : RelE C pi M) (hI : LI dd g ad q (lA s) pi C M s.heap H locs) (hl : lv_has ls 4 [(3, .int (nI i)), (2, .ref (q 0)), (1, .ref (ad 0)), (0, .ref b)]) {Q : State → Prop} (kk : ∀ (C1 : MS) (pi1 : Nat → Nat) (M1 : MS) (H1 : Heap) (locs1 : List Loc), RelE C1 pi1 M1 → LI dd g ad q (lA s) pi1 C1 M1 s.heap H1 locs1 → W p l e room_1 s m #[Value.ref b] below meth c H1 locs1 221 3390 Q (F0 m 672 ls [])) : W p l e room_1 s m #[Value.ref b] below meth c H locs 221 3390 Q (F0 m 498 ls []) := by
  obtain ⟨hx, hb, hml, hown, hts, hX, hbl, hK, hcX, hA, hB, hap⟩ := EN
  have hbA : ¬ lA s b := Nat.not_le.mpr hbl
  obtain ⟨d, len, R⟩ := hR
  refine lv_aload_n hx hb dL_law_498 rfl (lv_at hl 2 rfl) ?_
  refine lv_aload_n hx hb dL_law_499 rfl (lv_at hl 3 rfl) ?_
  refine lv_iload_n hx hb dL_law_500 rfl (lv_at hl 0 rfl) ?_
  refine lv_iconst (v := 1) hx hb dL_law_501 (by decide) ?_
  refine lv_iadd hx hb dL_law_502 ?_
  refine lv_re (show nI i + (1 : Int32) = nI (i + 1) from nI_add i 1) ?_
  refine va_sld hx hb hX hbl hbA hI.2.2 (vp_in_nI (show i + 1 < L by omega) (by omega)) dL_law_503 ?_
  refine lv_re (show xs (nI (i + 1)).toNatClampNeg = xs (i + 1) by rw [nI_clamp (by omega)]) ?_
  refine l_c (As := [.int (xs (i + 1))]) (rest := []) hx hb hml hown hts hK hcX hA hB hap hI (k_X5_wayRound l dd g ad pi (cF ad) (cF_A hA) C R.ro.W R.ro.L (xs (i + 1))) (cwV 1 hts gL_law_X5_wayRound rfl rfl rfl (by decide +kernel) ⟨Nat.le_of_ble_eq_true rfl, Nat.le_of_ble_eq_true rfl⟩) rfl hl (Nat.le_of_ble_eq_true rfl) ⟨Nat.le_of_ble_eq_true rfl, Nat.le_of_ble_eq_true rfl⟩ dL_law_504 rfl (fun r C1 pi1 H locs hpc hI => ?_)
  refine lv_aload_n hx hb dL_law_507 rfl (lv_at hl 1 rfl) ?_
  refine lv_aload_n hx hb dL_law_508 rfl (lv_at hl 3 rfl) ?_
  refine lv_iload_n hx hb dL_law_509 rfl (lv_at hl 0 rfl) ?_
  refine lv_iconst (v := 1) hx hb dL_law_510 (by decide) ?_
  refine lv_iadd hx hb dL_law_511 ?_
  refine lv_re (show nI i + (1 : Int32) = nI (i + 1) from nI_add i 1) ?_
  refine va_sld hx hb hX hbl hbA hI.2.2 (vp_in_nI (show i + 1 < L by omega) (by omega)) dL_law_512 ?_
  refine lv_re (show xs (nI (i + 1)).toNatClampNeg = xs (i + 1) by rw [nI_clamp (by omega)]) ?_
  refine l_m (As := [.int (xs (i + 1))]) (rest := [.int r]) hx hb hml hown hts hK hA hB hap hI (k_X6_wayRound l dd g q (mF q) (mF_A hB) M (xs (i + 1)) R.ro.1.W) (cwV 1 hts gL_law_X6_wayRound rfl rfl rfl (by decide +kernel) ⟨Nat.le_of_ble_eq_true rfl, Nat.le_of_ble_eq_true rfl⟩) rfl hl (Nat.le_of_ble_eq_true rfl) ⟨Nat.le_of_ble_eq_true rfl, Nat.le_of_ble_eq_true rfl⟩ dL_law_513 rfl (fun r2 M1 H locs hpm hI => ?_)
  obtain ⟨e1, R1⟩ := rel_way R hpc hpm
  exact lv_icmp_eq (tgt := 672) hx hb dL_law_516 (by decide) (fun _ => kk _ _ _ _ _ R1 hI) (fun c9 => absurd e1 c9)
set_option maxHeartbeats 4000000 in
set_option maxRecDepth 100000 in
theorem lw_c15 {p : Program} {l : Launch} {e : Env} {s : State} {m : MethodId} {below : List Frame} {meth : Method} {c : Code} {b L : Nat} {xs : Nat → Int32} {dd : va_G} {g : Nat → ClassId} {ad q : Nat → Nat} (EN : LEnv p s m meth c b L xs dd g ad q) (hL : L ≤ 2048) {i : Nat} (hi : i + 4 ≤ L) {pi : Nat → Nat} {C M : MS} {H : Heap} {locs : List Loc} {ls : Array Slot} (hR : RelE C pi M) (hI : LI dd g ad q (lA s) pi C M s.heap H locs) (hl : lv_has ls 4 [(3, .int (nI i)), (2, .ref (q 0)), (1, .ref (ad 0)), (0, .ref b)]) {Q : State → Prop} (kk : ∀ (C1 : MS) (pi1 : Nat → Nat) (M1 : MS) (H1 : Heap) (locs1 : List Loc), RelE C1 pi1 M1 → LI dd g ad q (lA s) pi1 C1 M1 s.heap H1 locs1 → W p l e room_1 s m #[Value.ref b] below meth c H1 locs1 221 3390 Q (F0 m 672 ls [])) : W p l e room_1 s m #[Value.ref b] below meth c H locs 221 3390 Q (F0 m 521 ls []) := by
  obtain ⟨hx, hb, hml, hown, hts, hX, hbl, hK, hcX, hA, hB, hap⟩ := EN
  have hbA : ¬ lA s b := Nat.not_le.mpr hbl
  obtain ⟨d, len, R⟩ := hR
  refine lv_aload_n hx hb dL_law_521 rfl (lv_at hl 2 rfl) ?_
  refine lv_aload_n hx hb dL_law_522 rfl (lv_at hl 3 rfl) ?_
  refine lv_iload_n hx hb dL_law_523 rfl (lv_at hl 0 rfl) ?_
  refine lv_iconst (v := 1) hx hb dL_law_524 (by decide) ?_
  refine lv_iadd hx hb dL_law_525 ?_
  refine lv_re (show nI i + (1 : Int32) = nI (i + 1) from nI_add i 1) ?_
  refine va_sld hx hb hX hbl hbA hI.2.2 (vp_in_nI (show i + 1 < L by omega) (by omega)) dL_law_526 ?_
  refine lv_re (show xs (nI (i + 1)).toNatClampNeg = xs (i + 1) by rw [nI_clamp (by omega)]) ?_
  refine lv_i2l hx hb dL_law_527 rfl ?_
  refine lv_bipush (v := 32) hx hb dL_law_528 (by decide) ?_
  refine lv_lshl hx hb dL_law_530 rfl ?_
  refine lv_aload_n hx hb dL_law_531 rfl (lv_at hl 3 rfl) ?_
  refine lv_iload_n hx hb dL_law_532 rfl (lv_at hl 0 rfl) ?_
  refine lv_iconst (v := 2) hx hb dL_law_533 (by decide) ?_
  refine lv_iadd hx hb dL_law_534 ?_
  refine lv_re (show nI i + (2 : Int32) = nI (i + 2) from nI_add i 2) ?_
  refine va_sld hx hb hX hbl hbA hI.2.2 (vp_in_nI (show i + 2 < L by omega) (by omega)) dL_law_535 ?_
  refine lv_re (show xs (nI (i + 2)).toNatClampNeg = xs (i + 2) by rw [nI_clamp (by omega)]) ?_
  refine lv_i2l hx hb dL_law_536 rfl ?_
  refine lv_ldc2 hx hb hown (hts (.constantLong RL 77 (4294967295)) (by decide +kernel)) dL_law_537 ?_
  refine lv_land hx hb dL_law_540 ?_
  refine lv_lor hx hb dL_law_541 ?_
  refine lv_topl (fun X eX => ?_)
  refine l_c (As := [.long X]) (rest := []) hx hb hml hown hts hK hcX hA hB hap hI (k_X5_put l dd g ad pi (cF ad) (cF_A hA) C len R.2.1.1 R.2.1.2.1 X) (cwV 1 hts gL_law_X5_put rfl rfl rfl (by decide +kernel) ⟨Nat.le_of_ble_eq_true rfl, Nat.le_of_ble_eq_true rfl⟩) rfl hl (Nat.le_of_ble_eq_true rfl) ⟨Nat.le_of_ble_eq_true rfl, Nat.le_of_ble_eq_true rfl⟩ dL_law_542 rfl (fun r C1 pi1 H locs hpc hI => ?_)
  refine lv_aload_n hx hb dL_law_545 rfl (lv_at hl 1 rfl) ?_
  refine lv_aload_n hx hb dL_law_546 rfl (lv_at hl 3 rfl) ?_
  refine lv_iload_n hx hb dL_law_547 rfl (lv_at hl 0 rfl) ?_
  refine lv_iconst (v := 1) hx hb dL_law_548 (by decide) ?_
  refine lv_iadd hx hb dL_law_549 ?_
  refine lv_re (show nI i + (1 : Int32) = nI (i + 1) from nI_add i 1) ?_
  refine va_sld hx hb hX hbl hbA hI.2.2 (vp_in_nI (show i + 1 < L by omega) (by omega)) dL_law_550 ?_
  refine lv_re (show xs (nI (i + 1)).toNatClampNeg = xs (i + 1) by rw [nI_clamp (by omega)]) ?_
  refine lv_i2l hx hb dL_law_551 rfl ?_
  refine lv_bipush (v := 32) hx hb dL_law_552 (by decide) ?_
  refine lv_lshl hx hb dL_law_554 rfl ?_
  refine lv_aload_n hx hb dL_law_555 rfl (lv_at hl 3 rfl) ?_
  refine lv_iload_n hx hb dL_law_556 rfl (lv_at hl 0 rfl) ?_
  refine lv_iconst (v := 2) hx hb dL_law_557 (by decide) ?_
  refine lv_iadd hx hb dL_law_558 ?_
  refine lv_re (show nI i + (2 : Int32) = nI (i + 2) from nI_add i 2) ?_
  refine va_sld hx hb hX hbl hbA hI.2.2 (vp_in_nI (show i + 2 < L by omega) (by omega)) dL_law_559 ?_
  refine lv_re (show xs (nI (i + 2)).toNatClampNeg = xs (i + 2) by rw [nI_clamp (by omega)]) ?_
  refine lv_i2l hx hb dL_law_560 rfl ?_
  refine lv_ldc2 hx hb hown (hts (.constantLong RL 77 (4294967295)) (by decide +kernel)) dL_law_561 ?_
  refine lv_land hx hb dL_law_564 ?_
  refine lv_lor hx hb dL_law_565 ?_
  refine lv_rel eX.symm ?_
  refine l_m (As := [.long X]) (rest := [.int r]) hx hb hml hown hts hK hA hB hap hI (k_X6_put l dd g q (mF q) (mF_A hB) M X len R.2.1.1 R.2.1.2.2.1) (cwV 1 hts gL_law_X6_put rfl rfl rfl (by decide +kernel) ⟨Nat.le_of_ble_eq_true rfl, Nat.le_of_ble_eq_true rfl⟩) rfl hl (Nat.le_of_ble_eq_true rfl) ⟨Nat.le_of_ble_eq_true rfl, Nat.le_of_ble_eq_true rfl⟩ dL_law_566 rfl (fun r2 M1 H locs hpm hI => ?_)
  obtain ⟨e1, R1⟩ := rel_put R hpc hpm
  exact lv_icmp_eq (tgt := 672) hx hb dL_law_569 (by decide) (fun _ => kk _ _ _ _ _ R1 hI) (fun c9 => absurd e1 c9)
set_option maxHeartbeats 4000000 in
set_option maxRecDepth 100000 in
theorem lw_c16 {p : Program} {l : Launch} {e : Env} {s : State} {m : MethodId} {below : List Frame} {meth : Method} {c : Code} {b L : Nat} {xs : Nat → Int32} {dd : va_G} {g : Nat → ClassId} {ad q : Nat → Nat} (EN : LEnv p s m meth c b L xs dd g ad q) (hL : L ≤ 2048) {i : Nat} (hi : i + 4 ≤ L) {pi : Nat → Nat} {C M : MS} {H : Heap} {locs : List Loc} {ls : Array Slot} (hR : RelE C pi M) (hI : LI dd g ad q (lA s) pi C M s.heap H locs) (hl : lv_has ls 4 [(3, .int (nI i)), (2, .ref (q 0)), (1, .ref (ad 0)), (0, .ref b)]) {Q : State → Prop} (kk : ∀ (C1 : MS) (pi1 : Nat → Nat) (M1 : MS) (H1 : Heap) (locs1 : List Loc), RelE C1 pi1 M1 → LI dd g ad q (lA s) pi1 C1 M1 s.heap H1 locs1 → W p l e room_1 s m #[Value.ref b] below meth c H1 locs1 221 3390 Q (F0 m 672 ls [])) : W p l e room_1 s m #[Value.ref b] below meth c H locs 221 3390 Q (F0 m 574 ls []) := by
  obtain ⟨hx, hb, hml, hown, hts, hX, hbl, hK, hcX, hA, hB, hap⟩ := EN
  have hbA : ¬ lA s b := Nat.not_le.mpr hbl
  obtain ⟨d, len, R⟩ := hR
  refine lv_aload_n hx hb dL_law_574 rfl (lv_at hl 2 rfl) ?_
  refine l_c (As := []) (rest := []) hx hb hml hown hts hK hcX hA hB hap hI (k_X5_wipe l dd g ad pi (cF ad) (cF_A hA) C ) (cwV 0 hts gL_law_X5_wipe rfl rfl rfl (by decide +kernel) ⟨Nat.le_of_ble_eq_true rfl, Nat.le_of_ble_eq_true rfl⟩) rfl hl (Nat.le_of_ble_eq_true rfl) ⟨Nat.le_of_ble_eq_true rfl, Nat.le_of_ble_eq_true rfl⟩ dL_law_575 rfl (fun r C1 pi1 H locs hpc hI => ?_)
  refine lv_aload_n hx hb dL_law_578 rfl (lv_at hl 1 rfl) ?_
  refine l_m (As := []) (rest := [.int r]) hx hb hml hown hts hK hA hB hap hI (k_X6_wipe l dd g q (mF q) (mF_A hB) M ) (cwV 0 hts gL_law_X6_wipe rfl rfl rfl (by decide +kernel) ⟨Nat.le_of_ble_eq_true rfl, Nat.le_of_ble_eq_true rfl⟩) rfl hl (Nat.le_of_ble_eq_true rfl) ⟨Nat.le_of_ble_eq_true rfl, Nat.le_of_ble_eq_true rfl⟩ dL_law_579 rfl (fun r2 M1 H locs hpm hI => ?_)
  obtain ⟨e1, R1⟩ := rel_wipe R hpc hpm
  exact lv_icmp_eq (tgt := 672) hx hb dL_law_582 (by decide) (fun _ => kk _ _ _ _ _ R1 hI) (fun c9 => absurd e1 c9)
set_option maxHeartbeats 4000000 in
set_option maxRecDepth 100000 in
theorem lw_c17 {p : Program} {l : Launch} {e : Env} {s : State} {m : MethodId} {below : List Frame} {meth : Method} {c : Code} {b L : Nat} {xs : Nat → Int32} {dd : va_G} {g : Nat → ClassId} {ad q : Nat → Nat} (EN : LEnv p s m meth c b L xs dd g ad q) (hL : L ≤ 2048) {i : Nat} (hi : i + 4 ≤ L) {pi : Nat → Nat} {C M : MS} {H : Heap} {locs : List Loc} {ls : Array Slot} (hR : RelE C pi M) (hI : LI dd g ad q (lA s) pi C M s.heap H locs) (hl : lv_has ls 4 [(3, .int (nI i)), (2, .ref (q 0)), (1, .ref (ad 0)), (0, .ref b)]) {Q : State → Prop} (kk : ∀ (C1 : MS) (pi1 : Nat → Nat) (M1 : MS) (H1 : Heap) (locs1 : List Loc), RelE C1 pi1 M1 → LI dd g ad q (lA s) pi1 C1 M1 s.heap H1 locs1 → W p l e room_1 s m #[Value.ref b] below meth c H1 locs1 221 3390 Q (F0 m 672 ls [])) : W p l e room_1 s m #[Value.ref b] below meth c H locs 221 3390 Q (F0 m 587 ls []) := by
  obtain ⟨hx, hb, hml, hown, hts, hX, hbl, hK, hcX, hA, hB, hap⟩ := EN
  have hbA : ¬ lA s b := Nat.not_le.mpr hbl
  obtain ⟨d, len, R⟩ := hR
  refine lv_aload_n hx hb dL_law_587 rfl (lv_at hl 2 rfl) ?_
  refine l_c (As := []) (rest := []) hx hb hml hown hts hK hcX hA hB hap hI (k_X5_fault l dd g ad pi (cF ad) (cF_A hA) C len R.2.1.1 R.2.1.2.1 R.2.1.2.2.2.2) (cwV 0 hts gL_law_X5_fault rfl rfl rfl (by decide +kernel) ⟨Nat.le_of_ble_eq_true rfl, Nat.le_of_ble_eq_true rfl⟩) rfl hl (Nat.le_of_ble_eq_true rfl) ⟨Nat.le_of_ble_eq_true rfl, Nat.le_of_ble_eq_true rfl⟩ dL_law_588 rfl (fun r C1 pi1 H locs hpc hI => ?_)
  refine lv_aload_n hx hb dL_law_591 rfl (lv_at hl 1 rfl) ?_
  refine l_m (As := []) (rest := [.int r]) hx hb hml hown hts hK hA hB hap hI (k_X6_fault l dd g q (mF q) (mF_A hB) M len R.2.1.2.2.1 R.2.1.1 R.ro.1.W) (cwV 0 hts gL_law_X6_fault rfl rfl rfl (by decide +kernel) ⟨Nat.le_of_ble_eq_true rfl, Nat.le_of_ble_eq_true rfl⟩) rfl hl (Nat.le_of_ble_eq_true rfl) ⟨Nat.le_of_ble_eq_true rfl, Nat.le_of_ble_eq_true rfl⟩ dL_law_592 rfl (fun r2 M1 H locs hpm hI => ?_)
  obtain ⟨e1, R1⟩ := rel_fault R hpc hpm
  exact lv_icmp_eq (tgt := 672) hx hb dL_law_595 (by decide) (fun _ => kk _ _ _ _ _ R1 hI) (fun c9 => absurd e1 c9)
set_option maxHeartbeats 4000000 in
set_option maxRecDepth 100000 in
theorem lw_c18 {p : Program} {l : Launch} {e : Env} {s : State} {m : MethodId} {below : List Frame} {meth : Method} {c : Code} {b L : Nat} {xs : Nat → Int32} {dd : va_G} {g : Nat → ClassId} {ad q : Nat → Nat} (EN : LEnv p s m meth c b L xs dd g ad q) (hL : L ≤ 2048) {i : Nat} (hi : i + 4 ≤ L) {pi : Nat → Nat} {C M : MS} {H : Heap} {locs : List Loc} {ls : Array Slot} (hR : RelE C pi M) (hI : LI dd g ad q (lA s) pi C M s.heap H locs) (hl : lv_has ls 4 [(3, .int (nI i)), (2, .ref (q 0)), (1, .ref (ad 0)), (0, .ref b)]) {Q : State → Prop} (kk : ∀ (C1 : MS) (pi1 : Nat → Nat) (M1 : MS) (H1 : Heap) (locs1 : List Loc), RelE C1 pi1 M1 → LI dd g ad q (lA s) pi1 C1 M1 s.heap H1 locs1 → W p l e room_1 s m #[Value.ref b] below meth c H1 locs1 221 3390 Q (F0 m 672 ls [])) : W p l e room_1 s m #[Value.ref b] below meth c H locs 221 3390 Q (F0 m 600 ls []) := by
  obtain ⟨hx, hb, hml, hown, hts, hX, hbl, hK, hcX, hA, hB, hap⟩ := EN
  have hbA : ¬ lA s b := Nat.not_le.mpr hbl
  obtain ⟨d, len, R⟩ := hR
  refine lv_aload_n hx hb dL_law_600 rfl (lv_at hl 2 rfl) ?_
  refine l_c (As := []) (rest := []) hx hb hml hown hts hK hcX hA hB hap hI (k_X5_carryOut l dd g ad pi (cF ad) (cF_A hA) C d R.1.2.1 R.1.2.2.1 R.1.1 R.ro.W R.g0 len R.2.1.1 R.2.1.2.1 R.2.1.2.2.2.2 InvO (fun f h => InvO_w h) InvO_s ⟨_, R.ro⟩) (cwV 0 hts gL_law_X5_carryOut rfl rfl rfl (by decide +kernel) ⟨Nat.le_of_ble_eq_true rfl, Nat.le_of_ble_eq_true rfl⟩) rfl hl (Nat.le_of_ble_eq_true rfl) ⟨Nat.le_of_ble_eq_true rfl, Nat.le_of_ble_eq_true rfl⟩ dL_law_601 rfl (fun r C1 pi1 H locs hpc hI => ?_)
  refine lv_aload_n hx hb dL_law_604 rfl (lv_at hl 1 rfl) ?_
  refine l_m (As := []) (rest := [.int r]) hx hb hml hown hts hK hA hB hap hI (k_X6_carryOut l dd g q (mF q) (mF_A hB) M len R.2.1.2.2.1 R.2.1.1 d R.1.2.1 R.1.2.2.2 R.ro.1.W) (cwV 0 hts gL_law_X6_carryOut rfl rfl rfl (by decide +kernel) ⟨Nat.le_of_ble_eq_true rfl, Nat.le_of_ble_eq_true rfl⟩) rfl hl (Nat.le_of_ble_eq_true rfl) ⟨Nat.le_of_ble_eq_true rfl, Nat.le_of_ble_eq_true rfl⟩ dL_law_605 rfl (fun r2 M1 H locs hpm hI => ?_)
  obtain ⟨e1, R1⟩ := rel_carryOut R hpc hpm
  exact lv_icmp_eq (tgt := 672) hx hb dL_law_608 (by decide) (fun _ => kk _ _ _ _ _ R1 hI) (fun c9 => absurd e1 c9)
set_option maxHeartbeats 4000000 in
set_option maxRecDepth 100000 in
theorem lw_c19 {p : Program} {l : Launch} {e : Env} {s : State} {m : MethodId} {below : List Frame} {meth : Method} {c : Code} {b L : Nat} {xs : Nat → Int32} {dd : va_G} {g : Nat → ClassId} {ad q : Nat → Nat} (EN : LEnv p s m meth c b L xs dd g ad q) (hL : L ≤ 2048) {i : Nat} (hi : i + 4 ≤ L) {pi : Nat → Nat} {C M : MS} {H : Heap} {locs : List Loc} {ls : Array Slot} (hR : RelE C pi M) (hI : LI dd g ad q (lA s) pi C M s.heap H locs) (hl : lv_has ls 4 [(3, .int (nI i)), (2, .ref (q 0)), (1, .ref (ad 0)), (0, .ref b)]) {Q : State → Prop} (kk : ∀ (C1 : MS) (pi1 : Nat → Nat) (M1 : MS) (H1 : Heap) (locs1 : List Loc), RelE C1 pi1 M1 → LI dd g ad q (lA s) pi1 C1 M1 s.heap H1 locs1 → W p l e room_1 s m #[Value.ref b] below meth c H1 locs1 221 3390 Q (F0 m 672 ls [])) : W p l e room_1 s m #[Value.ref b] below meth c H locs 221 3390 Q (F0 m 613 ls []) := by
  obtain ⟨hx, hb, hml, hown, hts, hX, hbl, hK, hcX, hA, hB, hap⟩ := EN
  have hbA : ¬ lA s b := Nat.not_le.mpr hbl
  obtain ⟨d, len, R⟩ := hR
  refine lv_aload_n hx hb dL_law_613 rfl (lv_at hl 2 rfl) ?_
  refine l_c (As := []) (rest := []) hx hb hml hown hts hK hcX hA hB hap hI (k_X5_undo l dd g ad pi (cF ad) (cF_A hA) C d R.1.2.1 R.1.2.2.1 R.1.1 R.hh) (cwV 0 hts gL_law_X5_undo rfl rfl rfl (by decide +kernel) ⟨Nat.le_of_ble_eq_true rfl, Nat.le_of_ble_eq_true rfl⟩) rfl hl (Nat.le_of_ble_eq_true rfl) ⟨Nat.le_of_ble_eq_true rfl, Nat.le_of_ble_eq_true rfl⟩ dL_law_614 rfl (fun r C1 pi1 H locs hpc hI => ?_)
  refine lv_aload_n hx hb dL_law_617 rfl (lv_at hl 1 rfl) ?_
  refine l_m (As := []) (rest := [.int r]) hx hb hml hown hts hK hA hB hap hI (k_X6_undo l dd g q (mF q) (mF_A hB) M d R.1.2.1 R.1.2.2.2) (cwV 0 hts gL_law_X6_undo rfl rfl rfl (by decide +kernel) ⟨Nat.le_of_ble_eq_true rfl, Nat.le_of_ble_eq_true rfl⟩) rfl hl (Nat.le_of_ble_eq_true rfl) ⟨Nat.le_of_ble_eq_true rfl, Nat.le_of_ble_eq_true rfl⟩ dL_law_618 rfl (fun r2 M1 H locs hpm hI => ?_)
  obtain ⟨e1, R1⟩ := rel_undo R hpc hpm
  exact lv_icmp_eq (tgt := 672) hx hb dL_law_621 (by decide) (fun _ => kk _ _ _ _ _ R1 hI) (fun c9 => absurd e1 c9)
set_option maxHeartbeats 4000000 in
set_option maxRecDepth 100000 in
theorem lw_c20 {p : Program} {l : Launch} {e : Env} {s : State} {m : MethodId} {below : List Frame} {meth : Method} {c : Code} {b L : Nat} {xs : Nat → Int32} {dd : va_G} {g : Nat → ClassId} {ad q : Nat → Nat} (EN : LEnv p s m meth c b L xs dd g ad q) (hL : L ≤ 2048) {i : Nat} (hi : i + 4 ≤ L) {pi : Nat → Nat} {C M : MS} {H : Heap} {locs : List Loc} {ls : Array Slot} (hR : RelE C pi M) (hI : LI dd g ad q (lA s) pi C M s.heap H locs) (hl : lv_has ls 4 [(3, .int (nI i)), (2, .ref (q 0)), (1, .ref (ad 0)), (0, .ref b)]) {Q : State → Prop} (kk : ∀ (C1 : MS) (pi1 : Nat → Nat) (M1 : MS) (H1 : Heap) (locs1 : List Loc), RelE C1 pi1 M1 → LI dd g ad q (lA s) pi1 C1 M1 s.heap H1 locs1 → W p l e room_1 s m #[Value.ref b] below meth c H1 locs1 221 3390 Q (F0 m 672 ls [])) : W p l e room_1 s m #[Value.ref b] below meth c H locs 221 3390 Q (F0 m 626 ls []) := by
  obtain ⟨hx, hb, hml, hown, hts, hX, hbl, hK, hcX, hA, hB, hap⟩ := EN
  have hbA : ¬ lA s b := Nat.not_le.mpr hbl
  obtain ⟨d, len, R⟩ := hR
  refine lv_aload_n hx hb dL_law_626 rfl (lv_at hl 2 rfl) ?_
  refine lv_aload_n hx hb dL_law_627 rfl (lv_at hl 3 rfl) ?_
  refine lv_iload_n hx hb dL_law_628 rfl (lv_at hl 0 rfl) ?_
  refine lv_iconst (v := 1) hx hb dL_law_629 (by decide) ?_
  refine lv_iadd hx hb dL_law_630 ?_
  refine lv_re (show nI i + (1 : Int32) = nI (i + 1) from nI_add i 1) ?_
  refine va_sld hx hb hX hbl hbA hI.2.2 (vp_in_nI (show i + 1 < L by omega) (by omega)) dL_law_631 ?_
  refine lv_re (show xs (nI (i + 1)).toNatClampNeg = xs (i + 1) by rw [nI_clamp (by omega)]) ?_
  refine l_c (As := [.int (xs (i + 1))]) (rest := []) hx hb hml hown hts hK hcX hA hB hap hI (k_X5_save l dd g ad pi (cF ad) (cF_A hA) C R.ro.W R.g0 (xs (i + 1))) (cwV 1 hts gL_law_X5_save rfl rfl rfl (by decide +kernel) ⟨Nat.le_of_ble_eq_true rfl, Nat.le_of_ble_eq_true rfl⟩) rfl hl (Nat.le_of_ble_eq_true rfl) ⟨Nat.le_of_ble_eq_true rfl, Nat.le_of_ble_eq_true rfl⟩ dL_law_632 rfl (fun r C1 pi1 H locs hpc hI => ?_)
  refine lv_aload_n hx hb dL_law_635 rfl (lv_at hl 1 rfl) ?_
  refine lv_aload_n hx hb dL_law_636 rfl (lv_at hl 3 rfl) ?_
  refine lv_iload_n hx hb dL_law_637 rfl (lv_at hl 0 rfl) ?_
  refine lv_iconst (v := 1) hx hb dL_law_638 (by decide) ?_
  refine lv_iadd hx hb dL_law_639 ?_
  refine lv_re (show nI i + (1 : Int32) = nI (i + 1) from nI_add i 1) ?_
  refine va_sld hx hb hX hbl hbA hI.2.2 (vp_in_nI (show i + 1 < L by omega) (by omega)) dL_law_640 ?_
  refine lv_re (show xs (nI (i + 1)).toNatClampNeg = xs (i + 1) by rw [nI_clamp (by omega)]) ?_
  refine l_m (As := [.int (xs (i + 1))]) (rest := [.int r]) hx hb hml hown hts hK hA hB hap hI (k_X6_save l dd g q (mF q) (mF_A hB) M (xs (i + 1)) R.ro.1.W) (cwV 1 hts gL_law_X6_save rfl rfl rfl (by decide +kernel) ⟨Nat.le_of_ble_eq_true rfl, Nat.le_of_ble_eq_true rfl⟩) rfl hl (Nat.le_of_ble_eq_true rfl) ⟨Nat.le_of_ble_eq_true rfl, Nat.le_of_ble_eq_true rfl⟩ dL_law_641 rfl (fun r2 M1 H locs hpm hI => ?_)
  obtain ⟨e1, R1⟩ := rel_save R hpc hpm
  exact lv_icmp_eq (tgt := 672) hx hb dL_law_644 (by decide) (fun _ => kk _ _ _ _ _ R1 hI) (fun c9 => absurd e1 c9)
set_option maxHeartbeats 4000000 in
set_option maxRecDepth 100000 in
theorem lw_c21 {p : Program} {l : Launch} {e : Env} {s : State} {m : MethodId} {below : List Frame} {meth : Method} {c : Code} {b L : Nat} {xs : Nat → Int32} {dd : va_G} {g : Nat → ClassId} {ad q : Nat → Nat} (EN : LEnv p s m meth c b L xs dd g ad q) (hL : L ≤ 2048) {i : Nat} (hi : i + 4 ≤ L) {pi : Nat → Nat} {C M : MS} {H : Heap} {locs : List Loc} {ls : Array Slot} (hR : RelE C pi M) (hI : LI dd g ad q (lA s) pi C M s.heap H locs) (hl : lv_has ls 4 [(3, .int (nI i)), (2, .ref (q 0)), (1, .ref (ad 0)), (0, .ref b)]) {Q : State → Prop} (kk : ∀ (C1 : MS) (pi1 : Nat → Nat) (M1 : MS) (H1 : Heap) (locs1 : List Loc), RelE C1 pi1 M1 → LI dd g ad q (lA s) pi1 C1 M1 s.heap H1 locs1 → W p l e room_1 s m #[Value.ref b] below meth c H1 locs1 221 3390 Q (F0 m 672 ls [])) : W p l e room_1 s m #[Value.ref b] below meth c H locs 221 3390 Q (F0 m 649 ls []) := by
  obtain ⟨hx, hb, hml, hown, hts, hX, hbl, hK, hcX, hA, hB, hap⟩ := EN
  have hbA : ¬ lA s b := Nat.not_le.mpr hbl
  obtain ⟨d, len, R⟩ := hR
  refine lv_aload_n hx hb dL_law_649 rfl (lv_at hl 2 rfl) ?_
  refine lv_aload_n hx hb dL_law_650 rfl (lv_at hl 3 rfl) ?_
  refine lv_iload_n hx hb dL_law_651 rfl (lv_at hl 0 rfl) ?_
  refine lv_iconst (v := 1) hx hb dL_law_652 (by decide) ?_
  refine lv_iadd hx hb dL_law_653 ?_
  refine lv_re (show nI i + (1 : Int32) = nI (i + 1) from nI_add i 1) ?_
  refine va_sld hx hb hX hbl hbA hI.2.2 (vp_in_nI (show i + 1 < L by omega) (by omega)) dL_law_654 ?_
  refine lv_re (show xs (nI (i + 1)).toNatClampNeg = xs (i + 1) by rw [nI_clamp (by omega)]) ?_
  refine l_c (As := [.int (xs (i + 1))]) (rest := []) hx hb hml hown hts hK hcX hA hB hap hI (k_X5_restore l dd g ad pi (cF ad) (cF_A hA) C d R.1.2.1 R.1.2.2.1 R.1.1 R.ro.W R.g0 R.sl (xs (i + 1))) (cwV 1 hts gL_law_X5_restore rfl rfl rfl (by decide +kernel) ⟨Nat.le_of_ble_eq_true rfl, Nat.le_of_ble_eq_true rfl⟩) rfl hl (Nat.le_of_ble_eq_true rfl) ⟨Nat.le_of_ble_eq_true rfl, Nat.le_of_ble_eq_true rfl⟩ dL_law_655 rfl (fun r C1 pi1 H locs hpc hI => ?_)
  refine lv_aload_n hx hb dL_law_658 rfl (lv_at hl 1 rfl) ?_
  refine lv_aload_n hx hb dL_law_659 rfl (lv_at hl 3 rfl) ?_
  refine lv_iload_n hx hb dL_law_660 rfl (lv_at hl 0 rfl) ?_
  refine lv_iconst (v := 1) hx hb dL_law_661 (by decide) ?_
  refine lv_iadd hx hb dL_law_662 ?_
  refine lv_re (show nI i + (1 : Int32) = nI (i + 1) from nI_add i 1) ?_
  refine va_sld hx hb hX hbl hbA hI.2.2 (vp_in_nI (show i + 1 < L by omega) (by omega)) dL_law_663 ?_
  refine lv_re (show xs (nI (i + 1)).toNatClampNeg = xs (i + 1) by rw [nI_clamp (by omega)]) ?_
  refine l_m (As := [.int (xs (i + 1))]) (rest := [.int r]) hx hb hml hown hts hK hA hB hap hI (k_X6_restore l dd g q (mF q) (mF_A hB) M (xs (i + 1)) d R.1.2.1 R.1.2.2.2 R.ro.1.W R.z5) (cwV 1 hts gL_law_X6_restore rfl rfl rfl (by decide +kernel) ⟨Nat.le_of_ble_eq_true rfl, Nat.le_of_ble_eq_true rfl⟩) rfl hl (Nat.le_of_ble_eq_true rfl) ⟨Nat.le_of_ble_eq_true rfl, Nat.le_of_ble_eq_true rfl⟩ dL_law_664 rfl (fun r2 M1 H locs hpm hI => ?_)
  obtain ⟨e1, R1⟩ := rel_restore R hpc hpm
  exact lv_icmp_eq (tgt := 672) hx hb dL_law_667 (by decide) (fun _ => kk _ _ _ _ _ R1 hI) (fun c9 => absurd e1 c9)
