/-! the law's cases -/
abbrev AL (s : State) : Nat → Prop := fun q => s.heap.size ≤ q
set_option maxHeartbeats 4000000 in
set_option maxRecDepth 100000 in
theorem lc_point {p : Program} {l : Launch} {e : Env} {s : State} {m : MethodId} {below : List Frame} {meth : Method} {c : Code} {H : Heap} {locs : List Loc} {Q : State → Prop} {ls : Array Slot} {D : va_G} {cI cZ : ClassId} {bb qq b L i : Nat} {u v : Nat → Nat} {xs : Nat → Int32} {B : BS} {S : RS} (C : CallFix p m c cL_law 4 s #[Value.ref b] TB RL) (hX : va_X b L xs s s.heap) (hbl : b < s.heap.size) (hL : L ≤ 2560) (hi : i + 5 ≤ L) (hK : va_K D vwCl (tyz cI cZ) s) (h : Rel B S) (hP : va_P D vwCl (wLW cI cZ bb u qq v B S) H) (hD : va_D (AL s) (wLW cI cZ bb u qq v B S)) (hS : va_S (AL s) s.heap H locs) (hl : lv_has ls 4 (lsL b bb qq i))
    (kk : ∀ (B : BS) (S : RS) (H : Heap) (locs : List Loc), Rel B S → va_P D vwCl (wLW cI cZ bb u qq v B S) H → va_D (AL s) (wLW cI cZ bb u qq v B S) → va_S (AL s) s.heap H locs → W p l e room_1 s m #[Value.ref b] below meth c H locs 34 4908 Q (F0 m 864 ls [])) : W p l e room_1 s m #[Value.ref b] below meth c H locs 34 4908 Q (F0 m 148 ls []) := by
  have hbA : ¬ AL s b := Nat.not_le.mpr hbl
  obtain ⟨heq, hrel⟩ := call_point h (xs (i + 1)).toInt (xs (i + 2)).toInt
  obtain ⟨⟨X, Y, T, O, told, pres⟩, ⟨K, osz⟩, ⟨⟨Cd, sz, Th⟩, Af, Bf⟩, ⟨⟨Ce, se, Te⟩, Ae, Be⟩, Rq, fi, bg, sl, fd⟩ := B
  obtain ⟨⟨Px, Py, Mt, pn⟩, ⟨kn, fl, Hu, hn, A1, A2, A3, mn⟩, ⟨hd, sd, B1, B2, B3, hd2, fp⟩, ⟨Od, Ro, Ne, rn⟩, Mr⟩ := S
  refine lv_aload_n C.1 C.2.1 dL_law_148 rfl (lv_at hl 1 rfl) ?_
  refine jl_arg C hX hbl hbA hS hL hl 1 rfl (by omega) dL_law_149 dL_law_150 dL_law_151 dL_law_152 dL_law_153 ?_
  refine jl_arg C hX hbl hbA hS hL hl 2 rfl (by omega) dL_law_154 dL_law_155 dL_law_156 dL_law_157 dL_law_158 ?_
  refine jl_B (u := u) (v := v) (ni := 2) C [.int (J (xs (i + 1)).toInt), .int (J (xs (i + 2)).toInt)] [] (c_X3_point h.1 (R3_to _) (R3_to _)) gv_L_13 (by decide +kernel) (by decide) hK hP hD hS rfl hl.1 (Nat.le_of_ble_eq_true rfl) dL_law_159 (by decide) (fun H locs hP hD hS => ?_) rfl
  refine lv_aload_n C.1 C.2.1 dL_law_162 rfl (lv_at hl 2 rfl) ?_
  refine jl_arg C hX hbl hbA hS hL hl 1 rfl (by omega) dL_law_163 dL_law_164 dL_law_165 dL_law_166 dL_law_167 ?_
  refine jl_arg C hX hbl hbA hS hL hl 2 rfl (by omega) dL_law_168 dL_law_169 dL_law_170 dL_law_171 dL_law_172 ?_
  refine jl_R (u := u) (v := v) (ni := 2) C [.int (J (xs (i + 1)).toInt), .int (J (xs (i + 2)).toInt)] [_] (c_X4_point h.2.1 (R3_to _) (R3_to _)) gv_L_17 (by decide +kernel) (by decide) hK hP hD hS rfl hl.1 (Nat.le_of_ble_eq_true rfl) dL_law_173 (by decide) (fun H locs hP hD hS => ?_) rfl
  refine jl_cmp (tgt := 864) C (congrArg J heq) dL_law_176 (by decide) ?_
  exact kk _ _ _ _ hrel hP hD hS
set_option maxHeartbeats 4000000 in
set_option maxRecDepth 100000 in
theorem lc_drop {p : Program} {l : Launch} {e : Env} {s : State} {m : MethodId} {below : List Frame} {meth : Method} {c : Code} {H : Heap} {locs : List Loc} {Q : State → Prop} {ls : Array Slot} {D : va_G} {cI cZ : ClassId} {bb qq b L i : Nat} {u v : Nat → Nat} {xs : Nat → Int32} {B : BS} {S : RS} (C : CallFix p m c cL_law 4 s #[Value.ref b] TB RL) (hX : va_X b L xs s s.heap) (hbl : b < s.heap.size) (hL : L ≤ 2560) (hi : i + 5 ≤ L) (hK : va_K D vwCl (tyz cI cZ) s) (h : Rel B S) (hP : va_P D vwCl (wLW cI cZ bb u qq v B S) H) (hD : va_D (AL s) (wLW cI cZ bb u qq v B S)) (hS : va_S (AL s) s.heap H locs) (hl : lv_has ls 4 (lsL b bb qq i))
    (kk : ∀ (B : BS) (S : RS) (H : Heap) (locs : List Loc), Rel B S → va_P D vwCl (wLW cI cZ bb u qq v B S) H → va_D (AL s) (wLW cI cZ bb u qq v B S) → va_S (AL s) s.heap H locs → W p l e room_1 s m #[Value.ref b] below meth c H locs 34 4908 Q (F0 m 864 ls [])) : W p l e room_1 s m #[Value.ref b] below meth c H locs 34 4908 Q (F0 m 181 ls []) := by
  have hbA : ¬ AL s b := Nat.not_le.mpr hbl
  obtain ⟨heq, hrel⟩ := call_drop h (xs (i + 1)).toInt
  obtain ⟨⟨X, Y, T, O, told, pres⟩, ⟨K, osz⟩, ⟨⟨Cd, sz, Th⟩, Af, Bf⟩, ⟨⟨Ce, se, Te⟩, Ae, Be⟩, Rq, fi, bg, sl, fd⟩ := B
  obtain ⟨⟨Px, Py, Mt, pn⟩, ⟨kn, fl, Hu, hn, A1, A2, A3, mn⟩, ⟨hd, sd, B1, B2, B3, hd2, fp⟩, ⟨Od, Ro, Ne, rn⟩, Mr⟩ := S
  refine lv_aload_n C.1 C.2.1 dL_law_181 rfl (lv_at hl 1 rfl) ?_
  refine jl_arg C hX hbl hbA hS hL hl 1 rfl (by omega) dL_law_182 dL_law_183 dL_law_184 dL_law_185 dL_law_186 ?_
  refine jl_B (u := u) (v := v) (ni := 1) C [.int (J (xs (i + 1)).toInt)] [] (c_X3_drop h.1 (R3_to _)) gv_L_18 (by decide +kernel) (by decide) hK hP hD hS rfl hl.1 (Nat.le_of_ble_eq_true rfl) dL_law_187 (by decide) (fun H locs hP hD hS => ?_) rfl
  refine lv_aload_n C.1 C.2.1 dL_law_190 rfl (lv_at hl 2 rfl) ?_
  refine jl_arg C hX hbl hbA hS hL hl 1 rfl (by omega) dL_law_191 dL_law_192 dL_law_193 dL_law_194 dL_law_195 ?_
  refine jl_R (u := u) (v := v) (ni := 1) C [.int (J (xs (i + 1)).toInt)] [_] (c_X4_drop h.2.1 (R3_to _)) gv_L_22 (by decide +kernel) (by decide) hK hP hD hS rfl hl.1 (Nat.le_of_ble_eq_true rfl) dL_law_196 (by decide) (fun H locs hP hD hS => ?_) rfl
  refine jl_cmp (tgt := 864) C (congrArg J heq) dL_law_199 (by decide) ?_
  exact kk _ _ _ _ hrel hP hD hS
set_option maxHeartbeats 4000000 in
set_option maxRecDepth 100000 in
theorem lc_move {p : Program} {l : Launch} {e : Env} {s : State} {m : MethodId} {below : List Frame} {meth : Method} {c : Code} {H : Heap} {locs : List Loc} {Q : State → Prop} {ls : Array Slot} {D : va_G} {cI cZ : ClassId} {bb qq b L i : Nat} {u v : Nat → Nat} {xs : Nat → Int32} {B : BS} {S : RS} (C : CallFix p m c cL_law 4 s #[Value.ref b] TB RL) (hX : va_X b L xs s s.heap) (hbl : b < s.heap.size) (hL : L ≤ 2560) (hi : i + 5 ≤ L) (hK : va_K D vwCl (tyz cI cZ) s) (h : Rel B S) (hP : va_P D vwCl (wLW cI cZ bb u qq v B S) H) (hD : va_D (AL s) (wLW cI cZ bb u qq v B S)) (hS : va_S (AL s) s.heap H locs) (hl : lv_has ls 4 (lsL b bb qq i))
    (kk : ∀ (B : BS) (S : RS) (H : Heap) (locs : List Loc), Rel B S → va_P D vwCl (wLW cI cZ bb u qq v B S) H → va_D (AL s) (wLW cI cZ bb u qq v B S) → va_S (AL s) s.heap H locs → W p l e room_1 s m #[Value.ref b] below meth c H locs 34 4908 Q (F0 m 864 ls [])) : W p l e room_1 s m #[Value.ref b] below meth c H locs 34 4908 Q (F0 m 204 ls []) := by
  have hbA : ¬ AL s b := Nat.not_le.mpr hbl
  obtain ⟨hsd, heq, hrel⟩ := call_move h (xs (i + 1)).toInt (xs (i + 2)).toInt (xs (i + 3)).toInt
  obtain ⟨⟨X, Y, T, O, told, pres⟩, ⟨K, osz⟩, ⟨⟨Cd, sz, Th⟩, Af, Bf⟩, ⟨⟨Ce, se, Te⟩, Ae, Be⟩, Rq, fi, bg, sl, fd⟩ := B
  obtain ⟨⟨Px, Py, Mt, pn⟩, ⟨kn, fl, Hu, hn, A1, A2, A3, mn⟩, ⟨hd, sd, B1, B2, B3, hd2, fp⟩, ⟨Od, Ro, Ne, rn⟩, Mr⟩ := S
  refine lv_aload_n C.1 C.2.1 dL_law_204 rfl (lv_at hl 1 rfl) ?_
  refine jl_arg C hX hbl hbA hS hL hl 1 rfl (by omega) dL_law_205 dL_law_206 dL_law_207 dL_law_208 dL_law_209 ?_
  refine jl_arg C hX hbl hbA hS hL hl 2 rfl (by omega) dL_law_210 dL_law_211 dL_law_212 dL_law_213 dL_law_214 ?_
  refine jl_arg C hX hbl hbA hS hL hl 3 rfl (by omega) dL_law_215 dL_law_216 dL_law_217 dL_law_218 dL_law_219 ?_
  refine jl_B (u := u) (v := v) (ni := 3) C [.int (J (xs (i + 1)).toInt), .int (J (xs (i + 2)).toInt), .int (J (xs (i + 3)).toInt)] [] (c_X3_move h.1 (R3_to _) (R3_to _) (R3_to _) (hmv := hsd)) gv_L_23 (by decide +kernel) (by decide) hK hP hD hS rfl hl.1 (Nat.le_of_ble_eq_true rfl) dL_law_220 (by decide) (fun H locs hP hD hS => ?_) rfl
  refine lv_aload_n C.1 C.2.1 dL_law_223 rfl (lv_at hl 2 rfl) ?_
  refine jl_arg C hX hbl hbA hS hL hl 1 rfl (by omega) dL_law_224 dL_law_225 dL_law_226 dL_law_227 dL_law_228 ?_
  refine jl_arg C hX hbl hbA hS hL hl 2 rfl (by omega) dL_law_229 dL_law_230 dL_law_231 dL_law_232 dL_law_233 ?_
  refine jl_arg C hX hbl hbA hS hL hl 3 rfl (by omega) dL_law_234 dL_law_235 dL_law_236 dL_law_237 dL_law_238 ?_
  refine jl_R (u := u) (v := v) (ni := 3) C [.int (J (xs (i + 1)).toInt), .int (J (xs (i + 2)).toInt), .int (J (xs (i + 3)).toInt)] [_] (c_X4_move h.2.1 (R3_to _) (R3_to _) (R3_to _)) gv_L_27 (by decide +kernel) (by decide) hK hP hD hS rfl hl.1 (Nat.le_of_ble_eq_true rfl) dL_law_239 (by decide) (fun H locs hP hD hS => ?_) rfl
  refine jl_cmp (tgt := 864) C (congrArg J heq) dL_law_242 (by decide) ?_
  exact kk _ _ _ _ hrel hP hD hS
set_option maxHeartbeats 4000000 in
set_option maxRecDepth 100000 in
theorem lc_pointOf {p : Program} {l : Launch} {e : Env} {s : State} {m : MethodId} {below : List Frame} {meth : Method} {c : Code} {H : Heap} {locs : List Loc} {Q : State → Prop} {ls : Array Slot} {D : va_G} {cI cZ : ClassId} {bb qq b L i : Nat} {u v : Nat → Nat} {xs : Nat → Int32} {B : BS} {S : RS} (C : CallFix p m c cL_law 4 s #[Value.ref b] TB RL) (hX : va_X b L xs s s.heap) (hbl : b < s.heap.size) (hL : L ≤ 2560) (hi : i + 5 ≤ L) (hK : va_K D vwCl (tyz cI cZ) s) (h : Rel B S) (hP : va_P D vwCl (wLW cI cZ bb u qq v B S) H) (hD : va_D (AL s) (wLW cI cZ bb u qq v B S)) (hS : va_S (AL s) s.heap H locs) (hl : lv_has ls 4 (lsL b bb qq i))
    (kk : ∀ (B : BS) (S : RS) (H : Heap) (locs : List Loc), Rel B S → va_P D vwCl (wLW cI cZ bb u qq v B S) H → va_D (AL s) (wLW cI cZ bb u qq v B S) → va_S (AL s) s.heap H locs → W p l e room_1 s m #[Value.ref b] below meth c H locs 34 4908 Q (F0 m 864 ls [])) : W p l e room_1 s m #[Value.ref b] below meth c H locs 34 4908 Q (F0 m 247 ls []) := by
  have hbA : ¬ AL s b := Nat.not_le.mpr hbl
  obtain ⟨hko, heq, hrel⟩ := call_pointOf h (xs (i + 1)).toInt (xs (i + 2)).toInt
  obtain ⟨⟨X, Y, T, O, told, pres⟩, ⟨K, osz⟩, ⟨⟨Cd, sz, Th⟩, Af, Bf⟩, ⟨⟨Ce, se, Te⟩, Ae, Be⟩, Rq, fi, bg, sl, fd⟩ := B
  obtain ⟨⟨Px, Py, Mt, pn⟩, ⟨kn, fl, Hu, hn, A1, A2, A3, mn⟩, ⟨hd, sd, B1, B2, B3, hd2, fp⟩, ⟨Od, Ro, Ne, rn⟩, Mr⟩ := S
  refine lv_aload_n C.1 C.2.1 dL_law_247 rfl (lv_at hl 1 rfl) ?_
  refine jl_arg C hX hbl hbA hS hL hl 1 rfl (by omega) dL_law_248 dL_law_249 dL_law_250 dL_law_251 dL_law_252 ?_
  refine jl_arg C hX hbl hbA hS hL hl 2 rfl (by omega) dL_law_253 dL_law_254 dL_law_255 dL_law_256 dL_law_257 ?_
  refine jl_B (u := u) (v := v) (ni := 2) C [.int (J (xs (i + 1)).toInt), .int (J (xs (i + 2)).toInt)] [] (c_X3_pointOf h.1 (R3_to _) (R3_to _)) gv_L_28 (by decide +kernel) (by decide) hK hP hD hS rfl hl.1 (Nat.le_of_ble_eq_true rfl) dL_law_258 (by decide) (fun H locs hP hD hS => ?_) rfl
  refine lv_aload_n C.1 C.2.1 dL_law_261 rfl (lv_at hl 2 rfl) ?_
  refine jl_arg C hX hbl hbA hS hL hl 1 rfl (by omega) dL_law_262 dL_law_263 dL_law_264 dL_law_265 dL_law_266 ?_
  refine jl_arg C hX hbl hbA hS hL hl 2 rfl (by omega) dL_law_267 dL_law_268 dL_law_269 dL_law_270 dL_law_271 ?_
  refine jl_R (u := u) (v := v) (ni := 2) C [.int (J (xs (i + 1)).toInt), .int (J (xs (i + 2)).toInt)] [_] (c_X4_pointOf h.2.1 (R3_to _) (R3_to _) (hko := hko)) gv_L_31 (by decide +kernel) (by decide) hK hP hD hS rfl hl.1 (Nat.le_of_ble_eq_true rfl) dL_law_272 (by decide) (fun H locs hP hD hS => ?_) rfl
  refine jl_cmp (tgt := 864) C (congrArg J heq) dL_law_275 (by decide) ?_
  exact kk _ _ _ _ hrel hP hD hS
set_option maxHeartbeats 4000000 in
set_option maxRecDepth 100000 in
theorem lc_turn {p : Program} {l : Launch} {e : Env} {s : State} {m : MethodId} {below : List Frame} {meth : Method} {c : Code} {H : Heap} {locs : List Loc} {Q : State → Prop} {ls : Array Slot} {D : va_G} {cI cZ : ClassId} {bb qq b L i : Nat} {u v : Nat → Nat} {xs : Nat → Int32} {B : BS} {S : RS} (C : CallFix p m c cL_law 4 s #[Value.ref b] TB RL) (hX : va_X b L xs s s.heap) (hbl : b < s.heap.size) (hL : L ≤ 2560) (hi : i + 5 ≤ L) (hK : va_K D vwCl (tyz cI cZ) s) (h : Rel B S) (hP : va_P D vwCl (wLW cI cZ bb u qq v B S) H) (hD : va_D (AL s) (wLW cI cZ bb u qq v B S)) (hS : va_S (AL s) s.heap H locs) (hl : lv_has ls 4 (lsL b bb qq i))
    (kk : ∀ (B : BS) (S : RS) (H : Heap) (locs : List Loc), Rel B S → va_P D vwCl (wLW cI cZ bb u qq v B S) H → va_D (AL s) (wLW cI cZ bb u qq v B S) → va_S (AL s) s.heap H locs → W p l e room_1 s m #[Value.ref b] below meth c H locs 34 4908 Q (F0 m 864 ls [])) : W p l e room_1 s m #[Value.ref b] below meth c H locs 34 4908 Q (F0 m 280 ls []) := by
  have hbA : ¬ AL s b := Nat.not_le.mpr hbl
  obtain ⟨heq, hrel⟩ := call_turn h (xs (i + 1)).toInt (xs (i + 2)).toInt (xs (i + 3)).toInt
  obtain ⟨⟨X, Y, T, O, told, pres⟩, ⟨K, osz⟩, ⟨⟨Cd, sz, Th⟩, Af, Bf⟩, ⟨⟨Ce, se, Te⟩, Ae, Be⟩, Rq, fi, bg, sl, fd⟩ := B
  obtain ⟨⟨Px, Py, Mt, pn⟩, ⟨kn, fl, Hu, hn, A1, A2, A3, mn⟩, ⟨hd, sd, B1, B2, B3, hd2, fp⟩, ⟨Od, Ro, Ne, rn⟩, Mr⟩ := S
  refine lv_aload_n C.1 C.2.1 dL_law_280 rfl (lv_at hl 1 rfl) ?_
  refine jl_arg C hX hbl hbA hS hL hl 1 rfl (by omega) dL_law_281 dL_law_282 dL_law_283 dL_law_284 dL_law_285 ?_
  refine jl_arg C hX hbl hbA hS hL hl 2 rfl (by omega) dL_law_286 dL_law_287 dL_law_288 dL_law_289 dL_law_290 ?_
  refine jl_arg C hX hbl hbA hS hL hl 3 rfl (by omega) dL_law_291 dL_law_292 dL_law_293 dL_law_294 dL_law_295 ?_
  refine jl_B (u := u) (v := v) (ni := 3) C [.int (J (xs (i + 1)).toInt), .int (J (xs (i + 2)).toInt), .int (J (xs (i + 3)).toInt)] [] (c_X3_turn h.1 (R3_to _) (R3_to _) (R3_to _)) gv_L_32 (by decide +kernel) (by decide) hK hP hD hS rfl hl.1 (Nat.le_of_ble_eq_true rfl) dL_law_296 (by decide) (fun H locs hP hD hS => ?_) rfl
  refine lv_aload_n C.1 C.2.1 dL_law_299 rfl (lv_at hl 2 rfl) ?_
  refine jl_arg C hX hbl hbA hS hL hl 1 rfl (by omega) dL_law_300 dL_law_301 dL_law_302 dL_law_303 dL_law_304 ?_
  refine jl_arg C hX hbl hbA hS hL hl 2 rfl (by omega) dL_law_305 dL_law_306 dL_law_307 dL_law_308 dL_law_309 ?_
  refine jl_arg C hX hbl hbA hS hL hl 3 rfl (by omega) dL_law_310 dL_law_311 dL_law_312 dL_law_313 dL_law_314 ?_
  refine jl_R (u := u) (v := v) (ni := 3) C [.int (J (xs (i + 1)).toInt), .int (J (xs (i + 2)).toInt), .int (J (xs (i + 3)).toInt)] [_] (c_X4_turn h.2.1 (R3_to _) (R3_to _) (R3_to _)) gv_L_35 (by decide +kernel) (by decide) hK hP hD hS rfl hl.1 (Nat.le_of_ble_eq_true rfl) dL_law_315 (by decide) (fun H locs hP hD hS => ?_) rfl
  refine jl_cmp (tgt := 864) C (congrArg J heq) dL_law_318 (by decide) ?_
  exact kk _ _ _ _ hrel hP hD hS
set_option maxHeartbeats 4000000 in
set_option maxRecDepth 100000 in
theorem lc_round {p : Program} {l : Launch} {e : Env} {s : State} {m : MethodId} {below : List Frame} {meth : Method} {c : Code} {H : Heap} {locs : List Loc} {Q : State → Prop} {ls : Array Slot} {D : va_G} {cI cZ : ClassId} {bb qq b L i : Nat} {u v : Nat → Nat} {xs : Nat → Int32} {B : BS} {S : RS} (C : CallFix p m c cL_law 4 s #[Value.ref b] TB RL) (hX : va_X b L xs s s.heap) (hbl : b < s.heap.size) (hL : L ≤ 2560) (hi : i + 5 ≤ L) (hK : va_K D vwCl (tyz cI cZ) s) (h : Rel B S) (hP : va_P D vwCl (wLW cI cZ bb u qq v B S) H) (hD : va_D (AL s) (wLW cI cZ bb u qq v B S)) (hS : va_S (AL s) s.heap H locs) (hl : lv_has ls 4 (lsL b bb qq i))
    (kk : ∀ (B : BS) (S : RS) (H : Heap) (locs : List Loc), Rel B S → va_P D vwCl (wLW cI cZ bb u qq v B S) H → va_D (AL s) (wLW cI cZ bb u qq v B S) → va_S (AL s) s.heap H locs → W p l e room_1 s m #[Value.ref b] below meth c H locs 34 4908 Q (F0 m 864 ls [])) : W p l e room_1 s m #[Value.ref b] below meth c H locs 34 4908 Q (F0 m 323 ls []) := by
  have hbA : ¬ AL s b := Nat.not_le.mpr hbl
  obtain ⟨heq, hrel⟩ := call_round h (xs (i + 1)).toInt (xs (i + 2)).toInt (xs (i + 3)).toInt (xs (i + 4)).toInt
  obtain ⟨⟨X, Y, T, O, told, pres⟩, ⟨K, osz⟩, ⟨⟨Cd, sz, Th⟩, Af, Bf⟩, ⟨⟨Ce, se, Te⟩, Ae, Be⟩, Rq, fi, bg, sl, fd⟩ := B
  obtain ⟨⟨Px, Py, Mt, pn⟩, ⟨kn, fl, Hu, hn, A1, A2, A3, mn⟩, ⟨hd, sd, B1, B2, B3, hd2, fp⟩, ⟨Od, Ro, Ne, rn⟩, Mr⟩ := S
  refine lv_aload_n C.1 C.2.1 dL_law_323 rfl (lv_at hl 1 rfl) ?_
  refine jl_arg C hX hbl hbA hS hL hl 1 rfl (by omega) dL_law_324 dL_law_325 dL_law_326 dL_law_327 dL_law_328 ?_
  refine jl_arg C hX hbl hbA hS hL hl 2 rfl (by omega) dL_law_329 dL_law_330 dL_law_331 dL_law_332 dL_law_333 ?_
  refine jl_arg C hX hbl hbA hS hL hl 3 rfl (by omega) dL_law_334 dL_law_335 dL_law_336 dL_law_337 dL_law_338 ?_
  refine jl_arg C hX hbl hbA hS hL hl 4 rfl (by omega) dL_law_339 dL_law_340 dL_law_341 dL_law_342 dL_law_343 ?_
  refine jl_B (u := u) (v := v) (ni := 4) C [.int (J (xs (i + 1)).toInt), .int (J (xs (i + 2)).toInt), .int (J (xs (i + 3)).toInt), .int (J (xs (i + 4)).toInt)] [] (c_X3_round h.1 (R3_to _) (R3_to _) (R3_to _) (R3_to _)) gv_L_36 (by decide +kernel) (by decide) hK hP hD hS rfl hl.1 (Nat.le_of_ble_eq_true rfl) dL_law_344 (by decide) (fun H locs hP hD hS => ?_) rfl
  refine lv_aload_n C.1 C.2.1 dL_law_347 rfl (lv_at hl 2 rfl) ?_
  refine jl_arg C hX hbl hbA hS hL hl 1 rfl (by omega) dL_law_348 dL_law_349 dL_law_350 dL_law_351 dL_law_352 ?_
  refine jl_arg C hX hbl hbA hS hL hl 2 rfl (by omega) dL_law_353 dL_law_354 dL_law_355 dL_law_356 dL_law_357 ?_
  refine jl_arg C hX hbl hbA hS hL hl 3 rfl (by omega) dL_law_358 dL_law_359 dL_law_360 dL_law_361 dL_law_362 ?_
  refine jl_arg C hX hbl hbA hS hL hl 4 rfl (by omega) dL_law_363 dL_law_364 dL_law_365 dL_law_366 dL_law_367 ?_
  refine jl_R (u := u) (v := v) (ni := 4) C [.int (J (xs (i + 1)).toInt), .int (J (xs (i + 2)).toInt), .int (J (xs (i + 3)).toInt), .int (J (xs (i + 4)).toInt)] [_] (c_X4_round h.2.1 (R3_to _) (R3_to _) (R3_to _) (R3_to _)) gv_L_40 (by decide +kernel) (by decide) hK hP hD hS rfl hl.1 (Nat.le_of_ble_eq_true rfl) dL_law_368 (by decide) (fun H locs hP hD hS => ?_) rfl
  refine jl_cmp (tgt := 864) C (congrArg J heq) dL_law_371 (by decide) ?_
  exact kk _ _ _ _ hrel hP hD hS
set_option maxHeartbeats 4000000 in
set_option maxRecDepth 100000 in
theorem lc_hull {p : Program} {l : Launch} {e : Env} {s : State} {m : MethodId} {below : List Frame} {meth : Method} {c : Code} {H : Heap} {locs : List Loc} {Q : State → Prop} {ls : Array Slot} {D : va_G} {cI cZ : ClassId} {bb qq b L i : Nat} {u v : Nat → Nat} {xs : Nat → Int32} {B : BS} {S : RS} (C : CallFix p m c cL_law 4 s #[Value.ref b] TB RL) (hX : va_X b L xs s s.heap) (hbl : b < s.heap.size) (hL : L ≤ 2560) (hi : i + 5 ≤ L) (hK : va_K D vwCl (tyz cI cZ) s) (h : Rel B S) (hP : va_P D vwCl (wLW cI cZ bb u qq v B S) H) (hD : va_D (AL s) (wLW cI cZ bb u qq v B S)) (hS : va_S (AL s) s.heap H locs) (hl : lv_has ls 4 (lsL b bb qq i))
    (kk : ∀ (B : BS) (S : RS) (H : Heap) (locs : List Loc), Rel B S → va_P D vwCl (wLW cI cZ bb u qq v B S) H → va_D (AL s) (wLW cI cZ bb u qq v B S) → va_S (AL s) s.heap H locs → W p l e room_1 s m #[Value.ref b] below meth c H locs 34 4908 Q (F0 m 864 ls [])) : W p l e room_1 s m #[Value.ref b] below meth c H locs 34 4908 Q (F0 m 376 ls []) := by
  have hbA : ¬ AL s b := Nat.not_le.mpr hbl
  obtain ⟨hko, heq, hrel⟩ := call_hull h 
  obtain ⟨⟨X, Y, T, O, told, pres⟩, ⟨K, osz⟩, ⟨⟨Cd, sz, Th⟩, Af, Bf⟩, ⟨⟨Ce, se, Te⟩, Ae, Be⟩, Rq, fi, bg, sl, fd⟩ := B
  obtain ⟨⟨Px, Py, Mt, pn⟩, ⟨kn, fl, Hu, hn, A1, A2, A3, mn⟩, ⟨hd, sd, B1, B2, B3, hd2, fp⟩, ⟨Od, Ro, Ne, rn⟩, Mr⟩ := S
  refine lv_aload_n C.1 C.2.1 dL_law_376 rfl (lv_at hl 1 rfl) ?_
  refine jl_B (u := u) (v := v) (ni := 0) C [] [] (c_X3_hull h.1 ) gv_L_41 (by decide +kernel) (by decide) hK hP hD hS rfl hl.1 (Nat.le_of_ble_eq_true rfl) dL_law_377 (by decide) (fun H locs hP hD hS => ?_) rfl
  refine lv_aload_n C.1 C.2.1 dL_law_380 rfl (lv_at hl 2 rfl) ?_
  refine jl_R (u := u) (v := v) (ni := 0) C [] [_] (c_X4_hull h.2.1  (hko := hko)) gv_L_45 (by decide +kernel) (by decide) hK hP hD hS rfl hl.1 (Nat.le_of_ble_eq_true rfl) dL_law_381 (by decide) (fun H locs hP hD hS => ?_) rfl
  refine jl_cmp (tgt := 864) C (congrArg J heq) dL_law_384 (by decide) ?_
  exact kk _ _ _ _ hrel hP hD hS
set_option maxHeartbeats 4000000 in
set_option maxRecDepth 100000 in
theorem lc_corner {p : Program} {l : Launch} {e : Env} {s : State} {m : MethodId} {below : List Frame} {meth : Method} {c : Code} {H : Heap} {locs : List Loc} {Q : State → Prop} {ls : Array Slot} {D : va_G} {cI cZ : ClassId} {bb qq b L i : Nat} {u v : Nat → Nat} {xs : Nat → Int32} {B : BS} {S : RS} (C : CallFix p m c cL_law 4 s #[Value.ref b] TB RL) (hX : va_X b L xs s s.heap) (hbl : b < s.heap.size) (hL : L ≤ 2560) (hi : i + 5 ≤ L) (hK : va_K D vwCl (tyz cI cZ) s) (h : Rel B S) (hP : va_P D vwCl (wLW cI cZ bb u qq v B S) H) (hD : va_D (AL s) (wLW cI cZ bb u qq v B S)) (hS : va_S (AL s) s.heap H locs) (hl : lv_has ls 4 (lsL b bb qq i))
    (kk : ∀ (B : BS) (S : RS) (H : Heap) (locs : List Loc), Rel B S → va_P D vwCl (wLW cI cZ bb u qq v B S) H → va_D (AL s) (wLW cI cZ bb u qq v B S) → va_S (AL s) s.heap H locs → W p l e room_1 s m #[Value.ref b] below meth c H locs 34 4908 Q (F0 m 864 ls [])) : W p l e room_1 s m #[Value.ref b] below meth c H locs 34 4908 Q (F0 m 389 ls []) := by
  have hbA : ¬ AL s b := Nat.not_le.mpr hbl
  obtain ⟨hko, heq, hrel⟩ := call_corner h (xs (i + 1)).toInt
  obtain ⟨⟨X, Y, T, O, told, pres⟩, ⟨K, osz⟩, ⟨⟨Cd, sz, Th⟩, Af, Bf⟩, ⟨⟨Ce, se, Te⟩, Ae, Be⟩, Rq, fi, bg, sl, fd⟩ := B
  obtain ⟨⟨Px, Py, Mt, pn⟩, ⟨kn, fl, Hu, hn, A1, A2, A3, mn⟩, ⟨hd, sd, B1, B2, B3, hd2, fp⟩, ⟨Od, Ro, Ne, rn⟩, Mr⟩ := S
  refine lv_aload_n C.1 C.2.1 dL_law_389 rfl (lv_at hl 1 rfl) ?_
  refine jl_arg C hX hbl hbA hS hL hl 1 rfl (by omega) dL_law_390 dL_law_391 dL_law_392 dL_law_393 dL_law_394 ?_
  refine jl_B (u := u) (v := v) (ni := 1) C [.int (J (xs (i + 1)).toInt)] [] (c_X3_corner h.1 (R3_to _)) gv_L_46 (by decide +kernel) (by decide) hK hP hD hS rfl hl.1 (Nat.le_of_ble_eq_true rfl) dL_law_395 (by decide) (fun H locs hP hD hS => ?_) rfl
  refine lv_aload_n C.1 C.2.1 dL_law_398 rfl (lv_at hl 2 rfl) ?_
  refine jl_arg C hX hbl hbA hS hL hl 1 rfl (by omega) dL_law_399 dL_law_400 dL_law_401 dL_law_402 dL_law_403 ?_
  refine jl_R (u := u) (v := v) (ni := 1) C [.int (J (xs (i + 1)).toInt)] [_] (c_X4_corner h.2.1 (R3_to _) (hko := hko)) gv_L_49 (by decide +kernel) (by decide) hK hP hD hS rfl hl.1 (Nat.le_of_ble_eq_true rfl) dL_law_404 (by decide) (fun H locs hP hD hS => ?_) rfl
  refine jl_cmp (tgt := 864) C (congrArg J heq) dL_law_407 (by decide) ?_
  exact kk _ _ _ _ hrel hP hD hS
set_option maxHeartbeats 4000000 in
set_option maxRecDepth 100000 in
theorem lc_area {p : Program} {l : Launch} {e : Env} {s : State} {m : MethodId} {below : List Frame} {meth : Method} {c : Code} {H : Heap} {locs : List Loc} {Q : State → Prop} {ls : Array Slot} {D : va_G} {cI cZ : ClassId} {bb qq b L i : Nat} {u v : Nat → Nat} {xs : Nat → Int32} {B : BS} {S : RS} (C : CallFix p m c cL_law 4 s #[Value.ref b] TB RL) (hX : va_X b L xs s s.heap) (hbl : b < s.heap.size) (hL : L ≤ 2560) (hi : i + 5 ≤ L) (hK : va_K D vwCl (tyz cI cZ) s) (h : Rel B S) (hP : va_P D vwCl (wLW cI cZ bb u qq v B S) H) (hD : va_D (AL s) (wLW cI cZ bb u qq v B S)) (hS : va_S (AL s) s.heap H locs) (hl : lv_has ls 4 (lsL b bb qq i))
    (kk : ∀ (B : BS) (S : RS) (H : Heap) (locs : List Loc), Rel B S → va_P D vwCl (wLW cI cZ bb u qq v B S) H → va_D (AL s) (wLW cI cZ bb u qq v B S) → va_S (AL s) s.heap H locs → W p l e room_1 s m #[Value.ref b] below meth c H locs 34 4908 Q (F0 m 864 ls [])) : W p l e room_1 s m #[Value.ref b] below meth c H locs 34 4908 Q (F0 m 412 ls []) := by
  have hbA : ¬ AL s b := Nat.not_le.mpr hbl
  obtain ⟨hko, heq, hrel⟩ := call_area h 
  obtain ⟨⟨X, Y, T, O, told, pres⟩, ⟨K, osz⟩, ⟨⟨Cd, sz, Th⟩, Af, Bf⟩, ⟨⟨Ce, se, Te⟩, Ae, Be⟩, Rq, fi, bg, sl, fd⟩ := B
  obtain ⟨⟨Px, Py, Mt, pn⟩, ⟨kn, fl, Hu, hn, A1, A2, A3, mn⟩, ⟨hd, sd, B1, B2, B3, hd2, fp⟩, ⟨Od, Ro, Ne, rn⟩, Mr⟩ := S
  refine lv_aload_n C.1 C.2.1 dL_law_412 rfl (lv_at hl 1 rfl) ?_
  refine jl_B (u := u) (v := v) (ni := 0) C [] [] (c_X3_area h.1 ) gv_L_50 (by decide +kernel) (by decide) hK hP hD hS rfl hl.1 (Nat.le_of_ble_eq_true rfl) dL_law_413 (by decide) (fun H locs hP hD hS => ?_) rfl
  refine lv_aload_n C.1 C.2.1 dL_law_416 rfl (lv_at hl 2 rfl) ?_
  refine jl_R (u := u) (v := v) (ni := 0) C [] [_] (c_X4_area h.2.1  (hko := hko)) gv_L_54 (by decide +kernel) (by decide) hK hP hD hS rfl hl.1 (Nat.le_of_ble_eq_true rfl) dL_law_417 (by decide) (fun H locs hP hD hS => ?_) rfl
  refine jl_lcmp (tgt := 864) C (congrArg Lg heq) dL_law_420 dL_law_421 (by decide) ?_
  exact kk _ _ _ _ hrel hP hD hS
set_option maxHeartbeats 4000000 in
set_option maxRecDepth 100000 in
theorem lc_triangles {p : Program} {l : Launch} {e : Env} {s : State} {m : MethodId} {below : List Frame} {meth : Method} {c : Code} {H : Heap} {locs : List Loc} {Q : State → Prop} {ls : Array Slot} {D : va_G} {cI cZ : ClassId} {bb qq b L i : Nat} {u v : Nat → Nat} {xs : Nat → Int32} {B : BS} {S : RS} (C : CallFix p m c cL_law 4 s #[Value.ref b] TB RL) (hX : va_X b L xs s s.heap) (hbl : b < s.heap.size) (hL : L ≤ 2560) (hi : i + 5 ≤ L) (hK : va_K D vwCl (tyz cI cZ) s) (h : Rel B S) (hP : va_P D vwCl (wLW cI cZ bb u qq v B S) H) (hD : va_D (AL s) (wLW cI cZ bb u qq v B S)) (hS : va_S (AL s) s.heap H locs) (hl : lv_has ls 4 (lsL b bb qq i))
    (kk : ∀ (B : BS) (S : RS) (H : Heap) (locs : List Loc), Rel B S → va_P D vwCl (wLW cI cZ bb u qq v B S) H → va_D (AL s) (wLW cI cZ bb u qq v B S) → va_S (AL s) s.heap H locs → W p l e room_1 s m #[Value.ref b] below meth c H locs 34 4908 Q (F0 m 864 ls [])) : W p l e room_1 s m #[Value.ref b] below meth c H locs 34 4908 Q (F0 m 426 ls []) := by
  have hbA : ¬ AL s b := Nat.not_le.mpr hbl
  obtain ⟨hko, heq, hrel⟩ := call_triangles h 
  obtain ⟨⟨X, Y, T, O, told, pres⟩, ⟨K, osz⟩, ⟨⟨Cd, sz, Th⟩, Af, Bf⟩, ⟨⟨Ce, se, Te⟩, Ae, Be⟩, Rq, fi, bg, sl, fd⟩ := B
  obtain ⟨⟨Px, Py, Mt, pn⟩, ⟨kn, fl, Hu, hn, A1, A2, A3, mn⟩, ⟨hd, sd, B1, B2, B3, hd2, fp⟩, ⟨Od, Ro, Ne, rn⟩, Mr⟩ := S
  refine lv_aload_n C.1 C.2.1 dL_law_426 rfl (lv_at hl 1 rfl) ?_
  refine jl_B (u := u) (v := v) (ni := 0) C [] [] (c_X3_triangles h.1 ) gv_L_55 (by decide +kernel) (by decide) hK hP hD hS rfl hl.1 (Nat.le_of_ble_eq_true rfl) dL_law_427 (by decide) (fun H locs hP hD hS => ?_) rfl
  refine lv_aload_n C.1 C.2.1 dL_law_430 rfl (lv_at hl 2 rfl) ?_
  refine jl_R (u := u) (v := v) (ni := 0) C [] [_] (c_X4_triangles h.2.1  (hko := hko)) gv_L_58 (by decide +kernel) (by decide) hK hP hD hS rfl hl.1 (Nat.le_of_ble_eq_true rfl) dL_law_431 (by decide) (fun H locs hP hD hS => ?_) rfl
  refine jl_cmp (tgt := 864) C (congrArg J heq) dL_law_434 (by decide) ?_
  exact kk _ _ _ _ hrel hP hD hS
set_option maxHeartbeats 4000000 in
set_option maxRecDepth 100000 in
theorem lc_triangle {p : Program} {l : Launch} {e : Env} {s : State} {m : MethodId} {below : List Frame} {meth : Method} {c : Code} {H : Heap} {locs : List Loc} {Q : State → Prop} {ls : Array Slot} {D : va_G} {cI cZ : ClassId} {bb qq b L i : Nat} {u v : Nat → Nat} {xs : Nat → Int32} {B : BS} {S : RS} (C : CallFix p m c cL_law 4 s #[Value.ref b] TB RL) (hX : va_X b L xs s s.heap) (hbl : b < s.heap.size) (hL : L ≤ 2560) (hi : i + 5 ≤ L) (hK : va_K D vwCl (tyz cI cZ) s) (h : Rel B S) (hP : va_P D vwCl (wLW cI cZ bb u qq v B S) H) (hD : va_D (AL s) (wLW cI cZ bb u qq v B S)) (hS : va_S (AL s) s.heap H locs) (hl : lv_has ls 4 (lsL b bb qq i))
    (kk : ∀ (B : BS) (S : RS) (H : Heap) (locs : List Loc), Rel B S → va_P D vwCl (wLW cI cZ bb u qq v B S) H → va_D (AL s) (wLW cI cZ bb u qq v B S) → va_S (AL s) s.heap H locs → W p l e room_1 s m #[Value.ref b] below meth c H locs 34 4908 Q (F0 m 864 ls [])) : W p l e room_1 s m #[Value.ref b] below meth c H locs 34 4908 Q (F0 m 439 ls []) := by
  have hbA : ¬ AL s b := Nat.not_le.mpr hbl
  obtain ⟨hko, heq, hrel⟩ := call_triangle h (xs (i + 1)).toInt (xs (i + 2)).toInt
  obtain ⟨⟨X, Y, T, O, told, pres⟩, ⟨K, osz⟩, ⟨⟨Cd, sz, Th⟩, Af, Bf⟩, ⟨⟨Ce, se, Te⟩, Ae, Be⟩, Rq, fi, bg, sl, fd⟩ := B
  obtain ⟨⟨Px, Py, Mt, pn⟩, ⟨kn, fl, Hu, hn, A1, A2, A3, mn⟩, ⟨hd, sd, B1, B2, B3, hd2, fp⟩, ⟨Od, Ro, Ne, rn⟩, Mr⟩ := S
  refine lv_aload_n C.1 C.2.1 dL_law_439 rfl (lv_at hl 1 rfl) ?_
  refine jl_arg C hX hbl hbA hS hL hl 1 rfl (by omega) dL_law_440 dL_law_441 dL_law_442 dL_law_443 dL_law_444 ?_
  refine jl_arg C hX hbl hbA hS hL hl 2 rfl (by omega) dL_law_445 dL_law_446 dL_law_447 dL_law_448 dL_law_449 ?_
  refine jl_B (u := u) (v := v) (ni := 2) C [.int (J (xs (i + 1)).toInt), .int (J (xs (i + 2)).toInt)] [] (c_X3_triangle h.1 (R3_to _) (R3_to _)) gv_L_59 (by decide +kernel) (by decide) hK hP hD hS rfl hl.1 (Nat.le_of_ble_eq_true rfl) dL_law_450 (by decide) (fun H locs hP hD hS => ?_) rfl
  refine lv_aload_n C.1 C.2.1 dL_law_453 rfl (lv_at hl 2 rfl) ?_
  refine jl_arg C hX hbl hbA hS hL hl 1 rfl (by omega) dL_law_454 dL_law_455 dL_law_456 dL_law_457 dL_law_458 ?_
  refine jl_arg C hX hbl hbA hS hL hl 2 rfl (by omega) dL_law_459 dL_law_460 dL_law_461 dL_law_462 dL_law_463 ?_
  refine jl_R (u := u) (v := v) (ni := 2) C [.int (J (xs (i + 1)).toInt), .int (J (xs (i + 2)).toInt)] [_] (c_X4_triangle h.2.1 (R3_to _) (R3_to _) (hko := hko)) gv_L_62 (by decide +kernel) (by decide) hK hP hD hS rfl hl.1 (Nat.le_of_ble_eq_true rfl) dL_law_464 (by decide) (fun H locs hP hD hS => ?_) rfl
  refine jl_cmp (tgt := 864) C (congrArg J heq) dL_law_467 (by decide) ?_
  exact kk _ _ _ _ hrel hP hD hS
set_option maxHeartbeats 4000000 in
set_option maxRecDepth 100000 in
theorem lc_ring {p : Program} {l : Launch} {e : Env} {s : State} {m : MethodId} {below : List Frame} {meth : Method} {c : Code} {H : Heap} {locs : List Loc} {Q : State → Prop} {ls : Array Slot} {D : va_G} {cI cZ : ClassId} {bb qq b L i : Nat} {u v : Nat → Nat} {xs : Nat → Int32} {B : BS} {S : RS} (C : CallFix p m c cL_law 4 s #[Value.ref b] TB RL) (hX : va_X b L xs s s.heap) (hbl : b < s.heap.size) (hL : L ≤ 2560) (hi : i + 5 ≤ L) (hK : va_K D vwCl (tyz cI cZ) s) (h : Rel B S) (hP : va_P D vwCl (wLW cI cZ bb u qq v B S) H) (hD : va_D (AL s) (wLW cI cZ bb u qq v B S)) (hS : va_S (AL s) s.heap H locs) (hl : lv_has ls 4 (lsL b bb qq i))
    (kk : ∀ (B : BS) (S : RS) (H : Heap) (locs : List Loc), Rel B S → va_P D vwCl (wLW cI cZ bb u qq v B S) H → va_D (AL s) (wLW cI cZ bb u qq v B S) → va_S (AL s) s.heap H locs → W p l e room_1 s m #[Value.ref b] below meth c H locs 34 4908 Q (F0 m 864 ls [])) : W p l e room_1 s m #[Value.ref b] below meth c H locs 34 4908 Q (F0 m 472 ls []) := by
  have hbA : ¬ AL s b := Nat.not_le.mpr hbl
  obtain ⟨hko, heq, hrel⟩ := call_ring h (xs (i + 1)).toInt
  obtain ⟨⟨X, Y, T, O, told, pres⟩, ⟨K, osz⟩, ⟨⟨Cd, sz, Th⟩, Af, Bf⟩, ⟨⟨Ce, se, Te⟩, Ae, Be⟩, Rq, fi, bg, sl, fd⟩ := B
  obtain ⟨⟨Px, Py, Mt, pn⟩, ⟨kn, fl, Hu, hn, A1, A2, A3, mn⟩, ⟨hd, sd, B1, B2, B3, hd2, fp⟩, ⟨Od, Ro, Ne, rn⟩, Mr⟩ := S
  refine lv_aload_n C.1 C.2.1 dL_law_472 rfl (lv_at hl 1 rfl) ?_
  refine jl_arg C hX hbl hbA hS hL hl 1 rfl (by omega) dL_law_473 dL_law_474 dL_law_475 dL_law_476 dL_law_477 ?_
  refine jl_B (u := u) (v := v) (ni := 1) C [.int (J (xs (i + 1)).toInt)] [] (c_X3_ring h.1 (R3_to _)) gv_L_63 (by decide +kernel) (by decide) hK hP hD hS rfl hl.1 (Nat.le_of_ble_eq_true rfl) dL_law_478 (by decide) (fun H locs hP hD hS => ?_) rfl
  refine lv_aload_n C.1 C.2.1 dL_law_481 rfl (lv_at hl 2 rfl) ?_
  refine jl_arg C hX hbl hbA hS hL hl 1 rfl (by omega) dL_law_482 dL_law_483 dL_law_484 dL_law_485 dL_law_486 ?_
  refine jl_R (u := u) (v := v) (ni := 1) C [.int (J (xs (i + 1)).toInt)] [_] (c_X4_ring h.2.1 (R3_to _) (hko := hko)) gv_L_66 (by decide +kernel) (by decide) hK hP hD hS rfl hl.1 (Nat.le_of_ble_eq_true rfl) dL_law_487 (by decide) (fun H locs hP hD hS => ?_) rfl
  refine jl_cmp (tgt := 864) C (congrArg J heq) dL_law_490 (by decide) ?_
  exact kk _ _ _ _ hrel hP hD hS
set_option maxHeartbeats 4000000 in
set_option maxRecDepth 100000 in
theorem lc_edge {p : Program} {l : Launch} {e : Env} {s : State} {m : MethodId} {below : List Frame} {meth : Method} {c : Code} {H : Heap} {locs : List Loc} {Q : State → Prop} {ls : Array Slot} {D : va_G} {cI cZ : ClassId} {bb qq b L i : Nat} {u v : Nat → Nat} {xs : Nat → Int32} {B : BS} {S : RS} (C : CallFix p m c cL_law 4 s #[Value.ref b] TB RL) (hX : va_X b L xs s s.heap) (hbl : b < s.heap.size) (hL : L ≤ 2560) (hi : i + 5 ≤ L) (hK : va_K D vwCl (tyz cI cZ) s) (h : Rel B S) (hP : va_P D vwCl (wLW cI cZ bb u qq v B S) H) (hD : va_D (AL s) (wLW cI cZ bb u qq v B S)) (hS : va_S (AL s) s.heap H locs) (hl : lv_has ls 4 (lsL b bb qq i))
    (kk : ∀ (B : BS) (S : RS) (H : Heap) (locs : List Loc), Rel B S → va_P D vwCl (wLW cI cZ bb u qq v B S) H → va_D (AL s) (wLW cI cZ bb u qq v B S) → va_S (AL s) s.heap H locs → W p l e room_1 s m #[Value.ref b] below meth c H locs 34 4908 Q (F0 m 864 ls [])) : W p l e room_1 s m #[Value.ref b] below meth c H locs 34 4908 Q (F0 m 495 ls []) := by
  have hbA : ¬ AL s b := Nat.not_le.mpr hbl
  obtain ⟨hko, heq, hrel⟩ := call_edge h (xs (i + 1)).toInt (xs (i + 2)).toInt
  obtain ⟨⟨X, Y, T, O, told, pres⟩, ⟨K, osz⟩, ⟨⟨Cd, sz, Th⟩, Af, Bf⟩, ⟨⟨Ce, se, Te⟩, Ae, Be⟩, Rq, fi, bg, sl, fd⟩ := B
  obtain ⟨⟨Px, Py, Mt, pn⟩, ⟨kn, fl, Hu, hn, A1, A2, A3, mn⟩, ⟨hd, sd, B1, B2, B3, hd2, fp⟩, ⟨Od, Ro, Ne, rn⟩, Mr⟩ := S
  refine lv_aload_n C.1 C.2.1 dL_law_495 rfl (lv_at hl 1 rfl) ?_
  refine jl_arg C hX hbl hbA hS hL hl 1 rfl (by omega) dL_law_496 dL_law_497 dL_law_498 dL_law_499 dL_law_500 ?_
  refine jl_arg C hX hbl hbA hS hL hl 2 rfl (by omega) dL_law_501 dL_law_502 dL_law_503 dL_law_504 dL_law_505 ?_
  refine jl_B (u := u) (v := v) (ni := 2) C [.int (J (xs (i + 1)).toInt), .int (J (xs (i + 2)).toInt)] [] (c_X3_edge h.1 (R3_to _) (R3_to _)) gv_L_67 (by decide +kernel) (by decide) hK hP hD hS rfl hl.1 (Nat.le_of_ble_eq_true rfl) dL_law_506 (by decide) (fun H locs hP hD hS => ?_) rfl
  refine lv_aload_n C.1 C.2.1 dL_law_509 rfl (lv_at hl 2 rfl) ?_
  refine jl_arg C hX hbl hbA hS hL hl 1 rfl (by omega) dL_law_510 dL_law_511 dL_law_512 dL_law_513 dL_law_514 ?_
  refine jl_arg C hX hbl hbA hS hL hl 2 rfl (by omega) dL_law_515 dL_law_516 dL_law_517 dL_law_518 dL_law_519 ?_
  refine jl_R (u := u) (v := v) (ni := 2) C [.int (J (xs (i + 1)).toInt), .int (J (xs (i + 2)).toInt)] [_] (c_X4_edge h.2.1 (R3_to _) (R3_to _) (hko := hko)) gv_L_70 (by decide +kernel) (by decide) hK hP hD hS rfl hl.1 (Nat.le_of_ble_eq_true rfl) dL_law_520 (by decide) (fun H locs hP hD hS => ?_) rfl
  refine jl_cmp (tgt := 864) C (congrArg J heq) dL_law_523 (by decide) ?_
  exact kk _ _ _ _ hrel hP hD hS
set_option maxHeartbeats 4000000 in
set_option maxRecDepth 100000 in
theorem lc_where {p : Program} {l : Launch} {e : Env} {s : State} {m : MethodId} {below : List Frame} {meth : Method} {c : Code} {H : Heap} {locs : List Loc} {Q : State → Prop} {ls : Array Slot} {D : va_G} {cI cZ : ClassId} {bb qq b L i : Nat} {u v : Nat → Nat} {xs : Nat → Int32} {B : BS} {S : RS} (C : CallFix p m c cL_law 4 s #[Value.ref b] TB RL) (hX : va_X b L xs s s.heap) (hbl : b < s.heap.size) (hL : L ≤ 2560) (hi : i + 5 ≤ L) (hK : va_K D vwCl (tyz cI cZ) s) (h : Rel B S) (hP : va_P D vwCl (wLW cI cZ bb u qq v B S) H) (hD : va_D (AL s) (wLW cI cZ bb u qq v B S)) (hS : va_S (AL s) s.heap H locs) (hl : lv_has ls 4 (lsL b bb qq i))
    (kk : ∀ (B : BS) (S : RS) (H : Heap) (locs : List Loc), Rel B S → va_P D vwCl (wLW cI cZ bb u qq v B S) H → va_D (AL s) (wLW cI cZ bb u qq v B S) → va_S (AL s) s.heap H locs → W p l e room_1 s m #[Value.ref b] below meth c H locs 34 4908 Q (F0 m 864 ls [])) : W p l e room_1 s m #[Value.ref b] below meth c H locs 34 4908 Q (F0 m 528 ls []) := by
  have hbA : ¬ AL s b := Nat.not_le.mpr hbl
  obtain ⟨hko, heq, hrel⟩ := call_where h (xs (i + 1)).toInt (xs (i + 2)).toInt
  obtain ⟨⟨X, Y, T, O, told, pres⟩, ⟨K, osz⟩, ⟨⟨Cd, sz, Th⟩, Af, Bf⟩, ⟨⟨Ce, se, Te⟩, Ae, Be⟩, Rq, fi, bg, sl, fd⟩ := B
  obtain ⟨⟨Px, Py, Mt, pn⟩, ⟨kn, fl, Hu, hn, A1, A2, A3, mn⟩, ⟨hd, sd, B1, B2, B3, hd2, fp⟩, ⟨Od, Ro, Ne, rn⟩, Mr⟩ := S
  refine lv_aload_n C.1 C.2.1 dL_law_528 rfl (lv_at hl 1 rfl) ?_
  refine jl_arg C hX hbl hbA hS hL hl 1 rfl (by omega) dL_law_529 dL_law_530 dL_law_531 dL_law_532 dL_law_533 ?_
  refine jl_arg C hX hbl hbA hS hL hl 2 rfl (by omega) dL_law_534 dL_law_535 dL_law_536 dL_law_537 dL_law_538 ?_
  refine jl_B (u := u) (v := v) (ni := 2) C [.int (J (xs (i + 1)).toInt), .int (J (xs (i + 2)).toInt)] [] (c_X3_where h.1 (R3_to _) (R3_to _)) gv_L_71 (by decide +kernel) (by decide) hK hP hD hS rfl hl.1 (Nat.le_of_ble_eq_true rfl) dL_law_539 (by decide) (fun H locs hP hD hS => ?_) rfl
  refine lv_aload_n C.1 C.2.1 dL_law_542 rfl (lv_at hl 2 rfl) ?_
  refine jl_arg C hX hbl hbA hS hL hl 1 rfl (by omega) dL_law_543 dL_law_544 dL_law_545 dL_law_546 dL_law_547 ?_
  refine jl_arg C hX hbl hbA hS hL hl 2 rfl (by omega) dL_law_548 dL_law_549 dL_law_550 dL_law_551 dL_law_552 ?_
  refine jl_R (u := u) (v := v) (ni := 2) C [.int (J (xs (i + 1)).toInt), .int (J (xs (i + 2)).toInt)] [_] (c_X4_where h.2.1 (R3_to _) (R3_to _) (hko := hko)) gv_L_74 (by decide +kernel) (by decide) hK hP hD hS rfl hl.1 (Nat.le_of_ble_eq_true rfl) dL_law_553 (by decide) (fun H locs hP hD hS => ?_) rfl
  refine jl_cmp (tgt := 864) C (congrArg J heq) dL_law_556 (by decide) ?_
  exact kk _ _ _ _ hrel hP hD hS
set_option maxHeartbeats 4000000 in
set_option maxRecDepth 100000 in
theorem lc_nearest {p : Program} {l : Launch} {e : Env} {s : State} {m : MethodId} {below : List Frame} {meth : Method} {c : Code} {H : Heap} {locs : List Loc} {Q : State → Prop} {ls : Array Slot} {D : va_G} {cI cZ : ClassId} {bb qq b L i : Nat} {u v : Nat → Nat} {xs : Nat → Int32} {B : BS} {S : RS} (C : CallFix p m c cL_law 4 s #[Value.ref b] TB RL) (hX : va_X b L xs s s.heap) (hbl : b < s.heap.size) (hL : L ≤ 2560) (hi : i + 5 ≤ L) (hK : va_K D vwCl (tyz cI cZ) s) (h : Rel B S) (hP : va_P D vwCl (wLW cI cZ bb u qq v B S) H) (hD : va_D (AL s) (wLW cI cZ bb u qq v B S)) (hS : va_S (AL s) s.heap H locs) (hl : lv_has ls 4 (lsL b bb qq i))
    (kk : ∀ (B : BS) (S : RS) (H : Heap) (locs : List Loc), Rel B S → va_P D vwCl (wLW cI cZ bb u qq v B S) H → va_D (AL s) (wLW cI cZ bb u qq v B S) → va_S (AL s) s.heap H locs → W p l e room_1 s m #[Value.ref b] below meth c H locs 34 4908 Q (F0 m 864 ls [])) : W p l e room_1 s m #[Value.ref b] below meth c H locs 34 4908 Q (F0 m 561 ls []) := by
  have hbA : ¬ AL s b := Nat.not_le.mpr hbl
  obtain ⟨heq, hrel⟩ := call_nearest h (xs (i + 1)).toInt (xs (i + 2)).toInt
  obtain ⟨⟨X, Y, T, O, told, pres⟩, ⟨K, osz⟩, ⟨⟨Cd, sz, Th⟩, Af, Bf⟩, ⟨⟨Ce, se, Te⟩, Ae, Be⟩, Rq, fi, bg, sl, fd⟩ := B
  obtain ⟨⟨Px, Py, Mt, pn⟩, ⟨kn, fl, Hu, hn, A1, A2, A3, mn⟩, ⟨hd, sd, B1, B2, B3, hd2, fp⟩, ⟨Od, Ro, Ne, rn⟩, Mr⟩ := S
  refine lv_aload_n C.1 C.2.1 dL_law_561 rfl (lv_at hl 1 rfl) ?_
  refine jl_arg C hX hbl hbA hS hL hl 1 rfl (by omega) dL_law_562 dL_law_563 dL_law_564 dL_law_565 dL_law_566 ?_
  refine jl_arg C hX hbl hbA hS hL hl 2 rfl (by omega) dL_law_567 dL_law_568 dL_law_569 dL_law_570 dL_law_571 ?_
  refine jl_B (u := u) (v := v) (ni := 2) C [.int (J (xs (i + 1)).toInt), .int (J (xs (i + 2)).toInt)] [] (c_X3_nearest h.1 (R3_to _) (R3_to _)) gv_L_75 (by decide +kernel) (by decide) hK hP hD hS rfl hl.1 (Nat.le_of_ble_eq_true rfl) dL_law_572 (by decide) (fun H locs hP hD hS => ?_) rfl
  refine lv_aload_n C.1 C.2.1 dL_law_575 rfl (lv_at hl 2 rfl) ?_
  refine jl_arg C hX hbl hbA hS hL hl 1 rfl (by omega) dL_law_576 dL_law_577 dL_law_578 dL_law_579 dL_law_580 ?_
  refine jl_arg C hX hbl hbA hS hL hl 2 rfl (by omega) dL_law_581 dL_law_582 dL_law_583 dL_law_584 dL_law_585 ?_
  refine jl_R (u := u) (v := v) (ni := 2) C [.int (J (xs (i + 1)).toInt), .int (J (xs (i + 2)).toInt)] [_] (c_X4_nearest h.2.1 (R3_to _) (R3_to _)) gv_L_78 (by decide +kernel) (by decide) hK hP hD hS rfl hl.1 (Nat.le_of_ble_eq_true rfl) dL_law_586 (by decide) (fun H locs hP hD hS => ?_) rfl
  refine jl_cmp (tgt := 864) C (congrArg J heq) dL_law_589 (by decide) ?_
  exact kk _ _ _ _ hrel hP hD hS
set_option maxHeartbeats 4000000 in
set_option maxRecDepth 100000 in
theorem lc_cross {p : Program} {l : Launch} {e : Env} {s : State} {m : MethodId} {below : List Frame} {meth : Method} {c : Code} {H : Heap} {locs : List Loc} {Q : State → Prop} {ls : Array Slot} {D : va_G} {cI cZ : ClassId} {bb qq b L i : Nat} {u v : Nat → Nat} {xs : Nat → Int32} {B : BS} {S : RS} (C : CallFix p m c cL_law 4 s #[Value.ref b] TB RL) (hX : va_X b L xs s s.heap) (hbl : b < s.heap.size) (hL : L ≤ 2560) (hi : i + 5 ≤ L) (hK : va_K D vwCl (tyz cI cZ) s) (h : Rel B S) (hP : va_P D vwCl (wLW cI cZ bb u qq v B S) H) (hD : va_D (AL s) (wLW cI cZ bb u qq v B S)) (hS : va_S (AL s) s.heap H locs) (hl : lv_has ls 4 (lsL b bb qq i))
    (kk : ∀ (B : BS) (S : RS) (H : Heap) (locs : List Loc), Rel B S → va_P D vwCl (wLW cI cZ bb u qq v B S) H → va_D (AL s) (wLW cI cZ bb u qq v B S) → va_S (AL s) s.heap H locs → W p l e room_1 s m #[Value.ref b] below meth c H locs 34 4908 Q (F0 m 864 ls [])) : W p l e room_1 s m #[Value.ref b] below meth c H locs 34 4908 Q (F0 m 594 ls []) := by
  have hbA : ¬ AL s b := Nat.not_le.mpr hbl
  obtain ⟨heq, hrel⟩ := call_cross h (xs (i + 1)).toInt (xs (i + 2)).toInt (xs (i + 3)).toInt (xs (i + 4)).toInt
  obtain ⟨⟨X, Y, T, O, told, pres⟩, ⟨K, osz⟩, ⟨⟨Cd, sz, Th⟩, Af, Bf⟩, ⟨⟨Ce, se, Te⟩, Ae, Be⟩, Rq, fi, bg, sl, fd⟩ := B
  obtain ⟨⟨Px, Py, Mt, pn⟩, ⟨kn, fl, Hu, hn, A1, A2, A3, mn⟩, ⟨hd, sd, B1, B2, B3, hd2, fp⟩, ⟨Od, Ro, Ne, rn⟩, Mr⟩ := S
  refine lv_aload_n C.1 C.2.1 dL_law_594 rfl (lv_at hl 1 rfl) ?_
  refine jl_arg C hX hbl hbA hS hL hl 1 rfl (by omega) dL_law_595 dL_law_596 dL_law_597 dL_law_598 dL_law_599 ?_
  refine jl_arg C hX hbl hbA hS hL hl 2 rfl (by omega) dL_law_600 dL_law_601 dL_law_602 dL_law_603 dL_law_604 ?_
  refine jl_arg C hX hbl hbA hS hL hl 3 rfl (by omega) dL_law_605 dL_law_606 dL_law_607 dL_law_608 dL_law_609 ?_
  refine jl_arg C hX hbl hbA hS hL hl 4 rfl (by omega) dL_law_610 dL_law_611 dL_law_612 dL_law_613 dL_law_614 ?_
  refine jl_B (u := u) (v := v) (ni := 4) C [.int (J (xs (i + 1)).toInt), .int (J (xs (i + 2)).toInt), .int (J (xs (i + 3)).toInt), .int (J (xs (i + 4)).toInt)] [] (c_X3_cross h.1 (R3_to _) (R3_to _) (R3_to _) (R3_to _)) gv_L_79 (by decide +kernel) (by decide) hK hP hD hS rfl hl.1 (Nat.le_of_ble_eq_true rfl) dL_law_615 (by decide) (fun H locs hP hD hS => ?_) rfl
  refine lv_aload_n C.1 C.2.1 dL_law_618 rfl (lv_at hl 2 rfl) ?_
  refine jl_arg C hX hbl hbA hS hL hl 1 rfl (by omega) dL_law_619 dL_law_620 dL_law_621 dL_law_622 dL_law_623 ?_
  refine jl_arg C hX hbl hbA hS hL hl 2 rfl (by omega) dL_law_624 dL_law_625 dL_law_626 dL_law_627 dL_law_628 ?_
  refine jl_arg C hX hbl hbA hS hL hl 3 rfl (by omega) dL_law_629 dL_law_630 dL_law_631 dL_law_632 dL_law_633 ?_
  refine jl_arg C hX hbl hbA hS hL hl 4 rfl (by omega) dL_law_634 dL_law_635 dL_law_636 dL_law_637 dL_law_638 ?_
  refine jl_R (u := u) (v := v) (ni := 4) C [.int (J (xs (i + 1)).toInt), .int (J (xs (i + 2)).toInt), .int (J (xs (i + 3)).toInt), .int (J (xs (i + 4)).toInt)] [_] (c_X4_cross h.2.1 (R3_to _) (R3_to _) (R3_to _) (R3_to _)) gv_L_82 (by decide +kernel) (by decide) hK hP hD hS rfl hl.1 (Nat.le_of_ble_eq_true rfl) dL_law_639 (by decide) (fun H locs hP hD hS => ?_) rfl
  refine jl_cmp (tgt := 864) C (congrArg J heq) dL_law_642 (by decide) ?_
  exact kk _ _ _ _ hrel hP hD hS
set_option maxHeartbeats 4000000 in
set_option maxRecDepth 100000 in
theorem lc_around {p : Program} {l : Launch} {e : Env} {s : State} {m : MethodId} {below : List Frame} {meth : Method} {c : Code} {H : Heap} {locs : List Loc} {Q : State → Prop} {ls : Array Slot} {D : va_G} {cI cZ : ClassId} {bb qq b L i : Nat} {u v : Nat → Nat} {xs : Nat → Int32} {B : BS} {S : RS} (C : CallFix p m c cL_law 4 s #[Value.ref b] TB RL) (hX : va_X b L xs s s.heap) (hbl : b < s.heap.size) (hL : L ≤ 2560) (hi : i + 5 ≤ L) (hK : va_K D vwCl (tyz cI cZ) s) (h : Rel B S) (hP : va_P D vwCl (wLW cI cZ bb u qq v B S) H) (hD : va_D (AL s) (wLW cI cZ bb u qq v B S)) (hS : va_S (AL s) s.heap H locs) (hl : lv_has ls 4 (lsL b bb qq i))
    (kk : ∀ (B : BS) (S : RS) (H : Heap) (locs : List Loc), Rel B S → va_P D vwCl (wLW cI cZ bb u qq v B S) H → va_D (AL s) (wLW cI cZ bb u qq v B S) → va_S (AL s) s.heap H locs → W p l e room_1 s m #[Value.ref b] below meth c H locs 34 4908 Q (F0 m 864 ls [])) : W p l e room_1 s m #[Value.ref b] below meth c H locs 34 4908 Q (F0 m 647 ls []) := by
  have hbA : ¬ AL s b := Nat.not_le.mpr hbl
  obtain ⟨heq, hrel⟩ := call_around h (xs (i + 1)).toInt (xs (i + 2)).toInt
  obtain ⟨⟨X, Y, T, O, told, pres⟩, ⟨K, osz⟩, ⟨⟨Cd, sz, Th⟩, Af, Bf⟩, ⟨⟨Ce, se, Te⟩, Ae, Be⟩, Rq, fi, bg, sl, fd⟩ := B
  obtain ⟨⟨Px, Py, Mt, pn⟩, ⟨kn, fl, Hu, hn, A1, A2, A3, mn⟩, ⟨hd, sd, B1, B2, B3, hd2, fp⟩, ⟨Od, Ro, Ne, rn⟩, Mr⟩ := S
  refine lv_aload_n C.1 C.2.1 dL_law_647 rfl (lv_at hl 1 rfl) ?_
  refine jl_arg C hX hbl hbA hS hL hl 1 rfl (by omega) dL_law_648 dL_law_649 dL_law_650 dL_law_651 dL_law_652 ?_
  refine jl_arg C hX hbl hbA hS hL hl 2 rfl (by omega) dL_law_653 dL_law_654 dL_law_655 dL_law_656 dL_law_657 ?_
  refine jl_B (u := u) (v := v) (ni := 2) C [.int (J (xs (i + 1)).toInt), .int (J (xs (i + 2)).toInt)] [] (c_X3_around h.1 (R3_to _) (R3_to _)) gv_L_83 (by decide +kernel) (by decide) hK hP hD hS rfl hl.1 (Nat.le_of_ble_eq_true rfl) dL_law_658 (by decide) (fun H locs hP hD hS => ?_) rfl
  refine lv_aload_n C.1 C.2.1 dL_law_661 rfl (lv_at hl 2 rfl) ?_
  refine jl_arg C hX hbl hbA hS hL hl 1 rfl (by omega) dL_law_662 dL_law_663 dL_law_664 dL_law_665 dL_law_666 ?_
  refine jl_arg C hX hbl hbA hS hL hl 2 rfl (by omega) dL_law_667 dL_law_668 dL_law_669 dL_law_670 dL_law_671 ?_
  refine jl_R (u := u) (v := v) (ni := 2) C [.int (J (xs (i + 1)).toInt), .int (J (xs (i + 2)).toInt)] [_] (c_X4_around h.2.1 (R3_to _) (R3_to _)) gv_L_86 (by decide +kernel) (by decide) hK hP hD hS rfl hl.1 (Nat.le_of_ble_eq_true rfl) dL_law_672 (by decide) (fun H locs hP hD hS => ?_) rfl
  refine jl_cmp (tgt := 864) C (congrArg J heq) dL_law_675 (by decide) ?_
  exact kk _ _ _ _ hrel hP hD hS
set_option maxHeartbeats 4000000 in
set_option maxRecDepth 100000 in
theorem lc_begin {p : Program} {l : Launch} {e : Env} {s : State} {m : MethodId} {below : List Frame} {meth : Method} {c : Code} {H : Heap} {locs : List Loc} {Q : State → Prop} {ls : Array Slot} {D : va_G} {cI cZ : ClassId} {bb qq b L i : Nat} {u v : Nat → Nat} {xs : Nat → Int32} {B : BS} {S : RS} (C : CallFix p m c cL_law 4 s #[Value.ref b] TB RL) (hX : va_X b L xs s s.heap) (hbl : b < s.heap.size) (hL : L ≤ 2560) (hi : i + 5 ≤ L) (hK : va_K D vwCl (tyz cI cZ) s) (h : Rel B S) (hP : va_P D vwCl (wLW cI cZ bb u qq v B S) H) (hD : va_D (AL s) (wLW cI cZ bb u qq v B S)) (hS : va_S (AL s) s.heap H locs) (hl : lv_has ls 4 (lsL b bb qq i))
    (kk : ∀ (B : BS) (S : RS) (H : Heap) (locs : List Loc), Rel B S → va_P D vwCl (wLW cI cZ bb u qq v B S) H → va_D (AL s) (wLW cI cZ bb u qq v B S) → va_S (AL s) s.heap H locs → W p l e room_1 s m #[Value.ref b] below meth c H locs 34 4908 Q (F0 m 864 ls [])) : W p l e room_1 s m #[Value.ref b] below meth c H locs 34 4908 Q (F0 m 680 ls []) := by
  have hbA : ¬ AL s b := Nat.not_le.mpr hbl
  obtain ⟨hko, hbo, heq, hrel⟩ := call_begin h 
  obtain ⟨⟨X, Y, T, O, told, pres⟩, ⟨K, osz⟩, ⟨⟨Cd, sz, Th⟩, Af, Bf⟩, ⟨⟨Ce, se, Te⟩, Ae, Be⟩, Rq, fi, bg, sl, fd⟩ := B
  obtain ⟨⟨Px, Py, Mt, pn⟩, ⟨kn, fl, Hu, hn, A1, A2, A3, mn⟩, ⟨hd, sd, B1, B2, B3, hd2, fp⟩, ⟨Od, Ro, Ne, rn⟩, Mr⟩ := S
  refine lv_aload_n C.1 C.2.1 dL_law_680 rfl (lv_at hl 1 rfl) ?_
  refine jl_B (u := u) (v := v) (ni := 0) C [] [] (c_X3_begin h.1 ) gv_L_87 (by decide +kernel) (by decide) hK hP hD hS rfl hl.1 (Nat.le_of_ble_eq_true rfl) dL_law_681 (by decide) (fun H locs hP hD hS => ?_) rfl
  refine lv_aload_n C.1 C.2.1 dL_law_684 rfl (lv_at hl 2 rfl) ?_
  refine jl_R (u := u) (v := v) (ni := 0) C [] [_] (c_X4_begin h.2.1  (hko := hko) (hbo := hbo)) gv_L_90 (by decide +kernel) (by decide) hK hP hD hS rfl hl.1 (Nat.le_of_ble_eq_true rfl) dL_law_685 (by decide) (fun H locs hP hD hS => ?_) rfl
  refine jl_cmp (tgt := 864) C (congrArg J heq) dL_law_688 (by decide) ?_
  exact kk _ _ _ _ hrel hP hD hS
set_option maxHeartbeats 4000000 in
set_option maxRecDepth 100000 in
theorem lc_held {p : Program} {l : Launch} {e : Env} {s : State} {m : MethodId} {below : List Frame} {meth : Method} {c : Code} {H : Heap} {locs : List Loc} {Q : State → Prop} {ls : Array Slot} {D : va_G} {cI cZ : ClassId} {bb qq b L i : Nat} {u v : Nat → Nat} {xs : Nat → Int32} {B : BS} {S : RS} (C : CallFix p m c cL_law 4 s #[Value.ref b] TB RL) (hX : va_X b L xs s s.heap) (hbl : b < s.heap.size) (hL : L ≤ 2560) (hi : i + 5 ≤ L) (hK : va_K D vwCl (tyz cI cZ) s) (h : Rel B S) (hP : va_P D vwCl (wLW cI cZ bb u qq v B S) H) (hD : va_D (AL s) (wLW cI cZ bb u qq v B S)) (hS : va_S (AL s) s.heap H locs) (hl : lv_has ls 4 (lsL b bb qq i))
    (kk : ∀ (B : BS) (S : RS) (H : Heap) (locs : List Loc), Rel B S → va_P D vwCl (wLW cI cZ bb u qq v B S) H → va_D (AL s) (wLW cI cZ bb u qq v B S) → va_S (AL s) s.heap H locs → W p l e room_1 s m #[Value.ref b] below meth c H locs 34 4908 Q (F0 m 864 ls [])) : W p l e room_1 s m #[Value.ref b] below meth c H locs 34 4908 Q (F0 m 693 ls []) := by
  have hbA : ¬ AL s b := Nat.not_le.mpr hbl
  obtain ⟨heq, hrel⟩ := call_held h (xs (i + 1)).toInt (xs (i + 2)).toInt
  obtain ⟨⟨X, Y, T, O, told, pres⟩, ⟨K, osz⟩, ⟨⟨Cd, sz, Th⟩, Af, Bf⟩, ⟨⟨Ce, se, Te⟩, Ae, Be⟩, Rq, fi, bg, sl, fd⟩ := B
  obtain ⟨⟨Px, Py, Mt, pn⟩, ⟨kn, fl, Hu, hn, A1, A2, A3, mn⟩, ⟨hd, sd, B1, B2, B3, hd2, fp⟩, ⟨Od, Ro, Ne, rn⟩, Mr⟩ := S
  refine lv_aload_n C.1 C.2.1 dL_law_693 rfl (lv_at hl 1 rfl) ?_
  refine jl_arg C hX hbl hbA hS hL hl 1 rfl (by omega) dL_law_694 dL_law_695 dL_law_696 dL_law_697 dL_law_698 ?_
  refine jl_arg C hX hbl hbA hS hL hl 2 rfl (by omega) dL_law_699 dL_law_700 dL_law_701 dL_law_702 dL_law_703 ?_
  refine jl_B (u := u) (v := v) (ni := 2) C [.int (J (xs (i + 1)).toInt), .int (J (xs (i + 2)).toInt)] [] (c_X3_held h.1 (R3_to _) (R3_to _)) gv_L_91 (by decide +kernel) (by decide) hK hP hD hS rfl hl.1 (Nat.le_of_ble_eq_true rfl) dL_law_704 (by decide) (fun H locs hP hD hS => ?_) rfl
  refine lv_aload_n C.1 C.2.1 dL_law_707 rfl (lv_at hl 2 rfl) ?_
  refine jl_arg C hX hbl hbA hS hL hl 1 rfl (by omega) dL_law_708 dL_law_709 dL_law_710 dL_law_711 dL_law_712 ?_
  refine jl_arg C hX hbl hbA hS hL hl 2 rfl (by omega) dL_law_713 dL_law_714 dL_law_715 dL_law_716 dL_law_717 ?_
  refine jl_R (u := u) (v := v) (ni := 2) C [.int (J (xs (i + 1)).toInt), .int (J (xs (i + 2)).toInt)] [_] (c_X4_held h.2.1 (R3_to _) (R3_to _)) gv_L_94 (by decide +kernel) (by decide) hK hP hD hS rfl hl.1 (Nat.le_of_ble_eq_true rfl) dL_law_718 (by decide) (fun H locs hP hD hS => ?_) rfl
  refine jl_cmp (tgt := 864) C (congrArg J heq) dL_law_721 (by decide) ?_
  exact kk _ _ _ _ hrel hP hD hS
set_option maxHeartbeats 4000000 in
set_option maxRecDepth 100000 in
theorem lc_bad {p : Program} {l : Launch} {e : Env} {s : State} {m : MethodId} {below : List Frame} {meth : Method} {c : Code} {H : Heap} {locs : List Loc} {Q : State → Prop} {ls : Array Slot} {D : va_G} {cI cZ : ClassId} {bb qq b L i : Nat} {u v : Nat → Nat} {xs : Nat → Int32} {B : BS} {S : RS} (C : CallFix p m c cL_law 4 s #[Value.ref b] TB RL) (hX : va_X b L xs s s.heap) (hbl : b < s.heap.size) (hL : L ≤ 2560) (hi : i + 5 ≤ L) (hK : va_K D vwCl (tyz cI cZ) s) (h : Rel B S) (hP : va_P D vwCl (wLW cI cZ bb u qq v B S) H) (hD : va_D (AL s) (wLW cI cZ bb u qq v B S)) (hS : va_S (AL s) s.heap H locs) (hl : lv_has ls 4 (lsL b bb qq i))
    (kk : ∀ (B : BS) (S : RS) (H : Heap) (locs : List Loc), Rel B S → va_P D vwCl (wLW cI cZ bb u qq v B S) H → va_D (AL s) (wLW cI cZ bb u qq v B S) → va_S (AL s) s.heap H locs → W p l e room_1 s m #[Value.ref b] below meth c H locs 34 4908 Q (F0 m 864 ls [])) : W p l e room_1 s m #[Value.ref b] below meth c H locs 34 4908 Q (F0 m 726 ls []) := by
  have hbA : ¬ AL s b := Nat.not_le.mpr hbl
  obtain ⟨heq, hrel⟩ := call_bad h (xs (i + 1)).toInt (xs (i + 2)).toInt
  obtain ⟨⟨X, Y, T, O, told, pres⟩, ⟨K, osz⟩, ⟨⟨Cd, sz, Th⟩, Af, Bf⟩, ⟨⟨Ce, se, Te⟩, Ae, Be⟩, Rq, fi, bg, sl, fd⟩ := B
  obtain ⟨⟨Px, Py, Mt, pn⟩, ⟨kn, fl, Hu, hn, A1, A2, A3, mn⟩, ⟨hd, sd, B1, B2, B3, hd2, fp⟩, ⟨Od, Ro, Ne, rn⟩, Mr⟩ := S
  refine lv_aload_n C.1 C.2.1 dL_law_726 rfl (lv_at hl 1 rfl) ?_
  refine jl_arg C hX hbl hbA hS hL hl 1 rfl (by omega) dL_law_727 dL_law_728 dL_law_729 dL_law_730 dL_law_731 ?_
  refine jl_arg C hX hbl hbA hS hL hl 2 rfl (by omega) dL_law_732 dL_law_733 dL_law_734 dL_law_735 dL_law_736 ?_
  refine jl_B (u := u) (v := v) (ni := 2) C [.int (J (xs (i + 1)).toInt), .int (J (xs (i + 2)).toInt)] [] (c_X3_bad h.1 (R3_to _) (R3_to _)) gv_L_95 (by decide +kernel) (by decide) hK hP hD hS rfl hl.1 (Nat.le_of_ble_eq_true rfl) dL_law_737 (by decide) (fun H locs hP hD hS => ?_) rfl
  refine lv_aload_n C.1 C.2.1 dL_law_740 rfl (lv_at hl 2 rfl) ?_
  refine jl_arg C hX hbl hbA hS hL hl 1 rfl (by omega) dL_law_741 dL_law_742 dL_law_743 dL_law_744 dL_law_745 ?_
  refine jl_arg C hX hbl hbA hS hL hl 2 rfl (by omega) dL_law_746 dL_law_747 dL_law_748 dL_law_749 dL_law_750 ?_
  refine jl_R (u := u) (v := v) (ni := 2) C [.int (J (xs (i + 1)).toInt), .int (J (xs (i + 2)).toInt)] [_] (c_X4_bad h.2.1 (R3_to _) (R3_to _)) gv_L_98 (by decide +kernel) (by decide) hK hP hD hS rfl hl.1 (Nat.le_of_ble_eq_true rfl) dL_law_751 (by decide) (fun H locs hP hD hS => ?_) rfl
  refine jl_cmp (tgt := 864) C (congrArg J heq) dL_law_754 (by decide) ?_
  exact kk _ _ _ _ hrel hP hD hS
set_option maxHeartbeats 4000000 in
set_option maxRecDepth 100000 in
theorem lc_flip {p : Program} {l : Launch} {e : Env} {s : State} {m : MethodId} {below : List Frame} {meth : Method} {c : Code} {H : Heap} {locs : List Loc} {Q : State → Prop} {ls : Array Slot} {D : va_G} {cI cZ : ClassId} {bb qq b L i : Nat} {u v : Nat → Nat} {xs : Nat → Int32} {B : BS} {S : RS} (C : CallFix p m c cL_law 4 s #[Value.ref b] TB RL) (hX : va_X b L xs s s.heap) (hbl : b < s.heap.size) (hL : L ≤ 2560) (hi : i + 5 ≤ L) (hK : va_K D vwCl (tyz cI cZ) s) (h : Rel B S) (hP : va_P D vwCl (wLW cI cZ bb u qq v B S) H) (hD : va_D (AL s) (wLW cI cZ bb u qq v B S)) (hS : va_S (AL s) s.heap H locs) (hl : lv_has ls 4 (lsL b bb qq i))
    (kk : ∀ (B : BS) (S : RS) (H : Heap) (locs : List Loc), Rel B S → va_P D vwCl (wLW cI cZ bb u qq v B S) H → va_D (AL s) (wLW cI cZ bb u qq v B S) → va_S (AL s) s.heap H locs → W p l e room_1 s m #[Value.ref b] below meth c H locs 34 4908 Q (F0 m 864 ls [])) : W p l e room_1 s m #[Value.ref b] below meth c H locs 34 4908 Q (F0 m 759 ls []) := by
  have hbA : ¬ AL s b := Nat.not_le.mpr hbl
  obtain ⟨hsd, heq, hrel⟩ := call_flip h (xs (i + 1)).toInt (xs (i + 2)).toInt
  obtain ⟨⟨X, Y, T, O, told, pres⟩, ⟨K, osz⟩, ⟨⟨Cd, sz, Th⟩, Af, Bf⟩, ⟨⟨Ce, se, Te⟩, Ae, Be⟩, Rq, fi, bg, sl, fd⟩ := B
  obtain ⟨⟨Px, Py, Mt, pn⟩, ⟨kn, fl, Hu, hn, A1, A2, A3, mn⟩, ⟨hd, sd, B1, B2, B3, hd2, fp⟩, ⟨Od, Ro, Ne, rn⟩, Mr⟩ := S
  refine lv_aload_n C.1 C.2.1 dL_law_759 rfl (lv_at hl 1 rfl) ?_
  refine jl_arg C hX hbl hbA hS hL hl 1 rfl (by omega) dL_law_760 dL_law_761 dL_law_762 dL_law_763 dL_law_764 ?_
  refine jl_arg C hX hbl hbA hS hL hl 2 rfl (by omega) dL_law_765 dL_law_766 dL_law_767 dL_law_768 dL_law_769 ?_
  refine jl_B (u := u) (v := v) (ni := 2) C [.int (J (xs (i + 1)).toInt), .int (J (xs (i + 2)).toInt)] [] (c_X3_flip h.1 (R3_to _) (R3_to _)) gv_L_99 (by decide +kernel) (by decide) hK hP hD hS rfl hl.1 (Nat.le_of_ble_eq_true rfl) dL_law_770 (by decide) (fun H locs hP hD hS => ?_) rfl
  refine lv_aload_n C.1 C.2.1 dL_law_773 rfl (lv_at hl 2 rfl) ?_
  refine jl_arg C hX hbl hbA hS hL hl 1 rfl (by omega) dL_law_774 dL_law_775 dL_law_776 dL_law_777 dL_law_778 ?_
  refine jl_arg C hX hbl hbA hS hL hl 2 rfl (by omega) dL_law_779 dL_law_780 dL_law_781 dL_law_782 dL_law_783 ?_
  refine jl_R (u := u) (v := v) (ni := 2) C [.int (J (xs (i + 1)).toInt), .int (J (xs (i + 2)).toInt)] [_] (c_X4_flip h.2.1 (R3_to _) (R3_to _) (hok := hsd)) gv_L_102 (by decide +kernel) (by decide) hK hP hD hS rfl hl.1 (Nat.le_of_ble_eq_true rfl) dL_law_784 (by decide) (fun H locs hP hD hS => ?_) rfl
  refine jl_cmp (tgt := 864) C (congrArg J heq) dL_law_787 (by decide) ?_
  exact kk _ _ _ _ hrel hP hD hS
set_option maxHeartbeats 4000000 in
set_option maxRecDepth 100000 in
theorem lc_settle {p : Program} {l : Launch} {e : Env} {s : State} {m : MethodId} {below : List Frame} {meth : Method} {c : Code} {H : Heap} {locs : List Loc} {Q : State → Prop} {ls : Array Slot} {D : va_G} {cI cZ : ClassId} {bb qq b L i : Nat} {u v : Nat → Nat} {xs : Nat → Int32} {B : BS} {S : RS} (C : CallFix p m c cL_law 4 s #[Value.ref b] TB RL) (hX : va_X b L xs s s.heap) (hbl : b < s.heap.size) (hL : L ≤ 2560) (hi : i + 5 ≤ L) (hK : va_K D vwCl (tyz cI cZ) s) (h : Rel B S) (hP : va_P D vwCl (wLW cI cZ bb u qq v B S) H) (hD : va_D (AL s) (wLW cI cZ bb u qq v B S)) (hS : va_S (AL s) s.heap H locs) (hl : lv_has ls 4 (lsL b bb qq i))
    (kk : ∀ (B : BS) (S : RS) (H : Heap) (locs : List Loc), Rel B S → va_P D vwCl (wLW cI cZ bb u qq v B S) H → va_D (AL s) (wLW cI cZ bb u qq v B S) → va_S (AL s) s.heap H locs → W p l e room_1 s m #[Value.ref b] below meth c H locs 34 4908 Q (F0 m 864 ls [])) : W p l e room_1 s m #[Value.ref b] below meth c H locs 34 4908 Q (F0 m 792 ls []) := by
  have hbA : ¬ AL s b := Nat.not_le.mpr hbl
  obtain ⟨hsd, heq, hrel⟩ := call_settle h (xs (i + 1)).toInt
  obtain ⟨⟨X, Y, T, O, told, pres⟩, ⟨K, osz⟩, ⟨⟨Cd, sz, Th⟩, Af, Bf⟩, ⟨⟨Ce, se, Te⟩, Ae, Be⟩, Rq, fi, bg, sl, fd⟩ := B
  obtain ⟨⟨Px, Py, Mt, pn⟩, ⟨kn, fl, Hu, hn, A1, A2, A3, mn⟩, ⟨hd, sd, B1, B2, B3, hd2, fp⟩, ⟨Od, Ro, Ne, rn⟩, Mr⟩ := S
  refine lv_aload_n C.1 C.2.1 dL_law_792 rfl (lv_at hl 1 rfl) ?_
  refine jl_arg C hX hbl hbA hS hL hl 1 rfl (by omega) dL_law_793 dL_law_794 dL_law_795 dL_law_796 dL_law_797 ?_
  refine jl_B (u := u) (v := v) (ni := 1) C [.int (J (xs (i + 1)).toInt)] [] (c_X3_settle h.1 (R3_to _)) gv_L_103 (by decide +kernel) (by decide) hK hP hD hS rfl hl.1 (Nat.le_of_ble_eq_true rfl) dL_law_798 (by decide) (fun H locs hP hD hS => ?_) rfl
  refine lv_aload_n C.1 C.2.1 dL_law_801 rfl (lv_at hl 2 rfl) ?_
  refine jl_arg C hX hbl hbA hS hL hl 1 rfl (by omega) dL_law_802 dL_law_803 dL_law_804 dL_law_805 dL_law_806 ?_
  refine jl_R (u := u) (v := v) (ni := 1) C [.int (J (xs (i + 1)).toInt)] [_] (c_X4_settle h.2.1 (R3_to _) (hok := hsd)) gv_L_106 (by decide +kernel) (by decide) hK hP hD hS rfl hl.1 (Nat.le_of_ble_eq_true rfl) dL_law_807 (by decide) (fun H locs hP hD hS => ?_) rfl
  refine jl_cmp (tgt := 864) C (congrArg J heq) dL_law_810 (by decide) ?_
  exact kk _ _ _ _ hrel hP hD hS
set_option maxHeartbeats 4000000 in
set_option maxRecDepth 100000 in
theorem lc_alike {p : Program} {l : Launch} {e : Env} {s : State} {m : MethodId} {below : List Frame} {meth : Method} {c : Code} {H : Heap} {locs : List Loc} {Q : State → Prop} {ls : Array Slot} {D : va_G} {cI cZ : ClassId} {bb qq b L i : Nat} {u v : Nat → Nat} {xs : Nat → Int32} {B : BS} {S : RS} (C : CallFix p m c cL_law 4 s #[Value.ref b] TB RL) (hX : va_X b L xs s s.heap) (hbl : b < s.heap.size) (hL : L ≤ 2560) (hi : i + 5 ≤ L) (hK : va_K D vwCl (tyz cI cZ) s) (h : Rel B S) (hP : va_P D vwCl (wLW cI cZ bb u qq v B S) H) (hD : va_D (AL s) (wLW cI cZ bb u qq v B S)) (hS : va_S (AL s) s.heap H locs) (hl : lv_has ls 4 (lsL b bb qq i))
    (kk : ∀ (B : BS) (S : RS) (H : Heap) (locs : List Loc), Rel B S → va_P D vwCl (wLW cI cZ bb u qq v B S) H → va_D (AL s) (wLW cI cZ bb u qq v B S) → va_S (AL s) s.heap H locs → W p l e room_1 s m #[Value.ref b] below meth c H locs 34 4908 Q (F0 m 864 ls [])) : W p l e room_1 s m #[Value.ref b] below meth c H locs 34 4908 Q (F0 m 815 ls []) := by
  have hbA : ¬ AL s b := Nat.not_le.mpr hbl
  obtain ⟨hko, heq, hrel⟩ := call_alike h 
  obtain ⟨⟨X, Y, T, O, told, pres⟩, ⟨K, osz⟩, ⟨⟨Cd, sz, Th⟩, Af, Bf⟩, ⟨⟨Ce, se, Te⟩, Ae, Be⟩, Rq, fi, bg, sl, fd⟩ := B
  obtain ⟨⟨Px, Py, Mt, pn⟩, ⟨kn, fl, Hu, hn, A1, A2, A3, mn⟩, ⟨hd, sd, B1, B2, B3, hd2, fp⟩, ⟨Od, Ro, Ne, rn⟩, Mr⟩ := S
  refine lv_aload_n C.1 C.2.1 dL_law_815 rfl (lv_at hl 1 rfl) ?_
  refine jl_B (u := u) (v := v) (ni := 0) C [] [] (c_X3_alike h.1 ) gv_L_107 (by decide +kernel) (by decide) hK hP hD hS rfl hl.1 (Nat.le_of_ble_eq_true rfl) dL_law_816 (by decide) (fun H locs hP hD hS => ?_) rfl
  refine lv_aload_n C.1 C.2.1 dL_law_819 rfl (lv_at hl 2 rfl) ?_
  refine jl_R (u := u) (v := v) (ni := 0) C [] [_] (c_X4_alike h.2.1  (hko := hko)) gv_L_110 (by decide +kernel) (by decide) hK hP hD hS rfl hl.1 (Nat.le_of_ble_eq_true rfl) dL_law_820 (by decide) (fun H locs hP hD hS => ?_) rfl
  refine jl_cmp (tgt := 864) C (congrArg J heq) dL_law_823 (by decide) ?_
  exact kk _ _ _ _ hrel hP hD hS
set_option maxHeartbeats 4000000 in
set_option maxRecDepth 100000 in
theorem lc_bads {p : Program} {l : Launch} {e : Env} {s : State} {m : MethodId} {below : List Frame} {meth : Method} {c : Code} {H : Heap} {locs : List Loc} {Q : State → Prop} {ls : Array Slot} {D : va_G} {cI cZ : ClassId} {bb qq b L i : Nat} {u v : Nat → Nat} {xs : Nat → Int32} {B : BS} {S : RS} (C : CallFix p m c cL_law 4 s #[Value.ref b] TB RL) (hX : va_X b L xs s s.heap) (hbl : b < s.heap.size) (hL : L ≤ 2560) (hi : i + 5 ≤ L) (hK : va_K D vwCl (tyz cI cZ) s) (h : Rel B S) (hP : va_P D vwCl (wLW cI cZ bb u qq v B S) H) (hD : va_D (AL s) (wLW cI cZ bb u qq v B S)) (hS : va_S (AL s) s.heap H locs) (hl : lv_has ls 4 (lsL b bb qq i))
    (kk : ∀ (B : BS) (S : RS) (H : Heap) (locs : List Loc), Rel B S → va_P D vwCl (wLW cI cZ bb u qq v B S) H → va_D (AL s) (wLW cI cZ bb u qq v B S) → va_S (AL s) s.heap H locs → W p l e room_1 s m #[Value.ref b] below meth c H locs 34 4908 Q (F0 m 864 ls [])) : W p l e room_1 s m #[Value.ref b] below meth c H locs 34 4908 Q (F0 m 828 ls []) := by
  have hbA : ¬ AL s b := Nat.not_le.mpr hbl
  obtain ⟨heq, hrel⟩ := call_bads h 
  obtain ⟨⟨X, Y, T, O, told, pres⟩, ⟨K, osz⟩, ⟨⟨Cd, sz, Th⟩, Af, Bf⟩, ⟨⟨Ce, se, Te⟩, Ae, Be⟩, Rq, fi, bg, sl, fd⟩ := B
  obtain ⟨⟨Px, Py, Mt, pn⟩, ⟨kn, fl, Hu, hn, A1, A2, A3, mn⟩, ⟨hd, sd, B1, B2, B3, hd2, fp⟩, ⟨Od, Ro, Ne, rn⟩, Mr⟩ := S
  refine lv_aload_n C.1 C.2.1 dL_law_828 rfl (lv_at hl 1 rfl) ?_
  refine jl_B (u := u) (v := v) (ni := 0) C [] [] (c_X3_bads h.1 ) gv_L_111 (by decide +kernel) (by decide) hK hP hD hS rfl hl.1 (Nat.le_of_ble_eq_true rfl) dL_law_829 (by decide) (fun H locs hP hD hS => ?_) rfl
  refine lv_aload_n C.1 C.2.1 dL_law_832 rfl (lv_at hl 2 rfl) ?_
  refine jl_R (u := u) (v := v) (ni := 0) C [] [_] (c_X4_bads h.2.1 ) gv_L_114 (by decide +kernel) (by decide) hK hP hD hS rfl hl.1 (Nat.le_of_ble_eq_true rfl) dL_law_833 (by decide) (fun H locs hP hD hS => ?_) rfl
  refine jl_cmp (tgt := 864) C (congrArg J heq) dL_law_836 (by decide) ?_
  exact kk _ _ _ _ hrel hP hD hS
set_option maxHeartbeats 4000000 in
set_option maxRecDepth 100000 in
theorem lc_count {p : Program} {l : Launch} {e : Env} {s : State} {m : MethodId} {below : List Frame} {meth : Method} {c : Code} {H : Heap} {locs : List Loc} {Q : State → Prop} {ls : Array Slot} {D : va_G} {cI cZ : ClassId} {bb qq b L i : Nat} {u v : Nat → Nat} {xs : Nat → Int32} {B : BS} {S : RS} (C : CallFix p m c cL_law 4 s #[Value.ref b] TB RL) (hX : va_X b L xs s s.heap) (hbl : b < s.heap.size) (hL : L ≤ 2560) (hi : i + 5 ≤ L) (hK : va_K D vwCl (tyz cI cZ) s) (h : Rel B S) (hP : va_P D vwCl (wLW cI cZ bb u qq v B S) H) (hD : va_D (AL s) (wLW cI cZ bb u qq v B S)) (hS : va_S (AL s) s.heap H locs) (hl : lv_has ls 4 (lsL b bb qq i))
    (kk : ∀ (B : BS) (S : RS) (H : Heap) (locs : List Loc), Rel B S → va_P D vwCl (wLW cI cZ bb u qq v B S) H → va_D (AL s) (wLW cI cZ bb u qq v B S) → va_S (AL s) s.heap H locs → W p l e room_1 s m #[Value.ref b] below meth c H locs 34 4908 Q (F0 m 864 ls [])) : W p l e room_1 s m #[Value.ref b] below meth c H locs 34 4908 Q (F0 m 841 ls []) := by
  have hbA : ¬ AL s b := Nat.not_le.mpr hbl
  obtain ⟨hko, heq, hrel⟩ := call_count h (xs (i + 1)).toInt
  obtain ⟨⟨X, Y, T, O, told, pres⟩, ⟨K, osz⟩, ⟨⟨Cd, sz, Th⟩, Af, Bf⟩, ⟨⟨Ce, se, Te⟩, Ae, Be⟩, Rq, fi, bg, sl, fd⟩ := B
  obtain ⟨⟨Px, Py, Mt, pn⟩, ⟨kn, fl, Hu, hn, A1, A2, A3, mn⟩, ⟨hd, sd, B1, B2, B3, hd2, fp⟩, ⟨Od, Ro, Ne, rn⟩, Mr⟩ := S
  refine lv_aload_n C.1 C.2.1 dL_law_841 rfl (lv_at hl 1 rfl) ?_
  refine jl_arg C hX hbl hbA hS hL hl 1 rfl (by omega) dL_law_842 dL_law_843 dL_law_844 dL_law_845 dL_law_846 ?_
  refine jl_B (u := u) (v := v) (ni := 1) C [.int (J (xs (i + 1)).toInt)] [] (c_X3_count h.1 (R3_to _)) gv_L_115 (by decide +kernel) (by decide) hK hP hD hS rfl hl.1 (Nat.le_of_ble_eq_true rfl) dL_law_847 (by decide) (fun H locs hP hD hS => ?_) rfl
  refine lv_aload_n C.1 C.2.1 dL_law_850 rfl (lv_at hl 2 rfl) ?_
  refine jl_arg C hX hbl hbA hS hL hl 1 rfl (by omega) dL_law_851 dL_law_852 dL_law_853 dL_law_854 dL_law_855 ?_
  refine jl_R (u := u) (v := v) (ni := 1) C [.int (J (xs (i + 1)).toInt)] [_] (c_X4_count h.2.1 (R3_to _) (hko := hko)) gv_L_118 (by decide +kernel) (by decide) hK hP hD hS rfl hl.1 (Nat.le_of_ble_eq_true rfl) dL_law_856 (by decide) (fun H locs hP hD hS => ?_) rfl
  refine jl_cmp (tgt := 864) C (congrArg J heq) dL_law_859 (by decide) ?_
  exact kk _ _ _ _ hrel hP hD hS
