/-! the law: its rows -/
abbrev wLW (cI cZ : ClassId) (bb : Nat) (u : Nat → Nat) (qq : Nat) (v : Nat → Nat) (B : BS) (S : RS) : va_W := wBS cI cZ bb (u 0) (u 1) (u 2) (u 3) (u 4) (u 5) (u 6) (u 7) (u 8) (u 9) (u 10) (u 11) (u 12) (u 13) (u 14) (u 15) (u 16) (u 17) B ++ wRS cI cZ qq (v 0) (v 1) (v 2) (v 3) (v 4) (v 5) (v 6) (v 7) (v 8) (v 9) (v 10) (v 11) (v 12) (v 13) S
abbrev lsL (b bb qq i : Nat) : List (Nat × Value) := [(0, .ref b), (1, .ref bb), (2, .ref qq), (3, .int (J ((i : Nat) : Int)))]
theorem J_back (x : Int32) : J x.toInt = x := Int32.ofInt_toInt x
theorem R3_to (x : Int32) : R3 x.toInt := ⟨by have := Int32.le_toInt x; omega, by have := Int32.toInt_lt x; omega⟩
theorem lgc_self (x : Int64) : lg_cmp x x = 0 := by
  unfold lg_cmp
  rw [if_neg (fun h : x < x => absurd (Int64.lt_iff_toInt_lt.mp h) (Int.lt_irrefl _)), if_pos rfl]
section JL
variable {p : Program} {l : Launch} {e : Env} {R : Room} {s : State} {m : MethodId} {args : Array Value} {below : List Frame} {meth : Method} {c : Code} {H : Heap} {locs : List Loc} {cells slots : Nat} {Q : State → Prop}
variable {cc : ByteArray} {pc : Nat} {ls : Array Slot} {rest : List Value} {own : String} {D : va_G} {A : Nat → Prop} {H0 : Heap} {cI cZ : ClassId} {bb qq b L i : Nat} {u v : Nat → Nat} {xs : Nat → Int32} {B B' : BS} {S S' : RS}
theorem jl_arg (C : CallFix p m c cc 4 s args TB own) (hX : va_X b L xs s H0) (hbl : b < H0.size) (hbA : ¬ A b) (hS : va_S A H0 H locs) (hL : L ≤ 2560) (hl : lv_has ls 4 (lsL b bb qq i)) (k : Nat) {kz : Int} (hk : kz = (k : Int)) (hik : i + k < L) (d1 : decode cc pc = .ok (.aload_n 0, 1)) (d2 : decode cc (pc + 1) = .ok (.iload_n 3, 1)) (d3 : decode cc (pc + 2) = .ok (.iconst kz, 1)) (d4 : decode cc (pc + 3) = .ok (.iadd, 1)) (d5 : decode cc (pc + 4) = .ok (.iaload, 1))
    (kk : W p l e R s m args below meth c H locs cells slots Q (F0 m (pc + 5) ls (.int (J (xs (i + k)).toInt) :: rest))) : W p l e R s m args below meth c H locs cells slots Q (F0 m pc ls rest) := by
  subst hk
  refine lv_aload_n C.1 C.2.1 d1 rfl (lv_at hl 0 rfl) ?_
  refine lv_iload_n C.1 C.2.1 d2 rfl (lv_at hl 3 rfl) ?_
  refine jv_iconst C d3 ?_
  refine jv_iadd (z := ((i + k : Nat) : Int)) C d4 (by omega) ?_
  refine va_sld C.1 C.2.1 hX hbl hbA hS (J_in hik (by omega)) d5 ?_
  rw [J_clamp (by omega)]
  rw [J_back] at kk
  exact kk
theorem wr_gen {pc : Nat} {st0 : List Value} {rv : Option Value} {av : Array Value} {wc wd wt : va_W} (hr : va_Run p l e R s m args below meth c H locs cells slots 0 0 (F0 m pc ls st0) rest (QW D wc wd rv av) (inW wc)) (hS : va_S A H0 H locs) (hF : ∀ q, inW wc q → A q) (hPt : ∀ H1 : Heap, va_P D vwCl wd H1 → (∀ q : Nat, q < H.size → ¬ inW wc q → H1[q]? = H[q]?) → va_P D vwCl wt H1) (hDt : va_D A wt)
    (kk : ∀ (H1 : Heap) (locs1 : List Loc), va_P D vwCl wt H1 → va_D A wt → va_S A H0 H1 locs1 → W p l e R s m args below meth c H1 locs1 cells slots Q (F0 m (pc + 3) ls (rv.toList ++ rest))) : W p l e R s m args below meth c H locs cells slots Q (F0 m pc ls st0) := by
  intro T hT X
  obtain ⟨v, st₀, t, T', L, h0, X', hL, e1, e2, ⟨hv, hp, hz, hk⟩, st⟩ := hr T hT X
  cases hv
  rw [h0] at hz hk
  obtain ⟨t2, a1, b1⟩ := kk t.heap (locs ++ L) (hPt _ hp hk) hDt
    ⟨Nat.le_trans hS.1 hz, fun q h1 h2 => by rw [hk q (Nat.lt_of_lt_of_le h1 hS.1) (fun w => h2 (hF q w))]; exact hS.2.1 q h1 h2, fun q hq => by
      rcases List.mem_append.mp hq with h | h
      · exact hS.2.2 q h
      · exact hF _ (hL q h)⟩ T' e1 X'
  exact ⟨t2, st t2 a1, b1⟩
theorem gl_l {w1 w2 : va_W} {k : Nat} {q : Nat × va_E} (h : w1[k]? = some q) : (w1 ++ w2)[k]? = some q := by
  rw [List.getElem?_append_left (List.getElem?_eq_some_iff.mp h).1]; exact h
theorem gl_r {w1 w2 : va_W} {k : Nat} {q : Nat × va_E} (h : w2[k]? = some q) : (w1 ++ w2)[w1.length + k]? = some q := by
  rw [List.getElem?_append_right (Nat.le_add_right _ _), Nat.add_sub_cancel_left]; exact h
theorem jl_V1 (C : CallFix p m c cc 4 s args TB own) {y : MethodName} {cy : ByteArray} {n fr lo idx ni ci b0 : Nat} {ret : Option FieldType} {rv : Option Value} {Cn : vw_C} {fs : List Value} {w1 w1' w2 : va_W} (As : List Value) (rest : List Value) (hM : cW l y cy n ret fr lo D (tyz cI cZ) (.ref b0 :: As) w1 w1' rv) (g : GoodIn TB (wsV own idx Cn.1 y (WS y cy n ret)))
    (hd : y.cls = Cn.1 ∧ y.cls ≠ "java/lang/invoke/MethodHandle" ∧ y.cls ≠ "java/lang/invoke/VarHandle" ∧ (parseMethodDescriptor y.desc).map (fun d => d.parameters.length) = some ni) (hR : fr + 1 ≤ R.frames ∧ 8 + (n + 11) + lo ≤ R.locals)
    (hK : va_K D vwCl (tyz cI cZ) s) (hP : va_P D vwCl (w1 ++ w2) H) (hD : va_D A (w1 ++ w2)) (hS : va_S A H0 H locs) (hsame : w1'.map (·.1) = w1.map (·.1)) (hc : vwCl[ci]? = some Cn) (he : w1[0]? = some (b0, .inr (ci, fs))) (hn : As.length = ni) (hls : ls.size = 4) (hro : (rest.map fun v => v.category).sum ≤ 8) (hdg : decode cc pc = .ok (.invokevirtual idx, 3)) (hcs : cells ≤ R.cells ∧ slots ≤ R.slots)
    (kk : ∀ (H1 : Heap) (locs1 : List Loc), va_P D vwCl (w1' ++ w2) H1 → va_D A (w1' ++ w2) → va_S A H0 H1 locs1 → W p l e R s m args below meth c H1 locs1 cells slots Q (F0 m (pc + 3) ls (rv.toList ++ rest))) {st0 : List Value} (hst : st0 = As.reverse ++ .ref b0 :: rest) : W p l e R s m args below meth c H locs cells slots Q (F0 m pc ls st0) := by
  have hPc : va_P D vwCl w1 H := fun k q hq => hP k q (gl_l hq)
  have hDc : va_D (fun _ => True) w1 := ⟨fun i j x y hi hj hxy => hD.1 i j x y (gl_l hi) (gl_l hj) hxy, fun _ _ _ => trivial⟩
  refine wr_gen (va_runV (As := As) (rest := rest) C hM (cwV ni C.2.2.2.2 g rfl rfl rfl hd hR) ⟨PW_blind, va_recv hK hPc hc he, fun U hU hW => ⟨rfl, by rw [hU]; exact hPc, va_K.moved hW.alike hK, hDc⟩⟩ rfl hn hls hst (lv_room hro) hdg hcs) hS ?_ ?_ ?_ kk
  · rintro q ⟨k, e, hq⟩
    exact hD.2 k (q, e) (gl_l hq)
  · intro H1 hp hk
    refine va_P.app hp (fun k q hq => ?_)
    refine (hP _ q (gl_r hq)).kept (hk q.1 (hP _ q (gl_r hq)).lt ?_)
    rintro ⟨j, e, hj⟩
    have h1 := hD.1 _ _ q (q.1, e) (gl_r hq) (gl_l hj) rfl
    have h2 := (List.getElem?_eq_some_iff.mp hj).1
    omega
  · exact va_D_same (by rw [List.map_append, List.map_append, hsame]) hD
theorem jl_V2 (C : CallFix p m c cc 4 s args TB own) {y : MethodName} {cy : ByteArray} {n fr lo idx ni ci b0 : Nat} {ret : Option FieldType} {rv : Option Value} {Cn : vw_C} {fs : List Value} {w1 w1' w2 : va_W} (As : List Value) (rest : List Value) (hM : cW l y cy n ret fr lo D (tyz cI cZ) (.ref b0 :: As) w1 w1' rv) (g : GoodIn TB (wsV own idx Cn.1 y (WS y cy n ret)))
    (hd : y.cls = Cn.1 ∧ y.cls ≠ "java/lang/invoke/MethodHandle" ∧ y.cls ≠ "java/lang/invoke/VarHandle" ∧ (parseMethodDescriptor y.desc).map (fun d => d.parameters.length) = some ni) (hR : fr + 1 ≤ R.frames ∧ 8 + (n + 11) + lo ≤ R.locals)
    (hK : va_K D vwCl (tyz cI cZ) s) (hP : va_P D vwCl (w2 ++ w1) H) (hD : va_D A (w2 ++ w1)) (hS : va_S A H0 H locs) (hsame : w1'.map (·.1) = w1.map (·.1)) (hc : vwCl[ci]? = some Cn) (he : w1[0]? = some (b0, .inr (ci, fs))) (hn : As.length = ni) (hls : ls.size = 4) (hro : (rest.map fun v => v.category).sum ≤ 8) (hdg : decode cc pc = .ok (.invokevirtual idx, 3)) (hcs : cells ≤ R.cells ∧ slots ≤ R.slots)
    (kk : ∀ (H1 : Heap) (locs1 : List Loc), va_P D vwCl (w2 ++ w1') H1 → va_D A (w2 ++ w1') → va_S A H0 H1 locs1 → W p l e R s m args below meth c H1 locs1 cells slots Q (F0 m (pc + 3) ls (rv.toList ++ rest))) {st0 : List Value} (hst : st0 = As.reverse ++ .ref b0 :: rest) : W p l e R s m args below meth c H locs cells slots Q (F0 m pc ls st0) := by
  have hPc : va_P D vwCl w1 H := fun k q hq => hP _ q (gl_r hq)
  have hDc : va_D (fun _ => True) w1 := ⟨fun i j x y hi hj hxy => by
    have := hD.1 _ _ x y (gl_r hi) (gl_r hj) hxy
    omega, fun _ _ _ => trivial⟩
  refine wr_gen (va_runV (As := As) (rest := rest) C hM (cwV ni C.2.2.2.2 g rfl rfl rfl hd hR) ⟨PW_blind, va_recv hK hPc hc he, fun U hU hW => ⟨rfl, by rw [hU]; exact hPc, va_K.moved hW.alike hK, hDc⟩⟩ rfl hn hls hst (lv_room hro) hdg hcs) hS ?_ ?_ ?_ kk
  · rintro q ⟨k, e, hq⟩
    exact hD.2 _ (q, e) (gl_r hq)
  · intro H1 hp hk
    refine va_P.app (fun k q hq => ?_) hp
    refine (hP _ q (gl_l hq)).kept (hk q.1 (hP _ q (gl_l hq)).lt ?_)
    rintro ⟨j, e, hj⟩
    have h1 := hD.1 _ _ q (q.1, e) (gl_l hq) (gl_r hj) rfl
    have h2 := (List.getElem?_eq_some_iff.mp hq).1
    omega
  · exact va_D_same (by rw [List.map_append, List.map_append, hsame]) hD
theorem jl_B (C : CallFix p m c cc 4 s args TB own) {y : MethodName} {cy : ByteArray} {n fr lo idx ni : Nat} {ret : Option FieldType} {rv : Option Value} (As : List Value) (rest : List Value) (hM : cW l y cy n ret fr lo D (tyz cI cZ) (.ref bb :: As) (wBS cI cZ bb (u 0) (u 1) (u 2) (u 3) (u 4) (u 5) (u 6) (u 7) (u 8) (u 9) (u 10) (u 11) (u 12) (u 13) (u 14) (u 15) (u 16) (u 17) B) (wBS cI cZ bb (u 0) (u 1) (u 2) (u 3) (u 4) (u 5) (u 6) (u 7) (u 8) (u 9) (u 10) (u 11) (u 12) (u 13) (u 14) (u 15) (u 16) (u 17) B') rv) (g : GoodIn TB (wsV own idx RX3 y (WS y cy n ret)))
    (hd : y.cls = RX3 ∧ y.cls ≠ "java/lang/invoke/MethodHandle" ∧ y.cls ≠ "java/lang/invoke/VarHandle" ∧ (parseMethodDescriptor y.desc).map (fun d => d.parameters.length) = some ni) (hR : fr + 1 ≤ R.frames ∧ 8 + (n + 11) + lo ≤ R.locals)
    (hK : va_K D vwCl (tyz cI cZ) s) (hP : va_P D vwCl (wLW cI cZ bb u qq v B S) H) (hD : va_D A (wLW cI cZ bb u qq v B S)) (hS : va_S A H0 H locs) (hn : As.length = ni) (hls : ls.size = 4) (hro : (rest.map fun v => v.category).sum ≤ 8) (hdg : decode cc pc = .ok (.invokevirtual idx, 3)) (hcs : cells ≤ R.cells ∧ slots ≤ R.slots)
    (kk : ∀ (H1 : Heap) (locs1 : List Loc), va_P D vwCl (wLW cI cZ bb u qq v B' S) H1 → va_D A (wLW cI cZ bb u qq v B' S) → va_S A H0 H1 locs1 → W p l e R s m args below meth c H1 locs1 cells slots Q (F0 m (pc + 3) ls (rv.toList ++ rest))) {st0 : List Value} (hst : st0 = As.reverse ++ .ref bb :: rest) : W p l e R s m args below meth c H locs cells slots Q (F0 m pc ls st0) :=
  jl_V1 (Cn := (RX3, TX3, 9)) (ci := 3) C As rest hM g hd hR hK hP hD hS rfl rfl rfl hn hls hro hdg hcs kk hst
theorem jl_R (C : CallFix p m c cc 4 s args TB own) {y : MethodName} {cy : ByteArray} {n fr lo idx ni : Nat} {ret : Option FieldType} {rv : Option Value} (As : List Value) (rest : List Value) (hM : cW l y cy n ret fr lo D (tyz cI cZ) (.ref qq :: As) (wRS cI cZ qq (v 0) (v 1) (v 2) (v 3) (v 4) (v 5) (v 6) (v 7) (v 8) (v 9) (v 10) (v 11) (v 12) (v 13) S) (wRS cI cZ qq (v 0) (v 1) (v 2) (v 3) (v 4) (v 5) (v 6) (v 7) (v 8) (v 9) (v 10) (v 11) (v 12) (v 13) S') rv) (g : GoodIn TB (wsV own idx RX4 y (WS y cy n ret)))
    (hd : y.cls = RX4 ∧ y.cls ≠ "java/lang/invoke/MethodHandle" ∧ y.cls ≠ "java/lang/invoke/VarHandle" ∧ (parseMethodDescriptor y.desc).map (fun d => d.parameters.length) = some ni) (hR : fr + 1 ≤ R.frames ∧ 8 + (n + 11) + lo ≤ R.locals)
    (hK : va_K D vwCl (tyz cI cZ) s) (hP : va_P D vwCl (wLW cI cZ bb u qq v B S) H) (hD : va_D A (wLW cI cZ bb u qq v B S)) (hS : va_S A H0 H locs) (hn : As.length = ni) (hls : ls.size = 4) (hro : (rest.map fun v => v.category).sum ≤ 8) (hdg : decode cc pc = .ok (.invokevirtual idx, 3)) (hcs : cells ≤ R.cells ∧ slots ≤ R.slots)
    (kk : ∀ (H1 : Heap) (locs1 : List Loc), va_P D vwCl (wLW cI cZ bb u qq v B S') H1 → va_D A (wLW cI cZ bb u qq v B S') → va_S A H0 H1 locs1 → W p l e R s m args below meth c H1 locs1 cells slots Q (F0 m (pc + 3) ls (rv.toList ++ rest))) {st0 : List Value} (hst : st0 = As.reverse ++ .ref qq :: rest) : W p l e R s m args below meth c H locs cells slots Q (F0 m pc ls st0) :=
  jl_V2 (Cn := (RX4, TX4, 24)) (ci := 4) C As rest hM g hd hR hK hP hD hS rfl rfl rfl hn hls hro hdg hcs kk hst
theorem jl_cmp (C : CallFix p m c cc 4 s args TB own) {x y : Int32} (ex : x = y) {off : Int} {tgt : Nat} (d : decode cc pc = .ok (.if_icmp .eq off, 3)) (ht : (pc : Int) + off = (tgt : Int)) (k : W p l e R s m args below meth c H locs cells slots Q (F0 m tgt ls rest)) : W p l e R s m args below meth c H locs cells slots Q (F0 m pc ls (.int y :: .int x :: rest)) :=
  lv_icmp_eq C.1 C.2.1 d ht (fun _ => k) (fun q => absurd ex q)
theorem jl_lcmp (C : CallFix p m c cc 4 s args TB own) {x y : Int64} (ex : x = y) {off : Int} {tgt : Nat} (d : decode cc pc = .ok (.lcmp, 1)) (d2 : decode cc (pc + 1) = .ok (.ifCond .eq off, 3)) (ht : ((pc + 1 : Nat) : Int) + off = (tgt : Int)) (k : W p l e R s m args below meth c H locs cells slots Q (F0 m tgt ls rest)) : W p l e R s m args below meth c H locs cells slots Q (F0 m pc ls (.long y :: .long x :: rest)) := by
  subst ex
  exact W.lcmp C.1 C.2.1 d (lv_if_eq C.1 C.2.1 d2 ht (fun _ => k) (fun q => absurd (lgc_self x) q))
end JL
theorem fil_R (i : Nat) : -1 ≤ fil 1600 (fun _ => 0) i ∧ fil 1600 (fun _ => 0) i < 40 := by
  unfold fil
  split
  · decide
  · show -1 ≤ (0 : Int) ∧ (0 : Int) < 40
    decide
theorem z_1 : -10000 ≤ (0 : Int) ∧ (0 : Int) ≤ 10000 := by decide
theorem z_2 : (0 : Nat) < 40 := by decide
theorem z_3 : (0 : Nat) < 64000 := by decide
theorem MB0 : MB3 (fun _ => 0, 0, fil 1600 (fun _ => 0)) := ⟨fun _ => z_3, Nat.zero_le _, fil_R⟩
theorem AB0 : AB3 (fun _ => 0, fun _ => 0) := ⟨fun _ => z_2, fun _ => z_2⟩
theorem BI0 : BI B0 := ⟨⟨fun _ => z_1, fun _ => z_1, fun _ => z_2, Nat.zero_le _, Nat.zero_le _⟩, Nat.le_refl _, fun _ => z_2, Nat.zero_le _, MB0, AB0, MB0, AB0⟩
theorem RI0 : RI S0 := ⟨fun _ => z_1, fun _ => z_1, Nat.zero_le _, fun _ => z_2, Nat.zero_le _, fun _ => z_2, fun _ => z_2, fun _ => z_2, Nat.zero_le _, fun _ => z_2, fun _ => z_2, fun _ => z_2, Nat.zero_le _, fun _ => z_2, fun _ => z_2, fun _ => z_2, Nat.zero_le _⟩
theorem Rel0 : Rel B0 S0 := by
  refine ⟨BI0, RI0, ⟨rfl, fun i j _ h => absurd h (Nat.not_lt_zero j), fun x => ⟨fun h => ?_, fun h => absurd h.1 (Nat.not_lt_zero _)⟩⟩, fun _ _ => rfl, ⟨rfl, rfl, rfl, fun _ => rfl, fun _ => rfl, fun h => Bool.noConfusion h⟩, fun h => Bool.noConfusion h, fun h => Bool.noConfusion h⟩
  obtain ⟨i, hi, _⟩ := h
  exact absurd hi (Nat.not_lt_zero i)
