set_option maxHeartbeats 4000000 in
set_option maxRecDepth 100000 in
theorem law_loop {p : Program} {l : Launch} {e : Env} {s : State} {m : MethodId} {below : List Frame} {meth : Method} {c : Code} {D : va_G} {cI cZ : ClassId} {bb qq b L : Nat} {u v : Nat → Nat} {xs : Nat → Int32} (hr : meth.sig.returnType = ret) (hlocks : meth.locks = false) (C : CallFix p m c cL_law 4 s #[Value.ref b] TB RL) (hX : va_X b L xs s s.heap) (hbl : b < s.heap.size) (hL : L ≤ 2560) (hK : va_K D vwCl (tyz cI cZ) s) :
    ∀ (n i : Nat), L + 1 ≤ i + n → i ≤ 2600 → ∀ (B : BS) (S : RS) (H : Heap) (locs : List Loc) (ls : Array Slot), Rel B S → va_P D vwCl (wLW cI cZ bb u qq v B S) H → va_D (AL s) (wLW cI cZ bb u qq v B S) → va_S (AL s) s.heap H locs → lv_has ls 4 (lsL b bb qq i) → W p l e room_1 s m #[Value.ref b] below meth c H locs 34 4908 (lw_Z below #[Value.ref b] s) (F0 m 18 ls []) := by
  have hbA : ¬ AL s b := Nat.not_le.mpr hbl
  have fin : ∀ (i : Nat), L < i + 5 → i ≤ 2600 → ∀ (B : BS) (S : RS) (H : Heap) (locs : List Loc) (ls : Array Slot), va_S (AL s) s.heap H locs → W p l e room_1 s m #[Value.ref b] below meth c H locs 34 4908 (lw_Z below #[Value.ref b] s) (F0 m 870 ls []) := by
    intro i h1 h2 B S H locs ls hS
    refine lv_iconst (v := 1) C.1 C.2.1 dL_law_870 (by decide) ?_
    refine va_forget (fun q hq => hS.2.2 q hq) ?_
    refine W.widen (k := 600000) (n := 7302250) (by decide) (by decide) ?_
    exact lw_ret C.1 C.2.1 hr hlocks dL_law_871
  have go : ∀ (i : Nat), i ≤ 2600 → ∀ (B : BS) (S : RS) (H : Heap) (locs : List Loc) (ls : Array Slot), Rel B S → va_P D vwCl (wLW cI cZ bb u qq v B S) H → va_D (AL s) (wLW cI cZ bb u qq v B S) → va_S (AL s) s.heap H locs → lv_has ls 4 (lsL b bb qq i) → (i + 5 ≤ L → ∀ (B : BS) (S : RS) (H : Heap) (locs : List Loc), Rel B S → va_P D vwCl (wLW cI cZ bb u qq v B S) H → va_D (AL s) (wLW cI cZ bb u qq v B S) → va_S (AL s) s.heap H locs → W p l e room_1 s m #[Value.ref b] below meth c H locs 34 4908 (lw_Z below #[Value.ref b] s) (F0 m 864 ls [])) → W p l e room_1 s m #[Value.ref b] below meth c H locs 34 4908 (lw_Z below #[Value.ref b] s) (F0 m 18 ls []) := by
    intro i hi2 B S H locs ls h hP hD hS hl kk
    refine lv_iload_n C.1 C.2.1 dL_law_18 rfl (lv_at hl 3 rfl) ?_
    refine lv_aload_n C.1 C.2.1 dL_law_19 rfl (lv_at hl 0 rfl) ?_
    refine va_slen C.1 C.2.1 hX hbl hbA hS dL_law_20 ?_
    rw [show Int32.ofNat L = J ((L : Nat) : Int) from (J_nI L).symm]
    refine jv_iconst C dL_law_21 ?_
    refine jv_isub (z := (L : Int) - 5) C dL_law_22 rfl ?_
    refine jv_icmp_gt (tgt := 870) C dL_law_23 (by decide) ⟨⟨by omega, by omega⟩, ⟨by omega, by omega⟩⟩ (fun q => ?_) (fun q => ?_)
    · exact fin i (by omega) hi2 B S H locs ls hS
    · have hi : i + 5 ≤ L := by omega
      refine lv_aload_n C.1 C.2.1 dL_law_26 rfl (lv_at hl 0 rfl) ?_
      refine lv_iload_n C.1 C.2.1 dL_law_27 rfl (lv_at hl 3 rfl) ?_
      refine va_sld C.1 C.2.1 hX hbl hbA hS (J_in (by omega) (by omega)) dL_law_28 ?_
      refine jv_bipush (n := 31) C dL_law_29 rfl ?_
      refine lv_iand C.1 C.2.1 dL_law_31 ?_
      exact law_switch C hX hbl hL hi hK h hP hD hS hl _ (kk hi)
  intro n
  induction n with
  | zero =>
    intro i h1 h2 B S H locs ls h hP hD hS hl
    exact go i h2 B S H locs ls h hP hD hS hl (fun q => absurd q (by omega))
  | succ n ih =>
    intro i h1 h2 B S H locs ls h hP hD hS hl
    refine go i h2 B S H locs ls h hP hD hS hl (fun hi B S H locs h hP hD hS => ?_)
    refine lv_iinc (v := J ((i + 5 : Nat) : Int)) (lv' := [(3, .int (J ((i + 5 : Nat) : Int))), (0, .ref b), (1, .ref bb), (2, .ref qq)]) C.1 C.2.1 dL_law_864 hl (k := 3) rfl (by rw [show Int32.ofInt 5 = J 5 from rfl, J_add]; rfl) (by decide) rfl (fun ls hl => ?_)
    refine lv_goto (tgt := 18) C.1 C.2.1 dL_law_867 (by decide) ?_
    exact ih (i + 5) (by omega) (by omega) B S H locs ls h hP hD hS (lv_sub hl [1, 2, 3, 0] rfl)
theorem mem_nest : (Cond.methodLinkNest "SignBench" 9 ⟨"SignBench$Points", "<init>", "()V"⟩ "SignBench") ∈ lw_tbl := List.mem_append_right _ (List.mem_append_left _ (List.mem_of_getElem? (i := 18) rfl))
set_option maxHeartbeats 4000000 in
set_option maxRecDepth 100000 in
theorem whole_start {p : Program} {e : Env} {s : State} {m : MethodId} {below : List Frame} {meth : Method} {c : Code} (l : Launch) {b L : Nat} {xs : Nat → Int32} (hL : L ≤ 2560) (C0 : lw_At p s m meth c b L xs) : W p l e room_1 s m #[Value.ref b] below meth c s.heap [] 0 0 (lw_Z below #[Value.ref b] s) (entryFrame m ([Value.ref b] : List Value).toArray 4) := by
  obtain ⟨hx, hb, hr, hml, hown, hts0, hX, hbl, hlocks, hgv⟩ := id C0
  have hts : ∀ w ∈ TB, w.before #[Value.ref b] s = true := fun w hw => hts0 w (TB_lw hw)
  have C : CallFix p m c cL_law 4 s #[Value.ref b] TB RL := ⟨hx, hb, hml, hown, hts⟩
  have hA : ∀ q : Nat, s.heap.size ≤ q → AL s q := fun _ h => h
  have hNw : va_Nw (.methodLinkNest RX3 9 yX2_init "SignBench") s := va_Nw.of rfl (hts0 _ mem_nest)
  obtain ⟨c0, i0, hK0⟩ := u_known (C := RX0) (T := TX0) (N := 6) (n := 6) hts inX0 (hts _ mw_71)
  obtain ⟨c1, i1, hK1⟩ := u_known (C := RX1) (T := TX1) (N := 3) (n := 3) hts inX1 (hts _ mw_53)
  obtain ⟨c2, i2, hK2⟩ := u_known (C := RX2) (T := TX2) (N := 6) (n := 6) hts inX2 (hts _ mw_17)
  obtain ⟨c3, i3, hK3⟩ := u_known (C := RX3) (T := TX3) (N := 9) (n := 9) hts inX3 (hts _ mw_9)
  obtain ⟨c4, i4, hK4⟩ := u_known (C := RX4) (T := TX4) (N := 24) (n := 24) hts inX4 (hts _ mw_464)
  obtain ⟨D, hKc⟩ : ∃ (D : va_G), ∀ (k : Nat) (q : vw_C), vwCl[k]? = some q → u_Kn s q.1 q.2.1 q.2.2 (D.1 k) (D.2 k) := by
    refine ⟨(fun k => match k with | 0 => c0 | 1 => c1 | 2 => c2 | 3 => c3 | _ => c4, fun k => match k with | 0 => i0 | 1 => i1 | 2 => i2 | 3 => i3 | _ => i4), ?_⟩
    intro k q hq
    match k, hq with
    | 0, hq => cases hq; exact hK0
    | 1, hq => cases hq; exact hK1
    | 2, hq => cases hq; exact hK2
    | 3, hq => cases hq; exact hK3
    | 4, hq => cases hq; exact hK4
    | k + 5, hq => simp [vwCl] at hq
  obtain ⟨cI, kI, coI, fI, hkI, hcI⟩ := Cond.arrayClass_spec (hts _ mw_50)
  obtain ⟨cZ, kZ, coZ, fZ, hkZ, hcZ⟩ := Cond.arrayClass_spec (hts _ mw_51)
  have hK : va_K D vwCl (tyz cI cZ) s := by
    refine ⟨hKc, fun k q hq => ?_⟩
    match k, hq with
    | 0, hq => cases hq; exact ⟨fun n z => ⟨fun k h => (by cases h), kI, hkI, coI, hcI⟩, fI⟩
    | 1, hq => cases hq; exact ⟨fun n z => ⟨fun k h => (by cases h), kZ, hkZ, coZ, hcZ⟩, fZ⟩
    | k + 2, hq => simp at hq
  have hS : va_S (AL s) s.heap s.heap [] := va_S.rf
  have hP : va_P D vwCl [] s.heap := fun k q h => by simp at h
  have hD : va_D (AL s) [] := ⟨fun i j p q h => by simp at h, fun k q h => by simp at h⟩
  have hl := lv_entry ([.ref b]) (n := 4) (Nat.le_of_ble_eq_true rfl)
  rw [lg_entry_eq]
  generalize (lg_sl ([.ref b]) ++ List.replicate (4 - (lg_sl ([.ref b])).length) Slot.unset).toArray = ls at hl ⊢
  have hl : lv_has ls 4 [(0, .ref b)] := hl
  refine jn_new (ci := 3) (N := 9) C inX3 fp_X3 mw_8 mw_9 mw_1 hK hP hD hS hA rfl [.null, .null, .null, .null, .null, .int (J 0), .int (J 0), .int (J 0), .int (J 0)] (fun j hj => by rcases (show j = 0 ∨ j = 1 ∨ j = 2 ∨ j = 3 ∨ j = 4 ∨ j = 5 ∨ j = 6 ∨ j = 7 ∨ j = 8 by omega) with rfl | rfl | rfl | rfl | rfl | rfl | rfl | rfl | rfl <;> rfl) (by decide) dL_law_0 (fun bb H hP hD hS => ?_)
  refine lv_dup C.1 C.2.1 dL_law_3 rfl ?_
  refine jn_callI (ni := 0) (wr := []) C [] [.ref bb] (c_X3_init (bb := bb)) mw_12 mw_1 mw_10 mw_11 rfl (by decide +kernel) (by decide) (fun u U h q => va_Nw.same rfl h q) (fun U hW => va_Nw.warmM hW hNw) hK hP hD hS hA [0] [] rfl (by decide) rfl (by decide) (by decide) rfl hl.1 (Nat.le_of_ble_eq_true rfl) dL_law_4 (by decide) (fun u H locs hP hD hS => ?_) rfl
  refine lv_astore_n (lv' := [(1, .ref bb), (0, .ref b)]) C.1 C.2.1 dL_law_7 rfl hl (by decide) rfl (fun ls hl => ?_)
  refine jn_new (ci := 4) (N := 24) C inX4 fp_X4 mw_463 mw_464 mw_6 hK hP hD hS hA rfl [.null, .null, .null, .null, .int (J 0), .int (J 0), .int (J 0), .null, .null, .null, .null, .int (J 0), .int (J 0), .int (J 0), .int (J 0), .null, .null, .null, .int (J 0), .int (J 0), .null, .null, .null, .int (J 0)] (fun j hj => by rcases (show j = 0 ∨ j = 1 ∨ j = 2 ∨ j = 3 ∨ j = 4 ∨ j = 5 ∨ j = 6 ∨ j = 7 ∨ j = 8 ∨ j = 9 ∨ j = 10 ∨ j = 11 ∨ j = 12 ∨ j = 13 ∨ j = 14 ∨ j = 15 ∨ j = 16 ∨ j = 17 ∨ j = 18 ∨ j = 19 ∨ j = 20 ∨ j = 21 ∨ j = 22 ∨ j = 23 by omega) with rfl | rfl | rfl | rfl | rfl | rfl | rfl | rfl | rfl | rfl | rfl | rfl | rfl | rfl | rfl | rfl | rfl | rfl | rfl | rfl | rfl | rfl | rfl | rfl <;> rfl) (by decide) dL_law_8 (fun qq H hP hD hS => ?_)
  refine lv_dup C.1 C.2.1 dL_law_11 rfl ?_
  refine jn_callI (ni := 0) (wr := wBS cI cZ bb (u 0) (u 1) (u 2) (u 3) (u 4) (u 5) (u 6) (u 7) (u 8) (u 9) (u 10) (u 11) (u 12) (u 13) (u 14) (u 15) (u 16) (u 17) B0) C [] [.ref qq] (c_X4_init (qq := qq)) mw_467 mw_6 mw_465 mw_466 rfl (by decide +kernel) (by decide) (fun _ _ _ _ => trivial) (fun _ _ => trivial) hK hP hD hS hA [19] [0, 1, 2, 3, 4, 5, 6, 7, 8, 9, 10, 11, 12, 13, 14, 15, 16, 17, 18] rfl (by decide) rfl (by decide) (by decide) rfl hl.1 (Nat.le_of_ble_eq_true rfl) dL_law_12 (by decide) (fun v H locs hP hD hS => ?_) rfl
  refine lv_astore_n (lv' := [(2, .ref qq), (1, .ref bb), (0, .ref b)]) C.1 C.2.1 dL_law_15 rfl hl (by decide) rfl (fun ls hl => ?_)
  refine jv_iconst C dL_law_16 ?_
  refine lv_istore_n (lv' := [(3, .int (J 0)), (2, .ref qq), (1, .ref bb), (0, .ref b)]) C.1 C.2.1 dL_law_17 rfl hl (by decide) rfl (fun ls hl => ?_)
  exact law_loop (u := u) (v := v) hr hlocks C hX hbl hL hK (L + 1) 0 (by omega) (by omega) B0 S0 _ _ ls Rel0 hP hD hS (lv_sub hl [3, 2, 1, 0] rfl)

