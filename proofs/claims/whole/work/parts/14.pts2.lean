section PTS2
variable {l : Launch} {D : va_G} {cI cZ : ClassId} {pp ax ay at_ ao : Nat} {X Y : Nat → Int} {T : Nat → Bool} {O : Nat → Nat} {told pres : Nat}
set_option maxRecDepth 20000 in
theorem c_X2_comesEarlierAround {a b k : Nat} (hB : PB X Y O told pres) (ha : a < 40) (hb : b < 40) (hk : k < 40) : cR l yX2_comesEarlierAround cX2_comesEarlierAround 7 (some .boolean) 2 47 D (tyz cI cZ) [.ref pp, .int (J ((a : Nat) : Int)), .int (J ((b : Nat) : Int)), .int (J ((k : Nat) : Int))] (wPts cI cZ pp ax ay at_ ao X Y T O told pres) (some (.int (J (b2i (eara X Y a b k))))) := by
  refine cR_of (owner := RX2) rfl (by decide) (Nat.le_of_ble_eq_true rfl) ?_
  intro p e s m args below meth c ls C hlk hr hK hP hl
  have hl : lv_has ls 7 [(0, .ref pp), (1, .int (J ((a : Nat) : Int))), (2, .int (J ((b : Nat) : Int))), (3, .int (J ((k : Nat) : Int)))] := hl
  obtain ⟨hX, hY, hO, htd, hps⟩ := hB
  refine lv_aload_n C.1 C.2.1 dX2_comesEarlierAround_0 rfl (lv_at hl 0 rfl) ?_
  refine lv_iload_n C.1 C.2.1 dX2_comesEarlierAround_1 rfl (lv_at hl 1 rfl) ?_
  refine lv_iload_n C.1 C.2.1 dX2_comesEarlierAround_2 rfl (lv_at hl 2 rfl) ?_
  refine jv_rdV (ni := 2) (ci := 2) (q0 := 0) C [.int (J ((a : Nat) : Int)), .int (J ((b : Nat) : Int))] [] (c_X2_isInLaterHalf (a := a) (b := b) ⟨hX, hY, hO, htd, hps⟩ (by omega) (by omega)) gv_X2_68 (by decide +kernel) (by decide) hK (hP) rfl rfl rfl hl.1 (by simp [Value.category]) dX2_comesEarlierAround_3 (by decide) ?_ rfl
  show W _ _ _ _ _ _ _ _ _ _ _ _ _ _ _ (F0 m 6 ls [.int (J (b2i (late X Y a b)))])
  refine lv_istore (lv' := [(4, .int (J (b2i (late X Y a b)))), (0, .ref pp), (1, .int (J ((a : Nat) : Int))), (2, .int (J ((b : Nat) : Int))), (3, .int (J ((k : Nat) : Int)))]) C.1 C.2.1 dX2_comesEarlierAround_6 hl (by decide) rfl (fun ls hl => ?_)
  refine lv_iload C.1 C.2.1 dX2_comesEarlierAround_8 (lv_at hl 0 rfl) ?_
  refine lv_aload_n C.1 C.2.1 dX2_comesEarlierAround_10 rfl (lv_at hl 1 rfl) ?_
  refine lv_iload_n C.1 C.2.1 dX2_comesEarlierAround_11 rfl (lv_at hl 2 rfl) ?_
  refine lv_iload_n C.1 C.2.1 dX2_comesEarlierAround_12 rfl (lv_at hl 4 rfl) ?_
  refine jv_rdV (ni := 2) (ci := 2) (q0 := 0) C [.int (J ((a : Nat) : Int)), .int (J ((k : Nat) : Int))] [.int (J (b2i (late X Y a b)))] (c_X2_isInLaterHalf (a := a) (b := k) ⟨hX, hY, hO, htd, hps⟩ (by omega) (by omega)) gv_X2_68 (by decide +kernel) (by decide) hK (hP) rfl rfl rfl hl.1 (by simp [Value.category]) dX2_comesEarlierAround_13 (by decide) ?_ rfl
  show W _ _ _ _ _ _ _ _ _ _ _ _ _ _ _ (F0 m 16 ls [.int (J (b2i (late X Y a k))), .int (J (b2i (late X Y a b)))])
  refine jv_icmp_eq (tgt := 30) C dX2_comesEarlierAround_16 (by decide) (⟨b2i_R _, b2i_R _⟩) (fun h1 => ?_) (fun h1 => ?_)
  · refine lv_aload_n C.1 C.2.1 dX2_comesEarlierAround_30 rfl (lv_at hl 1 rfl) ?_
    refine lv_iload_n C.1 C.2.1 dX2_comesEarlierAround_31 rfl (lv_at hl 2 rfl) ?_
    refine lv_iload_n C.1 C.2.1 dX2_comesEarlierAround_32 rfl (lv_at hl 3 rfl) ?_
    refine lv_iload_n C.1 C.2.1 dX2_comesEarlierAround_33 rfl (lv_at hl 4 rfl) ?_
    refine jv_rdV (ni := 3) (ci := 2) (q0 := 0) C [.int (J ((a : Nat) : Int)), .int (J ((b : Nat) : Int)), .int (J ((k : Nat) : Int))] [] (c_X2_leftness (a := a) (b := b) (k := k) ⟨hX, hY, hO, htd, hps⟩ (by omega) (by omega) (by omega)) gv_X2_40 (by decide +kernel) (by decide) hK (hP) rfl rfl rfl hl.1 (by simp [Value.category]) dX2_comesEarlierAround_34 (by decide) ?_ rfl
    show W _ _ _ _ _ _ _ _ _ _ _ _ _ _ _ (F0 m 37 ls [.long (Lg (le3 X Y a b k))])
    have f2 := le3_bd hX hY a b k
    refine lv_lstore (lv' := [(5, .long (Lg (le3 X Y a b k))), (4, .int (J (b2i (late X Y a b)))), (0, .ref pp), (1, .int (J ((a : Nat) : Int))), (2, .int (J ((b : Nat) : Int))), (3, .int (J ((k : Nat) : Int)))]) C.1 C.2.1 dX2_comesEarlierAround_37 hl (by decide) rfl (fun ls hl => ?_)
    refine lv_lload C.1 C.2.1 dX2_comesEarlierAround_39 (lv_at hl 0 rfl) ?_
    refine jv_lconst (z := 0) C dX2_comesEarlierAround_41 rfl ?_
    refine jv_lcmp_eq (tgt := 59) C dX2_comesEarlierAround_42 dX2_comesEarlierAround_43 (by decide) (by omega) (fun h3 => ?_) (fun h3 => ?_)
    · refine lv_aload_n C.1 C.2.1 dX2_comesEarlierAround_59 rfl (lv_at hl 2 rfl) ?_
      refine lv_iload_n C.1 C.2.1 dX2_comesEarlierAround_60 rfl (lv_at hl 4 rfl) ?_
      refine lv_aload_n C.1 C.2.1 dX2_comesEarlierAround_61 rfl (lv_at hl 2 rfl) ?_
      refine jv_get C fw_X2_9 hK hP 0 rfl rfl dX2_comesEarlierAround_62 ?_
      refine lv_iload_n C.1 C.2.1 dX2_comesEarlierAround_65 rfl (lv_at hl 3 rfl) ?_
      refine jv_iald C hK hP 1 0 rfl rfl (a) (by omega) (by omega) (by decide) dX2_comesEarlierAround_66 ?_
      have f4 := hX a
      refine lv_aload_n C.1 C.2.1 dX2_comesEarlierAround_67 rfl (lv_at hl 2 rfl) ?_
      refine jv_get C fw_X2_15 hK hP 0 rfl rfl dX2_comesEarlierAround_68 ?_
      refine lv_iload_n C.1 C.2.1 dX2_comesEarlierAround_71 rfl (lv_at hl 3 rfl) ?_
      refine jv_iald C hK hP 2 0 rfl rfl (a) (by omega) (by omega) (by decide) dX2_comesEarlierAround_72 ?_
      have f5 := hY a
      refine jv_rdV (ni := 3) (ci := 2) (q0 := 0) C [.int (J ((b : Nat) : Int)), .int (J (X a)), .int (J (Y a))] [] (c_X2_squareTo (a := b) (x := X a) (y := Y a) ⟨hX, hY, hO, htd, hps⟩ (by omega) (by omega) (by omega)) gv_X2_52 (by decide +kernel) (by decide) hK (hP) rfl rfl rfl hl.1 (by simp [Value.category]) dX2_comesEarlierAround_73 (by decide) ?_ rfl
      show W _ _ _ _ _ _ _ _ _ _ _ _ _ _ _ (F0 m 76 ls [.long (Lg (sq X Y b (X a) (Y a)))])
      have f6 := sq_bd hX hY b (x := X a) (y := Y a) (by omega) (by omega)
      refine lv_aload_n C.1 C.2.1 dX2_comesEarlierAround_76 rfl (lv_at hl 2 rfl) ?_
      refine lv_iload_n C.1 C.2.1 dX2_comesEarlierAround_77 rfl (lv_at hl 5 rfl) ?_
      refine lv_aload_n C.1 C.2.1 dX2_comesEarlierAround_78 rfl (lv_at hl 2 rfl) ?_
      refine jv_get C fw_X2_9 hK hP 0 rfl rfl dX2_comesEarlierAround_79 ?_
      refine lv_iload_n C.1 C.2.1 dX2_comesEarlierAround_82 rfl (lv_at hl 3 rfl) ?_
      refine jv_iald C hK hP 1 0 rfl rfl (a) (by omega) (by omega) (by decide) dX2_comesEarlierAround_83 ?_
      have f7 := hX a
      refine lv_aload_n C.1 C.2.1 dX2_comesEarlierAround_84 rfl (lv_at hl 2 rfl) ?_
      refine jv_get C fw_X2_15 hK hP 0 rfl rfl dX2_comesEarlierAround_85 ?_
      refine lv_iload_n C.1 C.2.1 dX2_comesEarlierAround_88 rfl (lv_at hl 3 rfl) ?_
      refine jv_iald C hK hP 2 0 rfl rfl (a) (by omega) (by omega) (by decide) dX2_comesEarlierAround_89 ?_
      have f8 := hY a
      refine jv_rdV (ni := 3) (ci := 2) (q0 := 0) C [.int (J ((k : Nat) : Int)), .int (J (X a)), .int (J (Y a))] [.long (Lg (sq X Y b (X a) (Y a)))] (c_X2_squareTo (a := k) (x := X a) (y := Y a) ⟨hX, hY, hO, htd, hps⟩ (by omega) (by omega) (by omega)) gv_X2_52 (by decide +kernel) (by decide) hK (hP) rfl rfl rfl hl.1 (by simp [Value.category]) dX2_comesEarlierAround_90 (by decide) ?_ rfl
      show W _ _ _ _ _ _ _ _ _ _ _ _ _ _ _ (F0 m 93 ls [.long (Lg (sq X Y k (X a) (Y a))), .long (Lg (sq X Y b (X a) (Y a)))])
      have f9 := sq_bd hX hY k (x := X a) (y := Y a) (by omega) (by omega)
      refine jv_lcmp_ge (tgt := 101) C dX2_comesEarlierAround_93 dX2_comesEarlierAround_94 (by decide) (by omega) (fun h10 => ?_) (fun h10 => ?_)
      · refine jv_iconst C dX2_comesEarlierAround_101 ?_
        exact jv_zret C hlk hr dX2_comesEarlierAround_102 (by grind [eara, b2i])
      · refine jv_iconst C dX2_comesEarlierAround_97 ?_
        refine lv_goto (tgt := 102) C.1 C.2.1 dX2_comesEarlierAround_98 (by decide) ?_
        exact jv_zret C hlk hr dX2_comesEarlierAround_102 (by grind [eara, b2i])
    · refine lv_lload C.1 C.2.1 dX2_comesEarlierAround_46 (lv_at hl 0 rfl) ?_
      refine jv_lconst (z := 0) C dX2_comesEarlierAround_48 rfl ?_
      refine jv_lcmp_le (tgt := 57) C dX2_comesEarlierAround_49 dX2_comesEarlierAround_50 (by decide) (by omega) (fun h11 => ?_) (fun h11 => ?_)
      · refine jv_iconst C dX2_comesEarlierAround_57 ?_
        exact jv_zret C hlk hr dX2_comesEarlierAround_58 (by grind [eara, b2i])
      · refine jv_iconst C dX2_comesEarlierAround_53 ?_
        refine lv_goto (tgt := 58) C.1 C.2.1 dX2_comesEarlierAround_54 (by decide) ?_
        exact jv_zret C hlk hr dX2_comesEarlierAround_58 (by grind [eara, b2i])
  · refine lv_iload C.1 C.2.1 dX2_comesEarlierAround_19 (lv_at hl 0 rfl) ?_
    refine jv_bif_ne (tgt := 28) C dX2_comesEarlierAround_21 (by decide) (fun h12 => ?_) (fun h12 => ?_)
    · refine jv_iconst C dX2_comesEarlierAround_28 ?_
      exact jv_zret C hlk hr dX2_comesEarlierAround_29 (by grind [eara, b2i])
    · refine jv_iconst C dX2_comesEarlierAround_24 ?_
      refine lv_goto (tgt := 29) C.1 C.2.1 dX2_comesEarlierAround_25 (by decide) ?_
      exact jv_zret C hlk hr dX2_comesEarlierAround_29 (by grind [eara, b2i])
set_option maxRecDepth 20000 in
theorem lp_X2_numberAt_2 {p : Program} {e : Env} {s : State} {m : MethodId} {args : Array Value} {below : List Frame} {meth : Method} {c : Code} {x y : Int} (C : CallFix p m c cX2_numberAt 4 s args TB RX2) (hlk : meth.locks = false) (hr : meth.sig.returnType = (some .int)) (hK : va_K D vwCl (tyz cI cZ) s) (hP : va_P D vwCl (wPts cI cZ pp ax ay at_ ao X Y T O told pres) s.heap)  (hB : PB X Y O told pres) (hx : R3 x) (hy : R3 y) :
    ∀ (n : Nat) (i : Nat), told < i + n → i ≤ told → ∀ (rv : Int), rv = oI (-1) (ff (atP X Y T x y) told i) → ∀ ls : Array Slot, lv_has ls 4 [(0, .ref pp), (1, .int (J x)), (2, .int (J y)), (3, .int (J ((i : Nat) : Int)))] → W p l e { frames := 0, cells := 0, slots := 0, locals := 0 } s m args below meth c s.heap [] 0 0 (MQ below (QR (some (.int (J rv)))) args s 0 0 (fun _ => False)) (F0 m 2 ls []) := by
  obtain ⟨hX, hY, hO, htd, hps⟩ := hB
  intro n
  induction n with
  | zero => intro i hi0 hi1; omega
  | succ n ih =>
    intro i hi0 hi1 rv hrv ls hl
    refine lv_iload_n C.1 C.2.1 dX2_numberAt_2 rfl (lv_at hl 3 rfl) ?_
    refine lv_aload_n C.1 C.2.1 dX2_numberAt_3 rfl (lv_at hl 0 rfl) ?_
    refine jv_get C fw_X2_25 hK hP 0 rfl rfl dX2_numberAt_4 ?_
    refine jv_icmp_ge (tgt := 47) C dX2_numberAt_7 (by decide) (by omega) (fun h1 => ?_) (fun h1 => ?_)
    · refine jv_iconst C dX2_numberAt_47 ?_
      exact jv_iret C hlk hr dX2_numberAt_48 (by rw [hrv, ff_end (by omega)]; rfl)
    · refine lv_aload_n C.1 C.2.1 dX2_numberAt_10 rfl (lv_at hl 0 rfl) ?_
      refine jv_get C fw_X2_18 hK hP 0 rfl rfl dX2_numberAt_11 ?_
      refine lv_iload_n C.1 C.2.1 dX2_numberAt_14 rfl (lv_at hl 3 rfl) ?_
      refine jv_zald C hK hP 3 1 rfl rfl (i) (by omega) (by omega) (by decide) dX2_numberAt_15 ?_
      refine jv_bif_eq (tgt := 41) C dX2_numberAt_16 (by decide) (fun h2 => ?_) (fun h2 => ?_)
      · refine lv_iinc (v := J (((i + 1 : Nat) : Int))) (lv' := [(3, .int (J ((i + 1 : Nat) : Int))), (0, .ref pp), (1, .int (J x)), (2, .int (J y))]) C.1 C.2.1 dX2_numberAt_41 hl (k := 3) rfl (by rw [show Int32.ofInt 1 = J 1 from rfl, J_add]; exact congrArg J (by omega)) (by decide) rfl (fun ls hl => ?_)
        refine lv_goto (tgt := 2) C.1 C.2.1 dX2_numberAt_44 (by decide) ?_
        exact ih (i + 1) (by omega) (by omega) rv (by rw [hrv, ff_go (by omega) (by grind [atP])]) ls (lv_sub hl [1, 2, 3, 0] rfl)
      · refine lv_aload_n C.1 C.2.1 dX2_numberAt_19 rfl (lv_at hl 0 rfl) ?_
        refine jv_get C fw_X2_9 hK hP 0 rfl rfl dX2_numberAt_20 ?_
        refine lv_iload_n C.1 C.2.1 dX2_numberAt_23 rfl (lv_at hl 3 rfl) ?_
        refine jv_iald C hK hP 1 0 rfl rfl (i) (by omega) (by omega) (by decide) dX2_numberAt_24 ?_
        have f3 := hX i
        refine lv_iload_n C.1 C.2.1 dX2_numberAt_25 rfl (lv_at hl 1 rfl) ?_
        refine jv_icmp_ne (tgt := 41) C dX2_numberAt_26 (by decide) (by omega) (fun h4 => ?_) (fun h4 => ?_)
        · refine lv_iinc (v := J (((i + 1 : Nat) : Int))) (lv' := [(3, .int (J ((i + 1 : Nat) : Int))), (0, .ref pp), (1, .int (J x)), (2, .int (J y))]) C.1 C.2.1 dX2_numberAt_41 hl (k := 3) rfl (by rw [show Int32.ofInt 1 = J 1 from rfl, J_add]; exact congrArg J (by omega)) (by decide) rfl (fun ls hl => ?_)
          refine lv_goto (tgt := 2) C.1 C.2.1 dX2_numberAt_44 (by decide) ?_
          exact ih (i + 1) (by omega) (by omega) rv (by rw [hrv, ff_go (by omega) (by grind [atP])]) ls (lv_sub hl [1, 2, 3, 0] rfl)
        · refine lv_aload_n C.1 C.2.1 dX2_numberAt_29 rfl (lv_at hl 0 rfl) ?_
          refine jv_get C fw_X2_15 hK hP 0 rfl rfl dX2_numberAt_30 ?_
          refine lv_iload_n C.1 C.2.1 dX2_numberAt_33 rfl (lv_at hl 3 rfl) ?_
          refine jv_iald C hK hP 2 0 rfl rfl (i) (by omega) (by omega) (by decide) dX2_numberAt_34 ?_
          have f5 := hY i
          refine lv_iload_n C.1 C.2.1 dX2_numberAt_35 rfl (lv_at hl 2 rfl) ?_
          refine jv_icmp_ne (tgt := 41) C dX2_numberAt_36 (by decide) (by omega) (fun h6 => ?_) (fun h6 => ?_)
          · refine lv_iinc (v := J (((i + 1 : Nat) : Int))) (lv' := [(3, .int (J ((i + 1 : Nat) : Int))), (0, .ref pp), (1, .int (J x)), (2, .int (J y))]) C.1 C.2.1 dX2_numberAt_41 hl (k := 3) rfl (by rw [show Int32.ofInt 1 = J 1 from rfl, J_add]; exact congrArg J (by omega)) (by decide) rfl (fun ls hl => ?_)
            refine lv_goto (tgt := 2) C.1 C.2.1 dX2_numberAt_44 (by decide) ?_
            exact ih (i + 1) (by omega) (by omega) rv (by rw [hrv, ff_go (by omega) (by grind [atP])]) ls (lv_sub hl [1, 2, 3, 0] rfl)
          · refine lv_iload_n C.1 C.2.1 dX2_numberAt_39 rfl (lv_at hl 3 rfl) ?_
            exact jv_iret C hlk hr dX2_numberAt_40 (by rw [hrv, ff_hit (by omega) (by grind [atP])]; rfl)
set_option maxRecDepth 20000 in
theorem c_X2_numberAt {x y : Int} (hB : PB X Y O told pres) (hx : R3 x) (hy : R3 y) : cR l yX2_numberAt cX2_numberAt 4 (some .int) 0 0 D (tyz cI cZ) [.ref pp, .int (J x), .int (J y)] (wPts cI cZ pp ax ay at_ ao X Y T O told pres) (some (.int (J (oI (-1) (ff (atP X Y T x y) told 0))))) := by
  refine cR_of (owner := RX2) rfl (by decide) (Nat.le_of_ble_eq_true rfl) ?_
  intro p e s m args below meth c ls C hlk hr hK hP hl
  have hl : lv_has ls 4 [(0, .ref pp), (1, .int (J x)), (2, .int (J y))] := hl
  obtain ⟨hX, hY, hO, htd, hps⟩ := hB
  refine jv_iconst C dX2_numberAt_0 ?_
  refine lv_istore_n (lv' := [(3, .int (J 0)), (0, .ref pp), (1, .int (J x)), (2, .int (J y))]) C.1 C.2.1 dX2_numberAt_1 rfl hl (by decide) rfl (fun ls hl => ?_)
  exact lp_X2_numberAt_2 C hlk hr hK hP ⟨hX, hY, hO, htd, hps⟩ hx hy (told + 1) 0 (by omega) (by omega) _ rfl ls (lv_sub hl [1, 2, 3, 0] rfl)
set_option maxRecDepth 20000 in
theorem lp_X2_firstOffLine_2 {p : Program} {e : Env} {s : State} {m : MethodId} {args : Array Value} {below : List Frame} {meth : Method} {c : Code}  (C : CallFix p m c cX2_firstOffLine 2 s args TB RX2) (hlk : meth.locks = false) (hr : meth.sig.returnType = (some .int)) (hK : va_K D vwCl (tyz cI cZ) s) (hP : va_P D vwCl (wPts cI cZ pp ax ay at_ ao X Y T O told pres) s.heap)  (hB : PB X Y O told pres) :
    ∀ (n : Nat) (i : Nat), pres + 2 < i + n → i ≤ pres + 2 → 2 ≤ i → ∀ (rv : Nat), rv = (ff (offP X Y O) pres i).getD pres → ∀ ls : Array Slot, lv_has ls 2 [(0, .ref pp), (1, .int (J ((i : Nat) : Int)))] → W p l e { frames := 2, cells := 0, slots := 0, locals := 47 } s m args below meth c s.heap [] 0 0 (MQ below (QR (some (.int (J ((rv : Nat) : Int))))) args s 0 0 (fun _ => False)) (F0 m 2 ls []) := by
  obtain ⟨hX, hY, hO, htd, hps⟩ := hB
  intro n
  induction n with
  | zero => intro i hi0 hi1 hi2; omega
  | succ n ih =>
    intro i hi0 hi1 hi2 rv hrv ls hl
    refine lv_iload_n C.1 C.2.1 dX2_firstOffLine_2 rfl (lv_at hl 1 rfl) ?_
    refine lv_aload_n C.1 C.2.1 dX2_firstOffLine_3 rfl (lv_at hl 0 rfl) ?_
    refine jv_get C fw_X2_33 hK hP 0 rfl rfl dX2_firstOffLine_4 ?_
    refine jv_icmp_ge (tgt := 45) C dX2_firstOffLine_7 (by decide) (by omega) (fun h1 => ?_) (fun h1 => ?_)
    · refine lv_aload_n C.1 C.2.1 dX2_firstOffLine_45 rfl (lv_at hl 0 rfl) ?_
      refine jv_get C fw_X2_33 hK hP 0 rfl rfl dX2_firstOffLine_46 ?_
      exact jv_iret C hlk hr dX2_firstOffLine_49 (by rw [hrv, ff_end (by omega)]; rfl)
    · refine lv_aload_n C.1 C.2.1 dX2_firstOffLine_10 rfl (lv_at hl 0 rfl) ?_
      refine lv_aload_n C.1 C.2.1 dX2_firstOffLine_11 rfl (lv_at hl 0 rfl) ?_
      refine jv_get C fw_X2_22 hK hP 0 rfl rfl dX2_firstOffLine_12 ?_
      refine jv_iconst C dX2_firstOffLine_15 ?_
      refine jv_iald C hK hP 4 0 rfl rfl (0) (by omega) (by omega) (by decide) dX2_firstOffLine_16 ?_
      have f2 := hO 0
      refine lv_aload_n C.1 C.2.1 dX2_firstOffLine_17 rfl (lv_at hl 0 rfl) ?_
      refine jv_get C fw_X2_22 hK hP 0 rfl rfl dX2_firstOffLine_18 ?_
      refine jv_iconst C dX2_firstOffLine_21 ?_
      refine jv_iald C hK hP 4 0 rfl rfl (1) (by omega) (by omega) (by decide) dX2_firstOffLine_22 ?_
      have f3 := hO 1
      refine lv_aload_n C.1 C.2.1 dX2_firstOffLine_23 rfl (lv_at hl 0 rfl) ?_
      refine jv_get C fw_X2_22 hK hP 0 rfl rfl dX2_firstOffLine_24 ?_
      refine lv_iload_n C.1 C.2.1 dX2_firstOffLine_27 rfl (lv_at hl 1 rfl) ?_
      refine jv_iald C hK hP 4 0 rfl rfl (i) (by omega) (by omega) (by decide) dX2_firstOffLine_28 ?_
      have f4 := hO i
      refine jv_rdV (ni := 3) (ci := 2) (q0 := 0) C [.int (J ((O 0 : Nat) : Int)), .int (J ((O 1 : Nat) : Int)), .int (J ((O i : Nat) : Int))] [] (c_X2_leftness (a := O 0) (b := O 1) (k := O i) ⟨hX, hY, hO, htd, hps⟩ (by omega) (by omega) (by omega)) gv_X2_40 (by decide +kernel) (by decide) hK (hP) rfl rfl rfl hl.1 (by simp [Value.category]) dX2_firstOffLine_29 (by decide) ?_ rfl
      show W _ _ _ _ _ _ _ _ _ _ _ _ _ _ _ (F0 m 32 ls [.long (Lg (le3 X Y (O 0) (O 1) (O i)))])
      have f5 := le3_bd hX hY (O 0) (O 1) (O i)
      refine jv_lconst (z := 0) C dX2_firstOffLine_32 rfl ?_
      refine jv_lcmp_eq (tgt := 39) C dX2_firstOffLine_33 dX2_firstOffLine_34 (by decide) (by omega) (fun h6 => ?_) (fun h6 => ?_)
      · refine lv_iinc (v := J (((i + 1 : Nat) : Int))) (lv' := [(1, .int (J ((i + 1 : Nat) : Int))), (0, .ref pp)]) C.1 C.2.1 dX2_firstOffLine_39 hl (k := 1) rfl (by rw [show Int32.ofInt 1 = J 1 from rfl, J_add]; exact congrArg J (by omega)) (by decide) rfl (fun ls hl => ?_)
        refine lv_goto (tgt := 2) C.1 C.2.1 dX2_firstOffLine_42 (by decide) ?_
        exact ih (i + 1) (by omega) (by omega) (by omega) rv (by rw [hrv, ff_go (by omega) (by grind [offP])]) ls (lv_sub hl [1, 0] rfl)
      · refine lv_iload_n C.1 C.2.1 dX2_firstOffLine_37 rfl (lv_at hl 1 rfl) ?_
        exact jv_iret C hlk hr dX2_firstOffLine_38 (by rw [hrv, ff_hit (by omega) (by grind [offP])]; rfl)
set_option maxRecDepth 20000 in
theorem c_X2_firstOffLine  (hB : PB X Y O told pres)  : cR l yX2_firstOffLine cX2_firstOffLine 2 (some .int) 2 47 D (tyz cI cZ) [.ref pp] (wPts cI cZ pp ax ay at_ ao X Y T O told pres) (some (.int (J ((fol X Y O pres : Nat) : Int)))) := by
  refine cR_of (owner := RX2) rfl (by decide) (Nat.le_of_ble_eq_true rfl) ?_
  intro p e s m args below meth c ls C hlk hr hK hP hl
  have hl : lv_has ls 2 [(0, .ref pp)] := hl
  obtain ⟨hX, hY, hO, htd, hps⟩ := hB
  refine jv_iconst C dX2_firstOffLine_0 ?_
  refine lv_istore_n (lv' := [(1, .int (J 2)), (0, .ref pp)]) C.1 C.2.1 dX2_firstOffLine_1 rfl hl (by decide) rfl (fun ls hl => ?_)
  exact lp_X2_firstOffLine_2 C hlk hr hK hP ⟨hX, hY, hO, htd, hps⟩ (pres + 3) 2 (by omega) (by omega) (by omega) _ rfl ls (lv_sub hl [1, 0] rfl)
theorem ff_lt {P : Nat → Bool} {n : Nat} : ∀ (k i : Nat), n ≤ i + k → ∀ j, ff P n i = some j → i ≤ j ∧ j < n ∧ P j = true ∧ ∀ q, i ≤ q → q < j → P q = false := by
  intro k
  induction k with
  | zero => intro i h j hj; rw [ff_end (by omega)] at hj; cases hj
  | succ k ih =>
    intro i h j hj
    rcases Nat.lt_or_ge i n with q | q
    · cases hp : P i with
      | true =>
        rw [ff_hit q hp] at hj
        cases hj
        exact ⟨Nat.le_refl _, q, hp, fun a h1 h2 => by omega⟩
      | false =>
        rw [ff_go q hp] at hj
        obtain ⟨h1, h2, h3, h4⟩ := ih (i + 1) (by omega) j hj
        refine ⟨by omega, h2, h3, fun a h5 h6 => ?_⟩
        rcases Nat.eq_or_lt_of_le h5 with h7 | h7
        · rw [← h7]; exact hp
        · exact h4 a h7 h6
    · rw [ff_end q] at hj; cases hj
theorem ff_none {P : Nat → Bool} {n : Nat} : ∀ (k i : Nat), n ≤ i + k → ff P n i = none → ∀ q, i ≤ q → q < n → P q = false := by
  intro k
  induction k with
  | zero => intro i h hj q h1 h2; omega
  | succ k ih =>
    intro i h hj q h1 h2
    rcases Nat.lt_or_ge i n with w | w
    · cases hp : P i with
      | true => rw [ff_hit w hp] at hj; cases hj
      | false =>
        rw [ff_go w hp] at hj
        rcases Nat.eq_or_lt_of_le h1 with h7 | h7
        · rw [← h7]; exact hp
        · exact ih (i + 1) (by omega) hj q h7 h2
    · omega
theorem fol_le (X Y : Nat → Int) (O : Nat → Nat) (pres : Nat) : fol X Y O pres ≤ pres := by
  unfold fol
  cases h : ff (offP X Y O) pres 2 with
  | none => exact Nat.le_refl _
  | some j => exact Nat.le_of_lt (ff_lt pres 2 (by omega) j h).2.1
set_option maxRecDepth 20000 in
theorem c_X2_areFlat  (hB : PB X Y O told pres)  : cR l yX2_areFlat cX2_areFlat 1 (some .boolean) 3 68 D (tyz cI cZ) [.ref pp] (wPts cI cZ pp ax ay at_ ao X Y T O told pres) (some (.int (J (b2i (decide (pres ≤ fol X Y O pres)))))) := by
  refine cR_of (owner := RX2) rfl (by decide) (Nat.le_of_ble_eq_true rfl) ?_
  intro p e s m args below meth c ls C hlk hr hK hP hl
  have hl : lv_has ls 1 [(0, .ref pp)] := hl
  obtain ⟨hX, hY, hO, htd, hps⟩ := hB
  have hfl := fol_le X Y O pres
  refine lv_aload_n C.1 C.2.1 dX2_areFlat_0 rfl (lv_at hl 0 rfl) ?_
  refine jv_rdV (ni := 0) (ci := 2) (q0 := 0) C [] [] (c_X2_firstOffLine ⟨hX, hY, hO, htd, hps⟩) gv_X2_44 (by decide +kernel) (by decide) hK (hP) rfl rfl rfl hl.1 (by simp [Value.category]) dX2_areFlat_1 (by decide) ?_ rfl
  show W _ _ _ _ _ _ _ _ _ _ _ _ _ _ _ (F0 m 4 ls [.int (J ((fol X Y O pres : Nat) : Int))])
  refine lv_aload_n C.1 C.2.1 dX2_areFlat_4 rfl (lv_at hl 0 rfl) ?_
  refine jv_get C fw_X2_33 hK hP 0 rfl rfl dX2_areFlat_5 ?_
  refine jv_icmp_lt (tgt := 15) C dX2_areFlat_8 (by decide) (by omega) (fun h1 => ?_) (fun h1 => ?_)
  · refine jv_iconst C dX2_areFlat_15 ?_
    exact jv_zret C hlk hr dX2_areFlat_16 (by grind [b2i])
  · refine jv_iconst C dX2_areFlat_11 ?_
    refine lv_goto (tgt := 16) C.1 C.2.1 dX2_areFlat_12 (by decide) ?_
    exact jv_zret C hlk hr dX2_areFlat_16 (by grind [b2i])
set_option maxRecDepth 20000 in
theorem lp_X2_rankAround_5 {p : Program} {e : Env} {s : State} {m : MethodId} {args : Array Value} {below : List Frame} {meth : Method} {c : Code} {a b : Nat} (C : CallFix p m c cX2_rankAround 6 s args TB RX2) (hlk : meth.locks = false) (hr : meth.sig.returnType = (some .int)) (hK : va_K D vwCl (tyz cI cZ) s) (hP : va_P D vwCl (wPts cI cZ pp ax ay at_ ao X Y T O told pres) s.heap)  (hB : PB X Y O told pres) (ha : a < 40) (hb : b < 40) :
    ∀ (n : Nat) (i k : Nat), pres < i + n → i ≤ pres → k ≤ i → ∀ (rv : Nat), rv = k + cn (raP X Y O a b) pres i → ∀ ls : Array Slot, lv_has ls 6 [(0, .ref pp), (1, .int (J ((a : Nat) : Int))), (2, .int (J ((b : Nat) : Int))), (3, .int (J ((k : Nat) : Int))), (4, .int (J ((i : Nat) : Int)))] → W p l e { frames := 3, cells := 0, slots := 0, locals := 73 } s m args below meth c s.heap [] 0 0 (MQ below (QR (some (.int (J ((rv : Nat) : Int))))) args s 0 0 (fun _ => False)) (F0 m 5 ls []) := by
  obtain ⟨hX, hY, hO, htd, hps⟩ := hB
  intro n
  induction n with
  | zero => intro i k hi0 hi1 hi2; omega
  | succ n ih =>
    intro i k hi0 hi1 hi2 rv hrv ls hl
    refine lv_iload C.1 C.2.1 dX2_rankAround_5 (lv_at hl 4 rfl) ?_
    refine lv_aload_n C.1 C.2.1 dX2_rankAround_7 rfl (lv_at hl 0 rfl) ?_
    refine jv_get C fw_X2_33 hK hP 0 rfl rfl dX2_rankAround_8 ?_
    refine jv_icmp_ge (tgt := 55) C dX2_rankAround_11 (by decide) (by omega) (fun h1 => ?_) (fun h1 => ?_)
    · refine lv_iload_n C.1 C.2.1 dX2_rankAround_55 rfl (lv_at hl 3 rfl) ?_
      exact jv_iret C hlk hr dX2_rankAround_56 (by rw [hrv, cn_end (by omega)]; rfl)
    · refine lv_aload_n C.1 C.2.1 dX2_rankAround_14 rfl (lv_at hl 0 rfl) ?_
      refine jv_get C fw_X2_22 hK hP 0 rfl rfl dX2_rankAround_15 ?_
      refine lv_iload C.1 C.2.1 dX2_rankAround_18 (lv_at hl 4 rfl) ?_
      refine jv_iald C hK hP 4 0 rfl rfl (i) (by omega) (by omega) (by decide) dX2_rankAround_20 ?_
      have f2 := hO i
      refine lv_istore (lv' := [(5, .int (J ((O i : Nat) : Int))), (0, .ref pp), (1, .int (J ((a : Nat) : Int))), (2, .int (J ((b : Nat) : Int))), (3, .int (J ((k : Nat) : Int))), (4, .int (J ((i : Nat) : Int)))]) C.1 C.2.1 dX2_rankAround_21 hl (by decide) rfl (fun ls hl => ?_)
      refine lv_iload C.1 C.2.1 dX2_rankAround_23 (lv_at hl 0 rfl) ?_
      refine lv_iload_n C.1 C.2.1 dX2_rankAround_25 rfl (lv_at hl 2 rfl) ?_
      refine jv_icmp_eq (tgt := 49) C dX2_rankAround_26 (by decide) (by omega) (fun h3 => ?_) (fun h3 => ?_)
      · refine lv_iinc (v := J (((i + 1 : Nat) : Int))) (lv' := [(4, .int (J ((i + 1 : Nat) : Int))), (5, .int (J ((O i : Nat) : Int))), (0, .ref pp), (1, .int (J ((a : Nat) : Int))), (2, .int (J ((b : Nat) : Int))), (3, .int (J ((k : Nat) : Int)))]) C.1 C.2.1 dX2_rankAround_49 hl (k := 5) rfl (by rw [show Int32.ofInt 1 = J 1 from rfl, J_add]; exact congrArg J (by omega)) (by decide) rfl (fun ls hl => ?_)
        refine lv_goto (tgt := 5) C.1 C.2.1 dX2_rankAround_52 (by decide) ?_
        exact ih (i + 1) (k) (by omega) (by omega) (by omega) rv (by rw [hrv, cn_go (by omega) (by grind [raP])]) ls (lv_sub hl [2, 3, 4, 5, 0] rfl)
      · refine lv_iload C.1 C.2.1 dX2_rankAround_29 (lv_at hl 0 rfl) ?_
        refine lv_iload_n C.1 C.2.1 dX2_rankAround_31 rfl (lv_at hl 3 rfl) ?_
        refine jv_icmp_eq (tgt := 49) C dX2_rankAround_32 (by decide) (by omega) (fun h4 => ?_) (fun h4 => ?_)
        · refine lv_iinc (v := J (((i + 1 : Nat) : Int))) (lv' := [(4, .int (J ((i + 1 : Nat) : Int))), (5, .int (J ((O i : Nat) : Int))), (0, .ref pp), (1, .int (J ((a : Nat) : Int))), (2, .int (J ((b : Nat) : Int))), (3, .int (J ((k : Nat) : Int)))]) C.1 C.2.1 dX2_rankAround_49 hl (k := 5) rfl (by rw [show Int32.ofInt 1 = J 1 from rfl, J_add]; exact congrArg J (by omega)) (by decide) rfl (fun ls hl => ?_)
          refine lv_goto (tgt := 5) C.1 C.2.1 dX2_rankAround_52 (by decide) ?_
          exact ih (i + 1) (k) (by omega) (by omega) (by omega) rv (by rw [hrv, cn_go (by omega) (by grind [raP])]) ls (lv_sub hl [2, 3, 4, 5, 0] rfl)
        · refine lv_aload_n C.1 C.2.1 dX2_rankAround_35 rfl (lv_at hl 1 rfl) ?_
          refine lv_iload_n C.1 C.2.1 dX2_rankAround_36 rfl (lv_at hl 2 rfl) ?_
          refine lv_iload C.1 C.2.1 dX2_rankAround_37 (lv_at hl 0 rfl) ?_
          refine lv_iload_n C.1 C.2.1 dX2_rankAround_39 rfl (lv_at hl 3 rfl) ?_
          refine jv_rdV (ni := 3) (ci := 2) (q0 := 0) C [.int (J ((a : Nat) : Int)), .int (J ((O i : Nat) : Int)), .int (J ((b : Nat) : Int))] [] (c_X2_comesEarlierAround (a := a) (b := O i) (k := b) ⟨hX, hY, hO, htd, hps⟩ (by omega) (by omega) (by omega)) gv_X2_64 (by decide +kernel) (by decide) hK (hP) rfl rfl rfl hl.1 (by simp [Value.category]) dX2_rankAround_40 (by decide) ?_ rfl
          show W _ _ _ _ _ _ _ _ _ _ _ _ _ _ _ (F0 m 43 ls [.int (J (b2i (eara X Y a (O i) b)))])
          refine jv_bif_eq (tgt := 49) C dX2_rankAround_43 (by decide) (fun h5 => ?_) (fun h5 => ?_)
          · refine lv_iinc (v := J (((i + 1 : Nat) : Int))) (lv' := [(4, .int (J ((i + 1 : Nat) : Int))), (5, .int (J ((O i : Nat) : Int))), (0, .ref pp), (1, .int (J ((a : Nat) : Int))), (2, .int (J ((b : Nat) : Int))), (3, .int (J ((k : Nat) : Int)))]) C.1 C.2.1 dX2_rankAround_49 hl (k := 5) rfl (by rw [show Int32.ofInt 1 = J 1 from rfl, J_add]; exact congrArg J (by omega)) (by decide) rfl (fun ls hl => ?_)
            refine lv_goto (tgt := 5) C.1 C.2.1 dX2_rankAround_52 (by decide) ?_
            exact ih (i + 1) (k) (by omega) (by omega) (by omega) rv (by rw [hrv, cn_go (by omega) (by grind [raP])]) ls (lv_sub hl [2, 3, 4, 5, 0] rfl)
          · refine lv_iinc (v := J (((k + 1 : Nat) : Int))) (lv' := [(3, .int (J ((k + 1 : Nat) : Int))), (5, .int (J ((O i : Nat) : Int))), (0, .ref pp), (1, .int (J ((a : Nat) : Int))), (2, .int (J ((b : Nat) : Int))), (4, .int (J ((i : Nat) : Int)))]) C.1 C.2.1 dX2_rankAround_46 hl (k := 4) rfl (by rw [show Int32.ofInt 1 = J 1 from rfl, J_add]; exact congrArg J (by omega)) (by decide) rfl (fun ls hl => ?_)
            refine lv_iinc (v := J (((i + 1 : Nat) : Int))) (lv' := [(4, .int (J ((i + 1 : Nat) : Int))), (3, .int (J ((k + 1 : Nat) : Int))), (5, .int (J ((O i : Nat) : Int))), (0, .ref pp), (1, .int (J ((a : Nat) : Int))), (2, .int (J ((b : Nat) : Int)))]) C.1 C.2.1 dX2_rankAround_49 hl (k := 5) rfl (by rw [show Int32.ofInt 1 = J 1 from rfl, J_add]; exact congrArg J (by omega)) (by decide) rfl (fun ls hl => ?_)
            refine lv_goto (tgt := 5) C.1 C.2.1 dX2_rankAround_52 (by decide) ?_
            exact ih (i + 1) (k + 1) (by omega) (by omega) (by omega) rv (by rw [hrv, cn_hit (by omega) (by grind [raP])]; omega) ls (lv_sub hl [3, 4, 5, 1, 0] rfl)
set_option maxRecDepth 20000 in
theorem c_X2_rankAround {a b : Nat} (hB : PB X Y O told pres) (ha : a < 40) (hb : b < 40) : cR l yX2_rankAround cX2_rankAround 6 (some .int) 3 73 D (tyz cI cZ) [.ref pp, .int (J ((a : Nat) : Int)), .int (J ((b : Nat) : Int))] (wPts cI cZ pp ax ay at_ ao X Y T O told pres) (some (.int (J ((cn (raP X Y O a b) pres 0 : Nat) : Int)))) := by
  refine cR_of (owner := RX2) rfl (by decide) (Nat.le_of_ble_eq_true rfl) ?_
  intro p e s m args below meth c ls C hlk hr hK hP hl
  have hl : lv_has ls 6 [(0, .ref pp), (1, .int (J ((a : Nat) : Int))), (2, .int (J ((b : Nat) : Int)))] := hl
  obtain ⟨hX, hY, hO, htd, hps⟩ := hB
  refine jv_iconst C dX2_rankAround_0 ?_
  refine lv_istore_n (lv' := [(3, .int (J 0)), (0, .ref pp), (1, .int (J ((a : Nat) : Int))), (2, .int (J ((b : Nat) : Int)))]) C.1 C.2.1 dX2_rankAround_1 rfl hl (by decide) rfl (fun ls hl => ?_)
  refine jv_iconst C dX2_rankAround_2 ?_
  refine lv_istore (lv' := [(4, .int (J 0)), (3, .int (J 0)), (0, .ref pp), (1, .int (J ((a : Nat) : Int))), (2, .int (J ((b : Nat) : Int)))]) C.1 C.2.1 dX2_rankAround_3 hl (by decide) rfl (fun ls hl => ?_)
  exact lp_X2_rankAround_5 C hlk hr hK hP ⟨hX, hY, hO, htd, hps⟩ ha hb (pres + 1) 0 0 (by omega) (by omega) (by omega) _ (by omega) ls (lv_sub hl [2, 3, 4, 1, 0] rfl)
end PTS2
