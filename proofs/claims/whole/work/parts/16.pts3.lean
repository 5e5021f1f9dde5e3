theorem nar_bz (b : Bool) : narrow .boolean (.int (J (b2i b))) = .int (J (b2i b)) := by cases b <;> rfl
theorem fit_bz (b : Bool) : fits .boolean (.int (J (b2i b))) = true := by cases b <;> rfl
/-- p goes into the order ahead of those that it comes earlier than -/
def insO (E : Nat → Bool) (p : Nat) : Nat → (Nat → Nat) → (Nat → Nat)
  | 0, O => sn O 0 p
  | i + 1, O => if E (O i) then insO E p i (sn O (i + 1) (O i)) else sn O (i + 1) p
/-- p is taken out of the order -/
def tkO (p n i k : Nat) (O : Nat → Nat) : (Nat → Nat) × Nat := if i < n then (if O i = p then tkO p n (i + 1) k O else tkO p n (i + 1) (k + 1) (sn O k (O i))) else (O, k)
termination_by n - i
theorem insO_0 {E : Nat → Bool} {p i : Nat} {O : Nat → Nat} (h : i = 0) : insO E p i O = sn O i p := by subst h; rfl
theorem insO_stop {E : Nat → Bool} {p i : Nat} {O : Nat → Nat} (h0 : 0 < i) (h : E (O (i - 1)) = false) : insO E p i O = sn O i p := by
  obtain ⟨j, rfl⟩ : ∃ j, i = j + 1 := ⟨i - 1, by omega⟩
  rw [insO, if_neg (by simpa using h)]
theorem insO_go {E : Nat → Bool} {p i : Nat} {O : Nat → Nat} (h0 : 0 < i) (h : E (O (i - 1)) = true) : insO E p i O = insO E p (i - 1) (sn O i (O (i - 1))) := by
  obtain ⟨j, rfl⟩ : ∃ j, i = j + 1 := ⟨i - 1, by omega⟩
  rw [insO, if_pos (by simpa using h)]; rfl
theorem tkO_end {p n i k : Nat} {O : Nat → Nat} (h : n ≤ i) : tkO p n i k O = (O, k) := by rw [tkO, if_neg (by omega)]
theorem tkO_out {p n i k : Nat} {O : Nat → Nat} (h : i < n) (hp : O i = p) : tkO p n i k O = tkO p n (i + 1) k O := by rw [tkO, if_pos h, if_pos hp]
theorem tkO_keep {p n i k : Nat} {O : Nat → Nat} (h : i < n) (hp : O i ≠ p) : tkO p n i k O = tkO p n (i + 1) (k + 1) (sn O k (O i)) := by rw [tkO, if_pos h, if_neg hp]
section PTS3
variable {l : Launch} {D : va_G} {cI cZ : ClassId} {pp ax ay at_ ao : Nat} {X Y : Nat → Int} {T : Nat → Bool} {O : Nat → Nat} {told pres : Nat}
set_option maxRecDepth 20000 in
theorem lp_X2_putDown_27 {p : Program} {e : Env} {s : State} {m : MethodId} {args : Array Value} {below : List Frame} {meth : Method} {c : Code} {WC : va_W} {a : Nat} {x y : Int} {X Y : Nat → Int} {T : Nat → Bool} (C : CallFix p m c cX2_putDown 5 s args TB RX2) (hlk : meth.locks = false) (hr : meth.sig.returnType = none) (hK : va_K D vwCl (tyz cI cZ) s) (hX : ∀ i, -10000 ≤ X i ∧ X i ≤ 10000) (hY : ∀ i, -10000 ≤ Y i ∧ Y i ≤ 10000) (htd : told ≤ 40) (hps : pres < 40) (ha : a < 40) :
    ∀ (n : Nat) (i : Nat) (O : Nat → Nat), i < n → i ≤ pres → (∀ j, O j < 40) → ∀ (Of : Nat → Nat), Of = insO (fun q => ear X Y a q) a i O → ∀ (H : Heap) (locs : List Loc), va_P D vwCl [(pp, .inr (2, [.ref ax, .ref ay, .ref at_, .ref ao, .int (J ((told : Nat) : Int)), .int (J ((pres : Nat) : Int))])), (ax, .inl (cI, 40, .inl (fun z9 => J (X z9)))), (ay, .inl (cI, 40, .inl (fun z9 => J (Y z9)))), (at_, .inl (cZ, 40, .inl (fun z9 => J (b2i (T z9))))), (ao, .inl (cI, 40, .inl (fun z9 => J ((O z9 : Nat) : Int))))] H → va_D (inW WC) [(pp, .inr (2, [.ref ax, .ref ay, .ref at_, .ref ao, .int (J ((told : Nat) : Int)), .int (J ((pres : Nat) : Int))])), (ax, .inl (cI, 40, .inl (fun z9 => J (X z9)))), (ay, .inl (cI, 40, .inl (fun z9 => J (Y z9)))), (at_, .inl (cZ, 40, .inl (fun z9 => J (b2i (T z9))))), (ao, .inl (cI, 40, .inl (fun z9 => J ((O z9 : Nat) : Int))))] → va_S (inW WC) s.heap H locs → ∀ ls : Array Slot, lv_has ls 5 [(0, .ref pp), (1, .int (J ((a : Nat) : Int))), (2, .int (J x)), (3, .int (J y)), (4, .int (J ((i : Nat) : Int)))] → W p l e { frames := 1, cells := 0, slots := 0, locals := 22 } s m args below meth c H locs 0 0 (MQ below (QW D WC (wPts cI cZ pp ax ay at_ ao X Y T Of told (pres + 1)) none) args s 0 0 (inW WC)) (F0 m 27 ls []) := by
  intro n
  induction n with
  | zero => intro i O hi0 hi1 hO; omega
  | succ n ih =>
    intro i O hi0 hi1 hO Of hOf H locs hP hD hS ls hl
    refine lv_iload C.1 C.2.1 dX2_putDown_27 (lv_at hl 4 rfl) ?_
    refine jv_if_le (tgt := 71) C dX2_putDown_29 (by decide) (by omega) (fun h1 => ?_) (fun h1 => ?_)
    · refine lv_aload_n C.1 C.2.1 dX2_putDown_71 rfl (lv_at hl 0 rfl) ?_
      refine jv_get C fw_X2_22 hK hP 0 rfl rfl dX2_putDown_72 ?_
      refine lv_iload C.1 C.2.1 dX2_putDown_75 (lv_at hl 4 rfl) ?_
      refine lv_iload_n C.1 C.2.1 dX2_putDown_77 rfl (lv_at hl 1 rfl) ?_
      refine jv_iast (G := fun z9 => (((sn O i a) z9 : Nat) : Int)) C hK hP hD hS 4 0 rfl rfl (i) (by omega) (by omega) (by decide) (sn_nat O i a) dX2_putDown_78 (fun H locs hP hD hS => ?_)
      have hP : va_P D vwCl [(pp, .inr (2, [.ref ax, .ref ay, .ref at_, .ref ao, .int (J ((told : Nat) : Int)), .int (J ((pres : Nat) : Int))])), (ax, .inl (cI, 40, .inl (fun z9 => J (X z9)))), (ay, .inl (cI, 40, .inl (fun z9 => J (Y z9)))), (at_, .inl (cZ, 40, .inl (fun z9 => J (b2i (T z9))))), (ao, .inl (cI, 40, .inl (fun z9 => J (((sn O i a) z9 : Nat) : Int))))] H := hP
      have hD : va_D _ [(pp, .inr (2, [.ref ax, .ref ay, .ref at_, .ref ao, .int (J ((told : Nat) : Int)), .int (J ((pres : Nat) : Int))])), (ax, .inl (cI, 40, .inl (fun z9 => J (X z9)))), (ay, .inl (cI, 40, .inl (fun z9 => J (Y z9)))), (at_, .inl (cZ, 40, .inl (fun z9 => J (b2i (T z9))))), (ao, .inl (cI, 40, .inl (fun z9 => J (((sn O i a) z9 : Nat) : Int))))] := hD
      have hO := sn_lt hO i (z := a) (by omega)
      refine lv_aload_n C.1 C.2.1 dX2_putDown_79 rfl (lv_at hl 0 rfl) ?_
      refine lv_dup C.1 C.2.1 dX2_putDown_80 rfl ?_
      refine jv_get C fw_X2_33 hK hP 0 rfl rfl dX2_putDown_81 ?_
      refine jv_iconst C dX2_putDown_84 ?_
      refine jv_iadd (z := ((pres + 1 : Nat) : Int)) C dX2_putDown_85 (by omega) ?_
      refine jv_put C fw_X2_33 fp_X2 hK hP hD hS 0 rfl rfl rfl rfl (Nat.le_of_ble_eq_true rfl) dX2_putDown_86 (fun H locs hP hD hS => ?_)
      have hP : va_P D vwCl [(pp, .inr (2, [.ref ax, .ref ay, .ref at_, .ref ao, .int (J ((told : Nat) : Int)), .int (J ((pres + 1 : Nat) : Int))])), (ax, .inl (cI, 40, .inl (fun z9 => J (X z9)))), (ay, .inl (cI, 40, .inl (fun z9 => J (Y z9)))), (at_, .inl (cZ, 40, .inl (fun z9 => J (b2i (T z9))))), (ao, .inl (cI, 40, .inl (fun z9 => J (((sn O i a) z9 : Nat) : Int))))] H := hP
      have hD : va_D _ [(pp, .inr (2, [.ref ax, .ref ay, .ref at_, .ref ao, .int (J ((told : Nat) : Int)), .int (J ((pres + 1 : Nat) : Int))])), (ax, .inl (cI, 40, .inl (fun z9 => J (X z9)))), (ay, .inl (cI, 40, .inl (fun z9 => J (Y z9)))), (at_, .inl (cZ, 40, .inl (fun z9 => J (b2i (T z9))))), (ao, .inl (cI, 40, .inl (fun z9 => J (((sn O i a) z9 : Nat) : Int))))] := hD
      exact jw_vret C hlk hr dX2_putDown_89 (by rw [hOf]; (first | rw [insO_0 (by omega)] | rw [insO_stop (by omega) h1]); exact hP) hS
    · refine lv_aload_n C.1 C.2.1 dX2_putDown_32 rfl (lv_at hl 0 rfl) ?_
      refine lv_iload_n C.1 C.2.1 dX2_putDown_33 rfl (lv_at hl 1 rfl) ?_
      refine lv_aload_n C.1 C.2.1 dX2_putDown_34 rfl (lv_at hl 0 rfl) ?_
      refine jv_get C fw_X2_22 hK hP 0 rfl rfl dX2_putDown_35 ?_
      refine lv_iload C.1 C.2.1 dX2_putDown_38 (lv_at hl 4 rfl) ?_
      refine jv_iconst C dX2_putDown_40 ?_
      refine jv_isub (z := ((i - 1 : Nat) : Int)) C dX2_putDown_41 (by omega) ?_
      refine jv_iald C hK hP 4 0 rfl rfl (i - 1) (by omega) (by omega) (by decide) dX2_putDown_42 ?_
      have f2 := hO (i - 1)
      refine jv_rdV (ni := 2) (ci := 2) (q0 := 0) C [.int (J ((a : Nat) : Int)), .int (J ((O (i - 1) : Nat) : Int))] [] (c_X2_comesEarlier (X := X) (Y := Y) (T := T) (O := O) (told := told) (pres := pres) (a := a) (b := O (i - 1)) ⟨hX, hY, hO, by omega, by omega⟩ (by omega) (by omega)) gv_X2_36 (by decide +kernel) (by decide) hK (hP.sub (ws' := [(pp, .inr (2, [.ref ax, .ref ay, .ref at_, .ref ao, .int (J ((told : Nat) : Int)), .int (J ((pres : Nat) : Int))])), (ax, .inl (cI, 40, .inl (fun z9 => J (X z9)))), (ay, .inl (cI, 40, .inl (fun z9 => J (Y z9)))), (at_, .inl (cZ, 40, .inl (fun z9 => J (b2i (T z9))))), (ao, .inl (cI, 40, .inl (fun z9 => J ((O z9 : Nat) : Int))))]) [0, 1, 2, 3, 4] rfl) rfl rfl rfl hl.1 (by simp [Value.category]) dX2_putDown_43 (by decide) ?_ rfl
      show W _ _ _ _ _ _ _ _ _ _ _ _ _ _ _ (F0 m 46 ls [.int (J (b2i (ear X Y a (O (i - 1)))))])
      refine jv_bif_eq (tgt := 71) C dX2_putDown_46 (by decide) (fun h3 => ?_) (fun h3 => ?_)
      · refine lv_aload_n C.1 C.2.1 dX2_putDown_71 rfl (lv_at hl 0 rfl) ?_
        refine jv_get C fw_X2_22 hK hP 0 rfl rfl dX2_putDown_72 ?_
        refine lv_iload C.1 C.2.1 dX2_putDown_75 (lv_at hl 4 rfl) ?_
        refine lv_iload_n C.1 C.2.1 dX2_putDown_77 rfl (lv_at hl 1 rfl) ?_
        refine jv_iast (G := fun z9 => (((sn O i a) z9 : Nat) : Int)) C hK hP hD hS 4 0 rfl rfl (i) (by omega) (by omega) (by decide) (sn_nat O i a) dX2_putDown_78 (fun H locs hP hD hS => ?_)
        have hP : va_P D vwCl [(pp, .inr (2, [.ref ax, .ref ay, .ref at_, .ref ao, .int (J ((told : Nat) : Int)), .int (J ((pres : Nat) : Int))])), (ax, .inl (cI, 40, .inl (fun z9 => J (X z9)))), (ay, .inl (cI, 40, .inl (fun z9 => J (Y z9)))), (at_, .inl (cZ, 40, .inl (fun z9 => J (b2i (T z9))))), (ao, .inl (cI, 40, .inl (fun z9 => J (((sn O i a) z9 : Nat) : Int))))] H := hP
        have hD : va_D _ [(pp, .inr (2, [.ref ax, .ref ay, .ref at_, .ref ao, .int (J ((told : Nat) : Int)), .int (J ((pres : Nat) : Int))])), (ax, .inl (cI, 40, .inl (fun z9 => J (X z9)))), (ay, .inl (cI, 40, .inl (fun z9 => J (Y z9)))), (at_, .inl (cZ, 40, .inl (fun z9 => J (b2i (T z9))))), (ao, .inl (cI, 40, .inl (fun z9 => J (((sn O i a) z9 : Nat) : Int))))] := hD
        have hO := sn_lt hO i (z := a) (by omega)
        refine lv_aload_n C.1 C.2.1 dX2_putDown_79 rfl (lv_at hl 0 rfl) ?_
        refine lv_dup C.1 C.2.1 dX2_putDown_80 rfl ?_
        refine jv_get C fw_X2_33 hK hP 0 rfl rfl dX2_putDown_81 ?_
        refine jv_iconst C dX2_putDown_84 ?_
        refine jv_iadd (z := ((pres + 1 : Nat) : Int)) C dX2_putDown_85 (by omega) ?_
        refine jv_put C fw_X2_33 fp_X2 hK hP hD hS 0 rfl rfl rfl rfl (Nat.le_of_ble_eq_true rfl) dX2_putDown_86 (fun H locs hP hD hS => ?_)
        have hP : va_P D vwCl [(pp, .inr (2, [.ref ax, .ref ay, .ref at_, .ref ao, .int (J ((told : Nat) : Int)), .int (J ((pres + 1 : Nat) : Int))])), (ax, .inl (cI, 40, .inl (fun z9 => J (X z9)))), (ay, .inl (cI, 40, .inl (fun z9 => J (Y z9)))), (at_, .inl (cZ, 40, .inl (fun z9 => J (b2i (T z9))))), (ao, .inl (cI, 40, .inl (fun z9 => J (((sn O i a) z9 : Nat) : Int))))] H := hP
        have hD : va_D _ [(pp, .inr (2, [.ref ax, .ref ay, .ref at_, .ref ao, .int (J ((told : Nat) : Int)), .int (J ((pres + 1 : Nat) : Int))])), (ax, .inl (cI, 40, .inl (fun z9 => J (X z9)))), (ay, .inl (cI, 40, .inl (fun z9 => J (Y z9)))), (at_, .inl (cZ, 40, .inl (fun z9 => J (b2i (T z9))))), (ao, .inl (cI, 40, .inl (fun z9 => J (((sn O i a) z9 : Nat) : Int))))] := hD
        exact jw_vret C hlk hr dX2_putDown_89 (by rw [hOf]; (first | rw [insO_0 (by omega)] | rw [insO_stop (by omega) h3]); exact hP) hS
      · refine lv_aload_n C.1 C.2.1 dX2_putDown_49 rfl (lv_at hl 0 rfl) ?_
        refine jv_get C fw_X2_22 hK hP 0 rfl rfl dX2_putDown_50 ?_
        refine lv_iload C.1 C.2.1 dX2_putDown_53 (lv_at hl 4 rfl) ?_
        refine lv_aload_n C.1 C.2.1 dX2_putDown_55 rfl (lv_at hl 0 rfl) ?_
        refine jv_get C fw_X2_22 hK hP 0 rfl rfl dX2_putDown_56 ?_
        refine lv_iload C.1 C.2.1 dX2_putDown_59 (lv_at hl 4 rfl) ?_
        refine jv_iconst C dX2_putDown_61 ?_
        refine jv_isub (z := ((i - 1 : Nat) : Int)) C dX2_putDown_62 (by omega) ?_
        refine jv_iald C hK hP 4 0 rfl rfl (i - 1) (by omega) (by omega) (by decide) dX2_putDown_63 ?_
        have f4 := hO (i - 1)
        refine jv_iast (G := fun z9 => (((sn O i (O (i - 1))) z9 : Nat) : Int)) C hK hP hD hS 4 0 rfl rfl (i) (by omega) (by omega) (by decide) (sn_nat O i (O (i - 1))) dX2_putDown_64 (fun H locs hP hD hS => ?_)
        have hP : va_P D vwCl [(pp, .inr (2, [.ref ax, .ref ay, .ref at_, .ref ao, .int (J ((told : Nat) : Int)), .int (J ((pres : Nat) : Int))])), (ax, .inl (cI, 40, .inl (fun z9 => J (X z9)))), (ay, .inl (cI, 40, .inl (fun z9 => J (Y z9)))), (at_, .inl (cZ, 40, .inl (fun z9 => J (b2i (T z9))))), (ao, .inl (cI, 40, .inl (fun z9 => J (((sn O i (O (i - 1))) z9 : Nat) : Int))))] H := hP
        have hD : va_D _ [(pp, .inr (2, [.ref ax, .ref ay, .ref at_, .ref ao, .int (J ((told : Nat) : Int)), .int (J ((pres : Nat) : Int))])), (ax, .inl (cI, 40, .inl (fun z9 => J (X z9)))), (ay, .inl (cI, 40, .inl (fun z9 => J (Y z9)))), (at_, .inl (cZ, 40, .inl (fun z9 => J (b2i (T z9))))), (ao, .inl (cI, 40, .inl (fun z9 => J (((sn O i (O (i - 1))) z9 : Nat) : Int))))] := hD
        have hO := sn_lt hO i (z := O (i - 1)) (by omega)
        refine lv_iinc (v := J (((i - 1 : Nat) : Int))) (lv' := [(4, .int (J ((i - 1 : Nat) : Int))), (0, .ref pp), (1, .int (J ((a : Nat) : Int))), (2, .int (J x)), (3, .int (J y))]) C.1 C.2.1 dX2_putDown_65 hl (k := 4) rfl (by rw [show Int32.ofInt (-1) = J (-1) from rfl, J_add]; exact congrArg J (by omega)) (by decide) rfl (fun ls hl => ?_)
        refine lv_goto (tgt := 27) C.1 C.2.1 dX2_putDown_68 (by decide) ?_
        exact ih (i - 1) (sn O i (O (i - 1))) (by omega) (by omega) hO Of (by rw [hOf, insO_go (by omega) h3]) H locs hP hD hS ls (lv_sub hl [1, 2, 3, 4, 0] rfl)
set_option maxRecDepth 20000 in
theorem c_X2_putDown {a : Nat} {x y : Int} (hB : PB X Y O told pres) (ha : a < 40) (hx : -10000 ≤ x ∧ x ≤ 10000) (hy : -10000 ≤ y ∧ y ≤ 10000) (hp1 : pres < 40) : cW l yX2_putDown cX2_putDown 5 none 1 22 D (tyz cI cZ) [.ref pp, .int (J ((a : Nat) : Int)), .int (J x), .int (J y)] (wPts cI cZ pp ax ay at_ ao X Y T O told pres) (wPts cI cZ pp ax ay at_ ao (sn X a x) (sn Y a y) (sn T a true) (insO (fun q => ear (sn X a x) (sn Y a y) a q) a pres O) told (pres + 1)) none := by
  refine cW_of (owner := RX2) rfl (by decide) (Nat.le_of_ble_eq_true rfl) ?_
  intro p e s m args below meth c ls C hlk hr hK hP hD hS hl
  have hl : lv_has ls 5 [(0, .ref pp), (1, .int (J ((a : Nat) : Int))), (2, .int (J x)), (3, .int (J y))] := hl
  have hP : va_P D vwCl [(pp, .inr (2, [.ref ax, .ref ay, .ref at_, .ref ao, .int (J ((told : Nat) : Int)), .int (J ((pres : Nat) : Int))])), (ax, .inl (cI, 40, .inl (fun z9 => J (X z9)))), (ay, .inl (cI, 40, .inl (fun z9 => J (Y z9)))), (at_, .inl (cZ, 40, .inl (fun z9 => J (b2i (T z9))))), (ao, .inl (cI, 40, .inl (fun z9 => J ((O z9 : Nat) : Int))))] s.heap := hP
  have hD : va_D _ [(pp, .inr (2, [.ref ax, .ref ay, .ref at_, .ref ao, .int (J ((told : Nat) : Int)), .int (J ((pres : Nat) : Int))])), (ax, .inl (cI, 40, .inl (fun z9 => J (X z9)))), (ay, .inl (cI, 40, .inl (fun z9 => J (Y z9)))), (at_, .inl (cZ, 40, .inl (fun z9 => J (b2i (T z9))))), (ao, .inl (cI, 40, .inl (fun z9 => J ((O z9 : Nat) : Int))))] := hD
  obtain ⟨hX, hY, hO, htd, hps⟩ := hB
  refine lv_aload_n C.1 C.2.1 dX2_putDown_0 rfl (lv_at hl 0 rfl) ?_
  refine jv_get C fw_X2_9 hK hP 0 rfl rfl dX2_putDown_1 ?_
  refine lv_iload_n C.1 C.2.1 dX2_putDown_4 rfl (lv_at hl 1 rfl) ?_
  refine lv_iload_n C.1 C.2.1 dX2_putDown_5 rfl (lv_at hl 2 rfl) ?_
  refine jv_iast (G := sn X a x) C hK hP hD hS 1 0 rfl rfl (a) (by omega) (by omega) (by decide) (fun _ => rfl) dX2_putDown_6 (fun H locs hP hD hS => ?_)
  have hP : va_P D vwCl [(pp, .inr (2, [.ref ax, .ref ay, .ref at_, .ref ao, .int (J ((told : Nat) : Int)), .int (J ((pres : Nat) : Int))])), (ax, .inl (cI, 40, .inl (fun z9 => J ((sn X a x) z9)))), (ay, .inl (cI, 40, .inl (fun z9 => J (Y z9)))), (at_, .inl (cZ, 40, .inl (fun z9 => J (b2i (T z9))))), (ao, .inl (cI, 40, .inl (fun z9 => J ((O z9 : Nat) : Int))))] H := hP
  have hD : va_D _ [(pp, .inr (2, [.ref ax, .ref ay, .ref at_, .ref ao, .int (J ((told : Nat) : Int)), .int (J ((pres : Nat) : Int))])), (ax, .inl (cI, 40, .inl (fun z9 => J ((sn X a x) z9)))), (ay, .inl (cI, 40, .inl (fun z9 => J (Y z9)))), (at_, .inl (cZ, 40, .inl (fun z9 => J (b2i (T z9))))), (ao, .inl (cI, 40, .inl (fun z9 => J ((O z9 : Nat) : Int))))] := hD
  have hX := sn_bd hX a (z := x) (by omega)
  refine lv_aload_n C.1 C.2.1 dX2_putDown_7 rfl (lv_at hl 0 rfl) ?_
  refine jv_get C fw_X2_15 hK hP 0 rfl rfl dX2_putDown_8 ?_
  refine lv_iload_n C.1 C.2.1 dX2_putDown_11 rfl (lv_at hl 1 rfl) ?_
  refine lv_iload_n C.1 C.2.1 dX2_putDown_12 rfl (lv_at hl 3 rfl) ?_
  refine jv_iast (G := sn Y a y) C hK hP hD hS 2 0 rfl rfl (a) (by omega) (by omega) (by decide) (fun _ => rfl) dX2_putDown_13 (fun H locs hP hD hS => ?_)
  have hP : va_P D vwCl [(pp, .inr (2, [.ref ax, .ref ay, .ref at_, .ref ao, .int (J ((told : Nat) : Int)), .int (J ((pres : Nat) : Int))])), (ax, .inl (cI, 40, .inl (fun z9 => J ((sn X a x) z9)))), (ay, .inl (cI, 40, .inl (fun z9 => J ((sn Y a y) z9)))), (at_, .inl (cZ, 40, .inl (fun z9 => J (b2i (T z9))))), (ao, .inl (cI, 40, .inl (fun z9 => J ((O z9 : Nat) : Int))))] H := hP
  have hD : va_D _ [(pp, .inr (2, [.ref ax, .ref ay, .ref at_, .ref ao, .int (J ((told : Nat) : Int)), .int (J ((pres : Nat) : Int))])), (ax, .inl (cI, 40, .inl (fun z9 => J ((sn X a x) z9)))), (ay, .inl (cI, 40, .inl (fun z9 => J ((sn Y a y) z9)))), (at_, .inl (cZ, 40, .inl (fun z9 => J (b2i (T z9))))), (ao, .inl (cI, 40, .inl (fun z9 => J ((O z9 : Nat) : Int))))] := hD
  have hY := sn_bd hY a (z := y) (by omega)
  refine lv_aload_n C.1 C.2.1 dX2_putDown_14 rfl (lv_at hl 0 rfl) ?_
  refine jv_get C fw_X2_18 hK hP 0 rfl rfl dX2_putDown_15 ?_
  refine lv_iload_n C.1 C.2.1 dX2_putDown_18 rfl (lv_at hl 1 rfl) ?_
  refine jv_iconst C dX2_putDown_19 ?_
  refine jv_zast (G := sn T a true) C hK hP hD hS 3 1 rfl rfl (a) (true) (by omega) rfl (by omega) (by decide) (fun _ => rfl) dX2_putDown_20 (fun H locs hP hD hS => ?_)
  have hP : va_P D vwCl [(pp, .inr (2, [.ref ax, .ref ay, .ref at_, .ref ao, .int (J ((told : Nat) : Int)), .int (J ((pres : Nat) : Int))])), (ax, .inl (cI, 40, .inl (fun z9 => J ((sn X a x) z9)))), (ay, .inl (cI, 40, .inl (fun z9 => J ((sn Y a y) z9)))), (at_, .inl (cZ, 40, .inl (fun z9 => J (b2i ((sn T a true) z9))))), (ao, .inl (cI, 40, .inl (fun z9 => J ((O z9 : Nat) : Int))))] H := hP
  have hD : va_D _ [(pp, .inr (2, [.ref ax, .ref ay, .ref at_, .ref ao, .int (J ((told : Nat) : Int)), .int (J ((pres : Nat) : Int))])), (ax, .inl (cI, 40, .inl (fun z9 => J ((sn X a x) z9)))), (ay, .inl (cI, 40, .inl (fun z9 => J ((sn Y a y) z9)))), (at_, .inl (cZ, 40, .inl (fun z9 => J (b2i ((sn T a true) z9))))), (ao, .inl (cI, 40, .inl (fun z9 => J ((O z9 : Nat) : Int))))] := hD
  refine lv_aload_n C.1 C.2.1 dX2_putDown_21 rfl (lv_at hl 0 rfl) ?_
  refine jv_get C fw_X2_33 hK hP 0 rfl rfl dX2_putDown_22 ?_
  refine lv_istore (lv' := [(4, .int (J ((pres : Nat) : Int))), (0, .ref pp), (1, .int (J ((a : Nat) : Int))), (2, .int (J x)), (3, .int (J y))]) C.1 C.2.1 dX2_putDown_25 hl (by decide) rfl (fun ls hl => ?_)
  exact lp_X2_putDown_27 C hlk hr hK hX hY htd hp1 ha (pres + 1) pres O (by omega) (by omega) hO _ rfl H locs hP hD hS ls (lv_sub hl [1, 2, 3, 4, 0] rfl)
set_option maxRecDepth 20000 in
theorem lp_X2_takeAway_11 {p : Program} {e : Env} {s : State} {m : MethodId} {args : Array Value} {below : List Frame} {meth : Method} {c : Code} {WC : va_W} {a : Nat} {T : Nat → Bool} (C : CallFix p m c cX2_takeAway 4 s args TB RX2) (hlk : meth.locks = false) (hr : meth.sig.returnType = none) (hK : va_K D vwCl (tyz cI cZ) s) (hX : ∀ i, -10000 ≤ X i ∧ X i ≤ 10000) (hY : ∀ i, -10000 ≤ Y i ∧ Y i ≤ 10000) (htd : told ≤ 40) (hps : pres ≤ 40) (ha : a < 40) :
    ∀ (n : Nat) (i k : Nat) (O : Nat → Nat), pres < i + n → i ≤ pres → k ≤ i → (∀ j, O j < 40) → ∀ (Of : (Nat → Nat) × Nat), Of = tkO a pres i k O → ∀ (H : Heap) (locs : List Loc), va_P D vwCl [(pp, .inr (2, [.ref ax, .ref ay, .ref at_, .ref ao, .int (J ((told : Nat) : Int)), .int (J ((pres : Nat) : Int))])), (ax, .inl (cI, 40, .inl (fun z9 => J (X z9)))), (ay, .inl (cI, 40, .inl (fun z9 => J (Y z9)))), (at_, .inl (cZ, 40, .inl (fun z9 => J (b2i (T z9))))), (ao, .inl (cI, 40, .inl (fun z9 => J ((O z9 : Nat) : Int))))] H → va_D (inW WC) [(pp, .inr (2, [.ref ax, .ref ay, .ref at_, .ref ao, .int (J ((told : Nat) : Int)), .int (J ((pres : Nat) : Int))])), (ax, .inl (cI, 40, .inl (fun z9 => J (X z9)))), (ay, .inl (cI, 40, .inl (fun z9 => J (Y z9)))), (at_, .inl (cZ, 40, .inl (fun z9 => J (b2i (T z9))))), (ao, .inl (cI, 40, .inl (fun z9 => J ((O z9 : Nat) : Int))))] → va_S (inW WC) s.heap H locs → ∀ ls : Array Slot, lv_has ls 4 [(0, .ref pp), (1, .int (J ((a : Nat) : Int))), (2, .int (J ((k : Nat) : Int))), (3, .int (J ((i : Nat) : Int)))] → W p l e { frames := 0, cells := 0, slots := 0, locals := 0 } s m args below meth c H locs 0 0 (MQ below (QW D WC (wPts cI cZ pp ax ay at_ ao X Y T Of.1 told Of.2) none) args s 0 0 (inW WC)) (F0 m 11 ls []) := by
  intro n
  induction n with
  | zero => intro i k O hi0 hi1 hi2 hO; omega
  | succ n ih =>
    intro i k O hi0 hi1 hi2 hO Of hOf H locs hP hD hS ls hl
    refine lv_iload_n C.1 C.2.1 dX2_takeAway_11 rfl (lv_at hl 3 rfl) ?_
    refine lv_aload_n C.1 C.2.1 dX2_takeAway_12 rfl (lv_at hl 0 rfl) ?_
    refine jv_get C fw_X2_33 hK hP 0 rfl rfl dX2_takeAway_13 ?_
    refine jv_icmp_ge (tgt := 50) C dX2_takeAway_16 (by decide) (by omega) (fun h1 => ?_) (fun h1 => ?_)
    · refine lv_aload_n C.1 C.2.1 dX2_takeAway_50 rfl (lv_at hl 0 rfl) ?_
      refine lv_iload_n C.1 C.2.1 dX2_takeAway_51 rfl (lv_at hl 2 rfl) ?_
      refine jv_put C fw_X2_33 fp_X2 hK hP hD hS 0 rfl rfl rfl rfl (Nat.le_of_ble_eq_true rfl) dX2_takeAway_52 (fun H locs hP hD hS => ?_)
      have hP : va_P D vwCl [(pp, .inr (2, [.ref ax, .ref ay, .ref at_, .ref ao, .int (J ((told : Nat) : Int)), .int (J ((k : Nat) : Int))])), (ax, .inl (cI, 40, .inl (fun z9 => J (X z9)))), (ay, .inl (cI, 40, .inl (fun z9 => J (Y z9)))), (at_, .inl (cZ, 40, .inl (fun z9 => J (b2i (T z9))))), (ao, .inl (cI, 40, .inl (fun z9 => J ((O z9 : Nat) : Int))))] H := hP
      have hD : va_D _ [(pp, .inr (2, [.ref ax, .ref ay, .ref at_, .ref ao, .int (J ((told : Nat) : Int)), .int (J ((k : Nat) : Int))])), (ax, .inl (cI, 40, .inl (fun z9 => J (X z9)))), (ay, .inl (cI, 40, .inl (fun z9 => J (Y z9)))), (at_, .inl (cZ, 40, .inl (fun z9 => J (b2i (T z9))))), (ao, .inl (cI, 40, .inl (fun z9 => J ((O z9 : Nat) : Int))))] := hD
      exact jw_vret C hlk hr dX2_takeAway_55 (by rw [hOf, tkO_end (by omega)]; exact hP) hS
    · refine lv_aload_n C.1 C.2.1 dX2_takeAway_19 rfl (lv_at hl 0 rfl) ?_
      refine jv_get C fw_X2_22 hK hP 0 rfl rfl dX2_takeAway_20 ?_
      refine lv_iload_n C.1 C.2.1 dX2_takeAway_23 rfl (lv_at hl 3 rfl) ?_
      refine jv_iald C hK hP 4 0 rfl rfl (i) (by omega) (by omega) (by decide) dX2_takeAway_24 ?_
      have f2 := hO i
      refine lv_iload_n C.1 C.2.1 dX2_takeAway_25 rfl (lv_at hl 1 rfl) ?_
      refine jv_icmp_eq (tgt := 44) C dX2_takeAway_26 (by decide) (by omega) (fun h3 => ?_) (fun h3 => ?_)
      · refine lv_iinc (v := J (((i + 1 : Nat) : Int))) (lv' := [(3, .int (J ((i + 1 : Nat) : Int))), (0, .ref pp), (1, .int (J ((a : Nat) : Int))), (2, .int (J ((k : Nat) : Int)))]) C.1 C.2.1 dX2_takeAway_44 hl (k := 3) rfl (by rw [show Int32.ofInt 1 = J 1 from rfl, J_add]; exact congrArg J (by omega)) (by decide) rfl (fun ls hl => ?_)
        refine lv_goto (tgt := 11) C.1 C.2.1 dX2_takeAway_47 (by decide) ?_
        exact ih (i + 1) (k) (O) (by omega) (by omega) (by omega) hO Of (by rw [hOf, tkO_out (by omega) (by omega)]) H locs hP hD hS ls (lv_sub hl [1, 2, 3, 0] rfl)
      · refine lv_aload_n C.1 C.2.1 dX2_takeAway_29 rfl (lv_at hl 0 rfl) ?_
        refine jv_get C fw_X2_22 hK hP 0 rfl rfl dX2_takeAway_30 ?_
        refine lv_iload_n C.1 C.2.1 dX2_takeAway_33 rfl (lv_at hl 2 rfl) ?_
        refine lv_aload_n C.1 C.2.1 dX2_takeAway_34 rfl (lv_at hl 0 rfl) ?_
        refine jv_get C fw_X2_22 hK hP 0 rfl rfl dX2_takeAway_35 ?_
        refine lv_iload_n C.1 C.2.1 dX2_takeAway_38 rfl (lv_at hl 3 rfl) ?_
        refine jv_iald C hK hP 4 0 rfl rfl (i) (by omega) (by omega) (by decide) dX2_takeAway_39 ?_
        have f4 := hO i
        refine jv_iast (G := fun z9 => (((sn O k (O i)) z9 : Nat) : Int)) C hK hP hD hS 4 0 rfl rfl (k) (by omega) (by omega) (by decide) (sn_nat O k (O i)) dX2_takeAway_40 (fun H locs hP hD hS => ?_)
        have hP : va_P D vwCl [(pp, .inr (2, [.ref ax, .ref ay, .ref at_, .ref ao, .int (J ((told : Nat) : Int)), .int (J ((pres : Nat) : Int))])), (ax, .inl (cI, 40, .inl (fun z9 => J (X z9)))), (ay, .inl (cI, 40, .inl (fun z9 => J (Y z9)))), (at_, .inl (cZ, 40, .inl (fun z9 => J (b2i (T z9))))), (ao, .inl (cI, 40, .inl (fun z9 => J (((sn O k (O i)) z9 : Nat) : Int))))] H := hP
        have hD : va_D _ [(pp, .inr (2, [.ref ax, .ref ay, .ref at_, .ref ao, .int (J ((told : Nat) : Int)), .int (J ((pres : Nat) : Int))])), (ax, .inl (cI, 40, .inl (fun z9 => J (X z9)))), (ay, .inl (cI, 40, .inl (fun z9 => J (Y z9)))), (at_, .inl (cZ, 40, .inl (fun z9 => J (b2i (T z9))))), (ao, .inl (cI, 40, .inl (fun z9 => J (((sn O k (O i)) z9 : Nat) : Int))))] := hD
        have hO := sn_lt hO k (z := O i) (by omega)
        refine lv_iinc (v := J (((k + 1 : Nat) : Int))) (lv' := [(2, .int (J ((k + 1 : Nat) : Int))), (0, .ref pp), (1, .int (J ((a : Nat) : Int))), (3, .int (J ((i : Nat) : Int)))]) C.1 C.2.1 dX2_takeAway_41 hl (k := 2) rfl (by rw [show Int32.ofInt 1 = J 1 from rfl, J_add]; exact congrArg J (by omega)) (by decide) rfl (fun ls hl => ?_)
        refine lv_iinc (v := J (((i + 1 : Nat) : Int))) (lv' := [(3, .int (J ((i + 1 : Nat) : Int))), (2, .int (J ((k + 1 : Nat) : Int))), (0, .ref pp), (1, .int (J ((a : Nat) : Int)))]) C.1 C.2.1 dX2_takeAway_44 hl (k := 3) rfl (by rw [show Int32.ofInt 1 = J 1 from rfl, J_add]; exact congrArg J (by omega)) (by decide) rfl (fun ls hl => ?_)
        refine lv_goto (tgt := 11) C.1 C.2.1 dX2_takeAway_47 (by decide) ?_
        exact ih (i + 1) (k + 1) (sn O k (O i)) (by omega) (by omega) (by omega) hO Of (by rw [hOf, tkO_keep (by omega) (by omega)]) H locs hP hD hS ls (lv_sub hl [2, 3, 1, 0] rfl)
set_option maxRecDepth 20000 in
theorem c_X2_takeAway {a : Nat} (hB : PB X Y O told pres) (ha : a < 40) : cW l yX2_takeAway cX2_takeAway 4 none 0 0 D (tyz cI cZ) [.ref pp, .int (J ((a : Nat) : Int))] (wPts cI cZ pp ax ay at_ ao X Y T O told pres) (wPts cI cZ pp ax ay at_ ao X Y (sn T a false) ((tkO a pres 0 0 O).1) told ((tkO a pres 0 0 O).2)) none := by
  refine cW_of (owner := RX2) rfl (by decide) (Nat.le_of_ble_eq_true rfl) ?_
  intro p e s m args below meth c ls C hlk hr hK hP hD hS hl
  have hl : lv_has ls 4 [(0, .ref pp), (1, .int (J ((a : Nat) : Int)))] := hl
  have hP : va_P D vwCl [(pp, .inr (2, [.ref ax, .ref ay, .ref at_, .ref ao, .int (J ((told : Nat) : Int)), .int (J ((pres : Nat) : Int))])), (ax, .inl (cI, 40, .inl (fun z9 => J (X z9)))), (ay, .inl (cI, 40, .inl (fun z9 => J (Y z9)))), (at_, .inl (cZ, 40, .inl (fun z9 => J (b2i (T z9))))), (ao, .inl (cI, 40, .inl (fun z9 => J ((O z9 : Nat) : Int))))] s.heap := hP
  have hD : va_D _ [(pp, .inr (2, [.ref ax, .ref ay, .ref at_, .ref ao, .int (J ((told : Nat) : Int)), .int (J ((pres : Nat) : Int))])), (ax, .inl (cI, 40, .inl (fun z9 => J (X z9)))), (ay, .inl (cI, 40, .inl (fun z9 => J (Y z9)))), (at_, .inl (cZ, 40, .inl (fun z9 => J (b2i (T z9))))), (ao, .inl (cI, 40, .inl (fun z9 => J ((O z9 : Nat) : Int))))] := hD
  obtain ⟨hX, hY, hO, htd, hps⟩ := hB
  refine lv_aload_n C.1 C.2.1 dX2_takeAway_0 rfl (lv_at hl 0 rfl) ?_
  refine jv_get C fw_X2_18 hK hP 0 rfl rfl dX2_takeAway_1 ?_
  refine lv_iload_n C.1 C.2.1 dX2_takeAway_4 rfl (lv_at hl 1 rfl) ?_
  refine jv_iconst C dX2_takeAway_5 ?_
  refine jv_zast (G := sn T a false) C hK hP hD hS 3 1 rfl rfl (a) (false) (by omega) rfl (by omega) (by decide) (fun _ => rfl) dX2_takeAway_6 (fun H locs hP hD hS => ?_)
  have hP : va_P D vwCl [(pp, .inr (2, [.ref ax, .ref ay, .ref at_, .ref ao, .int (J ((told : Nat) : Int)), .int (J ((pres : Nat) : Int))])), (ax, .inl (cI, 40, .inl (fun z9 => J (X z9)))), (ay, .inl (cI, 40, .inl (fun z9 => J (Y z9)))), (at_, .inl (cZ, 40, .inl (fun z9 => J (b2i ((sn T a false) z9))))), (ao, .inl (cI, 40, .inl (fun z9 => J ((O z9 : Nat) : Int))))] H := hP
  have hD : va_D _ [(pp, .inr (2, [.ref ax, .ref ay, .ref at_, .ref ao, .int (J ((told : Nat) : Int)), .int (J ((pres : Nat) : Int))])), (ax, .inl (cI, 40, .inl (fun z9 => J (X z9)))), (ay, .inl (cI, 40, .inl (fun z9 => J (Y z9)))), (at_, .inl (cZ, 40, .inl (fun z9 => J (b2i ((sn T a false) z9))))), (ao, .inl (cI, 40, .inl (fun z9 => J ((O z9 : Nat) : Int))))] := hD
  refine jv_iconst C dX2_takeAway_7 ?_
  refine lv_istore_n (lv' := [(2, .int (J 0)), (0, .ref pp), (1, .int (J ((a : Nat) : Int)))]) C.1 C.2.1 dX2_takeAway_8 rfl hl (by decide) rfl (fun ls hl => ?_)
  refine jv_iconst C dX2_takeAway_9 ?_
  refine lv_istore_n (lv' := [(3, .int (J 0)), (2, .int (J 0)), (0, .ref pp), (1, .int (J ((a : Nat) : Int)))]) C.1 C.2.1 dX2_takeAway_10 rfl hl (by decide) rfl (fun ls hl => ?_)
  exact lp_X2_takeAway_11 C hlk hr hK hX hY htd hps ha (pres + 1) 0 0 O (by omega) (by omega) (by omega) hO _ rfl H locs hP hD hS ls (lv_sub hl [2, 3, 1, 0] rfl)
set_option maxRecDepth 20000 in
theorem c_X2_tellNew {x y : Int} (hB : PB X Y O told pres) (hx : -10000 ≤ x ∧ x ≤ 10000) (hy : -10000 ≤ y ∧ y ≤ 10000) (hp1 : pres < 40) (ht1 : told < 40) : cW l yX2_tellNew cX2_tellNew 4 (some .int) 2 46 D (tyz cI cZ) [.ref pp, .int (J x), .int (J y)] (wPts cI cZ pp ax ay at_ ao X Y T O told pres) (wPts cI cZ pp ax ay at_ ao (sn X told x) (sn Y told y) (sn T told true) (insO (fun q => ear (sn X told x) (sn Y told y) told q) told pres O) (told + 1) (pres + 1)) (some (.int (J ((told : Nat) : Int)))) := by
  refine cW_of (owner := RX2) rfl (by decide) (Nat.le_of_ble_eq_true rfl) ?_
  intro p e s m args below meth c ls C hlk hr hK hP hD hS hl
  have hl : lv_has ls 4 [(0, .ref pp), (1, .int (J x)), (2, .int (J y))] := hl
  have hP : va_P D vwCl [(pp, .inr (2, [.ref ax, .ref ay, .ref at_, .ref ao, .int (J ((told : Nat) : Int)), .int (J ((pres : Nat) : Int))])), (ax, .inl (cI, 40, .inl (fun z9 => J (X z9)))), (ay, .inl (cI, 40, .inl (fun z9 => J (Y z9)))), (at_, .inl (cZ, 40, .inl (fun z9 => J (b2i (T z9))))), (ao, .inl (cI, 40, .inl (fun z9 => J ((O z9 : Nat) : Int))))] s.heap := hP
  have hD : va_D _ [(pp, .inr (2, [.ref ax, .ref ay, .ref at_, .ref ao, .int (J ((told : Nat) : Int)), .int (J ((pres : Nat) : Int))])), (ax, .inl (cI, 40, .inl (fun z9 => J (X z9)))), (ay, .inl (cI, 40, .inl (fun z9 => J (Y z9)))), (at_, .inl (cZ, 40, .inl (fun z9 => J (b2i (T z9))))), (ao, .inl (cI, 40, .inl (fun z9 => J ((O z9 : Nat) : Int))))] := hD
  obtain ⟨hX, hY, hO, htd, hps⟩ := hB
  refine lv_aload_n C.1 C.2.1 dX2_tellNew_0 rfl (lv_at hl 0 rfl) ?_
  refine jv_get C fw_X2_25 hK hP 0 rfl rfl dX2_tellNew_1 ?_
  refine lv_istore_n (lv' := [(3, .int (J ((told : Nat) : Int))), (0, .ref pp), (1, .int (J x)), (2, .int (J y))]) C.1 C.2.1 dX2_tellNew_4 rfl hl (by decide) rfl (fun ls hl => ?_)
  refine lv_aload_n C.1 C.2.1 dX2_tellNew_5 rfl (lv_at hl 1 rfl) ?_
  refine lv_dup C.1 C.2.1 dX2_tellNew_6 rfl ?_
  refine jv_get C fw_X2_25 hK hP 0 rfl rfl dX2_tellNew_7 ?_
  refine jv_iconst C dX2_tellNew_10 ?_
  refine jv_iadd (z := ((told + 1 : Nat) : Int)) C dX2_tellNew_11 (by omega) ?_
  refine jv_put C fw_X2_25 fp_X2 hK hP hD hS 0 rfl rfl rfl rfl (Nat.le_of_ble_eq_true rfl) dX2_tellNew_12 (fun H locs hP hD hS => ?_)
  have hP : va_P D vwCl [(pp, .inr (2, [.ref ax, .ref ay, .ref at_, .ref ao, .int (J ((told + 1 : Nat) : Int)), .int (J ((pres : Nat) : Int))])), (ax, .inl (cI, 40, .inl (fun z9 => J (X z9)))), (ay, .inl (cI, 40, .inl (fun z9 => J (Y z9)))), (at_, .inl (cZ, 40, .inl (fun z9 => J (b2i (T z9))))), (ao, .inl (cI, 40, .inl (fun z9 => J ((O z9 : Nat) : Int))))] H := hP
  have hD : va_D _ [(pp, .inr (2, [.ref ax, .ref ay, .ref at_, .ref ao, .int (J ((told + 1 : Nat) : Int)), .int (J ((pres : Nat) : Int))])), (ax, .inl (cI, 40, .inl (fun z9 => J (X z9)))), (ay, .inl (cI, 40, .inl (fun z9 => J (Y z9)))), (at_, .inl (cZ, 40, .inl (fun z9 => J (b2i (T z9))))), (ao, .inl (cI, 40, .inl (fun z9 => J ((O z9 : Nat) : Int))))] := hD
  refine lv_aload_n C.1 C.2.1 dX2_tellNew_15 rfl (lv_at hl 1 rfl) ?_
  refine lv_iload_n C.1 C.2.1 dX2_tellNew_16 rfl (lv_at hl 0 rfl) ?_
  refine lv_iload_n C.1 C.2.1 dX2_tellNew_17 rfl (lv_at hl 2 rfl) ?_
  refine lv_iload_n C.1 C.2.1 dX2_tellNew_18 rfl (lv_at hl 3 rfl) ?_
  refine jv_wrV (ni := 3) (ci := 2) (q0 := 0) (wt := [(pp, .inr (2, [.ref ax, .ref ay, .ref at_, .ref ao, .int (J ((told + 1 : Nat) : Int)), .int (J ((pres + 1 : Nat) : Int))])), (ax, .inl (cI, 40, .inl (fun z9 => J ((sn X told x) z9)))), (ay, .inl (cI, 40, .inl (fun z9 => J ((sn Y told y) z9)))), (at_, .inl (cZ, 40, .inl (fun z9 => J (b2i ((sn T told true) z9))))), (ao, .inl (cI, 40, .inl (fun z9 => J (((insO (fun q => ear (sn X told x) (sn Y told y) told q) told pres O) z9 : Nat) : Int))))]) C [.int (J ((told : Nat) : Int)), .int (J x), .int (J y)] [] (c_X2_putDown (X := X) (Y := Y) (T := T) (O := O) (told := told + 1) (pres := pres) (a := told) (x := x) (y := y) ⟨hX, hY, hO, by omega, by omega⟩ (by omega) (by omega) (by omega) (by omega)) gv_X2_29 (by decide +kernel) (by decide) hK hP hD hS [0, 1, 2, 3, 4] rfl (by decide) rfl rfl rfl rfl rfl rfl hl.1 (by simp [Value.category]) dX2_tellNew_19 (by decide) (fun H locs hP hD hS => ?_) rfl
  show W _ _ _ _ _ _ _ _ _ _ _ _ _ _ _ (F0 m 22 ls [])
  refine lv_iload_n C.1 C.2.1 dX2_tellNew_22 rfl (lv_at hl 0 rfl) ?_
  exact jw_iret C hlk hr dX2_tellNew_23 (rfl) (hP) hS
end PTS3
