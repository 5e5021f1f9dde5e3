/-! the hull's cells and methods -/
abbrev wOut (cI : ClassId) (oo oc pp : Nat) (K : Nat → Nat) (osz : Nat) : va_W := [(oo, .inr (1, [.ref pp, .ref oc, .int (J ((osz : Nat) : Int))])), (oc, .inl (cI, 80, .inl (fun i => J ((K i : Nat) : Int))))]
def popC (X Y : Nat → Int) (K : Nat → Nat) (p kept : Nat) : Nat → Nat
  | 0 => 0
  | n + 1 => if kept < n + 1 ∧ 2 ≤ n + 1 ∧ le3 X Y (K (n - 1)) (K n) p ≤ 0 then popC X Y K p kept n else n + 1
theorem popC_stop {X Y : Nat → Int} {K : Nat → Nat} {p kept n : Nat} (h : n ≤ kept ∨ n < 2 ∨ 0 < le3 X Y (K (n - 2)) (K (n - 1)) p) : popC X Y K p kept n = n := by
  cases n with
  | zero => rfl
  | succ n =>
    rw [popC, if_neg]
    rintro ⟨h1, h2, h3⟩
    rcases h with h | h | h
    · omega
    · omega
    · simp only [Nat.add_sub_cancel, show n + 1 - 2 = n - 1 by omega] at h
      omega
theorem popC_go {X Y : Nat → Int} {K : Nat → Nat} {p kept n : Nat} (h1 : kept < n) (h2 : 2 ≤ n) (h3 : le3 X Y (K (n - 2)) (K (n - 1)) p ≤ 0) : popC X Y K p kept n = popC X Y K p kept (n - 1) := by
  obtain ⟨j, rfl⟩ : ∃ j, n = j + 1 := ⟨n - 1, by omega⟩
  simp only [Nat.add_sub_cancel, show j + 1 - 2 = j - 1 by omega] at h3
  rw [popC, if_pos ⟨h1, h2, h3⟩]; rfl
theorem popC_le {X Y : Nat → Int} {K : Nat → Nat} {p kept : Nat} : ∀ n, popC X Y K p kept n ≤ n := by
  intro n
  induction n with
  | zero => exact Nat.le_refl _
  | succ n ih => rw [popC]; split <;> omega
def addC (X Y : Nat → Int) (p kept : Nat) (S : (Nat → Nat) × Nat) : (Nat → Nat) × Nat := if popC X Y S.1 p kept S.2 < 80 then (sn S.1 (popC X Y S.1 p kept S.2) p, popC X Y S.1 p kept S.2 + 1) else (S.1, popC X Y S.1 p kept S.2)
theorem addC_bd {X Y : Nat → Int} {p kept : Nat} {S : (Nat → Nat) × Nat} (h1 : ∀ i, S.1 i < 40) (h2 : S.2 ≤ 80) (hp : p < 40) : (∀ i, (addC X Y p kept S).1 i < 40) ∧ (addC X Y p kept S).2 ≤ 80 := by
  have := popC_le (X := X) (Y := Y) (K := S.1) (p := p) (kept := kept) S.2
  unfold addC
  split
  · exact ⟨sn_lt h1 _ hp, by omega⟩
  · exact ⟨h1, by omega⟩
def fwC (X Y : Nat → Int) (O : Nat → Nat) (n i : Nat) (S : (Nat → Nat) × Nat) : (Nat → Nat) × Nat := if i < n then fwC X Y O n (i + 1) (addC X Y (O i) 1 S) else S
termination_by n - i
def bwC (X Y : Nat → Int) (O : Nat → Nat) (w : Nat) : Nat → (Nat → Nat) × Nat → (Nat → Nat) × Nat
  | 0, S => S
  | i + 1, S => bwC X Y O w i (addC X Y (O i) w S)
def cut1 (n : Nat) : Nat := if 1 < n then n - 1 else n
theorem cut1_pos {n : Nat} (h : 1 < n) : cut1 n = n - 1 := if_pos h
theorem cut1_neg {n : Nat} (h : n ≤ 1) : cut1 n = n := if_neg (by omega)
theorem cut1_le (n : Nat) : cut1 n ≤ n := by unfold cut1; split <;> omega
def trC (X Y : Nat → Int) (O : Nat → Nat) (pres : Nat) (K : Nat → Nat) : (Nat → Nat) × Nat :=
  ((bwC X Y O (fwC X Y O pres 0 (K, 0)).2 (pres - 1) (fwC X Y O pres 0 (K, 0))).1, cut1 (bwC X Y O (fwC X Y O pres 0 (K, 0)).2 (pres - 1) (fwC X Y O pres 0 (K, 0))).2)
theorem fwC_end {X Y : Nat → Int} {O : Nat → Nat} {n i : Nat} {S : (Nat → Nat) × Nat} (h : n ≤ i) : fwC X Y O n i S = S := by rw [fwC, if_neg (by omega)]
theorem fwC_go {X Y : Nat → Int} {O : Nat → Nat} {n i : Nat} {S : (Nat → Nat) × Nat} (h : i < n) : fwC X Y O n i S = fwC X Y O n (i + 1) (addC X Y (O i) 1 S) := by rw [fwC, if_pos h]
theorem bwC_go {X Y : Nat → Int} {O : Nat → Nat} {w n : Nat} {S : (Nat → Nat) × Nat} (h : 0 < n) : bwC X Y O w n S = bwC X Y O w (n - 1) (addC X Y (O (n - 1)) w S) := by
  obtain ⟨j, rfl⟩ : ∃ j, n = j + 1 := ⟨n - 1, by omega⟩
  rfl
def arS (X Y : Nat → Int) (K : Nat → Nat) (n i : Nat) : Int := if i < n then le3 X Y (K 0) (K (i - 1)) (K i) + arS X Y K n (i + 1) else 0
termination_by n - i
theorem arS_end {X Y : Nat → Int} {K : Nat → Nat} {n i : Nat} (h : n ≤ i) : arS X Y K n i = 0 := by rw [arS, if_neg (by omega)]
theorem arS_go {X Y : Nat → Int} {K : Nat → Nat} {n i : Nat} (h : i < n) : arS X Y K n i = le3 X Y (K 0) (K (i - 1)) (K i) + arS X Y K n (i + 1) := by rw [arS, if_pos h]
section OUTL
variable {l : Launch} {D : va_G} {cI cZ : ClassId} {pp ax ay at_ ao oo oc : Nat} {X Y : Nat → Int} {T : Nat → Bool} {O : Nat → Nat} {told pres : Nat} {K : Nat → Nat} {osz : Nat}
set_option maxRecDepth 20000 in
theorem lp_X1_addCorner_0 {p : Program} {e : Env} {s : State} {m : MethodId} {args : Array Value} {below : List Frame} {meth : Method} {c : Code} {WC : va_W} {a w : Nat} (C : CallFix p m c cX1_addCorner 3 s args TB RX1) (hlk : meth.locks = false) (hr : meth.sig.returnType = none) (hK : va_K D vwCl (tyz cI cZ) s) (hB : PB X Y O told pres) (hKc : ∀ i, K i < 40) (ha : a < 40) (hw : w ≤ 80) :
    ∀ (n : Nat) (osz : Nat), osz < n → osz ≤ 80 → ∀ (Sf : (Nat → Nat) × Nat), Sf = addC X Y a w (K, osz) → ∀ (H : Heap) (locs : List Loc), va_P D vwCl [(oo, .inr (1, [.ref pp, .ref oc, .int (J ((osz : Nat) : Int))])), (oc, .inl (cI, 80, .inl (fun z9 => J ((K z9 : Nat) : Int)))), (pp, .inr (2, [.ref ax, .ref ay, .ref at_, .ref ao, .int (J ((told : Nat) : Int)), .int (J ((pres : Nat) : Int))])), (ax, .inl (cI, 40, .inl (fun z9 => J (X z9)))), (ay, .inl (cI, 40, .inl (fun z9 => J (Y z9)))), (at_, .inl (cZ, 40, .inl (fun z9 => J (b2i (T z9))))), (ao, .inl (cI, 40, .inl (fun z9 => J ((O z9 : Nat) : Int))))] H → va_D (inW WC) [(oo, .inr (1, [.ref pp, .ref oc, .int (J ((osz : Nat) : Int))])), (oc, .inl (cI, 80, .inl (fun z9 => J ((K z9 : Nat) : Int)))), (pp, .inr (2, [.ref ax, .ref ay, .ref at_, .ref ao, .int (J ((told : Nat) : Int)), .int (J ((pres : Nat) : Int))])), (ax, .inl (cI, 40, .inl (fun z9 => J (X z9)))), (ay, .inl (cI, 40, .inl (fun z9 => J (Y z9)))), (at_, .inl (cZ, 40, .inl (fun z9 => J (b2i (T z9))))), (ao, .inl (cI, 40, .inl (fun z9 => J ((O z9 : Nat) : Int))))] → va_S (inW WC) s.heap H locs → ∀ ls : Array Slot, lv_has ls 3 [(0, .ref oo), (1, .int (J ((a : Nat) : Int))), (2, .int (J ((w : Nat) : Int)))] → W p l e { frames := 2, cells := 0, slots := 0, locals := 47 } s m args below meth c H locs 0 0 (MQ below (QW D WC (wOut cI oo oc pp Sf.1 Sf.2 ++ (wPts cI cZ pp ax ay at_ ao X Y T O told pres)) none) args s 0 0 (inW WC)) (F0 m 0 ls []) := by
  obtain ⟨hX, hY, hO, htd, hps⟩ := hB
  intro n
  induction n with
  | zero => intro osz hi0 hi1; omega
  | succ n ih =>
    intro osz hi0 hi1 Sf hSf H locs hP hD hS ls hl
    refine lv_aload_n C.1 C.2.1 dX1_addCorner_0 rfl (lv_at hl 0 rfl) ?_
    refine jv_get C fw_X1_19 hK hP 0 rfl rfl dX1_addCorner_1 ?_
    refine lv_iload_n C.1 C.2.1 dX1_addCorner_4 rfl (lv_at hl 2 rfl) ?_
    refine jv_icmp_le (tgt := 64) C dX1_addCorner_5 (by decide) (by omega) (fun h1 => ?_) (fun h1 => ?_)
    · refine lv_aload_n C.1 C.2.1 dX1_addCorner_64 rfl (lv_at hl 0 rfl) ?_
      refine jv_get C fw_X1_19 hK hP 0 rfl rfl dX1_addCorner_65 ?_
      refine lv_aload_n C.1 C.2.1 dX1_addCorner_68 rfl (lv_at hl 0 rfl) ?_
      refine jv_get C fw_X1_9 hK hP 0 rfl rfl dX1_addCorner_69 ?_
      refine va_alen (v := J 80) C.1 C.2.1 hK hP 1 0 rfl rfl rfl dX1_addCorner_72 ?_
      refine jv_icmp_ge (tgt := 96) C dX1_addCorner_73 (by decide) (by omega) (fun h2 => ?_) (fun h2 => ?_)
      · exact jw_vret C hlk hr dX1_addCorner_96 (by rw [hSf]; unfold addC; rw [show popC X Y (K, osz).1 a w (K, osz).2 = osz from popC_stop (by simp only []; omega)]; rw [if_neg (by omega)]; exact hP) hS
      · refine lv_aload_n C.1 C.2.1 dX1_addCorner_76 rfl (lv_at hl 0 rfl) ?_
        refine jv_get C fw_X1_9 hK hP 0 rfl rfl dX1_addCorner_77 ?_
        refine lv_aload_n C.1 C.2.1 dX1_addCorner_80 rfl (lv_at hl 0 rfl) ?_
        refine jv_get C fw_X1_19 hK hP 0 rfl rfl dX1_addCorner_81 ?_
        refine lv_iload_n C.1 C.2.1 dX1_addCorner_84 rfl (lv_at hl 1 rfl) ?_
        refine jv_iast (G := fun z9 => (((sn K osz a) z9 : Nat) : Int)) C hK hP hD hS 1 0 rfl rfl (osz) (by omega) (by omega) (by decide) (sn_nat K osz a) dX1_addCorner_85 (fun H locs hP hD hS => ?_)
        have hP : va_P D vwCl [(oo, .inr (1, [.ref pp, .ref oc, .int (J ((osz : Nat) : Int))])), (oc, .inl (cI, 80, .inl (fun z9 => J (((sn K osz a) z9 : Nat) : Int)))), (pp, .inr (2, [.ref ax, .ref ay, .ref at_, .ref ao, .int (J ((told : Nat) : Int)), .int (J ((pres : Nat) : Int))])), (ax, .inl (cI, 40, .inl (fun z9 => J (X z9)))), (ay, .inl (cI, 40, .inl (fun z9 => J (Y z9)))), (at_, .inl (cZ, 40, .inl (fun z9 => J (b2i (T z9))))), (ao, .inl (cI, 40, .inl (fun z9 => J ((O z9 : Nat) : Int))))] H := hP
        have hD : va_D _ [(oo, .inr (1, [.ref pp, .ref oc, .int (J ((osz : Nat) : Int))])), (oc, .inl (cI, 80, .inl (fun z9 => J (((sn K osz a) z9 : Nat) : Int)))), (pp, .inr (2, [.ref ax, .ref ay, .ref at_, .ref ao, .int (J ((told : Nat) : Int)), .int (J ((pres : Nat) : Int))])), (ax, .inl (cI, 40, .inl (fun z9 => J (X z9)))), (ay, .inl (cI, 40, .inl (fun z9 => J (Y z9)))), (at_, .inl (cZ, 40, .inl (fun z9 => J (b2i (T z9))))), (ao, .inl (cI, 40, .inl (fun z9 => J ((O z9 : Nat) : Int))))] := hD
        have hKc := sn_lt hKc osz (z := a) (by omega)
        refine lv_aload_n C.1 C.2.1 dX1_addCorner_86 rfl (lv_at hl 0 rfl) ?_
        refine lv_dup C.1 C.2.1 dX1_addCorner_87 rfl ?_
        refine jv_get C fw_X1_19 hK hP 0 rfl rfl dX1_addCorner_88 ?_
        refine jv_iconst C dX1_addCorner_91 ?_
        refine jv_iadd (z := ((osz + 1 : Nat) : Int)) C dX1_addCorner_92 (by omega) ?_
        refine jv_put C fw_X1_19 fp_X1 hK hP hD hS 0 rfl rfl rfl rfl (Nat.le_of_ble_eq_true rfl) dX1_addCorner_93 (fun H locs hP hD hS => ?_)
        have hP : va_P D vwCl [(oo, .inr (1, [.ref pp, .ref oc, .int (J ((osz + 1 : Nat) : Int))])), (oc, .inl (cI, 80, .inl (fun z9 => J (((sn K osz a) z9 : Nat) : Int)))), (pp, .inr (2, [.ref ax, .ref ay, .ref at_, .ref ao, .int (J ((told : Nat) : Int)), .int (J ((pres : Nat) : Int))])), (ax, .inl (cI, 40, .inl (fun z9 => J (X z9)))), (ay, .inl (cI, 40, .inl (fun z9 => J (Y z9)))), (at_, .inl (cZ, 40, .inl (fun z9 => J (b2i (T z9))))), (ao, .inl (cI, 40, .inl (fun z9 => J ((O z9 : Nat) : Int))))] H := hP
        have hD : va_D _ [(oo, .inr (1, [.ref pp, .ref oc, .int (J ((osz + 1 : Nat) : Int))])), (oc, .inl (cI, 80, .inl (fun z9 => J (((sn K osz a) z9 : Nat) : Int)))), (pp, .inr (2, [.ref ax, .ref ay, .ref at_, .ref ao, .int (J ((told : Nat) : Int)), .int (J ((pres : Nat) : Int))])), (ax, .inl (cI, 40, .inl (fun z9 => J (X z9)))), (ay, .inl (cI, 40, .inl (fun z9 => J (Y z9)))), (at_, .inl (cZ, 40, .inl (fun z9 => J (b2i (T z9))))), (ao, .inl (cI, 40, .inl (fun z9 => J ((O z9 : Nat) : Int))))] := hD
        exact jw_vret C hlk hr dX1_addCorner_96 (by rw [hSf]; unfold addC; rw [show popC X Y (K, osz).1 a w (K, osz).2 = osz from popC_stop (by simp only []; omega)]; rw [if_pos (by omega)]; exact hP) hS
    · refine lv_aload_n C.1 C.2.1 dX1_addCorner_8 rfl (lv_at hl 0 rfl) ?_
      refine jv_get C fw_X1_19 hK hP 0 rfl rfl dX1_addCorner_9 ?_
      refine jv_iconst C dX1_addCorner_12 ?_
      refine jv_icmp_lt (tgt := 64) C dX1_addCorner_13 (by decide) (by omega) (fun h3 => ?_) (fun h3 => ?_)
      · refine lv_aload_n C.1 C.2.1 dX1_addCorner_64 rfl (lv_at hl 0 rfl) ?_
        refine jv_get C fw_X1_19 hK hP 0 rfl rfl dX1_addCorner_65 ?_
        refine lv_aload_n C.1 C.2.1 dX1_addCorner_68 rfl (lv_at hl 0 rfl) ?_
        refine jv_get C fw_X1_9 hK hP 0 rfl rfl dX1_addCorner_69 ?_
        refine va_alen (v := J 80) C.1 C.2.1 hK hP 1 0 rfl rfl rfl dX1_addCorner_72 ?_
        refine jv_icmp_ge (tgt := 96) C dX1_addCorner_73 (by decide) (by omega) (fun h4 => ?_) (fun h4 => ?_)
        · exact jw_vret C hlk hr dX1_addCorner_96 (by rw [hSf]; unfold addC; rw [show popC X Y (K, osz).1 a w (K, osz).2 = osz from popC_stop (by simp only []; omega)]; rw [if_neg (by omega)]; exact hP) hS
        · refine lv_aload_n C.1 C.2.1 dX1_addCorner_76 rfl (lv_at hl 0 rfl) ?_
          refine jv_get C fw_X1_9 hK hP 0 rfl rfl dX1_addCorner_77 ?_
          refine lv_aload_n C.1 C.2.1 dX1_addCorner_80 rfl (lv_at hl 0 rfl) ?_
          refine jv_get C fw_X1_19 hK hP 0 rfl rfl dX1_addCorner_81 ?_
          refine lv_iload_n C.1 C.2.1 dX1_addCorner_84 rfl (lv_at hl 1 rfl) ?_
          refine jv_iast (G := fun z9 => (((sn K osz a) z9 : Nat) : Int)) C hK hP hD hS 1 0 rfl rfl (osz) (by omega) (by omega) (by decide) (sn_nat K osz a) dX1_addCorner_85 (fun H locs hP hD hS => ?_)
          have hP : va_P D vwCl [(oo, .inr (1, [.ref pp, .ref oc, .int (J ((osz : Nat) : Int))])), (oc, .inl (cI, 80, .inl (fun z9 => J (((sn K osz a) z9 : Nat) : Int)))), (pp, .inr (2, [.ref ax, .ref ay, .ref at_, .ref ao, .int (J ((told : Nat) : Int)), .int (J ((pres : Nat) : Int))])), (ax, .inl (cI, 40, .inl (fun z9 => J (X z9)))), (ay, .inl (cI, 40, .inl (fun z9 => J (Y z9)))), (at_, .inl (cZ, 40, .inl (fun z9 => J (b2i (T z9))))), (ao, .inl (cI, 40, .inl (fun z9 => J ((O z9 : Nat) : Int))))] H := hP
          have hD : va_D _ [(oo, .inr (1, [.ref pp, .ref oc, .int (J ((osz : Nat) : Int))])), (oc, .inl (cI, 80, .inl (fun z9 => J (((sn K osz a) z9 : Nat) : Int)))), (pp, .inr (2, [.ref ax, .ref ay, .ref at_, .ref ao, .int (J ((told : Nat) : Int)), .int (J ((pres : Nat) : Int))])), (ax, .inl (cI, 40, .inl (fun z9 => J (X z9)))), (ay, .inl (cI, 40, .inl (fun z9 => J (Y z9)))), (at_, .inl (cZ, 40, .inl (fun z9 => J (b2i (T z9))))), (ao, .inl (cI, 40, .inl (fun z9 => J ((O z9 : Nat) : Int))))] := hD
          have hKc := sn_lt hKc osz (z := a) (by omega)
          refine lv_aload_n C.1 C.2.1 dX1_addCorner_86 rfl (lv_at hl 0 rfl) ?_
          refine lv_dup C.1 C.2.1 dX1_addCorner_87 rfl ?_
          refine jv_get C fw_X1_19 hK hP 0 rfl rfl dX1_addCorner_88 ?_
          refine jv_iconst C dX1_addCorner_91 ?_
          refine jv_iadd (z := ((osz + 1 : Nat) : Int)) C dX1_addCorner_92 (by omega) ?_
          refine jv_put C fw_X1_19 fp_X1 hK hP hD hS 0 rfl rfl rfl rfl (Nat.le_of_ble_eq_true rfl) dX1_addCorner_93 (fun H locs hP hD hS => ?_)
          have hP : va_P D vwCl [(oo, .inr (1, [.ref pp, .ref oc, .int (J ((osz + 1 : Nat) : Int))])), (oc, .inl (cI, 80, .inl (fun z9 => J (((sn K osz a) z9 : Nat) : Int)))), (pp, .inr (2, [.ref ax, .ref ay, .ref at_, .ref ao, .int (J ((told : Nat) : Int)), .int (J ((pres : Nat) : Int))])), (ax, .inl (cI, 40, .inl (fun z9 => J (X z9)))), (ay, .inl (cI, 40, .inl (fun z9 => J (Y z9)))), (at_, .inl (cZ, 40, .inl (fun z9 => J (b2i (T z9))))), (ao, .inl (cI, 40, .inl (fun z9 => J ((O z9 : Nat) : Int))))] H := hP
          have hD : va_D _ [(oo, .inr (1, [.ref pp, .ref oc, .int (J ((osz + 1 : Nat) : Int))])), (oc, .inl (cI, 80, .inl (fun z9 => J (((sn K osz a) z9 : Nat) : Int)))), (pp, .inr (2, [.ref ax, .ref ay, .ref at_, .ref ao, .int (J ((told : Nat) : Int)), .int (J ((pres : Nat) : Int))])), (ax, .inl (cI, 40, .inl (fun z9 => J (X z9)))), (ay, .inl (cI, 40, .inl (fun z9 => J (Y z9)))), (at_, .inl (cZ, 40, .inl (fun z9 => J (b2i (T z9))))), (ao, .inl (cI, 40, .inl (fun z9 => J ((O z9 : Nat) : Int))))] := hD
          exact jw_vret C hlk hr dX1_addCorner_96 (by rw [hSf]; unfold addC; rw [show popC X Y (K, osz).1 a w (K, osz).2 = osz from popC_stop (by simp only []; omega)]; rw [if_pos (by omega)]; exact hP) hS
      · refine lv_aload_n C.1 C.2.1 dX1_addCorner_16 rfl (lv_at hl 0 rfl) ?_
        refine jv_get C fw_X1_15 hK hP 0 rfl rfl dX1_addCorner_17 ?_
        refine lv_aload_n C.1 C.2.1 dX1_addCorner_20 rfl (lv_at hl 0 rfl) ?_
        refine jv_get C fw_X1_9 hK hP 0 rfl rfl dX1_addCorner_21 ?_
        refine lv_aload_n C.1 C.2.1 dX1_addCorner_24 rfl (lv_at hl 0 rfl) ?_
        refine jv_get C fw_X1_19 hK hP 0 rfl rfl dX1_addCorner_25 ?_
        refine jv_iconst C dX1_addCorner_28 ?_
        refine jv_isub (z := ((osz - 2 : Nat) : Int)) C dX1_addCorner_29 (by omega) ?_
        refine jv_iald C hK hP 1 0 rfl rfl (osz - 2) (by omega) (by omega) (by decide) dX1_addCorner_30 ?_
        have f5 := hKc (osz - 2)
        refine lv_aload_n C.1 C.2.1 dX1_addCorner_31 rfl (lv_at hl 0 rfl) ?_
        refine jv_get C fw_X1_9 hK hP 0 rfl rfl dX1_addCorner_32 ?_
        refine lv_aload_n C.1 C.2.1 dX1_addCorner_35 rfl (lv_at hl 0 rfl) ?_
        refine jv_get C fw_X1_19 hK hP 0 rfl rfl dX1_addCorner_36 ?_
        refine jv_iconst C dX1_addCorner_39 ?_
        refine jv_isub (z := ((osz - 1 : Nat) : Int)) C dX1_addCorner_40 (by omega) ?_
        refine jv_iald C hK hP 1 0 rfl rfl (osz - 1) (by omega) (by omega) (by decide) dX1_addCorner_41 ?_
        have f6 := hKc (osz - 1)
        refine lv_iload_n C.1 C.2.1 dX1_addCorner_42 rfl (lv_at hl 1 rfl) ?_
        refine jv_rdV (ni := 3) (ci := 2) (q0 := 0) C [.int (J ((K (osz - 2) : Nat) : Int)), .int (J ((K (osz - 1) : Nat) : Int)), .int (J ((a : Nat) : Int))] [] (c_X2_leftness (X := X) (Y := Y) (T := T) (O := O) (told := told) (pres := pres) (a := K (osz - 2)) (b := K (osz - 1)) (k := a) ⟨hX, hY, hO, by omega, by omega⟩ (by omega) (by omega) (by omega)) gv_X1_35 (by decide +kernel) (by decide) hK (hP.sub (ws' := [(pp, .inr (2, [.ref ax, .ref ay, .ref at_, .ref ao, .int (J ((told : Nat) : Int)), .int (J ((pres : Nat) : Int))])), (ax, .inl (cI, 40, .inl (fun z9 => J (X z9)))), (ay, .inl (cI, 40, .inl (fun z9 => J (Y z9)))), (at_, .inl (cZ, 40, .inl (fun z9 => J (b2i (T z9))))), (ao, .inl (cI, 40, .inl (fun z9 => J ((O z9 : Nat) : Int))))]) [2, 3, 4, 5, 6] rfl) rfl rfl rfl hl.1 (by simp [Value.category]) dX1_addCorner_43 (by decide) ?_ rfl
        show W _ _ _ _ _ _ _ _ _ _ _ _ _ _ _ (F0 m 46 ls [.long (Lg (le3 X Y (K (osz - 2)) (K (osz - 1)) a))])
        have f7 := le3_bd hX hY (K (osz - 2)) (K (osz - 1)) a
        refine jv_lconst (z := 0) C dX1_addCorner_46 rfl ?_
        refine jv_lcmp_gt (tgt := 64) C dX1_addCorner_47 dX1_addCorner_48 (by decide) (by omega) (fun h8 => ?_) (fun h8 => ?_)
        · refine lv_aload_n C.1 C.2.1 dX1_addCorner_64 rfl (lv_at hl 0 rfl) ?_
          refine jv_get C fw_X1_19 hK hP 0 rfl rfl dX1_addCorner_65 ?_
          refine lv_aload_n C.1 C.2.1 dX1_addCorner_68 rfl (lv_at hl 0 rfl) ?_
          refine jv_get C fw_X1_9 hK hP 0 rfl rfl dX1_addCorner_69 ?_
          refine va_alen (v := J 80) C.1 C.2.1 hK hP 1 0 rfl rfl rfl dX1_addCorner_72 ?_
          refine jv_icmp_ge (tgt := 96) C dX1_addCorner_73 (by decide) (by omega) (fun h9 => ?_) (fun h9 => ?_)
          · exact jw_vret C hlk hr dX1_addCorner_96 (by rw [hSf]; unfold addC; rw [show popC X Y (K, osz).1 a w (K, osz).2 = osz from popC_stop (by simp only []; omega)]; rw [if_neg (by omega)]; exact hP) hS
          · refine lv_aload_n C.1 C.2.1 dX1_addCorner_76 rfl (lv_at hl 0 rfl) ?_
            refine jv_get C fw_X1_9 hK hP 0 rfl rfl dX1_addCorner_77 ?_
            refine lv_aload_n C.1 C.2.1 dX1_addCorner_80 rfl (lv_at hl 0 rfl) ?_
            refine jv_get C fw_X1_19 hK hP 0 rfl rfl dX1_addCorner_81 ?_
            refine lv_iload_n C.1 C.2.1 dX1_addCorner_84 rfl (lv_at hl 1 rfl) ?_
            refine jv_iast (G := fun z9 => (((sn K osz a) z9 : Nat) : Int)) C hK hP hD hS 1 0 rfl rfl (osz) (by omega) (by omega) (by decide) (sn_nat K osz a) dX1_addCorner_85 (fun H locs hP hD hS => ?_)
            have hP : va_P D vwCl [(oo, .inr (1, [.ref pp, .ref oc, .int (J ((osz : Nat) : Int))])), (oc, .inl (cI, 80, .inl (fun z9 => J (((sn K osz a) z9 : Nat) : Int)))), (pp, .inr (2, [.ref ax, .ref ay, .ref at_, .ref ao, .int (J ((told : Nat) : Int)), .int (J ((pres : Nat) : Int))])), (ax, .inl (cI, 40, .inl (fun z9 => J (X z9)))), (ay, .inl (cI, 40, .inl (fun z9 => J (Y z9)))), (at_, .inl (cZ, 40, .inl (fun z9 => J (b2i (T z9))))), (ao, .inl (cI, 40, .inl (fun z9 => J ((O z9 : Nat) : Int))))] H := hP
            have hD : va_D _ [(oo, .inr (1, [.ref pp, .ref oc, .int (J ((osz : Nat) : Int))])), (oc, .inl (cI, 80, .inl (fun z9 => J (((sn K osz a) z9 : Nat) : Int)))), (pp, .inr (2, [.ref ax, .ref ay, .ref at_, .ref ao, .int (J ((told : Nat) : Int)), .int (J ((pres : Nat) : Int))])), (ax, .inl (cI, 40, .inl (fun z9 => J (X z9)))), (ay, .inl (cI, 40, .inl (fun z9 => J (Y z9)))), (at_, .inl (cZ, 40, .inl (fun z9 => J (b2i (T z9))))), (ao, .inl (cI, 40, .inl (fun z9 => J ((O z9 : Nat) : Int))))] := hD
            have hKc := sn_lt hKc osz (z := a) (by omega)
            refine lv_aload_n C.1 C.2.1 dX1_addCorner_86 rfl (lv_at hl 0 rfl) ?_
            refine lv_dup C.1 C.2.1 dX1_addCorner_87 rfl ?_
            refine jv_get C fw_X1_19 hK hP 0 rfl rfl dX1_addCorner_88 ?_
            refine jv_iconst C dX1_addCorner_91 ?_
            refine jv_iadd (z := ((osz + 1 : Nat) : Int)) C dX1_addCorner_92 (by omega) ?_
            refine jv_put C fw_X1_19 fp_X1 hK hP hD hS 0 rfl rfl rfl rfl (Nat.le_of_ble_eq_true rfl) dX1_addCorner_93 (fun H locs hP hD hS => ?_)
            have hP : va_P D vwCl [(oo, .inr (1, [.ref pp, .ref oc, .int (J ((osz + 1 : Nat) : Int))])), (oc, .inl (cI, 80, .inl (fun z9 => J (((sn K osz a) z9 : Nat) : Int)))), (pp, .inr (2, [.ref ax, .ref ay, .ref at_, .ref ao, .int (J ((told : Nat) : Int)), .int (J ((pres : Nat) : Int))])), (ax, .inl (cI, 40, .inl (fun z9 => J (X z9)))), (ay, .inl (cI, 40, .inl (fun z9 => J (Y z9)))), (at_, .inl (cZ, 40, .inl (fun z9 => J (b2i (T z9))))), (ao, .inl (cI, 40, .inl (fun z9 => J ((O z9 : Nat) : Int))))] H := hP
            have hD : va_D _ [(oo, .inr (1, [.ref pp, .ref oc, .int (J ((osz + 1 : Nat) : Int))])), (oc, .inl (cI, 80, .inl (fun z9 => J (((sn K osz a) z9 : Nat) : Int)))), (pp, .inr (2, [.ref ax, .ref ay, .ref at_, .ref ao, .int (J ((told : Nat) : Int)), .int (J ((pres : Nat) : Int))])), (ax, .inl (cI, 40, .inl (fun z9 => J (X z9)))), (ay, .inl (cI, 40, .inl (fun z9 => J (Y z9)))), (at_, .inl (cZ, 40, .inl (fun z9 => J (b2i (T z9))))), (ao, .inl (cI, 40, .inl (fun z9 => J ((O z9 : Nat) : Int))))] := hD
            exact jw_vret C hlk hr dX1_addCorner_96 (by rw [hSf]; unfold addC; rw [show popC X Y (K, osz).1 a w (K, osz).2 = osz from popC_stop (by simp only []; omega)]; rw [if_pos (by omega)]; exact hP) hS
        · refine lv_aload_n C.1 C.2.1 dX1_addCorner_51 rfl (lv_at hl 0 rfl) ?_
          refine lv_dup C.1 C.2.1 dX1_addCorner_52 rfl ?_
          refine jv_get C fw_X1_19 hK hP 0 rfl rfl dX1_addCorner_53 ?_
          refine jv_iconst C dX1_addCorner_56 ?_
          refine jv_isub (z := ((osz - 1 : Nat) : Int)) C dX1_addCorner_57 (by omega) ?_
          refine jv_put C fw_X1_19 fp_X1 hK hP hD hS 0 rfl rfl rfl rfl (Nat.le_of_ble_eq_true rfl) dX1_addCorner_58 (fun H locs hP hD hS => ?_)
          have hP : va_P D vwCl [(oo, .inr (1, [.ref pp, .ref oc, .int (J ((osz - 1 : Nat) : Int))])), (oc, .inl (cI, 80, .inl (fun z9 => J ((K z9 : Nat) : Int)))), (pp, .inr (2, [.ref ax, .ref ay, .ref at_, .ref ao, .int (J ((told : Nat) : Int)), .int (J ((pres : Nat) : Int))])), (ax, .inl (cI, 40, .inl (fun z9 => J (X z9)))), (ay, .inl (cI, 40, .inl (fun z9 => J (Y z9)))), (at_, .inl (cZ, 40, .inl (fun z9 => J (b2i (T z9))))), (ao, .inl (cI, 40, .inl (fun z9 => J ((O z9 : Nat) : Int))))] H := hP
          have hD : va_D _ [(oo, .inr (1, [.ref pp, .ref oc, .int (J ((osz - 1 : Nat) : Int))])), (oc, .inl (cI, 80, .inl (fun z9 => J ((K z9 : Nat) : Int)))), (pp, .inr (2, [.ref ax, .ref ay, .ref at_, .ref ao, .int (J ((told : Nat) : Int)), .int (J ((pres : Nat) : Int))])), (ax, .inl (cI, 40, .inl (fun z9 => J (X z9)))), (ay, .inl (cI, 40, .inl (fun z9 => J (Y z9)))), (at_, .inl (cZ, 40, .inl (fun z9 => J (b2i (T z9))))), (ao, .inl (cI, 40, .inl (fun z9 => J ((O z9 : Nat) : Int))))] := hD
          refine lv_goto (tgt := 0) C.1 C.2.1 dX1_addCorner_61 (by decide) ?_
          exact ih (osz - 1) (by omega) (by omega) Sf (by rw [hSf]; unfold addC; rw [show popC X Y (K, osz).1 a w (K, osz).2 = popC X Y (K, osz - 1).1 a w (K, osz - 1).2 from popC_go (by omega) (by omega) (by omega)]) H locs hP hD hS ls (lv_sub hl [0, 1, 2] rfl)
set_option maxRecDepth 20000 in
theorem c_X1_addCorner {a w : Nat} (hB : PB X Y O told pres) (hKc : ∀ i, K i < 40) (hos : osz ≤ 80) (ha : a < 40) (hw : w ≤ 80) : cW l yX1_addCorner cX1_addCorner 3 none 2 47 D (tyz cI cZ) [.ref oo, .int (J ((a : Nat) : Int)), .int (J ((w : Nat) : Int))] (wOut cI oo oc pp K osz ++ (wPts cI cZ pp ax ay at_ ao X Y T O told pres)) (wOut cI oo oc pp ((addC X Y a w (K, osz)).1) ((addC X Y a w (K, osz)).2) ++ (wPts cI cZ pp ax ay at_ ao X Y T O told pres)) none := by
  refine cW_of (owner := RX1) rfl (by decide) (Nat.le_of_ble_eq_true rfl) ?_
  intro p e s m args below meth c ls C hlk hr hK hP hD hS hl
  have hl : lv_has ls 3 [(0, .ref oo), (1, .int (J ((a : Nat) : Int))), (2, .int (J ((w : Nat) : Int)))] := hl
  have hP : va_P D vwCl [(oo, .inr (1, [.ref pp, .ref oc, .int (J ((osz : Nat) : Int))])), (oc, .inl (cI, 80, .inl (fun z9 => J ((K z9 : Nat) : Int)))), (pp, .inr (2, [.ref ax, .ref ay, .ref at_, .ref ao, .int (J ((told : Nat) : Int)), .int (J ((pres : Nat) : Int))])), (ax, .inl (cI, 40, .inl (fun z9 => J (X z9)))), (ay, .inl (cI, 40, .inl (fun z9 => J (Y z9)))), (at_, .inl (cZ, 40, .inl (fun z9 => J (b2i (T z9))))), (ao, .inl (cI, 40, .inl (fun z9 => J ((O z9 : Nat) : Int))))] s.heap := hP
  have hD : va_D _ [(oo, .inr (1, [.ref pp, .ref oc, .int (J ((osz : Nat) : Int))])), (oc, .inl (cI, 80, .inl (fun z9 => J ((K z9 : Nat) : Int)))), (pp, .inr (2, [.ref ax, .ref ay, .ref at_, .ref ao, .int (J ((told : Nat) : Int)), .int (J ((pres : Nat) : Int))])), (ax, .inl (cI, 40, .inl (fun z9 => J (X z9)))), (ay, .inl (cI, 40, .inl (fun z9 => J (Y z9)))), (at_, .inl (cZ, 40, .inl (fun z9 => J (b2i (T z9))))), (ao, .inl (cI, 40, .inl (fun z9 => J ((O z9 : Nat) : Int))))] := hD
  obtain ⟨hX, hY, hO, htd, hps⟩ := hB
  exact lp_X1_addCorner_0 C hlk hr hK ⟨hX, hY, hO, htd, hps⟩ hKc ha hw (osz + 1) osz (by omega) hos _ rfl s.heap [] hP hD hS ls (lv_sub hl [0, 1, 2] rfl)
set_option maxRecDepth 20000 in
theorem lp_X1_trace_53 {p : Program} {e : Env} {s : State} {m : MethodId} {args : Array Value} {below : List Frame} {meth : Method} {c : Code} {WC : va_W} {w : Nat} (C : CallFix p m c cX1_trace 3 s args TB RX1) (hlk : meth.locks = false) (hr : meth.sig.returnType = none) (hK : va_K D vwCl (tyz cI cZ) s) (hB : PB X Y O told pres) (hw : w ≤ 80) :
    ∀ (n : Nat) (z : Int) (K : Nat → Nat) (osz : Nat), (z + 1).toNat < n → -3 < z → z < 40 → (∀ i, K i < 40) → osz ≤ 80 → ∀ (Sf : (Nat → Nat) × Nat), Sf = bwC X Y O w (z + 1).toNat (K, osz) → ∀ (H : Heap) (locs : List Loc), va_P D vwCl [(oo, .inr (1, [.ref pp, .ref oc, .int (J ((osz : Nat) : Int))])), (oc, .inl (cI, 80, .inl (fun z9 => J ((K z9 : Nat) : Int)))), (pp, .inr (2, [.ref ax, .ref ay, .ref at_, .ref ao, .int (J ((told : Nat) : Int)), .int (J ((pres : Nat) : Int))])), (ax, .inl (cI, 40, .inl (fun z9 => J (X z9)))), (ay, .inl (cI, 40, .inl (fun z9 => J (Y z9)))), (at_, .inl (cZ, 40, .inl (fun z9 => J (b2i (T z9))))), (ao, .inl (cI, 40, .inl (fun z9 => J ((O z9 : Nat) : Int))))] H → va_D (inW WC) [(oo, .inr (1, [.ref pp, .ref oc, .int (J ((osz : Nat) : Int))])), (oc, .inl (cI, 80, .inl (fun z9 => J ((K z9 : Nat) : Int)))), (pp, .inr (2, [.ref ax, .ref ay, .ref at_, .ref ao, .int (J ((told : Nat) : Int)), .int (J ((pres : Nat) : Int))])), (ax, .inl (cI, 40, .inl (fun z9 => J (X z9)))), (ay, .inl (cI, 40, .inl (fun z9 => J (Y z9)))), (at_, .inl (cZ, 40, .inl (fun z9 => J (b2i (T z9))))), (ao, .inl (cI, 40, .inl (fun z9 => J ((O z9 : Nat) : Int))))] → va_S (inW WC) s.heap H locs → ∀ ls : Array Slot, lv_has ls 3 [(0, .ref oo), (1, .int (J ((w : Nat) : Int))), (2, .int (J z))] → W p l e { frames := 3, cells := 0, slots := 0, locals := 69 } s m args below meth c H locs 0 0 (MQ below (QW D WC (wOut cI oo oc pp Sf.1 (cut1 Sf.2) ++ (wPts cI cZ pp ax ay at_ ao X Y T O told pres)) none) args s 0 0 (inW WC)) (F0 m 53 ls []) := by
  obtain ⟨hX, hY, hO, htd, hps⟩ := hB
  intro n
  induction n with
  | zero => intro z K osz hi0 hi1 hi2 hKc hos; omega
  | succ n ih =>
    intro z K osz hi0 hi1 hi2 hKc hos Sf hSf H locs hP hD hS ls hl
    refine lv_iload_n C.1 C.2.1 dX1_trace_53 rfl (lv_at hl 2 rfl) ?_
    refine jv_if_lt (tgt := 77) C dX1_trace_54 (by decide) (by omega) (fun h1 => ?_) (fun h1 => ?_)
    · refine lv_aload_n C.1 C.2.1 dX1_trace_77 rfl (lv_at hl 0 rfl) ?_
      refine jv_get C fw_X1_19 hK hP 0 rfl rfl dX1_trace_78 ?_
      refine jv_iconst C dX1_trace_81 ?_
      refine jv_icmp_le (tgt := 95) C dX1_trace_82 (by decide) (by omega) (fun h2 => ?_) (fun h2 => ?_)
      · exact jw_vret C hlk hr dX1_trace_95 (by rw [show (z + 1).toNat = 0 by omega] at hSf; rw [hSf]; simp only [bwC]; rw [cut1_neg (by omega)]; exact hP) hS
      · refine lv_aload_n C.1 C.2.1 dX1_trace_85 rfl (lv_at hl 0 rfl) ?_
        refine lv_dup C.1 C.2.1 dX1_trace_86 rfl ?_
        refine jv_get C fw_X1_19 hK hP 0 rfl rfl dX1_trace_87 ?_
        refine jv_iconst C dX1_trace_90 ?_
        refine jv_isub (z := ((osz - 1 : Nat) : Int)) C dX1_trace_91 (by omega) ?_
        refine jv_put C fw_X1_19 fp_X1 hK hP hD hS 0 rfl rfl rfl rfl (Nat.le_of_ble_eq_true rfl) dX1_trace_92 (fun H locs hP hD hS => ?_)
        have hP : va_P D vwCl [(oo, .inr (1, [.ref pp, .ref oc, .int (J ((osz - 1 : Nat) : Int))])), (oc, .inl (cI, 80, .inl (fun z9 => J ((K z9 : Nat) : Int)))), (pp, .inr (2, [.ref ax, .ref ay, .ref at_, .ref ao, .int (J ((told : Nat) : Int)), .int (J ((pres : Nat) : Int))])), (ax, .inl (cI, 40, .inl (fun z9 => J (X z9)))), (ay, .inl (cI, 40, .inl (fun z9 => J (Y z9)))), (at_, .inl (cZ, 40, .inl (fun z9 => J (b2i (T z9))))), (ao, .inl (cI, 40, .inl (fun z9 => J ((O z9 : Nat) : Int))))] H := hP
        have hD : va_D _ [(oo, .inr (1, [.ref pp, .ref oc, .int (J ((osz - 1 : Nat) : Int))])), (oc, .inl (cI, 80, .inl (fun z9 => J ((K z9 : Nat) : Int)))), (pp, .inr (2, [.ref ax, .ref ay, .ref at_, .ref ao, .int (J ((told : Nat) : Int)), .int (J ((pres : Nat) : Int))])), (ax, .inl (cI, 40, .inl (fun z9 => J (X z9)))), (ay, .inl (cI, 40, .inl (fun z9 => J (Y z9)))), (at_, .inl (cZ, 40, .inl (fun z9 => J (b2i (T z9))))), (ao, .inl (cI, 40, .inl (fun z9 => J ((O z9 : Nat) : Int))))] := hD
        exact jw_vret C hlk hr dX1_trace_95 (by rw [show (z + 1).toNat = 0 by omega] at hSf; rw [hSf]; simp only [bwC]; rw [cut1_pos (by omega)]; exact hP) hS
    · refine lv_aload_n C.1 C.2.1 dX1_trace_57 rfl (lv_at hl 0 rfl) ?_
      refine lv_aload_n C.1 C.2.1 dX1_trace_58 rfl (lv_at hl 0 rfl) ?_
      refine jv_get C fw_X1_15 hK hP 0 rfl rfl dX1_trace_59 ?_
      refine jv_get C fw_X1_28 hK hP 2 rfl rfl dX1_trace_62 ?_
      refine lv_iload_n C.1 C.2.1 dX1_trace_65 rfl (lv_at hl 2 rfl) ?_
      refine jv_iald C hK hP 6 0 rfl rfl (z.toNat) (by omega) (by omega) (by decide) dX1_trace_66 ?_
      have f3 := hO z.toNat
      refine lv_iload_n C.1 C.2.1 dX1_trace_67 rfl (lv_at hl 1 rfl) ?_
      have hac := addC_bd (X := X) (Y := Y) (p := O z.toNat) (kept := w) (S := (K, osz)) hKc (by simpa using (by omega : osz ≤ 80)) (by omega)
      refine jv_wrV (ni := 2) (ci := 1) (q0 := 0) (wt := [(oo, .inr (1, [.ref pp, .ref oc, .int (J (((addC X Y (O z.toNat) w (K, osz)).2 : Nat) : Int))])), (oc, .inl (cI, 80, .inl (fun z9 => J ((((addC X Y (O z.toNat) w (K, osz)).1) z9 : Nat) : Int)))), (pp, .inr (2, [.ref ax, .ref ay, .ref at_, .ref ao, .int (J ((told : Nat) : Int)), .int (J ((pres : Nat) : Int))])), (ax, .inl (cI, 40, .inl (fun z9 => J (X z9)))), (ay, .inl (cI, 40, .inl (fun z9 => J (Y z9)))), (at_, .inl (cZ, 40, .inl (fun z9 => J (b2i (T z9))))), (ao, .inl (cI, 40, .inl (fun z9 => J ((O z9 : Nat) : Int))))]) C [.int (J ((O z.toNat : Nat) : Int)), .int (J ((w : Nat) : Int))] [] (c_X1_addCorner (K := K) (osz := osz) (a := O z.toNat) (w := w) ⟨hX, hY, hO, htd, hps⟩ hKc (by omega) (by omega) (by omega)) gv_X1_31 (by decide +kernel) (by decide) hK hP hD hS [0, 1, 2, 3, 4, 5, 6] rfl (by decide) rfl rfl rfl rfl rfl rfl hl.1 (by simp [Value.category]) dX1_trace_68 (by decide) (fun H locs hP hD hS => ?_) rfl
      show W _ _ _ _ _ _ _ _ _ _ _ _ _ _ _ (F0 m 71 ls [])
      refine lv_iinc (v := J (z - 1)) (lv' := [(2, .int (J (z - 1))), (0, .ref oo), (1, .int (J ((w : Nat) : Int)))]) C.1 C.2.1 dX1_trace_71 hl (k := 2) rfl (by rw [show Int32.ofInt (-1) = J (-1) from rfl, J_add]; exact congrArg J (by omega)) (by decide) rfl (fun ls hl => ?_)
      refine lv_goto (tgt := 53) C.1 C.2.1 dX1_trace_74 (by decide) ?_
      exact ih (z - 1) ((addC X Y (O z.toNat) w (K, osz)).1) ((addC X Y (O z.toNat) w (K, osz)).2) (by omega) (by omega) (by omega) hac.1 hac.2 Sf (by rw [hSf, bwC_go (by omega), show (z + 1).toNat - 1 = z.toNat by omega, show (z - 1 + 1).toNat = z.toNat by omega]) H locs hP hD hS ls (lv_sub hl [1, 2, 0] rfl)
set_option maxRecDepth 20000 in
theorem lp_X1_trace_7 {p : Program} {e : Env} {s : State} {m : MethodId} {args : Array Value} {below : List Frame} {meth : Method} {c : Code} {WC : va_W} (C : CallFix p m c cX1_trace 3 s args TB RX1) (hlk : meth.locks = false) (hr : meth.sig.returnType = none) (hK : va_K D vwCl (tyz cI cZ) s) (hB : PB X Y O told pres) :
    ∀ (n : Nat) (i : Nat) (K : Nat → Nat) (osz : Nat), pres < i + n → i ≤ pres → (∀ i, K i < 40) → osz ≤ 80 → ∀ (Fg : (Nat → Nat) × Nat), Fg = fwC X Y O pres i (K, osz) → ∀ (Sf : (Nat → Nat) × Nat), Sf = bwC X Y O Fg.2 (pres - 1) Fg → ∀ (H : Heap) (locs : List Loc), va_P D vwCl [(oo, .inr (1, [.ref pp, .ref oc, .int (J ((osz : Nat) : Int))])), (oc, .inl (cI, 80, .inl (fun z9 => J ((K z9 : Nat) : Int)))), (pp, .inr (2, [.ref ax, .ref ay, .ref at_, .ref ao, .int (J ((told : Nat) : Int)), .int (J ((pres : Nat) : Int))])), (ax, .inl (cI, 40, .inl (fun z9 => J (X z9)))), (ay, .inl (cI, 40, .inl (fun z9 => J (Y z9)))), (at_, .inl (cZ, 40, .inl (fun z9 => J (b2i (T z9))))), (ao, .inl (cI, 40, .inl (fun z9 => J ((O z9 : Nat) : Int))))] H → va_D (inW WC) [(oo, .inr (1, [.ref pp, .ref oc, .int (J ((osz : Nat) : Int))])), (oc, .inl (cI, 80, .inl (fun z9 => J ((K z9 : Nat) : Int)))), (pp, .inr (2, [.ref ax, .ref ay, .ref at_, .ref ao, .int (J ((told : Nat) : Int)), .int (J ((pres : Nat) : Int))])), (ax, .inl (cI, 40, .inl (fun z9 => J (X z9)))), (ay, .inl (cI, 40, .inl (fun z9 => J (Y z9)))), (at_, .inl (cZ, 40, .inl (fun z9 => J (b2i (T z9))))), (ao, .inl (cI, 40, .inl (fun z9 => J ((O z9 : Nat) : Int))))] → va_S (inW WC) s.heap H locs → ∀ ls : Array Slot, lv_has ls 3 [(0, .ref oo), (1, .int (J ((i : Nat) : Int)))] → W p l e { frames := 3, cells := 0, slots := 0, locals := 69 } s m args below meth c H locs 0 0 (MQ below (QW D WC (wOut cI oo oc pp Sf.1 (cut1 Sf.2) ++ (wPts cI cZ pp ax ay at_ ao X Y T O told pres)) none) args s 0 0 (inW WC)) (F0 m 7 ls []) := by
  obtain ⟨hX, hY, hO, htd, hps⟩ := hB
  intro n
  induction n with
  | zero => intro i K osz hi0 hi1 hKc hos; omega
  | succ n ih =>
    intro i K osz hi0 hi1 hKc hos Fg hFg Sf hSf H locs hP hD hS ls hl
    refine lv_iload_n C.1 C.2.1 dX1_trace_7 rfl (lv_at hl 1 rfl) ?_
    refine lv_aload_n C.1 C.2.1 dX1_trace_8 rfl (lv_at hl 0 rfl) ?_
    refine jv_get C fw_X1_15 hK hP 0 rfl rfl dX1_trace_9 ?_
    refine jv_get C fw_X1_23 hK hP 2 rfl rfl dX1_trace_12 ?_
    refine jv_icmp_ge (tgt := 38) C dX1_trace_15 (by decide) (by omega) (fun h1 => ?_) (fun h1 => ?_)
    · refine lv_aload_n C.1 C.2.1 dX1_trace_38 rfl (lv_at hl 0 rfl) ?_
      refine jv_get C fw_X1_19 hK hP 0 rfl rfl dX1_trace_39 ?_
      refine lv_istore_n (lv' := [(1, .int (J ((osz : Nat) : Int))), (0, .ref oo)]) C.1 C.2.1 dX1_trace_42 rfl hl (by decide) rfl (fun ls hl => ?_)
      refine lv_aload_n C.1 C.2.1 dX1_trace_43 rfl (lv_at hl 1 rfl) ?_
      refine jv_get C fw_X1_15 hK hP 0 rfl rfl dX1_trace_44 ?_
      refine jv_get C fw_X1_23 hK hP 2 rfl rfl dX1_trace_47 ?_
      refine jv_iconst C dX1_trace_50 ?_
      refine jv_isub (z := (pres : Int) - 2) C dX1_trace_51 (rfl) ?_
      refine lv_istore_n (lv' := [(2, .int (J ((pres : Int) - 2))), (1, .int (J ((osz : Nat) : Int))), (0, .ref oo)]) C.1 C.2.1 dX1_trace_52 rfl hl (by decide) rfl (fun ls hl => ?_)
      exact lp_X1_trace_53 C hlk hr hK ⟨hX, hY, hO, htd, hps⟩ (w := osz) (by omega) 100 ((pres : Int) - 2) K osz (by omega) (by omega) (by omega) hKc (by omega) Sf (by rw [fwC_end (by omega)] at hFg; subst hFg; rw [hSf, show ((pres : Int) - 2 + 1).toNat = pres - 1 by omega]) H locs hP hD hS ls (lv_sub hl [2, 1, 0] rfl)
    · refine lv_aload_n C.1 C.2.1 dX1_trace_18 rfl (lv_at hl 0 rfl) ?_
      refine lv_aload_n C.1 C.2.1 dX1_trace_19 rfl (lv_at hl 0 rfl) ?_
      refine jv_get C fw_X1_15 hK hP 0 rfl rfl dX1_trace_20 ?_
      refine jv_get C fw_X1_28 hK hP 2 rfl rfl dX1_trace_23 ?_
      refine lv_iload_n C.1 C.2.1 dX1_trace_26 rfl (lv_at hl 1 rfl) ?_
      refine jv_iald C hK hP 6 0 rfl rfl (i) (by omega) (by omega) (by decide) dX1_trace_27 ?_
      have f2 := hO i
      refine jv_iconst C dX1_trace_28 ?_
      have hac := addC_bd (X := X) (Y := Y) (p := O i) (kept := 1) (S := (K, osz)) hKc (by simpa using (by omega : osz ≤ 80)) (by omega)
      refine jv_wrV (ni := 2) (ci := 1) (q0 := 0) (wt := [(oo, .inr (1, [.ref pp, .ref oc, .int (J (((addC X Y (O i) 1 (K, osz)).2 : Nat) : Int))])), (oc, .inl (cI, 80, .inl (fun z9 => J ((((addC X Y (O i) 1 (K, osz)).1) z9 : Nat) : Int)))), (pp, .inr (2, [.ref ax, .ref ay, .ref at_, .ref ao, .int (J ((told : Nat) : Int)), .int (J ((pres : Nat) : Int))])), (ax, .inl (cI, 40, .inl (fun z9 => J (X z9)))), (ay, .inl (cI, 40, .inl (fun z9 => J (Y z9)))), (at_, .inl (cZ, 40, .inl (fun z9 => J (b2i (T z9))))), (ao, .inl (cI, 40, .inl (fun z9 => J ((O z9 : Nat) : Int))))]) C [.int (J ((O i : Nat) : Int)), .int (J 1)] [] (c_X1_addCorner (K := K) (osz := osz) (a := O i) (w := 1) ⟨hX, hY, hO, htd, hps⟩ hKc (by omega) (by omega) (by omega)) gv_X1_31 (by decide +kernel) (by decide) hK hP hD hS [0, 1, 2, 3, 4, 5, 6] rfl (by decide) rfl rfl rfl rfl rfl rfl hl.1 (by simp [Value.category]) dX1_trace_29 (by decide) (fun H locs hP hD hS => ?_) rfl
      show W _ _ _ _ _ _ _ _ _ _ _ _ _ _ _ (F0 m 32 ls [])
      refine lv_iinc (v := J (((i + 1 : Nat) : Int))) (lv' := [(1, .int (J ((i + 1 : Nat) : Int))), (0, .ref oo)]) C.1 C.2.1 dX1_trace_32 hl (k := 1) rfl (by rw [show Int32.ofInt 1 = J 1 from rfl, J_add]; exact congrArg J (by omega)) (by decide) rfl (fun ls hl => ?_)
      refine lv_goto (tgt := 7) C.1 C.2.1 dX1_trace_35 (by decide) ?_
      exact ih (i + 1) ((addC X Y (O i) 1 (K, osz)).1) ((addC X Y (O i) 1 (K, osz)).2) (by omega) (by omega) hac.1 hac.2 Fg (by rw [hFg, fwC_go (by omega)]) Sf hSf H locs hP hD hS ls (lv_sub hl [1, 0] rfl)
set_option maxRecDepth 20000 in
theorem c_X1_trace  (hB : PB X Y O told pres) (hKc : ∀ i, K i < 40) (hos : osz ≤ 80)  : cW l yX1_trace cX1_trace 3 none 3 69 D (tyz cI cZ) [.ref oo] (wOut cI oo oc pp K osz ++ (wPts cI cZ pp ax ay at_ ao X Y T O told pres)) (wOut cI oo oc pp ((trC X Y O pres K).1) ((trC X Y O pres K).2) ++ (wPts cI cZ pp ax ay at_ ao X Y T O told pres)) none := by
  refine cW_of (owner := RX1) rfl (by decide) (Nat.le_of_ble_eq_true rfl) ?_
  intro p e s m args below meth c ls C hlk hr hK hP hD hS hl
  have hl : lv_has ls 3 [(0, .ref oo)] := hl
  have hP : va_P D vwCl [(oo, .inr (1, [.ref pp, .ref oc, .int (J ((osz : Nat) : Int))])), (oc, .inl (cI, 80, .inl (fun z9 => J ((K z9 : Nat) : Int)))), (pp, .inr (2, [.ref ax, .ref ay, .ref at_, .ref ao, .int (J ((told : Nat) : Int)), .int (J ((pres : Nat) : Int))])), (ax, .inl (cI, 40, .inl (fun z9 => J (X z9)))), (ay, .inl (cI, 40, .inl (fun z9 => J (Y z9)))), (at_, .inl (cZ, 40, .inl (fun z9 => J (b2i (T z9))))), (ao, .inl (cI, 40, .inl (fun z9 => J ((O z9 : Nat) : Int))))] s.heap := hP
  have hD : va_D _ [(oo, .inr (1, [.ref pp, .ref oc, .int (J ((osz : Nat) : Int))])), (oc, .inl (cI, 80, .inl (fun z9 => J ((K z9 : Nat) : Int)))), (pp, .inr (2, [.ref ax, .ref ay, .ref at_, .ref ao, .int (J ((told : Nat) : Int)), .int (J ((pres : Nat) : Int))])), (ax, .inl (cI, 40, .inl (fun z9 => J (X z9)))), (ay, .inl (cI, 40, .inl (fun z9 => J (Y z9)))), (at_, .inl (cZ, 40, .inl (fun z9 => J (b2i (T z9))))), (ao, .inl (cI, 40, .inl (fun z9 => J ((O z9 : Nat) : Int))))] := hD
  obtain ⟨hX, hY, hO, htd, hps⟩ := hB
  refine lv_aload_n C.1 C.2.1 dX1_trace_0 rfl (lv_at hl 0 rfl) ?_
  refine jv_iconst C dX1_trace_1 ?_
  refine jv_put C fw_X1_19 fp_X1 hK hP hD hS 0 rfl rfl rfl rfl (Nat.le_of_ble_eq_true rfl) dX1_trace_2 (fun H locs hP hD hS => ?_)
  have hP : va_P D vwCl [(oo, .inr (1, [.ref pp, .ref oc, .int (J 0)])), (oc, .inl (cI, 80, .inl (fun z9 => J ((K z9 : Nat) : Int)))), (pp, .inr (2, [.ref ax, .ref ay, .ref at_, .ref ao, .int (J ((told : Nat) : Int)), .int (J ((pres : Nat) : Int))])), (ax, .inl (cI, 40, .inl (fun z9 => J (X z9)))), (ay, .inl (cI, 40, .inl (fun z9 => J (Y z9)))), (at_, .inl (cZ, 40, .inl (fun z9 => J (b2i (T z9))))), (ao, .inl (cI, 40, .inl (fun z9 => J ((O z9 : Nat) : Int))))] H := hP
  have hD : va_D _ [(oo, .inr (1, [.ref pp, .ref oc, .int (J 0)])), (oc, .inl (cI, 80, .inl (fun z9 => J ((K z9 : Nat) : Int)))), (pp, .inr (2, [.ref ax, .ref ay, .ref at_, .ref ao, .int (J ((told : Nat) : Int)), .int (J ((pres : Nat) : Int))])), (ax, .inl (cI, 40, .inl (fun z9 => J (X z9)))), (ay, .inl (cI, 40, .inl (fun z9 => J (Y z9)))), (at_, .inl (cZ, 40, .inl (fun z9 => J (b2i (T z9))))), (ao, .inl (cI, 40, .inl (fun z9 => J ((O z9 : Nat) : Int))))] := hD
  refine jv_iconst C dX1_trace_5 ?_
  refine lv_istore_n (lv' := [(1, .int (J 0)), (0, .ref oo)]) C.1 C.2.1 dX1_trace_6 rfl hl (by decide) rfl (fun ls hl => ?_)
  exact lp_X1_trace_7 C hlk hr hK ⟨hX, hY, hO, htd, hps⟩ (pres + 1) 0 K 0 (by omega) (by omega) hKc (by omega) _ rfl _ rfl H locs hP hD hS ls (lv_sub hl [1, 0] rfl)
set_option maxRecDepth 20000 in
theorem lp_X1_hasCorner_2 {p : Program} {e : Env} {s : State} {m : MethodId} {args : Array Value} {below : List Frame} {meth : Method} {c : Code} {a : Nat} (C : CallFix p m c cX1_hasCorner 3 s args TB RX1) (hlk : meth.locks = false) (hr : meth.sig.returnType = (some .boolean)) (hK : va_K D vwCl (tyz cI cZ) s) (hP : va_P D vwCl (wOut cI oo oc pp K osz ++ (wPts cI cZ pp ax ay at_ ao X Y T O told pres)) s.heap)  (hB : PB X Y O told pres) (hKc : ∀ i, K i < 40) (hos : osz ≤ 80) (ha : a < 40) :
    ∀ (n : Nat) (i : Nat), osz < i + n → i ≤ osz → ∀ (rv : Bool), rv = (ff (fun j => decide (K j = a)) osz i).isSome → ∀ ls : Array Slot, lv_has ls 3 [(0, .ref oo), (1, .int (J ((a : Nat) : Int))), (2, .int (J ((i : Nat) : Int)))] → W p l e { frames := 0, cells := 0, slots := 0, locals := 0 } s m args below meth c s.heap [] 0 0 (MQ below (QR (some (.int (J (b2i rv))))) args s 0 0 (fun _ => False)) (F0 m 2 ls []) := by
  obtain ⟨hX, hY, hO, htd, hps⟩ := hB
  intro n
  induction n with
  | zero => intro i hi0 hi1; omega
  | succ n ih =>
    intro i hi0 hi1 rv hrv ls hl
    refine lv_iload_n C.1 C.2.1 dX1_hasCorner_2 rfl (lv_at hl 2 rfl) ?_
    refine lv_aload_n C.1 C.2.1 dX1_hasCorner_3 rfl (lv_at hl 0 rfl) ?_
    refine jv_get C fw_X1_19 hK hP 0 rfl rfl dX1_hasCorner_4 ?_
    refine jv_icmp_ge (tgt := 28) C dX1_hasCorner_7 (by decide) (by omega) (fun h1 => ?_) (fun h1 => ?_)
    · refine jv_iconst C dX1_hasCorner_28 ?_
      exact jv_zret C hlk hr dX1_hasCorner_29 (by rw [hrv, ff_end (by omega)]; rfl)
    · refine lv_aload_n C.1 C.2.1 dX1_hasCorner_10 rfl (lv_at hl 0 rfl) ?_
      refine jv_get C fw_X1_9 hK hP 0 rfl rfl dX1_hasCorner_11 ?_
      refine lv_iload_n C.1 C.2.1 dX1_hasCorner_14 rfl (lv_at hl 2 rfl) ?_
      refine jv_iald C hK hP 1 0 rfl rfl (i) (by omega) (by omega) (by decide) dX1_hasCorner_15 ?_
      have f2 := hKc i
      refine lv_iload_n C.1 C.2.1 dX1_hasCorner_16 rfl (lv_at hl 1 rfl) ?_
      refine jv_icmp_ne (tgt := 22) C dX1_hasCorner_17 (by decide) (by omega) (fun h3 => ?_) (fun h3 => ?_)
      · refine lv_iinc (v := J (((i + 1 : Nat) : Int))) (lv' := [(2, .int (J ((i + 1 : Nat) : Int))), (0, .ref oo), (1, .int (J ((a : Nat) : Int)))]) C.1 C.2.1 dX1_hasCorner_22 hl (k := 2) rfl (by rw [show Int32.ofInt 1 = J 1 from rfl, J_add]; exact congrArg J (by omega)) (by decide) rfl (fun ls hl => ?_)
        refine lv_goto (tgt := 2) C.1 C.2.1 dX1_hasCorner_25 (by decide) ?_
        exact ih (i + 1) (by omega) (by omega) rv (by rw [hrv, ff_go (by omega) (by simp; omega)]) ls (lv_sub hl [1, 2, 0] rfl)
      · refine jv_iconst C dX1_hasCorner_20 ?_
        exact jv_zret C hlk hr dX1_hasCorner_21 (by rw [hrv, ff_hit (by omega) (by simp; omega)]; rfl)
set_option maxRecDepth 20000 in
theorem c_X1_hasCorner {a : Nat} (hB : PB X Y O told pres) (hKc : ∀ i, K i < 40) (hos : osz ≤ 80) (ha : a < 40) : cR l yX1_hasCorner cX1_hasCorner 3 (some .boolean) 0 0 D (tyz cI cZ) [.ref oo, .int (J ((a : Nat) : Int))] (wOut cI oo oc pp K osz ++ (wPts cI cZ pp ax ay at_ ao X Y T O told pres)) (some (.int (J (b2i ((ff (fun j => decide (K j = a)) osz 0).isSome))))) := by
  refine cR_of (owner := RX1) rfl (by decide) (Nat.le_of_ble_eq_true rfl) ?_
  intro p e s m args below meth c ls C hlk hr hK hP hl
  have hl : lv_has ls 3 [(0, .ref oo), (1, .int (J ((a : Nat) : Int)))] := hl
  obtain ⟨hX, hY, hO, htd, hps⟩ := hB
  refine jv_iconst C dX1_hasCorner_0 ?_
  refine lv_istore_n (lv' := [(2, .int (J 0)), (0, .ref oo), (1, .int (J ((a : Nat) : Int)))]) C.1 C.2.1 dX1_hasCorner_1 rfl hl (by decide) rfl (fun ls hl => ?_)
  exact lp_X1_hasCorner_2 C hlk hr hK hP ⟨hX, hY, hO, htd, hps⟩ hKc hos ha (osz + 1) 0 (by omega) (by omega) _ rfl ls (lv_sub hl [1, 2, 0] rfl)
set_option maxRecDepth 20000 in
theorem lp_X1_twiceArea_4 {p : Program} {e : Env} {s : State} {m : MethodId} {args : Array Value} {below : List Frame} {meth : Method} {c : Code}  (C : CallFix p m c cX1_twiceArea 4 s args TB RX1) (hlk : meth.locks = false) (hr : meth.sig.returnType = (some .long)) (hK : va_K D vwCl (tyz cI cZ) s) (hP : va_P D vwCl (wOut cI oo oc pp K osz ++ (wPts cI cZ pp ax ay at_ ao X Y T O told pres)) s.heap)  (hB : PB X Y O told pres) (hKc : ∀ i, K i < 40) (hos : osz ≤ 80) :
    ∀ (n : Nat) (i : Nat) (q : Int), osz + 2 < i + n → i ≤ osz + 2 → 2 ≤ i → -(800000000 * (i : Int)) ≤ q → q ≤ 800000000 * (i : Int) → ∀ (rv : Int), rv = q + arS X Y K osz i → ∀ ls : Array Slot, lv_has ls 4 [(0, .ref oo), (1, .long (Lg (q))), (3, .int (J ((i : Nat) : Int)))] → W p l e { frames := 2, cells := 0, slots := 0, locals := 47 } s m args below meth c s.heap [] 0 0 (MQ below (QR (some (.long (Lg rv)))) args s 0 0 (fun _ => False)) (F0 m 4 ls []) := by
  obtain ⟨hX, hY, hO, htd, hps⟩ := hB
  intro n
  induction n with
  | zero => intro i q hi0 hi1 hi2 hi3 hi4; omega
  | succ n ih =>
    intro i q hi0 hi1 hi2 hi3 hi4 rv hrv ls hl
    refine lv_iload_n C.1 C.2.1 dX1_twiceArea_4 rfl (lv_at hl 2 rfl) ?_
    refine lv_aload_n C.1 C.2.1 dX1_twiceArea_5 rfl (lv_at hl 0 rfl) ?_
    refine jv_get C fw_X1_19 hK hP 0 rfl rfl dX1_twiceArea_6 ?_
    refine jv_icmp_ge (tgt := 48) C dX1_twiceArea_9 (by decide) (by omega) (fun h1 => ?_) (fun h1 => ?_)
    · refine lv_lload_n C.1 C.2.1 dX1_twiceArea_48 rfl (lv_at hl 1 rfl) ?_
      exact jv_lret C hlk hr dX1_twiceArea_49 (by rw [hrv, arS_end (by omega)]; omega)
    · refine lv_lload_n C.1 C.2.1 dX1_twiceArea_12 rfl (lv_at hl 1 rfl) ?_
      refine lv_aload_n C.1 C.2.1 dX1_twiceArea_13 rfl (lv_at hl 0 rfl) ?_
      refine jv_get C fw_X1_15 hK hP 0 rfl rfl dX1_twiceArea_14 ?_
      refine lv_aload_n C.1 C.2.1 dX1_twiceArea_17 rfl (lv_at hl 0 rfl) ?_
      refine jv_get C fw_X1_9 hK hP 0 rfl rfl dX1_twiceArea_18 ?_
      refine jv_iconst C dX1_twiceArea_21 ?_
      refine jv_iald C hK hP 1 0 rfl rfl (0) (by omega) (by omega) (by decide) dX1_twiceArea_22 ?_
      have f2 := hKc 0
      refine lv_aload_n C.1 C.2.1 dX1_twiceArea_23 rfl (lv_at hl 0 rfl) ?_
      refine jv_get C fw_X1_9 hK hP 0 rfl rfl dX1_twiceArea_24 ?_
      refine lv_iload_n C.1 C.2.1 dX1_twiceArea_27 rfl (lv_at hl 2 rfl) ?_
      refine jv_iconst C dX1_twiceArea_28 ?_
      refine jv_isub (z := ((i - 1 : Nat) : Int)) C dX1_twiceArea_29 (by omega) ?_
      refine jv_iald C hK hP 1 0 rfl rfl (i - 1) (by omega) (by omega) (by decide) dX1_twiceArea_30 ?_
      have f3 := hKc (i - 1)
      refine lv_aload_n C.1 C.2.1 dX1_twiceArea_31 rfl (lv_at hl 0 rfl) ?_
      refine jv_get C fw_X1_9 hK hP 0 rfl rfl dX1_twiceArea_32 ?_
      refine lv_iload_n C.1 C.2.1 dX1_twiceArea_35 rfl (lv_at hl 2 rfl) ?_
      refine jv_iald C hK hP 1 0 rfl rfl (i) (by omega) (by omega) (by decide) dX1_twiceArea_36 ?_
      have f4 := hKc i
      refine jv_rdV (ni := 3) (ci := 2) (q0 := 0) C [.int (J ((K 0 : Nat) : Int)), .int (J ((K (i - 1) : Nat) : Int)), .int (J ((K i : Nat) : Int))] [.long (Lg (q))] (c_X2_leftness (X := X) (Y := Y) (T := T) (O := O) (told := told) (pres := pres) (a := K 0) (b := K (i - 1)) (k := K i) ⟨hX, hY, hO, by omega, by omega⟩ (by omega) (by omega) (by omega)) gv_X1_35 (by decide +kernel) (by decide) hK (hP.sub (ws' := [(pp, .inr (2, [.ref ax, .ref ay, .ref at_, .ref ao, .int (J ((told : Nat) : Int)), .int (J ((pres : Nat) : Int))])), (ax, .inl (cI, 40, .inl (fun z9 => J (X z9)))), (ay, .inl (cI, 40, .inl (fun z9 => J (Y z9)))), (at_, .inl (cZ, 40, .inl (fun z9 => J (b2i (T z9))))), (ao, .inl (cI, 40, .inl (fun z9 => J ((O z9 : Nat) : Int))))]) [2, 3, 4, 5, 6] rfl) rfl rfl rfl hl.1 (by simp [Value.category]) dX1_twiceArea_37 (by decide) ?_ rfl
      show W _ _ _ _ _ _ _ _ _ _ _ _ _ _ _ (F0 m 40 ls [.long (Lg (le3 X Y (K 0) (K (i - 1)) (K i))), .long (Lg (q))])
      have f5 := le3_bd hX hY (K 0) (K (i - 1)) (K i)
      refine jv_ladd (z := q + (le3 X Y (K 0) (K (i - 1)) (K i))) C dX1_twiceArea_40 (rfl) ?_
      refine lv_lstore_n (lv' := [(1, .long (Lg (q + (le3 X Y (K 0) (K (i - 1)) (K i))))), (0, .ref oo), (3, .int (J ((i : Nat) : Int)))]) C.1 C.2.1 dX1_twiceArea_41 rfl hl (by decide) rfl (fun ls hl => ?_)
      refine lv_iinc (v := J (((i + 1 : Nat) : Int))) (lv' := [(3, .int (J ((i + 1 : Nat) : Int))), (1, .long (Lg (q + (le3 X Y (K 0) (K (i - 1)) (K i))))), (0, .ref oo)]) C.1 C.2.1 dX1_twiceArea_42 hl (k := 2) rfl (by rw [show Int32.ofInt 1 = J 1 from rfl, J_add]; exact congrArg J (by omega)) (by decide) rfl (fun ls hl => ?_)
      refine lv_goto (tgt := 4) C.1 C.2.1 dX1_twiceArea_45 (by decide) ?_
      exact ih (i + 1) (q + (le3 X Y (K 0) (K (i - 1)) (K i))) (by omega) (by omega) (by omega) (by omega) (by omega) rv (by rw [hrv, arS_go (by omega)]; omega) ls (lv_sub hl [2, 1, 0] rfl)
set_option maxRecDepth 20000 in
theorem c_X1_twiceArea  (hB : PB X Y O told pres) (hKc : ∀ i, K i < 40) (hos : osz ≤ 80) : cR l yX1_twiceArea cX1_twiceArea 4 (some .long) 2 47 D (tyz cI cZ) [.ref oo] (wOut cI oo oc pp K osz ++ (wPts cI cZ pp ax ay at_ ao X Y T O told pres)) (some (.long (Lg (arS X Y K osz 2)))) := by
  refine cR_of (owner := RX1) rfl (by decide) (Nat.le_of_ble_eq_true rfl) ?_
  intro p e s m args below meth c ls C hlk hr hK hP hl
  have hl : lv_has ls 4 [(0, .ref oo)] := hl
  obtain ⟨hX, hY, hO, htd, hps⟩ := hB
  refine jv_lconst (z := 0) C dX1_twiceArea_0 rfl ?_
  refine lv_lstore_n (lv' := [(1, .long (Lg (0))), (0, .ref oo)]) C.1 C.2.1 dX1_twiceArea_1 rfl hl (by decide) rfl (fun ls hl => ?_)
  refine jv_iconst C dX1_twiceArea_2 ?_
  refine lv_istore_n (lv' := [(3, .int (J 2)), (1, .long (Lg (0))), (0, .ref oo)]) C.1 C.2.1 dX1_twiceArea_3 rfl hl (by decide) rfl (fun ls hl => ?_)
  exact lp_X1_twiceArea_4 C hlk hr hK hP ⟨hX, hY, hO, htd, hps⟩ hKc hos (osz + 3) 2 0 (by omega) (by omega) (by omega) (by omega) (by omega) _ (by omega) ls (lv_sub hl [2, 1, 0] rfl)
end OUTL
