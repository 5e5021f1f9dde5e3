def rpPointOf (p w : Int) (S : RS) : Int × RS := if thr S.1.2.2.1 S.1.2.2.2 p = false then (1000000000 - -1, rRef (-1) S) else if w = 0 then ((rKnow S).1.1 p.toNat, rKnow S) else if w = 1 then ((rKnow S).1.2.1 p.toNat, rKnow S) else if w = 2 then ((cn (fun t => hsA (rKnow S).2.1.2.2.2.2.1 (rKnow S).2.1.2.2.2.2.2.1 (rKnow S).2.1.2.2.2.2.2.2.1 t (p.toNat : Int)) (rKnow S).2.1.2.2.2.2.2.2.2 0 : Int), rKnow S) else if w = 3 then ((cn (fun k => decide ((rKnow S).2.1.2.2.1 k = p.toNat)) (rKnow S).2.1.2.2.2.1 0 : Int), rKnow S) else (1000000000 - -2, rRef (-2) (rKnow S))
def arT (X Y : Nat → Int) (Hu : Nat → Nat) (hn k : Nat) : Int := X (Hu k) * Y (Hu ((k + 1) % hn)) - X (Hu ((k + 1) % hn)) * Y (Hu k)
def arR (X Y : Nat → Int) (Hu : Nat → Nat) (hn i : Nat) : Int := if i < hn then arT X Y Hu hn i + arR X Y Hu hn (i + 1) else 0
termination_by hn - i
theorem arR_end {X Y : Nat → Int} {Hu : Nat → Nat} {hn i : Nat} (h : hn ≤ i) : arR X Y Hu hn i = 0 := by rw [arR, if_neg (by omega)]
theorem arR_go {X Y : Nat → Int} {Hu : Nat → Nat} {hn i : Nat} (h : i < hn) : arR X Y Hu hn i = arT X Y Hu hn i + arR X Y Hu hn (i + 1) := by rw [arR, if_pos h]
def rpArea (S : RS) : Int × RS := (arR (rKnow S).1.1 (rKnow S).1.2.1 (rKnow S).2.1.2.2.1 (rKnow S).2.1.2.2.2.1 0, rKnow S)
def abP (X Y : Nat → Int) (T : Nat → Bool) (p q r : Nat) : Bool := T r && (decide (r ≠ p) && (decide (r ≠ q) && bfr X Y p r q))
def aoP (X Y : Nat → Int) (T : Nat → Bool) (pn p : Nat) (i : Int) (q : Nat) : Bool := T q && (decide (q ≠ p) && decide ((cn (abP X Y T p q) pn 0 : Int) = i))
def rpAround (p i : Int) (S : RS) : Int × RS := if thr S.1.2.2.1 S.1.2.2.2 p = false then (-1, rRef (-1) S) else (oI (-9) (ff (aoP S.1.1 S.1.2.1 S.1.2.2.1 S.1.2.2.2 p.toNat i) S.1.2.2.2 0), S)
section REFC
variable {l : Launch} {D : va_G} {cI cZ : ClassId} {qq r0 rx ry rt rh ra rb rc sa sb sc so sr sw : Nat} {Px Py : Nat → Int} {Mt : Nat → Bool} {pn : Nat} {kn fl : Bool} {Hu : Nat → Nat} {hn : Nat} {A1 A2 A3 : Nat → Nat} {mn : Nat} {hd sd : Bool} {B1 B2 B3 : Nat → Nat} {hh fp : Nat} {Or Ro Ne : Nat → Nat} {rn : Nat} {Mr : Nat → Nat}
set_option maxRecDepth 20000 in
theorem lp_X4_pointOf_69 {p : Program} {e : Env} {s : State} {m : MethodId} {args : Array Value} {below : List Frame} {meth : Method} {c : Code} {WC : va_W} {a : Nat} {w : Int} (C : CallFix p m c cX4_pointOf 5 s args TB RX4) (hlk : meth.locks = false) (hr : meth.sig.returnType = (some .int)) (hK : va_K D vwCl (tyz cI cZ) s) (hRI : RI ((Px, Py, Mt, pn), (kn, fl, Hu, hn, A1, A2, A3, mn), (hd, sd, B1, B2, B3, hh, fp), (Or, Ro, Ne, rn), Mr)) (ha : a < 40) :
    ∀ (n : Nat) (i k : Nat), mn < i + n → i ≤ mn → k ≤ i → ∀ (rv : Nat), rv = k + cn (fun t => hsA A1 A2 A3 t (a : Int)) mn i → ∀ (H : Heap) (locs : List Loc), va_P D vwCl [(qq, .inr (4, [.ref r0, .ref rx, .ref ry, .ref rt, .int (J ((pn : Nat) : Int)), .int (J (b2i (kn))), .int (J (b2i (fl))), .ref rh, .ref ra, .ref rb, .ref rc, .int (J ((hn : Nat) : Int)), .int (J ((mn : Nat) : Int)), .int (J (b2i (hd))), .int (J (b2i (sd))), .ref sa, .ref sb, .ref sc, .int (J ((hh : Nat) : Int)), .int (J ((fp : Nat) : Int)), .ref so, .ref sr, .ref sw, .int (J ((rn : Nat) : Int))])), (r0, .inl (cI, 7, .inl (fun z9 => J ((Mr z9 : Nat) : Int)))), (rx, .inl (cI, 40, .inl (fun z9 => J (Px z9)))), (ry, .inl (cI, 40, .inl (fun z9 => J (Py z9)))), (rt, .inl (cZ, 40, .inl (fun z9 => J (b2i (Mt z9))))), (rh, .inl (cI, 41, .inl (fun z9 => J ((Hu z9 : Nat) : Int)))), (ra, .inl (cI, 120, .inl (fun z9 => J ((A1 z9 : Nat) : Int)))), (rb, .inl (cI, 120, .inl (fun z9 => J ((A2 z9 : Nat) : Int)))), (rc, .inl (cI, 120, .inl (fun z9 => J ((A3 z9 : Nat) : Int)))), (sa, .inl (cI, 120, .inl (fun z9 => J ((B1 z9 : Nat) : Int)))), (sb, .inl (cI, 120, .inl (fun z9 => J ((B2 z9 : Nat) : Int)))), (sc, .inl (cI, 120, .inl (fun z9 => J ((B3 z9 : Nat) : Int)))), (so, .inl (cI, 40, .inl (fun z9 => J ((Or z9 : Nat) : Int)))), (sr, .inl (cI, 80, .inl (fun z9 => J ((Ro z9 : Nat) : Int)))), (sw, .inl (cI, 80, .inl (fun z9 => J ((Ne z9 : Nat) : Int))))] H → va_D (inW WC) [(qq, .inr (4, [.ref r0, .ref rx, .ref ry, .ref rt, .int (J ((pn : Nat) : Int)), .int (J (b2i (kn))), .int (J (b2i (fl))), .ref rh, .ref ra, .ref rb, .ref rc, .int (J ((hn : Nat) : Int)), .int (J ((mn : Nat) : Int)), .int (J (b2i (hd))), .int (J (b2i (sd))), .ref sa, .ref sb, .ref sc, .int (J ((hh : Nat) : Int)), .int (J ((fp : Nat) : Int)), .ref so, .ref sr, .ref sw, .int (J ((rn : Nat) : Int))])), (r0, .inl (cI, 7, .inl (fun z9 => J ((Mr z9 : Nat) : Int)))), (rx, .inl (cI, 40, .inl (fun z9 => J (Px z9)))), (ry, .inl (cI, 40, .inl (fun z9 => J (Py z9)))), (rt, .inl (cZ, 40, .inl (fun z9 => J (b2i (Mt z9))))), (rh, .inl (cI, 41, .inl (fun z9 => J ((Hu z9 : Nat) : Int)))), (ra, .inl (cI, 120, .inl (fun z9 => J ((A1 z9 : Nat) : Int)))), (rb, .inl (cI, 120, .inl (fun z9 => J ((A2 z9 : Nat) : Int)))), (rc, .inl (cI, 120, .inl (fun z9 => J ((A3 z9 : Nat) : Int)))), (sa, .inl (cI, 120, .inl (fun z9 => J ((B1 z9 : Nat) : Int)))), (sb, .inl (cI, 120, .inl (fun z9 => J ((B2 z9 : Nat) : Int)))), (sc, .inl (cI, 120, .inl (fun z9 => J ((B3 z9 : Nat) : Int)))), (so, .inl (cI, 40, .inl (fun z9 => J ((Or z9 : Nat) : Int)))), (sr, .inl (cI, 80, .inl (fun z9 => J ((Ro z9 : Nat) : Int)))), (sw, .inl (cI, 80, .inl (fun z9 => J ((Ne z9 : Nat) : Int))))] → va_S (inW WC) s.heap H locs → ∀ ls : Array Slot, lv_has ls 5 [(0, .ref qq), (1, .int (J ((a : Nat) : Int))), (2, .int (J w)), (3, .int (J ((k : Nat) : Int))), (4, .int (J ((i : Nat) : Int)))] → W p l e { frames := 6, cells := 0, slots := 0, locals := 137 } s m args below meth c H locs 0 0 (MQ below (QW D WC (wRS cI cZ qq r0 rx ry rt rh ra rb rc sa sb sc so sr sw ((Px, Py, Mt, pn), (kn, fl, Hu, hn, A1, A2, A3, mn), (hd, sd, B1, B2, B3, hh, fp), (Or, Ro, Ne, rn), Mr)) (some (.int (J ((rv : Nat) : Int))))) args s 0 0 (inW WC)) (F0 m 69 ls []) := by
  have hX : ∀ i, -10000 ≤ Px i ∧ Px i ≤ 10000 := hRI.1
  have hY : ∀ i, -10000 ≤ Py i ∧ Py i ≤ 10000 := hRI.2.1
  have hpn : pn ≤ 40 := hRI.2.2.1
  have hHu : ∀ i, Hu i < 40 := hRI.2.2.2.1
  have hhn : hn ≤ 41 := hRI.2.2.2.2.1
  have hA1 : ∀ i, A1 i < 40 := hRI.2.2.2.2.2.1
  have hA2 : ∀ i, A2 i < 40 := hRI.2.2.2.2.2.2.1
  have hA3 : ∀ i, A3 i < 40 := hRI.2.2.2.2.2.2.2.1
  have hmn : mn ≤ 120 := hRI.2.2.2.2.2.2.2.2.1
  have hB1 : ∀ i, B1 i < 40 := hRI.2.2.2.2.2.2.2.2.2.1
  have hB2 : ∀ i, B2 i < 40 := hRI.2.2.2.2.2.2.2.2.2.2.1
  have hB3 : ∀ i, B3 i < 40 := hRI.2.2.2.2.2.2.2.2.2.2.2.1
  have hhh : hh ≤ 120 := hRI.2.2.2.2.2.2.2.2.2.2.2.2.1
  have hOr : ∀ i, Or i < 40 := hRI.2.2.2.2.2.2.2.2.2.2.2.2.2.1
  have hRo : ∀ i, Ro i < 40 := hRI.2.2.2.2.2.2.2.2.2.2.2.2.2.2.1
  have hNe : ∀ i, Ne i < 40 := hRI.2.2.2.2.2.2.2.2.2.2.2.2.2.2.2.1
  have hrn : rn ≤ 80 := hRI.2.2.2.2.2.2.2.2.2.2.2.2.2.2.2.2
  intro n
  induction n with
  | zero => intro i k hi0 hi1 hi2; omega
  | succ n ih =>
    intro i k hi0 hi1 hi2 rv hrv H locs hP hD hS ls hl
    refine lv_iload C.1 C.2.1 dX4_pointOf_69 (lv_at hl 4 rfl) ?_
    refine lv_aload_n C.1 C.2.1 dX4_pointOf_71 rfl (lv_at hl 0 rfl) ?_
    refine jv_get C fw_X4_115 hK hP 0 rfl rfl dX4_pointOf_72 ?_
    refine jv_icmp_ge (tgt := 125) C dX4_pointOf_75 (by decide) (by omega) (fun h1 => ?_) (fun h1 => ?_)
    · refine lv_iload_n C.1 C.2.1 dX4_pointOf_125 rfl (lv_at hl 3 rfl) ?_
      exact jw_iret C hlk hr dX4_pointOf_126 (by rw [hrv, cn_end (by omega)]; rfl) (hP) hS
    · refine lv_iload_n C.1 C.2.1 dX4_pointOf_78 rfl (lv_at hl 3 rfl) ?_
      refine lv_aload_n C.1 C.2.1 dX4_pointOf_79 rfl (lv_at hl 0 rfl) ?_
      refine jv_get C fw_X4_26 hK hP 0 rfl rfl dX4_pointOf_80 ?_
      refine lv_iload C.1 C.2.1 dX4_pointOf_83 (lv_at hl 4 rfl) ?_
      refine jv_iald C hK hP 6 0 rfl rfl (i) (by omega) (by omega) (by decide) dX4_pointOf_85 ?_
      have f2 := hA1 i
      refine lv_iload_n C.1 C.2.1 dX4_pointOf_86 rfl (lv_at hl 1 rfl) ?_
      refine jv_icmp_eq (tgt := 112) C dX4_pointOf_87 (by decide) (by omega) (fun h3 => ?_) (fun h3 => ?_)
      · refine jv_iconst C dX4_pointOf_112 ?_
        refine lv_goto (tgt := 117) C.1 C.2.1 dX4_pointOf_113 (by decide) ?_
        refine jv_iadd (z := ((k + 1 : Nat) : Int)) C dX4_pointOf_117 (by omega) ?_
        refine lv_istore_n (lv' := [(3, .int (J ((k + 1 : Nat) : Int))), (0, .ref qq), (1, .int (J ((a : Nat) : Int))), (2, .int (J w)), (4, .int (J ((i : Nat) : Int)))]) C.1 C.2.1 dX4_pointOf_118 rfl hl (by decide) rfl (fun ls hl => ?_)
        refine lv_iinc (v := J (((i + 1 : Nat) : Int))) (lv' := [(4, .int (J ((i + 1 : Nat) : Int))), (3, .int (J ((k + 1 : Nat) : Int))), (0, .ref qq), (1, .int (J ((a : Nat) : Int))), (2, .int (J w))]) C.1 C.2.1 dX4_pointOf_119 hl (k := 4) rfl (by rw [show Int32.ofInt 1 = J 1 from rfl, J_add]; exact congrArg J (by omega)) (by decide) rfl (fun ls hl => ?_)
        refine lv_goto (tgt := 69) C.1 C.2.1 dX4_pointOf_122 (by decide) ?_
        exact ih (i + 1) (k + 1) (by omega) (by omega) (by omega) rv (by rw [hrv, cn_hit (by omega) (by simp only [hsA, Bool.or_eq_true, decide_eq_true_eq]; omega)]; omega) H locs hP hD hS ls (lv_sub hl [2, 3, 4, 1, 0] rfl)
      · refine lv_aload_n C.1 C.2.1 dX4_pointOf_90 rfl (lv_at hl 0 rfl) ?_
        refine jv_get C fw_X4_29 hK hP 0 rfl rfl dX4_pointOf_91 ?_
        refine lv_iload C.1 C.2.1 dX4_pointOf_94 (lv_at hl 4 rfl) ?_
        refine jv_iald C hK hP 7 0 rfl rfl (i) (by omega) (by omega) (by decide) dX4_pointOf_96 ?_
        have f4 := hA2 i
        refine lv_iload_n C.1 C.2.1 dX4_pointOf_97 rfl (lv_at hl 1 rfl) ?_
        refine jv_icmp_eq (tgt := 112) C dX4_pointOf_98 (by decide) (by omega) (fun h5 => ?_) (fun h5 => ?_)
        · refine jv_iconst C dX4_pointOf_112 ?_
          refine lv_goto (tgt := 117) C.1 C.2.1 dX4_pointOf_113 (by decide) ?_
          refine jv_iadd (z := ((k + 1 : Nat) : Int)) C dX4_pointOf_117 (by omega) ?_
          refine lv_istore_n (lv' := [(3, .int (J ((k + 1 : Nat) : Int))), (0, .ref qq), (1, .int (J ((a : Nat) : Int))), (2, .int (J w)), (4, .int (J ((i : Nat) : Int)))]) C.1 C.2.1 dX4_pointOf_118 rfl hl (by decide) rfl (fun ls hl => ?_)
          refine lv_iinc (v := J (((i + 1 : Nat) : Int))) (lv' := [(4, .int (J ((i + 1 : Nat) : Int))), (3, .int (J ((k + 1 : Nat) : Int))), (0, .ref qq), (1, .int (J ((a : Nat) : Int))), (2, .int (J w))]) C.1 C.2.1 dX4_pointOf_119 hl (k := 4) rfl (by rw [show Int32.ofInt 1 = J 1 from rfl, J_add]; exact congrArg J (by omega)) (by decide) rfl (fun ls hl => ?_)
          refine lv_goto (tgt := 69) C.1 C.2.1 dX4_pointOf_122 (by decide) ?_
          exact ih (i + 1) (k + 1) (by omega) (by omega) (by omega) rv (by rw [hrv, cn_hit (by omega) (by simp only [hsA, Bool.or_eq_true, decide_eq_true_eq]; omega)]; omega) H locs hP hD hS ls (lv_sub hl [2, 3, 4, 1, 0] rfl)
        · refine lv_aload_n C.1 C.2.1 dX4_pointOf_101 rfl (lv_at hl 0 rfl) ?_
          refine jv_get C fw_X4_32 hK hP 0 rfl rfl dX4_pointOf_102 ?_
          refine lv_iload C.1 C.2.1 dX4_pointOf_105 (lv_at hl 4 rfl) ?_
          refine jv_iald C hK hP 8 0 rfl rfl (i) (by omega) (by omega) (by decide) dX4_pointOf_107 ?_
          have f6 := hA3 i
          refine lv_iload_n C.1 C.2.1 dX4_pointOf_108 rfl (lv_at hl 1 rfl) ?_
          refine jv_icmp_ne (tgt := 116) C dX4_pointOf_109 (by decide) (by omega) (fun h7 => ?_) (fun h7 => ?_)
          · refine jv_iconst C dX4_pointOf_116 ?_
            refine jv_iadd (z := ((k + 0 : Nat) : Int)) C dX4_pointOf_117 (by omega) ?_
            refine lv_istore_n (lv' := [(3, .int (J ((k + 0 : Nat) : Int))), (0, .ref qq), (1, .int (J ((a : Nat) : Int))), (2, .int (J w)), (4, .int (J ((i : Nat) : Int)))]) C.1 C.2.1 dX4_pointOf_118 rfl hl (by decide) rfl (fun ls hl => ?_)
            refine lv_iinc (v := J (((i + 1 : Nat) : Int))) (lv' := [(4, .int (J ((i + 1 : Nat) : Int))), (3, .int (J ((k + 0 : Nat) : Int))), (0, .ref qq), (1, .int (J ((a : Nat) : Int))), (2, .int (J w))]) C.1 C.2.1 dX4_pointOf_119 hl (k := 4) rfl (by rw [show Int32.ofInt 1 = J 1 from rfl, J_add]; exact congrArg J (by omega)) (by decide) rfl (fun ls hl => ?_)
            refine lv_goto (tgt := 69) C.1 C.2.1 dX4_pointOf_122 (by decide) ?_
            exact ih (i + 1) (k) (by omega) (by omega) (by omega) rv (by rw [hrv, cn_go (by omega) (by simp only [hsA, Bool.or_eq_false_iff, decide_eq_false_iff_not]; omega)]) H locs hP hD hS ls (lv_sub hl [2, 3, 4, 1, 0] rfl)
          · refine jv_iconst C dX4_pointOf_112 ?_
            refine lv_goto (tgt := 117) C.1 C.2.1 dX4_pointOf_113 (by decide) ?_
            refine jv_iadd (z := ((k + 1 : Nat) : Int)) C dX4_pointOf_117 (by omega) ?_
            refine lv_istore_n (lv' := [(3, .int (J ((k + 1 : Nat) : Int))), (0, .ref qq), (1, .int (J ((a : Nat) : Int))), (2, .int (J w)), (4, .int (J ((i : Nat) : Int)))]) C.1 C.2.1 dX4_pointOf_118 rfl hl (by decide) rfl (fun ls hl => ?_)
            refine lv_iinc (v := J (((i + 1 : Nat) : Int))) (lv' := [(4, .int (J ((i + 1 : Nat) : Int))), (3, .int (J ((k + 1 : Nat) : Int))), (0, .ref qq), (1, .int (J ((a : Nat) : Int))), (2, .int (J w))]) C.1 C.2.1 dX4_pointOf_119 hl (k := 4) rfl (by rw [show Int32.ofInt 1 = J 1 from rfl, J_add]; exact congrArg J (by omega)) (by decide) rfl (fun ls hl => ?_)
            refine lv_goto (tgt := 69) C.1 C.2.1 dX4_pointOf_122 (by decide) ?_
            exact ih (i + 1) (k + 1) (by omega) (by omega) (by omega) rv (by rw [hrv, cn_hit (by omega) (by simp only [hsA, Bool.or_eq_true, decide_eq_true_eq]; omega)]; omega) H locs hP hD hS ls (lv_sub hl [2, 3, 4, 1, 0] rfl)
set_option maxRecDepth 20000 in
theorem lp_X4_pointOf_130 {p : Program} {e : Env} {s : State} {m : MethodId} {args : Array Value} {below : List Frame} {meth : Method} {c : Code} {WC : va_W} {a : Nat} {w : Int} (C : CallFix p m c cX4_pointOf 5 s args TB RX4) (hlk : meth.locks = false) (hr : meth.sig.returnType = (some .int)) (hK : va_K D vwCl (tyz cI cZ) s) (hRI : RI ((Px, Py, Mt, pn), (kn, fl, Hu, hn, A1, A2, A3, mn), (hd, sd, B1, B2, B3, hh, fp), (Or, Ro, Ne, rn), Mr)) (ha : a < 40) :
    ∀ (n : Nat) (i k : Nat), hn < i + n → i ≤ hn → k ≤ i → ∀ (rv : Nat), rv = k + cn (fun k => decide (Hu k = a)) hn i → ∀ (H : Heap) (locs : List Loc), va_P D vwCl [(qq, .inr (4, [.ref r0, .ref rx, .ref ry, .ref rt, .int (J ((pn : Nat) : Int)), .int (J (b2i (kn))), .int (J (b2i (fl))), .ref rh, .ref ra, .ref rb, .ref rc, .int (J ((hn : Nat) : Int)), .int (J ((mn : Nat) : Int)), .int (J (b2i (hd))), .int (J (b2i (sd))), .ref sa, .ref sb, .ref sc, .int (J ((hh : Nat) : Int)), .int (J ((fp : Nat) : Int)), .ref so, .ref sr, .ref sw, .int (J ((rn : Nat) : Int))])), (r0, .inl (cI, 7, .inl (fun z9 => J ((Mr z9 : Nat) : Int)))), (rx, .inl (cI, 40, .inl (fun z9 => J (Px z9)))), (ry, .inl (cI, 40, .inl (fun z9 => J (Py z9)))), (rt, .inl (cZ, 40, .inl (fun z9 => J (b2i (Mt z9))))), (rh, .inl (cI, 41, .inl (fun z9 => J ((Hu z9 : Nat) : Int)))), (ra, .inl (cI, 120, .inl (fun z9 => J ((A1 z9 : Nat) : Int)))), (rb, .inl (cI, 120, .inl (fun z9 => J ((A2 z9 : Nat) : Int)))), (rc, .inl (cI, 120, .inl (fun z9 => J ((A3 z9 : Nat) : Int)))), (sa, .inl (cI, 120, .inl (fun z9 => J ((B1 z9 : Nat) : Int)))), (sb, .inl (cI, 120, .inl (fun z9 => J ((B2 z9 : Nat) : Int)))), (sc, .inl (cI, 120, .inl (fun z9 => J ((B3 z9 : Nat) : Int)))), (so, .inl (cI, 40, .inl (fun z9 => J ((Or z9 : Nat) : Int)))), (sr, .inl (cI, 80, .inl (fun z9 => J ((Ro z9 : Nat) : Int)))), (sw, .inl (cI, 80, .inl (fun z9 => J ((Ne z9 : Nat) : Int))))] H → va_D (inW WC) [(qq, .inr (4, [.ref r0, .ref rx, .ref ry, .ref rt, .int (J ((pn : Nat) : Int)), .int (J (b2i (kn))), .int (J (b2i (fl))), .ref rh, .ref ra, .ref rb, .ref rc, .int (J ((hn : Nat) : Int)), .int (J ((mn : Nat) : Int)), .int (J (b2i (hd))), .int (J (b2i (sd))), .ref sa, .ref sb, .ref sc, .int (J ((hh : Nat) : Int)), .int (J ((fp : Nat) : Int)), .ref so, .ref sr, .ref sw, .int (J ((rn : Nat) : Int))])), (r0, .inl (cI, 7, .inl (fun z9 => J ((Mr z9 : Nat) : Int)))), (rx, .inl (cI, 40, .inl (fun z9 => J (Px z9)))), (ry, .inl (cI, 40, .inl (fun z9 => J (Py z9)))), (rt, .inl (cZ, 40, .inl (fun z9 => J (b2i (Mt z9))))), (rh, .inl (cI, 41, .inl (fun z9 => J ((Hu z9 : Nat) : Int)))), (ra, .inl (cI, 120, .inl (fun z9 => J ((A1 z9 : Nat) : Int)))), (rb, .inl (cI, 120, .inl (fun z9 => J ((A2 z9 : Nat) : Int)))), (rc, .inl (cI, 120, .inl (fun z9 => J ((A3 z9 : Nat) : Int)))), (sa, .inl (cI, 120, .inl (fun z9 => J ((B1 z9 : Nat) : Int)))), (sb, .inl (cI, 120, .inl (fun z9 => J ((B2 z9 : Nat) : Int)))), (sc, .inl (cI, 120, .inl (fun z9 => J ((B3 z9 : Nat) : Int)))), (so, .inl (cI, 40, .inl (fun z9 => J ((Or z9 : Nat) : Int)))), (sr, .inl (cI, 80, .inl (fun z9 => J ((Ro z9 : Nat) : Int)))), (sw, .inl (cI, 80, .inl (fun z9 => J ((Ne z9 : Nat) : Int))))] → va_S (inW WC) s.heap H locs → ∀ ls : Array Slot, lv_has ls 5 [(0, .ref qq), (1, .int (J ((a : Nat) : Int))), (2, .int (J w)), (3, .int (J ((k : Nat) : Int))), (4, .int (J ((i : Nat) : Int)))] → W p l e { frames := 6, cells := 0, slots := 0, locals := 137 } s m args below meth c H locs 0 0 (MQ below (QW D WC (wRS cI cZ qq r0 rx ry rt rh ra rb rc sa sb sc so sr sw ((Px, Py, Mt, pn), (kn, fl, Hu, hn, A1, A2, A3, mn), (hd, sd, B1, B2, B3, hh, fp), (Or, Ro, Ne, rn), Mr)) (some (.int (J ((rv : Nat) : Int))))) args s 0 0 (inW WC)) (F0 m 130 ls []) := by
  have hX : ∀ i, -10000 ≤ Px i ∧ Px i ≤ 10000 := hRI.1
  have hY : ∀ i, -10000 ≤ Py i ∧ Py i ≤ 10000 := hRI.2.1
  have hpn : pn ≤ 40 := hRI.2.2.1
  have hHu : ∀ i, Hu i < 40 := hRI.2.2.2.1
  have hhn : hn ≤ 41 := hRI.2.2.2.2.1
  have hA1 : ∀ i, A1 i < 40 := hRI.2.2.2.2.2.1
  have hA2 : ∀ i, A2 i < 40 := hRI.2.2.2.2.2.2.1
  have hA3 : ∀ i, A3 i < 40 := hRI.2.2.2.2.2.2.2.1
  have hmn : mn ≤ 120 := hRI.2.2.2.2.2.2.2.2.1
  have hB1 : ∀ i, B1 i < 40 := hRI.2.2.2.2.2.2.2.2.2.1
  have hB2 : ∀ i, B2 i < 40 := hRI.2.2.2.2.2.2.2.2.2.2.1
  have hB3 : ∀ i, B3 i < 40 := hRI.2.2.2.2.2.2.2.2.2.2.2.1
  have hhh : hh ≤ 120 := hRI.2.2.2.2.2.2.2.2.2.2.2.2.1
  have hOr : ∀ i, Or i < 40 := hRI.2.2.2.2.2.2.2.2.2.2.2.2.2.1
  have hRo : ∀ i, Ro i < 40 := hRI.2.2.2.2.2.2.2.2.2.2.2.2.2.2.1
  have hNe : ∀ i, Ne i < 40 := hRI.2.2.2.2.2.2.2.2.2.2.2.2.2.2.2.1
  have hrn : rn ≤ 80 := hRI.2.2.2.2.2.2.2.2.2.2.2.2.2.2.2.2
  intro n
  induction n with
  | zero => intro i k hi0 hi1 hi2; omega
  | succ n ih =>
    intro i k hi0 hi1 hi2 rv hrv H locs hP hD hS ls hl
    refine lv_iload C.1 C.2.1 dX4_pointOf_130 (lv_at hl 4 rfl) ?_
    refine lv_aload_n C.1 C.2.1 dX4_pointOf_132 rfl (lv_at hl 0 rfl) ?_
    refine jv_get C fw_X4_121 hK hP 0 rfl rfl dX4_pointOf_133 ?_
    refine jv_icmp_ge (tgt := 164) C dX4_pointOf_136 (by decide) (by omega) (fun h1 => ?_) (fun h1 => ?_)
    · refine lv_iload_n C.1 C.2.1 dX4_pointOf_164 rfl (lv_at hl 3 rfl) ?_
      exact jw_iret C hlk hr dX4_pointOf_165 (by rw [hrv, cn_end (by omega)]; rfl) (hP) hS
    · refine lv_iload_n C.1 C.2.1 dX4_pointOf_139 rfl (lv_at hl 3 rfl) ?_
      refine lv_aload_n C.1 C.2.1 dX4_pointOf_140 rfl (lv_at hl 0 rfl) ?_
      refine jv_get C fw_X4_23 hK hP 0 rfl rfl dX4_pointOf_141 ?_
      refine lv_iload C.1 C.2.1 dX4_pointOf_144 (lv_at hl 4 rfl) ?_
      refine jv_iald C hK hP 5 0 rfl rfl (i) (by omega) (by omega) (by decide) dX4_pointOf_146 ?_
      have f2 := hHu i
      refine lv_iload_n C.1 C.2.1 dX4_pointOf_147 rfl (lv_at hl 1 rfl) ?_
      refine jv_icmp_ne (tgt := 155) C dX4_pointOf_148 (by decide) (by omega) (fun h3 => ?_) (fun h3 => ?_)
      · refine jv_iconst C dX4_pointOf_155 ?_
        refine jv_iadd (z := ((k + 0 : Nat) : Int)) C dX4_pointOf_156 (by omega) ?_
        refine lv_istore_n (lv' := [(3, .int (J ((k + 0 : Nat) : Int))), (0, .ref qq), (1, .int (J ((a : Nat) : Int))), (2, .int (J w)), (4, .int (J ((i : Nat) : Int)))]) C.1 C.2.1 dX4_pointOf_157 rfl hl (by decide) rfl (fun ls hl => ?_)
        refine lv_iinc (v := J (((i + 1 : Nat) : Int))) (lv' := [(4, .int (J ((i + 1 : Nat) : Int))), (3, .int (J ((k + 0 : Nat) : Int))), (0, .ref qq), (1, .int (J ((a : Nat) : Int))), (2, .int (J w))]) C.1 C.2.1 dX4_pointOf_158 hl (k := 4) rfl (by rw [show Int32.ofInt 1 = J 1 from rfl, J_add]; exact congrArg J (by omega)) (by decide) rfl (fun ls hl => ?_)
        refine lv_goto (tgt := 130) C.1 C.2.1 dX4_pointOf_161 (by decide) ?_
        exact ih (i + 1) (k) (by omega) (by omega) (by omega) rv (by rw [hrv, cn_go (by omega) (decide_eq_false (by omega))]) H locs hP hD hS ls (lv_sub hl [2, 3, 4, 1, 0] rfl)
      · refine jv_iconst C dX4_pointOf_151 ?_
        refine lv_goto (tgt := 156) C.1 C.2.1 dX4_pointOf_152 (by decide) ?_
        refine jv_iadd (z := ((k + 1 : Nat) : Int)) C dX4_pointOf_156 (by omega) ?_
        refine lv_istore_n (lv' := [(3, .int (J ((k + 1 : Nat) : Int))), (0, .ref qq), (1, .int (J ((a : Nat) : Int))), (2, .int (J w)), (4, .int (J ((i : Nat) : Int)))]) C.1 C.2.1 dX4_pointOf_157 rfl hl (by decide) rfl (fun ls hl => ?_)
        refine lv_iinc (v := J (((i + 1 : Nat) : Int))) (lv' := [(4, .int (J ((i + 1 : Nat) : Int))), (3, .int (J ((k + 1 : Nat) : Int))), (0, .ref qq), (1, .int (J ((a : Nat) : Int))), (2, .int (J w))]) C.1 C.2.1 dX4_pointOf_158 hl (k := 4) rfl (by rw [show Int32.ofInt 1 = J 1 from rfl, J_add]; exact congrArg J (by omega)) (by decide) rfl (fun ls hl => ?_)
        refine lv_goto (tgt := 130) C.1 C.2.1 dX4_pointOf_161 (by decide) ?_
        exact ih (i + 1) (k + 1) (by omega) (by omega) (by omega) rv (by rw [hrv, cn_hit (by omega) (decide_eq_true (by omega))]; omega) H locs hP hD hS ls (lv_sub hl [2, 3, 4, 1, 0] rfl)
set_option maxRecDepth 20000 in
set_option maxHeartbeats 4000000 in
theorem c_X4_pointOf {p1 w : Int} (hRI : RI ((Px, Py, Mt, pn), (kn, fl, Hu, hn, A1, A2, A3, mn), (hd, sd, B1, B2, B3, hh, fp), (Or, Ro, Ne, rn), Mr)) (hko : knOk ((Px, Py, Mt, pn), (kn, fl, Hu, hn, A1, A2, A3, mn), (hd, sd, B1, B2, B3, hh, fp), (Or, Ro, Ne, rn), Mr)) (hp1 : R3 p1) (hw : R3 w) : cW l yX4_pointOf cX4_pointOf 5 (some .int) 6 137 D (tyz cI cZ) [.ref qq, .int (J p1), .int (J w)] (wRS cI cZ qq r0 rx ry rt rh ra rb rc sa sb sc so sr sw ((Px, Py, Mt, pn), (kn, fl, Hu, hn, A1, A2, A3, mn), (hd, sd, B1, B2, B3, hh, fp), (Or, Ro, Ne, rn), Mr)) (wRS cI cZ qq r0 rx ry rt rh ra rb rc sa sb sc so sr sw ((rpPointOf p1 w ((Px, Py, Mt, pn), (kn, fl, Hu, hn, A1, A2, A3, mn), (hd, sd, B1, B2, B3, hh, fp), (Or, Ro, Ne, rn), Mr)).2)) (some (.int (J (rpPointOf p1 w ((Px, Py, Mt, pn), (kn, fl, Hu, hn, A1, A2, A3, mn), (hd, sd, B1, B2, B3, hh, fp), (Or, Ro, Ne, rn), Mr)).1))) := by
  refine cW_of (owner := RX4) rfl (by decide) (Nat.le_of_ble_eq_true rfl) ?_
  intro p e s m args below meth c ls C hlk hr hK hP hD hS hl
  have hl : lv_has ls 5 [(0, .ref qq), (1, .int (J p1)), (2, .int (J w))] := hl
  have hP : va_P D vwCl [(qq, .inr (4, [.ref r0, .ref rx, .ref ry, .ref rt, .int (J ((pn : Nat) : Int)), .int (J (b2i (kn))), .int (J (b2i (fl))), .ref rh, .ref ra, .ref rb, .ref rc, .int (J ((hn : Nat) : Int)), .int (J ((mn : Nat) : Int)), .int (J (b2i (hd))), .int (J (b2i (sd))), .ref sa, .ref sb, .ref sc, .int (J ((hh : Nat) : Int)), .int (J ((fp : Nat) : Int)), .ref so, .ref sr, .ref sw, .int (J ((rn : Nat) : Int))])), (r0, .inl (cI, 7, .inl (fun z9 => J ((Mr z9 : Nat) : Int)))), (rx, .inl (cI, 40, .inl (fun z9 => J (Px z9)))), (ry, .inl (cI, 40, .inl (fun z9 => J (Py z9)))), (rt, .inl (cZ, 40, .inl (fun z9 => J (b2i (Mt z9))))), (rh, .inl (cI, 41, .inl (fun z9 => J ((Hu z9 : Nat) : Int)))), (ra, .inl (cI, 120, .inl (fun z9 => J ((A1 z9 : Nat) : Int)))), (rb, .inl (cI, 120, .inl (fun z9 => J ((A2 z9 : Nat) : Int)))), (rc, .inl (cI, 120, .inl (fun z9 => J ((A3 z9 : Nat) : Int)))), (sa, .inl (cI, 120, .inl (fun z9 => J ((B1 z9 : Nat) : Int)))), (sb, .inl (cI, 120, .inl (fun z9 => J ((B2 z9 : Nat) : Int)))), (sc, .inl (cI, 120, .inl (fun z9 => J ((B3 z9 : Nat) : Int)))), (so, .inl (cI, 40, .inl (fun z9 => J ((Or z9 : Nat) : Int)))), (sr, .inl (cI, 80, .inl (fun z9 => J ((Ro z9 : Nat) : Int)))), (sw, .inl (cI, 80, .inl (fun z9 => J ((Ne z9 : Nat) : Int))))] s.heap := hP
  have hD : va_D _ [(qq, .inr (4, [.ref r0, .ref rx, .ref ry, .ref rt, .int (J ((pn : Nat) : Int)), .int (J (b2i (kn))), .int (J (b2i (fl))), .ref rh, .ref ra, .ref rb, .ref rc, .int (J ((hn : Nat) : Int)), .int (J ((mn : Nat) : Int)), .int (J (b2i (hd))), .int (J (b2i (sd))), .ref sa, .ref sb, .ref sc, .int (J ((hh : Nat) : Int)), .int (J ((fp : Nat) : Int)), .ref so, .ref sr, .ref sw, .int (J ((rn : Nat) : Int))])), (r0, .inl (cI, 7, .inl (fun z9 => J ((Mr z9 : Nat) : Int)))), (rx, .inl (cI, 40, .inl (fun z9 => J (Px z9)))), (ry, .inl (cI, 40, .inl (fun z9 => J (Py z9)))), (rt, .inl (cZ, 40, .inl (fun z9 => J (b2i (Mt z9))))), (rh, .inl (cI, 41, .inl (fun z9 => J ((Hu z9 : Nat) : Int)))), (ra, .inl (cI, 120, .inl (fun z9 => J ((A1 z9 : Nat) : Int)))), (rb, .inl (cI, 120, .inl (fun z9 => J ((A2 z9 : Nat) : Int)))), (rc, .inl (cI, 120, .inl (fun z9 => J ((A3 z9 : Nat) : Int)))), (sa, .inl (cI, 120, .inl (fun z9 => J ((B1 z9 : Nat) : Int)))), (sb, .inl (cI, 120, .inl (fun z9 => J ((B2 z9 : Nat) : Int)))), (sc, .inl (cI, 120, .inl (fun z9 => J ((B3 z9 : Nat) : Int)))), (so, .inl (cI, 40, .inl (fun z9 => J ((Or z9 : Nat) : Int)))), (sr, .inl (cI, 80, .inl (fun z9 => J ((Ro z9 : Nat) : Int)))), (sw, .inl (cI, 80, .inl (fun z9 => J ((Ne z9 : Nat) : Int))))] := hD
  have hX : ∀ i, -10000 ≤ Px i ∧ Px i ≤ 10000 := hRI.1
  have hY : ∀ i, -10000 ≤ Py i ∧ Py i ≤ 10000 := hRI.2.1
  have hpn : pn ≤ 40 := hRI.2.2.1
  have hHu : ∀ i, Hu i < 40 := hRI.2.2.2.1
  have hhn : hn ≤ 41 := hRI.2.2.2.2.1
  have hA1 : ∀ i, A1 i < 40 := hRI.2.2.2.2.2.1
  have hA2 : ∀ i, A2 i < 40 := hRI.2.2.2.2.2.2.1
  have hA3 : ∀ i, A3 i < 40 := hRI.2.2.2.2.2.2.2.1
  have hmn : mn ≤ 120 := hRI.2.2.2.2.2.2.2.2.1
  have hB1 : ∀ i, B1 i < 40 := hRI.2.2.2.2.2.2.2.2.2.1
  have hB2 : ∀ i, B2 i < 40 := hRI.2.2.2.2.2.2.2.2.2.2.1
  have hB3 : ∀ i, B3 i < 40 := hRI.2.2.2.2.2.2.2.2.2.2.2.1
  have hhh : hh ≤ 120 := hRI.2.2.2.2.2.2.2.2.2.2.2.2.1
  have hOr : ∀ i, Or i < 40 := hRI.2.2.2.2.2.2.2.2.2.2.2.2.2.1
  have hRo : ∀ i, Ro i < 40 := hRI.2.2.2.2.2.2.2.2.2.2.2.2.2.2.1
  have hNe : ∀ i, Ne i < 40 := hRI.2.2.2.2.2.2.2.2.2.2.2.2.2.2.2.1
  have hrn : rn ≤ 80 := hRI.2.2.2.2.2.2.2.2.2.2.2.2.2.2.2.2
  refine lv_aload_n C.1 C.2.1 dX4_pointOf_0 rfl (lv_at hl 0 rfl) ?_
  refine lv_iload_n C.1 C.2.1 dX4_pointOf_1 rfl (lv_at hl 1 rfl) ?_
  refine jv_rdV (ni := 1) (ci := 4) (q0 := 0) C [.int (J p1)] [] (c_X4_isPoint (Px := Px) (Py := Py) (Mt := Mt) (pn := pn) (kn := kn) (fl := fl) (Hu := Hu) (hn := hn) (A1 := A1) (A2 := A2) (A3 := A3) (mn := mn) (hd := hd) (sd := sd) (B1 := B1) (B2 := B2) (B3 := B3) (hh := hh) (fp := fp) (Or := Or) (Ro := Ro) (Ne := Ne) (rn := rn) (Mr := Mr) hRI (z := p1) (by omega)) gv_X4_79 (by decide +kernel) (by decide) hK (hP) rfl rfl rfl hl.1 (by simp [Value.category]) dX4_pointOf_2 (by decide) ?_ rfl
  show W _ _ _ _ _ _ _ _ _ _ _ _ _ _ _ (F0 m 5 ls [.int (J (b2i (thr Mt pn p1)))])
  refine jv_bif_ne (tgt := 14) C dX4_pointOf_5 (by decide) (fun h1 => ?_) (fun h1 => ?_)
  · have htz := thr_t h1
    rw [show p1 = ((p1.toNat : Nat) : Int) from by omega] at hl
    refine lv_aload_n C.1 C.2.1 dX4_pointOf_14 rfl (lv_at hl 0 rfl) ?_
    refine jv_waV (ni := 0) (ci := 4) (q0 := 0) (wc := (wRS cI cZ qq r0 rx ry rt rh ra rb rc sa sb sc so sr sw ((Px, Py, Mt, pn), (kn, fl, Hu, hn, A1, A2, A3, mn), (hd, sd, B1, B2, B3, hh, fp), (Or, Ro, Ne, rn), Mr))) (wd := (wRS cI cZ qq r0 rx ry rt rh ra rb rc sa sb sc so sr sw (rKnow ((Px, Py, Mt, pn), (kn, fl, Hu, hn, A1, A2, A3, mn), (hd, sd, B1, B2, B3, hh, fp), (Or, Ro, Ne, rn), Mr)))) C [] [] (c_X4_know (Px := Px) (Py := Py) (Mt := Mt) (pn := pn) (kn := kn) (fl := fl) (Hu := Hu) (hn := hn) (A1 := A1) (A2 := A2) (A3 := A3) (mn := mn) (hd := hd) (sd := sd) (B1 := B1) (B2 := B2) (B3 := B3) (hh := hh) (fp := fp) (Or := Or) (Ro := Ro) (Ne := Ne) (rn := rn) (Mr := Mr) hRI hko) gv_X4_147 (by decide +kernel) (by decide) hK hP hD hS rfl rfl rfl rfl hl.1 (by simp [Value.category]) dX4_pointOf_15 (by decide) (fun H locs hP hD hS => ?_) rfl
    have hbn := rKnow_b hRI hko
    generalize hS2 : rKnow ((Px, Py, Mt, pn), (kn, fl, Hu, hn, A1, A2, A3, mn), (hd, sd, B1, B2, B3, hh, fp), (Or, Ro, Ne, rn), Mr) = S2 at hP hD hbn
    have hP : va_P D vwCl [(qq, .inr (4, [.ref r0, .ref rx, .ref ry, .ref rt, .int (J ((S2.1.2.2.2 : Nat) : Int)), .int (J (b2i (S2.2.1.1))), .int (J (b2i (S2.2.1.2.1))), .ref rh, .ref ra, .ref rb, .ref rc, .int (J ((S2.2.1.2.2.2.1 : Nat) : Int)), .int (J ((S2.2.1.2.2.2.2.2.2.2 : Nat) : Int)), .int (J (b2i (S2.2.2.1.1))), .int (J (b2i (S2.2.2.1.2.1))), .ref sa, .ref sb, .ref sc, .int (J ((S2.2.2.1.2.2.2.2.2.1 : Nat) : Int)), .int (J ((S2.2.2.1.2.2.2.2.2.2 : Nat) : Int)), .ref so, .ref sr, .ref sw, .int (J ((S2.2.2.2.1.2.2.2 : Nat) : Int))])), (r0, .inl (cI, 7, .inl (fun z9 => J ((S2.2.2.2.2 z9 : Nat) : Int)))), (rx, .inl (cI, 40, .inl (fun z9 => J (S2.1.1 z9)))), (ry, .inl (cI, 40, .inl (fun z9 => J (S2.1.2.1 z9)))), (rt, .inl (cZ, 40, .inl (fun z9 => J (b2i (S2.1.2.2.1 z9))))), (rh, .inl (cI, 41, .inl (fun z9 => J ((S2.2.1.2.2.1 z9 : Nat) : Int)))), (ra, .inl (cI, 120, .inl (fun z9 => J ((S2.2.1.2.2.2.2.1 z9 : Nat) : Int)))), (rb, .inl (cI, 120, .inl (fun z9 => J ((S2.2.1.2.2.2.2.2.1 z9 : Nat) : Int)))), (rc, .inl (cI, 120, .inl (fun z9 => J ((S2.2.1.2.2.2.2.2.2.1 z9 : Nat) : Int)))), (sa, .inl (cI, 120, .inl (fun z9 => J ((S2.2.2.1.2.2.1 z9 : Nat) : Int)))), (sb, .inl (cI, 120, .inl (fun z9 => J ((S2.2.2.1.2.2.2.1 z9 : Nat) : Int)))), (sc, .inl (cI, 120, .inl (fun z9 => J ((S2.2.2.1.2.2.2.2.1 z9 : Nat) : Int)))), (so, .inl (cI, 40, .inl (fun z9 => J ((S2.2.2.2.1.1 z9 : Nat) : Int)))), (sr, .inl (cI, 80, .inl (fun z9 => J ((S2.2.2.2.1.2.1 z9 : Nat) : Int)))), (sw, .inl (cI, 80, .inl (fun z9 => J ((S2.2.2.2.1.2.2.1 z9 : Nat) : Int))))] H := hP
    have hD : va_D _ [(qq, .inr (4, [.ref r0, .ref rx, .ref ry, .ref rt, .int (J ((S2.1.2.2.2 : Nat) : Int)), .int (J (b2i (S2.2.1.1))), .int (J (b2i (S2.2.1.2.1))), .ref rh, .ref ra, .ref rb, .ref rc, .int (J ((S2.2.1.2.2.2.1 : Nat) : Int)), .int (J ((S2.2.1.2.2.2.2.2.2.2 : Nat) : Int)), .int (J (b2i (S2.2.2.1.1))), .int (J (b2i (S2.2.2.1.2.1))), .ref sa, .ref sb, .ref sc, .int (J ((S2.2.2.1.2.2.2.2.2.1 : Nat) : Int)), .int (J ((S2.2.2.1.2.2.2.2.2.2 : Nat) : Int)), .ref so, .ref sr, .ref sw, .int (J ((S2.2.2.2.1.2.2.2 : Nat) : Int))])), (r0, .inl (cI, 7, .inl (fun z9 => J ((S2.2.2.2.2 z9 : Nat) : Int)))), (rx, .inl (cI, 40, .inl (fun z9 => J (S2.1.1 z9)))), (ry, .inl (cI, 40, .inl (fun z9 => J (S2.1.2.1 z9)))), (rt, .inl (cZ, 40, .inl (fun z9 => J (b2i (S2.1.2.2.1 z9))))), (rh, .inl (cI, 41, .inl (fun z9 => J ((S2.2.1.2.2.1 z9 : Nat) : Int)))), (ra, .inl (cI, 120, .inl (fun z9 => J ((S2.2.1.2.2.2.2.1 z9 : Nat) : Int)))), (rb, .inl (cI, 120, .inl (fun z9 => J ((S2.2.1.2.2.2.2.2.1 z9 : Nat) : Int)))), (rc, .inl (cI, 120, .inl (fun z9 => J ((S2.2.1.2.2.2.2.2.2.1 z9 : Nat) : Int)))), (sa, .inl (cI, 120, .inl (fun z9 => J ((S2.2.2.1.2.2.1 z9 : Nat) : Int)))), (sb, .inl (cI, 120, .inl (fun z9 => J ((S2.2.2.1.2.2.2.1 z9 : Nat) : Int)))), (sc, .inl (cI, 120, .inl (fun z9 => J ((S2.2.2.1.2.2.2.2.1 z9 : Nat) : Int)))), (so, .inl (cI, 40, .inl (fun z9 => J ((S2.2.2.2.1.1 z9 : Nat) : Int)))), (sr, .inl (cI, 80, .inl (fun z9 => J ((S2.2.2.2.1.2.1 z9 : Nat) : Int)))), (sw, .inl (cI, 80, .inl (fun z9 => J ((S2.2.2.2.1.2.2.1 z9 : Nat) : Int))))] := hD
    show W _ _ _ _ _ _ _ _ _ _ _ _ _ _ _ (F0 m 18 ls [])
    have hRS2 : RI ((S2.1.1, S2.1.2.1, S2.1.2.2.1, S2.1.2.2.2), (S2.2.1.1, S2.2.1.2.1, S2.2.1.2.2.1, S2.2.1.2.2.2.1, S2.2.1.2.2.2.2.1, S2.2.1.2.2.2.2.2.1, S2.2.1.2.2.2.2.2.2.1, S2.2.1.2.2.2.2.2.2.2), (S2.2.2.1.1, S2.2.2.1.2.1, S2.2.2.1.2.2.1, S2.2.2.1.2.2.2.1, S2.2.2.1.2.2.2.2.1, S2.2.2.1.2.2.2.2.2.1, S2.2.2.1.2.2.2.2.2.2), (S2.2.2.2.1.1, S2.2.2.2.1.2.1, S2.2.2.2.1.2.2.1, S2.2.2.2.1.2.2.2), S2.2.2.2.2) := hbn
    have hX : ∀ i, -10000 ≤ S2.1.1 i ∧ S2.1.1 i ≤ 10000 := hRS2.1
    have hY : ∀ i, -10000 ≤ S2.1.2.1 i ∧ S2.1.2.1 i ≤ 10000 := hRS2.2.1
    have hpn : S2.1.2.2.2 ≤ 40 := hRS2.2.2.1
    have hHu : ∀ i, S2.2.1.2.2.1 i < 40 := hRS2.2.2.2.1
    have hhn : S2.2.1.2.2.2.1 ≤ 41 := hRS2.2.2.2.2.1
    have hA1 : ∀ i, S2.2.1.2.2.2.2.1 i < 40 := hRS2.2.2.2.2.2.1
    have hA2 : ∀ i, S2.2.1.2.2.2.2.2.1 i < 40 := hRS2.2.2.2.2.2.2.1
    have hA3 : ∀ i, S2.2.1.2.2.2.2.2.2.1 i < 40 := hRS2.2.2.2.2.2.2.2.1
    have hmn : S2.2.1.2.2.2.2.2.2.2 ≤ 120 := hRS2.2.2.2.2.2.2.2.2.1
    have hB1 : ∀ i, S2.2.2.1.2.2.1 i < 40 := hRS2.2.2.2.2.2.2.2.2.2.1
    have hB2 : ∀ i, S2.2.2.1.2.2.2.1 i < 40 := hRS2.2.2.2.2.2.2.2.2.2.2.1
    have hB3 : ∀ i, S2.2.2.1.2.2.2.2.1 i < 40 := hRS2.2.2.2.2.2.2.2.2.2.2.2.1
    have hhh : S2.2.2.1.2.2.2.2.2.1 ≤ 120 := hRS2.2.2.2.2.2.2.2.2.2.2.2.2.1
    have hOr : ∀ i, S2.2.2.2.1.1 i < 40 := hRS2.2.2.2.2.2.2.2.2.2.2.2.2.2.1
    have hRo : ∀ i, S2.2.2.2.1.2.1 i < 40 := hRS2.2.2.2.2.2.2.2.2.2.2.2.2.2.2.1
    have hNe : ∀ i, S2.2.2.2.1.2.2.1 i < 40 := hRS2.2.2.2.2.2.2.2.2.2.2.2.2.2.2.2.1
    have hrn : S2.2.2.2.1.2.2.2 ≤ 80 := hRS2.2.2.2.2.2.2.2.2.2.2.2.2.2.2.2.2
    refine jv_iconst C dX4_pointOf_18 ?_
    refine lv_istore_n (lv' := [(3, .int (J 0)), (0, .ref qq), (1, .int (J ((p1.toNat : Nat) : Int))), (2, .int (J w))]) C.1 C.2.1 dX4_pointOf_19 rfl hl (by decide) rfl (fun ls hl => ?_)
    refine lv_iload_n C.1 C.2.1 dX4_pointOf_20 rfl (lv_at hl 3 rfl) ?_
    rcases (show w = 0 ∨ w = 1 ∨ w = 2 ∨ w = 3 ∨ (w < 0 ∨ 3 < w) by omega) with h3 | h3 | h3 | h3 | h3
    · refine lv_tableIn (tgt := 52) C.1 C.2.1 dX4_pointOf_21 (by rw [J_toInt (by omega)]; omega) (by rw [J_toInt (by omega)]; omega) (by rw [J_toInt (by omega), h3]; rfl) (by decide) ?_
      refine lv_aload_n C.1 C.2.1 dX4_pointOf_52 rfl (lv_at hl 1 rfl) ?_
      refine jv_get C fw_X4_13 hK hP 0 rfl rfl dX4_pointOf_53 ?_
      refine lv_iload_n C.1 C.2.1 dX4_pointOf_56 rfl (lv_at hl 2 rfl) ?_
      refine jv_iald C hK hP 2 0 rfl rfl (p1.toNat) (by omega) (by omega) (by decide) dX4_pointOf_57 ?_
      have f4 := hX p1.toNat
      exact jw_iret C hlk hr dX4_pointOf_58 (by rw [show rpPointOf p1 w ((Px, Py, Mt, pn), (kn, fl, Hu, hn, A1, A2, A3, mn), (hd, sd, B1, B2, B3, hh, fp), (Or, Ro, Ne, rn), Mr) = (S2.1.1 p1.toNat, ((S2.1.1, S2.1.2.1, S2.1.2.2.1, S2.1.2.2.2), (S2.2.1.1, S2.2.1.2.1, S2.2.1.2.2.1, S2.2.1.2.2.2.1, S2.2.1.2.2.2.2.1, S2.2.1.2.2.2.2.2.1, S2.2.1.2.2.2.2.2.2.1, S2.2.1.2.2.2.2.2.2.2), (S2.2.2.1.1, S2.2.2.1.2.1, S2.2.2.1.2.2.1, S2.2.2.1.2.2.2.1, S2.2.2.1.2.2.2.2.1, S2.2.2.1.2.2.2.2.2.1, S2.2.2.1.2.2.2.2.2.2), (S2.2.2.2.1.1, S2.2.2.2.1.2.1, S2.2.2.2.1.2.2.1, S2.2.2.2.1.2.2.2), S2.2.2.2.2)) from by unfold rpPointOf; rw [if_neg (by (try dsimp only); first | assumption | exact bt_nf (by assumption) | exact bf_nt (by assumption) | exact of_decide_eq_true (by assumption) | exact of_decide_eq_false (by assumption) | omega), if_pos (by (try dsimp only); first | assumption | exact bt_nf (by assumption) | exact bf_nt (by assumption) | exact of_decide_eq_true (by assumption) | exact of_decide_eq_false (by assumption) | omega), hS2]]) (by rw [show rpPointOf p1 w ((Px, Py, Mt, pn), (kn, fl, Hu, hn, A1, A2, A3, mn), (hd, sd, B1, B2, B3, hh, fp), (Or, Ro, Ne, rn), Mr) = (S2.1.1 p1.toNat, ((S2.1.1, S2.1.2.1, S2.1.2.2.1, S2.1.2.2.2), (S2.2.1.1, S2.2.1.2.1, S2.2.1.2.2.1, S2.2.1.2.2.2.1, S2.2.1.2.2.2.2.1, S2.2.1.2.2.2.2.2.1, S2.2.1.2.2.2.2.2.2.1, S2.2.1.2.2.2.2.2.2.2), (S2.2.2.1.1, S2.2.2.1.2.1, S2.2.2.1.2.2.1, S2.2.2.1.2.2.2.1, S2.2.2.1.2.2.2.2.1, S2.2.2.1.2.2.2.2.2.1, S2.2.2.1.2.2.2.2.2.2), (S2.2.2.2.1.1, S2.2.2.2.1.2.1, S2.2.2.2.1.2.2.1, S2.2.2.2.1.2.2.2), S2.2.2.2.2)) from by unfold rpPointOf; rw [if_neg (by (try dsimp only); first | assumption | exact bt_nf (by assumption) | exact bf_nt (by assumption) | exact of_decide_eq_true (by assumption) | exact of_decide_eq_false (by assumption) | omega), if_pos (by (try dsimp only); first | assumption | exact bt_nf (by assumption) | exact bf_nt (by assumption) | exact of_decide_eq_true (by assumption) | exact of_decide_eq_false (by assumption) | omega), hS2]]; exact hP) hS
    · refine lv_tableIn (tgt := 59) C.1 C.2.1 dX4_pointOf_21 (by rw [J_toInt (by omega)]; omega) (by rw [J_toInt (by omega)]; omega) (by rw [J_toInt (by omega), h3]; rfl) (by decide) ?_
      refine lv_aload_n C.1 C.2.1 dX4_pointOf_59 rfl (lv_at hl 1 rfl) ?_
      refine jv_get C fw_X4_16 hK hP 0 rfl rfl dX4_pointOf_60 ?_
      refine lv_iload_n C.1 C.2.1 dX4_pointOf_63 rfl (lv_at hl 2 rfl) ?_
      refine jv_iald C hK hP 3 0 rfl rfl (p1.toNat) (by omega) (by omega) (by decide) dX4_pointOf_64 ?_
      have f5 := hY p1.toNat
      exact jw_iret C hlk hr dX4_pointOf_65 (by rw [show rpPointOf p1 w ((Px, Py, Mt, pn), (kn, fl, Hu, hn, A1, A2, A3, mn), (hd, sd, B1, B2, B3, hh, fp), (Or, Ro, Ne, rn), Mr) = (S2.1.2.1 p1.toNat, ((S2.1.1, S2.1.2.1, S2.1.2.2.1, S2.1.2.2.2), (S2.2.1.1, S2.2.1.2.1, S2.2.1.2.2.1, S2.2.1.2.2.2.1, S2.2.1.2.2.2.2.1, S2.2.1.2.2.2.2.2.1, S2.2.1.2.2.2.2.2.2.1, S2.2.1.2.2.2.2.2.2.2), (S2.2.2.1.1, S2.2.2.1.2.1, S2.2.2.1.2.2.1, S2.2.2.1.2.2.2.1, S2.2.2.1.2.2.2.2.1, S2.2.2.1.2.2.2.2.2.1, S2.2.2.1.2.2.2.2.2.2), (S2.2.2.2.1.1, S2.2.2.2.1.2.1, S2.2.2.2.1.2.2.1, S2.2.2.2.1.2.2.2), S2.2.2.2.2)) from by unfold rpPointOf; rw [if_neg (by (try dsimp only); first | assumption | exact bt_nf (by assumption) | exact bf_nt (by assumption) | exact of_decide_eq_true (by assumption) | exact of_decide_eq_false (by assumption) | omega), if_neg (by (try dsimp only); first | assumption | exact bt_nf (by assumption) | exact bf_nt (by assumption) | exact of_decide_eq_true (by assumption) | exact of_decide_eq_false (by assumption) | omega), if_pos (by (try dsimp only); first | assumption | exact bt_nf (by assumption) | exact bf_nt (by assumption) | exact of_decide_eq_true (by assumption) | exact of_decide_eq_false (by assumption) | omega), hS2]]) (by rw [show rpPointOf p1 w ((Px, Py, Mt, pn), (kn, fl, Hu, hn, A1, A2, A3, mn), (hd, sd, B1, B2, B3, hh, fp), (Or, Ro, Ne, rn), Mr) = (S2.1.2.1 p1.toNat, ((S2.1.1, S2.1.2.1, S2.1.2.2.1, S2.1.2.2.2), (S2.2.1.1, S2.2.1.2.1, S2.2.1.2.2.1, S2.2.1.2.2.2.1, S2.2.1.2.2.2.2.1, S2.2.1.2.2.2.2.2.1, S2.2.1.2.2.2.2.2.2.1, S2.2.1.2.2.2.2.2.2.2), (S2.2.2.1.1, S2.2.2.1.2.1, S2.2.2.1.2.2.1, S2.2.2.1.2.2.2.1, S2.2.2.1.2.2.2.2.1, S2.2.2.1.2.2.2.2.2.1, S2.2.2.1.2.2.2.2.2.2), (S2.2.2.2.1.1, S2.2.2.2.1.2.1, S2.2.2.2.1.2.2.1, S2.2.2.2.1.2.2.2), S2.2.2.2.2)) from by unfold rpPointOf; rw [if_neg (by (try dsimp only); first | assumption | exact bt_nf (by assumption) | exact bf_nt (by assumption) | exact of_decide_eq_true (by assumption) | exact of_decide_eq_false (by assumption) | omega), if_neg (by (try dsimp only); first | assumption | exact bt_nf (by assumption) | exact bf_nt (by assumption) | exact of_decide_eq_true (by assumption) | exact of_decide_eq_false (by assumption) | omega), if_pos (by (try dsimp only); first | assumption | exact bt_nf (by assumption) | exact bf_nt (by assumption) | exact of_decide_eq_true (by assumption) | exact of_decide_eq_false (by assumption) | omega), hS2]]; exact hP) hS
    · refine lv_tableIn (tgt := 66) C.1 C.2.1 dX4_pointOf_21 (by rw [J_toInt (by omega)]; omega) (by rw [J_toInt (by omega)]; omega) (by rw [J_toInt (by omega), h3]; rfl) (by decide) ?_
      refine jv_iconst C dX4_pointOf_66 ?_
      refine lv_istore (lv' := [(4, .int (J 0)), (3, .int (J 0)), (0, .ref qq), (1, .int (J ((p1.toNat : Nat) : Int))), (2, .int (J w))]) C.1 C.2.1 dX4_pointOf_67 hl (by decide) rfl (fun ls hl => ?_)
      rw [show rpPointOf p1 w ((Px, Py, Mt, pn), (kn, fl, Hu, hn, A1, A2, A3, mn), (hd, sd, B1, B2, B3, hh, fp), (Or, Ro, Ne, rn), Mr) = (((cn (fun t => hsA S2.2.1.2.2.2.2.1 S2.2.1.2.2.2.2.2.1 S2.2.1.2.2.2.2.2.2.1 t (p1.toNat : Int)) S2.2.1.2.2.2.2.2.2.2 0 : Nat) : Int), ((S2.1.1, S2.1.2.1, S2.1.2.2.1, S2.1.2.2.2), (S2.2.1.1, S2.2.1.2.1, S2.2.1.2.2.1, S2.2.1.2.2.2.1, S2.2.1.2.2.2.2.1, S2.2.1.2.2.2.2.2.1, S2.2.1.2.2.2.2.2.2.1, S2.2.1.2.2.2.2.2.2.2), (S2.2.2.1.1, S2.2.2.1.2.1, S2.2.2.1.2.2.1, S2.2.2.1.2.2.2.1, S2.2.2.1.2.2.2.2.1, S2.2.2.1.2.2.2.2.2.1, S2.2.2.1.2.2.2.2.2.2), (S2.2.2.2.1.1, S2.2.2.2.1.2.1, S2.2.2.2.1.2.2.1, S2.2.2.2.1.2.2.2), S2.2.2.2.2)) from by unfold rpPointOf; rw [if_neg (by (try dsimp only); first | assumption | exact bt_nf (by assumption) | exact bf_nt (by assumption) | exact of_decide_eq_true (by assumption) | exact of_decide_eq_false (by assumption) | omega), if_neg (by (try dsimp only); first | assumption | exact bt_nf (by assumption) | exact bf_nt (by assumption) | exact of_decide_eq_true (by assumption) | exact of_decide_eq_false (by assumption) | omega), if_neg (by (try dsimp only); first | assumption | exact bt_nf (by assumption) | exact bf_nt (by assumption) | exact of_decide_eq_true (by assumption) | exact of_decide_eq_false (by assumption) | omega), if_pos (by (try dsimp only); first | assumption | exact bt_nf (by assumption) | exact bf_nt (by assumption) | exact of_decide_eq_true (by assumption) | exact of_decide_eq_false (by assumption) | omega), hS2]]
      exact lp_X4_pointOf_69 (Px := S2.1.1) (Py := S2.1.2.1) (Mt := S2.1.2.2.1) (pn := S2.1.2.2.2) (kn := S2.2.1.1) (fl := S2.2.1.2.1) (Hu := S2.2.1.2.2.1) (hn := S2.2.1.2.2.2.1) (A1 := S2.2.1.2.2.2.2.1) (A2 := S2.2.1.2.2.2.2.2.1) (A3 := S2.2.1.2.2.2.2.2.2.1) (mn := S2.2.1.2.2.2.2.2.2.2) (hd := S2.2.2.1.1) (sd := S2.2.2.1.2.1) (B1 := S2.2.2.1.2.2.1) (B2 := S2.2.2.1.2.2.2.1) (B3 := S2.2.2.1.2.2.2.2.1) (hh := S2.2.2.1.2.2.2.2.2.1) (fp := S2.2.2.1.2.2.2.2.2.2) (Or := S2.2.2.2.1.1) (Ro := S2.2.2.2.1.2.1) (Ne := S2.2.2.2.1.2.2.1) (rn := S2.2.2.2.1.2.2.2) (Mr := S2.2.2.2.2) C hlk hr hK hRS2 (by omega) (S2.2.1.2.2.2.2.2.2.2 + 1) 0 0 (by omega) (by omega) (by omega) _ (by omega) _ _ hP hD hS ls (lv_sub hl [2, 3, 4, 1, 0] rfl)
    · refine lv_tableIn (tgt := 127) C.1 C.2.1 dX4_pointOf_21 (by rw [J_toInt (by omega)]; omega) (by rw [J_toInt (by omega)]; omega) (by rw [J_toInt (by omega), h3]; rfl) (by decide) ?_
      refine jv_iconst C dX4_pointOf_127 ?_
      refine lv_istore (lv' := [(4, .int (J 0)), (3, .int (J 0)), (0, .ref qq), (1, .int (J ((p1.toNat : Nat) : Int))), (2, .int (J w))]) C.1 C.2.1 dX4_pointOf_128 hl (by decide) rfl (fun ls hl => ?_)
      rw [show rpPointOf p1 w ((Px, Py, Mt, pn), (kn, fl, Hu, hn, A1, A2, A3, mn), (hd, sd, B1, B2, B3, hh, fp), (Or, Ro, Ne, rn), Mr) = (((cn (fun k => decide (S2.2.1.2.2.1 k = p1.toNat)) S2.2.1.2.2.2.1 0 : Nat) : Int), ((S2.1.1, S2.1.2.1, S2.1.2.2.1, S2.1.2.2.2), (S2.2.1.1, S2.2.1.2.1, S2.2.1.2.2.1, S2.2.1.2.2.2.1, S2.2.1.2.2.2.2.1, S2.2.1.2.2.2.2.2.1, S2.2.1.2.2.2.2.2.2.1, S2.2.1.2.2.2.2.2.2.2), (S2.2.2.1.1, S2.2.2.1.2.1, S2.2.2.1.2.2.1, S2.2.2.1.2.2.2.1, S2.2.2.1.2.2.2.2.1, S2.2.2.1.2.2.2.2.2.1, S2.2.2.1.2.2.2.2.2.2), (S2.2.2.2.1.1, S2.2.2.2.1.2.1, S2.2.2.2.1.2.2.1, S2.2.2.2.1.2.2.2), S2.2.2.2.2)) from by unfold rpPointOf; rw [if_neg (by (try dsimp only); first | assumption | exact bt_nf (by assumption) | exact bf_nt (by assumption) | exact of_decide_eq_true (by assumption) | exact of_decide_eq_false (by assumption) | omega), if_neg (by (try dsimp only); first | assumption | exact bt_nf (by assumption) | exact bf_nt (by assumption) | exact of_decide_eq_true (by assumption) | exact of_decide_eq_false (by assumption) | omega), if_neg (by (try dsimp only); first | assumption | exact bt_nf (by assumption) | exact bf_nt (by assumption) | exact of_decide_eq_true (by assumption) | exact of_decide_eq_false (by assumption) | omega), if_neg (by (try dsimp only); first | assumption | exact bt_nf (by assumption) | exact bf_nt (by assumption) | exact of_decide_eq_true (by assumption) | exact of_decide_eq_false (by assumption) | omega), if_pos (by (try dsimp only); first | assumption | exact bt_nf (by assumption) | exact bf_nt (by assumption) | exact of_decide_eq_true (by assumption) | exact of_decide_eq_false (by assumption) | omega), hS2]]
      exact lp_X4_pointOf_130 (Px := S2.1.1) (Py := S2.1.2.1) (Mt := S2.1.2.2.1) (pn := S2.1.2.2.2) (kn := S2.2.1.1) (fl := S2.2.1.2.1) (Hu := S2.2.1.2.2.1) (hn := S2.2.1.2.2.2.1) (A1 := S2.2.1.2.2.2.2.1) (A2 := S2.2.1.2.2.2.2.2.1) (A3 := S2.2.1.2.2.2.2.2.2.1) (mn := S2.2.1.2.2.2.2.2.2.2) (hd := S2.2.2.1.1) (sd := S2.2.2.1.2.1) (B1 := S2.2.2.1.2.2.1) (B2 := S2.2.2.1.2.2.2.1) (B3 := S2.2.2.1.2.2.2.2.1) (hh := S2.2.2.1.2.2.2.2.2.1) (fp := S2.2.2.1.2.2.2.2.2.2) (Or := S2.2.2.2.1.1) (Ro := S2.2.2.2.1.2.1) (Ne := S2.2.2.2.1.2.2.1) (rn := S2.2.2.2.1.2.2.2) (Mr := S2.2.2.2.2) C hlk hr hK hRS2 (by omega) (S2.2.1.2.2.2.1 + 1) 0 0 (by omega) (by omega) (by omega) _ (by omega) _ _ hP hD hS ls (lv_sub hl [2, 3, 4, 1, 0] rfl)
    · refine lv_tableOut (tgt := 166) C.1 C.2.1 dX4_pointOf_21 (by rw [J_toInt (by omega)]; omega) (by decide) ?_
      refine lv_aload_n C.1 C.2.1 dX4_pointOf_166 rfl (lv_at hl 1 rfl) ?_
      refine jv_bipush C dX4_pointOf_167 rfl ?_
      refine jv_waV (ni := 1) (ci := 4) (q0 := 0) (wc := (wRS cI cZ qq r0 rx ry rt rh ra rb rc sa sb sc so sr sw ((S2.1.1, S2.1.2.1, S2.1.2.2.1, S2.1.2.2.2), (S2.2.1.1, S2.2.1.2.1, S2.2.1.2.2.1, S2.2.1.2.2.2.1, S2.2.1.2.2.2.2.1, S2.2.1.2.2.2.2.2.1, S2.2.1.2.2.2.2.2.2.1, S2.2.1.2.2.2.2.2.2.2), (S2.2.2.1.1, S2.2.2.1.2.1, S2.2.2.1.2.2.1, S2.2.2.1.2.2.2.1, S2.2.2.1.2.2.2.2.1, S2.2.2.1.2.2.2.2.2.1, S2.2.2.1.2.2.2.2.2.2), (S2.2.2.2.1.1, S2.2.2.2.1.2.1, S2.2.2.2.1.2.2.1, S2.2.2.2.1.2.2.2), S2.2.2.2.2))) (wd := (wRS cI cZ qq r0 rx ry rt rh ra rb rc sa sb sc so sr sw (rRef (-2) ((S2.1.1, S2.1.2.1, S2.1.2.2.1, S2.1.2.2.2), (S2.2.1.1, S2.2.1.2.1, S2.2.1.2.2.1, S2.2.1.2.2.2.1, S2.2.1.2.2.2.2.1, S2.2.1.2.2.2.2.2.1, S2.2.1.2.2.2.2.2.2.1, S2.2.1.2.2.2.2.2.2.2), (S2.2.2.1.1, S2.2.2.1.2.1, S2.2.2.1.2.2.1, S2.2.2.1.2.2.2.1, S2.2.2.1.2.2.2.2.1, S2.2.2.1.2.2.2.2.2.1, S2.2.2.1.2.2.2.2.2.2), (S2.2.2.2.1.1, S2.2.2.2.1.2.1, S2.2.2.2.1.2.2.1, S2.2.2.2.1.2.2.2), S2.2.2.2.2)))) C [.int (J (-2))] [] (c_X4_refuseFar (Px := S2.1.1) (Py := S2.1.2.1) (Mt := S2.1.2.2.1) (pn := S2.1.2.2.2) (kn := S2.2.1.1) (fl := S2.2.1.2.1) (Hu := S2.2.1.2.2.1) (hn := S2.2.1.2.2.2.1) (A1 := S2.2.1.2.2.2.2.1) (A2 := S2.2.1.2.2.2.2.2.1) (A3 := S2.2.1.2.2.2.2.2.2.1) (mn := S2.2.1.2.2.2.2.2.2.2) (hd := S2.2.2.1.1) (sd := S2.2.2.1.2.1) (B1 := S2.2.2.1.2.2.1) (B2 := S2.2.2.1.2.2.2.1) (B3 := S2.2.2.1.2.2.2.2.1) (hh := S2.2.2.1.2.2.2.2.2.1) (fp := S2.2.2.1.2.2.2.2.2.2) (Or := S2.2.2.2.1.1) (Ro := S2.2.2.2.1.2.1) (Ne := S2.2.2.2.1.2.2.1) (rn := S2.2.2.2.1.2.2.2) (Mr := S2.2.2.2.2) hRS2 (z := (-2)) (by omega)) gv_X4_99 (by decide +kernel) (by decide) hK hP hD hS rfl rfl rfl rfl hl.1 (by simp [Value.category]) dX4_pointOf_169 (by decide) (fun H locs hP hD hS => ?_) rfl
      have hbn := rRef_b (z := (-2)) hRS2
      generalize hS6 : rRef (-2) ((S2.1.1, S2.1.2.1, S2.1.2.2.1, S2.1.2.2.2), (S2.2.1.1, S2.2.1.2.1, S2.2.1.2.2.1, S2.2.1.2.2.2.1, S2.2.1.2.2.2.2.1, S2.2.1.2.2.2.2.2.1, S2.2.1.2.2.2.2.2.2.1, S2.2.1.2.2.2.2.2.2.2), (S2.2.2.1.1, S2.2.2.1.2.1, S2.2.2.1.2.2.1, S2.2.2.1.2.2.2.1, S2.2.2.1.2.2.2.2.1, S2.2.2.1.2.2.2.2.2.1, S2.2.2.1.2.2.2.2.2.2), (S2.2.2.2.1.1, S2.2.2.2.1.2.1, S2.2.2.2.1.2.2.1, S2.2.2.2.1.2.2.2), S2.2.2.2.2) = S6 at hP hD hbn
      have hP : va_P D vwCl [(qq, .inr (4, [.ref r0, .ref rx, .ref ry, .ref rt, .int (J ((S6.1.2.2.2 : Nat) : Int)), .int (J (b2i (S6.2.1.1))), .int (J (b2i (S6.2.1.2.1))), .ref rh, .ref ra, .ref rb, .ref rc, .int (J ((S6.2.1.2.2.2.1 : Nat) : Int)), .int (J ((S6.2.1.2.2.2.2.2.2.2 : Nat) : Int)), .int (J (b2i (S6.2.2.1.1))), .int (J (b2i (S6.2.2.1.2.1))), .ref sa, .ref sb, .ref sc, .int (J ((S6.2.2.1.2.2.2.2.2.1 : Nat) : Int)), .int (J ((S6.2.2.1.2.2.2.2.2.2 : Nat) : Int)), .ref so, .ref sr, .ref sw, .int (J ((S6.2.2.2.1.2.2.2 : Nat) : Int))])), (r0, .inl (cI, 7, .inl (fun z9 => J ((S6.2.2.2.2 z9 : Nat) : Int)))), (rx, .inl (cI, 40, .inl (fun z9 => J (S6.1.1 z9)))), (ry, .inl (cI, 40, .inl (fun z9 => J (S6.1.2.1 z9)))), (rt, .inl (cZ, 40, .inl (fun z9 => J (b2i (S6.1.2.2.1 z9))))), (rh, .inl (cI, 41, .inl (fun z9 => J ((S6.2.1.2.2.1 z9 : Nat) : Int)))), (ra, .inl (cI, 120, .inl (fun z9 => J ((S6.2.1.2.2.2.2.1 z9 : Nat) : Int)))), (rb, .inl (cI, 120, .inl (fun z9 => J ((S6.2.1.2.2.2.2.2.1 z9 : Nat) : Int)))), (rc, .inl (cI, 120, .inl (fun z9 => J ((S6.2.1.2.2.2.2.2.2.1 z9 : Nat) : Int)))), (sa, .inl (cI, 120, .inl (fun z9 => J ((S6.2.2.1.2.2.1 z9 : Nat) : Int)))), (sb, .inl (cI, 120, .inl (fun z9 => J ((S6.2.2.1.2.2.2.1 z9 : Nat) : Int)))), (sc, .inl (cI, 120, .inl (fun z9 => J ((S6.2.2.1.2.2.2.2.1 z9 : Nat) : Int)))), (so, .inl (cI, 40, .inl (fun z9 => J ((S6.2.2.2.1.1 z9 : Nat) : Int)))), (sr, .inl (cI, 80, .inl (fun z9 => J ((S6.2.2.2.1.2.1 z9 : Nat) : Int)))), (sw, .inl (cI, 80, .inl (fun z9 => J ((S6.2.2.2.1.2.2.1 z9 : Nat) : Int))))] H := hP
      have hD : va_D _ [(qq, .inr (4, [.ref r0, .ref rx, .ref ry, .ref rt, .int (J ((S6.1.2.2.2 : Nat) : Int)), .int (J (b2i (S6.2.1.1))), .int (J (b2i (S6.2.1.2.1))), .ref rh, .ref ra, .ref rb, .ref rc, .int (J ((S6.2.1.2.2.2.1 : Nat) : Int)), .int (J ((S6.2.1.2.2.2.2.2.2.2 : Nat) : Int)), .int (J (b2i (S6.2.2.1.1))), .int (J (b2i (S6.2.2.1.2.1))), .ref sa, .ref sb, .ref sc, .int (J ((S6.2.2.1.2.2.2.2.2.1 : Nat) : Int)), .int (J ((S6.2.2.1.2.2.2.2.2.2 : Nat) : Int)), .ref so, .ref sr, .ref sw, .int (J ((S6.2.2.2.1.2.2.2 : Nat) : Int))])), (r0, .inl (cI, 7, .inl (fun z9 => J ((S6.2.2.2.2 z9 : Nat) : Int)))), (rx, .inl (cI, 40, .inl (fun z9 => J (S6.1.1 z9)))), (ry, .inl (cI, 40, .inl (fun z9 => J (S6.1.2.1 z9)))), (rt, .inl (cZ, 40, .inl (fun z9 => J (b2i (S6.1.2.2.1 z9))))), (rh, .inl (cI, 41, .inl (fun z9 => J ((S6.2.1.2.2.1 z9 : Nat) : Int)))), (ra, .inl (cI, 120, .inl (fun z9 => J ((S6.2.1.2.2.2.2.1 z9 : Nat) : Int)))), (rb, .inl (cI, 120, .inl (fun z9 => J ((S6.2.1.2.2.2.2.2.1 z9 : Nat) : Int)))), (rc, .inl (cI, 120, .inl (fun z9 => J ((S6.2.1.2.2.2.2.2.2.1 z9 : Nat) : Int)))), (sa, .inl (cI, 120, .inl (fun z9 => J ((S6.2.2.1.2.2.1 z9 : Nat) : Int)))), (sb, .inl (cI, 120, .inl (fun z9 => J ((S6.2.2.1.2.2.2.1 z9 : Nat) : Int)))), (sc, .inl (cI, 120, .inl (fun z9 => J ((S6.2.2.1.2.2.2.2.1 z9 : Nat) : Int)))), (so, .inl (cI, 40, .inl (fun z9 => J ((S6.2.2.2.1.1 z9 : Nat) : Int)))), (sr, .inl (cI, 80, .inl (fun z9 => J ((S6.2.2.2.1.2.1 z9 : Nat) : Int)))), (sw, .inl (cI, 80, .inl (fun z9 => J ((S6.2.2.2.1.2.2.1 z9 : Nat) : Int))))] := hD
      show W _ _ _ _ _ _ _ _ _ _ _ _ _ _ _ (F0 m 172 ls [.int (J (1000000000 - (-2)))])
      have hRS6 : RI ((S6.1.1, S6.1.2.1, S6.1.2.2.1, S6.1.2.2.2), (S6.2.1.1, S6.2.1.2.1, S6.2.1.2.2.1, S6.2.1.2.2.2.1, S6.2.1.2.2.2.2.1, S6.2.1.2.2.2.2.2.1, S6.2.1.2.2.2.2.2.2.1, S6.2.1.2.2.2.2.2.2.2), (S6.2.2.1.1, S6.2.2.1.2.1, S6.2.2.1.2.2.1, S6.2.2.1.2.2.2.1, S6.2.2.1.2.2.2.2.1, S6.2.2.1.2.2.2.2.2.1, S6.2.2.1.2.2.2.2.2.2), (S6.2.2.2.1.1, S6.2.2.2.1.2.1, S6.2.2.2.1.2.2.1, S6.2.2.2.1.2.2.2), S6.2.2.2.2) := hbn
      have hX : ∀ i, -10000 ≤ S6.1.1 i ∧ S6.1.1 i ≤ 10000 := hRS6.1
      have hY : ∀ i, -10000 ≤ S6.1.2.1 i ∧ S6.1.2.1 i ≤ 10000 := hRS6.2.1
      have hpn : S6.1.2.2.2 ≤ 40 := hRS6.2.2.1
      have hHu : ∀ i, S6.2.1.2.2.1 i < 40 := hRS6.2.2.2.1
      have hhn : S6.2.1.2.2.2.1 ≤ 41 := hRS6.2.2.2.2.1
      have hA1 : ∀ i, S6.2.1.2.2.2.2.1 i < 40 := hRS6.2.2.2.2.2.1
      have hA2 : ∀ i, S6.2.1.2.2.2.2.2.1 i < 40 := hRS6.2.2.2.2.2.2.1
      have hA3 : ∀ i, S6.2.1.2.2.2.2.2.2.1 i < 40 := hRS6.2.2.2.2.2.2.2.1
      have hmn : S6.2.1.2.2.2.2.2.2.2 ≤ 120 := hRS6.2.2.2.2.2.2.2.2.1
      have hB1 : ∀ i, S6.2.2.1.2.2.1 i < 40 := hRS6.2.2.2.2.2.2.2.2.2.1
      have hB2 : ∀ i, S6.2.2.1.2.2.2.1 i < 40 := hRS6.2.2.2.2.2.2.2.2.2.2.1
      have hB3 : ∀ i, S6.2.2.1.2.2.2.2.1 i < 40 := hRS6.2.2.2.2.2.2.2.2.2.2.2.1
      have hhh : S6.2.2.1.2.2.2.2.2.1 ≤ 120 := hRS6.2.2.2.2.2.2.2.2.2.2.2.2.1
      have hOr : ∀ i, S6.2.2.2.1.1 i < 40 := hRS6.2.2.2.2.2.2.2.2.2.2.2.2.2.1
      have hRo : ∀ i, S6.2.2.2.1.2.1 i < 40 := hRS6.2.2.2.2.2.2.2.2.2.2.2.2.2.2.1
      have hNe : ∀ i, S6.2.2.2.1.2.2.1 i < 40 := hRS6.2.2.2.2.2.2.2.2.2.2.2.2.2.2.2.1
      have hrn : S6.2.2.2.1.2.2.2 ≤ 80 := hRS6.2.2.2.2.2.2.2.2.2.2.2.2.2.2.2.2
      exact jw_iret C hlk hr dX4_pointOf_172 (by rw [show rpPointOf p1 w ((Px, Py, Mt, pn), (kn, fl, Hu, hn, A1, A2, A3, mn), (hd, sd, B1, B2, B3, hh, fp), (Or, Ro, Ne, rn), Mr) = (1000000000 - (-2), ((S6.1.1, S6.1.2.1, S6.1.2.2.1, S6.1.2.2.2), (S6.2.1.1, S6.2.1.2.1, S6.2.1.2.2.1, S6.2.1.2.2.2.1, S6.2.1.2.2.2.2.1, S6.2.1.2.2.2.2.2.1, S6.2.1.2.2.2.2.2.2.1, S6.2.1.2.2.2.2.2.2.2), (S6.2.2.1.1, S6.2.2.1.2.1, S6.2.2.1.2.2.1, S6.2.2.1.2.2.2.1, S6.2.2.1.2.2.2.2.1, S6.2.2.1.2.2.2.2.2.1, S6.2.2.1.2.2.2.2.2.2), (S6.2.2.2.1.1, S6.2.2.2.1.2.1, S6.2.2.2.1.2.2.1, S6.2.2.2.1.2.2.2), S6.2.2.2.2)) from by unfold rpPointOf; rw [if_neg (by (try dsimp only); first | assumption | exact bt_nf (by assumption) | exact bf_nt (by assumption) | exact of_decide_eq_true (by assumption) | exact of_decide_eq_false (by assumption) | omega), if_neg (by (try dsimp only); first | assumption | exact bt_nf (by assumption) | exact bf_nt (by assumption) | exact of_decide_eq_true (by assumption) | exact of_decide_eq_false (by assumption) | omega), if_neg (by (try dsimp only); first | assumption | exact bt_nf (by assumption) | exact bf_nt (by assumption) | exact of_decide_eq_true (by assumption) | exact of_decide_eq_false (by assumption) | omega), if_neg (by (try dsimp only); first | assumption | exact bt_nf (by assumption) | exact bf_nt (by assumption) | exact of_decide_eq_true (by assumption) | exact of_decide_eq_false (by assumption) | omega), if_neg (by (try dsimp only); first | assumption | exact bt_nf (by assumption) | exact bf_nt (by assumption) | exact of_decide_eq_true (by assumption) | exact of_decide_eq_false (by assumption) | omega), hS2, ← hS6]]) (by rw [show rpPointOf p1 w ((Px, Py, Mt, pn), (kn, fl, Hu, hn, A1, A2, A3, mn), (hd, sd, B1, B2, B3, hh, fp), (Or, Ro, Ne, rn), Mr) = (1000000000 - (-2), ((S6.1.1, S6.1.2.1, S6.1.2.2.1, S6.1.2.2.2), (S6.2.1.1, S6.2.1.2.1, S6.2.1.2.2.1, S6.2.1.2.2.2.1, S6.2.1.2.2.2.2.1, S6.2.1.2.2.2.2.2.1, S6.2.1.2.2.2.2.2.2.1, S6.2.1.2.2.2.2.2.2.2), (S6.2.2.1.1, S6.2.2.1.2.1, S6.2.2.1.2.2.1, S6.2.2.1.2.2.2.1, S6.2.2.1.2.2.2.2.1, S6.2.2.1.2.2.2.2.2.1, S6.2.2.1.2.2.2.2.2.2), (S6.2.2.2.1.1, S6.2.2.2.1.2.1, S6.2.2.2.1.2.2.1, S6.2.2.2.1.2.2.2), S6.2.2.2.2)) from by unfold rpPointOf; rw [if_neg (by (try dsimp only); first | assumption | exact bt_nf (by assumption) | exact bf_nt (by assumption) | exact of_decide_eq_true (by assumption) | exact of_decide_eq_false (by assumption) | omega), if_neg (by (try dsimp only); first | assumption | exact bt_nf (by assumption) | exact bf_nt (by assumption) | exact of_decide_eq_true (by assumption) | exact of_decide_eq_false (by assumption) | omega), if_neg (by (try dsimp only); first | assumption | exact bt_nf (by assumption) | exact bf_nt (by assumption) | exact of_decide_eq_true (by assumption) | exact of_decide_eq_false (by assumption) | omega), if_neg (by (try dsimp only); first | assumption | exact bt_nf (by assumption) | exact bf_nt (by assumption) | exact of_decide_eq_true (by assumption) | exact of_decide_eq_false (by assumption) | omega), if_neg (by (try dsimp only); first | assumption | exact bt_nf (by assumption) | exact bf_nt (by assumption) | exact of_decide_eq_true (by assumption) | exact of_decide_eq_false (by assumption) | omega), hS2, ← hS6]]; exact hP) hS
  · refine lv_aload_n C.1 C.2.1 dX4_pointOf_8 rfl (lv_at hl 0 rfl) ?_
    refine jv_iconst C dX4_pointOf_9 ?_
    refine jv_waV (ni := 1) (ci := 4) (q0 := 0) (wc := (wRS cI cZ qq r0 rx ry rt rh ra rb rc sa sb sc so sr sw ((Px, Py, Mt, pn), (kn, fl, Hu, hn, A1, A2, A3, mn), (hd, sd, B1, B2, B3, hh, fp), (Or, Ro, Ne, rn), Mr))) (wd := (wRS cI cZ qq r0 rx ry rt rh ra rb rc sa sb sc so sr sw (rRef (-1) ((Px, Py, Mt, pn), (kn, fl, Hu, hn, A1, A2, A3, mn), (hd, sd, B1, B2, B3, hh, fp), (Or, Ro, Ne, rn), Mr)))) C [.int (J (-1))] [] (c_X4_refuseFar (Px := Px) (Py := Py) (Mt := Mt) (pn := pn) (kn := kn) (fl := fl) (Hu := Hu) (hn := hn) (A1 := A1) (A2 := A2) (A3 := A3) (mn := mn) (hd := hd) (sd := sd) (B1 := B1) (B2 := B2) (B3 := B3) (hh := hh) (fp := fp) (Or := Or) (Ro := Ro) (Ne := Ne) (rn := rn) (Mr := Mr) hRI (z := (-1)) (by omega)) gv_X4_99 (by decide +kernel) (by decide) hK hP hD hS rfl rfl rfl rfl hl.1 (by simp [Value.category]) dX4_pointOf_10 (by decide) (fun H locs hP hD hS => ?_) rfl
    have hbn := rRef_b (z := (-1)) hRI
    generalize hS7 : rRef (-1) ((Px, Py, Mt, pn), (kn, fl, Hu, hn, A1, A2, A3, mn), (hd, sd, B1, B2, B3, hh, fp), (Or, Ro, Ne, rn), Mr) = S7 at hP hD hbn
    have hP : va_P D vwCl [(qq, .inr (4, [.ref r0, .ref rx, .ref ry, .ref rt, .int (J ((S7.1.2.2.2 : Nat) : Int)), .int (J (b2i (S7.2.1.1))), .int (J (b2i (S7.2.1.2.1))), .ref rh, .ref ra, .ref rb, .ref rc, .int (J ((S7.2.1.2.2.2.1 : Nat) : Int)), .int (J ((S7.2.1.2.2.2.2.2.2.2 : Nat) : Int)), .int (J (b2i (S7.2.2.1.1))), .int (J (b2i (S7.2.2.1.2.1))), .ref sa, .ref sb, .ref sc, .int (J ((S7.2.2.1.2.2.2.2.2.1 : Nat) : Int)), .int (J ((S7.2.2.1.2.2.2.2.2.2 : Nat) : Int)), .ref so, .ref sr, .ref sw, .int (J ((S7.2.2.2.1.2.2.2 : Nat) : Int))])), (r0, .inl (cI, 7, .inl (fun z9 => J ((S7.2.2.2.2 z9 : Nat) : Int)))), (rx, .inl (cI, 40, .inl (fun z9 => J (S7.1.1 z9)))), (ry, .inl (cI, 40, .inl (fun z9 => J (S7.1.2.1 z9)))), (rt, .inl (cZ, 40, .inl (fun z9 => J (b2i (S7.1.2.2.1 z9))))), (rh, .inl (cI, 41, .inl (fun z9 => J ((S7.2.1.2.2.1 z9 : Nat) : Int)))), (ra, .inl (cI, 120, .inl (fun z9 => J ((S7.2.1.2.2.2.2.1 z9 : Nat) : Int)))), (rb, .inl (cI, 120, .inl (fun z9 => J ((S7.2.1.2.2.2.2.2.1 z9 : Nat) : Int)))), (rc, .inl (cI, 120, .inl (fun z9 => J ((S7.2.1.2.2.2.2.2.2.1 z9 : Nat) : Int)))), (sa, .inl (cI, 120, .inl (fun z9 => J ((S7.2.2.1.2.2.1 z9 : Nat) : Int)))), (sb, .inl (cI, 120, .inl (fun z9 => J ((S7.2.2.1.2.2.2.1 z9 : Nat) : Int)))), (sc, .inl (cI, 120, .inl (fun z9 => J ((S7.2.2.1.2.2.2.2.1 z9 : Nat) : Int)))), (so, .inl (cI, 40, .inl (fun z9 => J ((S7.2.2.2.1.1 z9 : Nat) : Int)))), (sr, .inl (cI, 80, .inl (fun z9 => J ((S7.2.2.2.1.2.1 z9 : Nat) : Int)))), (sw, .inl (cI, 80, .inl (fun z9 => J ((S7.2.2.2.1.2.2.1 z9 : Nat) : Int))))] H := hP
    have hD : va_D _ [(qq, .inr (4, [.ref r0, .ref rx, .ref ry, .ref rt, .int (J ((S7.1.2.2.2 : Nat) : Int)), .int (J (b2i (S7.2.1.1))), .int (J (b2i (S7.2.1.2.1))), .ref rh, .ref ra, .ref rb, .ref rc, .int (J ((S7.2.1.2.2.2.1 : Nat) : Int)), .int (J ((S7.2.1.2.2.2.2.2.2.2 : Nat) : Int)), .int (J (b2i (S7.2.2.1.1))), .int (J (b2i (S7.2.2.1.2.1))), .ref sa, .ref sb, .ref sc, .int (J ((S7.2.2.1.2.2.2.2.2.1 : Nat) : Int)), .int (J ((S7.2.2.1.2.2.2.2.2.2 : Nat) : Int)), .ref so, .ref sr, .ref sw, .int (J ((S7.2.2.2.1.2.2.2 : Nat) : Int))])), (r0, .inl (cI, 7, .inl (fun z9 => J ((S7.2.2.2.2 z9 : Nat) : Int)))), (rx, .inl (cI, 40, .inl (fun z9 => J (S7.1.1 z9)))), (ry, .inl (cI, 40, .inl (fun z9 => J (S7.1.2.1 z9)))), (rt, .inl (cZ, 40, .inl (fun z9 => J (b2i (S7.1.2.2.1 z9))))), (rh, .inl (cI, 41, .inl (fun z9 => J ((S7.2.1.2.2.1 z9 : Nat) : Int)))), (ra, .inl (cI, 120, .inl (fun z9 => J ((S7.2.1.2.2.2.2.1 z9 : Nat) : Int)))), (rb, .inl (cI, 120, .inl (fun z9 => J ((S7.2.1.2.2.2.2.2.1 z9 : Nat) : Int)))), (rc, .inl (cI, 120, .inl (fun z9 => J ((S7.2.1.2.2.2.2.2.2.1 z9 : Nat) : Int)))), (sa, .inl (cI, 120, .inl (fun z9 => J ((S7.2.2.1.2.2.1 z9 : Nat) : Int)))), (sb, .inl (cI, 120, .inl (fun z9 => J ((S7.2.2.1.2.2.2.1 z9 : Nat) : Int)))), (sc, .inl (cI, 120, .inl (fun z9 => J ((S7.2.2.1.2.2.2.2.1 z9 : Nat) : Int)))), (so, .inl (cI, 40, .inl (fun z9 => J ((S7.2.2.2.1.1 z9 : Nat) : Int)))), (sr, .inl (cI, 80, .inl (fun z9 => J ((S7.2.2.2.1.2.1 z9 : Nat) : Int)))), (sw, .inl (cI, 80, .inl (fun z9 => J ((S7.2.2.2.1.2.2.1 z9 : Nat) : Int))))] := hD
    show W _ _ _ _ _ _ _ _ _ _ _ _ _ _ _ (F0 m 13 ls [.int (J (1000000000 - (-1)))])
    have hRS7 : RI ((S7.1.1, S7.1.2.1, S7.1.2.2.1, S7.1.2.2.2), (S7.2.1.1, S7.2.1.2.1, S7.2.1.2.2.1, S7.2.1.2.2.2.1, S7.2.1.2.2.2.2.1, S7.2.1.2.2.2.2.2.1, S7.2.1.2.2.2.2.2.2.1, S7.2.1.2.2.2.2.2.2.2), (S7.2.2.1.1, S7.2.2.1.2.1, S7.2.2.1.2.2.1, S7.2.2.1.2.2.2.1, S7.2.2.1.2.2.2.2.1, S7.2.2.1.2.2.2.2.2.1, S7.2.2.1.2.2.2.2.2.2), (S7.2.2.2.1.1, S7.2.2.2.1.2.1, S7.2.2.2.1.2.2.1, S7.2.2.2.1.2.2.2), S7.2.2.2.2) := hbn
    have hX : ∀ i, -10000 ≤ S7.1.1 i ∧ S7.1.1 i ≤ 10000 := hRS7.1
    have hY : ∀ i, -10000 ≤ S7.1.2.1 i ∧ S7.1.2.1 i ≤ 10000 := hRS7.2.1
    have hpn : S7.1.2.2.2 ≤ 40 := hRS7.2.2.1
    have hHu : ∀ i, S7.2.1.2.2.1 i < 40 := hRS7.2.2.2.1
    have hhn : S7.2.1.2.2.2.1 ≤ 41 := hRS7.2.2.2.2.1
    have hA1 : ∀ i, S7.2.1.2.2.2.2.1 i < 40 := hRS7.2.2.2.2.2.1
    have hA2 : ∀ i, S7.2.1.2.2.2.2.2.1 i < 40 := hRS7.2.2.2.2.2.2.1
    have hA3 : ∀ i, S7.2.1.2.2.2.2.2.2.1 i < 40 := hRS7.2.2.2.2.2.2.2.1
    have hmn : S7.2.1.2.2.2.2.2.2.2 ≤ 120 := hRS7.2.2.2.2.2.2.2.2.1
    have hB1 : ∀ i, S7.2.2.1.2.2.1 i < 40 := hRS7.2.2.2.2.2.2.2.2.2.1
    have hB2 : ∀ i, S7.2.2.1.2.2.2.1 i < 40 := hRS7.2.2.2.2.2.2.2.2.2.2.1
    have hB3 : ∀ i, S7.2.2.1.2.2.2.2.1 i < 40 := hRS7.2.2.2.2.2.2.2.2.2.2.2.1
    have hhh : S7.2.2.1.2.2.2.2.2.1 ≤ 120 := hRS7.2.2.2.2.2.2.2.2.2.2.2.2.1
    have hOr : ∀ i, S7.2.2.2.1.1 i < 40 := hRS7.2.2.2.2.2.2.2.2.2.2.2.2.2.1
    have hRo : ∀ i, S7.2.2.2.1.2.1 i < 40 := hRS7.2.2.2.2.2.2.2.2.2.2.2.2.2.2.1
    have hNe : ∀ i, S7.2.2.2.1.2.2.1 i < 40 := hRS7.2.2.2.2.2.2.2.2.2.2.2.2.2.2.2.1
    have hrn : S7.2.2.2.1.2.2.2 ≤ 80 := hRS7.2.2.2.2.2.2.2.2.2.2.2.2.2.2.2.2
    exact jw_iret C hlk hr dX4_pointOf_13 (by rw [show rpPointOf p1 w ((Px, Py, Mt, pn), (kn, fl, Hu, hn, A1, A2, A3, mn), (hd, sd, B1, B2, B3, hh, fp), (Or, Ro, Ne, rn), Mr) = (1000000000 - (-1), ((S7.1.1, S7.1.2.1, S7.1.2.2.1, S7.1.2.2.2), (S7.2.1.1, S7.2.1.2.1, S7.2.1.2.2.1, S7.2.1.2.2.2.1, S7.2.1.2.2.2.2.1, S7.2.1.2.2.2.2.2.1, S7.2.1.2.2.2.2.2.2.1, S7.2.1.2.2.2.2.2.2.2), (S7.2.2.1.1, S7.2.2.1.2.1, S7.2.2.1.2.2.1, S7.2.2.1.2.2.2.1, S7.2.2.1.2.2.2.2.1, S7.2.2.1.2.2.2.2.2.1, S7.2.2.1.2.2.2.2.2.2), (S7.2.2.2.1.1, S7.2.2.2.1.2.1, S7.2.2.2.1.2.2.1, S7.2.2.2.1.2.2.2), S7.2.2.2.2)) from (if_pos (by (try dsimp only); first | assumption | exact bt_nf (by assumption) | exact bf_nt (by assumption) | exact of_decide_eq_true (by assumption) | exact of_decide_eq_false (by assumption) | omega)).trans (by rw [← hS7])]) (by rw [show rpPointOf p1 w ((Px, Py, Mt, pn), (kn, fl, Hu, hn, A1, A2, A3, mn), (hd, sd, B1, B2, B3, hh, fp), (Or, Ro, Ne, rn), Mr) = (1000000000 - (-1), ((S7.1.1, S7.1.2.1, S7.1.2.2.1, S7.1.2.2.2), (S7.2.1.1, S7.2.1.2.1, S7.2.1.2.2.1, S7.2.1.2.2.2.1, S7.2.1.2.2.2.2.1, S7.2.1.2.2.2.2.2.1, S7.2.1.2.2.2.2.2.2.1, S7.2.1.2.2.2.2.2.2.2), (S7.2.2.1.1, S7.2.2.1.2.1, S7.2.2.1.2.2.1, S7.2.2.1.2.2.2.1, S7.2.2.1.2.2.2.2.1, S7.2.2.1.2.2.2.2.2.1, S7.2.2.1.2.2.2.2.2.2), (S7.2.2.2.1.1, S7.2.2.2.1.2.1, S7.2.2.2.1.2.2.1, S7.2.2.2.1.2.2.2), S7.2.2.2.2)) from (if_pos (by (try dsimp only); first | assumption | exact bt_nf (by assumption) | exact bf_nt (by assumption) | exact of_decide_eq_true (by assumption) | exact of_decide_eq_false (by assumption) | omega)).trans (by rw [← hS7])]; exact hP) hS
set_option maxRecDepth 20000 in
theorem lp_X4_area_8 {p : Program} {e : Env} {s : State} {m : MethodId} {args : Array Value} {below : List Frame} {meth : Method} {c : Code} {WC : va_W}  (C : CallFix p m c cX4_area 6 s args TB RX4) (hlk : meth.locks = false) (hr : meth.sig.returnType = (some .long)) (hK : va_K D vwCl (tyz cI cZ) s) (hRI : RI ((Px, Py, Mt, pn), (kn, fl, Hu, hn, A1, A2, A3, mn), (hd, sd, B1, B2, B3, hh, fp), (Or, Ro, Ne, rn), Mr))  :
    ∀ (n : Nat) (i : Nat) (q : Int), hn < i + n → i ≤ hn → ∀ (rv : Int), rv = q + arR Px Py Hu hn i → ∀ (H : Heap) (locs : List Loc), va_P D vwCl [(qq, .inr (4, [.ref r0, .ref rx, .ref ry, .ref rt, .int (J ((pn : Nat) : Int)), .int (J (b2i (kn))), .int (J (b2i (fl))), .ref rh, .ref ra, .ref rb, .ref rc, .int (J ((hn : Nat) : Int)), .int (J ((mn : Nat) : Int)), .int (J (b2i (hd))), .int (J (b2i (sd))), .ref sa, .ref sb, .ref sc, .int (J ((hh : Nat) : Int)), .int (J ((fp : Nat) : Int)), .ref so, .ref sr, .ref sw, .int (J ((rn : Nat) : Int))])), (r0, .inl (cI, 7, .inl (fun z9 => J ((Mr z9 : Nat) : Int)))), (rx, .inl (cI, 40, .inl (fun z9 => J (Px z9)))), (ry, .inl (cI, 40, .inl (fun z9 => J (Py z9)))), (rt, .inl (cZ, 40, .inl (fun z9 => J (b2i (Mt z9))))), (rh, .inl (cI, 41, .inl (fun z9 => J ((Hu z9 : Nat) : Int)))), (ra, .inl (cI, 120, .inl (fun z9 => J ((A1 z9 : Nat) : Int)))), (rb, .inl (cI, 120, .inl (fun z9 => J ((A2 z9 : Nat) : Int)))), (rc, .inl (cI, 120, .inl (fun z9 => J ((A3 z9 : Nat) : Int)))), (sa, .inl (cI, 120, .inl (fun z9 => J ((B1 z9 : Nat) : Int)))), (sb, .inl (cI, 120, .inl (fun z9 => J ((B2 z9 : Nat) : Int)))), (sc, .inl (cI, 120, .inl (fun z9 => J ((B3 z9 : Nat) : Int)))), (so, .inl (cI, 40, .inl (fun z9 => J ((Or z9 : Nat) : Int)))), (sr, .inl (cI, 80, .inl (fun z9 => J ((Ro z9 : Nat) : Int)))), (sw, .inl (cI, 80, .inl (fun z9 => J ((Ne z9 : Nat) : Int))))] H → va_D (inW WC) [(qq, .inr (4, [.ref r0, .ref rx, .ref ry, .ref rt, .int (J ((pn : Nat) : Int)), .int (J (b2i (kn))), .int (J (b2i (fl))), .ref rh, .ref ra, .ref rb, .ref rc, .int (J ((hn : Nat) : Int)), .int (J ((mn : Nat) : Int)), .int (J (b2i (hd))), .int (J (b2i (sd))), .ref sa, .ref sb, .ref sc, .int (J ((hh : Nat) : Int)), .int (J ((fp : Nat) : Int)), .ref so, .ref sr, .ref sw, .int (J ((rn : Nat) : Int))])), (r0, .inl (cI, 7, .inl (fun z9 => J ((Mr z9 : Nat) : Int)))), (rx, .inl (cI, 40, .inl (fun z9 => J (Px z9)))), (ry, .inl (cI, 40, .inl (fun z9 => J (Py z9)))), (rt, .inl (cZ, 40, .inl (fun z9 => J (b2i (Mt z9))))), (rh, .inl (cI, 41, .inl (fun z9 => J ((Hu z9 : Nat) : Int)))), (ra, .inl (cI, 120, .inl (fun z9 => J ((A1 z9 : Nat) : Int)))), (rb, .inl (cI, 120, .inl (fun z9 => J ((A2 z9 : Nat) : Int)))), (rc, .inl (cI, 120, .inl (fun z9 => J ((A3 z9 : Nat) : Int)))), (sa, .inl (cI, 120, .inl (fun z9 => J ((B1 z9 : Nat) : Int)))), (sb, .inl (cI, 120, .inl (fun z9 => J ((B2 z9 : Nat) : Int)))), (sc, .inl (cI, 120, .inl (fun z9 => J ((B3 z9 : Nat) : Int)))), (so, .inl (cI, 40, .inl (fun z9 => J ((Or z9 : Nat) : Int)))), (sr, .inl (cI, 80, .inl (fun z9 => J ((Ro z9 : Nat) : Int)))), (sw, .inl (cI, 80, .inl (fun z9 => J ((Ne z9 : Nat) : Int))))] → va_S (inW WC) s.heap H locs → ∀ ls : Array Slot, lv_has ls 6 [(0, .ref qq), (1, .long (Lg (q))), (3, .int (J ((i : Nat) : Int)))] → W p l e { frames := 6, cells := 0, slots := 0, locals := 137 } s m args below meth c H locs 0 0 (MQ below (QW D WC (wRS cI cZ qq r0 rx ry rt rh ra rb rc sa sb sc so sr sw ((Px, Py, Mt, pn), (kn, fl, Hu, hn, A1, A2, A3, mn), (hd, sd, B1, B2, B3, hh, fp), (Or, Ro, Ne, rn), Mr)) (some (.long (Lg (rv))))) args s 0 0 (inW WC)) (F0 m 8 ls []) := by
  have hX : ∀ i, -10000 ≤ Px i ∧ Px i ≤ 10000 := hRI.1
  have hY : ∀ i, -10000 ≤ Py i ∧ Py i ≤ 10000 := hRI.2.1
  have hpn : pn ≤ 40 := hRI.2.2.1
  have hHu : ∀ i, Hu i < 40 := hRI.2.2.2.1
  have hhn : hn ≤ 41 := hRI.2.2.2.2.1
  have hA1 : ∀ i, A1 i < 40 := hRI.2.2.2.2.2.1
  have hA2 : ∀ i, A2 i < 40 := hRI.2.2.2.2.2.2.1
  have hA3 : ∀ i, A3 i < 40 := hRI.2.2.2.2.2.2.2.1
  have hmn : mn ≤ 120 := hRI.2.2.2.2.2.2.2.2.1
  have hB1 : ∀ i, B1 i < 40 := hRI.2.2.2.2.2.2.2.2.2.1
  have hB2 : ∀ i, B2 i < 40 := hRI.2.2.2.2.2.2.2.2.2.2.1
  have hB3 : ∀ i, B3 i < 40 := hRI.2.2.2.2.2.2.2.2.2.2.2.1
  have hhh : hh ≤ 120 := hRI.2.2.2.2.2.2.2.2.2.2.2.2.1
  have hOr : ∀ i, Or i < 40 := hRI.2.2.2.2.2.2.2.2.2.2.2.2.2.1
  have hRo : ∀ i, Ro i < 40 := hRI.2.2.2.2.2.2.2.2.2.2.2.2.2.2.1
  have hNe : ∀ i, Ne i < 40 := hRI.2.2.2.2.2.2.2.2.2.2.2.2.2.2.2.1
  have hrn : rn ≤ 80 := hRI.2.2.2.2.2.2.2.2.2.2.2.2.2.2.2.2
  intro n
  induction n with
  | zero => intro i q hi0 hi1; omega
  | succ n ih =>
    intro i q hi0 hi1 rv hrv H locs hP hD hS ls hl
    refine lv_iload_n C.1 C.2.1 dX4_area_8 rfl (lv_at hl 2 rfl) ?_
    refine lv_aload_n C.1 C.2.1 dX4_area_9 rfl (lv_at hl 0 rfl) ?_
    refine jv_get C fw_X4_121 hK hP 0 rfl rfl dX4_area_10 ?_
    refine jv_icmp_ge (tgt := 83) C dX4_area_13 (by decide) (by omega) (fun h1 => ?_) (fun h1 => ?_)
    · refine lv_lload_n C.1 C.2.1 dX4_area_83 rfl (lv_at hl 1 rfl) ?_
      exact jw_lret C hlk hr dX4_area_84 (by rw [hrv, arR_end (by omega)]; omega) (hP) hS
    · refine lv_aload_n C.1 C.2.1 dX4_area_16 rfl (lv_at hl 0 rfl) ?_
      refine jv_get C fw_X4_23 hK hP 0 rfl rfl dX4_area_17 ?_
      refine lv_iload_n C.1 C.2.1 dX4_area_20 rfl (lv_at hl 2 rfl) ?_
      refine jv_iald C hK hP 5 0 rfl rfl (i) (by omega) (by omega) (by decide) dX4_area_21 ?_
      have f2 := hHu i
      refine lv_istore (lv' := [(4, .int (J ((Hu i : Nat) : Int))), (0, .ref qq), (1, .long (Lg (q))), (3, .int (J ((i : Nat) : Int)))]) C.1 C.2.1 dX4_area_22 hl (by decide) rfl (fun ls hl => ?_)
      refine lv_aload_n C.1 C.2.1 dX4_area_24 rfl (lv_at hl 1 rfl) ?_
      refine jv_get C fw_X4_23 hK hP 0 rfl rfl dX4_area_25 ?_
      refine lv_iload_n C.1 C.2.1 dX4_area_28 rfl (lv_at hl 3 rfl) ?_
      refine jv_iconst C dX4_area_29 ?_
      refine jv_iadd (z := ((i + 1 : Nat) : Int)) C dX4_area_30 (by omega) ?_
      refine lv_aload_n C.1 C.2.1 dX4_area_31 rfl (lv_at hl 1 rfl) ?_
      refine jv_get C fw_X4_121 hK hP 0 rfl rfl dX4_area_32 ?_
      refine jv_irem (a := i + 1) (b := hn) C dX4_area_35 (by omega) (by omega) (by omega) ?_
      have hmd := Nat.mod_lt (i + 1) (show 0 < hn by omega)
      refine jv_iald C hK hP 5 0 rfl rfl ((i + 1) % hn) (by omega) (by omega) (by decide) dX4_area_36 ?_
      have f3 := hHu ((i + 1) % hn)
      refine lv_istore (lv' := [(5, .int (J ((Hu ((i + 1) % hn) : Nat) : Int))), (4, .int (J ((Hu i : Nat) : Int))), (0, .ref qq), (1, .long (Lg (q))), (3, .int (J ((i : Nat) : Int)))]) C.1 C.2.1 dX4_area_37 hl (by decide) rfl (fun ls hl => ?_)
      refine lv_lload_n C.1 C.2.1 dX4_area_39 rfl (lv_at hl 3 rfl) ?_
      refine lv_aload_n C.1 C.2.1 dX4_area_40 rfl (lv_at hl 2 rfl) ?_
      refine jv_get C fw_X4_13 hK hP 0 rfl rfl dX4_area_41 ?_
      refine lv_iload C.1 C.2.1 dX4_area_44 (lv_at hl 1 rfl) ?_
      refine jv_iald C hK hP 2 0 rfl rfl (Hu i) (by omega) (by omega) (by decide) dX4_area_46 ?_
      have f4 := hX (Hu i)
      refine jv_i2l C dX4_area_47 (by omega) ?_
      refine lv_aload_n C.1 C.2.1 dX4_area_48 rfl (lv_at hl 2 rfl) ?_
      refine jv_get C fw_X4_16 hK hP 0 rfl rfl dX4_area_49 ?_
      refine lv_iload C.1 C.2.1 dX4_area_52 (lv_at hl 0 rfl) ?_
      refine jv_iald C hK hP 3 0 rfl rfl (Hu ((i + 1) % hn)) (by omega) (by omega) (by decide) dX4_area_54 ?_
      have f5 := hY (Hu ((i + 1) % hn))
      refine jv_i2l C dX4_area_55 (by omega) ?_
      refine jv_lmul (z := (Px (Hu i)) * (Py (Hu ((i + 1) % hn)))) C dX4_area_56 (rfl) ?_
      refine lv_aload_n C.1 C.2.1 dX4_area_57 rfl (lv_at hl 2 rfl) ?_
      refine jv_get C fw_X4_13 hK hP 0 rfl rfl dX4_area_58 ?_
      refine lv_iload C.1 C.2.1 dX4_area_61 (lv_at hl 0 rfl) ?_
      refine jv_iald C hK hP 2 0 rfl rfl (Hu ((i + 1) % hn)) (by omega) (by omega) (by decide) dX4_area_63 ?_
      have f6 := hX (Hu ((i + 1) % hn))
      refine jv_i2l C dX4_area_64 (by omega) ?_
      refine lv_aload_n C.1 C.2.1 dX4_area_65 rfl (lv_at hl 2 rfl) ?_
      refine jv_get C fw_X4_16 hK hP 0 rfl rfl dX4_area_66 ?_
      refine lv_iload C.1 C.2.1 dX4_area_69 (lv_at hl 1 rfl) ?_
      refine jv_iald C hK hP 3 0 rfl rfl (Hu i) (by omega) (by omega) (by decide) dX4_area_71 ?_
      have f7 := hY (Hu i)
      refine jv_i2l C dX4_area_72 (by omega) ?_
      refine jv_lmul (z := (Px (Hu ((i + 1) % hn))) * (Py (Hu i))) C dX4_area_73 (rfl) ?_
      refine jv_lsub (z := ((Px (Hu i)) * (Py (Hu ((i + 1) % hn)))) - ((Px (Hu ((i + 1) % hn))) * (Py (Hu i)))) C dX4_area_74 (rfl) ?_
      refine jv_ladd (z := q + (((Px (Hu i)) * (Py (Hu ((i + 1) % hn)))) - ((Px (Hu ((i + 1) % hn))) * (Py (Hu i))))) C dX4_area_75 (rfl) ?_
      refine lv_lstore_n (lv' := [(1, .long (Lg (q + (((Px (Hu i)) * (Py (Hu ((i + 1) % hn)))) - ((Px (Hu ((i + 1) % hn))) * (Py (Hu i))))))), (5, .int (J ((Hu ((i + 1) % hn) : Nat) : Int))), (4, .int (J ((Hu i : Nat) : Int))), (0, .ref qq), (3, .int (J ((i : Nat) : Int)))]) C.1 C.2.1 dX4_area_76 rfl hl (by decide) rfl (fun ls hl => ?_)
      refine lv_iinc (v := J (((i + 1 : Nat) : Int))) (lv' := [(3, .int (J ((i + 1 : Nat) : Int))), (1, .long (Lg (q + (((Px (Hu i)) * (Py (Hu ((i + 1) % hn)))) - ((Px (Hu ((i + 1) % hn))) * (Py (Hu i))))))), (5, .int (J ((Hu ((i + 1) % hn) : Nat) : Int))), (4, .int (J ((Hu i : Nat) : Int))), (0, .ref qq)]) C.1 C.2.1 dX4_area_77 hl (k := 4) rfl (by rw [show Int32.ofInt 1 = J 1 from rfl, J_add]; exact congrArg J (by omega)) (by decide) rfl (fun ls hl => ?_)
      refine lv_goto (tgt := 8) C.1 C.2.1 dX4_area_80 (by decide) ?_
      exact ih (i + 1) (q + arT Px Py Hu hn i) (by omega) (by omega) rv (by rw [hrv, arR_go (by omega)]; omega) H locs hP hD hS ls (lv_sub hl [4, 1, 0] rfl)
set_option maxRecDepth 20000 in
set_option maxHeartbeats 4000000 in
theorem c_X4_area  (hRI : RI ((Px, Py, Mt, pn), (kn, fl, Hu, hn, A1, A2, A3, mn), (hd, sd, B1, B2, B3, hh, fp), (Or, Ro, Ne, rn), Mr)) (hko : knOk ((Px, Py, Mt, pn), (kn, fl, Hu, hn, A1, A2, A3, mn), (hd, sd, B1, B2, B3, hh, fp), (Or, Ro, Ne, rn), Mr)) : cW l yX4_area cX4_area 6 (some .long) 6 137 D (tyz cI cZ) [.ref qq] (wRS cI cZ qq r0 rx ry rt rh ra rb rc sa sb sc so sr sw ((Px, Py, Mt, pn), (kn, fl, Hu, hn, A1, A2, A3, mn), (hd, sd, B1, B2, B3, hh, fp), (Or, Ro, Ne, rn), Mr)) (wRS cI cZ qq r0 rx ry rt rh ra rb rc sa sb sc so sr sw ((rpArea ((Px, Py, Mt, pn), (kn, fl, Hu, hn, A1, A2, A3, mn), (hd, sd, B1, B2, B3, hh, fp), (Or, Ro, Ne, rn), Mr)).2)) (some (.long (Lg (rpArea ((Px, Py, Mt, pn), (kn, fl, Hu, hn, A1, A2, A3, mn), (hd, sd, B1, B2, B3, hh, fp), (Or, Ro, Ne, rn), Mr)).1))) := by
  refine cW_of (owner := RX4) rfl (by decide) (Nat.le_of_ble_eq_true rfl) ?_
  intro p e s m args below meth c ls C hlk hr hK hP hD hS hl
  have hl : lv_has ls 6 [(0, .ref qq)] := hl
  have hP : va_P D vwCl [(qq, .inr (4, [.ref r0, .ref rx, .ref ry, .ref rt, .int (J ((pn : Nat) : Int)), .int (J (b2i (kn))), .int (J (b2i (fl))), .ref rh, .ref ra, .ref rb, .ref rc, .int (J ((hn : Nat) : Int)), .int (J ((mn : Nat) : Int)), .int (J (b2i (hd))), .int (J (b2i (sd))), .ref sa, .ref sb, .ref sc, .int (J ((hh : Nat) : Int)), .int (J ((fp : Nat) : Int)), .ref so, .ref sr, .ref sw, .int (J ((rn : Nat) : Int))])), (r0, .inl (cI, 7, .inl (fun z9 => J ((Mr z9 : Nat) : Int)))), (rx, .inl (cI, 40, .inl (fun z9 => J (Px z9)))), (ry, .inl (cI, 40, .inl (fun z9 => J (Py z9)))), (rt, .inl (cZ, 40, .inl (fun z9 => J (b2i (Mt z9))))), (rh, .inl (cI, 41, .inl (fun z9 => J ((Hu z9 : Nat) : Int)))), (ra, .inl (cI, 120, .inl (fun z9 => J ((A1 z9 : Nat) : Int)))), (rb, .inl (cI, 120, .inl (fun z9 => J ((A2 z9 : Nat) : Int)))), (rc, .inl (cI, 120, .inl (fun z9 => J ((A3 z9 : Nat) : Int)))), (sa, .inl (cI, 120, .inl (fun z9 => J ((B1 z9 : Nat) : Int)))), (sb, .inl (cI, 120, .inl (fun z9 => J ((B2 z9 : Nat) : Int)))), (sc, .inl (cI, 120, .inl (fun z9 => J ((B3 z9 : Nat) : Int)))), (so, .inl (cI, 40, .inl (fun z9 => J ((Or z9 : Nat) : Int)))), (sr, .inl (cI, 80, .inl (fun z9 => J ((Ro z9 : Nat) : Int)))), (sw, .inl (cI, 80, .inl (fun z9 => J ((Ne z9 : Nat) : Int))))] s.heap := hP
  have hD : va_D _ [(qq, .inr (4, [.ref r0, .ref rx, .ref ry, .ref rt, .int (J ((pn : Nat) : Int)), .int (J (b2i (kn))), .int (J (b2i (fl))), .ref rh, .ref ra, .ref rb, .ref rc, .int (J ((hn : Nat) : Int)), .int (J ((mn : Nat) : Int)), .int (J (b2i (hd))), .int (J (b2i (sd))), .ref sa, .ref sb, .ref sc, .int (J ((hh : Nat) : Int)), .int (J ((fp : Nat) : Int)), .ref so, .ref sr, .ref sw, .int (J ((rn : Nat) : Int))])), (r0, .inl (cI, 7, .inl (fun z9 => J ((Mr z9 : Nat) : Int)))), (rx, .inl (cI, 40, .inl (fun z9 => J (Px z9)))), (ry, .inl (cI, 40, .inl (fun z9 => J (Py z9)))), (rt, .inl (cZ, 40, .inl (fun z9 => J (b2i (Mt z9))))), (rh, .inl (cI, 41, .inl (fun z9 => J ((Hu z9 : Nat) : Int)))), (ra, .inl (cI, 120, .inl (fun z9 => J ((A1 z9 : Nat) : Int)))), (rb, .inl (cI, 120, .inl (fun z9 => J ((A2 z9 : Nat) : Int)))), (rc, .inl (cI, 120, .inl (fun z9 => J ((A3 z9 : Nat) : Int)))), (sa, .inl (cI, 120, .inl (fun z9 => J ((B1 z9 : Nat) : Int)))), (sb, .inl (cI, 120, .inl (fun z9 => J ((B2 z9 : Nat) : Int)))), (sc, .inl (cI, 120, .inl (fun z9 => J ((B3 z9 : Nat) : Int)))), (so, .inl (cI, 40, .inl (fun z9 => J ((Or z9 : Nat) : Int)))), (sr, .inl (cI, 80, .inl (fun z9 => J ((Ro z9 : Nat) : Int)))), (sw, .inl (cI, 80, .inl (fun z9 => J ((Ne z9 : Nat) : Int))))] := hD
  have hX : ∀ i, -10000 ≤ Px i ∧ Px i ≤ 10000 := hRI.1
  have hY : ∀ i, -10000 ≤ Py i ∧ Py i ≤ 10000 := hRI.2.1
  have hpn : pn ≤ 40 := hRI.2.2.1
  have hHu : ∀ i, Hu i < 40 := hRI.2.2.2.1
  have hhn : hn ≤ 41 := hRI.2.2.2.2.1
  have hA1 : ∀ i, A1 i < 40 := hRI.2.2.2.2.2.1
  have hA2 : ∀ i, A2 i < 40 := hRI.2.2.2.2.2.2.1
  have hA3 : ∀ i, A3 i < 40 := hRI.2.2.2.2.2.2.2.1
  have hmn : mn ≤ 120 := hRI.2.2.2.2.2.2.2.2.1
  have hB1 : ∀ i, B1 i < 40 := hRI.2.2.2.2.2.2.2.2.2.1
  have hB2 : ∀ i, B2 i < 40 := hRI.2.2.2.2.2.2.2.2.2.2.1
  have hB3 : ∀ i, B3 i < 40 := hRI.2.2.2.2.2.2.2.2.2.2.2.1
  have hhh : hh ≤ 120 := hRI.2.2.2.2.2.2.2.2.2.2.2.2.1
  have hOr : ∀ i, Or i < 40 := hRI.2.2.2.2.2.2.2.2.2.2.2.2.2.1
  have hRo : ∀ i, Ro i < 40 := hRI.2.2.2.2.2.2.2.2.2.2.2.2.2.2.1
  have hNe : ∀ i, Ne i < 40 := hRI.2.2.2.2.2.2.2.2.2.2.2.2.2.2.2.1
  have hrn : rn ≤ 80 := hRI.2.2.2.2.2.2.2.2.2.2.2.2.2.2.2.2
  refine lv_aload_n C.1 C.2.1 dX4_area_0 rfl (lv_at hl 0 rfl) ?_
  refine jv_waV (ni := 0) (ci := 4) (q0 := 0) (wc := (wRS cI cZ qq r0 rx ry rt rh ra rb rc sa sb sc so sr sw ((Px, Py, Mt, pn), (kn, fl, Hu, hn, A1, A2, A3, mn), (hd, sd, B1, B2, B3, hh, fp), (Or, Ro, Ne, rn), Mr))) (wd := (wRS cI cZ qq r0 rx ry rt rh ra rb rc sa sb sc so sr sw (rKnow ((Px, Py, Mt, pn), (kn, fl, Hu, hn, A1, A2, A3, mn), (hd, sd, B1, B2, B3, hh, fp), (Or, Ro, Ne, rn), Mr)))) C [] [] (c_X4_know (Px := Px) (Py := Py) (Mt := Mt) (pn := pn) (kn := kn) (fl := fl) (Hu := Hu) (hn := hn) (A1 := A1) (A2 := A2) (A3 := A3) (mn := mn) (hd := hd) (sd := sd) (B1 := B1) (B2 := B2) (B3 := B3) (hh := hh) (fp := fp) (Or := Or) (Ro := Ro) (Ne := Ne) (rn := rn) (Mr := Mr) hRI hko) gv_X4_147 (by decide +kernel) (by decide) hK hP hD hS rfl rfl rfl rfl hl.1 (by simp [Value.category]) dX4_area_1 (by decide) (fun H locs hP hD hS => ?_) rfl
  have hbn := rKnow_b hRI hko
  generalize hS1 : rKnow ((Px, Py, Mt, pn), (kn, fl, Hu, hn, A1, A2, A3, mn), (hd, sd, B1, B2, B3, hh, fp), (Or, Ro, Ne, rn), Mr) = S1 at hP hD hbn
  have hP : va_P D vwCl [(qq, .inr (4, [.ref r0, .ref rx, .ref ry, .ref rt, .int (J ((S1.1.2.2.2 : Nat) : Int)), .int (J (b2i (S1.2.1.1))), .int (J (b2i (S1.2.1.2.1))), .ref rh, .ref ra, .ref rb, .ref rc, .int (J ((S1.2.1.2.2.2.1 : Nat) : Int)), .int (J ((S1.2.1.2.2.2.2.2.2.2 : Nat) : Int)), .int (J (b2i (S1.2.2.1.1))), .int (J (b2i (S1.2.2.1.2.1))), .ref sa, .ref sb, .ref sc, .int (J ((S1.2.2.1.2.2.2.2.2.1 : Nat) : Int)), .int (J ((S1.2.2.1.2.2.2.2.2.2 : Nat) : Int)), .ref so, .ref sr, .ref sw, .int (J ((S1.2.2.2.1.2.2.2 : Nat) : Int))])), (r0, .inl (cI, 7, .inl (fun z9 => J ((S1.2.2.2.2 z9 : Nat) : Int)))), (rx, .inl (cI, 40, .inl (fun z9 => J (S1.1.1 z9)))), (ry, .inl (cI, 40, .inl (fun z9 => J (S1.1.2.1 z9)))), (rt, .inl (cZ, 40, .inl (fun z9 => J (b2i (S1.1.2.2.1 z9))))), (rh, .inl (cI, 41, .inl (fun z9 => J ((S1.2.1.2.2.1 z9 : Nat) : Int)))), (ra, .inl (cI, 120, .inl (fun z9 => J ((S1.2.1.2.2.2.2.1 z9 : Nat) : Int)))), (rb, .inl (cI, 120, .inl (fun z9 => J ((S1.2.1.2.2.2.2.2.1 z9 : Nat) : Int)))), (rc, .inl (cI, 120, .inl (fun z9 => J ((S1.2.1.2.2.2.2.2.2.1 z9 : Nat) : Int)))), (sa, .inl (cI, 120, .inl (fun z9 => J ((S1.2.2.1.2.2.1 z9 : Nat) : Int)))), (sb, .inl (cI, 120, .inl (fun z9 => J ((S1.2.2.1.2.2.2.1 z9 : Nat) : Int)))), (sc, .inl (cI, 120, .inl (fun z9 => J ((S1.2.2.1.2.2.2.2.1 z9 : Nat) : Int)))), (so, .inl (cI, 40, .inl (fun z9 => J ((S1.2.2.2.1.1 z9 : Nat) : Int)))), (sr, .inl (cI, 80, .inl (fun z9 => J ((S1.2.2.2.1.2.1 z9 : Nat) : Int)))), (sw, .inl (cI, 80, .inl (fun z9 => J ((S1.2.2.2.1.2.2.1 z9 : Nat) : Int))))] H := hP
  have hD : va_D _ [(qq, .inr (4, [.ref r0, .ref rx, .ref ry, .ref rt, .int (J ((S1.1.2.2.2 : Nat) : Int)), .int (J (b2i (S1.2.1.1))), .int (J (b2i (S1.2.1.2.1))), .ref rh, .ref ra, .ref rb, .ref rc, .int (J ((S1.2.1.2.2.2.1 : Nat) : Int)), .int (J ((S1.2.1.2.2.2.2.2.2.2 : Nat) : Int)), .int (J (b2i (S1.2.2.1.1))), .int (J (b2i (S1.2.2.1.2.1))), .ref sa, .ref sb, .ref sc, .int (J ((S1.2.2.1.2.2.2.2.2.1 : Nat) : Int)), .int (J ((S1.2.2.1.2.2.2.2.2.2 : Nat) : Int)), .ref so, .ref sr, .ref sw, .int (J ((S1.2.2.2.1.2.2.2 : Nat) : Int))])), (r0, .inl (cI, 7, .inl (fun z9 => J ((S1.2.2.2.2 z9 : Nat) : Int)))), (rx, .inl (cI, 40, .inl (fun z9 => J (S1.1.1 z9)))), (ry, .inl (cI, 40, .inl (fun z9 => J (S1.1.2.1 z9)))), (rt, .inl (cZ, 40, .inl (fun z9 => J (b2i (S1.1.2.2.1 z9))))), (rh, .inl (cI, 41, .inl (fun z9 => J ((S1.2.1.2.2.1 z9 : Nat) : Int)))), (ra, .inl (cI, 120, .inl (fun z9 => J ((S1.2.1.2.2.2.2.1 z9 : Nat) : Int)))), (rb, .inl (cI, 120, .inl (fun z9 => J ((S1.2.1.2.2.2.2.2.1 z9 : Nat) : Int)))), (rc, .inl (cI, 120, .inl (fun z9 => J ((S1.2.1.2.2.2.2.2.2.1 z9 : Nat) : Int)))), (sa, .inl (cI, 120, .inl (fun z9 => J ((S1.2.2.1.2.2.1 z9 : Nat) : Int)))), (sb, .inl (cI, 120, .inl (fun z9 => J ((S1.2.2.1.2.2.2.1 z9 : Nat) : Int)))), (sc, .inl (cI, 120, .inl (fun z9 => J ((S1.2.2.1.2.2.2.2.1 z9 : Nat) : Int)))), (so, .inl (cI, 40, .inl (fun z9 => J ((S1.2.2.2.1.1 z9 : Nat) : Int)))), (sr, .inl (cI, 80, .inl (fun z9 => J ((S1.2.2.2.1.2.1 z9 : Nat) : Int)))), (sw, .inl (cI, 80, .inl (fun z9 => J ((S1.2.2.2.1.2.2.1 z9 : Nat) : Int))))] := hD
  show W _ _ _ _ _ _ _ _ _ _ _ _ _ _ _ (F0 m 4 ls [])
  have hRS1 : RI ((S1.1.1, S1.1.2.1, S1.1.2.2.1, S1.1.2.2.2), (S1.2.1.1, S1.2.1.2.1, S1.2.1.2.2.1, S1.2.1.2.2.2.1, S1.2.1.2.2.2.2.1, S1.2.1.2.2.2.2.2.1, S1.2.1.2.2.2.2.2.2.1, S1.2.1.2.2.2.2.2.2.2), (S1.2.2.1.1, S1.2.2.1.2.1, S1.2.2.1.2.2.1, S1.2.2.1.2.2.2.1, S1.2.2.1.2.2.2.2.1, S1.2.2.1.2.2.2.2.2.1, S1.2.2.1.2.2.2.2.2.2), (S1.2.2.2.1.1, S1.2.2.2.1.2.1, S1.2.2.2.1.2.2.1, S1.2.2.2.1.2.2.2), S1.2.2.2.2) := hbn
  have hX : ∀ i, -10000 ≤ S1.1.1 i ∧ S1.1.1 i ≤ 10000 := hRS1.1
  have hY : ∀ i, -10000 ≤ S1.1.2.1 i ∧ S1.1.2.1 i ≤ 10000 := hRS1.2.1
  have hpn : S1.1.2.2.2 ≤ 40 := hRS1.2.2.1
  have hHu : ∀ i, S1.2.1.2.2.1 i < 40 := hRS1.2.2.2.1
  have hhn : S1.2.1.2.2.2.1 ≤ 41 := hRS1.2.2.2.2.1
  have hA1 : ∀ i, S1.2.1.2.2.2.2.1 i < 40 := hRS1.2.2.2.2.2.1
  have hA2 : ∀ i, S1.2.1.2.2.2.2.2.1 i < 40 := hRS1.2.2.2.2.2.2.1
  have hA3 : ∀ i, S1.2.1.2.2.2.2.2.2.1 i < 40 := hRS1.2.2.2.2.2.2.2.1
  have hmn : S1.2.1.2.2.2.2.2.2.2 ≤ 120 := hRS1.2.2.2.2.2.2.2.2.1
  have hB1 : ∀ i, S1.2.2.1.2.2.1 i < 40 := hRS1.2.2.2.2.2.2.2.2.2.1
  have hB2 : ∀ i, S1.2.2.1.2.2.2.1 i < 40 := hRS1.2.2.2.2.2.2.2.2.2.2.1
  have hB3 : ∀ i, S1.2.2.1.2.2.2.2.1 i < 40 := hRS1.2.2.2.2.2.2.2.2.2.2.2.1
  have hhh : S1.2.2.1.2.2.2.2.2.1 ≤ 120 := hRS1.2.2.2.2.2.2.2.2.2.2.2.2.1
  have hOr : ∀ i, S1.2.2.2.1.1 i < 40 := hRS1.2.2.2.2.2.2.2.2.2.2.2.2.2.1
  have hRo : ∀ i, S1.2.2.2.1.2.1 i < 40 := hRS1.2.2.2.2.2.2.2.2.2.2.2.2.2.2.1
  have hNe : ∀ i, S1.2.2.2.1.2.2.1 i < 40 := hRS1.2.2.2.2.2.2.2.2.2.2.2.2.2.2.2.1
  have hrn : S1.2.2.2.1.2.2.2 ≤ 80 := hRS1.2.2.2.2.2.2.2.2.2.2.2.2.2.2.2.2
  refine jv_lconst (z := 0) C dX4_area_4 rfl ?_
  refine lv_lstore_n (lv' := [(1, .long (Lg (0))), (0, .ref qq)]) C.1 C.2.1 dX4_area_5 rfl hl (by decide) rfl (fun ls hl => ?_)
  refine jv_iconst C dX4_area_6 ?_
  refine lv_istore_n (lv' := [(3, .int (J 0)), (1, .long (Lg (0))), (0, .ref qq)]) C.1 C.2.1 dX4_area_7 rfl hl (by decide) rfl (fun ls hl => ?_)
  rw [show rpArea ((Px, Py, Mt, pn), (kn, fl, Hu, hn, A1, A2, A3, mn), (hd, sd, B1, B2, B3, hh, fp), (Or, Ro, Ne, rn), Mr) = (arR S1.1.1 S1.1.2.1 S1.2.1.2.2.1 S1.2.1.2.2.2.1 0, ((S1.1.1, S1.1.2.1, S1.1.2.2.1, S1.1.2.2.2), (S1.2.1.1, S1.2.1.2.1, S1.2.1.2.2.1, S1.2.1.2.2.2.1, S1.2.1.2.2.2.2.1, S1.2.1.2.2.2.2.2.1, S1.2.1.2.2.2.2.2.2.1, S1.2.1.2.2.2.2.2.2.2), (S1.2.2.1.1, S1.2.2.1.2.1, S1.2.2.1.2.2.1, S1.2.2.1.2.2.2.1, S1.2.2.1.2.2.2.2.1, S1.2.2.1.2.2.2.2.2.1, S1.2.2.1.2.2.2.2.2.2), (S1.2.2.2.1.1, S1.2.2.2.1.2.1, S1.2.2.2.1.2.2.1, S1.2.2.2.1.2.2.2), S1.2.2.2.2)) from by unfold rpArea; rw [hS1]]
  exact lp_X4_area_8 (Px := S1.1.1) (Py := S1.1.2.1) (Mt := S1.1.2.2.1) (pn := S1.1.2.2.2) (kn := S1.2.1.1) (fl := S1.2.1.2.1) (Hu := S1.2.1.2.2.1) (hn := S1.2.1.2.2.2.1) (A1 := S1.2.1.2.2.2.2.1) (A2 := S1.2.1.2.2.2.2.2.1) (A3 := S1.2.1.2.2.2.2.2.2.1) (mn := S1.2.1.2.2.2.2.2.2.2) (hd := S1.2.2.1.1) (sd := S1.2.2.1.2.1) (B1 := S1.2.2.1.2.2.1) (B2 := S1.2.2.1.2.2.2.1) (B3 := S1.2.2.1.2.2.2.2.1) (hh := S1.2.2.1.2.2.2.2.2.1) (fp := S1.2.2.1.2.2.2.2.2.2) (Or := S1.2.2.2.1.1) (Ro := S1.2.2.2.1.2.1) (Ne := S1.2.2.2.1.2.2.1) (rn := S1.2.2.2.1.2.2.2) (Mr := S1.2.2.2.2) C hlk hr hK hRS1 (S1.2.1.2.2.2.1 + 1) 0 0 (by omega) (by omega) _ (by omega) _ _ hP hD hS ls (lv_sub hl [2, 1, 0] rfl)
set_option maxRecDepth 20000 in
theorem lp_X4_around_47 {p : Program} {e : Env} {s : State} {m : MethodId} {args : Array Value} {below : List Frame} {meth : Method} {c : Code} {WC : va_W} {a b : Nat} {z : Int} {rv : Int} (C : CallFix p m c cX4_around 6 s args TB RX4) (hlk : meth.locks = false) (hr : meth.sig.returnType = (some .int)) (hK : va_K D vwCl (tyz cI cZ) s) (hRI : RI ((Px, Py, Mt, pn), (kn, fl, Hu, hn, A1, A2, A3, mn), (hd, sd, B1, B2, B3, hh, fp), (Or, Ro, Ne, rn), Mr)) (ha : a < 40) (hb : b < pn) (hz : R3 z) (hab : b ≠ a) (hbt : Mt b = true) (hrv : rv = oI (-9) (ff (aoP Px Py Mt pn a z) pn b)) (KK : rv = oI (-9) (ff (aoP Px Py Mt pn a z) pn (b + 1)) → ∀ (H : Heap) (locs : List Loc), va_P D vwCl [(qq, .inr (4, [.ref r0, .ref rx, .ref ry, .ref rt, .int (J ((pn : Nat) : Int)), .int (J (b2i (kn))), .int (J (b2i (fl))), .ref rh, .ref ra, .ref rb, .ref rc, .int (J ((hn : Nat) : Int)), .int (J ((mn : Nat) : Int)), .int (J (b2i (hd))), .int (J (b2i (sd))), .ref sa, .ref sb, .ref sc, .int (J ((hh : Nat) : Int)), .int (J ((fp : Nat) : Int)), .ref so, .ref sr, .ref sw, .int (J ((rn : Nat) : Int))])), (r0, .inl (cI, 7, .inl (fun z9 => J ((Mr z9 : Nat) : Int)))), (rx, .inl (cI, 40, .inl (fun z9 => J (Px z9)))), (ry, .inl (cI, 40, .inl (fun z9 => J (Py z9)))), (rt, .inl (cZ, 40, .inl (fun z9 => J (b2i (Mt z9))))), (rh, .inl (cI, 41, .inl (fun z9 => J ((Hu z9 : Nat) : Int)))), (ra, .inl (cI, 120, .inl (fun z9 => J ((A1 z9 : Nat) : Int)))), (rb, .inl (cI, 120, .inl (fun z9 => J ((A2 z9 : Nat) : Int)))), (rc, .inl (cI, 120, .inl (fun z9 => J ((A3 z9 : Nat) : Int)))), (sa, .inl (cI, 120, .inl (fun z9 => J ((B1 z9 : Nat) : Int)))), (sb, .inl (cI, 120, .inl (fun z9 => J ((B2 z9 : Nat) : Int)))), (sc, .inl (cI, 120, .inl (fun z9 => J ((B3 z9 : Nat) : Int)))), (so, .inl (cI, 40, .inl (fun z9 => J ((Or z9 : Nat) : Int)))), (sr, .inl (cI, 80, .inl (fun z9 => J ((Ro z9 : Nat) : Int)))), (sw, .inl (cI, 80, .inl (fun z9 => J ((Ne z9 : Nat) : Int))))] H → va_D (inW WC) [(qq, .inr (4, [.ref r0, .ref rx, .ref ry, .ref rt, .int (J ((pn : Nat) : Int)), .int (J (b2i (kn))), .int (J (b2i (fl))), .ref rh, .ref ra, .ref rb, .ref rc, .int (J ((hn : Nat) : Int)), .int (J ((mn : Nat) : Int)), .int (J (b2i (hd))), .int (J (b2i (sd))), .ref sa, .ref sb, .ref sc, .int (J ((hh : Nat) : Int)), .int (J ((fp : Nat) : Int)), .ref so, .ref sr, .ref sw, .int (J ((rn : Nat) : Int))])), (r0, .inl (cI, 7, .inl (fun z9 => J ((Mr z9 : Nat) : Int)))), (rx, .inl (cI, 40, .inl (fun z9 => J (Px z9)))), (ry, .inl (cI, 40, .inl (fun z9 => J (Py z9)))), (rt, .inl (cZ, 40, .inl (fun z9 => J (b2i (Mt z9))))), (rh, .inl (cI, 41, .inl (fun z9 => J ((Hu z9 : Nat) : Int)))), (ra, .inl (cI, 120, .inl (fun z9 => J ((A1 z9 : Nat) : Int)))), (rb, .inl (cI, 120, .inl (fun z9 => J ((A2 z9 : Nat) : Int)))), (rc, .inl (cI, 120, .inl (fun z9 => J ((A3 z9 : Nat) : Int)))), (sa, .inl (cI, 120, .inl (fun z9 => J ((B1 z9 : Nat) : Int)))), (sb, .inl (cI, 120, .inl (fun z9 => J ((B2 z9 : Nat) : Int)))), (sc, .inl (cI, 120, .inl (fun z9 => J ((B3 z9 : Nat) : Int)))), (so, .inl (cI, 40, .inl (fun z9 => J ((Or z9 : Nat) : Int)))), (sr, .inl (cI, 80, .inl (fun z9 => J ((Ro z9 : Nat) : Int)))), (sw, .inl (cI, 80, .inl (fun z9 => J ((Ne z9 : Nat) : Int))))] → va_S (inW WC) s.heap H locs → ∀ ls : Array Slot, lv_has ls 6 [(0, .ref qq), (1, .int (J ((a : Nat) : Int))), (2, .int (J z)), (3, .int (J ((b + 1 : Nat) : Int)))] → W p l e { frames := 4, cells := 0, slots := 0, locals := 93 } s m args below meth c H locs 0 0 (MQ below (QW D WC (wRS cI cZ qq r0 rx ry rt rh ra rb rc sa sb sc so sr sw ((Px, Py, Mt, pn), (kn, fl, Hu, hn, A1, A2, A3, mn), (hd, sd, B1, B2, B3, hh, fp), (Or, Ro, Ne, rn), Mr)) (some (.int (J rv)))) args s 0 0 (inW WC)) (F0 m 16 ls [])) :
    ∀ (n : Nat) (i k : Nat), pn < i + n → i ≤ pn → k ≤ i → ∀ (cq : Nat), (cq = k + cn (abP Px Py Mt a b) pn i ∧ cq = cn (abP Px Py Mt a b) pn 0) → ∀ (H : Heap) (locs : List Loc), va_P D vwCl [(qq, .inr (4, [.ref r0, .ref rx, .ref ry, .ref rt, .int (J ((pn : Nat) : Int)), .int (J (b2i (kn))), .int (J (b2i (fl))), .ref rh, .ref ra, .ref rb, .ref rc, .int (J ((hn : Nat) : Int)), .int (J ((mn : Nat) : Int)), .int (J (b2i (hd))), .int (J (b2i (sd))), .ref sa, .ref sb, .ref sc, .int (J ((hh : Nat) : Int)), .int (J ((fp : Nat) : Int)), .ref so, .ref sr, .ref sw, .int (J ((rn : Nat) : Int))])), (r0, .inl (cI, 7, .inl (fun z9 => J ((Mr z9 : Nat) : Int)))), (rx, .inl (cI, 40, .inl (fun z9 => J (Px z9)))), (ry, .inl (cI, 40, .inl (fun z9 => J (Py z9)))), (rt, .inl (cZ, 40, .inl (fun z9 => J (b2i (Mt z9))))), (rh, .inl (cI, 41, .inl (fun z9 => J ((Hu z9 : Nat) : Int)))), (ra, .inl (cI, 120, .inl (fun z9 => J ((A1 z9 : Nat) : Int)))), (rb, .inl (cI, 120, .inl (fun z9 => J ((A2 z9 : Nat) : Int)))), (rc, .inl (cI, 120, .inl (fun z9 => J ((A3 z9 : Nat) : Int)))), (sa, .inl (cI, 120, .inl (fun z9 => J ((B1 z9 : Nat) : Int)))), (sb, .inl (cI, 120, .inl (fun z9 => J ((B2 z9 : Nat) : Int)))), (sc, .inl (cI, 120, .inl (fun z9 => J ((B3 z9 : Nat) : Int)))), (so, .inl (cI, 40, .inl (fun z9 => J ((Or z9 : Nat) : Int)))), (sr, .inl (cI, 80, .inl (fun z9 => J ((Ro z9 : Nat) : Int)))), (sw, .inl (cI, 80, .inl (fun z9 => J ((Ne z9 : Nat) : Int))))] H → va_D (inW WC) [(qq, .inr (4, [.ref r0, .ref rx, .ref ry, .ref rt, .int (J ((pn : Nat) : Int)), .int (J (b2i (kn))), .int (J (b2i (fl))), .ref rh, .ref ra, .ref rb, .ref rc, .int (J ((hn : Nat) : Int)), .int (J ((mn : Nat) : Int)), .int (J (b2i (hd))), .int (J (b2i (sd))), .ref sa, .ref sb, .ref sc, .int (J ((hh : Nat) : Int)), .int (J ((fp : Nat) : Int)), .ref so, .ref sr, .ref sw, .int (J ((rn : Nat) : Int))])), (r0, .inl (cI, 7, .inl (fun z9 => J ((Mr z9 : Nat) : Int)))), (rx, .inl (cI, 40, .inl (fun z9 => J (Px z9)))), (ry, .inl (cI, 40, .inl (fun z9 => J (Py z9)))), (rt, .inl (cZ, 40, .inl (fun z9 => J (b2i (Mt z9))))), (rh, .inl (cI, 41, .inl (fun z9 => J ((Hu z9 : Nat) : Int)))), (ra, .inl (cI, 120, .inl (fun z9 => J ((A1 z9 : Nat) : Int)))), (rb, .inl (cI, 120, .inl (fun z9 => J ((A2 z9 : Nat) : Int)))), (rc, .inl (cI, 120, .inl (fun z9 => J ((A3 z9 : Nat) : Int)))), (sa, .inl (cI, 120, .inl (fun z9 => J ((B1 z9 : Nat) : Int)))), (sb, .inl (cI, 120, .inl (fun z9 => J ((B2 z9 : Nat) : Int)))), (sc, .inl (cI, 120, .inl (fun z9 => J ((B3 z9 : Nat) : Int)))), (so, .inl (cI, 40, .inl (fun z9 => J ((Or z9 : Nat) : Int)))), (sr, .inl (cI, 80, .inl (fun z9 => J ((Ro z9 : Nat) : Int)))), (sw, .inl (cI, 80, .inl (fun z9 => J ((Ne z9 : Nat) : Int))))] → va_S (inW WC) s.heap H locs → ∀ ls : Array Slot, lv_has ls 6 [(0, .ref qq), (1, .int (J ((a : Nat) : Int))), (2, .int (J z)), (3, .int (J ((b : Nat) : Int))), (4, .int (J ((k : Nat) : Int))), (5, .int (J ((i : Nat) : Int)))] → W p l e { frames := 4, cells := 0, slots := 0, locals := 93 } s m args below meth c H locs 0 0 (MQ below (QW D WC (wRS cI cZ qq r0 rx ry rt rh ra rb rc sa sb sc so sr sw ((Px, Py, Mt, pn), (kn, fl, Hu, hn, A1, A2, A3, mn), (hd, sd, B1, B2, B3, hh, fp), (Or, Ro, Ne, rn), Mr)) (some (.int (J rv)))) args s 0 0 (inW WC)) (F0 m 47 ls []) := by
  have hX : ∀ i, -10000 ≤ Px i ∧ Px i ≤ 10000 := hRI.1
  have hY : ∀ i, -10000 ≤ Py i ∧ Py i ≤ 10000 := hRI.2.1
  have hpn : pn ≤ 40 := hRI.2.2.1
  have hHu : ∀ i, Hu i < 40 := hRI.2.2.2.1
  have hhn : hn ≤ 41 := hRI.2.2.2.2.1
  have hA1 : ∀ i, A1 i < 40 := hRI.2.2.2.2.2.1
  have hA2 : ∀ i, A2 i < 40 := hRI.2.2.2.2.2.2.1
  have hA3 : ∀ i, A3 i < 40 := hRI.2.2.2.2.2.2.2.1
  have hmn : mn ≤ 120 := hRI.2.2.2.2.2.2.2.2.1
  have hB1 : ∀ i, B1 i < 40 := hRI.2.2.2.2.2.2.2.2.2.1
  have hB2 : ∀ i, B2 i < 40 := hRI.2.2.2.2.2.2.2.2.2.2.1
  have hB3 : ∀ i, B3 i < 40 := hRI.2.2.2.2.2.2.2.2.2.2.2.1
  have hhh : hh ≤ 120 := hRI.2.2.2.2.2.2.2.2.2.2.2.2.1
  have hOr : ∀ i, Or i < 40 := hRI.2.2.2.2.2.2.2.2.2.2.2.2.2.1
  have hRo : ∀ i, Ro i < 40 := hRI.2.2.2.2.2.2.2.2.2.2.2.2.2.2.1
  have hNe : ∀ i, Ne i < 40 := hRI.2.2.2.2.2.2.2.2.2.2.2.2.2.2.2.1
  have hrn : rn ≤ 80 := hRI.2.2.2.2.2.2.2.2.2.2.2.2.2.2.2.2
  intro n
  induction n with
  | zero => intro i k hi0 hi1 hi2; omega
  | succ n ih =>
    intro i k hi0 hi1 hi2 cq hcq H locs hP hD hS ls hl
    refine lv_iload C.1 C.2.1 dX4_around_47 (lv_at hl 5 rfl) ?_
    refine lv_aload_n C.1 C.2.1 dX4_around_49 rfl (lv_at hl 0 rfl) ?_
    refine jv_get C fw_X4_58 hK hP 0 rfl rfl dX4_around_50 ?_
    refine jv_icmp_ge (tgt := 105) C dX4_around_53 (by decide) (by omega) (fun h1 => ?_) (fun h1 => ?_)
    · refine lv_iload C.1 C.2.1 dX4_around_105 (lv_at hl 4 rfl) ?_
      refine lv_iload_n C.1 C.2.1 dX4_around_107 rfl (lv_at hl 2 rfl) ?_
      refine jv_icmp_ne (tgt := 113) C dX4_around_108 (by decide) (by omega) (fun h2 => ?_) (fun h2 => ?_)
      · refine lv_iinc (v := J (((b + 1 : Nat) : Int))) (lv' := [(3, .int (J ((b + 1 : Nat) : Int))), (0, .ref qq), (1, .int (J ((a : Nat) : Int))), (2, .int (J z)), (4, .int (J ((k : Nat) : Int))), (5, .int (J ((i : Nat) : Int)))]) C.1 C.2.1 dX4_around_113 hl (k := 3) rfl (by rw [show Int32.ofInt 1 = J 1 from rfl, J_add]; exact congrArg J (by omega)) (by decide) rfl (fun ls hl => ?_)
        refine lv_goto (tgt := 16) C.1 C.2.1 dX4_around_116 (by decide) ?_
        exact KK (by rw [hrv, ff_go hb (by unfold aoP; rw [decide_eq_false (p := (cn (abP Px Py Mt a b) pn 0 : Int) = z) (by rw [← hcq.2, hcq.1, cn_end (by omega)]; omega), Bool.and_false, Bool.and_false])]) H locs hP hD hS ls (lv_sub hl [1, 2, 3, 0] rfl)
      · refine lv_iload_n C.1 C.2.1 dX4_around_111 rfl (lv_at hl 3 rfl) ?_
        exact jw_iret C hlk hr dX4_around_112 (by rw [hrv, ff_hit hb (by unfold aoP; rw [hbt, decide_eq_true hab, decide_eq_true (p := (cn (abP Px Py Mt a b) pn 0 : Int) = z) (by rw [← hcq.2, hcq.1, cn_end (by omega)]; omega)]; rfl)]; rfl) (hP) hS
    · refine lv_iload C.1 C.2.1 dX4_around_56 (lv_at hl 4 rfl) ?_
      refine lv_aload_n C.1 C.2.1 dX4_around_58 rfl (lv_at hl 0 rfl) ?_
      refine jv_get C fw_X4_19 hK hP 0 rfl rfl dX4_around_59 ?_
      refine lv_iload C.1 C.2.1 dX4_around_62 (lv_at hl 5 rfl) ?_
      refine jv_zald C hK hP 4 1 rfl rfl (i) (by omega) (by omega) (by decide) dX4_around_64 ?_
      refine jv_bif_eq (tgt := 95) C dX4_around_65 (by decide) (fun h3 => ?_) (fun h3 => ?_)
      · refine jv_iconst C dX4_around_95 ?_
        refine jv_iadd (z := ((k + 0 : Nat) : Int)) C dX4_around_96 (by omega) ?_
        refine lv_istore (lv' := [(4, .int (J ((k + 0 : Nat) : Int))), (0, .ref qq), (1, .int (J ((a : Nat) : Int))), (2, .int (J z)), (3, .int (J ((b : Nat) : Int))), (5, .int (J ((i : Nat) : Int)))]) C.1 C.2.1 dX4_around_97 hl (by decide) rfl (fun ls hl => ?_)
        refine lv_iinc (v := J (((i + 1 : Nat) : Int))) (lv' := [(5, .int (J ((i + 1 : Nat) : Int))), (4, .int (J ((k + 0 : Nat) : Int))), (0, .ref qq), (1, .int (J ((a : Nat) : Int))), (2, .int (J z)), (3, .int (J ((b : Nat) : Int)))]) C.1 C.2.1 dX4_around_99 hl (k := 5) rfl (by rw [show Int32.ofInt 1 = J 1 from rfl, J_add]; exact congrArg J (by omega)) (by decide) rfl (fun ls hl => ?_)
        refine lv_goto (tgt := 47) C.1 C.2.1 dX4_around_102 (by decide) ?_
        exact ih (i + 1) (k) (by omega) (by omega) (by omega) cq ⟨by rw [hcq.1, cn_go (by omega) (by unfold abP; rw [h3]; rfl)], hcq.2⟩ H locs hP hD hS ls (lv_sub hl [2, 3, 4, 5, 1, 0] rfl)
      · refine lv_iload C.1 C.2.1 dX4_around_68 (lv_at hl 5 rfl) ?_
        refine lv_iload_n C.1 C.2.1 dX4_around_70 rfl (lv_at hl 1 rfl) ?_
        refine jv_icmp_eq (tgt := 95) C dX4_around_71 (by decide) (by omega) (fun h4 => ?_) (fun h4 => ?_)
        · refine jv_iconst C dX4_around_95 ?_
          refine jv_iadd (z := ((k + 0 : Nat) : Int)) C dX4_around_96 (by omega) ?_
          refine lv_istore (lv' := [(4, .int (J ((k + 0 : Nat) : Int))), (0, .ref qq), (1, .int (J ((a : Nat) : Int))), (2, .int (J z)), (3, .int (J ((b : Nat) : Int))), (5, .int (J ((i : Nat) : Int)))]) C.1 C.2.1 dX4_around_97 hl (by decide) rfl (fun ls hl => ?_)
          refine lv_iinc (v := J (((i + 1 : Nat) : Int))) (lv' := [(5, .int (J ((i + 1 : Nat) : Int))), (4, .int (J ((k + 0 : Nat) : Int))), (0, .ref qq), (1, .int (J ((a : Nat) : Int))), (2, .int (J z)), (3, .int (J ((b : Nat) : Int)))]) C.1 C.2.1 dX4_around_99 hl (k := 5) rfl (by rw [show Int32.ofInt 1 = J 1 from rfl, J_add]; exact congrArg J (by omega)) (by decide) rfl (fun ls hl => ?_)
          refine lv_goto (tgt := 47) C.1 C.2.1 dX4_around_102 (by decide) ?_
          exact ih (i + 1) (k) (by omega) (by omega) (by omega) cq ⟨by rw [hcq.1, cn_go (by omega) (by unfold abP; rw [decide_eq_false (p := i ≠ a) (by omega), Bool.false_and, Bool.and_false])], hcq.2⟩ H locs hP hD hS ls (lv_sub hl [2, 3, 4, 5, 1, 0] rfl)
        · refine lv_iload C.1 C.2.1 dX4_around_74 (lv_at hl 5 rfl) ?_
          refine lv_iload_n C.1 C.2.1 dX4_around_76 rfl (lv_at hl 3 rfl) ?_
          refine jv_icmp_eq (tgt := 95) C dX4_around_77 (by decide) (by omega) (fun h5 => ?_) (fun h5 => ?_)
          · refine jv_iconst C dX4_around_95 ?_
            refine jv_iadd (z := ((k + 0 : Nat) : Int)) C dX4_around_96 (by omega) ?_
            refine lv_istore (lv' := [(4, .int (J ((k + 0 : Nat) : Int))), (0, .ref qq), (1, .int (J ((a : Nat) : Int))), (2, .int (J z)), (3, .int (J ((b : Nat) : Int))), (5, .int (J ((i : Nat) : Int)))]) C.1 C.2.1 dX4_around_97 hl (by decide) rfl (fun ls hl => ?_)
            refine lv_iinc (v := J (((i + 1 : Nat) : Int))) (lv' := [(5, .int (J ((i + 1 : Nat) : Int))), (4, .int (J ((k + 0 : Nat) : Int))), (0, .ref qq), (1, .int (J ((a : Nat) : Int))), (2, .int (J z)), (3, .int (J ((b : Nat) : Int)))]) C.1 C.2.1 dX4_around_99 hl (k := 5) rfl (by rw [show Int32.ofInt 1 = J 1 from rfl, J_add]; exact congrArg J (by omega)) (by decide) rfl (fun ls hl => ?_)
            refine lv_goto (tgt := 47) C.1 C.2.1 dX4_around_102 (by decide) ?_
            exact ih (i + 1) (k) (by omega) (by omega) (by omega) cq ⟨by rw [hcq.1, cn_go (by omega) (by unfold abP; rw [decide_eq_false (p := i ≠ b) (by omega), Bool.false_and, Bool.and_false, Bool.and_false])], hcq.2⟩ H locs hP hD hS ls (lv_sub hl [2, 3, 4, 5, 1, 0] rfl)
          · refine lv_aload_n C.1 C.2.1 dX4_around_80 rfl (lv_at hl 0 rfl) ?_
            refine lv_iload_n C.1 C.2.1 dX4_around_81 rfl (lv_at hl 1 rfl) ?_
            refine lv_iload C.1 C.2.1 dX4_around_82 (lv_at hl 5 rfl) ?_
            refine lv_iload_n C.1 C.2.1 dX4_around_84 rfl (lv_at hl 3 rfl) ?_
            refine jv_rdV (ni := 3) (ci := 4) (q0 := 0) C [.int (J ((a : Nat) : Int)), .int (J ((i : Nat) : Int)), .int (J ((b : Nat) : Int))] [.int (J ((k : Nat) : Int))] (c_X4_isBefore (Px := Px) (Py := Py) (Mt := Mt) (pn := pn) (kn := kn) (fl := fl) (Hu := Hu) (hn := hn) (A1 := A1) (A2 := A2) (A3 := A3) (mn := mn) (hd := hd) (sd := sd) (B1 := B1) (B2 := B2) (B3 := B3) (hh := hh) (fp := fp) (Or := Or) (Ro := Ro) (Ne := Ne) (rn := rn) (Mr := Mr) hRI (a := a) (b := i) (k := b) (by omega) (by omega) (by omega)) gv_X4_177 (by decide +kernel) (by decide) hK (hP) rfl rfl rfl hl.1 (by simp [Value.category]) dX4_around_85 (by decide) ?_ rfl
            show W _ _ _ _ _ _ _ _ _ _ _ _ _ _ _ (F0 m 88 ls [.int (J (b2i (bfr Px Py a i b))), .int (J ((k : Nat) : Int))])
            refine jv_bif_eq (tgt := 95) C dX4_around_88 (by decide) (fun h6 => ?_) (fun h6 => ?_)
            · refine jv_iconst C dX4_around_95 ?_
              refine jv_iadd (z := ((k + 0 : Nat) : Int)) C dX4_around_96 (by omega) ?_
              refine lv_istore (lv' := [(4, .int (J ((k + 0 : Nat) : Int))), (0, .ref qq), (1, .int (J ((a : Nat) : Int))), (2, .int (J z)), (3, .int (J ((b : Nat) : Int))), (5, .int (J ((i : Nat) : Int)))]) C.1 C.2.1 dX4_around_97 hl (by decide) rfl (fun ls hl => ?_)
              refine lv_iinc (v := J (((i + 1 : Nat) : Int))) (lv' := [(5, .int (J ((i + 1 : Nat) : Int))), (4, .int (J ((k + 0 : Nat) : Int))), (0, .ref qq), (1, .int (J ((a : Nat) : Int))), (2, .int (J z)), (3, .int (J ((b : Nat) : Int)))]) C.1 C.2.1 dX4_around_99 hl (k := 5) rfl (by rw [show Int32.ofInt 1 = J 1 from rfl, J_add]; exact congrArg J (by omega)) (by decide) rfl (fun ls hl => ?_)
              refine lv_goto (tgt := 47) C.1 C.2.1 dX4_around_102 (by decide) ?_
              exact ih (i + 1) (k) (by omega) (by omega) (by omega) cq ⟨by rw [hcq.1, cn_go (by omega) (by unfold abP; rw [h6, Bool.and_false, Bool.and_false, Bool.and_false])], hcq.2⟩ H locs hP hD hS ls (lv_sub hl [2, 3, 4, 5, 1, 0] rfl)
            · refine jv_iconst C dX4_around_91 ?_
              refine lv_goto (tgt := 96) C.1 C.2.1 dX4_around_92 (by decide) ?_
              refine jv_iadd (z := ((k + 1 : Nat) : Int)) C dX4_around_96 (by omega) ?_
              refine lv_istore (lv' := [(4, .int (J ((k + 1 : Nat) : Int))), (0, .ref qq), (1, .int (J ((a : Nat) : Int))), (2, .int (J z)), (3, .int (J ((b : Nat) : Int))), (5, .int (J ((i : Nat) : Int)))]) C.1 C.2.1 dX4_around_97 hl (by decide) rfl (fun ls hl => ?_)
              refine lv_iinc (v := J (((i + 1 : Nat) : Int))) (lv' := [(5, .int (J ((i + 1 : Nat) : Int))), (4, .int (J ((k + 1 : Nat) : Int))), (0, .ref qq), (1, .int (J ((a : Nat) : Int))), (2, .int (J z)), (3, .int (J ((b : Nat) : Int)))]) C.1 C.2.1 dX4_around_99 hl (k := 5) rfl (by rw [show Int32.ofInt 1 = J 1 from rfl, J_add]; exact congrArg J (by omega)) (by decide) rfl (fun ls hl => ?_)
              refine lv_goto (tgt := 47) C.1 C.2.1 dX4_around_102 (by decide) ?_
              exact ih (i + 1) (k + 1) (by omega) (by omega) (by omega) cq ⟨by rw [hcq.1, cn_hit (by omega) (by unfold abP; rw [h3, decide_eq_true (by omega), decide_eq_true (by omega), h6]; rfl)]; omega, hcq.2⟩ H locs hP hD hS ls (lv_sub hl [2, 3, 4, 5, 1, 0] rfl)
set_option maxRecDepth 20000 in
theorem lp_X4_around_16 {p : Program} {e : Env} {s : State} {m : MethodId} {args : Array Value} {below : List Frame} {meth : Method} {c : Code} {WC : va_W} {a : Nat} {z : Int} (C : CallFix p m c cX4_around 6 s args TB RX4) (hlk : meth.locks = false) (hr : meth.sig.returnType = (some .int)) (hK : va_K D vwCl (tyz cI cZ) s) (hRI : RI ((Px, Py, Mt, pn), (kn, fl, Hu, hn, A1, A2, A3, mn), (hd, sd, B1, B2, B3, hh, fp), (Or, Ro, Ne, rn), Mr)) (ha : a < 40) (hz : R3 z) :
    ∀ (n : Nat) (i : Nat), pn < i + n → i ≤ pn → ∀ (rv : Int), rv = oI (-9) (ff (aoP Px Py Mt pn a z) pn i) → ∀ (H : Heap) (locs : List Loc), va_P D vwCl [(qq, .inr (4, [.ref r0, .ref rx, .ref ry, .ref rt, .int (J ((pn : Nat) : Int)), .int (J (b2i (kn))), .int (J (b2i (fl))), .ref rh, .ref ra, .ref rb, .ref rc, .int (J ((hn : Nat) : Int)), .int (J ((mn : Nat) : Int)), .int (J (b2i (hd))), .int (J (b2i (sd))), .ref sa, .ref sb, .ref sc, .int (J ((hh : Nat) : Int)), .int (J ((fp : Nat) : Int)), .ref so, .ref sr, .ref sw, .int (J ((rn : Nat) : Int))])), (r0, .inl (cI, 7, .inl (fun z9 => J ((Mr z9 : Nat) : Int)))), (rx, .inl (cI, 40, .inl (fun z9 => J (Px z9)))), (ry, .inl (cI, 40, .inl (fun z9 => J (Py z9)))), (rt, .inl (cZ, 40, .inl (fun z9 => J (b2i (Mt z9))))), (rh, .inl (cI, 41, .inl (fun z9 => J ((Hu z9 : Nat) : Int)))), (ra, .inl (cI, 120, .inl (fun z9 => J ((A1 z9 : Nat) : Int)))), (rb, .inl (cI, 120, .inl (fun z9 => J ((A2 z9 : Nat) : Int)))), (rc, .inl (cI, 120, .inl (fun z9 => J ((A3 z9 : Nat) : Int)))), (sa, .inl (cI, 120, .inl (fun z9 => J ((B1 z9 : Nat) : Int)))), (sb, .inl (cI, 120, .inl (fun z9 => J ((B2 z9 : Nat) : Int)))), (sc, .inl (cI, 120, .inl (fun z9 => J ((B3 z9 : Nat) : Int)))), (so, .inl (cI, 40, .inl (fun z9 => J ((Or z9 : Nat) : Int)))), (sr, .inl (cI, 80, .inl (fun z9 => J ((Ro z9 : Nat) : Int)))), (sw, .inl (cI, 80, .inl (fun z9 => J ((Ne z9 : Nat) : Int))))] H → va_D (inW WC) [(qq, .inr (4, [.ref r0, .ref rx, .ref ry, .ref rt, .int (J ((pn : Nat) : Int)), .int (J (b2i (kn))), .int (J (b2i (fl))), .ref rh, .ref ra, .ref rb, .ref rc, .int (J ((hn : Nat) : Int)), .int (J ((mn : Nat) : Int)), .int (J (b2i (hd))), .int (J (b2i (sd))), .ref sa, .ref sb, .ref sc, .int (J ((hh : Nat) : Int)), .int (J ((fp : Nat) : Int)), .ref so, .ref sr, .ref sw, .int (J ((rn : Nat) : Int))])), (r0, .inl (cI, 7, .inl (fun z9 => J ((Mr z9 : Nat) : Int)))), (rx, .inl (cI, 40, .inl (fun z9 => J (Px z9)))), (ry, .inl (cI, 40, .inl (fun z9 => J (Py z9)))), (rt, .inl (cZ, 40, .inl (fun z9 => J (b2i (Mt z9))))), (rh, .inl (cI, 41, .inl (fun z9 => J ((Hu z9 : Nat) : Int)))), (ra, .inl (cI, 120, .inl (fun z9 => J ((A1 z9 : Nat) : Int)))), (rb, .inl (cI, 120, .inl (fun z9 => J ((A2 z9 : Nat) : Int)))), (rc, .inl (cI, 120, .inl (fun z9 => J ((A3 z9 : Nat) : Int)))), (sa, .inl (cI, 120, .inl (fun z9 => J ((B1 z9 : Nat) : Int)))), (sb, .inl (cI, 120, .inl (fun z9 => J ((B2 z9 : Nat) : Int)))), (sc, .inl (cI, 120, .inl (fun z9 => J ((B3 z9 : Nat) : Int)))), (so, .inl (cI, 40, .inl (fun z9 => J ((Or z9 : Nat) : Int)))), (sr, .inl (cI, 80, .inl (fun z9 => J ((Ro z9 : Nat) : Int)))), (sw, .inl (cI, 80, .inl (fun z9 => J ((Ne z9 : Nat) : Int))))] → va_S (inW WC) s.heap H locs → ∀ ls : Array Slot, lv_has ls 6 [(0, .ref qq), (1, .int (J ((a : Nat) : Int))), (2, .int (J z)), (3, .int (J ((i : Nat) : Int)))] → W p l e { frames := 4, cells := 0, slots := 0, locals := 93 } s m args below meth c H locs 0 0 (MQ below (QW D WC (wRS cI cZ qq r0 rx ry rt rh ra rb rc sa sb sc so sr sw ((Px, Py, Mt, pn), (kn, fl, Hu, hn, A1, A2, A3, mn), (hd, sd, B1, B2, B3, hh, fp), (Or, Ro, Ne, rn), Mr)) (some (.int (J rv)))) args s 0 0 (inW WC)) (F0 m 16 ls []) := by
  have hX : ∀ i, -10000 ≤ Px i ∧ Px i ≤ 10000 := hRI.1
  have hY : ∀ i, -10000 ≤ Py i ∧ Py i ≤ 10000 := hRI.2.1
  have hpn : pn ≤ 40 := hRI.2.2.1
  have hHu : ∀ i, Hu i < 40 := hRI.2.2.2.1
  have hhn : hn ≤ 41 := hRI.2.2.2.2.1
  have hA1 : ∀ i, A1 i < 40 := hRI.2.2.2.2.2.1
  have hA2 : ∀ i, A2 i < 40 := hRI.2.2.2.2.2.2.1
  have hA3 : ∀ i, A3 i < 40 := hRI.2.2.2.2.2.2.2.1
  have hmn : mn ≤ 120 := hRI.2.2.2.2.2.2.2.2.1
  have hB1 : ∀ i, B1 i < 40 := hRI.2.2.2.2.2.2.2.2.2.1
  have hB2 : ∀ i, B2 i < 40 := hRI.2.2.2.2.2.2.2.2.2.2.1
  have hB3 : ∀ i, B3 i < 40 := hRI.2.2.2.2.2.2.2.2.2.2.2.1
  have hhh : hh ≤ 120 := hRI.2.2.2.2.2.2.2.2.2.2.2.2.1
  have hOr : ∀ i, Or i < 40 := hRI.2.2.2.2.2.2.2.2.2.2.2.2.2.1
  have hRo : ∀ i, Ro i < 40 := hRI.2.2.2.2.2.2.2.2.2.2.2.2.2.2.1
  have hNe : ∀ i, Ne i < 40 := hRI.2.2.2.2.2.2.2.2.2.2.2.2.2.2.2.1
  have hrn : rn ≤ 80 := hRI.2.2.2.2.2.2.2.2.2.2.2.2.2.2.2.2
  intro n
  induction n with
  | zero => intro i hi0 hi1; omega
  | succ n ih =>
    intro i hi0 hi1 rv hrv H locs hP hD hS ls hl
    refine lv_iload_n C.1 C.2.1 dX4_around_16 rfl (lv_at hl 3 rfl) ?_
    refine lv_aload_n C.1 C.2.1 dX4_around_17 rfl (lv_at hl 0 rfl) ?_
    refine jv_get C fw_X4_58 hK hP 0 rfl rfl dX4_around_18 ?_
    refine jv_icmp_ge (tgt := 119) C dX4_around_21 (by decide) (by omega) (fun h1 => ?_) (fun h1 => ?_)
    · refine jv_bipush C dX4_around_119 rfl ?_
      exact jw_iret C hlk hr dX4_around_121 (by rw [hrv, ff_end (by omega)]; rfl) (hP) hS
    · refine lv_aload_n C.1 C.2.1 dX4_around_24 rfl (lv_at hl 0 rfl) ?_
      refine jv_get C fw_X4_19 hK hP 0 rfl rfl dX4_around_25 ?_
      refine lv_iload_n C.1 C.2.1 dX4_around_28 rfl (lv_at hl 3 rfl) ?_
      refine jv_zald C hK hP 4 1 rfl rfl (i) (by omega) (by omega) (by decide) dX4_around_29 ?_
      refine jv_bif_eq (tgt := 113) C dX4_around_30 (by decide) (fun h2 => ?_) (fun h2 => ?_)
      · refine lv_iinc (v := J (((i + 1 : Nat) : Int))) (lv' := [(3, .int (J ((i + 1 : Nat) : Int))), (0, .ref qq), (1, .int (J ((a : Nat) : Int))), (2, .int (J z))]) C.1 C.2.1 dX4_around_113 hl (k := 3) rfl (by rw [show Int32.ofInt 1 = J 1 from rfl, J_add]; exact congrArg J (by omega)) (by decide) rfl (fun ls hl => ?_)
        refine lv_goto (tgt := 16) C.1 C.2.1 dX4_around_116 (by decide) ?_
        exact ih (i + 1) (by omega) (by omega) rv (by rw [hrv, ff_go (by omega) (by unfold aoP; rw [h2]; rfl)]) H locs hP hD hS ls (lv_sub hl [1, 2, 3, 0] rfl)
      · refine lv_iload_n C.1 C.2.1 dX4_around_33 rfl (lv_at hl 3 rfl) ?_
        refine lv_iload_n C.1 C.2.1 dX4_around_34 rfl (lv_at hl 1 rfl) ?_
        refine jv_icmp_ne (tgt := 41) C dX4_around_35 (by decide) (by omega) (fun h3 => ?_) (fun h3 => ?_)
        · refine jv_iconst C dX4_around_41 ?_
          refine lv_istore (lv' := [(4, .int (J 0)), (0, .ref qq), (1, .int (J ((a : Nat) : Int))), (2, .int (J z)), (3, .int (J ((i : Nat) : Int)))]) C.1 C.2.1 dX4_around_42 hl (by decide) rfl (fun ls hl => ?_)
          refine jv_iconst C dX4_around_44 ?_
          refine lv_istore (lv' := [(5, .int (J 0)), (4, .int (J 0)), (0, .ref qq), (1, .int (J ((a : Nat) : Int))), (2, .int (J z)), (3, .int (J ((i : Nat) : Int)))]) C.1 C.2.1 dX4_around_45 hl (by decide) rfl (fun ls hl => ?_)
          exact lp_X4_around_47 C hlk hr hK hRI ha (by omega) hz (by omega) h2 hrv (fun h H locs hP hD hS ls hl => ih (i + 1) (by omega) (by omega) rv h H locs hP hD hS ls hl) (pn + 1) 0 0 (by omega) (by omega) (by omega) _ ⟨by omega, rfl⟩ H locs hP hD hS ls (lv_sub hl [2, 3, 4, 5, 1, 0] rfl)
        · refine lv_goto (tgt := 113) C.1 C.2.1 dX4_around_38 (by decide) ?_
          refine lv_iinc (v := J (((i + 1 : Nat) : Int))) (lv' := [(3, .int (J ((i + 1 : Nat) : Int))), (0, .ref qq), (1, .int (J ((a : Nat) : Int))), (2, .int (J z))]) C.1 C.2.1 dX4_around_113 hl (k := 3) rfl (by rw [show Int32.ofInt 1 = J 1 from rfl, J_add]; exact congrArg J (by omega)) (by decide) rfl (fun ls hl => ?_)
          refine lv_goto (tgt := 16) C.1 C.2.1 dX4_around_116 (by decide) ?_
          exact ih (i + 1) (by omega) (by omega) rv (by rw [hrv, ff_go (by omega) (by unfold aoP; rw [decide_eq_false (p := i ≠ a) (by omega), Bool.false_and, Bool.and_false])]) H locs hP hD hS ls (lv_sub hl [1, 2, 3, 0] rfl)
set_option maxRecDepth 20000 in
set_option maxHeartbeats 4000000 in
theorem c_X4_around {p1 z : Int} (hRI : RI ((Px, Py, Mt, pn), (kn, fl, Hu, hn, A1, A2, A3, mn), (hd, sd, B1, B2, B3, hh, fp), (Or, Ro, Ne, rn), Mr)) (hp1 : R3 p1) (hz : R3 z) : cW l yX4_around cX4_around 6 (some .int) 4 93 D (tyz cI cZ) [.ref qq, .int (J p1), .int (J z)] (wRS cI cZ qq r0 rx ry rt rh ra rb rc sa sb sc so sr sw ((Px, Py, Mt, pn), (kn, fl, Hu, hn, A1, A2, A3, mn), (hd, sd, B1, B2, B3, hh, fp), (Or, Ro, Ne, rn), Mr)) (wRS cI cZ qq r0 rx ry rt rh ra rb rc sa sb sc so sr sw ((rpAround p1 z ((Px, Py, Mt, pn), (kn, fl, Hu, hn, A1, A2, A3, mn), (hd, sd, B1, B2, B3, hh, fp), (Or, Ro, Ne, rn), Mr)).2)) (some (.int (J (rpAround p1 z ((Px, Py, Mt, pn), (kn, fl, Hu, hn, A1, A2, A3, mn), (hd, sd, B1, B2, B3, hh, fp), (Or, Ro, Ne, rn), Mr)).1))) := by
  refine cW_of (owner := RX4) rfl (by decide) (Nat.le_of_ble_eq_true rfl) ?_
  intro p e s m args below meth c ls C hlk hr hK hP hD hS hl
  have hl : lv_has ls 6 [(0, .ref qq), (1, .int (J p1)), (2, .int (J z))] := hl
  have hP : va_P D vwCl [(qq, .inr (4, [.ref r0, .ref rx, .ref ry, .ref rt, .int (J ((pn : Nat) : Int)), .int (J (b2i (kn))), .int (J (b2i (fl))), .ref rh, .ref ra, .ref rb, .ref rc, .int (J ((hn : Nat) : Int)), .int (J ((mn : Nat) : Int)), .int (J (b2i (hd))), .int (J (b2i (sd))), .ref sa, .ref sb, .ref sc, .int (J ((hh : Nat) : Int)), .int (J ((fp : Nat) : Int)), .ref so, .ref sr, .ref sw, .int (J ((rn : Nat) : Int))])), (r0, .inl (cI, 7, .inl (fun z9 => J ((Mr z9 : Nat) : Int)))), (rx, .inl (cI, 40, .inl (fun z9 => J (Px z9)))), (ry, .inl (cI, 40, .inl (fun z9 => J (Py z9)))), (rt, .inl (cZ, 40, .inl (fun z9 => J (b2i (Mt z9))))), (rh, .inl (cI, 41, .inl (fun z9 => J ((Hu z9 : Nat) : Int)))), (ra, .inl (cI, 120, .inl (fun z9 => J ((A1 z9 : Nat) : Int)))), (rb, .inl (cI, 120, .inl (fun z9 => J ((A2 z9 : Nat) : Int)))), (rc, .inl (cI, 120, .inl (fun z9 => J ((A3 z9 : Nat) : Int)))), (sa, .inl (cI, 120, .inl (fun z9 => J ((B1 z9 : Nat) : Int)))), (sb, .inl (cI, 120, .inl (fun z9 => J ((B2 z9 : Nat) : Int)))), (sc, .inl (cI, 120, .inl (fun z9 => J ((B3 z9 : Nat) : Int)))), (so, .inl (cI, 40, .inl (fun z9 => J ((Or z9 : Nat) : Int)))), (sr, .inl (cI, 80, .inl (fun z9 => J ((Ro z9 : Nat) : Int)))), (sw, .inl (cI, 80, .inl (fun z9 => J ((Ne z9 : Nat) : Int))))] s.heap := hP
  have hD : va_D _ [(qq, .inr (4, [.ref r0, .ref rx, .ref ry, .ref rt, .int (J ((pn : Nat) : Int)), .int (J (b2i (kn))), .int (J (b2i (fl))), .ref rh, .ref ra, .ref rb, .ref rc, .int (J ((hn : Nat) : Int)), .int (J ((mn : Nat) : Int)), .int (J (b2i (hd))), .int (J (b2i (sd))), .ref sa, .ref sb, .ref sc, .int (J ((hh : Nat) : Int)), .int (J ((fp : Nat) : Int)), .ref so, .ref sr, .ref sw, .int (J ((rn : Nat) : Int))])), (r0, .inl (cI, 7, .inl (fun z9 => J ((Mr z9 : Nat) : Int)))), (rx, .inl (cI, 40, .inl (fun z9 => J (Px z9)))), (ry, .inl (cI, 40, .inl (fun z9 => J (Py z9)))), (rt, .inl (cZ, 40, .inl (fun z9 => J (b2i (Mt z9))))), (rh, .inl (cI, 41, .inl (fun z9 => J ((Hu z9 : Nat) : Int)))), (ra, .inl (cI, 120, .inl (fun z9 => J ((A1 z9 : Nat) : Int)))), (rb, .inl (cI, 120, .inl (fun z9 => J ((A2 z9 : Nat) : Int)))), (rc, .inl (cI, 120, .inl (fun z9 => J ((A3 z9 : Nat) : Int)))), (sa, .inl (cI, 120, .inl (fun z9 => J ((B1 z9 : Nat) : Int)))), (sb, .inl (cI, 120, .inl (fun z9 => J ((B2 z9 : Nat) : Int)))), (sc, .inl (cI, 120, .inl (fun z9 => J ((B3 z9 : Nat) : Int)))), (so, .inl (cI, 40, .inl (fun z9 => J ((Or z9 : Nat) : Int)))), (sr, .inl (cI, 80, .inl (fun z9 => J ((Ro z9 : Nat) : Int)))), (sw, .inl (cI, 80, .inl (fun z9 => J ((Ne z9 : Nat) : Int))))] := hD
  have hX : ∀ i, -10000 ≤ Px i ∧ Px i ≤ 10000 := hRI.1
  have hY : ∀ i, -10000 ≤ Py i ∧ Py i ≤ 10000 := hRI.2.1
  have hpn : pn ≤ 40 := hRI.2.2.1
  have hHu : ∀ i, Hu i < 40 := hRI.2.2.2.1
  have hhn : hn ≤ 41 := hRI.2.2.2.2.1
  have hA1 : ∀ i, A1 i < 40 := hRI.2.2.2.2.2.1
  have hA2 : ∀ i, A2 i < 40 := hRI.2.2.2.2.2.2.1
  have hA3 : ∀ i, A3 i < 40 := hRI.2.2.2.2.2.2.2.1
  have hmn : mn ≤ 120 := hRI.2.2.2.2.2.2.2.2.1
  have hB1 : ∀ i, B1 i < 40 := hRI.2.2.2.2.2.2.2.2.2.1
  have hB2 : ∀ i, B2 i < 40 := hRI.2.2.2.2.2.2.2.2.2.2.1
  have hB3 : ∀ i, B3 i < 40 := hRI.2.2.2.2.2.2.2.2.2.2.2.1
  have hhh : hh ≤ 120 := hRI.2.2.2.2.2.2.2.2.2.2.2.2.1
  have hOr : ∀ i, Or i < 40 := hRI.2.2.2.2.2.2.2.2.2.2.2.2.2.1
  have hRo : ∀ i, Ro i < 40 := hRI.2.2.2.2.2.2.2.2.2.2.2.2.2.2.1
  have hNe : ∀ i, Ne i < 40 := hRI.2.2.2.2.2.2.2.2.2.2.2.2.2.2.2.1
  have hrn : rn ≤ 80 := hRI.2.2.2.2.2.2.2.2.2.2.2.2.2.2.2.2
  refine lv_aload_n C.1 C.2.1 dX4_around_0 rfl (lv_at hl 0 rfl) ?_
  refine lv_iload_n C.1 C.2.1 dX4_around_1 rfl (lv_at hl 1 rfl) ?_
  refine jv_rdV (ni := 1) (ci := 4) (q0 := 0) C [.int (J p1)] [] (c_X4_isPoint (Px := Px) (Py := Py) (Mt := Mt) (pn := pn) (kn := kn) (fl := fl) (Hu := Hu) (hn := hn) (A1 := A1) (A2 := A2) (A3 := A3) (mn := mn) (hd := hd) (sd := sd) (B1 := B1) (B2 := B2) (B3 := B3) (hh := hh) (fp := fp) (Or := Or) (Ro := Ro) (Ne := Ne) (rn := rn) (Mr := Mr) hRI (z := p1) (by omega)) gv_X4_79 (by decide +kernel) (by decide) hK (hP) rfl rfl rfl hl.1 (by simp [Value.category]) dX4_around_2 (by decide) ?_ rfl
  show W _ _ _ _ _ _ _ _ _ _ _ _ _ _ _ (F0 m 5 ls [.int (J (b2i (thr Mt pn p1)))])
  refine jv_bif_ne (tgt := 14) C dX4_around_5 (by decide) (fun h1 => ?_) (fun h1 => ?_)
  · have htz := thr_t h1
    rw [show p1 = ((p1.toNat : Nat) : Int) from by omega] at hl
    refine jv_iconst C dX4_around_14 ?_
    refine lv_istore_n (lv' := [(3, .int (J 0)), (0, .ref qq), (1, .int (J ((p1.toNat : Nat) : Int))), (2, .int (J z))]) C.1 C.2.1 dX4_around_15 rfl hl (by decide) rfl (fun ls hl => ?_)
    rw [show rpAround p1 z ((Px, Py, Mt, pn), (kn, fl, Hu, hn, A1, A2, A3, mn), (hd, sd, B1, B2, B3, hh, fp), (Or, Ro, Ne, rn), Mr) = (oI (-9) (ff (aoP Px Py Mt pn p1.toNat z) pn 0), ((Px, Py, Mt, pn), (kn, fl, Hu, hn, A1, A2, A3, mn), (hd, sd, B1, B2, B3, hh, fp), (Or, Ro, Ne, rn), Mr)) from if_neg (by (try dsimp only); first | assumption | exact bt_nf (by assumption) | exact bf_nt (by assumption) | exact of_decide_eq_true (by assumption) | exact of_decide_eq_false (by assumption) | omega)]
    exact lp_X4_around_16 C hlk hr hK hRI (by omega) hz (pn + 1) 0 (by omega) (by omega) _ rfl _ _ hP hD hS ls (lv_sub hl [1, 2, 3, 0] rfl)
  · refine lv_aload_n C.1 C.2.1 dX4_around_8 rfl (lv_at hl 0 rfl) ?_
    refine jv_iconst C dX4_around_9 ?_
    refine jv_waV (ni := 1) (ci := 4) (q0 := 0) (wc := (wRS cI cZ qq r0 rx ry rt rh ra rb rc sa sb sc so sr sw ((Px, Py, Mt, pn), (kn, fl, Hu, hn, A1, A2, A3, mn), (hd, sd, B1, B2, B3, hh, fp), (Or, Ro, Ne, rn), Mr))) (wd := (wRS cI cZ qq r0 rx ry rt rh ra rb rc sa sb sc so sr sw (rRef (-1) ((Px, Py, Mt, pn), (kn, fl, Hu, hn, A1, A2, A3, mn), (hd, sd, B1, B2, B3, hh, fp), (Or, Ro, Ne, rn), Mr)))) C [.int (J (-1))] [] (c_X4_refuse (Px := Px) (Py := Py) (Mt := Mt) (pn := pn) (kn := kn) (fl := fl) (Hu := Hu) (hn := hn) (A1 := A1) (A2 := A2) (A3 := A3) (mn := mn) (hd := hd) (sd := sd) (B1 := B1) (B2 := B2) (B3 := B3) (hh := hh) (fp := fp) (Or := Or) (Ro := Ro) (Ne := Ne) (rn := rn) (Mr := Mr) hRI (z := (-1)) (by omega)) gv_X4_54 (by decide +kernel) (by decide) hK hP hD hS rfl rfl rfl rfl hl.1 (by simp [Value.category]) dX4_around_10 (by decide) (fun H locs hP hD hS => ?_) rfl
    have hbn := rRef_b (z := (-1)) hRI
    generalize hS2 : rRef (-1) ((Px, Py, Mt, pn), (kn, fl, Hu, hn, A1, A2, A3, mn), (hd, sd, B1, B2, B3, hh, fp), (Or, Ro, Ne, rn), Mr) = S2 at hP hD hbn
    have hP : va_P D vwCl [(qq, .inr (4, [.ref r0, .ref rx, .ref ry, .ref rt, .int (J ((S2.1.2.2.2 : Nat) : Int)), .int (J (b2i (S2.2.1.1))), .int (J (b2i (S2.2.1.2.1))), .ref rh, .ref ra, .ref rb, .ref rc, .int (J ((S2.2.1.2.2.2.1 : Nat) : Int)), .int (J ((S2.2.1.2.2.2.2.2.2.2 : Nat) : Int)), .int (J (b2i (S2.2.2.1.1))), .int (J (b2i (S2.2.2.1.2.1))), .ref sa, .ref sb, .ref sc, .int (J ((S2.2.2.1.2.2.2.2.2.1 : Nat) : Int)), .int (J ((S2.2.2.1.2.2.2.2.2.2 : Nat) : Int)), .ref so, .ref sr, .ref sw, .int (J ((S2.2.2.2.1.2.2.2 : Nat) : Int))])), (r0, .inl (cI, 7, .inl (fun z9 => J ((S2.2.2.2.2 z9 : Nat) : Int)))), (rx, .inl (cI, 40, .inl (fun z9 => J (S2.1.1 z9)))), (ry, .inl (cI, 40, .inl (fun z9 => J (S2.1.2.1 z9)))), (rt, .inl (cZ, 40, .inl (fun z9 => J (b2i (S2.1.2.2.1 z9))))), (rh, .inl (cI, 41, .inl (fun z9 => J ((S2.2.1.2.2.1 z9 : Nat) : Int)))), (ra, .inl (cI, 120, .inl (fun z9 => J ((S2.2.1.2.2.2.2.1 z9 : Nat) : Int)))), (rb, .inl (cI, 120, .inl (fun z9 => J ((S2.2.1.2.2.2.2.2.1 z9 : Nat) : Int)))), (rc, .inl (cI, 120, .inl (fun z9 => J ((S2.2.1.2.2.2.2.2.2.1 z9 : Nat) : Int)))), (sa, .inl (cI, 120, .inl (fun z9 => J ((S2.2.2.1.2.2.1 z9 : Nat) : Int)))), (sb, .inl (cI, 120, .inl (fun z9 => J ((S2.2.2.1.2.2.2.1 z9 : Nat) : Int)))), (sc, .inl (cI, 120, .inl (fun z9 => J ((S2.2.2.1.2.2.2.2.1 z9 : Nat) : Int)))), (so, .inl (cI, 40, .inl (fun z9 => J ((S2.2.2.2.1.1 z9 : Nat) : Int)))), (sr, .inl (cI, 80, .inl (fun z9 => J ((S2.2.2.2.1.2.1 z9 : Nat) : Int)))), (sw, .inl (cI, 80, .inl (fun z9 => J ((S2.2.2.2.1.2.2.1 z9 : Nat) : Int))))] H := hP
    have hD : va_D _ [(qq, .inr (4, [.ref r0, .ref rx, .ref ry, .ref rt, .int (J ((S2.1.2.2.2 : Nat) : Int)), .int (J (b2i (S2.2.1.1))), .int (J (b2i (S2.2.1.2.1))), .ref rh, .ref ra, .ref rb, .ref rc, .int (J ((S2.2.1.2.2.2.1 : Nat) : Int)), .int (J ((S2.2.1.2.2.2.2.2.2.2 : Nat) : Int)), .int (J (b2i (S2.2.2.1.1))), .int (J (b2i (S2.2.2.1.2.1))), .ref sa, .ref sb, .ref sc, .int (J ((S2.2.2.1.2.2.2.2.2.1 : Nat) : Int)), .int (J ((S2.2.2.1.2.2.2.2.2.2 : Nat) : Int)), .ref so, .ref sr, .ref sw, .int (J ((S2.2.2.2.1.2.2.2 : Nat) : Int))])), (r0, .inl (cI, 7, .inl (fun z9 => J ((S2.2.2.2.2 z9 : Nat) : Int)))), (rx, .inl (cI, 40, .inl (fun z9 => J (S2.1.1 z9)))), (ry, .inl (cI, 40, .inl (fun z9 => J (S2.1.2.1 z9)))), (rt, .inl (cZ, 40, .inl (fun z9 => J (b2i (S2.1.2.2.1 z9))))), (rh, .inl (cI, 41, .inl (fun z9 => J ((S2.2.1.2.2.1 z9 : Nat) : Int)))), (ra, .inl (cI, 120, .inl (fun z9 => J ((S2.2.1.2.2.2.2.1 z9 : Nat) : Int)))), (rb, .inl (cI, 120, .inl (fun z9 => J ((S2.2.1.2.2.2.2.2.1 z9 : Nat) : Int)))), (rc, .inl (cI, 120, .inl (fun z9 => J ((S2.2.1.2.2.2.2.2.2.1 z9 : Nat) : Int)))), (sa, .inl (cI, 120, .inl (fun z9 => J ((S2.2.2.1.2.2.1 z9 : Nat) : Int)))), (sb, .inl (cI, 120, .inl (fun z9 => J ((S2.2.2.1.2.2.2.1 z9 : Nat) : Int)))), (sc, .inl (cI, 120, .inl (fun z9 => J ((S2.2.2.1.2.2.2.2.1 z9 : Nat) : Int)))), (so, .inl (cI, 40, .inl (fun z9 => J ((S2.2.2.2.1.1 z9 : Nat) : Int)))), (sr, .inl (cI, 80, .inl (fun z9 => J ((S2.2.2.2.1.2.1 z9 : Nat) : Int)))), (sw, .inl (cI, 80, .inl (fun z9 => J ((S2.2.2.2.1.2.2.1 z9 : Nat) : Int))))] := hD
    show W _ _ _ _ _ _ _ _ _ _ _ _ _ _ _ (F0 m 13 ls [.int (J (-1))])
    have hRS2 : RI ((S2.1.1, S2.1.2.1, S2.1.2.2.1, S2.1.2.2.2), (S2.2.1.1, S2.2.1.2.1, S2.2.1.2.2.1, S2.2.1.2.2.2.1, S2.2.1.2.2.2.2.1, S2.2.1.2.2.2.2.2.1, S2.2.1.2.2.2.2.2.2.1, S2.2.1.2.2.2.2.2.2.2), (S2.2.2.1.1, S2.2.2.1.2.1, S2.2.2.1.2.2.1, S2.2.2.1.2.2.2.1, S2.2.2.1.2.2.2.2.1, S2.2.2.1.2.2.2.2.2.1, S2.2.2.1.2.2.2.2.2.2), (S2.2.2.2.1.1, S2.2.2.2.1.2.1, S2.2.2.2.1.2.2.1, S2.2.2.2.1.2.2.2), S2.2.2.2.2) := hbn
    have hX : ∀ i, -10000 ≤ S2.1.1 i ∧ S2.1.1 i ≤ 10000 := hRS2.1
    have hY : ∀ i, -10000 ≤ S2.1.2.1 i ∧ S2.1.2.1 i ≤ 10000 := hRS2.2.1
    have hpn : S2.1.2.2.2 ≤ 40 := hRS2.2.2.1
    have hHu : ∀ i, S2.2.1.2.2.1 i < 40 := hRS2.2.2.2.1
    have hhn : S2.2.1.2.2.2.1 ≤ 41 := hRS2.2.2.2.2.1
    have hA1 : ∀ i, S2.2.1.2.2.2.2.1 i < 40 := hRS2.2.2.2.2.2.1
    have hA2 : ∀ i, S2.2.1.2.2.2.2.2.1 i < 40 := hRS2.2.2.2.2.2.2.1
    have hA3 : ∀ i, S2.2.1.2.2.2.2.2.2.1 i < 40 := hRS2.2.2.2.2.2.2.2.1
    have hmn : S2.2.1.2.2.2.2.2.2.2 ≤ 120 := hRS2.2.2.2.2.2.2.2.2.1
    have hB1 : ∀ i, S2.2.2.1.2.2.1 i < 40 := hRS2.2.2.2.2.2.2.2.2.2.1
    have hB2 : ∀ i, S2.2.2.1.2.2.2.1 i < 40 := hRS2.2.2.2.2.2.2.2.2.2.2.1
    have hB3 : ∀ i, S2.2.2.1.2.2.2.2.1 i < 40 := hRS2.2.2.2.2.2.2.2.2.2.2.2.1
    have hhh : S2.2.2.1.2.2.2.2.2.1 ≤ 120 := hRS2.2.2.2.2.2.2.2.2.2.2.2.2.1
    have hOr : ∀ i, S2.2.2.2.1.1 i < 40 := hRS2.2.2.2.2.2.2.2.2.2.2.2.2.2.1
    have hRo : ∀ i, S2.2.2.2.1.2.1 i < 40 := hRS2.2.2.2.2.2.2.2.2.2.2.2.2.2.2.1
    have hNe : ∀ i, S2.2.2.2.1.2.2.1 i < 40 := hRS2.2.2.2.2.2.2.2.2.2.2.2.2.2.2.2.1
    have hrn : S2.2.2.2.1.2.2.2 ≤ 80 := hRS2.2.2.2.2.2.2.2.2.2.2.2.2.2.2.2.2
    exact jw_iret C hlk hr dX4_around_13 (by rw [show rpAround p1 z ((Px, Py, Mt, pn), (kn, fl, Hu, hn, A1, A2, A3, mn), (hd, sd, B1, B2, B3, hh, fp), (Or, Ro, Ne, rn), Mr) = ((-1), ((S2.1.1, S2.1.2.1, S2.1.2.2.1, S2.1.2.2.2), (S2.2.1.1, S2.2.1.2.1, S2.2.1.2.2.1, S2.2.1.2.2.2.1, S2.2.1.2.2.2.2.1, S2.2.1.2.2.2.2.2.1, S2.2.1.2.2.2.2.2.2.1, S2.2.1.2.2.2.2.2.2.2), (S2.2.2.1.1, S2.2.2.1.2.1, S2.2.2.1.2.2.1, S2.2.2.1.2.2.2.1, S2.2.2.1.2.2.2.2.1, S2.2.2.1.2.2.2.2.2.1, S2.2.2.1.2.2.2.2.2.2), (S2.2.2.2.1.1, S2.2.2.2.1.2.1, S2.2.2.2.1.2.2.1, S2.2.2.2.1.2.2.2), S2.2.2.2.2)) from (if_pos (by (try dsimp only); first | assumption | exact bt_nf (by assumption) | exact bf_nt (by assumption) | exact of_decide_eq_true (by assumption) | exact of_decide_eq_false (by assumption) | omega)).trans (by rw [← hS2])]) (by rw [show rpAround p1 z ((Px, Py, Mt, pn), (kn, fl, Hu, hn, A1, A2, A3, mn), (hd, sd, B1, B2, B3, hh, fp), (Or, Ro, Ne, rn), Mr) = ((-1), ((S2.1.1, S2.1.2.1, S2.1.2.2.1, S2.1.2.2.2), (S2.2.1.1, S2.2.1.2.1, S2.2.1.2.2.1, S2.2.1.2.2.2.1, S2.2.1.2.2.2.2.1, S2.2.1.2.2.2.2.2.1, S2.2.1.2.2.2.2.2.2.1, S2.2.1.2.2.2.2.2.2.2), (S2.2.2.1.1, S2.2.2.1.2.1, S2.2.2.1.2.2.1, S2.2.2.1.2.2.2.1, S2.2.2.1.2.2.2.2.1, S2.2.2.1.2.2.2.2.2.1, S2.2.2.1.2.2.2.2.2.2), (S2.2.2.2.1.1, S2.2.2.2.1.2.1, S2.2.2.2.1.2.2.1, S2.2.2.2.1.2.2.2), S2.2.2.2.2)) from (if_pos (by (try dsimp only); first | assumption | exact bt_nf (by assumption) | exact bf_nt (by assumption) | exact of_decide_eq_true (by assumption) | exact of_decide_eq_false (by assumption) | omega)).trans (by rw [← hS2])]; exact hP) hS
end REFC
