def akP (A1 A2 A3 B1 B2 B3 : Nat → Nat) (t o : Nat) : Bool := decide (B1 t = A1 o) && (decide (B2 t = A2 o) && decide (B3 t = A3 o))
def ak1 (A1 A2 A3 B1 B2 B3 : Nat → Nat) (hh mn t k : Nat) : Nat := if t < hh then ak1 A1 A2 A3 B1 B2 B3 hh mn (t + 1) (k + cn (akP A1 A2 A3 B1 B2 B3 t) mn 0) else k
termination_by hh - t
theorem ak1_end {A1 A2 A3 B1 B2 B3 : Nat → Nat} {hh mn t k : Nat} (h : hh ≤ t) : ak1 A1 A2 A3 B1 B2 B3 hh mn t k = k := by rw [ak1, if_neg (by omega)]
theorem ak1_go {A1 A2 A3 B1 B2 B3 : Nat → Nat} {hh mn t k : Nat} (h : t < hh) : ak1 A1 A2 A3 B1 B2 B3 hh mn t k = ak1 A1 A2 A3 B1 B2 B3 hh mn (t + 1) (k + cn (akP A1 A2 A3 B1 B2 B3 t) mn 0) := by rw [ak1, if_pos h]
def rpAlike (S : RS) : Int × RS := if (S.2.2.1.1 && !S.2.2.1.2.1) = false then (-3, rRef (-3) S) else ((ak1 (rKnow S).2.1.2.2.2.2.1 (rKnow S).2.1.2.2.2.2.2.1 (rKnow S).2.1.2.2.2.2.2.2.1 (rKnow S).2.2.1.2.2.1 (rKnow S).2.2.1.2.2.2.1 (rKnow S).2.2.1.2.2.2.2.1 (rKnow S).2.2.1.2.2.2.2.2.1 (rKnow S).2.1.2.2.2.2.2.2.2 0 0 : Int), rKnow S)
section REFI
variable {l : Launch} {D : va_G} {cI cZ : ClassId} {qq r0 rx ry rt rh ra rb rc sa sb sc so sr sw : Nat} {Px Py : Nat → Int} {Mt : Nat → Bool} {pn : Nat} {kn fl : Bool} {Hu : Nat → Nat} {hn : Nat} {A1 A2 A3 : Nat → Nat} {mn : Nat} {hd sd : Bool} {B1 B2 B3 : Nat → Nat} {hh fp : Nat} {Or Ro Ne : Nat → Nat} {rn : Nat} {Mr : Nat → Nat}
set_option maxRecDepth 20000 in
theorem lp_X4_alike_32 {p : Program} {e : Env} {s : State} {m : MethodId} {args : Array Value} {below : List Frame} {meth : Method} {c : Code} {WC : va_W} {a : Nat} {rv : Nat} (C : CallFix p m c cX4_alike 4 s args TB RX4) (hlk : meth.locks = false) (hr : meth.sig.returnType = (some .int)) (hK : va_K D vwCl (tyz cI cZ) s) (hRI : RI ((Px, Py, Mt, pn), (kn, fl, Hu, hn, A1, A2, A3, mn), (hd, sd, B1, B2, B3, hh, fp), (Or, Ro, Ne, rn), Mr)) (ha : a < hh) (KK : ∀ k : Nat, k ≤ 120 * (a + 1) → rv = ak1 A1 A2 A3 B1 B2 B3 hh mn (a + 1) k → ∀ (H : Heap) (locs : List Loc), va_P D vwCl [(qq, .inr (4, [.ref r0, .ref rx, .ref ry, .ref rt, .int (J ((pn : Nat) : Int)), .int (J (b2i (kn))), .int (J (b2i (fl))), .ref rh, .ref ra, .ref rb, .ref rc, .int (J ((hn : Nat) : Int)), .int (J ((mn : Nat) : Int)), .int (J (b2i (hd))), .int (J (b2i (sd))), .ref sa, .ref sb, .ref sc, .int (J ((hh : Nat) : Int)), .int (J ((fp : Nat) : Int)), .ref so, .ref sr, .ref sw, .int (J ((rn : Nat) : Int))])), (r0, .inl (cI, 7, .inl (fun z9 => J ((Mr z9 : Nat) : Int)))), (rx, .inl (cI, 40, .inl (fun z9 => J (Px z9)))), (ry, .inl (cI, 40, .inl (fun z9 => J (Py z9)))), (rt, .inl (cZ, 40, .inl (fun z9 => J (b2i (Mt z9))))), (rh, .inl (cI, 41, .inl (fun z9 => J ((Hu z9 : Nat) : Int)))), (ra, .inl (cI, 120, .inl (fun z9 => J ((A1 z9 : Nat) : Int)))), (rb, .inl (cI, 120, .inl (fun z9 => J ((A2 z9 : Nat) : Int)))), (rc, .inl (cI, 120, .inl (fun z9 => J ((A3 z9 : Nat) : Int)))), (sa, .inl (cI, 120, .inl (fun z9 => J ((B1 z9 : Nat) : Int)))), (sb, .inl (cI, 120, .inl (fun z9 => J ((B2 z9 : Nat) : Int)))), (sc, .inl (cI, 120, .inl (fun z9 => J ((B3 z9 : Nat) : Int)))), (so, .inl (cI, 40, .inl (fun z9 => J ((Or z9 : Nat) : Int)))), (sr, .inl (cI, 80, .inl (fun z9 => J ((Ro z9 : Nat) : Int)))), (sw, .inl (cI, 80, .inl (fun z9 => J ((Ne z9 : Nat) : Int))))] H → va_D (inW WC) [(qq, .inr (4, [.ref r0, .ref rx, .ref ry, .ref rt, .int (J ((pn : Nat) : Int)), .int (J (b2i (kn))), .int (J (b2i (fl))), .ref rh, .ref ra, .ref rb, .ref rc, .int (J ((hn : Nat) : Int)), .int (J ((mn : Nat) : Int)), .int (J (b2i (hd))), .int (J (b2i (sd))), .ref sa, .ref sb, .ref sc, .int (J ((hh : Nat) : Int)), .int (J ((fp : Nat) : Int)), .ref so, .ref sr, .ref sw, .int (J ((rn : Nat) : Int))])), (r0, .inl (cI, 7, .inl (fun z9 => J ((Mr z9 : Nat) : Int)))), (rx, .inl (cI, 40, .inl (fun z9 => J (Px z9)))), (ry, .inl (cI, 40, .inl (fun z9 => J (Py z9)))), (rt, .inl (cZ, 40, .inl (fun z9 => J (b2i (Mt z9))))), (rh, .inl (cI, 41, .inl (fun z9 => J ((Hu z9 : Nat) : Int)))), (ra, .inl (cI, 120, .inl (fun z9 => J ((A1 z9 : Nat) : Int)))), (rb, .inl (cI, 120, .inl (fun z9 => J ((A2 z9 : Nat) : Int)))), (rc, .inl (cI, 120, .inl (fun z9 => J ((A3 z9 : Nat) : Int)))), (sa, .inl (cI, 120, .inl (fun z9 => J ((B1 z9 : Nat) : Int)))), (sb, .inl (cI, 120, .inl (fun z9 => J ((B2 z9 : Nat) : Int)))), (sc, .inl (cI, 120, .inl (fun z9 => J ((B3 z9 : Nat) : Int)))), (so, .inl (cI, 40, .inl (fun z9 => J ((Or z9 : Nat) : Int)))), (sr, .inl (cI, 80, .inl (fun z9 => J ((Ro z9 : Nat) : Int)))), (sw, .inl (cI, 80, .inl (fun z9 => J ((Ne z9 : Nat) : Int))))] → va_S (inW WC) s.heap H locs → ∀ ls : Array Slot, lv_has ls 4 [(0, .ref qq), (1, .int (J ((k : Nat) : Int))), (2, .int (J ((a + 1 : Nat) : Int)))] → W p l e { frames := 6, cells := 0, slots := 0, locals := 137 } s m args below meth c H locs 0 0 (MQ below (QW D WC (wRS cI cZ qq r0 rx ry rt rh ra rb rc sa sb sc so sr sw ((Px, Py, Mt, pn), (kn, fl, Hu, hn, A1, A2, A3, mn), (hd, sd, B1, B2, B3, hh, fp), (Or, Ro, Ne, rn), Mr)) (some (.int (J ((rv : Nat) : Int))))) args s 0 0 (inW WC)) (F0 m 22 ls [])) :
    ∀ (n : Nat) (i k : Nat), mn < i + n → i ≤ mn → k ≤ 120 * a + i → ∀ (cq : Nat), (rv = ak1 A1 A2 A3 B1 B2 B3 hh mn (a + 1) cq ∧ cq = k + cn (akP A1 A2 A3 B1 B2 B3 a) mn i) → ∀ (H : Heap) (locs : List Loc), va_P D vwCl [(qq, .inr (4, [.ref r0, .ref rx, .ref ry, .ref rt, .int (J ((pn : Nat) : Int)), .int (J (b2i (kn))), .int (J (b2i (fl))), .ref rh, .ref ra, .ref rb, .ref rc, .int (J ((hn : Nat) : Int)), .int (J ((mn : Nat) : Int)), .int (J (b2i (hd))), .int (J (b2i (sd))), .ref sa, .ref sb, .ref sc, .int (J ((hh : Nat) : Int)), .int (J ((fp : Nat) : Int)), .ref so, .ref sr, .ref sw, .int (J ((rn : Nat) : Int))])), (r0, .inl (cI, 7, .inl (fun z9 => J ((Mr z9 : Nat) : Int)))), (rx, .inl (cI, 40, .inl (fun z9 => J (Px z9)))), (ry, .inl (cI, 40, .inl (fun z9 => J (Py z9)))), (rt, .inl (cZ, 40, .inl (fun z9 => J (b2i (Mt z9))))), (rh, .inl (cI, 41, .inl (fun z9 => J ((Hu z9 : Nat) : Int)))), (ra, .inl (cI, 120, .inl (fun z9 => J ((A1 z9 : Nat) : Int)))), (rb, .inl (cI, 120, .inl (fun z9 => J ((A2 z9 : Nat) : Int)))), (rc, .inl (cI, 120, .inl (fun z9 => J ((A3 z9 : Nat) : Int)))), (sa, .inl (cI, 120, .inl (fun z9 => J ((B1 z9 : Nat) : Int)))), (sb, .inl (cI, 120, .inl (fun z9 => J ((B2 z9 : Nat) : Int)))), (sc, .inl (cI, 120, .inl (fun z9 => J ((B3 z9 : Nat) : Int)))), (so, .inl (cI, 40, .inl (fun z9 => J ((Or z9 : Nat) : Int)))), (sr, .inl (cI, 80, .inl (fun z9 => J ((Ro z9 : Nat) : Int)))), (sw, .inl (cI, 80, .inl (fun z9 => J ((Ne z9 : Nat) : Int))))] H → va_D (inW WC) [(qq, .inr (4, [.ref r0, .ref rx, .ref ry, .ref rt, .int (J ((pn : Nat) : Int)), .int (J (b2i (kn))), .int (J (b2i (fl))), .ref rh, .ref ra, .ref rb, .ref rc, .int (J ((hn : Nat) : Int)), .int (J ((mn : Nat) : Int)), .int (J (b2i (hd))), .int (J (b2i (sd))), .ref sa, .ref sb, .ref sc, .int (J ((hh : Nat) : Int)), .int (J ((fp : Nat) : Int)), .ref so, .ref sr, .ref sw, .int (J ((rn : Nat) : Int))])), (r0, .inl (cI, 7, .inl (fun z9 => J ((Mr z9 : Nat) : Int)))), (rx, .inl (cI, 40, .inl (fun z9 => J (Px z9)))), (ry, .inl (cI, 40, .inl (fun z9 => J (Py z9)))), (rt, .inl (cZ, 40, .inl (fun z9 => J (b2i (Mt z9))))), (rh, .inl (cI, 41, .inl (fun z9 => J ((Hu z9 : Nat) : Int)))), (ra, .inl (cI, 120, .inl (fun z9 => J ((A1 z9 : Nat) : Int)))), (rb, .inl (cI, 120, .inl (fun z9 => J ((A2 z9 : Nat) : Int)))), (rc, .inl (cI, 120, .inl (fun z9 => J ((A3 z9 : Nat) : Int)))), (sa, .inl (cI, 120, .inl (fun z9 => J ((B1 z9 : Nat) : Int)))), (sb, .inl (cI, 120, .inl (fun z9 => J ((B2 z9 : Nat) : Int)))), (sc, .inl (cI, 120, .inl (fun z9 => J ((B3 z9 : Nat) : Int)))), (so, .inl (cI, 40, .inl (fun z9 => J ((Or z9 : Nat) : Int)))), (sr, .inl (cI, 80, .inl (fun z9 => J ((Ro z9 : Nat) : Int)))), (sw, .inl (cI, 80, .inl (fun z9 => J ((Ne z9 : Nat) : Int))))] → va_S (inW WC) s.heap H locs → ∀ ls : Array Slot, lv_has ls 4 [(0, .ref qq), (1, .int (J ((k : Nat) : Int))), (2, .int (J ((a : Nat) : Int))), (3, .int (J ((i : Nat) : Int)))] → W p l e { frames := 6, cells := 0, slots := 0, locals := 137 } s m args below meth c H locs 0 0 (MQ below (QW D WC (wRS cI cZ qq r0 rx ry rt rh ra rb rc sa sb sc so sr sw ((Px, Py, Mt, pn), (kn, fl, Hu, hn, A1, A2, A3, mn), (hd, sd, B1, B2, B3, hh, fp), (Or, Ro, Ne, rn), Mr)) (some (.int (J ((rv : Nat) : Int))))) args s 0 0 (inW WC)) (F0 m 32 ls []) := by
  have hX : ∀ i, -10000 ≤ Px i ∧ Px i ≤ 10000 := hRI.1
  have hY : ∀ i, -10000 ≤ Py i ∧ Py i ≤ 10000 := hRI.2.1
  have hpn : pn ≤ 40 := hRI.2.2.1
  have hHu : ∀ i, Hu i < 40 := hRI.2.2.2.1
  have hhn : hn ≤ 41 := hRI.2.2.2.2.1
  have hA1 : ∀ i, A1 i < 40 := hRI.2.2.2.2.2.1
  have hA2 : ∀ i, A2 i < 40 := hRI.2.2.2.2.2.2.1
  have hA3 : ∀ i, A3 i < 40 := hRI.2.2.2.2.2.2.2.1
  have hmn : mn ≤ 120 := hRI.2.2.2.2.2.2.2.2.1
  have hB1 : ∀ i, B1 i < 40 := hRI.2.2.2.2.2.2.2.2.2.1
  have hB2 : ∀ i, B2 i < 40 := hRI.2.2.2.2.2.2.2.2.2.2.1
  have hB3 : ∀ i, B3 i < 40 := hRI.2.2.2.2.2.2.2.2.2.2.2.1
  have hhh : hh ≤ 120 := hRI.2.2.2.2.2.2.2.2.2.2.2.2.1
  have hOr : ∀ i, Or i < 40 := hRI.2.2.2.2.2.2.2.2.2.2.2.2.2.1
  have hRo : ∀ i, Ro i < 40 := hRI.2.2.2.2.2.2.2.2.2.2.2.2.2.2.1
  have hNe : ∀ i, Ne i < 40 := hRI.2.2.2.2.2.2.2.2.2.2.2.2.2.2.2.1
  have hrn : rn ≤ 80 := hRI.2.2.2.2.2.2.2.2.2.2.2.2.2.2.2.2
  intro n
  induction n with
  | zero => intro i k hi0 hi1 hi2; omega
  | succ n ih =>
    intro i k hi0 hi1 hi2 cq hcq H locs hP hD hS ls hl
    refine lv_iload_n C.1 C.2.1 dX4_alike_32 rfl (lv_at hl 3 rfl) ?_
    refine lv_aload_n C.1 C.2.1 dX4_alike_33 rfl (lv_at hl 0 rfl) ?_
    refine jv_get C fw_X4_115 hK hP 0 rfl rfl dX4_alike_34 ?_
    refine jv_icmp_ge (tgt := 99) C dX4_alike_37 (by decide) (by omega) (fun h1 => ?_) (fun h1 => ?_)
    · refine lv_iinc (v := J (((a + 1 : Nat) : Int))) (lv' := [(2, .int (J ((a + 1 : Nat) : Int))), (0, .ref qq), (1, .int (J ((k : Nat) : Int))), (3, .int (J ((i : Nat) : Int)))]) C.1 C.2.1 dX4_alike_99 hl (k := 2) rfl (by rw [show Int32.ofInt 1 = J 1 from rfl, J_add]; exact congrArg J (by omega)) (by decide) rfl (fun ls hl => ?_)
      refine lv_goto (tgt := 22) C.1 C.2.1 dX4_alike_102 (by decide) ?_
      exact KK k (by omega) (by rw [hcq.1, hcq.2, cn_end (by omega)]; rfl) H locs hP hD hS ls (lv_sub hl [1, 2, 0] rfl)
    · refine lv_iload_n C.1 C.2.1 dX4_alike_40 rfl (lv_at hl 1 rfl) ?_
      refine lv_aload_n C.1 C.2.1 dX4_alike_41 rfl (lv_at hl 0 rfl) ?_
      refine jv_get C fw_X4_35 hK hP 0 rfl rfl dX4_alike_42 ?_
      refine lv_iload_n C.1 C.2.1 dX4_alike_45 rfl (lv_at hl 2 rfl) ?_
      refine jv_iald C hK hP 9 0 rfl rfl (a) (by omega) (by omega) (by decide) dX4_alike_46 ?_
      have f2 := hB1 a
      refine lv_aload_n C.1 C.2.1 dX4_alike_47 rfl (lv_at hl 0 rfl) ?_
      refine jv_get C fw_X4_26 hK hP 0 rfl rfl dX4_alike_48 ?_
      refine lv_iload_n C.1 C.2.1 dX4_alike_51 rfl (lv_at hl 3 rfl) ?_
      refine jv_iald C hK hP 6 0 rfl rfl (i) (by omega) (by omega) (by decide) dX4_alike_52 ?_
      have f3 := hA1 i
      refine jv_icmp_ne (tgt := 90) C dX4_alike_53 (by decide) (by omega) (fun h4 => ?_) (fun h4 => ?_)
      · refine jv_iconst C dX4_alike_90 ?_
        refine jv_iadd (z := ((k + 0 : Nat) : Int)) C dX4_alike_91 (by omega) ?_
        refine lv_istore_n (lv' := [(1, .int (J ((k + 0 : Nat) : Int))), (0, .ref qq), (2, .int (J ((a : Nat) : Int))), (3, .int (J ((i : Nat) : Int)))]) C.1 C.2.1 dX4_alike_92 rfl hl (by decide) rfl (fun ls hl => ?_)
        refine lv_iinc (v := J (((i + 1 : Nat) : Int))) (lv' := [(3, .int (J ((i + 1 : Nat) : Int))), (1, .int (J ((k + 0 : Nat) : Int))), (0, .ref qq), (2, .int (J ((a : Nat) : Int)))]) C.1 C.2.1 dX4_alike_93 hl (k := 3) rfl (by rw [show Int32.ofInt 1 = J 1 from rfl, J_add]; exact congrArg J (by omega)) (by decide) rfl (fun ls hl => ?_)
        refine lv_goto (tgt := 32) C.1 C.2.1 dX4_alike_96 (by decide) ?_
        exact ih (i + 1) (k) (by omega) (by omega) (by omega) cq ⟨hcq.1, by rw [hcq.2, cn_go (by omega) (by simp only [akP, Bool.and_eq_false_iff, decide_eq_false_iff_not]; omega)]⟩ H locs hP hD hS ls (lv_sub hl [2, 1, 3, 0] rfl)
      · refine lv_aload_n C.1 C.2.1 dX4_alike_56 rfl (lv_at hl 0 rfl) ?_
        refine jv_get C fw_X4_38 hK hP 0 rfl rfl dX4_alike_57 ?_
        refine lv_iload_n C.1 C.2.1 dX4_alike_60 rfl (lv_at hl 2 rfl) ?_
        refine jv_iald C hK hP 10 0 rfl rfl (a) (by omega) (by omega) (by decide) dX4_alike_61 ?_
        have f5 := hB2 a
        refine lv_aload_n C.1 C.2.1 dX4_alike_62 rfl (lv_at hl 0 rfl) ?_
        refine jv_get C fw_X4_29 hK hP 0 rfl rfl dX4_alike_63 ?_
        refine lv_iload_n C.1 C.2.1 dX4_alike_66 rfl (lv_at hl 3 rfl) ?_
        refine jv_iald C hK hP 7 0 rfl rfl (i) (by omega) (by omega) (by decide) dX4_alike_67 ?_
        have f6 := hA2 i
        refine jv_icmp_ne (tgt := 90) C dX4_alike_68 (by decide) (by omega) (fun h7 => ?_) (fun h7 => ?_)
        · refine jv_iconst C dX4_alike_90 ?_
          refine jv_iadd (z := ((k + 0 : Nat) : Int)) C dX4_alike_91 (by omega) ?_
          refine lv_istore_n (lv' := [(1, .int (J ((k + 0 : Nat) : Int))), (0, .ref qq), (2, .int (J ((a : Nat) : Int))), (3, .int (J ((i : Nat) : Int)))]) C.1 C.2.1 dX4_alike_92 rfl hl (by decide) rfl (fun ls hl => ?_)
          refine lv_iinc (v := J (((i + 1 : Nat) : Int))) (lv' := [(3, .int (J ((i + 1 : Nat) : Int))), (1, .int (J ((k + 0 : Nat) : Int))), (0, .ref qq), (2, .int (J ((a : Nat) : Int)))]) C.1 C.2.1 dX4_alike_93 hl (k := 3) rfl (by rw [show Int32.ofInt 1 = J 1 from rfl, J_add]; exact congrArg J (by omega)) (by decide) rfl (fun ls hl => ?_)
          refine lv_goto (tgt := 32) C.1 C.2.1 dX4_alike_96 (by decide) ?_
          exact ih (i + 1) (k) (by omega) (by omega) (by omega) cq ⟨hcq.1, by rw [hcq.2, cn_go (by omega) (by simp only [akP, Bool.and_eq_false_iff, decide_eq_false_iff_not]; omega)]⟩ H locs hP hD hS ls (lv_sub hl [2, 1, 3, 0] rfl)
        · refine lv_aload_n C.1 C.2.1 dX4_alike_71 rfl (lv_at hl 0 rfl) ?_
          refine jv_get C fw_X4_41 hK hP 0 rfl rfl dX4_alike_72 ?_
          refine lv_iload_n C.1 C.2.1 dX4_alike_75 rfl (lv_at hl 2 rfl) ?_
          refine jv_iald C hK hP 11 0 rfl rfl (a) (by omega) (by omega) (by decide) dX4_alike_76 ?_
          have f8 := hB3 a
          refine lv_aload_n C.1 C.2.1 dX4_alike_77 rfl (lv_at hl 0 rfl) ?_
          refine jv_get C fw_X4_32 hK hP 0 rfl rfl dX4_alike_78 ?_
          refine lv_iload_n C.1 C.2.1 dX4_alike_81 rfl (lv_at hl 3 rfl) ?_
          refine jv_iald C hK hP 8 0 rfl rfl (i) (by omega) (by omega) (by decide) dX4_alike_82 ?_
          have f9 := hA3 i
          refine jv_icmp_ne (tgt := 90) C dX4_alike_83 (by decide) (by omega) (fun h10 => ?_) (fun h10 => ?_)
          · refine jv_iconst C dX4_alike_90 ?_
            refine jv_iadd (z := ((k + 0 : Nat) : Int)) C dX4_alike_91 (by omega) ?_
            refine lv_istore_n (lv' := [(1, .int (J ((k + 0 : Nat) : Int))), (0, .ref qq), (2, .int (J ((a : Nat) : Int))), (3, .int (J ((i : Nat) : Int)))]) C.1 C.2.1 dX4_alike_92 rfl hl (by decide) rfl (fun ls hl => ?_)
            refine lv_iinc (v := J (((i + 1 : Nat) : Int))) (lv' := [(3, .int (J ((i + 1 : Nat) : Int))), (1, .int (J ((k + 0 : Nat) : Int))), (0, .ref qq), (2, .int (J ((a : Nat) : Int)))]) C.1 C.2.1 dX4_alike_93 hl (k := 3) rfl (by rw [show Int32.ofInt 1 = J 1 from rfl, J_add]; exact congrArg J (by omega)) (by decide) rfl (fun ls hl => ?_)
            refine lv_goto (tgt := 32) C.1 C.2.1 dX4_alike_96 (by decide) ?_
            exact ih (i + 1) (k) (by omega) (by omega) (by omega) cq ⟨hcq.1, by rw [hcq.2, cn_go (by omega) (by simp only [akP, Bool.and_eq_false_iff, decide_eq_false_iff_not]; omega)]⟩ H locs hP hD hS ls (lv_sub hl [2, 1, 3, 0] rfl)
          · refine jv_iconst C dX4_alike_86 ?_
            refine lv_goto (tgt := 91) C.1 C.2.1 dX4_alike_87 (by decide) ?_
            refine jv_iadd (z := ((k + 1 : Nat) : Int)) C dX4_alike_91 (by omega) ?_
            refine lv_istore_n (lv' := [(1, .int (J ((k + 1 : Nat) : Int))), (0, .ref qq), (2, .int (J ((a : Nat) : Int))), (3, .int (J ((i : Nat) : Int)))]) C.1 C.2.1 dX4_alike_92 rfl hl (by decide) rfl (fun ls hl => ?_)
            refine lv_iinc (v := J (((i + 1 : Nat) : Int))) (lv' := [(3, .int (J ((i + 1 : Nat) : Int))), (1, .int (J ((k + 1 : Nat) : Int))), (0, .ref qq), (2, .int (J ((a : Nat) : Int)))]) C.1 C.2.1 dX4_alike_93 hl (k := 3) rfl (by rw [show Int32.ofInt 1 = J 1 from rfl, J_add]; exact congrArg J (by omega)) (by decide) rfl (fun ls hl => ?_)
            refine lv_goto (tgt := 32) C.1 C.2.1 dX4_alike_96 (by decide) ?_
            exact ih (i + 1) (k + 1) (by omega) (by omega) (by omega) cq ⟨hcq.1, by rw [hcq.2, cn_hit (by omega) (by simp only [akP, Bool.and_eq_true, decide_eq_true_eq]; omega)]; omega⟩ H locs hP hD hS ls (lv_sub hl [2, 1, 3, 0] rfl)
set_option maxRecDepth 20000 in
theorem lp_X4_alike_22 {p : Program} {e : Env} {s : State} {m : MethodId} {args : Array Value} {below : List Frame} {meth : Method} {c : Code} {WC : va_W}  (C : CallFix p m c cX4_alike 4 s args TB RX4) (hlk : meth.locks = false) (hr : meth.sig.returnType = (some .int)) (hK : va_K D vwCl (tyz cI cZ) s) (hRI : RI ((Px, Py, Mt, pn), (kn, fl, Hu, hn, A1, A2, A3, mn), (hd, sd, B1, B2, B3, hh, fp), (Or, Ro, Ne, rn), Mr))  :
    ∀ (n : Nat) (i k : Nat), hh < i + n → i ≤ hh → k ≤ 120 * i → ∀ (rv : Nat), rv = ak1 A1 A2 A3 B1 B2 B3 hh mn i k → ∀ (H : Heap) (locs : List Loc), va_P D vwCl [(qq, .inr (4, [.ref r0, .ref rx, .ref ry, .ref rt, .int (J ((pn : Nat) : Int)), .int (J (b2i (kn))), .int (J (b2i (fl))), .ref rh, .ref ra, .ref rb, .ref rc, .int (J ((hn : Nat) : Int)), .int (J ((mn : Nat) : Int)), .int (J (b2i (hd))), .int (J (b2i (sd))), .ref sa, .ref sb, .ref sc, .int (J ((hh : Nat) : Int)), .int (J ((fp : Nat) : Int)), .ref so, .ref sr, .ref sw, .int (J ((rn : Nat) : Int))])), (r0, .inl (cI, 7, .inl (fun z9 => J ((Mr z9 : Nat) : Int)))), (rx, .inl (cI, 40, .inl (fun z9 => J (Px z9)))), (ry, .inl (cI, 40, .inl (fun z9 => J (Py z9)))), (rt, .inl (cZ, 40, .inl (fun z9 => J (b2i (Mt z9))))), (rh, .inl (cI, 41, .inl (fun z9 => J ((Hu z9 : Nat) : Int)))), (ra, .inl (cI, 120, .inl (fun z9 => J ((A1 z9 : Nat) : Int)))), (rb, .inl (cI, 120, .inl (fun z9 => J ((A2 z9 : Nat) : Int)))), (rc, .inl (cI, 120, .inl (fun z9 => J ((A3 z9 : Nat) : Int)))), (sa, .inl (cI, 120, .inl (fun z9 => J ((B1 z9 : Nat) : Int)))), (sb, .inl (cI, 120, .inl (fun z9 => J ((B2 z9 : Nat) : Int)))), (sc, .inl (cI, 120, .inl (fun z9 => J ((B3 z9 : Nat) : Int)))), (so, .inl (cI, 40, .inl (fun z9 => J ((Or z9 : Nat) : Int)))), (sr, .inl (cI, 80, .inl (fun z9 => J ((Ro z9 : Nat) : Int)))), (sw, .inl (cI, 80, .inl (fun z9 => J ((Ne z9 : Nat) : Int))))] H → va_D (inW WC) [(qq, .inr (4, [.ref r0, .ref rx, .ref ry, .ref rt, .int (J ((pn : Nat) : Int)), .int (J (b2i (kn))), .int (J (b2i (fl))), .ref rh, .ref ra, .ref rb, .ref rc, .int (J ((hn : Nat) : Int)), .int (J ((mn : Nat) : Int)), .int (J (b2i (hd))), .int (J (b2i (sd))), .ref sa, .ref sb, .ref sc, .int (J ((hh : Nat) : Int)), .int (J ((fp : Nat) : Int)), .ref so, .ref sr, .ref sw, .int (J ((rn : Nat) : Int))])), (r0, .inl (cI, 7, .inl (fun z9 => J ((Mr z9 : Nat) : Int)))), (rx, .inl (cI, 40, .inl (fun z9 => J (Px z9)))), (ry, .inl (cI, 40, .inl (fun z9 => J (Py z9)))), (rt, .inl (cZ, 40, .inl (fun z9 => J (b2i (Mt z9))))), (rh, .inl (cI, 41, .inl (fun z9 => J ((Hu z9 : Nat) : Int)))), (ra, .inl (cI, 120, .inl (fun z9 => J ((A1 z9 : Nat) : Int)))), (rb, .inl (cI, 120, .inl (fun z9 => J ((A2 z9 : Nat) : Int)))), (rc, .inl (cI, 120, .inl (fun z9 => J ((A3 z9 : Nat) : Int)))), (sa, .inl (cI, 120, .inl (fun z9 => J ((B1 z9 : Nat) : Int)))), (sb, .inl (cI, 120, .inl (fun z9 => J ((B2 z9 : Nat) : Int)))), (sc, .inl (cI, 120, .inl (fun z9 => J ((B3 z9 : Nat) : Int)))), (so, .inl (cI, 40, .inl (fun z9 => J ((Or z9 : Nat) : Int)))), (sr, .inl (cI, 80, .inl (fun z9 => J ((Ro z9 : Nat) : Int)))), (sw, .inl (cI, 80, .inl (fun z9 => J ((Ne z9 : Nat) : Int))))] → va_S (inW WC) s.heap H locs → ∀ ls : Array Slot, lv_has ls 4 [(0, .ref qq), (1, .int (J ((k : Nat) : Int))), (2, .int (J ((i : Nat) : Int)))] → W p l e { frames := 6, cells := 0, slots := 0, locals := 137 } s m args below meth c H locs 0 0 (MQ below (QW D WC (wRS cI cZ qq r0 rx ry rt rh ra rb rc sa sb sc so sr sw ((Px, Py, Mt, pn), (kn, fl, Hu, hn, A1, A2, A3, mn), (hd, sd, B1, B2, B3, hh, fp), (Or, Ro, Ne, rn), Mr)) (some (.int (J ((rv : Nat) : Int))))) args s 0 0 (inW WC)) (F0 m 22 ls []) := by
  have hX : ∀ i, -10000 ≤ Px i ∧ Px i ≤ 10000 := hRI.1
  have hY : ∀ i, -10000 ≤ Py i ∧ Py i ≤ 10000 := hRI.2.1
  have hpn : pn ≤ 40 := hRI.2.2.1
  have hHu : ∀ i, Hu i < 40 := hRI.2.2.2.1
  have hhn : hn ≤ 41 := hRI.2.2.2.2.1
  have hA1 : ∀ i, A1 i < 40 := hRI.2.2.2.2.2.1
  have hA2 : ∀ i, A2 i < 40 := hRI.2.2.2.2.2.2.1
  have hA3 : ∀ i, A3 i < 40 := hRI.2.2.2.2.2.2.2.1
  have hmn : mn ≤ 120 := hRI.2.2.2.2.2.2.2.2.1
  have hB1 : ∀ i, B1 i < 40 := hRI.2.2.2.2.2.2.2.2.2.1
  have hB2 : ∀ i, B2 i < 40 := hRI.2.2.2.2.2.2.2.2.2.2.1
  have hB3 : ∀ i, B3 i < 40 := hRI.2.2.2.2.2.2.2.2.2.2.2.1
  have hhh : hh ≤ 120 := hRI.2.2.2.2.2.2.2.2.2.2.2.2.1
  have hOr : ∀ i, Or i < 40 := hRI.2.2.2.2.2.2.2.2.2.2.2.2.2.1
  have hRo : ∀ i, Ro i < 40 := hRI.2.2.2.2.2.2.2.2.2.2.2.2.2.2.1
  have hNe : ∀ i, Ne i < 40 := hRI.2.2.2.2.2.2.2.2.2.2.2.2.2.2.2.1
  have hrn : rn ≤ 80 := hRI.2.2.2.2.2.2.2.2.2.2.2.2.2.2.2.2
  intro n
  induction n with
  | zero => intro i k hi0 hi1 hi2; omega
  | succ n ih =>
    intro i k hi0 hi1 hi2 rv hrv H locs hP hD hS ls hl
    refine lv_iload_n C.1 C.2.1 dX4_alike_22 rfl (lv_at hl 2 rfl) ?_
    refine lv_aload_n C.1 C.2.1 dX4_alike_23 rfl (lv_at hl 0 rfl) ?_
    refine jv_get C fw_X4_183 hK hP 0 rfl rfl dX4_alike_24 ?_
    refine jv_icmp_ge (tgt := 105) C dX4_alike_27 (by decide) (by omega) (fun h1 => ?_) (fun h1 => ?_)
    · refine lv_iload_n C.1 C.2.1 dX4_alike_105 rfl (lv_at hl 1 rfl) ?_
      exact jw_iret C hlk hr dX4_alike_106 (by rw [hrv, ak1_end (by omega)]) (hP) hS
    · refine jv_iconst C dX4_alike_30 ?_
      refine lv_istore_n (lv' := [(3, .int (J 0)), (0, .ref qq), (1, .int (J ((k : Nat) : Int))), (2, .int (J ((i : Nat) : Int)))]) C.1 C.2.1 dX4_alike_31 rfl hl (by decide) rfl (fun ls hl => ?_)
      exact lp_X4_alike_32 C hlk hr hK hRI (by omega) (fun k h9 h H locs hP hD hS ls hl => ih (i + 1) k (by omega) (by omega) h9 rv h H locs hP hD hS ls hl) (mn + 1) 0 k (by omega) (by omega) (by omega) _ ⟨by rw [hrv, ak1_go (by omega)], rfl⟩ H locs hP hD hS ls (lv_sub hl [1, 2, 3, 0] rfl)
set_option maxRecDepth 20000 in
set_option maxHeartbeats 4000000 in
theorem c_X4_alike  (hRI : RI ((Px, Py, Mt, pn), (kn, fl, Hu, hn, A1, A2, A3, mn), (hd, sd, B1, B2, B3, hh, fp), (Or, Ro, Ne, rn), Mr)) (hko : knOk ((Px, Py, Mt, pn), (kn, fl, Hu, hn, A1, A2, A3, mn), (hd, sd, B1, B2, B3, hh, fp), (Or, Ro, Ne, rn), Mr)) : cW l yX4_alike cX4_alike 4 (some .int) 6 137 D (tyz cI cZ) [.ref qq] (wRS cI cZ qq r0 rx ry rt rh ra rb rc sa sb sc so sr sw ((Px, Py, Mt, pn), (kn, fl, Hu, hn, A1, A2, A3, mn), (hd, sd, B1, B2, B3, hh, fp), (Or, Ro, Ne, rn), Mr)) (wRS cI cZ qq r0 rx ry rt rh ra rb rc sa sb sc so sr sw ((rpAlike ((Px, Py, Mt, pn), (kn, fl, Hu, hn, A1, A2, A3, mn), (hd, sd, B1, B2, B3, hh, fp), (Or, Ro, Ne, rn), Mr)).2)) (some (.int (J (rpAlike ((Px, Py, Mt, pn), (kn, fl, Hu, hn, A1, A2, A3, mn), (hd, sd, B1, B2, B3, hh, fp), (Or, Ro, Ne, rn), Mr)).1))) := by
  refine cW_of (owner := RX4) rfl (by decide) (Nat.le_of_ble_eq_true rfl) ?_
  intro p e s m args below meth c ls C hlk hr hK hP hD hS hl
  have hl : lv_has ls 4 [(0, .ref qq)] := hl
  have hP : va_P D vwCl [(qq, .inr (4, [.ref r0, .ref rx, .ref ry, .ref rt, .int (J ((pn : Nat) : Int)), .int (J (b2i (kn))), .int (J (b2i (fl))), .ref rh, .ref ra, .ref rb, .ref rc, .int (J ((hn : Nat) : Int)), .int (J ((mn : Nat) : Int)), .int (J (b2i (hd))), .int (J (b2i (sd))), .ref sa, .ref sb, .ref sc, .int (J ((hh : Nat) : Int)), .int (J ((fp : Nat) : Int)), .ref so, .ref sr, .ref sw, .int (J ((rn : Nat) : Int))])), (r0, .inl (cI, 7, .inl (fun z9 => J ((Mr z9 : Nat) : Int)))), (rx, .inl (cI, 40, .inl (fun z9 => J (Px z9)))), (ry, .inl (cI, 40, .inl (fun z9 => J (Py z9)))), (rt, .inl (cZ, 40, .inl (fun z9 => J (b2i (Mt z9))))), (rh, .inl (cI, 41, .inl (fun z9 => J ((Hu z9 : Nat) : Int)))), (ra, .inl (cI, 120, .inl (fun z9 => J ((A1 z9 : Nat) : Int)))), (rb, .inl (cI, 120, .inl (fun z9 => J ((A2 z9 : Nat) : Int)))), (rc, .inl (cI, 120, .inl (fun z9 => J ((A3 z9 : Nat) : Int)))), (sa, .inl (cI, 120, .inl (fun z9 => J ((B1 z9 : Nat) : Int)))), (sb, .inl (cI, 120, .inl (fun z9 => J ((B2 z9 : Nat) : Int)))), (sc, .inl (cI, 120, .inl (fun z9 => J ((B3 z9 : Nat) : Int)))), (so, .inl (cI, 40, .inl (fun z9 => J ((Or z9 : Nat) : Int)))), (sr, .inl (cI, 80, .inl (fun z9 => J ((Ro z9 : Nat) : Int)))), (sw, .inl (cI, 80, .inl (fun z9 => J ((Ne z9 : Nat) : Int))))] s.heap := hP
  have hD : va_D _ [(qq, .inr (4, [.ref r0, .ref rx, .ref ry, .ref rt, .int (J ((pn : Nat) : Int)), .int (J (b2i (kn))), .int (J (b2i (fl))), .ref rh, .ref ra, .ref rb, .ref rc, .int (J ((hn : Nat) : Int)), .int (J ((mn : Nat) : Int)), .int (J (b2i (hd))), .int (J (b2i (sd))), .ref sa, .ref sb, .ref sc, .int (J ((hh : Nat) : Int)), .int (J ((fp : Nat) : Int)), .ref so, .ref sr, .ref sw, .int (J ((rn : Nat) : Int))])), (r0, .inl (cI, 7, .inl (fun z9 => J ((Mr z9 : Nat) : Int)))), (rx, .inl (cI, 40, .inl (fun z9 => J (Px z9)))), (ry, .inl (cI, 40, .inl (fun z9 => J (Py z9)))), (rt, .inl (cZ, 40, .inl (fun z9 => J (b2i (Mt z9))))), (rh, .inl (cI, 41, .inl (fun z9 => J ((Hu z9 : Nat) : Int)))), (ra, .inl (cI, 120, .inl (fun z9 => J ((A1 z9 : Nat) : Int)))), (rb, .inl (cI, 120, .inl (fun z9 => J ((A2 z9 : Nat) : Int)))), (rc, .inl (cI, 120, .inl (fun z9 => J ((A3 z9 : Nat) : Int)))), (sa, .inl (cI, 120, .inl (fun z9 => J ((B1 z9 : Nat) : Int)))), (sb, .inl (cI, 120, .inl (fun z9 => J ((B2 z9 : Nat) : Int)))), (sc, .inl (cI, 120, .inl (fun z9 => J ((B3 z9 : Nat) : Int)))), (so, .inl (cI, 40, .inl (fun z9 => J ((Or z9 : Nat) : Int)))), (sr, .inl (cI, 80, .inl (fun z9 => J ((Ro z9 : Nat) : Int)))), (sw, .inl (cI, 80, .inl (fun z9 => J ((Ne z9 : Nat) : Int))))] := hD
  have hX : ∀ i, -10000 ≤ Px i ∧ Px i ≤ 10000 := hRI.1
  have hY : ∀ i, -10000 ≤ Py i ∧ Py i ≤ 10000 := hRI.2.1
  have hpn : pn ≤ 40 := hRI.2.2.1
  have hHu : ∀ i, Hu i < 40 := hRI.2.2.2.1
  have hhn : hn ≤ 41 := hRI.2.2.2.2.1
  have hA1 : ∀ i, A1 i < 40 := hRI.2.2.2.2.2.1
  have hA2 : ∀ i, A2 i < 40 := hRI.2.2.2.2.2.2.1
  have hA3 : ∀ i, A3 i < 40 := hRI.2.2.2.2.2.2.2.1
  have hmn : mn ≤ 120 := hRI.2.2.2.2.2.2.2.2.1
  have hB1 : ∀ i, B1 i < 40 := hRI.2.2.2.2.2.2.2.2.2.1
  have hB2 : ∀ i, B2 i < 40 := hRI.2.2.2.2.2.2.2.2.2.2.1
  have hB3 : ∀ i, B3 i < 40 := hRI.2.2.2.2.2.2.2.2.2.2.2.1
  have hhh : hh ≤ 120 := hRI.2.2.2.2.2.2.2.2.2.2.2.2.1
  have hOr : ∀ i, Or i < 40 := hRI.2.2.2.2.2.2.2.2.2.2.2.2.2.1
  have hRo : ∀ i, Ro i < 40 := hRI.2.2.2.2.2.2.2.2.2.2.2.2.2.2.1
  have hNe : ∀ i, Ne i < 40 := hRI.2.2.2.2.2.2.2.2.2.2.2.2.2.2.2.1
  have hrn : rn ≤ 80 := hRI.2.2.2.2.2.2.2.2.2.2.2.2.2.2.2.2
  refine lv_aload_n C.1 C.2.1 dX4_alike_0 rfl (lv_at hl 0 rfl) ?_
  refine jv_rdV (ni := 0) (ci := 4) (q0 := 0) C [] [] (c_X4_isReady (Px := Px) (Py := Py) (Mt := Mt) (pn := pn) (kn := kn) (fl := fl) (Hu := Hu) (hn := hn) (A1 := A1) (A2 := A2) (A3 := A3) (mn := mn) (hd := hd) (sd := sd) (B1 := B1) (B2 := B2) (B3 := B3) (hh := hh) (fp := fp) (Or := Or) (Ro := Ro) (Ne := Ne) (rn := rn) (Mr := Mr) hRI ) gv_X4_206 (by decide +kernel) (by decide) hK (hP) rfl rfl rfl hl.1 (by simp [Value.category]) dX4_alike_1 (by decide) ?_ rfl
  show W _ _ _ _ _ _ _ _ _ _ _ _ _ _ _ (F0 m 4 ls [.int (J (b2i (hd && !sd)))])
  refine jv_bif_ne (tgt := 14) C dX4_alike_4 (by decide) (fun h1 => ?_) (fun h1 => ?_)
  · refine lv_aload_n C.1 C.2.1 dX4_alike_14 rfl (lv_at hl 0 rfl) ?_
    refine jv_waV (ni := 0) (ci := 4) (q0 := 0) (wc := (wRS cI cZ qq r0 rx ry rt rh ra rb rc sa sb sc so sr sw ((Px, Py, Mt, pn), (kn, fl, Hu, hn, A1, A2, A3, mn), (hd, sd, B1, B2, B3, hh, fp), (Or, Ro, Ne, rn), Mr))) (wd := (wRS cI cZ qq r0 rx ry rt rh ra rb rc sa sb sc so sr sw (rKnow ((Px, Py, Mt, pn), (kn, fl, Hu, hn, A1, A2, A3, mn), (hd, sd, B1, B2, B3, hh, fp), (Or, Ro, Ne, rn), Mr)))) C [] [] (c_X4_know (Px := Px) (Py := Py) (Mt := Mt) (pn := pn) (kn := kn) (fl := fl) (Hu := Hu) (hn := hn) (A1 := A1) (A2 := A2) (A3 := A3) (mn := mn) (hd := hd) (sd := sd) (B1 := B1) (B2 := B2) (B3 := B3) (hh := hh) (fp := fp) (Or := Or) (Ro := Ro) (Ne := Ne) (rn := rn) (Mr := Mr) hRI hko) gv_X4_147 (by decide +kernel) (by decide) hK hP hD hS rfl rfl rfl rfl hl.1 (by simp [Value.category]) dX4_alike_15 (by decide) (fun H locs hP hD hS => ?_) rfl
    have hbn := rKnow_b hRI hko
    generalize hS2 : rKnow ((Px, Py, Mt, pn), (kn, fl, Hu, hn, A1, A2, A3, mn), (hd, sd, B1, B2, B3, hh, fp), (Or, Ro, Ne, rn), Mr) = S2 at hP hD hbn
    have hP : va_P D vwCl [(qq, .inr (4, [.ref r0, .ref rx, .ref ry, .ref rt, .int (J ((S2.1.2.2.2 : Nat) : Int)), .int (J (b2i (S2.2.1.1))), .int (J (b2i (S2.2.1.2.1))), .ref rh, .ref ra, .ref rb, .ref rc, .int (J ((S2.2.1.2.2.2.1 : Nat) : Int)), .int (J ((S2.2.1.2.2.2.2.2.2.2 : Nat) : Int)), .int (J (b2i (S2.2.2.1.1))), .int (J (b2i (S2.2.2.1.2.1))), .ref sa, .ref sb, .ref sc, .int (J ((S2.2.2.1.2.2.2.2.2.1 : Nat) : Int)), .int (J ((S2.2.2.1.2.2.2.2.2.2 : Nat) : Int)), .ref so, .ref sr, .ref sw, .int (J ((S2.2.2.2.1.2.2.2 : Nat) : Int))])), (r0, .inl (cI, 7, .inl (fun z9 => J ((S2.2.2.2.2 z9 : Nat) : Int)))), (rx, .inl (cI, 40, .inl (fun z9 => J (S2.1.1 z9)))), (ry, .inl (cI, 40, .inl (fun z9 => J (S2.1.2.1 z9)))), (rt, .inl (cZ, 40, .inl (fun z9 => J (b2i (S2.1.2.2.1 z9))))), (rh, .inl (cI, 41, .inl (fun z9 => J ((S2.2.1.2.2.1 z9 : Nat) : Int)))), (ra, .inl (cI, 120, .inl (fun z9 => J ((S2.2.1.2.2.2.2.1 z9 : Nat) : Int)))), (rb, .inl (cI, 120, .inl (fun z9 => J ((S2.2.1.2.2.2.2.2.1 z9 : Nat) : Int)))), (rc, .inl (cI, 120, .inl (fun z9 => J ((S2.2.1.2.2.2.2.2.2.1 z9 : Nat) : Int)))), (sa, .inl (cI, 120, .inl (fun z9 => J ((S2.2.2.1.2.2.1 z9 : Nat) : Int)))), (sb, .inl (cI, 120, .inl (fun z9 => J ((S2.2.2.1.2.2.2.1 z9 : Nat) : Int)))), (sc, .inl (cI, 120, .inl (fun z9 => J ((S2.2.2.1.2.2.2.2.1 z9 : Nat) : Int)))), (so, .inl (cI, 40, .inl (fun z9 => J ((S2.2.2.2.1.1 z9 : Nat) : Int)))), (sr, .inl (cI, 80, .inl (fun z9 => J ((S2.2.2.2.1.2.1 z9 : Nat) : Int)))), (sw, .inl (cI, 80, .inl (fun z9 => J ((S2.2.2.2.1.2.2.1 z9 : Nat) : Int))))] H := hP
    have hD : va_D _ [(qq, .inr (4, [.ref r0, .ref rx, .ref ry, .ref rt, .int (J ((S2.1.2.2.2 : Nat) : Int)), .int (J (b2i (S2.2.1.1))), .int (J (b2i (S2.2.1.2.1))), .ref rh, .ref ra, .ref rb, .ref rc, .int (J ((S2.2.1.2.2.2.1 : Nat) : Int)), .int (J ((S2.2.1.2.2.2.2.2.2.2 : Nat) : Int)), .int (J (b2i (S2.2.2.1.1))), .int (J (b2i (S2.2.2.1.2.1))), .ref sa, .ref sb, .ref sc, .int (J ((S2.2.2.1.2.2.2.2.2.1 : Nat) : Int)), .int (J ((S2.2.2.1.2.2.2.2.2.2 : Nat) : Int)), .ref so, .ref sr, .ref sw, .int (J ((S2.2.2.2.1.2.2.2 : Nat) : Int))])), (r0, .inl (cI, 7, .inl (fun z9 => J ((S2.2.2.2.2 z9 : Nat) : Int)))), (rx, .inl (cI, 40, .inl (fun z9 => J (S2.1.1 z9)))), (ry, .inl (cI, 40, .inl (fun z9 => J (S2.1.2.1 z9)))), (rt, .inl (cZ, 40, .inl (fun z9 => J (b2i (S2.1.2.2.1 z9))))), (rh, .inl (cI, 41, .inl (fun z9 => J ((S2.2.1.2.2.1 z9 : Nat) : Int)))), (ra, .inl (cI, 120, .inl (fun z9 => J ((S2.2.1.2.2.2.2.1 z9 : Nat) : Int)))), (rb, .inl (cI, 120, .inl (fun z9 => J ((S2.2.1.2.2.2.2.2.1 z9 : Nat) : Int)))), (rc, .inl (cI, 120, .inl (fun z9 => J ((S2.2.1.2.2.2.2.2.2.1 z9 : Nat) : Int)))), (sa, .inl (cI, 120, .inl (fun z9 => J ((S2.2.2.1.2.2.1 z9 : Nat) : Int)))), (sb, .inl (cI, 120, .inl (fun z9 => J ((S2.2.2.1.2.2.2.1 z9 : Nat) : Int)))), (sc, .inl (cI, 120, .inl (fun z9 => J ((S2.2.2.1.2.2.2.2.1 z9 : Nat) : Int)))), (so, .inl (cI, 40, .inl (fun z9 => J ((S2.2.2.2.1.1 z9 : Nat) : Int)))), (sr, .inl (cI, 80, .inl (fun z9 => J ((S2.2.2.2.1.2.1 z9 : Nat) : Int)))), (sw, .inl (cI, 80, .inl (fun z9 => J ((S2.2.2.2.1.2.2.1 z9 : Nat) : Int))))] := hD
    show W _ _ _ _ _ _ _ _ _ _ _ _ _ _ _ (F0 m 18 ls [])
    have hRS2 : RI ((S2.1.1, S2.1.2.1, S2.1.2.2.1, S2.1.2.2.2), (S2.2.1.1, S2.2.1.2.1, S2.2.1.2.2.1, S2.2.1.2.2.2.1, S2.2.1.2.2.2.2.1, S2.2.1.2.2.2.2.2.1, S2.2.1.2.2.2.2.2.2.1, S2.2.1.2.2.2.2.2.2.2), (S2.2.2.1.1, S2.2.2.1.2.1, S2.2.2.1.2.2.1, S2.2.2.1.2.2.2.1, S2.2.2.1.2.2.2.2.1, S2.2.2.1.2.2.2.2.2.1, S2.2.2.1.2.2.2.2.2.2), (S2.2.2.2.1.1, S2.2.2.2.1.2.1, S2.2.2.2.1.2.2.1, S2.2.2.2.1.2.2.2), S2.2.2.2.2) := hbn
    have hX : ∀ i, -10000 ≤ S2.1.1 i ∧ S2.1.1 i ≤ 10000 := hRS2.1
    have hY : ∀ i, -10000 ≤ S2.1.2.1 i ∧ S2.1.2.1 i ≤ 10000 := hRS2.2.1
    have hpn : S2.1.2.2.2 ≤ 40 := hRS2.2.2.1
    have hHu : ∀ i, S2.2.1.2.2.1 i < 40 := hRS2.2.2.2.1
    have hhn : S2.2.1.2.2.2.1 ≤ 41 := hRS2.2.2.2.2.1
    have hA1 : ∀ i, S2.2.1.2.2.2.2.1 i < 40 := hRS2.2.2.2.2.2.1
    have hA2 : ∀ i, S2.2.1.2.2.2.2.2.1 i < 40 := hRS2.2.2.2.2.2.2.1
    have hA3 : ∀ i, S2.2.1.2.2.2.2.2.2.1 i < 40 := hRS2.2.2.2.2.2.2.2.1
    have hmn : S2.2.1.2.2.2.2.2.2.2 ≤ 120 := hRS2.2.2.2.2.2.2.2.2.1
    have hB1 : ∀ i, S2.2.2.1.2.2.1 i < 40 := hRS2.2.2.2.2.2.2.2.2.2.1
    have hB2 : ∀ i, S2.2.2.1.2.2.2.1 i < 40 := hRS2.2.2.2.2.2.2.2.2.2.2.1
    have hB3 : ∀ i, S2.2.2.1.2.2.2.2.1 i < 40 := hRS2.2.2.2.2.2.2.2.2.2.2.2.1
    have hhh : S2.2.2.1.2.2.2.2.2.1 ≤ 120 := hRS2.2.2.2.2.2.2.2.2.2.2.2.2.1
    have hOr : ∀ i, S2.2.2.2.1.1 i < 40 := hRS2.2.2.2.2.2.2.2.2.2.2.2.2.2.1
    have hRo : ∀ i, S2.2.2.2.1.2.1 i < 40 := hRS2.2.2.2.2.2.2.2.2.2.2.2.2.2.2.1
    have hNe : ∀ i, S2.2.2.2.1.2.2.1 i < 40 := hRS2.2.2.2.2.2.2.2.2.2.2.2.2.2.2.2.1
    have hrn : S2.2.2.2.1.2.2.2 ≤ 80 := hRS2.2.2.2.2.2.2.2.2.2.2.2.2.2.2.2.2
    refine jv_iconst C dX4_alike_18 ?_
    refine lv_istore_n (lv' := [(1, .int (J 0)), (0, .ref qq)]) C.1 C.2.1 dX4_alike_19 rfl hl (by decide) rfl (fun ls hl => ?_)
    refine jv_iconst C dX4_alike_20 ?_
    refine lv_istore_n (lv' := [(2, .int (J 0)), (1, .int (J 0)), (0, .ref qq)]) C.1 C.2.1 dX4_alike_21 rfl hl (by decide) rfl (fun ls hl => ?_)
    rw [show rpAlike ((Px, Py, Mt, pn), (kn, fl, Hu, hn, A1, A2, A3, mn), (hd, sd, B1, B2, B3, hh, fp), (Or, Ro, Ne, rn), Mr) = (((ak1 S2.2.1.2.2.2.2.1 S2.2.1.2.2.2.2.2.1 S2.2.1.2.2.2.2.2.2.1 S2.2.2.1.2.2.1 S2.2.2.1.2.2.2.1 S2.2.2.1.2.2.2.2.1 S2.2.2.1.2.2.2.2.2.1 S2.2.1.2.2.2.2.2.2.2 0 0 : Nat) : Int), ((S2.1.1, S2.1.2.1, S2.1.2.2.1, S2.1.2.2.2), (S2.2.1.1, S2.2.1.2.1, S2.2.1.2.2.1, S2.2.1.2.2.2.1, S2.2.1.2.2.2.2.1, S2.2.1.2.2.2.2.2.1, S2.2.1.2.2.2.2.2.2.1, S2.2.1.2.2.2.2.2.2.2), (S2.2.2.1.1, S2.2.2.1.2.1, S2.2.2.1.2.2.1, S2.2.2.1.2.2.2.1, S2.2.2.1.2.2.2.2.1, S2.2.2.1.2.2.2.2.2.1, S2.2.2.1.2.2.2.2.2.2), (S2.2.2.2.1.1, S2.2.2.2.1.2.1, S2.2.2.2.1.2.2.1, S2.2.2.2.1.2.2.2), S2.2.2.2.2)) from by unfold rpAlike; rw [if_neg (by (try dsimp only); first | assumption | exact bt_nf (by assumption) | exact bf_nt (by assumption) | exact of_decide_eq_true (by assumption) | exact of_decide_eq_false (by assumption) | omega), hS2]]
    exact lp_X4_alike_22 (Px := S2.1.1) (Py := S2.1.2.1) (Mt := S2.1.2.2.1) (pn := S2.1.2.2.2) (kn := S2.2.1.1) (fl := S2.2.1.2.1) (Hu := S2.2.1.2.2.1) (hn := S2.2.1.2.2.2.1) (A1 := S2.2.1.2.2.2.2.1) (A2 := S2.2.1.2.2.2.2.2.1) (A3 := S2.2.1.2.2.2.2.2.2.1) (mn := S2.2.1.2.2.2.2.2.2.2) (hd := S2.2.2.1.1) (sd := S2.2.2.1.2.1) (B1 := S2.2.2.1.2.2.1) (B2 := S2.2.2.1.2.2.2.1) (B3 := S2.2.2.1.2.2.2.2.1) (hh := S2.2.2.1.2.2.2.2.2.1) (fp := S2.2.2.1.2.2.2.2.2.2) (Or := S2.2.2.2.1.1) (Ro := S2.2.2.2.1.2.1) (Ne := S2.2.2.2.1.2.2.1) (rn := S2.2.2.2.1.2.2.2) (Mr := S2.2.2.2.2) C hlk hr hK hRS2 (S2.2.2.1.2.2.2.2.2.1 + 1) 0 0 (by omega) (by omega) (by omega) _ rfl _ _ hP hD hS ls (lv_sub hl [2, 1, 0] rfl)
  · refine lv_aload_n C.1 C.2.1 dX4_alike_7 rfl (lv_at hl 0 rfl) ?_
    refine jv_bipush C dX4_alike_8 rfl ?_
    refine jv_waV (ni := 1) (ci := 4) (q0 := 0) (wc := (wRS cI cZ qq r0 rx ry rt rh ra rb rc sa sb sc so sr sw ((Px, Py, Mt, pn), (kn, fl, Hu, hn, A1, A2, A3, mn), (hd, sd, B1, B2, B3, hh, fp), (Or, Ro, Ne, rn), Mr))) (wd := (wRS cI cZ qq r0 rx ry rt rh ra rb rc sa sb sc so sr sw (rRef (-3) ((Px, Py, Mt, pn), (kn, fl, Hu, hn, A1, A2, A3, mn), (hd, sd, B1, B2, B3, hh, fp), (Or, Ro, Ne, rn), Mr)))) C [.int (J (-3))] [] (c_X4_refuse (Px := Px) (Py := Py) (Mt := Mt) (pn := pn) (kn := kn) (fl := fl) (Hu := Hu) (hn := hn) (A1 := A1) (A2 := A2) (A3 := A3) (mn := mn) (hd := hd) (sd := sd) (B1 := B1) (B2 := B2) (B3 := B3) (hh := hh) (fp := fp) (Or := Or) (Ro := Ro) (Ne := Ne) (rn := rn) (Mr := Mr) hRI (z := (-3)) (by omega)) gv_X4_54 (by decide +kernel) (by decide) hK hP hD hS rfl rfl rfl rfl hl.1 (by simp [Value.category]) dX4_alike_10 (by decide) (fun H locs hP hD hS => ?_) rfl
    have hbn := rRef_b (z := (-3)) hRI
    generalize hS3 : rRef (-3) ((Px, Py, Mt, pn), (kn, fl, Hu, hn, A1, A2, A3, mn), (hd, sd, B1, B2, B3, hh, fp), (Or, Ro, Ne, rn), Mr) = S3 at hP hD hbn
    have hP : va_P D vwCl [(qq, .inr (4, [.ref r0, .ref rx, .ref ry, .ref rt, .int (J ((S3.1.2.2.2 : Nat) : Int)), .int (J (b2i (S3.2.1.1))), .int (J (b2i (S3.2.1.2.1))), .ref rh, .ref ra, .ref rb, .ref rc, .int (J ((S3.2.1.2.2.2.1 : Nat) : Int)), .int (J ((S3.2.1.2.2.2.2.2.2.2 : Nat) : Int)), .int (J (b2i (S3.2.2.1.1))), .int (J (b2i (S3.2.2.1.2.1))), .ref sa, .ref sb, .ref sc, .int (J ((S3.2.2.1.2.2.2.2.2.1 : Nat) : Int)), .int (J ((S3.2.2.1.2.2.2.2.2.2 : Nat) : Int)), .ref so, .ref sr, .ref sw, .int (J ((S3.2.2.2.1.2.2.2 : Nat) : Int))])), (r0, .inl (cI, 7, .inl (fun z9 => J ((S3.2.2.2.2 z9 : Nat) : Int)))), (rx, .inl (cI, 40, .inl (fun z9 => J (S3.1.1 z9)))), (ry, .inl (cI, 40, .inl (fun z9 => J (S3.1.2.1 z9)))), (rt, .inl (cZ, 40, .inl (fun z9 => J (b2i (S3.1.2.2.1 z9))))), (rh, .inl (cI, 41, .inl (fun z9 => J ((S3.2.1.2.2.1 z9 : Nat) : Int)))), (ra, .inl (cI, 120, .inl (fun z9 => J ((S3.2.1.2.2.2.2.1 z9 : Nat) : Int)))), (rb, .inl (cI, 120, .inl (fun z9 => J ((S3.2.1.2.2.2.2.2.1 z9 : Nat) : Int)))), (rc, .inl (cI, 120, .inl (fun z9 => J ((S3.2.1.2.2.2.2.2.2.1 z9 : Nat) : Int)))), (sa, .inl (cI, 120, .inl (fun z9 => J ((S3.2.2.1.2.2.1 z9 : Nat) : Int)))), (sb, .inl (cI, 120, .inl (fun z9 => J ((S3.2.2.1.2.2.2.1 z9 : Nat) : Int)))), (sc, .inl (cI, 120, .inl (fun z9 => J ((S3.2.2.1.2.2.2.2.1 z9 : Nat) : Int)))), (so, .inl (cI, 40, .inl (fun z9 => J ((S3.2.2.2.1.1 z9 : Nat) : Int)))), (sr, .inl (cI, 80, .inl (fun z9 => J ((S3.2.2.2.1.2.1 z9 : Nat) : Int)))), (sw, .inl (cI, 80, .inl (fun z9 => J ((S3.2.2.2.1.2.2.1 z9 : Nat) : Int))))] H := hP
    have hD : va_D _ [(qq, .inr (4, [.ref r0, .ref rx, .ref ry, .ref rt, .int (J ((S3.1.2.2.2 : Nat) : Int)), .int (J (b2i (S3.2.1.1))), .int (J (b2i (S3.2.1.2.1))), .ref rh, .ref ra, .ref rb, .ref rc, .int (J ((S3.2.1.2.2.2.1 : Nat) : Int)), .int (J ((S3.2.1.2.2.2.2.2.2.2 : Nat) : Int)), .int (J (b2i (S3.2.2.1.1))), .int (J (b2i (S3.2.2.1.2.1))), .ref sa, .ref sb, .ref sc, .int (J ((S3.2.2.1.2.2.2.2.2.1 : Nat) : Int)), .int (J ((S3.2.2.1.2.2.2.2.2.2 : Nat) : Int)), .ref so, .ref sr, .ref sw, .int (J ((S3.2.2.2.1.2.2.2 : Nat) : Int))])), (r0, .inl (cI, 7, .inl (fun z9 => J ((S3.2.2.2.2 z9 : Nat) : Int)))), (rx, .inl (cI, 40, .inl (fun z9 => J (S3.1.1 z9)))), (ry, .inl (cI, 40, .inl (fun z9 => J (S3.1.2.1 z9)))), (rt, .inl (cZ, 40, .inl (fun z9 => J (b2i (S3.1.2.2.1 z9))))), (rh, .inl (cI, 41, .inl (fun z9 => J ((S3.2.1.2.2.1 z9 : Nat) : Int)))), (ra, .inl (cI, 120, .inl (fun z9 => J ((S3.2.1.2.2.2.2.1 z9 : Nat) : Int)))), (rb, .inl (cI, 120, .inl (fun z9 => J ((S3.2.1.2.2.2.2.2.1 z9 : Nat) : Int)))), (rc, .inl (cI, 120, .inl (fun z9 => J ((S3.2.1.2.2.2.2.2.2.1 z9 : Nat) : Int)))), (sa, .inl (cI, 120, .inl (fun z9 => J ((S3.2.2.1.2.2.1 z9 : Nat) : Int)))), (sb, .inl (cI, 120, .inl (fun z9 => J ((S3.2.2.1.2.2.2.1 z9 : Nat) : Int)))), (sc, .inl (cI, 120, .inl (fun z9 => J ((S3.2.2.1.2.2.2.2.1 z9 : Nat) : Int)))), (so, .inl (cI, 40, .inl (fun z9 => J ((S3.2.2.2.1.1 z9 : Nat) : Int)))), (sr, .inl (cI, 80, .inl (fun z9 => J ((S3.2.2.2.1.2.1 z9 : Nat) : Int)))), (sw, .inl (cI, 80, .inl (fun z9 => J ((S3.2.2.2.1.2.2.1 z9 : Nat) : Int))))] := hD
    show W _ _ _ _ _ _ _ _ _ _ _ _ _ _ _ (F0 m 13 ls [.int (J (-3))])
    have hRS3 : RI ((S3.1.1, S3.1.2.1, S3.1.2.2.1, S3.1.2.2.2), (S3.2.1.1, S3.2.1.2.1, S3.2.1.2.2.1, S3.2.1.2.2.2.1, S3.2.1.2.2.2.2.1, S3.2.1.2.2.2.2.2.1, S3.2.1.2.2.2.2.2.2.1, S3.2.1.2.2.2.2.2.2.2), (S3.2.2.1.1, S3.2.2.1.2.1, S3.2.2.1.2.2.1, S3.2.2.1.2.2.2.1, S3.2.2.1.2.2.2.2.1, S3.2.2.1.2.2.2.2.2.1, S3.2.2.1.2.2.2.2.2.2), (S3.2.2.2.1.1, S3.2.2.2.1.2.1, S3.2.2.2.1.2.2.1, S3.2.2.2.1.2.2.2), S3.2.2.2.2) := hbn
    have hX : ∀ i, -10000 ≤ S3.1.1 i ∧ S3.1.1 i ≤ 10000 := hRS3.1
    have hY : ∀ i, -10000 ≤ S3.1.2.1 i ∧ S3.1.2.1 i ≤ 10000 := hRS3.2.1
    have hpn : S3.1.2.2.2 ≤ 40 := hRS3.2.2.1
    have hHu : ∀ i, S3.2.1.2.2.1 i < 40 := hRS3.2.2.2.1
    have hhn : S3.2.1.2.2.2.1 ≤ 41 := hRS3.2.2.2.2.1
    have hA1 : ∀ i, S3.2.1.2.2.2.2.1 i < 40 := hRS3.2.2.2.2.2.1
    have hA2 : ∀ i, S3.2.1.2.2.2.2.2.1 i < 40 := hRS3.2.2.2.2.2.2.1
    have hA3 : ∀ i, S3.2.1.2.2.2.2.2.2.1 i < 40 := hRS3.2.2.2.2.2.2.2.1
    have hmn : S3.2.1.2.2.2.2.2.2.2 ≤ 120 := hRS3.2.2.2.2.2.2.2.2.1
    have hB1 : ∀ i, S3.2.2.1.2.2.1 i < 40 := hRS3.2.2.2.2.2.2.2.2.2.1
    have hB2 : ∀ i, S3.2.2.1.2.2.2.1 i < 40 := hRS3.2.2.2.2.2.2.2.2.2.2.1
    have hB3 : ∀ i, S3.2.2.1.2.2.2.2.1 i < 40 := hRS3.2.2.2.2.2.2.2.2.2.2.2.1
    have hhh : S3.2.2.1.2.2.2.2.2.1 ≤ 120 := hRS3.2.2.2.2.2.2.2.2.2.2.2.2.1
    have hOr : ∀ i, S3.2.2.2.1.1 i < 40 := hRS3.2.2.2.2.2.2.2.2.2.2.2.2.2.1
    have hRo : ∀ i, S3.2.2.2.1.2.1 i < 40 := hRS3.2.2.2.2.2.2.2.2.2.2.2.2.2.2.1
    have hNe : ∀ i, S3.2.2.2.1.2.2.1 i < 40 := hRS3.2.2.2.2.2.2.2.2.2.2.2.2.2.2.2.1
    have hrn : S3.2.2.2.1.2.2.2 ≤ 80 := hRS3.2.2.2.2.2.2.2.2.2.2.2.2.2.2.2.2
    exact jw_iret C hlk hr dX4_alike_13 (by rw [show rpAlike ((Px, Py, Mt, pn), (kn, fl, Hu, hn, A1, A2, A3, mn), (hd, sd, B1, B2, B3, hh, fp), (Or, Ro, Ne, rn), Mr) = ((-3), ((S3.1.1, S3.1.2.1, S3.1.2.2.1, S3.1.2.2.2), (S3.2.1.1, S3.2.1.2.1, S3.2.1.2.2.1, S3.2.1.2.2.2.1, S3.2.1.2.2.2.2.1, S3.2.1.2.2.2.2.2.1, S3.2.1.2.2.2.2.2.2.1, S3.2.1.2.2.2.2.2.2.2), (S3.2.2.1.1, S3.2.2.1.2.1, S3.2.2.1.2.2.1, S3.2.2.1.2.2.2.1, S3.2.2.1.2.2.2.2.1, S3.2.2.1.2.2.2.2.2.1, S3.2.2.1.2.2.2.2.2.2), (S3.2.2.2.1.1, S3.2.2.2.1.2.1, S3.2.2.2.1.2.2.1, S3.2.2.2.1.2.2.2), S3.2.2.2.2)) from (if_pos (by (try dsimp only); first | assumption | exact bt_nf (by assumption) | exact bf_nt (by assumption) | exact of_decide_eq_true (by assumption) | exact of_decide_eq_false (by assumption) | omega)).trans (by rw [← hS3])]) (by rw [show rpAlike ((Px, Py, Mt, pn), (kn, fl, Hu, hn, A1, A2, A3, mn), (hd, sd, B1, B2, B3, hh, fp), (Or, Ro, Ne, rn), Mr) = ((-3), ((S3.1.1, S3.1.2.1, S3.1.2.2.1, S3.1.2.2.2), (S3.2.1.1, S3.2.1.2.1, S3.2.1.2.2.1, S3.2.1.2.2.2.1, S3.2.1.2.2.2.2.1, S3.2.1.2.2.2.2.2.1, S3.2.1.2.2.2.2.2.2.1, S3.2.1.2.2.2.2.2.2.2), (S3.2.2.1.1, S3.2.2.1.2.1, S3.2.2.1.2.2.1, S3.2.2.1.2.2.2.1, S3.2.2.1.2.2.2.2.1, S3.2.2.1.2.2.2.2.2.1, S3.2.2.1.2.2.2.2.2.2), (S3.2.2.2.1.1, S3.2.2.2.1.2.1, S3.2.2.2.1.2.2.1, S3.2.2.2.1.2.2.2), S3.2.2.2.2)) from (if_pos (by (try dsimp only); first | assumption | exact bt_nf (by assumption) | exact bf_nt (by assumption) | exact of_decide_eq_true (by assumption) | exact of_decide_eq_false (by assumption) | omega)).trans (by rw [← hS3])]; exact hP) hS
end REFI
