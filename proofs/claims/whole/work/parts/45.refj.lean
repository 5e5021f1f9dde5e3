/-- settling: the first bad edge -/
def stP (S : RS) (a b : Nat) : Bool := S.1.2.2.1 a && (S.1.2.2.1 b && (edG S.2.2.1.2.2.1 S.2.2.1.2.2.2.1 S.2.2.1.2.2.2.2.1 S.2.2.1.2.2.2.2.2.1 (a : Int) (b : Int) && decide (bdO S.1.1 S.1.2.1 S.2.2.1.2.2.1 S.2.2.1.2.2.2.1 S.2.2.1.2.2.2.2.1 S.2.2.1.2.2.2.2.2.1 a b = 2)))
def rS1 (S : RS) (a : Nat) : Bool × RS := if a < S.1.2.2.2 then (match ff (stP S a) S.1.2.2.2 (a + 1) with | some b => (true, rTov a b S) | none => rS1 S (a + 1)) else (false, S)
termination_by S.1.2.2.2 - a
def rS2 (S : RS) (a i : Nat) : Bool × RS := match ff (stP S a) S.1.2.2.2 i with | some b => (true, rTov a b S) | none => rS1 S (a + 1)
theorem rS1_end {S : RS} {a : Nat} (h : S.1.2.2.2 ≤ a) : rS1 S a = (false, S) := by rw [rS1, if_neg (by omega)]
theorem rS1_go {S : RS} {a : Nat} (h : a < S.1.2.2.2) : rS1 S a = rS2 S a (a + 1) := by rw [rS1, if_pos h]; rfl
theorem rS2_end {S : RS} {a i : Nat} (h : S.1.2.2.2 ≤ i) : rS2 S a i = rS1 S (a + 1) := by unfold rS2; rw [ff_end h]
theorem rS2_hit {S : RS} {a i : Nat} (h : i < S.1.2.2.2) (hp : stP S a i = true) : rS2 S a i = (true, rTov a i S) := by unfold rS2; rw [ff_hit h hp]
theorem rS2_no {S : RS} {a i : Nat} (h : i < S.1.2.2.2) (hp : stP S a i = false) : rS2 S a i = rS2 S a (i + 1) := by unfold rS2; rw [ff_go h hp]
def sOk (S : RS) : Prop := ∀ a b : Nat, stP S a b = true → tovOk a b S
def rSts (S : RS) : Bool × RS := rS1 S 0
theorem rS1_b {S : RS} (h : RI S) (ho : sOk S) : ∀ (k a : Nat), S.1.2.2.2 ≤ a + k → RI (rS1 S a).2 := by
  have hp : S.1.2.2.2 ≤ 40 := h.2.2.1
  intro k
  induction k with
  | zero => intro a q; rw [rS1_end (by omega)]; exact h
  | succ k ih =>
    intro a q
    rcases Nat.lt_or_ge a S.1.2.2.2 with z | z
    · rw [rS1_go z]; unfold rS2
      split
      · rename_i b hb
        have := ff_lt S.1.2.2.2 (a + 1) (by omega) b hb
        exact rTov_b h (by omega) (by omega) (ho a b this.2.2.1)
      · exact ih (a + 1) (by omega)
    · rw [rS1_end z]; exact h
theorem rSts_b {S : RS} (h : RI S) (ho : sOk S) : RI (rSts S).2 := rS1_b h ho S.1.2.2.2 0 (by omega)
def rSet : Nat → RS → Nat × RS
  | 0, S => (0, S)
  | f + 1, S => if (rSts S).1 = true then ((rSet f (rSts S).2).1 + 1, (rSet f (rSts S).2).2) else (0, (rSts S).2)
def stOk : Nat → RS → Prop
  | 0, _ => True
  | f + 1, S => sOk S ∧ ((rSts S).1 = true → stOk f (rSts S).2)
def rpSettle (n : Int) (S : RS) : Int × RS := if (S.2.2.1.1 && !S.2.2.1.2.1) = false then (-3, rRef (-3) S) else if n < 0 then (-4, rRef (-4) S) else if 10000 < n then (-6, rRef (-6) S) else (((rSet n.toNat S).1 : Int), (rSet n.toNat S).2)
section REFJ
variable {l : Launch} {D : va_G} {cI cZ : ClassId} {qq r0 rx ry rt rh ra rb rc sa sb sc so sr sw : Nat} {Px Py : Nat → Int} {Mt : Nat → Bool} {pn : Nat} {kn fl : Bool} {Hu : Nat → Nat} {hn : Nat} {A1 A2 A3 : Nat → Nat} {mn : Nat} {hd sd : Bool} {B1 B2 B3 : Nat → Nat} {hh fp : Nat} {Or Ro Ne : Nat → Nat} {rn : Nat} {Mr : Nat → Nat}
set_option maxRecDepth 20000 in
theorem lp_X4_settles_14 {p : Program} {e : Env} {s : State} {m : MethodId} {args : Array Value} {below : List Frame} {meth : Method} {c : Code} {WC : va_W} {a : Nat} {Rr : Bool × RS} (C : CallFix p m c cX4_settles 3 s args TB RX4) (hlk : meth.locks = false) (hr : meth.sig.returnType = (some .boolean)) (hK : va_K D vwCl (tyz cI cZ) s) (hRI : RI ((Px, Py, Mt, pn), (kn, fl, Hu, hn, A1, A2, A3, mn), (hd, sd, B1, B2, B3, hh, fp), (Or, Ro, Ne, rn), Mr)) (ha : a < pn) (hok : sOk ((Px, Py, Mt, pn), (kn, fl, Hu, hn, A1, A2, A3, mn), (hd, sd, B1, B2, B3, hh, fp), (Or, Ro, Ne, rn), Mr)) (KK : Rr = rS1 ((Px, Py, Mt, pn), (kn, fl, Hu, hn, A1, A2, A3, mn), (hd, sd, B1, B2, B3, hh, fp), (Or, Ro, Ne, rn), Mr) (a + 1) → ∀ (H : Heap) (locs : List Loc), va_P D vwCl [(qq, .inr (4, [.ref r0, .ref rx, .ref ry, .ref rt, .int (J ((pn : Nat) : Int)), .int (J (b2i (kn))), .int (J (b2i (fl))), .ref rh, .ref ra, .ref rb, .ref rc, .int (J ((hn : Nat) : Int)), .int (J ((mn : Nat) : Int)), .int (J (b2i (hd))), .int (J (b2i (sd))), .ref sa, .ref sb, .ref sc, .int (J ((hh : Nat) : Int)), .int (J ((fp : Nat) : Int)), .ref so, .ref sr, .ref sw, .int (J ((rn : Nat) : Int))])), (r0, .inl (cI, 7, .inl (fun z9 => J ((Mr z9 : Nat) : Int)))), (rx, .inl (cI, 40, .inl (fun z9 => J (Px z9)))), (ry, .inl (cI, 40, .inl (fun z9 => J (Py z9)))), (rt, .inl (cZ, 40, .inl (fun z9 => J (b2i (Mt z9))))), (rh, .inl (cI, 41, .inl (fun z9 => J ((Hu z9 : Nat) : Int)))), (ra, .inl (cI, 120, .inl (fun z9 => J ((A1 z9 : Nat) : Int)))), (rb, .inl (cI, 120, .inl (fun z9 => J ((A2 z9 : Nat) : Int)))), (rc, .inl (cI, 120, .inl (fun z9 => J ((A3 z9 : Nat) : Int)))), (sa, .inl (cI, 120, .inl (fun z9 => J ((B1 z9 : Nat) : Int)))), (sb, .inl (cI, 120, .inl (fun z9 => J ((B2 z9 : Nat) : Int)))), (sc, .inl (cI, 120, .inl (fun z9 => J ((B3 z9 : Nat) : Int)))), (so, .inl (cI, 40, .inl (fun z9 => J ((Or z9 : Nat) : Int)))), (sr, .inl (cI, 80, .inl (fun z9 => J ((Ro z9 : Nat) : Int)))), (sw, .inl (cI, 80, .inl (fun z9 => J ((Ne z9 : Nat) : Int))))] H → va_D (inW WC) [(qq, .inr (4, [.ref r0, .ref rx, .ref ry, .ref rt, .int (J ((pn : Nat) : Int)), .int (J (b2i (kn))), .int (J (b2i (fl))), .ref rh, .ref ra, .ref rb, .ref rc, .int (J ((hn : Nat) : Int)), .int (J ((mn : Nat) : Int)), .int (J (b2i (hd))), .int (J (b2i (sd))), .ref sa, .ref sb, .ref sc, .int (J ((hh : Nat) : Int)), .int (J ((fp : Nat) : Int)), .ref so, .ref sr, .ref sw, .int (J ((rn : Nat) : Int))])), (r0, .inl (cI, 7, .inl (fun z9 => J ((Mr z9 : Nat) : Int)))), (rx, .inl (cI, 40, .inl (fun z9 => J (Px z9)))), (ry, .inl (cI, 40, .inl (fun z9 => J (Py z9)))), (rt, .inl (cZ, 40, .inl (fun z9 => J (b2i (Mt z9))))), (rh, .inl (cI, 41, .inl (fun z9 => J ((Hu z9 : Nat) : Int)))), (ra, .inl (cI, 120, .inl (fun z9 => J ((A1 z9 : Nat) : Int)))), (rb, .inl (cI, 120, .inl (fun z9 => J ((A2 z9 : Nat) : Int)))), (rc, .inl (cI, 120, .inl (fun z9 => J ((A3 z9 : Nat) : Int)))), (sa, .inl (cI, 120, .inl (fun z9 => J ((B1 z9 : Nat) : Int)))), (sb, .inl (cI, 120, .inl (fun z9 => J ((B2 z9 : Nat) : Int)))), (sc, .inl (cI, 120, .inl (fun z9 => J ((B3 z9 : Nat) : Int)))), (so, .inl (cI, 40, .inl (fun z9 => J ((Or z9 : Nat) : Int)))), (sr, .inl (cI, 80, .inl (fun z9 => J ((Ro z9 : Nat) : Int)))), (sw, .inl (cI, 80, .inl (fun z9 => J ((Ne z9 : Nat) : Int))))] → va_S (inW WC) s.heap H locs → ∀ ls : Array Slot, lv_has ls 3 [(0, .ref qq), (1, .int (J ((a + 1 : Nat) : Int)))] → W p l e { frames := 8, cells := 0, slots := 0, locals := 190 } s m args below meth c H locs 0 0 (MQ below (QW D WC (wRS cI cZ qq r0 rx ry rt rh ra rb rc sa sb sc so sr sw Rr.2) (some (.int (J (b2i Rr.1))))) args s 0 0 (inW WC)) (F0 m 2 ls [])) :
    ∀ (n : Nat) (i : Nat), pn < i + n → i ≤ pn → (Rr = rS2 ((Px, Py, Mt, pn), (kn, fl, Hu, hn, A1, A2, A3, mn), (hd, sd, B1, B2, B3, hh, fp), (Or, Ro, Ne, rn), Mr) a i) →  ∀ (H : Heap) (locs : List Loc), va_P D vwCl [(qq, .inr (4, [.ref r0, .ref rx, .ref ry, .ref rt, .int (J ((pn : Nat) : Int)), .int (J (b2i (kn))), .int (J (b2i (fl))), .ref rh, .ref ra, .ref rb, .ref rc, .int (J ((hn : Nat) : Int)), .int (J ((mn : Nat) : Int)), .int (J (b2i (hd))), .int (J (b2i (sd))), .ref sa, .ref sb, .ref sc, .int (J ((hh : Nat) : Int)), .int (J ((fp : Nat) : Int)), .ref so, .ref sr, .ref sw, .int (J ((rn : Nat) : Int))])), (r0, .inl (cI, 7, .inl (fun z9 => J ((Mr z9 : Nat) : Int)))), (rx, .inl (cI, 40, .inl (fun z9 => J (Px z9)))), (ry, .inl (cI, 40, .inl (fun z9 => J (Py z9)))), (rt, .inl (cZ, 40, .inl (fun z9 => J (b2i (Mt z9))))), (rh, .inl (cI, 41, .inl (fun z9 => J ((Hu z9 : Nat) : Int)))), (ra, .inl (cI, 120, .inl (fun z9 => J ((A1 z9 : Nat) : Int)))), (rb, .inl (cI, 120, .inl (fun z9 => J ((A2 z9 : Nat) : Int)))), (rc, .inl (cI, 120, .inl (fun z9 => J ((A3 z9 : Nat) : Int)))), (sa, .inl (cI, 120, .inl (fun z9 => J ((B1 z9 : Nat) : Int)))), (sb, .inl (cI, 120, .inl (fun z9 => J ((B2 z9 : Nat) : Int)))), (sc, .inl (cI, 120, .inl (fun z9 => J ((B3 z9 : Nat) : Int)))), (so, .inl (cI, 40, .inl (fun z9 => J ((Or z9 : Nat) : Int)))), (sr, .inl (cI, 80, .inl (fun z9 => J ((Ro z9 : Nat) : Int)))), (sw, .inl (cI, 80, .inl (fun z9 => J ((Ne z9 : Nat) : Int))))] H → va_D (inW WC) [(qq, .inr (4, [.ref r0, .ref rx, .ref ry, .ref rt, .int (J ((pn : Nat) : Int)), .int (J (b2i (kn))), .int (J (b2i (fl))), .ref rh, .ref ra, .ref rb, .ref rc, .int (J ((hn : Nat) : Int)), .int (J ((mn : Nat) : Int)), .int (J (b2i (hd))), .int (J (b2i (sd))), .ref sa, .ref sb, .ref sc, .int (J ((hh : Nat) : Int)), .int (J ((fp : Nat) : Int)), .ref so, .ref sr, .ref sw, .int (J ((rn : Nat) : Int))])), (r0, .inl (cI, 7, .inl (fun z9 => J ((Mr z9 : Nat) : Int)))), (rx, .inl (cI, 40, .inl (fun z9 => J (Px z9)))), (ry, .inl (cI, 40, .inl (fun z9 => J (Py z9)))), (rt, .inl (cZ, 40, .inl (fun z9 => J (b2i (Mt z9))))), (rh, .inl (cI, 41, .inl (fun z9 => J ((Hu z9 : Nat) : Int)))), (ra, .inl (cI, 120, .inl (fun z9 => J ((A1 z9 : Nat) : Int)))), (rb, .inl (cI, 120, .inl (fun z9 => J ((A2 z9 : Nat) : Int)))), (rc, .inl (cI, 120, .inl (fun z9 => J ((A3 z9 : Nat) : Int)))), (sa, .inl (cI, 120, .inl (fun z9 => J ((B1 z9 : Nat) : Int)))), (sb, .inl (cI, 120, .inl (fun z9 => J ((B2 z9 : Nat) : Int)))), (sc, .inl (cI, 120, .inl (fun z9 => J ((B3 z9 : Nat) : Int)))), (so, .inl (cI, 40, .inl (fun z9 => J ((Or z9 : Nat) : Int)))), (sr, .inl (cI, 80, .inl (fun z9 => J ((Ro z9 : Nat) : Int)))), (sw, .inl (cI, 80, .inl (fun z9 => J ((Ne z9 : Nat) : Int))))] → va_S (inW WC) s.heap H locs → ∀ ls : Array Slot, lv_has ls 3 [(0, .ref qq), (1, .int (J ((a : Nat) : Int))), (2, .int (J ((i : Nat) : Int)))] → W p l e { frames := 8, cells := 0, slots := 0, locals := 190 } s m args below meth c H locs 0 0 (MQ below (QW D WC (wRS cI cZ qq r0 rx ry rt rh ra rb rc sa sb sc so sr sw Rr.2) (some (.int (J (b2i (Rr.1)))))) args s 0 0 (inW WC)) (F0 m 14 ls []) := by
  have hX : ∀ i, -10000 ≤ Px i ∧ Px i ≤ 10000 := hRI.1
  have hY : ∀ i, -10000 ≤ Py i ∧ Py i ≤ 10000 := hRI.2.1
  have hpn : pn ≤ 40 := hRI.2.2.1
  have hHu : ∀ i, Hu i < 40 := hRI.2.2.2.1
  have hhn : hn ≤ 41 := hRI.2.2.2.2.1
  have hA1 : ∀ i, A1 i < 40 := hRI.2.2.2.2.2.1
  have hA2 : ∀ i, A2 i < 40 := hRI.2.2.2.2.2.2.1
  have hA3 : ∀ i, A3 i < 40 := hRI.2.2.2.2.2.2.2.1
  have hmn : mn ≤ 120 := hRI.2.2.2.2.2.2.2.2.1
  have hB1 : ∀ i, B1 i < 40 := hRI.2.2.2.2.2.2.2.2.2.1
  have hB2 : ∀ i, B2 i < 40 := hRI.2.2.2.2.2.2.2.2.2.2.1
  have hB3 : ∀ i, B3 i < 40 := hRI.2.2.2.2.2.2.2.2.2.2.2.1
  have hhh : hh ≤ 120 := hRI.2.2.2.2.2.2.2.2.2.2.2.2.1
  have hOr : ∀ i, Or i < 40 := hRI.2.2.2.2.2.2.2.2.2.2.2.2.2.1
  have hRo : ∀ i, Ro i < 40 := hRI.2.2.2.2.2.2.2.2.2.2.2.2.2.2.1
  have hNe : ∀ i, Ne i < 40 := hRI.2.2.2.2.2.2.2.2.2.2.2.2.2.2.2.1
  have hrn : rn ≤ 80 := hRI.2.2.2.2.2.2.2.2.2.2.2.2.2.2.2.2
  intro n
  induction n with
  | zero => intro i hi0 hi1 hi2; omega
  | succ n ih =>
    intro i hi0 hi1 hi2  H locs hP hD hS ls hl
    refine lv_iload_n C.1 C.2.1 dX4_settles_14 rfl (lv_at hl 2 rfl) ?_
    refine lv_aload_n C.1 C.2.1 dX4_settles_15 rfl (lv_at hl 0 rfl) ?_
    refine jv_get C fw_X4_58 hK hP 0 rfl rfl dX4_settles_16 ?_
    refine jv_icmp_ge (tgt := 76) C dX4_settles_19 (by decide) (by omega) (fun h1 => ?_) (fun h1 => ?_)
    · refine lv_iinc (v := J (((a + 1 : Nat) : Int))) (lv' := [(1, .int (J ((a + 1 : Nat) : Int))), (0, .ref qq), (2, .int (J ((i : Nat) : Int)))]) C.1 C.2.1 dX4_settles_76 hl (k := 1) rfl (by rw [show Int32.ofInt 1 = J 1 from rfl, J_add]; exact congrArg J (by omega)) (by decide) rfl (fun ls hl => ?_)
      refine lv_goto (tgt := 2) C.1 C.2.1 dX4_settles_79 (by decide) ?_
      exact KK (by rw [hi2, rS2_end (by show pn ≤ i; omega)]) H locs hP hD hS ls (lv_sub hl [1, 0] rfl)
    · refine lv_aload_n C.1 C.2.1 dX4_settles_22 rfl (lv_at hl 0 rfl) ?_
      refine jv_get C fw_X4_19 hK hP 0 rfl rfl dX4_settles_23 ?_
      refine lv_iload_n C.1 C.2.1 dX4_settles_26 rfl (lv_at hl 1 rfl) ?_
      refine jv_zald C hK hP 4 1 rfl rfl (a) (by omega) (by omega) (by decide) dX4_settles_27 ?_
      refine jv_bif_eq (tgt := 70) C dX4_settles_28 (by decide) (fun h2 => ?_) (fun h2 => ?_)
      · refine lv_iinc (v := J (((i + 1 : Nat) : Int))) (lv' := [(2, .int (J ((i + 1 : Nat) : Int))), (0, .ref qq), (1, .int (J ((a : Nat) : Int)))]) C.1 C.2.1 dX4_settles_70 hl (k := 2) rfl (by rw [show Int32.ofInt 1 = J 1 from rfl, J_add]; exact congrArg J (by omega)) (by decide) rfl (fun ls hl => ?_)
        refine lv_goto (tgt := 14) C.1 C.2.1 dX4_settles_73 (by decide) ?_
        exact ih (i + 1) (by omega) (by omega) (by rw [hi2, rS2_no (by show i < pn; omega) (by rw [show stP ((Px, Py, Mt, pn), (kn, fl, Hu, hn, A1, A2, A3, mn), (hd, sd, B1, B2, B3, hh, fp), (Or, Ro, Ne, rn), Mr) a i = (Mt a && _) from rfl, h2]; rfl)]) H locs hP hD hS ls (lv_sub hl [1, 2, 0] rfl)
      · refine lv_aload_n C.1 C.2.1 dX4_settles_31 rfl (lv_at hl 0 rfl) ?_
        refine jv_get C fw_X4_19 hK hP 0 rfl rfl dX4_settles_32 ?_
        refine lv_iload_n C.1 C.2.1 dX4_settles_35 rfl (lv_at hl 2 rfl) ?_
        refine jv_zald C hK hP 4 1 rfl rfl (i) (by omega) (by omega) (by decide) dX4_settles_36 ?_
        refine jv_bif_eq (tgt := 70) C dX4_settles_37 (by decide) (fun h3 => ?_) (fun h3 => ?_)
        · refine lv_iinc (v := J (((i + 1 : Nat) : Int))) (lv' := [(2, .int (J ((i + 1 : Nat) : Int))), (0, .ref qq), (1, .int (J ((a : Nat) : Int)))]) C.1 C.2.1 dX4_settles_70 hl (k := 2) rfl (by rw [show Int32.ofInt 1 = J 1 from rfl, J_add]; exact congrArg J (by omega)) (by decide) rfl (fun ls hl => ?_)
          refine lv_goto (tgt := 14) C.1 C.2.1 dX4_settles_73 (by decide) ?_
          exact ih (i + 1) (by omega) (by omega) (by rw [hi2, rS2_no (by show i < pn; omega) (by unfold stP; dsimp only; rw [h3, Bool.false_and, Bool.and_false])]) H locs hP hD hS ls (lv_sub hl [1, 2, 0] rfl)
        · refine lv_aload_n C.1 C.2.1 dX4_settles_40 rfl (lv_at hl 0 rfl) ?_
          refine lv_iload_n C.1 C.2.1 dX4_settles_41 rfl (lv_at hl 1 rfl) ?_
          refine lv_iload_n C.1 C.2.1 dX4_settles_42 rfl (lv_at hl 2 rfl) ?_
          refine jv_rdV (ni := 2) (ci := 4) (q0 := 0) C [.int (J ((a : Nat) : Int)), .int (J ((i : Nat) : Int))] [] (c_X4_isEdge (Px := Px) (Py := Py) (Mt := Mt) (pn := pn) (kn := kn) (fl := fl) (Hu := Hu) (hn := hn) (A1 := A1) (A2 := A2) (A3 := A3) (mn := mn) (hd := hd) (sd := sd) (B1 := B1) (B2 := B2) (B3 := B3) (hh := hh) (fp := fp) (Or := Or) (Ro := Ro) (Ne := Ne) (rn := rn) (Mr := Mr) hRI (a := ((a : Nat) : Int)) (b := ((i : Nat) : Int)) (by omega) (by omega)) gv_X4_218 (by decide +kernel) (by decide) hK (hP) rfl rfl rfl hl.1 (by simp [Value.category]) dX4_settles_43 (by decide) ?_ rfl
          show W _ _ _ _ _ _ _ _ _ _ _ _ _ _ _ (F0 m 46 ls [.int (J (b2i (edG B1 B2 B3 hh ((a : Nat) : Int) ((i : Nat) : Int))))])
          refine jv_bif_eq (tgt := 70) C dX4_settles_46 (by decide) (fun h4 => ?_) (fun h4 => ?_)
          · refine lv_iinc (v := J (((i + 1 : Nat) : Int))) (lv' := [(2, .int (J ((i + 1 : Nat) : Int))), (0, .ref qq), (1, .int (J ((a : Nat) : Int)))]) C.1 C.2.1 dX4_settles_70 hl (k := 2) rfl (by rw [show Int32.ofInt 1 = J 1 from rfl, J_add]; exact congrArg J (by omega)) (by decide) rfl (fun ls hl => ?_)
            refine lv_goto (tgt := 14) C.1 C.2.1 dX4_settles_73 (by decide) ?_
            exact ih (i + 1) (by omega) (by omega) (by rw [hi2, rS2_no (by show i < pn; omega) (by unfold stP; dsimp only; rw [h4, Bool.false_and, Bool.and_false, Bool.and_false])]) H locs hP hD hS ls (lv_sub hl [1, 2, 0] rfl)
          · refine lv_aload_n C.1 C.2.1 dX4_settles_49 rfl (lv_at hl 0 rfl) ?_
            refine lv_iload_n C.1 C.2.1 dX4_settles_50 rfl (lv_at hl 1 rfl) ?_
            refine lv_iload_n C.1 C.2.1 dX4_settles_51 rfl (lv_at hl 2 rfl) ?_
            refine jv_rdV (ni := 2) (ci := 4) (q0 := 0) C [.int (J ((a : Nat) : Int)), .int (J ((i : Nat) : Int))] [] (c_X4_badOf (Px := Px) (Py := Py) (Mt := Mt) (pn := pn) (kn := kn) (fl := fl) (Hu := Hu) (hn := hn) (A1 := A1) (A2 := A2) (A3 := A3) (mn := mn) (hd := hd) (sd := sd) (B1 := B1) (B2 := B2) (B3 := B3) (hh := hh) (fp := fp) (Or := Or) (Ro := Ro) (Ne := Ne) (rn := rn) (Mr := Mr) hRI (a := a) (b := i) (by omega) (by omega)) gv_X4_221 (by decide +kernel) (by decide) hK (hP) rfl rfl rfl hl.1 (by simp [Value.category]) dX4_settles_52 (by decide) ?_ rfl
            show W _ _ _ _ _ _ _ _ _ _ _ _ _ _ _ (F0 m 55 ls [.int (J (bdO Px Py B1 B2 B3 hh a i))])
            have f5 := bdO_v Px Py B1 B2 B3 hh a i
            refine jv_iconst C dX4_settles_55 ?_
            refine jv_icmp_eq (tgt := 62) C dX4_settles_56 (by decide) (by omega) (fun h6 => ?_) (fun h6 => ?_)
            · have hsp : stP ((Px, Py, Mt, pn), (kn, fl, Hu, hn, A1, A2, A3, mn), (hd, sd, B1, B2, B3, hh, fp), (Or, Ro, Ne, rn), Mr) a i = true := by unfold stP; dsimp only; rw [h2, h3, h4, decide_eq_true (by omega)]; rfl
              have hto := hok a i hsp
              refine lv_aload_n C.1 C.2.1 dX4_settles_62 rfl (lv_at hl 0 rfl) ?_
              refine lv_iload_n C.1 C.2.1 dX4_settles_63 rfl (lv_at hl 1 rfl) ?_
              refine lv_iload_n C.1 C.2.1 dX4_settles_64 rfl (lv_at hl 2 rfl) ?_
              refine jv_waV (ni := 2) (ci := 4) (q0 := 0) (wc := (wRS cI cZ qq r0 rx ry rt rh ra rb rc sa sb sc so sr sw ((Px, Py, Mt, pn), (kn, fl, Hu, hn, A1, A2, A3, mn), (hd, sd, B1, B2, B3, hh, fp), (Or, Ro, Ne, rn), Mr))) (wd := (wRS cI cZ qq r0 rx ry rt rh ra rb rc sa sb sc so sr sw (rTov a i ((Px, Py, Mt, pn), (kn, fl, Hu, hn, A1, A2, A3, mn), (hd, sd, B1, B2, B3, hh, fp), (Or, Ro, Ne, rn), Mr)))) C [.int (J ((a : Nat) : Int)), .int (J ((i : Nat) : Int))] [] (c_X4_turnsOver (Px := Px) (Py := Py) (Mt := Mt) (pn := pn) (kn := kn) (fl := fl) (Hu := Hu) (hn := hn) (A1 := A1) (A2 := A2) (A3 := A3) (mn := mn) (hd := hd) (sd := sd) (B1 := B1) (B2 := B2) (B3 := B3) (hh := hh) (fp := fp) (Or := Or) (Ro := Ro) (Ne := Ne) (rn := rn) (Mr := Mr) hRI (a := a) (b := i) (by omega) (by omega) hto) gv_X4_230 (by decide +kernel) (by decide) hK hP hD hS rfl rfl rfl rfl hl.1 (by simp [Value.category]) dX4_settles_65 (by decide) (fun H locs hP hD hS => ?_) rfl
              have hbn := rTov_b (a := a) (b := i) hRI (by omega) (by omega) hto
              generalize hS7 : rTov a i ((Px, Py, Mt, pn), (kn, fl, Hu, hn, A1, A2, A3, mn), (hd, sd, B1, B2, B3, hh, fp), (Or, Ro, Ne, rn), Mr) = S7 at hP hD hbn
              have hP : va_P D vwCl [(qq, .inr (4, [.ref r0, .ref rx, .ref ry, .ref rt, .int (J ((S7.1.2.2.2 : Nat) : Int)), .int (J (b2i (S7.2.1.1))), .int (J (b2i (S7.2.1.2.1))), .ref rh, .ref ra, .ref rb, .ref rc, .int (J ((S7.2.1.2.2.2.1 : Nat) : Int)), .int (J ((S7.2.1.2.2.2.2.2.2.2 : Nat) : Int)), .int (J (b2i (S7.2.2.1.1))), .int (J (b2i (S7.2.2.1.2.1))), .ref sa, .ref sb, .ref sc, .int (J ((S7.2.2.1.2.2.2.2.2.1 : Nat) : Int)), .int (J ((S7.2.2.1.2.2.2.2.2.2 : Nat) : Int)), .ref so, .ref sr, .ref sw, .int (J ((S7.2.2.2.1.2.2.2 : Nat) : Int))])), (r0, .inl (cI, 7, .inl (fun z9 => J ((S7.2.2.2.2 z9 : Nat) : Int)))), (rx, .inl (cI, 40, .inl (fun z9 => J (S7.1.1 z9)))), (ry, .inl (cI, 40, .inl (fun z9 => J (S7.1.2.1 z9)))), (rt, .inl (cZ, 40, .inl (fun z9 => J (b2i (S7.1.2.2.1 z9))))), (rh, .inl (cI, 41, .inl (fun z9 => J ((S7.2.1.2.2.1 z9 : Nat) : Int)))), (ra, .inl (cI, 120, .inl (fun z9 => J ((S7.2.1.2.2.2.2.1 z9 : Nat) : Int)))), (rb, .inl (cI, 120, .inl (fun z9 => J ((S7.2.1.2.2.2.2.2.1 z9 : Nat) : Int)))), (rc, .inl (cI, 120, .inl (fun z9 => J ((S7.2.1.2.2.2.2.2.2.1 z9 : Nat) : Int)))), (sa, .inl (cI, 120, .inl (fun z9 => J ((S7.2.2.1.2.2.1 z9 : Nat) : Int)))), (sb, .inl (cI, 120, .inl (fun z9 => J ((S7.2.2.1.2.2.2.1 z9 : Nat) : Int)))), (sc, .inl (cI, 120, .inl (fun z9 => J ((S7.2.2.1.2.2.2.2.1 z9 : Nat) : Int)))), (so, .inl (cI, 40, .inl (fun z9 => J ((S7.2.2.2.1.1 z9 : Nat) : Int)))), (sr, .inl (cI, 80, .inl (fun z9 => J ((S7.2.2.2.1.2.1 z9 : Nat) : Int)))), (sw, .inl (cI, 80, .inl (fun z9 => J ((S7.2.2.2.1.2.2.1 z9 : Nat) : Int))))] H := hP
              have hD : va_D _ [(qq, .inr (4, [.ref r0, .ref rx, .ref ry, .ref rt, .int (J ((S7.1.2.2.2 : Nat) : Int)), .int (J (b2i (S7.2.1.1))), .int (J (b2i (S7.2.1.2.1))), .ref rh, .ref ra, .ref rb, .ref rc, .int (J ((S7.2.1.2.2.2.1 : Nat) : Int)), .int (J ((S7.2.1.2.2.2.2.2.2.2 : Nat) : Int)), .int (J (b2i (S7.2.2.1.1))), .int (J (b2i (S7.2.2.1.2.1))), .ref sa, .ref sb, .ref sc, .int (J ((S7.2.2.1.2.2.2.2.2.1 : Nat) : Int)), .int (J ((S7.2.2.1.2.2.2.2.2.2 : Nat) : Int)), .ref so, .ref sr, .ref sw, .int (J ((S7.2.2.2.1.2.2.2 : Nat) : Int))])), (r0, .inl (cI, 7, .inl (fun z9 => J ((S7.2.2.2.2 z9 : Nat) : Int)))), (rx, .inl (cI, 40, .inl (fun z9 => J (S7.1.1 z9)))), (ry, .inl (cI, 40, .inl (fun z9 => J (S7.1.2.1 z9)))), (rt, .inl (cZ, 40, .inl (fun z9 => J (b2i (S7.1.2.2.1 z9))))), (rh, .inl (cI, 41, .inl (fun z9 => J ((S7.2.1.2.2.1 z9 : Nat) : Int)))), (ra, .inl (cI, 120, .inl (fun z9 => J ((S7.2.1.2.2.2.2.1 z9 : Nat) : Int)))), (rb, .inl (cI, 120, .inl (fun z9 => J ((S7.2.1.2.2.2.2.2.1 z9 : Nat) : Int)))), (rc, .inl (cI, 120, .inl (fun z9 => J ((S7.2.1.2.2.2.2.2.2.1 z9 : Nat) : Int)))), (sa, .inl (cI, 120, .inl (fun z9 => J ((S7.2.2.1.2.2.1 z9 : Nat) : Int)))), (sb, .inl (cI, 120, .inl (fun z9 => J ((S7.2.2.1.2.2.2.1 z9 : Nat) : Int)))), (sc, .inl (cI, 120, .inl (fun z9 => J ((S7.2.2.1.2.2.2.2.1 z9 : Nat) : Int)))), (so, .inl (cI, 40, .inl (fun z9 => J ((S7.2.2.2.1.1 z9 : Nat) : Int)))), (sr, .inl (cI, 80, .inl (fun z9 => J ((S7.2.2.2.1.2.1 z9 : Nat) : Int)))), (sw, .inl (cI, 80, .inl (fun z9 => J ((S7.2.2.2.1.2.2.1 z9 : Nat) : Int))))] := hD
              show W _ _ _ _ _ _ _ _ _ _ _ _ _ _ _ (F0 m 68 ls [])
              have hRS7 : RI ((S7.1.1, S7.1.2.1, S7.1.2.2.1, S7.1.2.2.2), (S7.2.1.1, S7.2.1.2.1, S7.2.1.2.2.1, S7.2.1.2.2.2.1, S7.2.1.2.2.2.2.1, S7.2.1.2.2.2.2.2.1, S7.2.1.2.2.2.2.2.2.1, S7.2.1.2.2.2.2.2.2.2), (S7.2.2.1.1, S7.2.2.1.2.1, S7.2.2.1.2.2.1, S7.2.2.1.2.2.2.1, S7.2.2.1.2.2.2.2.1, S7.2.2.1.2.2.2.2.2.1, S7.2.2.1.2.2.2.2.2.2), (S7.2.2.2.1.1, S7.2.2.2.1.2.1, S7.2.2.2.1.2.2.1, S7.2.2.2.1.2.2.2), S7.2.2.2.2) := hbn
              have hX : ∀ i, -10000 ≤ S7.1.1 i ∧ S7.1.1 i ≤ 10000 := hRS7.1
              have hY : ∀ i, -10000 ≤ S7.1.2.1 i ∧ S7.1.2.1 i ≤ 10000 := hRS7.2.1
              have hpn : S7.1.2.2.2 ≤ 40 := hRS7.2.2.1
              have hHu : ∀ i, S7.2.1.2.2.1 i < 40 := hRS7.2.2.2.1
              have hhn : S7.2.1.2.2.2.1 ≤ 41 := hRS7.2.2.2.2.1
              have hA1 : ∀ i, S7.2.1.2.2.2.2.1 i < 40 := hRS7.2.2.2.2.2.1
              have hA2 : ∀ i, S7.2.1.2.2.2.2.2.1 i < 40 := hRS7.2.2.2.2.2.2.1
              have hA3 : ∀ i, S7.2.1.2.2.2.2.2.2.1 i < 40 := hRS7.2.2.2.2.2.2.2.1
              have hmn : S7.2.1.2.2.2.2.2.2.2 ≤ 120 := hRS7.2.2.2.2.2.2.2.2.1
              have hB1 : ∀ i, S7.2.2.1.2.2.1 i < 40 := hRS7.2.2.2.2.2.2.2.2.2.1
              have hB2 : ∀ i, S7.2.2.1.2.2.2.1 i < 40 := hRS7.2.2.2.2.2.2.2.2.2.2.1
              have hB3 : ∀ i, S7.2.2.1.2.2.2.2.1 i < 40 := hRS7.2.2.2.2.2.2.2.2.2.2.2.1
              have hhh : S7.2.2.1.2.2.2.2.2.1 ≤ 120 := hRS7.2.2.2.2.2.2.2.2.2.2.2.2.1
              have hOr : ∀ i, S7.2.2.2.1.1 i < 40 := hRS7.2.2.2.2.2.2.2.2.2.2.2.2.2.1
              have hRo : ∀ i, S7.2.2.2.1.2.1 i < 40 := hRS7.2.2.2.2.2.2.2.2.2.2.2.2.2.2.1
              have hNe : ∀ i, S7.2.2.2.1.2.2.1 i < 40 := hRS7.2.2.2.2.2.2.2.2.2.2.2.2.2.2.2.1
              have hrn : S7.2.2.2.1.2.2.2 ≤ 80 := hRS7.2.2.2.2.2.2.2.2.2.2.2.2.2.2.2.2
              refine jv_iconst C dX4_settles_68 ?_
              exact jw_zret C hlk hr dX4_settles_69 (by rw [hi2, rS2_hit (by show i < pn; omega) hsp]; rfl) (by rw [hi2, rS2_hit (by show i < pn; omega) hsp, hS7]; exact hP) hS
            · refine lv_goto (tgt := 70) C.1 C.2.1 dX4_settles_59 (by decide) ?_
              refine lv_iinc (v := J (((i + 1 : Nat) : Int))) (lv' := [(2, .int (J ((i + 1 : Nat) : Int))), (0, .ref qq), (1, .int (J ((a : Nat) : Int)))]) C.1 C.2.1 dX4_settles_70 hl (k := 2) rfl (by rw [show Int32.ofInt 1 = J 1 from rfl, J_add]; exact congrArg J (by omega)) (by decide) rfl (fun ls hl => ?_)
              refine lv_goto (tgt := 14) C.1 C.2.1 dX4_settles_73 (by decide) ?_
              exact ih (i + 1) (by omega) (by omega) (by rw [hi2, rS2_no (by show i < pn; omega) (by unfold stP; dsimp only; rw [decide_eq_false (by omega), Bool.and_false, Bool.and_false, Bool.and_false])]) H locs hP hD hS ls (lv_sub hl [1, 2, 0] rfl)
set_option maxRecDepth 20000 in
theorem lp_X4_settles_2 {p : Program} {e : Env} {s : State} {m : MethodId} {args : Array Value} {below : List Frame} {meth : Method} {c : Code} {WC : va_W} {Rr : Bool × RS} (C : CallFix p m c cX4_settles 3 s args TB RX4) (hlk : meth.locks = false) (hr : meth.sig.returnType = (some .boolean)) (hK : va_K D vwCl (tyz cI cZ) s) (hRI : RI ((Px, Py, Mt, pn), (kn, fl, Hu, hn, A1, A2, A3, mn), (hd, sd, B1, B2, B3, hh, fp), (Or, Ro, Ne, rn), Mr)) (hok : sOk ((Px, Py, Mt, pn), (kn, fl, Hu, hn, A1, A2, A3, mn), (hd, sd, B1, B2, B3, hh, fp), (Or, Ro, Ne, rn), Mr)) :
    ∀ (n : Nat) (i : Nat), pn < i + n → i ≤ pn → (Rr = rS1 ((Px, Py, Mt, pn), (kn, fl, Hu, hn, A1, A2, A3, mn), (hd, sd, B1, B2, B3, hh, fp), (Or, Ro, Ne, rn), Mr) i) →  ∀ (H : Heap) (locs : List Loc), va_P D vwCl [(qq, .inr (4, [.ref r0, .ref rx, .ref ry, .ref rt, .int (J ((pn : Nat) : Int)), .int (J (b2i (kn))), .int (J (b2i (fl))), .ref rh, .ref ra, .ref rb, .ref rc, .int (J ((hn : Nat) : Int)), .int (J ((mn : Nat) : Int)), .int (J (b2i (hd))), .int (J (b2i (sd))), .ref sa, .ref sb, .ref sc, .int (J ((hh : Nat) : Int)), .int (J ((fp : Nat) : Int)), .ref so, .ref sr, .ref sw, .int (J ((rn : Nat) : Int))])), (r0, .inl (cI, 7, .inl (fun z9 => J ((Mr z9 : Nat) : Int)))), (rx, .inl (cI, 40, .inl (fun z9 => J (Px z9)))), (ry, .inl (cI, 40, .inl (fun z9 => J (Py z9)))), (rt, .inl (cZ, 40, .inl (fun z9 => J (b2i (Mt z9))))), (rh, .inl (cI, 41, .inl (fun z9 => J ((Hu z9 : Nat) : Int)))), (ra, .inl (cI, 120, .inl (fun z9 => J ((A1 z9 : Nat) : Int)))), (rb, .inl (cI, 120, .inl (fun z9 => J ((A2 z9 : Nat) : Int)))), (rc, .inl (cI, 120, .inl (fun z9 => J ((A3 z9 : Nat) : Int)))), (sa, .inl (cI, 120, .inl (fun z9 => J ((B1 z9 : Nat) : Int)))), (sb, .inl (cI, 120, .inl (fun z9 => J ((B2 z9 : Nat) : Int)))), (sc, .inl (cI, 120, .inl (fun z9 => J ((B3 z9 : Nat) : Int)))), (so, .inl (cI, 40, .inl (fun z9 => J ((Or z9 : Nat) : Int)))), (sr, .inl (cI, 80, .inl (fun z9 => J ((Ro z9 : Nat) : Int)))), (sw, .inl (cI, 80, .inl (fun z9 => J ((Ne z9 : Nat) : Int))))] H → va_D (inW WC) [(qq, .inr (4, [.ref r0, .ref rx, .ref ry, .ref rt, .int (J ((pn : Nat) : Int)), .int (J (b2i (kn))), .int (J (b2i (fl))), .ref rh, .ref ra, .ref rb, .ref rc, .int (J ((hn : Nat) : Int)), .int (J ((mn : Nat) : Int)), .int (J (b2i (hd))), .int (J (b2i (sd))), .ref sa, .ref sb, .ref sc, .int (J ((hh : Nat) : Int)), .int (J ((fp : Nat) : Int)), .ref so, .ref sr, .ref sw, .int (J ((rn : Nat) : Int))])), (r0, .inl (cI, 7, .inl (fun z9 => J ((Mr z9 : Nat) : Int)))), (rx, .inl (cI, 40, .inl (fun z9 => J (Px z9)))), (ry, .inl (cI, 40, .inl (fun z9 => J (Py z9)))), (rt, .inl (cZ, 40, .inl (fun z9 => J (b2i (Mt z9))))), (rh, .inl (cI, 41, .inl (fun z9 => J ((Hu z9 : Nat) : Int)))), (ra, .inl (cI, 120, .inl (fun z9 => J ((A1 z9 : Nat) : Int)))), (rb, .inl (cI, 120, .inl (fun z9 => J ((A2 z9 : Nat) : Int)))), (rc, .inl (cI, 120, .inl (fun z9 => J ((A3 z9 : Nat) : Int)))), (sa, .inl (cI, 120, .inl (fun z9 => J ((B1 z9 : Nat) : Int)))), (sb, .inl (cI, 120, .inl (fun z9 => J ((B2 z9 : Nat) : Int)))), (sc, .inl (cI, 120, .inl (fun z9 => J ((B3 z9 : Nat) : Int)))), (so, .inl (cI, 40, .inl (fun z9 => J ((Or z9 : Nat) : Int)))), (sr, .inl (cI, 80, .inl (fun z9 => J ((Ro z9 : Nat) : Int)))), (sw, .inl (cI, 80, .inl (fun z9 => J ((Ne z9 : Nat) : Int))))] → va_S (inW WC) s.heap H locs → ∀ ls : Array Slot, lv_has ls 3 [(0, .ref qq), (1, .int (J ((i : Nat) : Int)))] → W p l e { frames := 8, cells := 0, slots := 0, locals := 190 } s m args below meth c H locs 0 0 (MQ below (QW D WC (wRS cI cZ qq r0 rx ry rt rh ra rb rc sa sb sc so sr sw Rr.2) (some (.int (J (b2i (Rr.1)))))) args s 0 0 (inW WC)) (F0 m 2 ls []) := by
  have hX : ∀ i, -10000 ≤ Px i ∧ Px i ≤ 10000 := hRI.1
  have hY : ∀ i, -10000 ≤ Py i ∧ Py i ≤ 10000 := hRI.2.1
  have hpn : pn ≤ 40 := hRI.2.2.1
  have hHu : ∀ i, Hu i < 40 := hRI.2.2.2.1
  have hhn : hn ≤ 41 := hRI.2.2.2.2.1
  have hA1 : ∀ i, A1 i < 40 := hRI.2.2.2.2.2.1
  have hA2 : ∀ i, A2 i < 40 := hRI.2.2.2.2.2.2.1
  have hA3 : ∀ i, A3 i < 40 := hRI.2.2.2.2.2.2.2.1
  have hmn : mn ≤ 120 := hRI.2.2.2.2.2.2.2.2.1
  have hB1 : ∀ i, B1 i < 40 := hRI.2.2.2.2.2.2.2.2.2.1
  have hB2 : ∀ i, B2 i < 40 := hRI.2.2.2.2.2.2.2.2.2.2.1
  have hB3 : ∀ i, B3 i < 40 := hRI.2.2.2.2.2.2.2.2.2.2.2.1
  have hhh : hh ≤ 120 := hRI.2.2.2.2.2.2.2.2.2.2.2.2.1
  have hOr : ∀ i, Or i < 40 := hRI.2.2.2.2.2.2.2.2.2.2.2.2.2.1
  have hRo : ∀ i, Ro i < 40 := hRI.2.2.2.2.2.2.2.2.2.2.2.2.2.2.1
  have hNe : ∀ i, Ne i < 40 := hRI.2.2.2.2.2.2.2.2.2.2.2.2.2.2.2.1
  have hrn : rn ≤ 80 := hRI.2.2.2.2.2.2.2.2.2.2.2.2.2.2.2.2
  intro n
  induction n with
  | zero => intro i hi0 hi1 hi2; omega
  | succ n ih =>
    intro i hi0 hi1 hi2  H locs hP hD hS ls hl
    refine lv_iload_n C.1 C.2.1 dX4_settles_2 rfl (lv_at hl 1 rfl) ?_
    refine lv_aload_n C.1 C.2.1 dX4_settles_3 rfl (lv_at hl 0 rfl) ?_
    refine jv_get C fw_X4_58 hK hP 0 rfl rfl dX4_settles_4 ?_
    refine jv_icmp_ge (tgt := 82) C dX4_settles_7 (by decide) (by omega) (fun h1 => ?_) (fun h1 => ?_)
    · refine jv_iconst C dX4_settles_82 ?_
      exact jw_zret C hlk hr dX4_settles_83 (by rw [hi2, rS1_end (by show pn ≤ i; omega)]; rfl) (by rw [hi2, rS1_end (by show pn ≤ i; omega)]; exact hP) hS
    · refine lv_iload_n C.1 C.2.1 dX4_settles_10 rfl (lv_at hl 1 rfl) ?_
      refine jv_iconst C dX4_settles_11 ?_
      refine jv_iadd (z := ((i + 1 : Nat) : Int)) C dX4_settles_12 (by omega) ?_
      refine lv_istore_n (lv' := [(2, .int (J ((i + 1 : Nat) : Int))), (0, .ref qq), (1, .int (J ((i : Nat) : Int)))]) C.1 C.2.1 dX4_settles_13 rfl hl (by decide) rfl (fun ls hl => ?_)
      exact lp_X4_settles_14 C hlk hr hK hRI (by omega) hok (fun h H locs hP hD hS ls hl => ih (i + 1) (by omega) (by omega) h H locs hP hD hS ls hl) (pn + 1) (i + 1) (by omega) (by omega) (by rw [hi2, rS1_go (by show i < pn; omega)]) H locs hP hD hS ls (lv_sub hl [1, 2, 0] rfl)
set_option maxRecDepth 20000 in
set_option maxHeartbeats 4000000 in
theorem c_X4_settles  (hRI : RI ((Px, Py, Mt, pn), (kn, fl, Hu, hn, A1, A2, A3, mn), (hd, sd, B1, B2, B3, hh, fp), (Or, Ro, Ne, rn), Mr)) (hok : sOk ((Px, Py, Mt, pn), (kn, fl, Hu, hn, A1, A2, A3, mn), (hd, sd, B1, B2, B3, hh, fp), (Or, Ro, Ne, rn), Mr)) : cW l yX4_settles cX4_settles 3 (some .boolean) 8 190 D (tyz cI cZ) [.ref qq] (wRS cI cZ qq r0 rx ry rt rh ra rb rc sa sb sc so sr sw ((Px, Py, Mt, pn), (kn, fl, Hu, hn, A1, A2, A3, mn), (hd, sd, B1, B2, B3, hh, fp), (Or, Ro, Ne, rn), Mr)) (wRS cI cZ qq r0 rx ry rt rh ra rb rc sa sb sc so sr sw ((rSts ((Px, Py, Mt, pn), (kn, fl, Hu, hn, A1, A2, A3, mn), (hd, sd, B1, B2, B3, hh, fp), (Or, Ro, Ne, rn), Mr)).2)) (some (.int (J (b2i (rSts ((Px, Py, Mt, pn), (kn, fl, Hu, hn, A1, A2, A3, mn), (hd, sd, B1, B2, B3, hh, fp), (Or, Ro, Ne, rn), Mr)).1)))) := by
  refine cW_of (owner := RX4) rfl (by decide) (Nat.le_of_ble_eq_true rfl) ?_
  intro p e s m args below meth c ls C hlk hr hK hP hD hS hl
  have hl : lv_has ls 3 [(0, .ref qq)] := hl
  have hP : va_P D vwCl [(qq, .inr (4, [.ref r0, .ref rx, .ref ry, .ref rt, .int (J ((pn : Nat) : Int)), .int (J (b2i (kn))), .int (J (b2i (fl))), .ref rh, .ref ra, .ref rb, .ref rc, .int (J ((hn : Nat) : Int)), .int (J ((mn : Nat) : Int)), .int (J (b2i (hd))), .int (J (b2i (sd))), .ref sa, .ref sb, .ref sc, .int (J ((hh : Nat) : Int)), .int (J ((fp : Nat) : Int)), .ref so, .ref sr, .ref sw, .int (J ((rn : Nat) : Int))])), (r0, .inl (cI, 7, .inl (fun z9 => J ((Mr z9 : Nat) : Int)))), (rx, .inl (cI, 40, .inl (fun z9 => J (Px z9)))), (ry, .inl (cI, 40, .inl (fun z9 => J (Py z9)))), (rt, .inl (cZ, 40, .inl (fun z9 => J (b2i (Mt z9))))), (rh, .inl (cI, 41, .inl (fun z9 => J ((Hu z9 : Nat) : Int)))), (ra, .inl (cI, 120, .inl (fun z9 => J ((A1 z9 : Nat) : Int)))), (rb, .inl (cI, 120, .inl (fun z9 => J ((A2 z9 : Nat) : Int)))), (rc, .inl (cI, 120, .inl (fun z9 => J ((A3 z9 : Nat) : Int)))), (sa, .inl (cI, 120, .inl (fun z9 => J ((B1 z9 : Nat) : Int)))), (sb, .inl (cI, 120, .inl (fun z9 => J ((B2 z9 : Nat) : Int)))), (sc, .inl (cI, 120, .inl (fun z9 => J ((B3 z9 : Nat) : Int)))), (so, .inl (cI, 40, .inl (fun z9 => J ((Or z9 : Nat) : Int)))), (sr, .inl (cI, 80, .inl (fun z9 => J ((Ro z9 : Nat) : Int)))), (sw, .inl (cI, 80, .inl (fun z9 => J ((Ne z9 : Nat) : Int))))] s.heap := hP
  have hD : va_D _ [(qq, .inr (4, [.ref r0, .ref rx, .ref ry, .ref rt, .int (J ((pn : Nat) : Int)), .int (J (b2i (kn))), .int (J (b2i (fl))), .ref rh, .ref ra, .ref rb, .ref rc, .int (J ((hn : Nat) : Int)), .int (J ((mn : Nat) : Int)), .int (J (b2i (hd))), .int (J (b2i (sd))), .ref sa, .ref sb, .ref sc, .int (J ((hh : Nat) : Int)), .int (J ((fp : Nat) : Int)), .ref so, .ref sr, .ref sw, .int (J ((rn : Nat) : Int))])), (r0, .inl (cI, 7, .inl (fun z9 => J ((Mr z9 : Nat) : Int)))), (rx, .inl (cI, 40, .inl (fun z9 => J (Px z9)))), (ry, .inl (cI, 40, .inl (fun z9 => J (Py z9)))), (rt, .inl (cZ, 40, .inl (fun z9 => J (b2i (Mt z9))))), (rh, .inl (cI, 41, .inl (fun z9 => J ((Hu z9 : Nat) : Int)))), (ra, .inl (cI, 120, .inl (fun z9 => J ((A1 z9 : Nat) : Int)))), (rb, .inl (cI, 120, .inl (fun z9 => J ((A2 z9 : Nat) : Int)))), (rc, .inl (cI, 120, .inl (fun z9 => J ((A3 z9 : Nat) : Int)))), (sa, .inl (cI, 120, .inl (fun z9 => J ((B1 z9 : Nat) : Int)))), (sb, .inl (cI, 120, .inl (fun z9 => J ((B2 z9 : Nat) : Int)))), (sc, .inl (cI, 120, .inl (fun z9 => J ((B3 z9 : Nat) : Int)))), (so, .inl (cI, 40, .inl (fun z9 => J ((Or z9 : Nat) : Int)))), (sr, .inl (cI, 80, .inl (fun z9 => J ((Ro z9 : Nat) : Int)))), (sw, .inl (cI, 80, .inl (fun z9 => J ((Ne z9 : Nat) : Int))))] := hD
  have hX : ∀ i, -10000 ≤ Px i ∧ Px i ≤ 10000 := hRI.1
  have hY : ∀ i, -10000 ≤ Py i ∧ Py i ≤ 10000 := hRI.2.1
  have hpn : pn ≤ 40 := hRI.2.2.1
  have hHu : ∀ i, Hu i < 40 := hRI.2.2.2.1
  have hhn : hn ≤ 41 := hRI.2.2.2.2.1
  have hA1 : ∀ i, A1 i < 40 := hRI.2.2.2.2.2.1
  have hA2 : ∀ i, A2 i < 40 := hRI.2.2.2.2.2.2.1
  have hA3 : ∀ i, A3 i < 40 := hRI.2.2.2.2.2.2.2.1
  have hmn : mn ≤ 120 := hRI.2.2.2.2.2.2.2.2.1
  have hB1 : ∀ i, B1 i < 40 := hRI.2.2.2.2.2.2.2.2.2.1
  have hB2 : ∀ i, B2 i < 40 := hRI.2.2.2.2.2.2.2.2.2.2.1
  have hB3 : ∀ i, B3 i < 40 := hRI.2.2.2.2.2.2.2.2.2.2.2.1
  have hhh : hh ≤ 120 := hRI.2.2.2.2.2.2.2.2.2.2.2.2.1
  have hOr : ∀ i, Or i < 40 := hRI.2.2.2.2.2.2.2.2.2.2.2.2.2.1
  have hRo : ∀ i, Ro i < 40 := hRI.2.2.2.2.2.2.2.2.2.2.2.2.2.2.1
  have hNe : ∀ i, Ne i < 40 := hRI.2.2.2.2.2.2.2.2.2.2.2.2.2.2.2.1
  have hrn : rn ≤ 80 := hRI.2.2.2.2.2.2.2.2.2.2.2.2.2.2.2.2
  refine jv_iconst C dX4_settles_0 ?_
  refine lv_istore_n (lv' := [(1, .int (J 0)), (0, .ref qq)]) C.1 C.2.1 dX4_settles_1 rfl hl (by decide) rfl (fun ls hl => ?_)
  exact lp_X4_settles_2 C hlk hr hK hRI hok (pn + 1) 0 (by omega) (by omega) rfl _ _ hP hD hS ls (lv_sub hl [1, 0] rfl)
set_option maxRecDepth 20000 in
theorem lp_X4_settle_41 {p : Program} {e : Env} {s : State} {m : MethodId} {args : Array Value} {below : List Frame} {meth : Method} {c : Code} {WC : va_W} {n0 : Nat} (C : CallFix p m c cX4_settle 3 s args TB RX4) (hlk : meth.locks = false) (hr : meth.sig.returnType = (some .int)) (hK : va_K D vwCl (tyz cI cZ) s) (hn0 : n0 ≤ 10000) :
    ∀ (n : Nat) (k : Nat) (S : RS), k + n = n0 → RI S → stOk n S → ∀ (Rr : Nat × RS), Rr = (k + (rSet n S).1, (rSet n S).2) → ∀ (H : Heap) (locs : List Loc), va_P D vwCl [(qq, .inr (4, [.ref r0, .ref rx, .ref ry, .ref rt, .int (J ((S.1.2.2.2 : Nat) : Int)), .int (J (b2i (S.2.1.1))), .int (J (b2i (S.2.1.2.1))), .ref rh, .ref ra, .ref rb, .ref rc, .int (J ((S.2.1.2.2.2.1 : Nat) : Int)), .int (J ((S.2.1.2.2.2.2.2.2.2 : Nat) : Int)), .int (J (b2i (S.2.2.1.1))), .int (J (b2i (S.2.2.1.2.1))), .ref sa, .ref sb, .ref sc, .int (J ((S.2.2.1.2.2.2.2.2.1 : Nat) : Int)), .int (J ((S.2.2.1.2.2.2.2.2.2 : Nat) : Int)), .ref so, .ref sr, .ref sw, .int (J ((S.2.2.2.1.2.2.2 : Nat) : Int))])), (r0, .inl (cI, 7, .inl (fun z9 => J ((S.2.2.2.2 z9 : Nat) : Int)))), (rx, .inl (cI, 40, .inl (fun z9 => J (S.1.1 z9)))), (ry, .inl (cI, 40, .inl (fun z9 => J (S.1.2.1 z9)))), (rt, .inl (cZ, 40, .inl (fun z9 => J (b2i (S.1.2.2.1 z9))))), (rh, .inl (cI, 41, .inl (fun z9 => J ((S.2.1.2.2.1 z9 : Nat) : Int)))), (ra, .inl (cI, 120, .inl (fun z9 => J ((S.2.1.2.2.2.2.1 z9 : Nat) : Int)))), (rb, .inl (cI, 120, .inl (fun z9 => J ((S.2.1.2.2.2.2.2.1 z9 : Nat) : Int)))), (rc, .inl (cI, 120, .inl (fun z9 => J ((S.2.1.2.2.2.2.2.2.1 z9 : Nat) : Int)))), (sa, .inl (cI, 120, .inl (fun z9 => J ((S.2.2.1.2.2.1 z9 : Nat) : Int)))), (sb, .inl (cI, 120, .inl (fun z9 => J ((S.2.2.1.2.2.2.1 z9 : Nat) : Int)))), (sc, .inl (cI, 120, .inl (fun z9 => J ((S.2.2.1.2.2.2.2.1 z9 : Nat) : Int)))), (so, .inl (cI, 40, .inl (fun z9 => J ((S.2.2.2.1.1 z9 : Nat) : Int)))), (sr, .inl (cI, 80, .inl (fun z9 => J ((S.2.2.2.1.2.1 z9 : Nat) : Int)))), (sw, .inl (cI, 80, .inl (fun z9 => J ((S.2.2.2.1.2.2.1 z9 : Nat) : Int))))] H → va_D (inW WC) [(qq, .inr (4, [.ref r0, .ref rx, .ref ry, .ref rt, .int (J ((S.1.2.2.2 : Nat) : Int)), .int (J (b2i (S.2.1.1))), .int (J (b2i (S.2.1.2.1))), .ref rh, .ref ra, .ref rb, .ref rc, .int (J ((S.2.1.2.2.2.1 : Nat) : Int)), .int (J ((S.2.1.2.2.2.2.2.2.2 : Nat) : Int)), .int (J (b2i (S.2.2.1.1))), .int (J (b2i (S.2.2.1.2.1))), .ref sa, .ref sb, .ref sc, .int (J ((S.2.2.1.2.2.2.2.2.1 : Nat) : Int)), .int (J ((S.2.2.1.2.2.2.2.2.2 : Nat) : Int)), .ref so, .ref sr, .ref sw, .int (J ((S.2.2.2.1.2.2.2 : Nat) : Int))])), (r0, .inl (cI, 7, .inl (fun z9 => J ((S.2.2.2.2 z9 : Nat) : Int)))), (rx, .inl (cI, 40, .inl (fun z9 => J (S.1.1 z9)))), (ry, .inl (cI, 40, .inl (fun z9 => J (S.1.2.1 z9)))), (rt, .inl (cZ, 40, .inl (fun z9 => J (b2i (S.1.2.2.1 z9))))), (rh, .inl (cI, 41, .inl (fun z9 => J ((S.2.1.2.2.1 z9 : Nat) : Int)))), (ra, .inl (cI, 120, .inl (fun z9 => J ((S.2.1.2.2.2.2.1 z9 : Nat) : Int)))), (rb, .inl (cI, 120, .inl (fun z9 => J ((S.2.1.2.2.2.2.2.1 z9 : Nat) : Int)))), (rc, .inl (cI, 120, .inl (fun z9 => J ((S.2.1.2.2.2.2.2.2.1 z9 : Nat) : Int)))), (sa, .inl (cI, 120, .inl (fun z9 => J ((S.2.2.1.2.2.1 z9 : Nat) : Int)))), (sb, .inl (cI, 120, .inl (fun z9 => J ((S.2.2.1.2.2.2.1 z9 : Nat) : Int)))), (sc, .inl (cI, 120, .inl (fun z9 => J ((S.2.2.1.2.2.2.2.1 z9 : Nat) : Int)))), (so, .inl (cI, 40, .inl (fun z9 => J ((S.2.2.2.1.1 z9 : Nat) : Int)))), (sr, .inl (cI, 80, .inl (fun z9 => J ((S.2.2.2.1.2.1 z9 : Nat) : Int)))), (sw, .inl (cI, 80, .inl (fun z9 => J ((S.2.2.2.1.2.2.1 z9 : Nat) : Int))))] → va_S (inW WC) s.heap H locs → ∀ ls : Array Slot, lv_has ls 3 [(0, .ref qq), (1, .int (J ((n0 : Nat) : Int))), (2, .int (J ((k : Nat) : Int)))] → W p l e { frames := 9, cells := 0, slots := 0, locals := 212 } s m args below meth c H locs 0 0 (MQ below (QW D WC (wRS cI cZ qq r0 rx ry rt rh ra rb rc sa sb sc so sr sw Rr.2) (some (.int (J ((Rr.1 : Nat) : Int))))) args s 0 0 (inW WC)) (F0 m 41 ls []) := by
  intro n
  induction n with
  | zero =>
    intro k S hi0 hRI0 hok Rr hRr H locs hP hD hS ls hl
    have hRI : RI ((S.1.1, S.1.2.1, S.1.2.2.1, S.1.2.2.2), (S.2.1.1, S.2.1.2.1, S.2.1.2.2.1, S.2.1.2.2.2.1, S.2.1.2.2.2.2.1, S.2.1.2.2.2.2.2.1, S.2.1.2.2.2.2.2.2.1, S.2.1.2.2.2.2.2.2.2), (S.2.2.1.1, S.2.2.1.2.1, S.2.2.1.2.2.1, S.2.2.1.2.2.2.1, S.2.2.1.2.2.2.2.1, S.2.2.1.2.2.2.2.2.1, S.2.2.1.2.2.2.2.2.2), (S.2.2.2.1.1, S.2.2.2.1.2.1, S.2.2.2.1.2.2.1, S.2.2.2.1.2.2.2), S.2.2.2.2) := hRI0
    have hX : ∀ i, -10000 ≤ S.1.1 i ∧ S.1.1 i ≤ 10000 := hRI.1
    have hY : ∀ i, -10000 ≤ S.1.2.1 i ∧ S.1.2.1 i ≤ 10000 := hRI.2.1
    have hpn : S.1.2.2.2 ≤ 40 := hRI.2.2.1
    have hHu : ∀ i, S.2.1.2.2.1 i < 40 := hRI.2.2.2.1
    have hhn : S.2.1.2.2.2.1 ≤ 41 := hRI.2.2.2.2.1
    have hA1 : ∀ i, S.2.1.2.2.2.2.1 i < 40 := hRI.2.2.2.2.2.1
    have hA2 : ∀ i, S.2.1.2.2.2.2.2.1 i < 40 := hRI.2.2.2.2.2.2.1
    have hA3 : ∀ i, S.2.1.2.2.2.2.2.2.1 i < 40 := hRI.2.2.2.2.2.2.2.1
    have hmn : S.2.1.2.2.2.2.2.2.2 ≤ 120 := hRI.2.2.2.2.2.2.2.2.1
    have hB1 : ∀ i, S.2.2.1.2.2.1 i < 40 := hRI.2.2.2.2.2.2.2.2.2.1
    have hB2 : ∀ i, S.2.2.1.2.2.2.1 i < 40 := hRI.2.2.2.2.2.2.2.2.2.2.1
    have hB3 : ∀ i, S.2.2.1.2.2.2.2.1 i < 40 := hRI.2.2.2.2.2.2.2.2.2.2.2.1
    have hhh : S.2.2.1.2.2.2.2.2.1 ≤ 120 := hRI.2.2.2.2.2.2.2.2.2.2.2.2.1
    have hOr : ∀ i, S.2.2.2.1.1 i < 40 := hRI.2.2.2.2.2.2.2.2.2.2.2.2.2.1
    have hRo : ∀ i, S.2.2.2.1.2.1 i < 40 := hRI.2.2.2.2.2.2.2.2.2.2.2.2.2.2.1
    have hNe : ∀ i, S.2.2.2.1.2.2.1 i < 40 := hRI.2.2.2.2.2.2.2.2.2.2.2.2.2.2.2.1
    have hrn : S.2.2.2.1.2.2.2 ≤ 80 := hRI.2.2.2.2.2.2.2.2.2.2.2.2.2.2.2.2
    refine lv_iload_n C.1 C.2.1 dX4_settle_41 rfl (lv_at hl 2 rfl) ?_
    refine lv_iload_n C.1 C.2.1 dX4_settle_42 rfl (lv_at hl 1 rfl) ?_
    refine jv_icmp_ge (tgt := 59) C dX4_settle_43 (by decide) (by omega) (fun h1 => ?_) (fun h1 => ?_)
    · refine lv_iload_n C.1 C.2.1 dX4_settle_59 rfl (lv_at hl 2 rfl) ?_
      exact jw_iret C hlk hr dX4_settle_60 (by rw [hRr]; rfl) (by rw [hRr]; exact hP) hS
    · exfalso; omega
  | succ n ih =>
    intro k S hi0 hRI0 hok Rr hRr H locs hP hD hS ls hl
    have hRI : RI ((S.1.1, S.1.2.1, S.1.2.2.1, S.1.2.2.2), (S.2.1.1, S.2.1.2.1, S.2.1.2.2.1, S.2.1.2.2.2.1, S.2.1.2.2.2.2.1, S.2.1.2.2.2.2.2.1, S.2.1.2.2.2.2.2.2.1, S.2.1.2.2.2.2.2.2.2), (S.2.2.1.1, S.2.2.1.2.1, S.2.2.1.2.2.1, S.2.2.1.2.2.2.1, S.2.2.1.2.2.2.2.1, S.2.2.1.2.2.2.2.2.1, S.2.2.1.2.2.2.2.2.2), (S.2.2.2.1.1, S.2.2.2.1.2.1, S.2.2.2.1.2.2.1, S.2.2.2.1.2.2.2), S.2.2.2.2) := hRI0
    have hX : ∀ i, -10000 ≤ S.1.1 i ∧ S.1.1 i ≤ 10000 := hRI.1
    have hY : ∀ i, -10000 ≤ S.1.2.1 i ∧ S.1.2.1 i ≤ 10000 := hRI.2.1
    have hpn : S.1.2.2.2 ≤ 40 := hRI.2.2.1
    have hHu : ∀ i, S.2.1.2.2.1 i < 40 := hRI.2.2.2.1
    have hhn : S.2.1.2.2.2.1 ≤ 41 := hRI.2.2.2.2.1
    have hA1 : ∀ i, S.2.1.2.2.2.2.1 i < 40 := hRI.2.2.2.2.2.1
    have hA2 : ∀ i, S.2.1.2.2.2.2.2.1 i < 40 := hRI.2.2.2.2.2.2.1
    have hA3 : ∀ i, S.2.1.2.2.2.2.2.2.1 i < 40 := hRI.2.2.2.2.2.2.2.1
    have hmn : S.2.1.2.2.2.2.2.2.2 ≤ 120 := hRI.2.2.2.2.2.2.2.2.1
    have hB1 : ∀ i, S.2.2.1.2.2.1 i < 40 := hRI.2.2.2.2.2.2.2.2.2.1
    have hB2 : ∀ i, S.2.2.1.2.2.2.1 i < 40 := hRI.2.2.2.2.2.2.2.2.2.2.1
    have hB3 : ∀ i, S.2.2.1.2.2.2.2.1 i < 40 := hRI.2.2.2.2.2.2.2.2.2.2.2.1
    have hhh : S.2.2.1.2.2.2.2.2.1 ≤ 120 := hRI.2.2.2.2.2.2.2.2.2.2.2.2.1
    have hOr : ∀ i, S.2.2.2.1.1 i < 40 := hRI.2.2.2.2.2.2.2.2.2.2.2.2.2.1
    have hRo : ∀ i, S.2.2.2.1.2.1 i < 40 := hRI.2.2.2.2.2.2.2.2.2.2.2.2.2.2.1
    have hNe : ∀ i, S.2.2.2.1.2.2.1 i < 40 := hRI.2.2.2.2.2.2.2.2.2.2.2.2.2.2.2.1
    have hrn : S.2.2.2.1.2.2.2 ≤ 80 := hRI.2.2.2.2.2.2.2.2.2.2.2.2.2.2.2.2
    refine lv_iload_n C.1 C.2.1 dX4_settle_41 rfl (lv_at hl 2 rfl) ?_
    refine lv_iload_n C.1 C.2.1 dX4_settle_42 rfl (lv_at hl 1 rfl) ?_
    refine jv_icmp_ge (tgt := 59) C dX4_settle_43 (by decide) (by omega) (fun h1 => ?_) (fun h1 => ?_)
    · refine lv_iload_n C.1 C.2.1 dX4_settle_59 rfl (lv_at hl 2 rfl) ?_
      exact jw_iret C hlk hr dX4_settle_60 (by exfalso; omega) (by exfalso; omega) hS
    · refine lv_aload_n C.1 C.2.1 dX4_settle_46 rfl (lv_at hl 0 rfl) ?_
      obtain ⟨hso, hnx⟩ := hok
      refine jv_waV (ni := 0) (ci := 4) (q0 := 0) (wc := (wRS cI cZ qq r0 rx ry rt rh ra rb rc sa sb sc so sr sw ((S.1.1, S.1.2.1, S.1.2.2.1, S.1.2.2.2), (S.2.1.1, S.2.1.2.1, S.2.1.2.2.1, S.2.1.2.2.2.1, S.2.1.2.2.2.2.1, S.2.1.2.2.2.2.2.1, S.2.1.2.2.2.2.2.2.1, S.2.1.2.2.2.2.2.2.2), (S.2.2.1.1, S.2.2.1.2.1, S.2.2.1.2.2.1, S.2.2.1.2.2.2.1, S.2.2.1.2.2.2.2.1, S.2.2.1.2.2.2.2.2.1, S.2.2.1.2.2.2.2.2.2), (S.2.2.2.1.1, S.2.2.2.1.2.1, S.2.2.2.1.2.2.1, S.2.2.2.1.2.2.2), S.2.2.2.2))) (wd := (wRS cI cZ qq r0 rx ry rt rh ra rb rc sa sb sc so sr sw ((rSts ((S.1.1, S.1.2.1, S.1.2.2.1, S.1.2.2.2), (S.2.1.1, S.2.1.2.1, S.2.1.2.2.1, S.2.1.2.2.2.1, S.2.1.2.2.2.2.1, S.2.1.2.2.2.2.2.1, S.2.1.2.2.2.2.2.2.1, S.2.1.2.2.2.2.2.2.2), (S.2.2.1.1, S.2.2.1.2.1, S.2.2.1.2.2.1, S.2.2.1.2.2.2.1, S.2.2.1.2.2.2.2.1, S.2.2.1.2.2.2.2.2.1, S.2.2.1.2.2.2.2.2.2), (S.2.2.2.1.1, S.2.2.2.1.2.1, S.2.2.2.1.2.2.1, S.2.2.2.1.2.2.2), S.2.2.2.2)).2))) C [] [] (c_X4_settles (Px := S.1.1) (Py := S.1.2.1) (Mt := S.1.2.2.1) (pn := S.1.2.2.2) (kn := S.2.1.1) (fl := S.2.1.2.1) (Hu := S.2.1.2.2.1) (hn := S.2.1.2.2.2.1) (A1 := S.2.1.2.2.2.2.1) (A2 := S.2.1.2.2.2.2.2.1) (A3 := S.2.1.2.2.2.2.2.2.1) (mn := S.2.1.2.2.2.2.2.2.2) (hd := S.2.2.1.1) (sd := S.2.2.1.2.1) (B1 := S.2.2.1.2.2.1) (B2 := S.2.2.1.2.2.2.1) (B3 := S.2.2.1.2.2.2.2.1) (hh := S.2.2.1.2.2.2.2.2.1) (fp := S.2.2.1.2.2.2.2.2.2) (Or := S.2.2.2.1.1) (Ro := S.2.2.2.1.2.1) (Ne := S.2.2.2.1.2.2.1) (rn := S.2.2.2.1.2.2.2) (Mr := S.2.2.2.2) hRI hso) gv_X4_234 (by decide +kernel) (by decide) hK hP hD hS rfl rfl rfl rfl hl.1 (by simp) dX4_settle_47 (by decide) (fun H locs hP hD hS => ?_) rfl
      have hP : va_P D vwCl (wRS cI cZ qq r0 rx ry rt rh ra rb rc sa sb sc so sr sw ((rSts S).2)) H := hP
      have hD : va_D _ (wRS cI cZ qq r0 rx ry rt rh ra rb rc sa sb sc so sr sw ((rSts S).2)) := hD
      have hbn := rSts_b hRI0 hso
      show W _ _ _ _ _ _ _ _ _ _ _ _ _ _ _ (F0 m 50 ls [.int (J (b2i ((rSts S).1)))])
      refine jv_bif_eq (tgt := 59) C dX4_settle_50 (by decide) (fun h2 => ?_) (fun h2 => ?_)
      · refine lv_iload_n C.1 C.2.1 dX4_settle_59 rfl (lv_at hl 2 rfl) ?_
        exact jw_iret C hlk hr dX4_settle_60 (by rw [hRr, rSet, if_neg (by rw [h2]; decide)]; rfl) (by rw [hRr, rSet, if_neg (by rw [h2]; decide)]; exact hP) hS
      · refine lv_iinc (v := J (((k + 1 : Nat) : Int))) (lv' := [(2, .int (J ((k + 1 : Nat) : Int))), (0, .ref qq), (1, .int (J ((n0 : Nat) : Int)))]) C.1 C.2.1 dX4_settle_53 hl (k := 2) rfl (by rw [show Int32.ofInt 1 = J 1 from rfl, J_add]; exact congrArg J (by omega)) (by decide) rfl (fun ls hl => ?_)
        refine lv_goto (tgt := 41) C.1 C.2.1 dX4_settle_56 (by decide) ?_
        exact ih (k + 1) _ (by omega) hbn (hnx h2) Rr (by rw [hRr, rSet, if_pos h2]; exact Prod.ext (by show k + (_ + 1) = k + 1 + _; omega) rfl) H locs hP hD hS ls (lv_sub hl [1, 2, 0] rfl)
set_option maxRecDepth 20000 in
set_option maxHeartbeats 4000000 in
theorem c_X4_settle {n : Int} (hRI : RI ((Px, Py, Mt, pn), (kn, fl, Hu, hn, A1, A2, A3, mn), (hd, sd, B1, B2, B3, hh, fp), (Or, Ro, Ne, rn), Mr)) (hn3 : R3 n) (hok : (hd && !sd) = true → 0 ≤ n → n ≤ 10000 → stOk n.toNat ((Px, Py, Mt, pn), (kn, fl, Hu, hn, A1, A2, A3, mn), (hd, sd, B1, B2, B3, hh, fp), (Or, Ro, Ne, rn), Mr)) : cW l yX4_settle cX4_settle 3 (some .int) 9 212 D (tyz cI cZ) [.ref qq, .int (J n)] (wRS cI cZ qq r0 rx ry rt rh ra rb rc sa sb sc so sr sw ((Px, Py, Mt, pn), (kn, fl, Hu, hn, A1, A2, A3, mn), (hd, sd, B1, B2, B3, hh, fp), (Or, Ro, Ne, rn), Mr)) (wRS cI cZ qq r0 rx ry rt rh ra rb rc sa sb sc so sr sw ((rpSettle n ((Px, Py, Mt, pn), (kn, fl, Hu, hn, A1, A2, A3, mn), (hd, sd, B1, B2, B3, hh, fp), (Or, Ro, Ne, rn), Mr)).2)) (some (.int (J (rpSettle n ((Px, Py, Mt, pn), (kn, fl, Hu, hn, A1, A2, A3, mn), (hd, sd, B1, B2, B3, hh, fp), (Or, Ro, Ne, rn), Mr)).1))) := by
  refine cW_of (owner := RX4) rfl (by decide) (Nat.le_of_ble_eq_true rfl) ?_
  intro p e s m args below meth c ls C hlk hr hK hP hD hS hl
  have hl : lv_has ls 3 [(0, .ref qq), (1, .int (J n))] := hl
  have hP : va_P D vwCl [(qq, .inr (4, [.ref r0, .ref rx, .ref ry, .ref rt, .int (J ((pn : Nat) : Int)), .int (J (b2i (kn))), .int (J (b2i (fl))), .ref rh, .ref ra, .ref rb, .ref rc, .int (J ((hn : Nat) : Int)), .int (J ((mn : Nat) : Int)), .int (J (b2i (hd))), .int (J (b2i (sd))), .ref sa, .ref sb, .ref sc, .int (J ((hh : Nat) : Int)), .int (J ((fp : Nat) : Int)), .ref so, .ref sr, .ref sw, .int (J ((rn : Nat) : Int))])), (r0, .inl (cI, 7, .inl (fun z9 => J ((Mr z9 : Nat) : Int)))), (rx, .inl (cI, 40, .inl (fun z9 => J (Px z9)))), (ry, .inl (cI, 40, .inl (fun z9 => J (Py z9)))), (rt, .inl (cZ, 40, .inl (fun z9 => J (b2i (Mt z9))))), (rh, .inl (cI, 41, .inl (fun z9 => J ((Hu z9 : Nat) : Int)))), (ra, .inl (cI, 120, .inl (fun z9 => J ((A1 z9 : Nat) : Int)))), (rb, .inl (cI, 120, .inl (fun z9 => J ((A2 z9 : Nat) : Int)))), (rc, .inl (cI, 120, .inl (fun z9 => J ((A3 z9 : Nat) : Int)))), (sa, .inl (cI, 120, .inl (fun z9 => J ((B1 z9 : Nat) : Int)))), (sb, .inl (cI, 120, .inl (fun z9 => J ((B2 z9 : Nat) : Int)))), (sc, .inl (cI, 120, .inl (fun z9 => J ((B3 z9 : Nat) : Int)))), (so, .inl (cI, 40, .inl (fun z9 => J ((Or z9 : Nat) : Int)))), (sr, .inl (cI, 80, .inl (fun z9 => J ((Ro z9 : Nat) : Int)))), (sw, .inl (cI, 80, .inl (fun z9 => J ((Ne z9 : Nat) : Int))))] s.heap := hP
  have hD : va_D _ [(qq, .inr (4, [.ref r0, .ref rx, .ref ry, .ref rt, .int (J ((pn : Nat) : Int)), .int (J (b2i (kn))), .int (J (b2i (fl))), .ref rh, .ref ra, .ref rb, .ref rc, .int (J ((hn : Nat) : Int)), .int (J ((mn : Nat) : Int)), .int (J (b2i (hd))), .int (J (b2i (sd))), .ref sa, .ref sb, .ref sc, .int (J ((hh : Nat) : Int)), .int (J ((fp : Nat) : Int)), .ref so, .ref sr, .ref sw, .int (J ((rn : Nat) : Int))])), (r0, .inl (cI, 7, .inl (fun z9 => J ((Mr z9 : Nat) : Int)))), (rx, .inl (cI, 40, .inl (fun z9 => J (Px z9)))), (ry, .inl (cI, 40, .inl (fun z9 => J (Py z9)))), (rt, .inl (cZ, 40, .inl (fun z9 => J (b2i (Mt z9))))), (rh, .inl (cI, 41, .inl (fun z9 => J ((Hu z9 : Nat) : Int)))), (ra, .inl (cI, 120, .inl (fun z9 => J ((A1 z9 : Nat) : Int)))), (rb, .inl (cI, 120, .inl (fun z9 => J ((A2 z9 : Nat) : Int)))), (rc, .inl (cI, 120, .inl (fun z9 => J ((A3 z9 : Nat) : Int)))), (sa, .inl (cI, 120, .inl (fun z9 => J ((B1 z9 : Nat) : Int)))), (sb, .inl (cI, 120, .inl (fun z9 => J ((B2 z9 : Nat) : Int)))), (sc, .inl (cI, 120, .inl (fun z9 => J ((B3 z9 : Nat) : Int)))), (so, .inl (cI, 40, .inl (fun z9 => J ((Or z9 : Nat) : Int)))), (sr, .inl (cI, 80, .inl (fun z9 => J ((Ro z9 : Nat) : Int)))), (sw, .inl (cI, 80, .inl (fun z9 => J ((Ne z9 : Nat) : Int))))] := hD
  have hX : ∀ i, -10000 ≤ Px i ∧ Px i ≤ 10000 := hRI.1
  have hY : ∀ i, -10000 ≤ Py i ∧ Py i ≤ 10000 := hRI.2.1
  have hpn : pn ≤ 40 := hRI.2.2.1
  have hHu : ∀ i, Hu i < 40 := hRI.2.2.2.1
  have hhn : hn ≤ 41 := hRI.2.2.2.2.1
  have hA1 : ∀ i, A1 i < 40 := hRI.2.2.2.2.2.1
  have hA2 : ∀ i, A2 i < 40 := hRI.2.2.2.2.2.2.1
  have hA3 : ∀ i, A3 i < 40 := hRI.2.2.2.2.2.2.2.1
  have hmn : mn ≤ 120 := hRI.2.2.2.2.2.2.2.2.1
  have hB1 : ∀ i, B1 i < 40 := hRI.2.2.2.2.2.2.2.2.2.1
  have hB2 : ∀ i, B2 i < 40 := hRI.2.2.2.2.2.2.2.2.2.2.1
  have hB3 : ∀ i, B3 i < 40 := hRI.2.2.2.2.2.2.2.2.2.2.2.1
  have hhh : hh ≤ 120 := hRI.2.2.2.2.2.2.2.2.2.2.2.2.1
  have hOr : ∀ i, Or i < 40 := hRI.2.2.2.2.2.2.2.2.2.2.2.2.2.1
  have hRo : ∀ i, Ro i < 40 := hRI.2.2.2.2.2.2.2.2.2.2.2.2.2.2.1
  have hNe : ∀ i, Ne i < 40 := hRI.2.2.2.2.2.2.2.2.2.2.2.2.2.2.2.1
  have hrn : rn ≤ 80 := hRI.2.2.2.2.2.2.2.2.2.2.2.2.2.2.2.2
  refine lv_aload_n C.1 C.2.1 dX4_settle_0 rfl (lv_at hl 0 rfl) ?_
  refine jv_rdV (ni := 0) (ci := 4) (q0 := 0) C [] [] (c_X4_isReady (Px := Px) (Py := Py) (Mt := Mt) (pn := pn) (kn := kn) (fl := fl) (Hu := Hu) (hn := hn) (A1 := A1) (A2 := A2) (A3 := A3) (mn := mn) (hd := hd) (sd := sd) (B1 := B1) (B2 := B2) (B3 := B3) (hh := hh) (fp := fp) (Or := Or) (Ro := Ro) (Ne := Ne) (rn := rn) (Mr := Mr) hRI ) gv_X4_206 (by decide +kernel) (by decide) hK (hP) rfl rfl rfl hl.1 (by simp [Value.category]) dX4_settle_1 (by decide) ?_ rfl
  show W _ _ _ _ _ _ _ _ _ _ _ _ _ _ _ (F0 m 4 ls [.int (J (b2i (hd && !sd)))])
  refine jv_bif_ne (tgt := 14) C dX4_settle_4 (by decide) (fun h1 => ?_) (fun h1 => ?_)
  · refine lv_iload_n C.1 C.2.1 dX4_settle_14 rfl (lv_at hl 1 rfl) ?_
    refine jv_if_ge (tgt := 25) C dX4_settle_15 (by decide) (by omega) (fun h2 => ?_) (fun h2 => ?_)
    · refine lv_iload_n C.1 C.2.1 dX4_settle_25 rfl (lv_at hl 1 rfl) ?_
      refine jv_sipush C dX4_settle_26 rfl ?_
      refine jv_icmp_le (tgt := 39) C dX4_settle_29 (by decide) (by omega) (fun h3 => ?_) (fun h3 => ?_)
      · rw [show n = ((n.toNat : Nat) : Int) from by omega] at hl
        refine jv_iconst C dX4_settle_39 ?_
        refine lv_istore_n (lv' := [(2, .int (J 0)), (0, .ref qq), (1, .int (J ((n.toNat : Nat) : Int)))]) C.1 C.2.1 dX4_settle_40 rfl hl (by decide) rfl (fun ls hl => ?_)
        rw [show rpSettle n ((Px, Py, Mt, pn), (kn, fl, Hu, hn, A1, A2, A3, mn), (hd, sd, B1, B2, B3, hh, fp), (Or, Ro, Ne, rn), Mr) = (((0 + (rSet n.toNat ((Px, Py, Mt, pn), (kn, fl, Hu, hn, A1, A2, A3, mn), (hd, sd, B1, B2, B3, hh, fp), (Or, Ro, Ne, rn), Mr)).1 : Nat) : Int), (rSet n.toNat ((Px, Py, Mt, pn), (kn, fl, Hu, hn, A1, A2, A3, mn), (hd, sd, B1, B2, B3, hh, fp), (Or, Ro, Ne, rn), Mr)).2) from (if_neg (by (try dsimp only); first | assumption | exact bt_nf (by assumption) | exact bf_nt (by assumption) | exact of_decide_eq_true (by assumption) | exact of_decide_eq_false (by assumption) | omega)).trans ((if_neg (by (try dsimp only); first | assumption | exact bt_nf (by assumption) | exact bf_nt (by assumption) | exact of_decide_eq_true (by assumption) | exact of_decide_eq_false (by assumption) | omega)).trans ((if_neg (by (try dsimp only); first | assumption | exact bt_nf (by assumption) | exact bf_nt (by assumption) | exact of_decide_eq_true (by assumption) | exact of_decide_eq_false (by assumption) | omega)).trans (by rw [Nat.zero_add])))]
        exact lp_X4_settle_41 C hlk hr hK (by omega) n.toNat 0 ((Px, Py, Mt, pn), (kn, fl, Hu, hn, A1, A2, A3, mn), (hd, sd, B1, B2, B3, hh, fp), (Or, Ro, Ne, rn), Mr) (by omega) hRI (hok h1 (by omega) (by omega)) _ rfl _ _ hP hD hS ls (lv_sub hl [1, 2, 0] rfl)
      · refine lv_aload_n C.1 C.2.1 dX4_settle_32 rfl (lv_at hl 0 rfl) ?_
        refine jv_bipush C dX4_settle_33 rfl ?_
        refine jv_waV (ni := 1) (ci := 4) (q0 := 0) (wc := (wRS cI cZ qq r0 rx ry rt rh ra rb rc sa sb sc so sr sw ((Px, Py, Mt, pn), (kn, fl, Hu, hn, A1, A2, A3, mn), (hd, sd, B1, B2, B3, hh, fp), (Or, Ro, Ne, rn), Mr))) (wd := (wRS cI cZ qq r0 rx ry rt rh ra rb rc sa sb sc so sr sw (rRef (-6) ((Px, Py, Mt, pn), (kn, fl, Hu, hn, A1, A2, A3, mn), (hd, sd, B1, B2, B3, hh, fp), (Or, Ro, Ne, rn), Mr)))) C [.int (J (-6))] [] (c_X4_refuse (Px := Px) (Py := Py) (Mt := Mt) (pn := pn) (kn := kn) (fl := fl) (Hu := Hu) (hn := hn) (A1 := A1) (A2 := A2) (A3 := A3) (mn := mn) (hd := hd) (sd := sd) (B1 := B1) (B2 := B2) (B3 := B3) (hh := hh) (fp := fp) (Or := Or) (Ro := Ro) (Ne := Ne) (rn := rn) (Mr := Mr) hRI (z := (-6)) (by omega)) gv_X4_54 (by decide +kernel) (by decide) hK hP hD hS rfl rfl rfl rfl hl.1 (by simp [Value.category]) dX4_settle_35 (by decide) (fun H locs hP hD hS => ?_) rfl
        have hbn := rRef_b (z := (-6)) hRI
        generalize hS4 : rRef (-6) ((Px, Py, Mt, pn), (kn, fl, Hu, hn, A1, A2, A3, mn), (hd, sd, B1, B2, B3, hh, fp), (Or, Ro, Ne, rn), Mr) = S4 at hP hD hbn
        have hP : va_P D vwCl [(qq, .inr (4, [.ref r0, .ref rx, .ref ry, .ref rt, .int (J ((S4.1.2.2.2 : Nat) : Int)), .int (J (b2i (S4.2.1.1))), .int (J (b2i (S4.2.1.2.1))), .ref rh, .ref ra, .ref rb, .ref rc, .int (J ((S4.2.1.2.2.2.1 : Nat) : Int)), .int (J ((S4.2.1.2.2.2.2.2.2.2 : Nat) : Int)), .int (J (b2i (S4.2.2.1.1))), .int (J (b2i (S4.2.2.1.2.1))), .ref sa, .ref sb, .ref sc, .int (J ((S4.2.2.1.2.2.2.2.2.1 : Nat) : Int)), .int (J ((S4.2.2.1.2.2.2.2.2.2 : Nat) : Int)), .ref so, .ref sr, .ref sw, .int (J ((S4.2.2.2.1.2.2.2 : Nat) : Int))])), (r0, .inl (cI, 7, .inl (fun z9 => J ((S4.2.2.2.2 z9 : Nat) : Int)))), (rx, .inl (cI, 40, .inl (fun z9 => J (S4.1.1 z9)))), (ry, .inl (cI, 40, .inl (fun z9 => J (S4.1.2.1 z9)))), (rt, .inl (cZ, 40, .inl (fun z9 => J (b2i (S4.1.2.2.1 z9))))), (rh, .inl (cI, 41, .inl (fun z9 => J ((S4.2.1.2.2.1 z9 : Nat) : Int)))), (ra, .inl (cI, 120, .inl (fun z9 => J ((S4.2.1.2.2.2.2.1 z9 : Nat) : Int)))), (rb, .inl (cI, 120, .inl (fun z9 => J ((S4.2.1.2.2.2.2.2.1 z9 : Nat) : Int)))), (rc, .inl (cI, 120, .inl (fun z9 => J ((S4.2.1.2.2.2.2.2.2.1 z9 : Nat) : Int)))), (sa, .inl (cI, 120, .inl (fun z9 => J ((S4.2.2.1.2.2.1 z9 : Nat) : Int)))), (sb, .inl (cI, 120, .inl (fun z9 => J ((S4.2.2.1.2.2.2.1 z9 : Nat) : Int)))), (sc, .inl (cI, 120, .inl (fun z9 => J ((S4.2.2.1.2.2.2.2.1 z9 : Nat) : Int)))), (so, .inl (cI, 40, .inl (fun z9 => J ((S4.2.2.2.1.1 z9 : Nat) : Int)))), (sr, .inl (cI, 80, .inl (fun z9 => J ((S4.2.2.2.1.2.1 z9 : Nat) : Int)))), (sw, .inl (cI, 80, .inl (fun z9 => J ((S4.2.2.2.1.2.2.1 z9 : Nat) : Int))))] H := hP
        have hD : va_D _ [(qq, .inr (4, [.ref r0, .ref rx, .ref ry, .ref rt, .int (J ((S4.1.2.2.2 : Nat) : Int)), .int (J (b2i (S4.2.1.1))), .int (J (b2i (S4.2.1.2.1))), .ref rh, .ref ra, .ref rb, .ref rc, .int (J ((S4.2.1.2.2.2.1 : Nat) : Int)), .int (J ((S4.2.1.2.2.2.2.2.2.2 : Nat) : Int)), .int (J (b2i (S4.2.2.1.1))), .int (J (b2i (S4.2.2.1.2.1))), .ref sa, .ref sb, .ref sc, .int (J ((S4.2.2.1.2.2.2.2.2.1 : Nat) : Int)), .int (J ((S4.2.2.1.2.2.2.2.2.2 : Nat) : Int)), .ref so, .ref sr, .ref sw, .int (J ((S4.2.2.2.1.2.2.2 : Nat) : Int))])), (r0, .inl (cI, 7, .inl (fun z9 => J ((S4.2.2.2.2 z9 : Nat) : Int)))), (rx, .inl (cI, 40, .inl (fun z9 => J (S4.1.1 z9)))), (ry, .inl (cI, 40, .inl (fun z9 => J (S4.1.2.1 z9)))), (rt, .inl (cZ, 40, .inl (fun z9 => J (b2i (S4.1.2.2.1 z9))))), (rh, .inl (cI, 41, .inl (fun z9 => J ((S4.2.1.2.2.1 z9 : Nat) : Int)))), (ra, .inl (cI, 120, .inl (fun z9 => J ((S4.2.1.2.2.2.2.1 z9 : Nat) : Int)))), (rb, .inl (cI, 120, .inl (fun z9 => J ((S4.2.1.2.2.2.2.2.1 z9 : Nat) : Int)))), (rc, .inl (cI, 120, .inl (fun z9 => J ((S4.2.1.2.2.2.2.2.2.1 z9 : Nat) : Int)))), (sa, .inl (cI, 120, .inl (fun z9 => J ((S4.2.2.1.2.2.1 z9 : Nat) : Int)))), (sb, .inl (cI, 120, .inl (fun z9 => J ((S4.2.2.1.2.2.2.1 z9 : Nat) : Int)))), (sc, .inl (cI, 120, .inl (fun z9 => J ((S4.2.2.1.2.2.2.2.1 z9 : Nat) : Int)))), (so, .inl (cI, 40, .inl (fun z9 => J ((S4.2.2.2.1.1 z9 : Nat) : Int)))), (sr, .inl (cI, 80, .inl (fun z9 => J ((S4.2.2.2.1.2.1 z9 : Nat) : Int)))), (sw, .inl (cI, 80, .inl (fun z9 => J ((S4.2.2.2.1.2.2.1 z9 : Nat) : Int))))] := hD
        show W _ _ _ _ _ _ _ _ _ _ _ _ _ _ _ (F0 m 38 ls [.int (J (-6))])
        have hRS4 : RI ((S4.1.1, S4.1.2.1, S4.1.2.2.1, S4.1.2.2.2), (S4.2.1.1, S4.2.1.2.1, S4.2.1.2.2.1, S4.2.1.2.2.2.1, S4.2.1.2.2.2.2.1, S4.2.1.2.2.2.2.2.1, S4.2.1.2.2.2.2.2.2.1, S4.2.1.2.2.2.2.2.2.2), (S4.2.2.1.1, S4.2.2.1.2.1, S4.2.2.1.2.2.1, S4.2.2.1.2.2.2.1, S4.2.2.1.2.2.2.2.1, S4.2.2.1.2.2.2.2.2.1, S4.2.2.1.2.2.2.2.2.2), (S4.2.2.2.1.1, S4.2.2.2.1.2.1, S4.2.2.2.1.2.2.1, S4.2.2.2.1.2.2.2), S4.2.2.2.2) := hbn
        have hX : ∀ i, -10000 ≤ S4.1.1 i ∧ S4.1.1 i ≤ 10000 := hRS4.1
        have hY : ∀ i, -10000 ≤ S4.1.2.1 i ∧ S4.1.2.1 i ≤ 10000 := hRS4.2.1
        have hpn : S4.1.2.2.2 ≤ 40 := hRS4.2.2.1
        have hHu : ∀ i, S4.2.1.2.2.1 i < 40 := hRS4.2.2.2.1
        have hhn : S4.2.1.2.2.2.1 ≤ 41 := hRS4.2.2.2.2.1
        have hA1 : ∀ i, S4.2.1.2.2.2.2.1 i < 40 := hRS4.2.2.2.2.2.1
        have hA2 : ∀ i, S4.2.1.2.2.2.2.2.1 i < 40 := hRS4.2.2.2.2.2.2.1
        have hA3 : ∀ i, S4.2.1.2.2.2.2.2.2.1 i < 40 := hRS4.2.2.2.2.2.2.2.1
        have hmn : S4.2.1.2.2.2.2.2.2.2 ≤ 120 := hRS4.2.2.2.2.2.2.2.2.1
        have hB1 : ∀ i, S4.2.2.1.2.2.1 i < 40 := hRS4.2.2.2.2.2.2.2.2.2.1
        have hB2 : ∀ i, S4.2.2.1.2.2.2.1 i < 40 := hRS4.2.2.2.2.2.2.2.2.2.2.1
        have hB3 : ∀ i, S4.2.2.1.2.2.2.2.1 i < 40 := hRS4.2.2.2.2.2.2.2.2.2.2.2.1
        have hhh : S4.2.2.1.2.2.2.2.2.1 ≤ 120 := hRS4.2.2.2.2.2.2.2.2.2.2.2.2.1
        have hOr : ∀ i, S4.2.2.2.1.1 i < 40 := hRS4.2.2.2.2.2.2.2.2.2.2.2.2.2.1
        have hRo : ∀ i, S4.2.2.2.1.2.1 i < 40 := hRS4.2.2.2.2.2.2.2.2.2.2.2.2.2.2.1
        have hNe : ∀ i, S4.2.2.2.1.2.2.1 i < 40 := hRS4.2.2.2.2.2.2.2.2.2.2.2.2.2.2.2.1
        have hrn : S4.2.2.2.1.2.2.2 ≤ 80 := hRS4.2.2.2.2.2.2.2.2.2.2.2.2.2.2.2.2
        exact jw_iret C hlk hr dX4_settle_38 (by rw [show rpSettle n ((Px, Py, Mt, pn), (kn, fl, Hu, hn, A1, A2, A3, mn), (hd, sd, B1, B2, B3, hh, fp), (Or, Ro, Ne, rn), Mr) = ((-6), ((S4.1.1, S4.1.2.1, S4.1.2.2.1, S4.1.2.2.2), (S4.2.1.1, S4.2.1.2.1, S4.2.1.2.2.1, S4.2.1.2.2.2.1, S4.2.1.2.2.2.2.1, S4.2.1.2.2.2.2.2.1, S4.2.1.2.2.2.2.2.2.1, S4.2.1.2.2.2.2.2.2.2), (S4.2.2.1.1, S4.2.2.1.2.1, S4.2.2.1.2.2.1, S4.2.2.1.2.2.2.1, S4.2.2.1.2.2.2.2.1, S4.2.2.1.2.2.2.2.2.1, S4.2.2.1.2.2.2.2.2.2), (S4.2.2.2.1.1, S4.2.2.2.1.2.1, S4.2.2.2.1.2.2.1, S4.2.2.2.1.2.2.2), S4.2.2.2.2)) from (if_neg (by (try dsimp only); first | assumption | exact bt_nf (by assumption) | exact bf_nt (by assumption) | exact of_decide_eq_true (by assumption) | exact of_decide_eq_false (by assumption) | omega)).trans ((if_neg (by (try dsimp only); first | assumption | exact bt_nf (by assumption) | exact bf_nt (by assumption) | exact of_decide_eq_true (by assumption) | exact of_decide_eq_false (by assumption) | omega)).trans ((if_pos (by (try dsimp only); first | assumption | exact bt_nf (by assumption) | exact bf_nt (by assumption) | exact of_decide_eq_true (by assumption) | exact of_decide_eq_false (by assumption) | omega)).trans (by rw [← hS4])))]) (by rw [show rpSettle n ((Px, Py, Mt, pn), (kn, fl, Hu, hn, A1, A2, A3, mn), (hd, sd, B1, B2, B3, hh, fp), (Or, Ro, Ne, rn), Mr) = ((-6), ((S4.1.1, S4.1.2.1, S4.1.2.2.1, S4.1.2.2.2), (S4.2.1.1, S4.2.1.2.1, S4.2.1.2.2.1, S4.2.1.2.2.2.1, S4.2.1.2.2.2.2.1, S4.2.1.2.2.2.2.2.1, S4.2.1.2.2.2.2.2.2.1, S4.2.1.2.2.2.2.2.2.2), (S4.2.2.1.1, S4.2.2.1.2.1, S4.2.2.1.2.2.1, S4.2.2.1.2.2.2.1, S4.2.2.1.2.2.2.2.1, S4.2.2.1.2.2.2.2.2.1, S4.2.2.1.2.2.2.2.2.2), (S4.2.2.2.1.1, S4.2.2.2.1.2.1, S4.2.2.2.1.2.2.1, S4.2.2.2.1.2.2.2), S4.2.2.2.2)) from (if_neg (by (try dsimp only); first | assumption | exact bt_nf (by assumption) | exact bf_nt (by assumption) | exact of_decide_eq_true (by assumption) | exact of_decide_eq_false (by assumption) | omega)).trans ((if_neg (by (try dsimp only); first | assumption | exact bt_nf (by assumption) | exact bf_nt (by assumption) | exact of_decide_eq_true (by assumption) | exact of_decide_eq_false (by assumption) | omega)).trans ((if_pos (by (try dsimp only); first | assumption | exact bt_nf (by assumption) | exact bf_nt (by assumption) | exact of_decide_eq_true (by assumption) | exact of_decide_eq_false (by assumption) | omega)).trans (by rw [← hS4])))]; exact hP) hS
    · refine lv_aload_n C.1 C.2.1 dX4_settle_18 rfl (lv_at hl 0 rfl) ?_
      refine jv_bipush C dX4_settle_19 rfl ?_
      refine jv_waV (ni := 1) (ci := 4) (q0 := 0) (wc := (wRS cI cZ qq r0 rx ry rt rh ra rb rc sa sb sc so sr sw ((Px, Py, Mt, pn), (kn, fl, Hu, hn, A1, A2, A3, mn), (hd, sd, B1, B2, B3, hh, fp), (Or, Ro, Ne, rn), Mr))) (wd := (wRS cI cZ qq r0 rx ry rt rh ra rb rc sa sb sc so sr sw (rRef (-4) ((Px, Py, Mt, pn), (kn, fl, Hu, hn, A1, A2, A3, mn), (hd, sd, B1, B2, B3, hh, fp), (Or, Ro, Ne, rn), Mr)))) C [.int (J (-4))] [] (c_X4_refuse (Px := Px) (Py := Py) (Mt := Mt) (pn := pn) (kn := kn) (fl := fl) (Hu := Hu) (hn := hn) (A1 := A1) (A2 := A2) (A3 := A3) (mn := mn) (hd := hd) (sd := sd) (B1 := B1) (B2 := B2) (B3 := B3) (hh := hh) (fp := fp) (Or := Or) (Ro := Ro) (Ne := Ne) (rn := rn) (Mr := Mr) hRI (z := (-4)) (by omega)) gv_X4_54 (by decide +kernel) (by decide) hK hP hD hS rfl rfl rfl rfl hl.1 (by simp [Value.category]) dX4_settle_21 (by decide) (fun H locs hP hD hS => ?_) rfl
      have hbn := rRef_b (z := (-4)) hRI
      generalize hS5 : rRef (-4) ((Px, Py, Mt, pn), (kn, fl, Hu, hn, A1, A2, A3, mn), (hd, sd, B1, B2, B3, hh, fp), (Or, Ro, Ne, rn), Mr) = S5 at hP hD hbn
      have hP : va_P D vwCl [(qq, .inr (4, [.ref r0, .ref rx, .ref ry, .ref rt, .int (J ((S5.1.2.2.2 : Nat) : Int)), .int (J (b2i (S5.2.1.1))), .int (J (b2i (S5.2.1.2.1))), .ref rh, .ref ra, .ref rb, .ref rc, .int (J ((S5.2.1.2.2.2.1 : Nat) : Int)), .int (J ((S5.2.1.2.2.2.2.2.2.2 : Nat) : Int)), .int (J (b2i (S5.2.2.1.1))), .int (J (b2i (S5.2.2.1.2.1))), .ref sa, .ref sb, .ref sc, .int (J ((S5.2.2.1.2.2.2.2.2.1 : Nat) : Int)), .int (J ((S5.2.2.1.2.2.2.2.2.2 : Nat) : Int)), .ref so, .ref sr, .ref sw, .int (J ((S5.2.2.2.1.2.2.2 : Nat) : Int))])), (r0, .inl (cI, 7, .inl (fun z9 => J ((S5.2.2.2.2 z9 : Nat) : Int)))), (rx, .inl (cI, 40, .inl (fun z9 => J (S5.1.1 z9)))), (ry, .inl (cI, 40, .inl (fun z9 => J (S5.1.2.1 z9)))), (rt, .inl (cZ, 40, .inl (fun z9 => J (b2i (S5.1.2.2.1 z9))))), (rh, .inl (cI, 41, .inl (fun z9 => J ((S5.2.1.2.2.1 z9 : Nat) : Int)))), (ra, .inl (cI, 120, .inl (fun z9 => J ((S5.2.1.2.2.2.2.1 z9 : Nat) : Int)))), (rb, .inl (cI, 120, .inl (fun z9 => J ((S5.2.1.2.2.2.2.2.1 z9 : Nat) : Int)))), (rc, .inl (cI, 120, .inl (fun z9 => J ((S5.2.1.2.2.2.2.2.2.1 z9 : Nat) : Int)))), (sa, .inl (cI, 120, .inl (fun z9 => J ((S5.2.2.1.2.2.1 z9 : Nat) : Int)))), (sb, .inl (cI, 120, .inl (fun z9 => J ((S5.2.2.1.2.2.2.1 z9 : Nat) : Int)))), (sc, .inl (cI, 120, .inl (fun z9 => J ((S5.2.2.1.2.2.2.2.1 z9 : Nat) : Int)))), (so, .inl (cI, 40, .inl (fun z9 => J ((S5.2.2.2.1.1 z9 : Nat) : Int)))), (sr, .inl (cI, 80, .inl (fun z9 => J ((S5.2.2.2.1.2.1 z9 : Nat) : Int)))), (sw, .inl (cI, 80, .inl (fun z9 => J ((S5.2.2.2.1.2.2.1 z9 : Nat) : Int))))] H := hP
      have hD : va_D _ [(qq, .inr (4, [.ref r0, .ref rx, .ref ry, .ref rt, .int (J ((S5.1.2.2.2 : Nat) : Int)), .int (J (b2i (S5.2.1.1))), .int (J (b2i (S5.2.1.2.1))), .ref rh, .ref ra, .ref rb, .ref rc, .int (J ((S5.2.1.2.2.2.1 : Nat) : Int)), .int (J ((S5.2.1.2.2.2.2.2.2.2 : Nat) : Int)), .int (J (b2i (S5.2.2.1.1))), .int (J (b2i (S5.2.2.1.2.1))), .ref sa, .ref sb, .ref sc, .int (J ((S5.2.2.1.2.2.2.2.2.1 : Nat) : Int)), .int (J ((S5.2.2.1.2.2.2.2.2.2 : Nat) : Int)), .ref so, .ref sr, .ref sw, .int (J ((S5.2.2.2.1.2.2.2 : Nat) : Int))])), (r0, .inl (cI, 7, .inl (fun z9 => J ((S5.2.2.2.2 z9 : Nat) : Int)))), (rx, .inl (cI, 40, .inl (fun z9 => J (S5.1.1 z9)))), (ry, .inl (cI, 40, .inl (fun z9 => J (S5.1.2.1 z9)))), (rt, .inl (cZ, 40, .inl (fun z9 => J (b2i (S5.1.2.2.1 z9))))), (rh, .inl (cI, 41, .inl (fun z9 => J ((S5.2.1.2.2.1 z9 : Nat) : Int)))), (ra, .inl (cI, 120, .inl (fun z9 => J ((S5.2.1.2.2.2.2.1 z9 : Nat) : Int)))), (rb, .inl (cI, 120, .inl (fun z9 => J ((S5.2.1.2.2.2.2.2.1 z9 : Nat) : Int)))), (rc, .inl (cI, 120, .inl (fun z9 => J ((S5.2.1.2.2.2.2.2.2.1 z9 : Nat) : Int)))), (sa, .inl (cI, 120, .inl (fun z9 => J ((S5.2.2.1.2.2.1 z9 : Nat) : Int)))), (sb, .inl (cI, 120, .inl (fun z9 => J ((S5.2.2.1.2.2.2.1 z9 : Nat) : Int)))), (sc, .inl (cI, 120, .inl (fun z9 => J ((S5.2.2.1.2.2.2.2.1 z9 : Nat) : Int)))), (so, .inl (cI, 40, .inl (fun z9 => J ((S5.2.2.2.1.1 z9 : Nat) : Int)))), (sr, .inl (cI, 80, .inl (fun z9 => J ((S5.2.2.2.1.2.1 z9 : Nat) : Int)))), (sw, .inl (cI, 80, .inl (fun z9 => J ((S5.2.2.2.1.2.2.1 z9 : Nat) : Int))))] := hD
      show W _ _ _ _ _ _ _ _ _ _ _ _ _ _ _ (F0 m 24 ls [.int (J (-4))])
      have hRS5 : RI ((S5.1.1, S5.1.2.1, S5.1.2.2.1, S5.1.2.2.2), (S5.2.1.1, S5.2.1.2.1, S5.2.1.2.2.1, S5.2.1.2.2.2.1, S5.2.1.2.2.2.2.1, S5.2.1.2.2.2.2.2.1, S5.2.1.2.2.2.2.2.2.1, S5.2.1.2.2.2.2.2.2.2), (S5.2.2.1.1, S5.2.2.1.2.1, S5.2.2.1.2.2.1, S5.2.2.1.2.2.2.1, S5.2.2.1.2.2.2.2.1, S5.2.2.1.2.2.2.2.2.1, S5.2.2.1.2.2.2.2.2.2), (S5.2.2.2.1.1, S5.2.2.2.1.2.1, S5.2.2.2.1.2.2.1, S5.2.2.2.1.2.2.2), S5.2.2.2.2) := hbn
      have hX : ∀ i, -10000 ≤ S5.1.1 i ∧ S5.1.1 i ≤ 10000 := hRS5.1
      have hY : ∀ i, -10000 ≤ S5.1.2.1 i ∧ S5.1.2.1 i ≤ 10000 := hRS5.2.1
      have hpn : S5.1.2.2.2 ≤ 40 := hRS5.2.2.1
      have hHu : ∀ i, S5.2.1.2.2.1 i < 40 := hRS5.2.2.2.1
      have hhn : S5.2.1.2.2.2.1 ≤ 41 := hRS5.2.2.2.2.1
      have hA1 : ∀ i, S5.2.1.2.2.2.2.1 i < 40 := hRS5.2.2.2.2.2.1
      have hA2 : ∀ i, S5.2.1.2.2.2.2.2.1 i < 40 := hRS5.2.2.2.2.2.2.1
      have hA3 : ∀ i, S5.2.1.2.2.2.2.2.2.1 i < 40 := hRS5.2.2.2.2.2.2.2.1
      have hmn : S5.2.1.2.2.2.2.2.2.2 ≤ 120 := hRS5.2.2.2.2.2.2.2.2.1
      have hB1 : ∀ i, S5.2.2.1.2.2.1 i < 40 := hRS5.2.2.2.2.2.2.2.2.2.1
      have hB2 : ∀ i, S5.2.2.1.2.2.2.1 i < 40 := hRS5.2.2.2.2.2.2.2.2.2.2.1
      have hB3 : ∀ i, S5.2.2.1.2.2.2.2.1 i < 40 := hRS5.2.2.2.2.2.2.2.2.2.2.2.1
      have hhh : S5.2.2.1.2.2.2.2.2.1 ≤ 120 := hRS5.2.2.2.2.2.2.2.2.2.2.2.2.1
      have hOr : ∀ i, S5.2.2.2.1.1 i < 40 := hRS5.2.2.2.2.2.2.2.2.2.2.2.2.2.1
      have hRo : ∀ i, S5.2.2.2.1.2.1 i < 40 := hRS5.2.2.2.2.2.2.2.2.2.2.2.2.2.2.1
      have hNe : ∀ i, S5.2.2.2.1.2.2.1 i < 40 := hRS5.2.2.2.2.2.2.2.2.2.2.2.2.2.2.2.1
      have hrn : S5.2.2.2.1.2.2.2 ≤ 80 := hRS5.2.2.2.2.2.2.2.2.2.2.2.2.2.2.2.2
      exact jw_iret C hlk hr dX4_settle_24 (by rw [show rpSettle n ((Px, Py, Mt, pn), (kn, fl, Hu, hn, A1, A2, A3, mn), (hd, sd, B1, B2, B3, hh, fp), (Or, Ro, Ne, rn), Mr) = ((-4), ((S5.1.1, S5.1.2.1, S5.1.2.2.1, S5.1.2.2.2), (S5.2.1.1, S5.2.1.2.1, S5.2.1.2.2.1, S5.2.1.2.2.2.1, S5.2.1.2.2.2.2.1, S5.2.1.2.2.2.2.2.1, S5.2.1.2.2.2.2.2.2.1, S5.2.1.2.2.2.2.2.2.2), (S5.2.2.1.1, S5.2.2.1.2.1, S5.2.2.1.2.2.1, S5.2.2.1.2.2.2.1, S5.2.2.1.2.2.2.2.1, S5.2.2.1.2.2.2.2.2.1, S5.2.2.1.2.2.2.2.2.2), (S5.2.2.2.1.1, S5.2.2.2.1.2.1, S5.2.2.2.1.2.2.1, S5.2.2.2.1.2.2.2), S5.2.2.2.2)) from (if_neg (by (try dsimp only); first | assumption | exact bt_nf (by assumption) | exact bf_nt (by assumption) | exact of_decide_eq_true (by assumption) | exact of_decide_eq_false (by assumption) | omega)).trans ((if_pos (by (try dsimp only); first | assumption | exact bt_nf (by assumption) | exact bf_nt (by assumption) | exact of_decide_eq_true (by assumption) | exact of_decide_eq_false (by assumption) | omega)).trans (by rw [← hS5]))]) (by rw [show rpSettle n ((Px, Py, Mt, pn), (kn, fl, Hu, hn, A1, A2, A3, mn), (hd, sd, B1, B2, B3, hh, fp), (Or, Ro, Ne, rn), Mr) = ((-4), ((S5.1.1, S5.1.2.1, S5.1.2.2.1, S5.1.2.2.2), (S5.2.1.1, S5.2.1.2.1, S5.2.1.2.2.1, S5.2.1.2.2.2.1, S5.2.1.2.2.2.2.1, S5.2.1.2.2.2.2.2.1, S5.2.1.2.2.2.2.2.2.1, S5.2.1.2.2.2.2.2.2.2), (S5.2.2.1.1, S5.2.2.1.2.1, S5.2.2.1.2.2.1, S5.2.2.1.2.2.2.1, S5.2.2.1.2.2.2.2.1, S5.2.2.1.2.2.2.2.2.1, S5.2.2.1.2.2.2.2.2.2), (S5.2.2.2.1.1, S5.2.2.2.1.2.1, S5.2.2.2.1.2.2.1, S5.2.2.2.1.2.2.2), S5.2.2.2.2)) from (if_neg (by (try dsimp only); first | assumption | exact bt_nf (by assumption) | exact bf_nt (by assumption) | exact of_decide_eq_true (by assumption) | exact of_decide_eq_false (by assumption) | omega)).trans ((if_pos (by (try dsimp only); first | assumption | exact bt_nf (by assumption) | exact bf_nt (by assumption) | exact of_decide_eq_true (by assumption) | exact of_decide_eq_false (by assumption) | omega)).trans (by rw [← hS5]))]; exact hP) hS
  · refine lv_aload_n C.1 C.2.1 dX4_settle_7 rfl (lv_at hl 0 rfl) ?_
    refine jv_bipush C dX4_settle_8 rfl ?_
    refine jv_waV (ni := 1) (ci := 4) (q0 := 0) (wc := (wRS cI cZ qq r0 rx ry rt rh ra rb rc sa sb sc so sr sw ((Px, Py, Mt, pn), (kn, fl, Hu, hn, A1, A2, A3, mn), (hd, sd, B1, B2, B3, hh, fp), (Or, Ro, Ne, rn), Mr))) (wd := (wRS cI cZ qq r0 rx ry rt rh ra rb rc sa sb sc so sr sw (rRef (-3) ((Px, Py, Mt, pn), (kn, fl, Hu, hn, A1, A2, A3, mn), (hd, sd, B1, B2, B3, hh, fp), (Or, Ro, Ne, rn), Mr)))) C [.int (J (-3))] [] (c_X4_refuse (Px := Px) (Py := Py) (Mt := Mt) (pn := pn) (kn := kn) (fl := fl) (Hu := Hu) (hn := hn) (A1 := A1) (A2 := A2) (A3 := A3) (mn := mn) (hd := hd) (sd := sd) (B1 := B1) (B2 := B2) (B3 := B3) (hh := hh) (fp := fp) (Or := Or) (Ro := Ro) (Ne := Ne) (rn := rn) (Mr := Mr) hRI (z := (-3)) (by omega)) gv_X4_54 (by decide +kernel) (by decide) hK hP hD hS rfl rfl rfl rfl hl.1 (by simp [Value.category]) dX4_settle_10 (by decide) (fun H locs hP hD hS => ?_) rfl
    have hbn := rRef_b (z := (-3)) hRI
    generalize hS6 : rRef (-3) ((Px, Py, Mt, pn), (kn, fl, Hu, hn, A1, A2, A3, mn), (hd, sd, B1, B2, B3, hh, fp), (Or, Ro, Ne, rn), Mr) = S6 at hP hD hbn
    have hP : va_P D vwCl [(qq, .inr (4, [.ref r0, .ref rx, .ref ry, .ref rt, .int (J ((S6.1.2.2.2 : Nat) : Int)), .int (J (b2i (S6.2.1.1))), .int (J (b2i (S6.2.1.2.1))), .ref rh, .ref ra, .ref rb, .ref rc, .int (J ((S6.2.1.2.2.2.1 : Nat) : Int)), .int (J ((S6.2.1.2.2.2.2.2.2.2 : Nat) : Int)), .int (J (b2i (S6.2.2.1.1))), .int (J (b2i (S6.2.2.1.2.1))), .ref sa, .ref sb, .ref sc, .int (J ((S6.2.2.1.2.2.2.2.2.1 : Nat) : Int)), .int (J ((S6.2.2.1.2.2.2.2.2.2 : Nat) : Int)), .ref so, .ref sr, .ref sw, .int (J ((S6.2.2.2.1.2.2.2 : Nat) : Int))])), (r0, .inl (cI, 7, .inl (fun z9 => J ((S6.2.2.2.2 z9 : Nat) : Int)))), (rx, .inl (cI, 40, .inl (fun z9 => J (S6.1.1 z9)))), (ry, .inl (cI, 40, .inl (fun z9 => J (S6.1.2.1 z9)))), (rt, .inl (cZ, 40, .inl (fun z9 => J (b2i (S6.1.2.2.1 z9))))), (rh, .inl (cI, 41, .inl (fun z9 => J ((S6.2.1.2.2.1 z9 : Nat) : Int)))), (ra, .inl (cI, 120, .inl (fun z9 => J ((S6.2.1.2.2.2.2.1 z9 : Nat) : Int)))), (rb, .inl (cI, 120, .inl (fun z9 => J ((S6.2.1.2.2.2.2.2.1 z9 : Nat) : Int)))), (rc, .inl (cI, 120, .inl (fun z9 => J ((S6.2.1.2.2.2.2.2.2.1 z9 : Nat) : Int)))), (sa, .inl (cI, 120, .inl (fun z9 => J ((S6.2.2.1.2.2.1 z9 : Nat) : Int)))), (sb, .inl (cI, 120, .inl (fun z9 => J ((S6.2.2.1.2.2.2.1 z9 : Nat) : Int)))), (sc, .inl (cI, 120, .inl (fun z9 => J ((S6.2.2.1.2.2.2.2.1 z9 : Nat) : Int)))), (so, .inl (cI, 40, .inl (fun z9 => J ((S6.2.2.2.1.1 z9 : Nat) : Int)))), (sr, .inl (cI, 80, .inl (fun z9 => J ((S6.2.2.2.1.2.1 z9 : Nat) : Int)))), (sw, .inl (cI, 80, .inl (fun z9 => J ((S6.2.2.2.1.2.2.1 z9 : Nat) : Int))))] H := hP
    have hD : va_D _ [(qq, .inr (4, [.ref r0, .ref rx, .ref ry, .ref rt, .int (J ((S6.1.2.2.2 : Nat) : Int)), .int (J (b2i (S6.2.1.1))), .int (J (b2i (S6.2.1.2.1))), .ref rh, .ref ra, .ref rb, .ref rc, .int (J ((S6.2.1.2.2.2.1 : Nat) : Int)), .int (J ((S6.2.1.2.2.2.2.2.2.2 : Nat) : Int)), .int (J (b2i (S6.2.2.1.1))), .int (J (b2i (S6.2.2.1.2.1))), .ref sa, .ref sb, .ref sc, .int (J ((S6.2.2.1.2.2.2.2.2.1 : Nat) : Int)), .int (J ((S6.2.2.1.2.2.2.2.2.2 : Nat) : Int)), .ref so, .ref sr, .ref sw, .int (J ((S6.2.2.2.1.2.2.2 : Nat) : Int))])), (r0, .inl (cI, 7, .inl (fun z9 => J ((S6.2.2.2.2 z9 : Nat) : Int)))), (rx, .inl (cI, 40, .inl (fun z9 => J (S6.1.1 z9)))), (ry, .inl (cI, 40, .inl (fun z9 => J (S6.1.2.1 z9)))), (rt, .inl (cZ, 40, .inl (fun z9 => J (b2i (S6.1.2.2.1 z9))))), (rh, .inl (cI, 41, .inl (fun z9 => J ((S6.2.1.2.2.1 z9 : Nat) : Int)))), (ra, .inl (cI, 120, .inl (fun z9 => J ((S6.2.1.2.2.2.2.1 z9 : Nat) : Int)))), (rb, .inl (cI, 120, .inl (fun z9 => J ((S6.2.1.2.2.2.2.2.1 z9 : Nat) : Int)))), (rc, .inl (cI, 120, .inl (fun z9 => J ((S6.2.1.2.2.2.2.2.2.1 z9 : Nat) : Int)))), (sa, .inl (cI, 120, .inl (fun z9 => J ((S6.2.2.1.2.2.1 z9 : Nat) : Int)))), (sb, .inl (cI, 120, .inl (fun z9 => J ((S6.2.2.1.2.2.2.1 z9 : Nat) : Int)))), (sc, .inl (cI, 120, .inl (fun z9 => J ((S6.2.2.1.2.2.2.2.1 z9 : Nat) : Int)))), (so, .inl (cI, 40, .inl (fun z9 => J ((S6.2.2.2.1.1 z9 : Nat) : Int)))), (sr, .inl (cI, 80, .inl (fun z9 => J ((S6.2.2.2.1.2.1 z9 : Nat) : Int)))), (sw, .inl (cI, 80, .inl (fun z9 => J ((S6.2.2.2.1.2.2.1 z9 : Nat) : Int))))] := hD
    show W _ _ _ _ _ _ _ _ _ _ _ _ _ _ _ (F0 m 13 ls [.int (J (-3))])
    have hRS6 : RI ((S6.1.1, S6.1.2.1, S6.1.2.2.1, S6.1.2.2.2), (S6.2.1.1, S6.2.1.2.1, S6.2.1.2.2.1, S6.2.1.2.2.2.1, S6.2.1.2.2.2.2.1, S6.2.1.2.2.2.2.2.1, S6.2.1.2.2.2.2.2.2.1, S6.2.1.2.2.2.2.2.2.2), (S6.2.2.1.1, S6.2.2.1.2.1, S6.2.2.1.2.2.1, S6.2.2.1.2.2.2.1, S6.2.2.1.2.2.2.2.1, S6.2.2.1.2.2.2.2.2.1, S6.2.2.1.2.2.2.2.2.2), (S6.2.2.2.1.1, S6.2.2.2.1.2.1, S6.2.2.2.1.2.2.1, S6.2.2.2.1.2.2.2), S6.2.2.2.2) := hbn
    have hX : ∀ i, -10000 ≤ S6.1.1 i ∧ S6.1.1 i ≤ 10000 := hRS6.1
    have hY : ∀ i, -10000 ≤ S6.1.2.1 i ∧ S6.1.2.1 i ≤ 10000 := hRS6.2.1
    have hpn : S6.1.2.2.2 ≤ 40 := hRS6.2.2.1
    have hHu : ∀ i, S6.2.1.2.2.1 i < 40 := hRS6.2.2.2.1
    have hhn : S6.2.1.2.2.2.1 ≤ 41 := hRS6.2.2.2.2.1
    have hA1 : ∀ i, S6.2.1.2.2.2.2.1 i < 40 := hRS6.2.2.2.2.2.1
    have hA2 : ∀ i, S6.2.1.2.2.2.2.2.1 i < 40 := hRS6.2.2.2.2.2.2.1
    have hA3 : ∀ i, S6.2.1.2.2.2.2.2.2.1 i < 40 := hRS6.2.2.2.2.2.2.2.1
    have hmn : S6.2.1.2.2.2.2.2.2.2 ≤ 120 := hRS6.2.2.2.2.2.2.2.2.1
    have hB1 : ∀ i, S6.2.2.1.2.2.1 i < 40 := hRS6.2.2.2.2.2.2.2.2.2.1
    have hB2 : ∀ i, S6.2.2.1.2.2.2.1 i < 40 := hRS6.2.2.2.2.2.2.2.2.2.2.1
    have hB3 : ∀ i, S6.2.2.1.2.2.2.2.1 i < 40 := hRS6.2.2.2.2.2.2.2.2.2.2.2.1
    have hhh : S6.2.2.1.2.2.2.2.2.1 ≤ 120 := hRS6.2.2.2.2.2.2.2.2.2.2.2.2.1
    have hOr : ∀ i, S6.2.2.2.1.1 i < 40 := hRS6.2.2.2.2.2.2.2.2.2.2.2.2.2.1
    have hRo : ∀ i, S6.2.2.2.1.2.1 i < 40 := hRS6.2.2.2.2.2.2.2.2.2.2.2.2.2.2.1
    have hNe : ∀ i, S6.2.2.2.1.2.2.1 i < 40 := hRS6.2.2.2.2.2.2.2.2.2.2.2.2.2.2.2.1
    have hrn : S6.2.2.2.1.2.2.2 ≤ 80 := hRS6.2.2.2.2.2.2.2.2.2.2.2.2.2.2.2.2
    exact jw_iret C hlk hr dX4_settle_13 (by rw [show rpSettle n ((Px, Py, Mt, pn), (kn, fl, Hu, hn, A1, A2, A3, mn), (hd, sd, B1, B2, B3, hh, fp), (Or, Ro, Ne, rn), Mr) = ((-3), ((S6.1.1, S6.1.2.1, S6.1.2.2.1, S6.1.2.2.2), (S6.2.1.1, S6.2.1.2.1, S6.2.1.2.2.1, S6.2.1.2.2.2.1, S6.2.1.2.2.2.2.1, S6.2.1.2.2.2.2.2.1, S6.2.1.2.2.2.2.2.2.1, S6.2.1.2.2.2.2.2.2.2), (S6.2.2.1.1, S6.2.2.1.2.1, S6.2.2.1.2.2.1, S6.2.2.1.2.2.2.1, S6.2.2.1.2.2.2.2.1, S6.2.2.1.2.2.2.2.2.1, S6.2.2.1.2.2.2.2.2.2), (S6.2.2.2.1.1, S6.2.2.2.1.2.1, S6.2.2.2.1.2.2.1, S6.2.2.2.1.2.2.2), S6.2.2.2.2)) from (if_pos (by (try dsimp only); first | assumption | exact bt_nf (by assumption) | exact bf_nt (by assumption) | exact of_decide_eq_true (by assumption) | exact of_decide_eq_false (by assumption) | omega)).trans (by rw [← hS6])]) (by rw [show rpSettle n ((Px, Py, Mt, pn), (kn, fl, Hu, hn, A1, A2, A3, mn), (hd, sd, B1, B2, B3, hh, fp), (Or, Ro, Ne, rn), Mr) = ((-3), ((S6.1.1, S6.1.2.1, S6.1.2.2.1, S6.1.2.2.2), (S6.2.1.1, S6.2.1.2.1, S6.2.1.2.2.1, S6.2.1.2.2.2.1, S6.2.1.2.2.2.2.1, S6.2.1.2.2.2.2.2.1, S6.2.1.2.2.2.2.2.2.1, S6.2.1.2.2.2.2.2.2.2), (S6.2.2.1.1, S6.2.2.1.2.1, S6.2.2.1.2.2.1, S6.2.2.1.2.2.2.1, S6.2.2.1.2.2.2.2.1, S6.2.2.1.2.2.2.2.2.1, S6.2.2.1.2.2.2.2.2.2), (S6.2.2.2.1.1, S6.2.2.2.1.2.1, S6.2.2.2.1.2.2.1, S6.2.2.2.1.2.2.2), S6.2.2.2.2)) from (if_pos (by (try dsimp only); first | assumption | exact bt_nf (by assumption) | exact bf_nt (by assumption) | exact of_decide_eq_true (by assumption) | exact of_decide_eq_false (by assumption) | omega)).trans (by rw [← hS6])]; exact hP) hS
end REFJ
