theorem ff_is {P : Nat → Bool} {n i : Nat} (h : i < n) : (ff P n i).isSome = (P i || (ff P n (i + 1)).isSome) := by
  cases hp : P i with
  | true => rw [ff_hit h hp]; rfl
  | false => rw [ff_go h hp]; rfl
def f3P (X Y : Nat → Int) (T : Nat → Bool) (a b c : Nat) : Bool := T a && (T b && (T c && decide (trn X Y a b c ≠ 0)))
def nf3 (X Y : Nat → Int) (T : Nat → Bool) (n a b c : Nat) : Bool := (ff (f3P X Y T a b) n c).isSome
def nf2 (X Y : Nat → Int) (T : Nat → Bool) (n a b : Nat) : Bool := (ff (fun b => nf3 X Y T n a b (b + 1)) n b).isSome
def nf1 (X Y : Nat → Int) (T : Nat → Bool) (n a : Nat) : Bool := (ff (fun a => nf2 X Y T n a (a + 1)) n a).isSome
def ncS (X Y : Nat → Int) (T : Nat → Bool) (pn p i : Nat) (best : Int) : Int := if i < pn then (if (T i && (decide (i ≠ p) && (decide (best < 0) || (decide (trn X Y p best.toNat i < 0) || (decide (trn X Y p best.toNat i = 0) && decide (sq X Y best.toNat (X p) (Y p) < sq X Y i (X p) (Y p))))))) = true then ncS X Y T pn p (i + 1) (i : Int) else ncS X Y T pn p (i + 1) best) else best
termination_by pn - i
theorem ncS_end {X Y : Nat → Int} {T : Nat → Bool} {pn p i : Nat} {best : Int} (h : pn ≤ i) : ncS X Y T pn p i best = best := by rw [ncS, if_neg (by omega)]
theorem ncS_hit {X Y : Nat → Int} {T : Nat → Bool} {pn p i : Nat} {best : Int} (h : i < pn) (h1 : (T i && (decide (i ≠ p) && (decide (best < 0) || (decide (trn X Y p best.toNat i < 0) || (decide (trn X Y p best.toNat i = 0) && decide (sq X Y best.toNat (X p) (Y p) < sq X Y i (X p) (Y p))))))) = true) : ncS X Y T pn p i best = ncS X Y T pn p (i + 1) (i : Int) := by rw [ncS, if_pos h, if_pos h1]
theorem ncS_no {X Y : Nat → Int} {T : Nat → Bool} {pn p i : Nat} {best : Int} (h : i < pn) (h1 : (T i && (decide (i ≠ p) && (decide (best < 0) || (decide (trn X Y p best.toNat i < 0) || (decide (trn X Y p best.toNat i = 0) && decide (sq X Y best.toNat (X p) (Y p) < sq X Y i (X p) (Y p))))))) = false) : ncS X Y T pn p i best = ncS X Y T pn p (i + 1) best := by rw [ncS, if_pos h, if_neg (by rw [h1]; decide)]
def ndP (X Y : Nat → Int) (T : Nat → Bool) (a b c d : Nat) : Bool := T d && (decide (d ≠ a) && (decide (d ≠ b) && (decide (d ≠ c) && (decide (0 < wth X Y a b c d) || (decide (wth X Y a b c d = 0) && (decide (d < a) || decide (trn X Y b c d < 0)))))))
def drn (X Y : Nat → Int) (T : Nat → Bool) (pn a b c : Nat) : Bool := !(ff (ndP X Y T a b c) pn 0).isSome
def ptA (A1 A2 A3 : Nat → Nat) (t w : Nat) : Nat := if w = 0 then A1 t else if w = 1 then A2 t else A3 t
def hsA (A1 A2 A3 : Nat → Nat) (t : Nat) (z : Int) : Bool := decide ((A1 t : Int) = z) || (decide ((A2 t : Int) = z) || decide ((A3 t : Int) = z))
def lfP (X Y : Nat → Int) (a b : Nat) (x y : Int) : Bool := decide (0 ≤ sgn (lo X Y a b x y))
def bhd (B1 B2 B3 : Nat → Nat) (t a b c : Nat) : Bool := if B1 t ≠ a then decide (a < B1 t) else if B2 t ≠ b then decide (b < B2 t) else decide (c < B3 t)
def haS (B1 B2 B3 : Nat → Nat) (hh : Nat) (a b : Int) (lf t : Nat) : Int := if t < hh then (if (hsA B1 B2 B3 t a && hsA B1 B2 B3 t b) = true then (if lf = 0 then (t : Int) else haS B1 B2 B3 hh a b (lf - 1) (t + 1)) else haS B1 B2 B3 hh a b lf (t + 1)) else -1
termination_by hh - t
theorem haS_end {B1 B2 B3 : Nat → Nat} {hh : Nat} {a b : Int} {lf t : Nat} (h : hh ≤ t) : haS B1 B2 B3 hh a b lf t = -1 := by rw [haS, if_neg (by omega)]
theorem haS_no {B1 B2 B3 : Nat → Nat} {hh : Nat} {a b : Int} {lf t : Nat} (h : t < hh) (h1 : (hsA B1 B2 B3 t a && hsA B1 B2 B3 t b) = false) : haS B1 B2 B3 hh a b lf t = haS B1 B2 B3 hh a b lf (t + 1) := by rw [haS, if_pos h, if_neg (by rw [h1]; decide)]
theorem haS_hit {B1 B2 B3 : Nat → Nat} {hh : Nat} {a b : Int} {lf t : Nat} (h : t < hh) (h1 : (hsA B1 B2 B3 t a && hsA B1 B2 B3 t b) = true) (h2 : lf = 0) : haS B1 B2 B3 hh a b lf t = (t : Int) := by rw [haS, if_pos h, if_pos h1, if_pos h2]
theorem haS_sk {B1 B2 B3 : Nat → Nat} {hh : Nat} {a b : Int} {lf t : Nat} (h : t < hh) (h1 : (hsA B1 B2 B3 t a && hsA B1 B2 B3 t b) = true) (h2 : lf ≠ 0) : haS B1 B2 B3 hh a b lf t = haS B1 B2 B3 hh a b (lf - 1) (t + 1) := by rw [haS, if_pos h, if_pos h1, if_neg h2]
theorem haS_R {B1 B2 B3 : Nat → Nat} {hh : Nat} {a b : Int} : ∀ (k lf t : Nat), hh ≤ t + k → -1 ≤ haS B1 B2 B3 hh a b lf t ∧ haS B1 B2 B3 hh a b lf t < hh ∨ hh = 0 ∧ haS B1 B2 B3 hh a b lf t = -1 := by
  intro k
  induction k with
  | zero => intro lf t h; rw [haS_end (by omega)]; omega
  | succ k ih =>
    intro lf t h
    rcases Nat.lt_or_ge t hh with q | q
    · rw [haS, if_pos q]
      split
      · split
        · omega
        · exact ih _ _ (by omega)
      · exact ih _ _ (by omega)
    · rw [haS_end q]; omega
theorem haS_01 {B1 B2 B3 : Nat → Nat} {hh : Nat} {a b : Int} : ∀ (k t : Nat), hh ≤ t + k → 0 ≤ haS B1 B2 B3 hh a b 1 t → 0 ≤ haS B1 B2 B3 hh a b 0 t := by
  intro k
  induction k with
  | zero => intro t h h1; rw [haS_end (by omega)] at h1; omega
  | succ k ih =>
    intro t h h1
    rcases Nat.lt_or_ge t hh with q | q
    · cases hp : (hsA B1 B2 B3 t a && hsA B1 B2 B3 t b) with
      | true => rw [haS_hit q hp rfl]; omega
      | false => rw [haS_no q hp] at h1 ⊢; exact ih (t + 1) (by omega) h1
    · rw [haS_end q] at h1; omega
def thd (B1 B2 B3 : Nat → Nat) (t : Nat) (a b : Int) : Nat := if (B1 t : Int) ≠ a ∧ (B1 t : Int) ≠ b then B1 t else if (B2 t : Int) ≠ a ∧ (B2 t : Int) ≠ b then B2 t else B3 t
theorem thd_lt {B1 B2 B3 : Nat → Nat} (h1 : ∀ i, B1 i < 40) (h2 : ∀ i, B2 i < 40) (h3 : ∀ i, B3 i < 40) (t : Nat) (a b : Int) : thd B1 B2 B3 t a b < 40 := by
  have := h1 t; have := h2 t; have := h3 t
  unfold thd
  split
  · assumption
  · split <;> assumption
def bdP (X Y : Nat → Int) (a b p q : Nat) : Int := if 0 < wth X Y a b p q * trn X Y a b p ∨ (wth X Y a b p q * trn X Y a b p = 0 ∧ min p q < min a b) then 2 else if trn X Y p q a * trn X Y p q b < 0 then 1 else 0
def bdO (X Y : Nat → Int) (B1 B2 B3 : Nat → Nat) (hh a b : Nat) : Int := if haS B1 B2 B3 hh a b 1 0 < 0 then 0 else bdP X Y a b (thd B1 B2 B3 (haS B1 B2 B3 hh a b 0 0).toNat a b) (thd B1 B2 B3 (haS B1 B2 B3 hh a b 1 0).toNat a b)
theorem bdO_v (X Y : Nat → Int) (B1 B2 B3 : Nat → Nat) (hh a b : Nat) : bdO X Y B1 B2 B3 hh a b = 0 ∨ bdO X Y B1 B2 B3 hh a b = 1 ∨ bdO X Y B1 B2 B3 hh a b = 2 := by
  unfold bdO bdP
  split
  · omega
  · split
    · omega
    · split <;> omega
def edG (B1 B2 B3 : Nat → Nat) (hh : Nat) (a b : Int) : Bool := decide (a ≠ b) && decide (0 ≤ haS B1 B2 B3 hh a b 0 0)
section REF2
variable {l : Launch} {D : va_G} {cI cZ : ClassId} {qq r0 rx ry rt rh ra rb rc sa sb sc so sr sw : Nat} {Px Py : Nat → Int} {Mt : Nat → Bool} {pn : Nat} {kn fl : Bool} {Hu : Nat → Nat} {hn : Nat} {A1 A2 A3 : Nat → Nat} {mn : Nat} {hd sd : Bool} {B1 B2 B3 : Nat → Nat} {hh fp : Nat} {Or Ro Ne : Nat → Nat} {rn : Nat} {Mr : Nat → Nat}
set_option maxRecDepth 20000 in
theorem lp_X4_areFlat_26 {p : Program} {e : Env} {s : State} {m : MethodId} {args : Array Value} {below : List Frame} {meth : Method} {c : Code} {a b : Nat} (C : CallFix p m c cX4_areFlat 4 s args TB RX4) (hlk : meth.locks = false) (hr : meth.sig.returnType = (some .boolean)) (hK : va_K D vwCl (tyz cI cZ) s) (hP : va_P D vwCl (wRS cI cZ qq r0 rx ry rt rh ra rb rc sa sb sc so sr sw ((Px, Py, Mt, pn), (kn, fl, Hu, hn, A1, A2, A3, mn), (hd, sd, B1, B2, B3, hh, fp), (Or, Ro, Ne, rn), Mr)) s.heap) (hRI : RI ((Px, Py, Mt, pn), (kn, fl, Hu, hn, A1, A2, A3, mn), (hd, sd, B1, B2, B3, hh, fp), (Or, Ro, Ne, rn), Mr)) (ha : a < pn) (hb : b < pn) (KK : ∀ rv : Bool, rv = (!(nf2 Px Py Mt pn a (b + 1) || nf1 Px Py Mt pn (a + 1))) → ∀ ls : Array Slot, lv_has ls 4 [(0, .ref qq), (1, .int (J ((a : Nat) : Int))), (2, .int (J ((b + 1 : Nat) : Int)))] → W p l e { frames := 3, cells := 0, slots := 0, locals := 69 } s m args below meth c s.heap [] 0 0 (MQ below (QR (some (.int (J (b2i rv))))) args s 0 0 (fun _ => False)) (F0 m 14 ls [])) :
    ∀ (n : Nat) (i : Nat), pn < i + n → i ≤ pn → ∀ (rv : Bool), rv = (!(nf3 Px Py Mt pn a b i || (nf2 Px Py Mt pn a (b + 1) || nf1 Px Py Mt pn (a + 1)))) → ∀ ls : Array Slot, lv_has ls 4 [(0, .ref qq), (1, .int (J ((a : Nat) : Int))), (2, .int (J ((b : Nat) : Int))), (3, .int (J ((i : Nat) : Int)))] → W p l e { frames := 3, cells := 0, slots := 0, locals := 69 } s m args below meth c s.heap [] 0 0 (MQ below (QR (some (.int (J (b2i rv))))) args s 0 0 (fun _ => False)) (F0 m 26 ls []) := by
  have hX : ∀ i, -10000 ≤ Px i ∧ Px i ≤ 10000 := hRI.1
  have hY : ∀ i, -10000 ≤ Py i ∧ Py i ≤ 10000 := hRI.2.1
  have hpn : pn ≤ 40 := hRI.2.2.1
  have hHu : ∀ i, Hu i < 40 := hRI.2.2.2.1
  have hhn : hn ≤ 41 := hRI.2.2.2.2.1
  have hA1 : ∀ i, A1 i < 40 := hRI.2.2.2.2.2.1
  have hA2 : ∀ i, A2 i < 40 := hRI.2.2.2.2.2.2.1
  have hA3 : ∀ i, A3 i < 40 := hRI.2.2.2.2.2.2.2.1
  have hmn : mn ≤ 120 := hRI.2.2.2.2.2.2.2.2.1
  have hB1 : ∀ i, B1 i < 40 := hRI.2.2.2.2.2.2.2.2.2.1
  have hB2 : ∀ i, B2 i < 40 := hRI.2.2.2.2.2.2.2.2.2.2.1
  have hB3 : ∀ i, B3 i < 40 := hRI.2.2.2.2.2.2.2.2.2.2.2.1
  have hhh : hh ≤ 120 := hRI.2.2.2.2.2.2.2.2.2.2.2.2.1
  have hOr : ∀ i, Or i < 40 := hRI.2.2.2.2.2.2.2.2.2.2.2.2.2.1
  have hRo : ∀ i, Ro i < 40 := hRI.2.2.2.2.2.2.2.2.2.2.2.2.2.2.1
  have hNe : ∀ i, Ne i < 40 := hRI.2.2.2.2.2.2.2.2.2.2.2.2.2.2.2.1
  have hrn : rn ≤ 80 := hRI.2.2.2.2.2.2.2.2.2.2.2.2.2.2.2.2
  have hP : va_P D vwCl [(qq, .inr (4, [.ref r0, .ref rx, .ref ry, .ref rt, .int (J ((pn : Nat) : Int)), .int (J (b2i (kn))), .int (J (b2i (fl))), .ref rh, .ref ra, .ref rb, .ref rc, .int (J ((hn : Nat) : Int)), .int (J ((mn : Nat) : Int)), .int (J (b2i (hd))), .int (J (b2i (sd))), .ref sa, .ref sb, .ref sc, .int (J ((hh : Nat) : Int)), .int (J ((fp : Nat) : Int)), .ref so, .ref sr, .ref sw, .int (J ((rn : Nat) : Int))])), (r0, .inl (cI, 7, .inl (fun z9 => J ((Mr z9 : Nat) : Int)))), (rx, .inl (cI, 40, .inl (fun z9 => J (Px z9)))), (ry, .inl (cI, 40, .inl (fun z9 => J (Py z9)))), (rt, .inl (cZ, 40, .inl (fun z9 => J (b2i (Mt z9))))), (rh, .inl (cI, 41, .inl (fun z9 => J ((Hu z9 : Nat) : Int)))), (ra, .inl (cI, 120, .inl (fun z9 => J ((A1 z9 : Nat) : Int)))), (rb, .inl (cI, 120, .inl (fun z9 => J ((A2 z9 : Nat) : Int)))), (rc, .inl (cI, 120, .inl (fun z9 => J ((A3 z9 : Nat) : Int)))), (sa, .inl (cI, 120, .inl (fun z9 => J ((B1 z9 : Nat) : Int)))), (sb, .inl (cI, 120, .inl (fun z9 => J ((B2 z9 : Nat) : Int)))), (sc, .inl (cI, 120, .inl (fun z9 => J ((B3 z9 : Nat) : Int)))), (so, .inl (cI, 40, .inl (fun z9 => J ((Or z9 : Nat) : Int)))), (sr, .inl (cI, 80, .inl (fun z9 => J ((Ro z9 : Nat) : Int)))), (sw, .inl (cI, 80, .inl (fun z9 => J ((Ne z9 : Nat) : Int))))] s.heap := hP
  intro n
  induction n with
  | zero => intro i hi0 hi1; omega
  | succ n ih =>
    intro i hi0 hi1 rv hrv ls hl
    refine lv_iload_n C.1 C.2.1 dX4_areFlat_26 rfl (lv_at hl 3 rfl) ?_
    refine lv_aload_n C.1 C.2.1 dX4_areFlat_27 rfl (lv_at hl 0 rfl) ?_
    refine jv_get C fw_X4_58 hK hP 0 rfl rfl dX4_areFlat_28 ?_
    refine jv_icmp_ge (tgt := 79) C dX4_areFlat_31 (by decide) (by omega) (fun h1 => ?_) (fun h1 => ?_)
    · refine lv_iinc (v := J (((b + 1 : Nat) : Int))) (lv' := [(2, .int (J ((b + 1 : Nat) : Int))), (0, .ref qq), (1, .int (J ((a : Nat) : Int))), (3, .int (J ((i : Nat) : Int)))]) C.1 C.2.1 dX4_areFlat_79 hl (k := 2) rfl (by rw [show Int32.ofInt 1 = J 1 from rfl, J_add]; exact congrArg J (by omega)) (by decide) rfl (fun ls hl => ?_)
      refine lv_goto (tgt := 14) C.1 C.2.1 dX4_areFlat_82 (by decide) ?_
      exact KK rv (by rw [hrv, nf3, ff_end (by omega)]; rfl) ls (lv_sub hl [1, 2, 0] rfl)
    · refine lv_aload_n C.1 C.2.1 dX4_areFlat_34 rfl (lv_at hl 0 rfl) ?_
      refine jv_get C fw_X4_19 hK hP 0 rfl rfl dX4_areFlat_35 ?_
      refine lv_iload_n C.1 C.2.1 dX4_areFlat_38 rfl (lv_at hl 1 rfl) ?_
      refine jv_zald C hK hP 4 1 rfl rfl (a) (by omega) (by omega) (by decide) dX4_areFlat_39 ?_
      refine jv_bif_eq (tgt := 73) C dX4_areFlat_40 (by decide) (fun h2 => ?_) (fun h2 => ?_)
      · refine lv_iinc (v := J (((i + 1 : Nat) : Int))) (lv' := [(3, .int (J ((i + 1 : Nat) : Int))), (0, .ref qq), (1, .int (J ((a : Nat) : Int))), (2, .int (J ((b : Nat) : Int)))]) C.1 C.2.1 dX4_areFlat_73 hl (k := 3) rfl (by rw [show Int32.ofInt 1 = J 1 from rfl, J_add]; exact congrArg J (by omega)) (by decide) rfl (fun ls hl => ?_)
        refine lv_goto (tgt := 26) C.1 C.2.1 dX4_areFlat_76 (by decide) ?_
        exact ih (i + 1) (by omega) (by omega) rv (by rw [hrv, nf3, ff_go (by omega) (by unfold f3P; rw [h2, Bool.false_and])]; rfl) ls (lv_sub hl [1, 2, 3, 0] rfl)
      · refine lv_aload_n C.1 C.2.1 dX4_areFlat_43 rfl (lv_at hl 0 rfl) ?_
        refine jv_get C fw_X4_19 hK hP 0 rfl rfl dX4_areFlat_44 ?_
        refine lv_iload_n C.1 C.2.1 dX4_areFlat_47 rfl (lv_at hl 2 rfl) ?_
        refine jv_zald C hK hP 4 1 rfl rfl (b) (by omega) (by omega) (by decide) dX4_areFlat_48 ?_
        refine jv_bif_eq (tgt := 73) C dX4_areFlat_49 (by decide) (fun h3 => ?_) (fun h3 => ?_)
        · refine lv_iinc (v := J (((i + 1 : Nat) : Int))) (lv' := [(3, .int (J ((i + 1 : Nat) : Int))), (0, .ref qq), (1, .int (J ((a : Nat) : Int))), (2, .int (J ((b : Nat) : Int)))]) C.1 C.2.1 dX4_areFlat_73 hl (k := 3) rfl (by rw [show Int32.ofInt 1 = J 1 from rfl, J_add]; exact congrArg J (by omega)) (by decide) rfl (fun ls hl => ?_)
          refine lv_goto (tgt := 26) C.1 C.2.1 dX4_areFlat_76 (by decide) ?_
          exact ih (i + 1) (by omega) (by omega) rv (by rw [hrv, nf3, ff_go (by omega) (by unfold f3P; rw [h3, Bool.false_and, Bool.and_false])]; rfl) ls (lv_sub hl [1, 2, 3, 0] rfl)
        · refine lv_aload_n C.1 C.2.1 dX4_areFlat_52 rfl (lv_at hl 0 rfl) ?_
          refine jv_get C fw_X4_19 hK hP 0 rfl rfl dX4_areFlat_53 ?_
          refine lv_iload_n C.1 C.2.1 dX4_areFlat_56 rfl (lv_at hl 3 rfl) ?_
          refine jv_zald C hK hP 4 1 rfl rfl (i) (by omega) (by omega) (by decide) dX4_areFlat_57 ?_
          refine jv_bif_eq (tgt := 73) C dX4_areFlat_58 (by decide) (fun h4 => ?_) (fun h4 => ?_)
          · refine lv_iinc (v := J (((i + 1 : Nat) : Int))) (lv' := [(3, .int (J ((i + 1 : Nat) : Int))), (0, .ref qq), (1, .int (J ((a : Nat) : Int))), (2, .int (J ((b : Nat) : Int)))]) C.1 C.2.1 dX4_areFlat_73 hl (k := 3) rfl (by rw [show Int32.ofInt 1 = J 1 from rfl, J_add]; exact congrArg J (by omega)) (by decide) rfl (fun ls hl => ?_)
            refine lv_goto (tgt := 26) C.1 C.2.1 dX4_areFlat_76 (by decide) ?_
            exact ih (i + 1) (by omega) (by omega) rv (by rw [hrv, nf3, ff_go (by omega) (by unfold f3P; rw [h4, Bool.false_and, Bool.and_false, Bool.and_false])]; rfl) ls (lv_sub hl [1, 2, 3, 0] rfl)
          · refine lv_aload_n C.1 C.2.1 dX4_areFlat_61 rfl (lv_at hl 0 rfl) ?_
            refine lv_iload_n C.1 C.2.1 dX4_areFlat_62 rfl (lv_at hl 1 rfl) ?_
            refine lv_iload_n C.1 C.2.1 dX4_areFlat_63 rfl (lv_at hl 2 rfl) ?_
            refine lv_iload_n C.1 C.2.1 dX4_areFlat_64 rfl (lv_at hl 3 rfl) ?_
            refine jv_rdV (ni := 3) (ci := 4) (q0 := 0) C [.int (J ((a : Nat) : Int)), .int (J ((b : Nat) : Int)), .int (J ((i : Nat) : Int))] [] (c_X4_turns (Px := Px) (Py := Py) (Mt := Mt) (pn := pn) (kn := kn) (fl := fl) (Hu := Hu) (hn := hn) (A1 := A1) (A2 := A2) (A3 := A3) (mn := mn) (hd := hd) (sd := sd) (B1 := B1) (B2 := B2) (B3 := B3) (hh := hh) (fp := fp) (Or := Or) (Ro := Ro) (Ne := Ne) (rn := rn) (Mr := Mr) hRI (a := a) (b := b) (k := i) (by omega) (by omega) (by omega)) gv_X4_95 (by decide +kernel) (by decide) hK (hP) rfl rfl rfl hl.1 (by simp [Value.category]) dX4_areFlat_65 (by decide) ?_ rfl
            show W _ _ _ _ _ _ _ _ _ _ _ _ _ _ _ (F0 m 68 ls [.int (J (trn Px Py a b i))])
            have f5 := trn_R Px Py a b i
            refine jv_if_eq (tgt := 73) C dX4_areFlat_68 (by decide) (by omega) (fun h6 => ?_) (fun h6 => ?_)
            · refine lv_iinc (v := J (((i + 1 : Nat) : Int))) (lv' := [(3, .int (J ((i + 1 : Nat) : Int))), (0, .ref qq), (1, .int (J ((a : Nat) : Int))), (2, .int (J ((b : Nat) : Int)))]) C.1 C.2.1 dX4_areFlat_73 hl (k := 3) rfl (by rw [show Int32.ofInt 1 = J 1 from rfl, J_add]; exact congrArg J (by omega)) (by decide) rfl (fun ls hl => ?_)
              refine lv_goto (tgt := 26) C.1 C.2.1 dX4_areFlat_76 (by decide) ?_
              exact ih (i + 1) (by omega) (by omega) rv (by rw [hrv, nf3, ff_go (by omega) (by unfold f3P; rw [decide_eq_false (by omega), Bool.and_false, Bool.and_false, Bool.and_false])]; rfl) ls (lv_sub hl [1, 2, 3, 0] rfl)
            · refine jv_iconst C dX4_areFlat_71 ?_
              exact jv_zret C hlk hr dX4_areFlat_72 (by rw [hrv, nf3, ff_hit (by omega) (by unfold f3P; rw [h2, h3, h4, decide_eq_true (by omega)]; rfl)]; rfl)
set_option maxRecDepth 20000 in
theorem lp_X4_areFlat_14 {p : Program} {e : Env} {s : State} {m : MethodId} {args : Array Value} {below : List Frame} {meth : Method} {c : Code} {a : Nat} (C : CallFix p m c cX4_areFlat 4 s args TB RX4) (hlk : meth.locks = false) (hr : meth.sig.returnType = (some .boolean)) (hK : va_K D vwCl (tyz cI cZ) s) (hP : va_P D vwCl (wRS cI cZ qq r0 rx ry rt rh ra rb rc sa sb sc so sr sw ((Px, Py, Mt, pn), (kn, fl, Hu, hn, A1, A2, A3, mn), (hd, sd, B1, B2, B3, hh, fp), (Or, Ro, Ne, rn), Mr)) s.heap) (hRI : RI ((Px, Py, Mt, pn), (kn, fl, Hu, hn, A1, A2, A3, mn), (hd, sd, B1, B2, B3, hh, fp), (Or, Ro, Ne, rn), Mr)) (ha : a < pn) (KK : ∀ rv : Bool, rv = (!(nf1 Px Py Mt pn (a + 1))) → ∀ ls : Array Slot, lv_has ls 4 [(0, .ref qq), (1, .int (J ((a + 1 : Nat) : Int)))] → W p l e { frames := 3, cells := 0, slots := 0, locals := 69 } s m args below meth c s.heap [] 0 0 (MQ below (QR (some (.int (J (b2i rv))))) args s 0 0 (fun _ => False)) (F0 m 2 ls [])) :
    ∀ (n : Nat) (i : Nat), pn < i + n → i ≤ pn → ∀ (rv : Bool), rv = (!(nf2 Px Py Mt pn a i || nf1 Px Py Mt pn (a + 1))) → ∀ ls : Array Slot, lv_has ls 4 [(0, .ref qq), (1, .int (J ((a : Nat) : Int))), (2, .int (J ((i : Nat) : Int)))] → W p l e { frames := 3, cells := 0, slots := 0, locals := 69 } s m args below meth c s.heap [] 0 0 (MQ below (QR (some (.int (J (b2i rv))))) args s 0 0 (fun _ => False)) (F0 m 14 ls []) := by
  have hX : ∀ i, -10000 ≤ Px i ∧ Px i ≤ 10000 := hRI.1
  have hY : ∀ i, -10000 ≤ Py i ∧ Py i ≤ 10000 := hRI.2.1
  have hpn : pn ≤ 40 := hRI.2.2.1
  have hHu : ∀ i, Hu i < 40 := hRI.2.2.2.1
  have hhn : hn ≤ 41 := hRI.2.2.2.2.1
  have hA1 : ∀ i, A1 i < 40 := hRI.2.2.2.2.2.1
  have hA2 : ∀ i, A2 i < 40 := hRI.2.2.2.2.2.2.1
  have hA3 : ∀ i, A3 i < 40 := hRI.2.2.2.2.2.2.2.1
  have hmn : mn ≤ 120 := hRI.2.2.2.2.2.2.2.2.1
  have hB1 : ∀ i, B1 i < 40 := hRI.2.2.2.2.2.2.2.2.2.1
  have hB2 : ∀ i, B2 i < 40 := hRI.2.2.2.2.2.2.2.2.2.2.1
  have hB3 : ∀ i, B3 i < 40 := hRI.2.2.2.2.2.2.2.2.2.2.2.1
  have hhh : hh ≤ 120 := hRI.2.2.2.2.2.2.2.2.2.2.2.2.1
  have hOr : ∀ i, Or i < 40 := hRI.2.2.2.2.2.2.2.2.2.2.2.2.2.1
  have hRo : ∀ i, Ro i < 40 := hRI.2.2.2.2.2.2.2.2.2.2.2.2.2.2.1
  have hNe : ∀ i, Ne i < 40 := hRI.2.2.2.2.2.2.2.2.2.2.2.2.2.2.2.1
  have hrn : rn ≤ 80 := hRI.2.2.2.2.2.2.2.2.2.2.2.2.2.2.2.2
  have hP : va_P D vwCl [(qq, .inr (4, [.ref r0, .ref rx, .ref ry, .ref rt, .int (J ((pn : Nat) : Int)), .int (J (b2i (kn))), .int (J (b2i (fl))), .ref rh, .ref ra, .ref rb, .ref rc, .int (J ((hn : Nat) : Int)), .int (J ((mn : Nat) : Int)), .int (J (b2i (hd))), .int (J (b2i (sd))), .ref sa, .ref sb, .ref sc, .int (J ((hh : Nat) : Int)), .int (J ((fp : Nat) : Int)), .ref so, .ref sr, .ref sw, .int (J ((rn : Nat) : Int))])), (r0, .inl (cI, 7, .inl (fun z9 => J ((Mr z9 : Nat) : Int)))), (rx, .inl (cI, 40, .inl (fun z9 => J (Px z9)))), (ry, .inl (cI, 40, .inl (fun z9 => J (Py z9)))), (rt, .inl (cZ, 40, .inl (fun z9 => J (b2i (Mt z9))))), (rh, .inl (cI, 41, .inl (fun z9 => J ((Hu z9 : Nat) : Int)))), (ra, .inl (cI, 120, .inl (fun z9 => J ((A1 z9 : Nat) : Int)))), (rb, .inl (cI, 120, .inl (fun z9 => J ((A2 z9 : Nat) : Int)))), (rc, .inl (cI, 120, .inl (fun z9 => J ((A3 z9 : Nat) : Int)))), (sa, .inl (cI, 120, .inl (fun z9 => J ((B1 z9 : Nat) : Int)))), (sb, .inl (cI, 120, .inl (fun z9 => J ((B2 z9 : Nat) : Int)))), (sc, .inl (cI, 120, .inl (fun z9 => J ((B3 z9 : Nat) : Int)))), (so, .inl (cI, 40, .inl (fun z9 => J ((Or z9 : Nat) : Int)))), (sr, .inl (cI, 80, .inl (fun z9 => J ((Ro z9 : Nat) : Int)))), (sw, .inl (cI, 80, .inl (fun z9 => J ((Ne z9 : Nat) : Int))))] s.heap := hP
  intro n
  induction n with
  | zero => intro i hi0 hi1; omega
  | succ n ih =>
    intro i hi0 hi1 rv hrv ls hl
    refine lv_iload_n C.1 C.2.1 dX4_areFlat_14 rfl (lv_at hl 2 rfl) ?_
    refine lv_aload_n C.1 C.2.1 dX4_areFlat_15 rfl (lv_at hl 0 rfl) ?_
    refine jv_get C fw_X4_58 hK hP 0 rfl rfl dX4_areFlat_16 ?_
    refine jv_icmp_ge (tgt := 85) C dX4_areFlat_19 (by decide) (by omega) (fun h1 => ?_) (fun h1 => ?_)
    · refine lv_iinc (v := J (((a + 1 : Nat) : Int))) (lv' := [(1, .int (J ((a + 1 : Nat) : Int))), (0, .ref qq), (2, .int (J ((i : Nat) : Int)))]) C.1 C.2.1 dX4_areFlat_85 hl (k := 1) rfl (by rw [show Int32.ofInt 1 = J 1 from rfl, J_add]; exact congrArg J (by omega)) (by decide) rfl (fun ls hl => ?_)
      refine lv_goto (tgt := 2) C.1 C.2.1 dX4_areFlat_88 (by decide) ?_
      exact KK rv (by rw [hrv, nf2, ff_end (by omega)]; rfl) ls (lv_sub hl [1, 0] rfl)
    · refine lv_iload_n C.1 C.2.1 dX4_areFlat_22 rfl (lv_at hl 2 rfl) ?_
      refine jv_iconst C dX4_areFlat_23 ?_
      refine jv_iadd (z := ((i + 1 : Nat) : Int)) C dX4_areFlat_24 (by omega) ?_
      refine lv_istore_n (lv' := [(3, .int (J ((i + 1 : Nat) : Int))), (0, .ref qq), (1, .int (J ((a : Nat) : Int))), (2, .int (J ((i : Nat) : Int)))]) C.1 C.2.1 dX4_areFlat_25 rfl hl (by decide) rfl (fun ls hl => ?_)
      exact lp_X4_areFlat_26 C hlk hr hK hP hRI ha (by omega) (fun rv h ls hl => ih (i + 1) (by omega) (by omega) rv h ls hl) (pn + 1) (i + 1) (by omega) (by omega) rv (by rw [hrv, nf2, ff_is (by omega), Bool.or_assoc]; rfl) ls (lv_sub hl [1, 2, 3, 0] rfl)
set_option maxRecDepth 20000 in
theorem lp_X4_areFlat_2 {p : Program} {e : Env} {s : State} {m : MethodId} {args : Array Value} {below : List Frame} {meth : Method} {c : Code}  (C : CallFix p m c cX4_areFlat 4 s args TB RX4) (hlk : meth.locks = false) (hr : meth.sig.returnType = (some .boolean)) (hK : va_K D vwCl (tyz cI cZ) s) (hP : va_P D vwCl (wRS cI cZ qq r0 rx ry rt rh ra rb rc sa sb sc so sr sw ((Px, Py, Mt, pn), (kn, fl, Hu, hn, A1, A2, A3, mn), (hd, sd, B1, B2, B3, hh, fp), (Or, Ro, Ne, rn), Mr)) s.heap) (hRI : RI ((Px, Py, Mt, pn), (kn, fl, Hu, hn, A1, A2, A3, mn), (hd, sd, B1, B2, B3, hh, fp), (Or, Ro, Ne, rn), Mr))  :
    ∀ (n : Nat) (i : Nat), pn < i + n → i ≤ pn → ∀ (rv : Bool), rv = (!(nf1 Px Py Mt pn i)) → ∀ ls : Array Slot, lv_has ls 4 [(0, .ref qq), (1, .int (J ((i : Nat) : Int)))] → W p l e { frames := 3, cells := 0, slots := 0, locals := 69 } s m args below meth c s.heap [] 0 0 (MQ below (QR (some (.int (J (b2i rv))))) args s 0 0 (fun _ => False)) (F0 m 2 ls []) := by
  have hX : ∀ i, -10000 ≤ Px i ∧ Px i ≤ 10000 := hRI.1
  have hY : ∀ i, -10000 ≤ Py i ∧ Py i ≤ 10000 := hRI.2.1
  have hpn : pn ≤ 40 := hRI.2.2.1
  have hHu : ∀ i, Hu i < 40 := hRI.2.2.2.1
  have hhn : hn ≤ 41 := hRI.2.2.2.2.1
  have hA1 : ∀ i, A1 i < 40 := hRI.2.2.2.2.2.1
  have hA2 : ∀ i, A2 i < 40 := hRI.2.2.2.2.2.2.1
  have hA3 : ∀ i, A3 i < 40 := hRI.2.2.2.2.2.2.2.1
  have hmn : mn ≤ 120 := hRI.2.2.2.2.2.2.2.2.1
  have hB1 : ∀ i, B1 i < 40 := hRI.2.2.2.2.2.2.2.2.2.1
  have hB2 : ∀ i, B2 i < 40 := hRI.2.2.2.2.2.2.2.2.2.2.1
  have hB3 : ∀ i, B3 i < 40 := hRI.2.2.2.2.2.2.2.2.2.2.2.1
  have hhh : hh ≤ 120 := hRI.2.2.2.2.2.2.2.2.2.2.2.2.1
  have hOr : ∀ i, Or i < 40 := hRI.2.2.2.2.2.2.2.2.2.2.2.2.2.1
  have hRo : ∀ i, Ro i < 40 := hRI.2.2.2.2.2.2.2.2.2.2.2.2.2.2.1
  have hNe : ∀ i, Ne i < 40 := hRI.2.2.2.2.2.2.2.2.2.2.2.2.2.2.2.1
  have hrn : rn ≤ 80 := hRI.2.2.2.2.2.2.2.2.2.2.2.2.2.2.2.2
  have hP : va_P D vwCl [(qq, .inr (4, [.ref r0, .ref rx, .ref ry, .ref rt, .int (J ((pn : Nat) : Int)), .int (J (b2i (kn))), .int (J (b2i (fl))), .ref rh, .ref ra, .ref rb, .ref rc, .int (J ((hn : Nat) : Int)), .int (J ((mn : Nat) : Int)), .int (J (b2i (hd))), .int (J (b2i (sd))), .ref sa, .ref sb, .ref sc, .int (J ((hh : Nat) : Int)), .int (J ((fp : Nat) : Int)), .ref so, .ref sr, .ref sw, .int (J ((rn : Nat) : Int))])), (r0, .inl (cI, 7, .inl (fun z9 => J ((Mr z9 : Nat) : Int)))), (rx, .inl (cI, 40, .inl (fun z9 => J (Px z9)))), (ry, .inl (cI, 40, .inl (fun z9 => J (Py z9)))), (rt, .inl (cZ, 40, .inl (fun z9 => J (b2i (Mt z9))))), (rh, .inl (cI, 41, .inl (fun z9 => J ((Hu z9 : Nat) : Int)))), (ra, .inl (cI, 120, .inl (fun z9 => J ((A1 z9 : Nat) : Int)))), (rb, .inl (cI, 120, .inl (fun z9 => J ((A2 z9 : Nat) : Int)))), (rc, .inl (cI, 120, .inl (fun z9 => J ((A3 z9 : Nat) : Int)))), (sa, .inl (cI, 120, .inl (fun z9 => J ((B1 z9 : Nat) : Int)))), (sb, .inl (cI, 120, .inl (fun z9 => J ((B2 z9 : Nat) : Int)))), (sc, .inl (cI, 120, .inl (fun z9 => J ((B3 z9 : Nat) : Int)))), (so, .inl (cI, 40, .inl (fun z9 => J ((Or z9 : Nat) : Int)))), (sr, .inl (cI, 80, .inl (fun z9 => J ((Ro z9 : Nat) : Int)))), (sw, .inl (cI, 80, .inl (fun z9 => J ((Ne z9 : Nat) : Int))))] s.heap := hP
  intro n
  induction n with
  | zero => intro i hi0 hi1; omega
  | succ n ih =>
    intro i hi0 hi1 rv hrv ls hl
    refine lv_iload_n C.1 C.2.1 dX4_areFlat_2 rfl (lv_at hl 1 rfl) ?_
    refine lv_aload_n C.1 C.2.1 dX4_areFlat_3 rfl (lv_at hl 0 rfl) ?_
    refine jv_get C fw_X4_58 hK hP 0 rfl rfl dX4_areFlat_4 ?_
    refine jv_icmp_ge (tgt := 91) C dX4_areFlat_7 (by decide) (by omega) (fun h1 => ?_) (fun h1 => ?_)
    · refine jv_iconst C dX4_areFlat_91 ?_
      exact jv_zret C hlk hr dX4_areFlat_92 (by rw [hrv, nf1, ff_end (by omega)]; rfl)
    · refine lv_iload_n C.1 C.2.1 dX4_areFlat_10 rfl (lv_at hl 1 rfl) ?_
      refine jv_iconst C dX4_areFlat_11 ?_
      refine jv_iadd (z := ((i + 1 : Nat) : Int)) C dX4_areFlat_12 (by omega) ?_
      refine lv_istore_n (lv' := [(2, .int (J ((i + 1 : Nat) : Int))), (0, .ref qq), (1, .int (J ((i : Nat) : Int)))]) C.1 C.2.1 dX4_areFlat_13 rfl hl (by decide) rfl (fun ls hl => ?_)
      exact lp_X4_areFlat_14 C hlk hr hK hP hRI (by omega) (fun rv h ls hl => ih (i + 1) (by omega) (by omega) rv h ls hl) (pn + 1) (i + 1) (by omega) (by omega) rv (by rw [hrv, nf1, ff_is (by omega)]; rfl) ls (lv_sub hl [1, 2, 0] rfl)
set_option maxRecDepth 20000 in
set_option maxHeartbeats 4000000 in
theorem c_X4_areFlat  (hRI : RI ((Px, Py, Mt, pn), (kn, fl, Hu, hn, A1, A2, A3, mn), (hd, sd, B1, B2, B3, hh, fp), (Or, Ro, Ne, rn), Mr))  : cR l yX4_areFlat cX4_areFlat 4 (some .boolean) 3 69 D (tyz cI cZ) [.ref qq] (wRS cI cZ qq r0 rx ry rt rh ra rb rc sa sb sc so sr sw ((Px, Py, Mt, pn), (kn, fl, Hu, hn, A1, A2, A3, mn), (hd, sd, B1, B2, B3, hh, fp), (Or, Ro, Ne, rn), Mr)) (some (.int (J (b2i (!(nf1 Px Py Mt pn 0)))))) := by
  refine cR_of (owner := RX4) rfl (by decide) (Nat.le_of_ble_eq_true rfl) ?_
  intro p e s m args below meth c ls C hlk hr hK hP hl
  have hl : lv_has ls 4 [(0, .ref qq)] := hl
  have hP : va_P D vwCl [(qq, .inr (4, [.ref r0, .ref rx, .ref ry, .ref rt, .int (J ((pn : Nat) : Int)), .int (J (b2i (kn))), .int (J (b2i (fl))), .ref rh, .ref ra, .ref rb, .ref rc, .int (J ((hn : Nat) : Int)), .int (J ((mn : Nat) : Int)), .int (J (b2i (hd))), .int (J (b2i (sd))), .ref sa, .ref sb, .ref sc, .int (J ((hh : Nat) : Int)), .int (J ((fp : Nat) : Int)), .ref so, .ref sr, .ref sw, .int (J ((rn : Nat) : Int))])), (r0, .inl (cI, 7, .inl (fun z9 => J ((Mr z9 : Nat) : Int)))), (rx, .inl (cI, 40, .inl (fun z9 => J (Px z9)))), (ry, .inl (cI, 40, .inl (fun z9 => J (Py z9)))), (rt, .inl (cZ, 40, .inl (fun z9 => J (b2i (Mt z9))))), (rh, .inl (cI, 41, .inl (fun z9 => J ((Hu z9 : Nat) : Int)))), (ra, .inl (cI, 120, .inl (fun z9 => J ((A1 z9 : Nat) : Int)))), (rb, .inl (cI, 120, .inl (fun z9 => J ((A2 z9 : Nat) : Int)))), (rc, .inl (cI, 120, .inl (fun z9 => J ((A3 z9 : Nat) : Int)))), (sa, .inl (cI, 120, .inl (fun z9 => J ((B1 z9 : Nat) : Int)))), (sb, .inl (cI, 120, .inl (fun z9 => J ((B2 z9 : Nat) : Int)))), (sc, .inl (cI, 120, .inl (fun z9 => J ((B3 z9 : Nat) : Int)))), (so, .inl (cI, 40, .inl (fun z9 => J ((Or z9 : Nat) : Int)))), (sr, .inl (cI, 80, .inl (fun z9 => J ((Ro z9 : Nat) : Int)))), (sw, .inl (cI, 80, .inl (fun z9 => J ((Ne z9 : Nat) : Int))))] s.heap := hP
  have hX : ∀ i, -10000 ≤ Px i ∧ Px i ≤ 10000 := hRI.1
  have hY : ∀ i, -10000 ≤ Py i ∧ Py i ≤ 10000 := hRI.2.1
  have hpn : pn ≤ 40 := hRI.2.2.1
  have hHu : ∀ i, Hu i < 40 := hRI.2.2.2.1
  have hhn : hn ≤ 41 := hRI.2.2.2.2.1
  have hA1 : ∀ i, A1 i < 40 := hRI.2.2.2.2.2.1
  have hA2 : ∀ i, A2 i < 40 := hRI.2.2.2.2.2.2.1
  have hA3 : ∀ i, A3 i < 40 := hRI.2.2.2.2.2.2.2.1
  have hmn : mn ≤ 120 := hRI.2.2.2.2.2.2.2.2.1
  have hB1 : ∀ i, B1 i < 40 := hRI.2.2.2.2.2.2.2.2.2.1
  have hB2 : ∀ i, B2 i < 40 := hRI.2.2.2.2.2.2.2.2.2.2.1
  have hB3 : ∀ i, B3 i < 40 := hRI.2.2.2.2.2.2.2.2.2.2.2.1
  have hhh : hh ≤ 120 := hRI.2.2.2.2.2.2.2.2.2.2.2.2.1
  have hOr : ∀ i, Or i < 40 := hRI.2.2.2.2.2.2.2.2.2.2.2.2.2.1
  have hRo : ∀ i, Ro i < 40 := hRI.2.2.2.2.2.2.2.2.2.2.2.2.2.2.1
  have hNe : ∀ i, Ne i < 40 := hRI.2.2.2.2.2.2.2.2.2.2.2.2.2.2.2.1
  have hrn : rn ≤ 80 := hRI.2.2.2.2.2.2.2.2.2.2.2.2.2.2.2.2
  refine jv_iconst C dX4_areFlat_0 ?_
  refine lv_istore_n (lv' := [(1, .int (J 0)), (0, .ref qq)]) C.1 C.2.1 dX4_areFlat_1 rfl hl (by decide) rfl (fun ls hl => ?_)
  exact lp_X4_areFlat_2 C hlk hr hK hP hRI (pn + 1) 0 (by omega) (by omega) _ rfl ls (lv_sub hl [1, 0] rfl)
set_option maxRecDepth 20000 in
theorem lp_X4_nextCorner_4 {p : Program} {e : Env} {s : State} {m : MethodId} {args : Array Value} {below : List Frame} {meth : Method} {c : Code} {a : Nat} (C : CallFix p m c cX4_nextCorner 5 s args TB RX4) (hlk : meth.locks = false) (hr : meth.sig.returnType = (some .int)) (hK : va_K D vwCl (tyz cI cZ) s) (hP : va_P D vwCl (wRS cI cZ qq r0 rx ry rt rh ra rb rc sa sb sc so sr sw ((Px, Py, Mt, pn), (kn, fl, Hu, hn, A1, A2, A3, mn), (hd, sd, B1, B2, B3, hh, fp), (Or, Ro, Ne, rn), Mr)) s.heap) (hRI : RI ((Px, Py, Mt, pn), (kn, fl, Hu, hn, A1, A2, A3, mn), (hd, sd, B1, B2, B3, hh, fp), (Or, Ro, Ne, rn), Mr)) (ha : a < 40) :
    ∀ (n : Nat) (i : Nat) (bst : Int), pn < i + n → i ≤ pn → -1 ≤ bst → bst < 40 → ∀ (rv : Int), rv = ncS Px Py Mt pn a i bst → ∀ ls : Array Slot, lv_has ls 5 [(0, .ref qq), (1, .int (J ((a : Nat) : Int))), (2, .int (J bst)), (3, .int (J ((i : Nat) : Int)))] → W p l e { frames := 3, cells := 0, slots := 0, locals := 69 } s m args below meth c s.heap [] 0 0 (MQ below (QR (some (.int (J rv)))) args s 0 0 (fun _ => False)) (F0 m 4 ls []) := by
  have hX : ∀ i, -10000 ≤ Px i ∧ Px i ≤ 10000 := hRI.1
  have hY : ∀ i, -10000 ≤ Py i ∧ Py i ≤ 10000 := hRI.2.1
  have hpn : pn ≤ 40 := hRI.2.2.1
  have hHu : ∀ i, Hu i < 40 := hRI.2.2.2.1
  have hhn : hn ≤ 41 := hRI.2.2.2.2.1
  have hA1 : ∀ i, A1 i < 40 := hRI.2.2.2.2.2.1
  have hA2 : ∀ i, A2 i < 40 := hRI.2.2.2.2.2.2.1
  have hA3 : ∀ i, A3 i < 40 := hRI.2.2.2.2.2.2.2.1
  have hmn : mn ≤ 120 := hRI.2.2.2.2.2.2.2.2.1
  have hB1 : ∀ i, B1 i < 40 := hRI.2.2.2.2.2.2.2.2.2.1
  have hB2 : ∀ i, B2 i < 40 := hRI.2.2.2.2.2.2.2.2.2.2.1
  have hB3 : ∀ i, B3 i < 40 := hRI.2.2.2.2.2.2.2.2.2.2.2.1
  have hhh : hh ≤ 120 := hRI.2.2.2.2.2.2.2.2.2.2.2.2.1
  have hOr : ∀ i, Or i < 40 := hRI.2.2.2.2.2.2.2.2.2.2.2.2.2.1
  have hRo : ∀ i, Ro i < 40 := hRI.2.2.2.2.2.2.2.2.2.2.2.2.2.2.1
  have hNe : ∀ i, Ne i < 40 := hRI.2.2.2.2.2.2.2.2.2.2.2.2.2.2.2.1
  have hrn : rn ≤ 80 := hRI.2.2.2.2.2.2.2.2.2.2.2.2.2.2.2.2
  have hP : va_P D vwCl [(qq, .inr (4, [.ref r0, .ref rx, .ref ry, .ref rt, .int (J ((pn : Nat) : Int)), .int (J (b2i (kn))), .int (J (b2i (fl))), .ref rh, .ref ra, .ref rb, .ref rc, .int (J ((hn : Nat) : Int)), .int (J ((mn : Nat) : Int)), .int (J (b2i (hd))), .int (J (b2i (sd))), .ref sa, .ref sb, .ref sc, .int (J ((hh : Nat) : Int)), .int (J ((fp : Nat) : Int)), .ref so, .ref sr, .ref sw, .int (J ((rn : Nat) : Int))])), (r0, .inl (cI, 7, .inl (fun z9 => J ((Mr z9 : Nat) : Int)))), (rx, .inl (cI, 40, .inl (fun z9 => J (Px z9)))), (ry, .inl (cI, 40, .inl (fun z9 => J (Py z9)))), (rt, .inl (cZ, 40, .inl (fun z9 => J (b2i (Mt z9))))), (rh, .inl (cI, 41, .inl (fun z9 => J ((Hu z9 : Nat) : Int)))), (ra, .inl (cI, 120, .inl (fun z9 => J ((A1 z9 : Nat) : Int)))), (rb, .inl (cI, 120, .inl (fun z9 => J ((A2 z9 : Nat) : Int)))), (rc, .inl (cI, 120, .inl (fun z9 => J ((A3 z9 : Nat) : Int)))), (sa, .inl (cI, 120, .inl (fun z9 => J ((B1 z9 : Nat) : Int)))), (sb, .inl (cI, 120, .inl (fun z9 => J ((B2 z9 : Nat) : Int)))), (sc, .inl (cI, 120, .inl (fun z9 => J ((B3 z9 : Nat) : Int)))), (so, .inl (cI, 40, .inl (fun z9 => J ((Or z9 : Nat) : Int)))), (sr, .inl (cI, 80, .inl (fun z9 => J ((Ro z9 : Nat) : Int)))), (sw, .inl (cI, 80, .inl (fun z9 => J ((Ne z9 : Nat) : Int))))] s.heap := hP
  intro n
  induction n with
  | zero => intro i bst hi0 hi1 hi2 hi3; omega
  | succ n ih =>
    intro i bst hi0 hi1 hi2 hi3 rv hrv ls hl
    refine lv_iload_n C.1 C.2.1 dX4_nextCorner_4 rfl (lv_at hl 3 rfl) ?_
    refine lv_aload_n C.1 C.2.1 dX4_nextCorner_5 rfl (lv_at hl 0 rfl) ?_
    refine jv_get C fw_X4_58 hK hP 0 rfl rfl dX4_nextCorner_6 ?_
    refine jv_icmp_ge (tgt := 84) C dX4_nextCorner_9 (by decide) (by omega) (fun h1 => ?_) (fun h1 => ?_)
    · refine lv_iload_n C.1 C.2.1 dX4_nextCorner_84 rfl (lv_at hl 2 rfl) ?_
      exact jv_iret C hlk hr dX4_nextCorner_85 (by rw [hrv, ncS_end (by omega)])
    · refine lv_aload_n C.1 C.2.1 dX4_nextCorner_12 rfl (lv_at hl 0 rfl) ?_
      refine jv_get C fw_X4_19 hK hP 0 rfl rfl dX4_nextCorner_13 ?_
      refine lv_iload_n C.1 C.2.1 dX4_nextCorner_16 rfl (lv_at hl 3 rfl) ?_
      refine jv_zald C hK hP 4 1 rfl rfl (i) (by omega) (by omega) (by decide) dX4_nextCorner_17 ?_
      refine jv_bif_eq (tgt := 78) C dX4_nextCorner_18 (by decide) (fun h2 => ?_) (fun h2 => ?_)
      · refine lv_iinc (v := J (((i + 1 : Nat) : Int))) (lv' := [(3, .int (J ((i + 1 : Nat) : Int))), (0, .ref qq), (1, .int (J ((a : Nat) : Int))), (2, .int (J bst))]) C.1 C.2.1 dX4_nextCorner_78 hl (k := 3) rfl (by rw [show Int32.ofInt 1 = J 1 from rfl, J_add]; exact congrArg J (by omega)) (by decide) rfl (fun ls hl => ?_)
        refine lv_goto (tgt := 4) C.1 C.2.1 dX4_nextCorner_81 (by decide) ?_
        exact ih (i + 1) (bst) (by omega) (by omega) (by omega) (by omega) rv (by rw [hrv, ncS_no (by omega) (by clear hP hK hl C ih; grind)]) ls (lv_sub hl [1, 2, 3, 0] rfl)
      · refine lv_iload_n C.1 C.2.1 dX4_nextCorner_21 rfl (lv_at hl 3 rfl) ?_
        refine lv_iload_n C.1 C.2.1 dX4_nextCorner_22 rfl (lv_at hl 1 rfl) ?_
        refine jv_icmp_ne (tgt := 29) C dX4_nextCorner_23 (by decide) (by omega) (fun h3 => ?_) (fun h3 => ?_)
        · refine lv_iload_n C.1 C.2.1 dX4_nextCorner_29 rfl (lv_at hl 2 rfl) ?_
          refine jv_if_ge (tgt := 37) C dX4_nextCorner_30 (by decide) (by omega) (fun h4 => ?_) (fun h4 => ?_)
          · rw [show bst = ((bst.toNat : Nat) : Int) from by omega] at hl
            refine lv_aload_n C.1 C.2.1 dX4_nextCorner_37 rfl (lv_at hl 0 rfl) ?_
            refine lv_iload_n C.1 C.2.1 dX4_nextCorner_38 rfl (lv_at hl 1 rfl) ?_
            refine lv_iload_n C.1 C.2.1 dX4_nextCorner_39 rfl (lv_at hl 2 rfl) ?_
            refine lv_iload_n C.1 C.2.1 dX4_nextCorner_40 rfl (lv_at hl 3 rfl) ?_
            refine jv_rdV (ni := 3) (ci := 4) (q0 := 0) C [.int (J ((a : Nat) : Int)), .int (J ((bst.toNat : Nat) : Int)), .int (J ((i : Nat) : Int))] [] (c_X4_turns (Px := Px) (Py := Py) (Mt := Mt) (pn := pn) (kn := kn) (fl := fl) (Hu := Hu) (hn := hn) (A1 := A1) (A2 := A2) (A3 := A3) (mn := mn) (hd := hd) (sd := sd) (B1 := B1) (B2 := B2) (B3 := B3) (hh := hh) (fp := fp) (Or := Or) (Ro := Ro) (Ne := Ne) (rn := rn) (Mr := Mr) hRI (a := a) (b := bst.toNat) (k := i) (by omega) (by omega) (by omega)) gv_X4_95 (by decide +kernel) (by decide) hK (hP) rfl rfl rfl hl.1 (by simp [Value.category]) dX4_nextCorner_41 (by decide) ?_ rfl
            show W _ _ _ _ _ _ _ _ _ _ _ _ _ _ _ (F0 m 44 ls [.int (J (trn Px Py a bst.toNat i))])
            have f5 := trn_R Px Py a bst.toNat i
            refine lv_istore (lv' := [(4, .int (J (trn Px Py a bst.toNat i))), (0, .ref qq), (1, .int (J ((a : Nat) : Int))), (2, .int (J ((bst.toNat : Nat) : Int))), (3, .int (J ((i : Nat) : Int)))]) C.1 C.2.1 dX4_nextCorner_44 hl (by decide) rfl (fun ls hl => ?_)
            refine lv_iload_n C.1 C.2.1 dX4_nextCorner_46 rfl (lv_at hl 3 rfl) ?_
            refine jv_if_lt (tgt := 76) C dX4_nextCorner_47 (by decide) (by omega) (fun h6 => ?_) (fun h6 => ?_)
            · refine lv_iload_n C.1 C.2.1 dX4_nextCorner_76 rfl (lv_at hl 4 rfl) ?_
              refine lv_istore_n (lv' := [(2, .int (J ((i : Nat) : Int))), (4, .int (J (trn Px Py a bst.toNat i))), (0, .ref qq), (1, .int (J ((a : Nat) : Int))), (3, .int (J ((i : Nat) : Int)))]) C.1 C.2.1 dX4_nextCorner_77 rfl hl (by decide) rfl (fun ls hl => ?_)
              refine lv_iinc (v := J (((i + 1 : Nat) : Int))) (lv' := [(3, .int (J ((i + 1 : Nat) : Int))), (2, .int (J ((i : Nat) : Int))), (4, .int (J (trn Px Py a bst.toNat i))), (0, .ref qq), (1, .int (J ((a : Nat) : Int)))]) C.1 C.2.1 dX4_nextCorner_78 hl (k := 4) rfl (by rw [show Int32.ofInt 1 = J 1 from rfl, J_add]; exact congrArg J (by omega)) (by decide) rfl (fun ls hl => ?_)
              refine lv_goto (tgt := 4) C.1 C.2.1 dX4_nextCorner_81 (by decide) ?_
              exact ih (i + 1) (((i : Nat) : Int)) (by omega) (by omega) (by omega) (by omega) rv (by rw [hrv, ncS_hit (by omega) (by clear hP hK hl C ih; grind)]) ls (lv_sub hl [3, 4, 1, 0] rfl)
            · refine lv_iload C.1 C.2.1 dX4_nextCorner_50 (lv_at hl 0 rfl) ?_
              refine jv_if_lt (tgt := 76) C dX4_nextCorner_52 (by decide) (by omega) (fun h7 => ?_) (fun h7 => ?_)
              · refine lv_iload_n C.1 C.2.1 dX4_nextCorner_76 rfl (lv_at hl 4 rfl) ?_
                refine lv_istore_n (lv' := [(2, .int (J ((i : Nat) : Int))), (4, .int (J (trn Px Py a bst.toNat i))), (0, .ref qq), (1, .int (J ((a : Nat) : Int))), (3, .int (J ((i : Nat) : Int)))]) C.1 C.2.1 dX4_nextCorner_77 rfl hl (by decide) rfl (fun ls hl => ?_)
                refine lv_iinc (v := J (((i + 1 : Nat) : Int))) (lv' := [(3, .int (J ((i + 1 : Nat) : Int))), (2, .int (J ((i : Nat) : Int))), (4, .int (J (trn Px Py a bst.toNat i))), (0, .ref qq), (1, .int (J ((a : Nat) : Int)))]) C.1 C.2.1 dX4_nextCorner_78 hl (k := 4) rfl (by rw [show Int32.ofInt 1 = J 1 from rfl, J_add]; exact congrArg J (by omega)) (by decide) rfl (fun ls hl => ?_)
                refine lv_goto (tgt := 4) C.1 C.2.1 dX4_nextCorner_81 (by decide) ?_
                exact ih (i + 1) (((i : Nat) : Int)) (by omega) (by omega) (by omega) (by omega) rv (by rw [hrv, ncS_hit (by omega) (by clear hP hK hl C ih; grind)]) ls (lv_sub hl [3, 4, 1, 0] rfl)
              · refine lv_iload C.1 C.2.1 dX4_nextCorner_55 (lv_at hl 0 rfl) ?_
                refine jv_if_ne (tgt := 78) C dX4_nextCorner_57 (by decide) (by omega) (fun h8 => ?_) (fun h8 => ?_)
                · refine lv_iinc (v := J (((i + 1 : Nat) : Int))) (lv' := [(3, .int (J ((i + 1 : Nat) : Int))), (4, .int (J (trn Px Py a bst.toNat i))), (0, .ref qq), (1, .int (J ((a : Nat) : Int))), (2, .int (J ((bst.toNat : Nat) : Int)))]) C.1 C.2.1 dX4_nextCorner_78 hl (k := 4) rfl (by rw [show Int32.ofInt 1 = J 1 from rfl, J_add]; exact congrArg J (by omega)) (by decide) rfl (fun ls hl => ?_)
                  refine lv_goto (tgt := 4) C.1 C.2.1 dX4_nextCorner_81 (by decide) ?_
                  rw [show ((bst.toNat : Nat) : Int) = bst from by omega] at hl
                  exact ih (i + 1) (bst) (by omega) (by omega) (by omega) (by omega) rv (by rw [hrv, ncS_no (by omega) (by clear hP hK hl C ih; grind)]) ls (lv_sub hl [2, 3, 4, 0] rfl)
                · refine lv_aload_n C.1 C.2.1 dX4_nextCorner_60 rfl (lv_at hl 1 rfl) ?_
                  refine lv_iload_n C.1 C.2.1 dX4_nextCorner_61 rfl (lv_at hl 2 rfl) ?_
                  refine lv_iload_n C.1 C.2.1 dX4_nextCorner_62 rfl (lv_at hl 4 rfl) ?_
                  refine jv_rdV (ni := 2) (ci := 4) (q0 := 0) C [.int (J ((a : Nat) : Int)), .int (J ((i : Nat) : Int))] [] (c_X4_far (Px := Px) (Py := Py) (Mt := Mt) (pn := pn) (kn := kn) (fl := fl) (Hu := Hu) (hn := hn) (A1 := A1) (A2 := A2) (A3 := A3) (mn := mn) (hd := hd) (sd := sd) (B1 := B1) (B2 := B2) (B3 := B3) (hh := hh) (fp := fp) (Or := Or) (Ro := Ro) (Ne := Ne) (rn := rn) (Mr := Mr) hRI (a := a) (b := i) (by omega) (by omega)) gv_X4_131 (by decide +kernel) (by decide) hK (hP) rfl rfl rfl hl.1 (by simp [Value.category]) dX4_nextCorner_63 (by decide) ?_ rfl
                  show W _ _ _ _ _ _ _ _ _ _ _ _ _ _ _ (F0 m 66 ls [.long (Lg (sq Px Py i (Px a) (Py a)))])
                  have f9 := sq_bd hX hY i (hX a) (hY a)
                  refine lv_aload_n C.1 C.2.1 dX4_nextCorner_66 rfl (lv_at hl 1 rfl) ?_
                  refine lv_iload_n C.1 C.2.1 dX4_nextCorner_67 rfl (lv_at hl 2 rfl) ?_
                  refine lv_iload_n C.1 C.2.1 dX4_nextCorner_68 rfl (lv_at hl 3 rfl) ?_
                  refine jv_rdV (ni := 2) (ci := 4) (q0 := 0) C [.int (J ((a : Nat) : Int)), .int (J ((bst.toNat : Nat) : Int))] [.long (Lg (sq Px Py i (Px a) (Py a)))] (c_X4_far (Px := Px) (Py := Py) (Mt := Mt) (pn := pn) (kn := kn) (fl := fl) (Hu := Hu) (hn := hn) (A1 := A1) (A2 := A2) (A3 := A3) (mn := mn) (hd := hd) (sd := sd) (B1 := B1) (B2 := B2) (B3 := B3) (hh := hh) (fp := fp) (Or := Or) (Ro := Ro) (Ne := Ne) (rn := rn) (Mr := Mr) hRI (a := a) (b := bst.toNat) (by omega) (by omega)) gv_X4_131 (by decide +kernel) (by decide) hK (hP) rfl rfl rfl hl.1 (by simp [Value.category]) dX4_nextCorner_69 (by decide) ?_ rfl
                  show W _ _ _ _ _ _ _ _ _ _ _ _ _ _ _ (F0 m 72 ls [.long (Lg (sq Px Py bst.toNat (Px a) (Py a))), .long (Lg (sq Px Py i (Px a) (Py a)))])
                  have f10 := sq_bd hX hY bst.toNat (hX a) (hY a)
                  refine jv_lcmp_le (tgt := 78) C dX4_nextCorner_72 dX4_nextCorner_73 (by decide) (by omega) (fun h11 => ?_) (fun h11 => ?_)
                  · refine lv_iinc (v := J (((i + 1 : Nat) : Int))) (lv' := [(3, .int (J ((i + 1 : Nat) : Int))), (4, .int (J (trn Px Py a bst.toNat i))), (0, .ref qq), (1, .int (J ((a : Nat) : Int))), (2, .int (J ((bst.toNat : Nat) : Int)))]) C.1 C.2.1 dX4_nextCorner_78 hl (k := 4) rfl (by rw [show Int32.ofInt 1 = J 1 from rfl, J_add]; exact congrArg J (by omega)) (by decide) rfl (fun ls hl => ?_)
                    refine lv_goto (tgt := 4) C.1 C.2.1 dX4_nextCorner_81 (by decide) ?_
                    rw [show ((bst.toNat : Nat) : Int) = bst from by omega] at hl
                    exact ih (i + 1) (bst) (by omega) (by omega) (by omega) (by omega) rv (by rw [hrv, ncS_no (by omega) (by clear hP hK hl C ih; grind)]) ls (lv_sub hl [2, 3, 4, 0] rfl)
                  · refine lv_iload_n C.1 C.2.1 dX4_nextCorner_76 rfl (lv_at hl 4 rfl) ?_
                    refine lv_istore_n (lv' := [(2, .int (J ((i : Nat) : Int))), (4, .int (J (trn Px Py a bst.toNat i))), (0, .ref qq), (1, .int (J ((a : Nat) : Int))), (3, .int (J ((i : Nat) : Int)))]) C.1 C.2.1 dX4_nextCorner_77 rfl hl (by decide) rfl (fun ls hl => ?_)
                    refine lv_iinc (v := J (((i + 1 : Nat) : Int))) (lv' := [(3, .int (J ((i + 1 : Nat) : Int))), (2, .int (J ((i : Nat) : Int))), (4, .int (J (trn Px Py a bst.toNat i))), (0, .ref qq), (1, .int (J ((a : Nat) : Int)))]) C.1 C.2.1 dX4_nextCorner_78 hl (k := 4) rfl (by rw [show Int32.ofInt 1 = J 1 from rfl, J_add]; exact congrArg J (by omega)) (by decide) rfl (fun ls hl => ?_)
                    refine lv_goto (tgt := 4) C.1 C.2.1 dX4_nextCorner_81 (by decide) ?_
                    exact ih (i + 1) (((i : Nat) : Int)) (by omega) (by omega) (by omega) (by omega) rv (by rw [hrv, ncS_hit (by omega) (by clear hP hK hl C ih; grind)]) ls (lv_sub hl [3, 4, 1, 0] rfl)
          · refine jv_iconst C dX4_nextCorner_33 ?_
            refine lv_goto (tgt := 44) C.1 C.2.1 dX4_nextCorner_34 (by decide) ?_
            refine lv_istore (lv' := [(4, .int (J (-1))), (0, .ref qq), (1, .int (J ((a : Nat) : Int))), (2, .int (J bst)), (3, .int (J ((i : Nat) : Int)))]) C.1 C.2.1 dX4_nextCorner_44 hl (by decide) rfl (fun ls hl => ?_)
            refine lv_iload_n C.1 C.2.1 dX4_nextCorner_46 rfl (lv_at hl 3 rfl) ?_
            refine jv_if_lt (tgt := 76) C dX4_nextCorner_47 (by decide) (by omega) (fun h12 => ?_) (fun h12 => ?_)
            · refine lv_iload_n C.1 C.2.1 dX4_nextCorner_76 rfl (lv_at hl 4 rfl) ?_
              refine lv_istore_n (lv' := [(2, .int (J ((i : Nat) : Int))), (4, .int (J (-1))), (0, .ref qq), (1, .int (J ((a : Nat) : Int))), (3, .int (J ((i : Nat) : Int)))]) C.1 C.2.1 dX4_nextCorner_77 rfl hl (by decide) rfl (fun ls hl => ?_)
              refine lv_iinc (v := J (((i + 1 : Nat) : Int))) (lv' := [(3, .int (J ((i + 1 : Nat) : Int))), (2, .int (J ((i : Nat) : Int))), (4, .int (J (-1))), (0, .ref qq), (1, .int (J ((a : Nat) : Int)))]) C.1 C.2.1 dX4_nextCorner_78 hl (k := 4) rfl (by rw [show Int32.ofInt 1 = J 1 from rfl, J_add]; exact congrArg J (by omega)) (by decide) rfl (fun ls hl => ?_)
              refine lv_goto (tgt := 4) C.1 C.2.1 dX4_nextCorner_81 (by decide) ?_
              exact ih (i + 1) (((i : Nat) : Int)) (by omega) (by omega) (by omega) (by omega) rv (by rw [hrv, ncS_hit (by omega) (by clear hP hK hl C ih; grind)]) ls (lv_sub hl [3, 4, 1, 0] rfl)
            · exfalso; omega
        · refine lv_goto (tgt := 78) C.1 C.2.1 dX4_nextCorner_26 (by decide) ?_
          refine lv_iinc (v := J (((i + 1 : Nat) : Int))) (lv' := [(3, .int (J ((i + 1 : Nat) : Int))), (0, .ref qq), (1, .int (J ((a : Nat) : Int))), (2, .int (J bst))]) C.1 C.2.1 dX4_nextCorner_78 hl (k := 3) rfl (by rw [show Int32.ofInt 1 = J 1 from rfl, J_add]; exact congrArg J (by omega)) (by decide) rfl (fun ls hl => ?_)
          refine lv_goto (tgt := 4) C.1 C.2.1 dX4_nextCorner_81 (by decide) ?_
          exact ih (i + 1) (bst) (by omega) (by omega) (by omega) (by omega) rv (by rw [hrv, ncS_no (by omega) (by clear hP hK hl C ih; grind)]) ls (lv_sub hl [1, 2, 3, 0] rfl)
set_option maxRecDepth 20000 in
set_option maxHeartbeats 4000000 in
theorem c_X4_nextCorner {a : Nat} (hRI : RI ((Px, Py, Mt, pn), (kn, fl, Hu, hn, A1, A2, A3, mn), (hd, sd, B1, B2, B3, hh, fp), (Or, Ro, Ne, rn), Mr)) (ha : a < 40) : cR l yX4_nextCorner cX4_nextCorner 5 (some .int) 3 69 D (tyz cI cZ) [.ref qq, .int (J ((a : Nat) : Int))] (wRS cI cZ qq r0 rx ry rt rh ra rb rc sa sb sc so sr sw ((Px, Py, Mt, pn), (kn, fl, Hu, hn, A1, A2, A3, mn), (hd, sd, B1, B2, B3, hh, fp), (Or, Ro, Ne, rn), Mr)) (some (.int (J (ncS Px Py Mt pn a 0 (-1))))) := by
  refine cR_of (owner := RX4) rfl (by decide) (Nat.le_of_ble_eq_true rfl) ?_
  intro p e s m args below meth c ls C hlk hr hK hP hl
  have hl : lv_has ls 5 [(0, .ref qq), (1, .int (J ((a : Nat) : Int)))] := hl
  have hP : va_P D vwCl [(qq, .inr (4, [.ref r0, .ref rx, .ref ry, .ref rt, .int (J ((pn : Nat) : Int)), .int (J (b2i (kn))), .int (J (b2i (fl))), .ref rh, .ref ra, .ref rb, .ref rc, .int (J ((hn : Nat) : Int)), .int (J ((mn : Nat) : Int)), .int (J (b2i (hd))), .int (J (b2i (sd))), .ref sa, .ref sb, .ref sc, .int (J ((hh : Nat) : Int)), .int (J ((fp : Nat) : Int)), .ref so, .ref sr, .ref sw, .int (J ((rn : Nat) : Int))])), (r0, .inl (cI, 7, .inl (fun z9 => J ((Mr z9 : Nat) : Int)))), (rx, .inl (cI, 40, .inl (fun z9 => J (Px z9)))), (ry, .inl (cI, 40, .inl (fun z9 => J (Py z9)))), (rt, .inl (cZ, 40, .inl (fun z9 => J (b2i (Mt z9))))), (rh, .inl (cI, 41, .inl (fun z9 => J ((Hu z9 : Nat) : Int)))), (ra, .inl (cI, 120, .inl (fun z9 => J ((A1 z9 : Nat) : Int)))), (rb, .inl (cI, 120, .inl (fun z9 => J ((A2 z9 : Nat) : Int)))), (rc, .inl (cI, 120, .inl (fun z9 => J ((A3 z9 : Nat) : Int)))), (sa, .inl (cI, 120, .inl (fun z9 => J ((B1 z9 : Nat) : Int)))), (sb, .inl (cI, 120, .inl (fun z9 => J ((B2 z9 : Nat) : Int)))), (sc, .inl (cI, 120, .inl (fun z9 => J ((B3 z9 : Nat) : Int)))), (so, .inl (cI, 40, .inl (fun z9 => J ((Or z9 : Nat) : Int)))), (sr, .inl (cI, 80, .inl (fun z9 => J ((Ro z9 : Nat) : Int)))), (sw, .inl (cI, 80, .inl (fun z9 => J ((Ne z9 : Nat) : Int))))] s.heap := hP
  have hX : ∀ i, -10000 ≤ Px i ∧ Px i ≤ 10000 := hRI.1
  have hY : ∀ i, -10000 ≤ Py i ∧ Py i ≤ 10000 := hRI.2.1
  have hpn : pn ≤ 40 := hRI.2.2.1
  have hHu : ∀ i, Hu i < 40 := hRI.2.2.2.1
  have hhn : hn ≤ 41 := hRI.2.2.2.2.1
  have hA1 : ∀ i, A1 i < 40 := hRI.2.2.2.2.2.1
  have hA2 : ∀ i, A2 i < 40 := hRI.2.2.2.2.2.2.1
  have hA3 : ∀ i, A3 i < 40 := hRI.2.2.2.2.2.2.2.1
  have hmn : mn ≤ 120 := hRI.2.2.2.2.2.2.2.2.1
  have hB1 : ∀ i, B1 i < 40 := hRI.2.2.2.2.2.2.2.2.2.1
  have hB2 : ∀ i, B2 i < 40 := hRI.2.2.2.2.2.2.2.2.2.2.1
  have hB3 : ∀ i, B3 i < 40 := hRI.2.2.2.2.2.2.2.2.2.2.2.1
  have hhh : hh ≤ 120 := hRI.2.2.2.2.2.2.2.2.2.2.2.2.1
  have hOr : ∀ i, Or i < 40 := hRI.2.2.2.2.2.2.2.2.2.2.2.2.2.1
  have hRo : ∀ i, Ro i < 40 := hRI.2.2.2.2.2.2.2.2.2.2.2.2.2.2.1
  have hNe : ∀ i, Ne i < 40 := hRI.2.2.2.2.2.2.2.2.2.2.2.2.2.2.2.1
  have hrn : rn ≤ 80 := hRI.2.2.2.2.2.2.2.2.2.2.2.2.2.2.2.2
  refine jv_iconst C dX4_nextCorner_0 ?_
  refine lv_istore_n (lv' := [(2, .int (J (-1))), (0, .ref qq), (1, .int (J ((a : Nat) : Int)))]) C.1 C.2.1 dX4_nextCorner_1 rfl hl (by decide) rfl (fun ls hl => ?_)
  refine jv_iconst C dX4_nextCorner_2 ?_
  refine lv_istore_n (lv' := [(3, .int (J 0)), (2, .int (J (-1))), (0, .ref qq), (1, .int (J ((a : Nat) : Int)))]) C.1 C.2.1 dX4_nextCorner_3 rfl hl (by decide) rfl (fun ls hl => ?_)
  exact lp_X4_nextCorner_4 C hlk hr hK hP hRI ha (pn + 1) 0 (-1) (by omega) (by omega) (by omega) (by omega) _ rfl ls (lv_sub hl [2, 3, 1, 0] rfl)
set_option maxRecDepth 20000 in
theorem lp_X4_isDrawn_3 {p : Program} {e : Env} {s : State} {m : MethodId} {args : Array Value} {below : List Frame} {meth : Method} {c : Code} {a b k : Nat} (C : CallFix p m c cX4_isDrawn 6 s args TB RX4) (hlk : meth.locks = false) (hr : meth.sig.returnType = (some .boolean)) (hK : va_K D vwCl (tyz cI cZ) s) (hP : va_P D vwCl (wRS cI cZ qq r0 rx ry rt rh ra rb rc sa sb sc so sr sw ((Px, Py, Mt, pn), (kn, fl, Hu, hn, A1, A2, A3, mn), (hd, sd, B1, B2, B3, hh, fp), (Or, Ro, Ne, rn), Mr)) s.heap) (hRI : RI ((Px, Py, Mt, pn), (kn, fl, Hu, hn, A1, A2, A3, mn), (hd, sd, B1, B2, B3, hh, fp), (Or, Ro, Ne, rn), Mr)) (ha : a < 40) (hb : b < 40) (hk : k < 40) :
    ∀ (n : Nat) (i : Nat), pn < i + n → i ≤ pn → ∀ (rv : Bool), rv = (!(ff (ndP Px Py Mt a b k) pn i).isSome) → ∀ ls : Array Slot, lv_has ls 6 [(0, .ref qq), (1, .int (J ((a : Nat) : Int))), (2, .int (J ((b : Nat) : Int))), (3, .int (J ((k : Nat) : Int))), (4, .int (J ((i : Nat) : Int)))] → W p l e { frames := 3, cells := 0, slots := 0, locals := 69 } s m args below meth c s.heap [] 0 0 (MQ below (QR (some (.int (J (b2i rv))))) args s 0 0 (fun _ => False)) (F0 m 3 ls []) := by
  have hX : ∀ i, -10000 ≤ Px i ∧ Px i ≤ 10000 := hRI.1
  have hY : ∀ i, -10000 ≤ Py i ∧ Py i ≤ 10000 := hRI.2.1
  have hpn : pn ≤ 40 := hRI.2.2.1
  have hHu : ∀ i, Hu i < 40 := hRI.2.2.2.1
  have hhn : hn ≤ 41 := hRI.2.2.2.2.1
  have hA1 : ∀ i, A1 i < 40 := hRI.2.2.2.2.2.1
  have hA2 : ∀ i, A2 i < 40 := hRI.2.2.2.2.2.2.1
  have hA3 : ∀ i, A3 i < 40 := hRI.2.2.2.2.2.2.2.1
  have hmn : mn ≤ 120 := hRI.2.2.2.2.2.2.2.2.1
  have hB1 : ∀ i, B1 i < 40 := hRI.2.2.2.2.2.2.2.2.2.1
  have hB2 : ∀ i, B2 i < 40 := hRI.2.2.2.2.2.2.2.2.2.2.1
  have hB3 : ∀ i, B3 i < 40 := hRI.2.2.2.2.2.2.2.2.2.2.2.1
  have hhh : hh ≤ 120 := hRI.2.2.2.2.2.2.2.2.2.2.2.2.1
  have hOr : ∀ i, Or i < 40 := hRI.2.2.2.2.2.2.2.2.2.2.2.2.2.1
  have hRo : ∀ i, Ro i < 40 := hRI.2.2.2.2.2.2.2.2.2.2.2.2.2.2.1
  have hNe : ∀ i, Ne i < 40 := hRI.2.2.2.2.2.2.2.2.2.2.2.2.2.2.2.1
  have hrn : rn ≤ 80 := hRI.2.2.2.2.2.2.2.2.2.2.2.2.2.2.2.2
  have hP : va_P D vwCl [(qq, .inr (4, [.ref r0, .ref rx, .ref ry, .ref rt, .int (J ((pn : Nat) : Int)), .int (J (b2i (kn))), .int (J (b2i (fl))), .ref rh, .ref ra, .ref rb, .ref rc, .int (J ((hn : Nat) : Int)), .int (J ((mn : Nat) : Int)), .int (J (b2i (hd))), .int (J (b2i (sd))), .ref sa, .ref sb, .ref sc, .int (J ((hh : Nat) : Int)), .int (J ((fp : Nat) : Int)), .ref so, .ref sr, .ref sw, .int (J ((rn : Nat) : Int))])), (r0, .inl (cI, 7, .inl (fun z9 => J ((Mr z9 : Nat) : Int)))), (rx, .inl (cI, 40, .inl (fun z9 => J (Px z9)))), (ry, .inl (cI, 40, .inl (fun z9 => J (Py z9)))), (rt, .inl (cZ, 40, .inl (fun z9 => J (b2i (Mt z9))))), (rh, .inl (cI, 41, .inl (fun z9 => J ((Hu z9 : Nat) : Int)))), (ra, .inl (cI, 120, .inl (fun z9 => J ((A1 z9 : Nat) : Int)))), (rb, .inl (cI, 120, .inl (fun z9 => J ((A2 z9 : Nat) : Int)))), (rc, .inl (cI, 120, .inl (fun z9 => J ((A3 z9 : Nat) : Int)))), (sa, .inl (cI, 120, .inl (fun z9 => J ((B1 z9 : Nat) : Int)))), (sb, .inl (cI, 120, .inl (fun z9 => J ((B2 z9 : Nat) : Int)))), (sc, .inl (cI, 120, .inl (fun z9 => J ((B3 z9 : Nat) : Int)))), (so, .inl (cI, 40, .inl (fun z9 => J ((Or z9 : Nat) : Int)))), (sr, .inl (cI, 80, .inl (fun z9 => J ((Ro z9 : Nat) : Int)))), (sw, .inl (cI, 80, .inl (fun z9 => J ((Ne z9 : Nat) : Int))))] s.heap := hP
  intro n
  induction n with
  | zero => intro i hi0 hi1; omega
  | succ n ih =>
    intro i hi0 hi1 rv hrv ls hl
    refine lv_iload C.1 C.2.1 dX4_isDrawn_3 (lv_at hl 4 rfl) ?_
    refine lv_aload_n C.1 C.2.1 dX4_isDrawn_5 rfl (lv_at hl 0 rfl) ?_
    refine jv_get C fw_X4_58 hK hP 0 rfl rfl dX4_isDrawn_6 ?_
    refine jv_icmp_ge (tgt := 89) C dX4_isDrawn_9 (by decide) (by omega) (fun h1 => ?_) (fun h1 => ?_)
    · refine jv_iconst C dX4_isDrawn_89 ?_
      exact jv_zret C hlk hr dX4_isDrawn_90 (by rw [hrv, ff_end (by omega)]; rfl)
    · refine lv_aload_n C.1 C.2.1 dX4_isDrawn_12 rfl (lv_at hl 0 rfl) ?_
      refine jv_get C fw_X4_19 hK hP 0 rfl rfl dX4_isDrawn_13 ?_
      refine lv_iload C.1 C.2.1 dX4_isDrawn_16 (lv_at hl 4 rfl) ?_
      refine jv_zald C hK hP 4 1 rfl rfl (i) (by omega) (by omega) (by decide) dX4_isDrawn_18 ?_
      refine jv_bif_eq (tgt := 83) C dX4_isDrawn_19 (by decide) (fun h2 => ?_) (fun h2 => ?_)
      · refine lv_iinc (v := J (((i + 1 : Nat) : Int))) (lv' := [(4, .int (J ((i + 1 : Nat) : Int))), (0, .ref qq), (1, .int (J ((a : Nat) : Int))), (2, .int (J ((b : Nat) : Int))), (3, .int (J ((k : Nat) : Int)))]) C.1 C.2.1 dX4_isDrawn_83 hl (k := 4) rfl (by rw [show Int32.ofInt 1 = J 1 from rfl, J_add]; exact congrArg J (by omega)) (by decide) rfl (fun ls hl => ?_)
        refine lv_goto (tgt := 3) C.1 C.2.1 dX4_isDrawn_86 (by decide) ?_
        exact ih (i + 1) (by omega) (by omega) rv (by rw [hrv, ff_go (by omega) (by clear hP hK hl C ih; grind [ndP])]) ls (lv_sub hl [1, 2, 3, 4, 0] rfl)
      · refine lv_iload C.1 C.2.1 dX4_isDrawn_22 (lv_at hl 4 rfl) ?_
        refine lv_iload_n C.1 C.2.1 dX4_isDrawn_24 rfl (lv_at hl 1 rfl) ?_
        refine jv_icmp_eq (tgt := 83) C dX4_isDrawn_25 (by decide) (by omega) (fun h3 => ?_) (fun h3 => ?_)
        · refine lv_iinc (v := J (((i + 1 : Nat) : Int))) (lv' := [(4, .int (J ((i + 1 : Nat) : Int))), (0, .ref qq), (1, .int (J ((a : Nat) : Int))), (2, .int (J ((b : Nat) : Int))), (3, .int (J ((k : Nat) : Int)))]) C.1 C.2.1 dX4_isDrawn_83 hl (k := 4) rfl (by rw [show Int32.ofInt 1 = J 1 from rfl, J_add]; exact congrArg J (by omega)) (by decide) rfl (fun ls hl => ?_)
          refine lv_goto (tgt := 3) C.1 C.2.1 dX4_isDrawn_86 (by decide) ?_
          exact ih (i + 1) (by omega) (by omega) rv (by rw [hrv, ff_go (by omega) (by clear hP hK hl C ih; grind [ndP])]) ls (lv_sub hl [1, 2, 3, 4, 0] rfl)
        · refine lv_iload C.1 C.2.1 dX4_isDrawn_28 (lv_at hl 4 rfl) ?_
          refine lv_iload_n C.1 C.2.1 dX4_isDrawn_30 rfl (lv_at hl 2 rfl) ?_
          refine jv_icmp_eq (tgt := 83) C dX4_isDrawn_31 (by decide) (by omega) (fun h4 => ?_) (fun h4 => ?_)
          · refine lv_iinc (v := J (((i + 1 : Nat) : Int))) (lv' := [(4, .int (J ((i + 1 : Nat) : Int))), (0, .ref qq), (1, .int (J ((a : Nat) : Int))), (2, .int (J ((b : Nat) : Int))), (3, .int (J ((k : Nat) : Int)))]) C.1 C.2.1 dX4_isDrawn_83 hl (k := 4) rfl (by rw [show Int32.ofInt 1 = J 1 from rfl, J_add]; exact congrArg J (by omega)) (by decide) rfl (fun ls hl => ?_)
            refine lv_goto (tgt := 3) C.1 C.2.1 dX4_isDrawn_86 (by decide) ?_
            exact ih (i + 1) (by omega) (by omega) rv (by rw [hrv, ff_go (by omega) (by clear hP hK hl C ih; grind [ndP])]) ls (lv_sub hl [1, 2, 3, 4, 0] rfl)
          · refine lv_iload C.1 C.2.1 dX4_isDrawn_34 (lv_at hl 4 rfl) ?_
            refine lv_iload_n C.1 C.2.1 dX4_isDrawn_36 rfl (lv_at hl 3 rfl) ?_
            refine jv_icmp_ne (tgt := 43) C dX4_isDrawn_37 (by decide) (by omega) (fun h5 => ?_) (fun h5 => ?_)
            · refine lv_aload_n C.1 C.2.1 dX4_isDrawn_43 rfl (lv_at hl 0 rfl) ?_
              refine lv_iload_n C.1 C.2.1 dX4_isDrawn_44 rfl (lv_at hl 1 rfl) ?_
              refine lv_iload_n C.1 C.2.1 dX4_isDrawn_45 rfl (lv_at hl 2 rfl) ?_
              refine lv_iload_n C.1 C.2.1 dX4_isDrawn_46 rfl (lv_at hl 3 rfl) ?_
              refine lv_iload C.1 C.2.1 dX4_isDrawn_47 (lv_at hl 4 rfl) ?_
              refine jv_rdV (ni := 4) (ci := 4) (q0 := 0) C [.int (J ((a : Nat) : Int)), .int (J ((b : Nat) : Int)), .int (J ((k : Nat) : Int)), .int (J ((i : Nat) : Int))] [] (c_X4_within (Px := Px) (Py := Py) (Mt := Mt) (pn := pn) (kn := kn) (fl := fl) (Hu := Hu) (hn := hn) (A1 := A1) (A2 := A2) (A3 := A3) (mn := mn) (hd := hd) (sd := sd) (B1 := B1) (B2 := B2) (B3 := B3) (hh := hh) (fp := fp) (Or := Or) (Ro := Ro) (Ne := Ne) (rn := rn) (Mr := Mr) hRI (a := a) (b := b) (k := k) (d := i) (by omega) (by omega) (by omega) (by omega)) gv_X4_91 (by decide +kernel) (by decide) hK (hP) rfl rfl rfl hl.1 (by simp [Value.category]) dX4_isDrawn_49 (by decide) ?_ rfl
              show W _ _ _ _ _ _ _ _ _ _ _ _ _ _ _ (F0 m 52 ls [.int (J (wth Px Py a b k i))])
              have f6 := wth_R Px Py a b k i
              refine lv_istore (lv' := [(5, .int (J (wth Px Py a b k i))), (0, .ref qq), (1, .int (J ((a : Nat) : Int))), (2, .int (J ((b : Nat) : Int))), (3, .int (J ((k : Nat) : Int))), (4, .int (J ((i : Nat) : Int)))]) C.1 C.2.1 dX4_isDrawn_52 hl (by decide) rfl (fun ls hl => ?_)
              refine lv_iload C.1 C.2.1 dX4_isDrawn_54 (lv_at hl 0 rfl) ?_
              refine jv_if_gt (tgt := 81) C dX4_isDrawn_56 (by decide) (by omega) (fun h7 => ?_) (fun h7 => ?_)
              · refine jv_iconst C dX4_isDrawn_81 ?_
                exact jv_zret C hlk hr dX4_isDrawn_82 (by rw [hrv, ff_hit (by omega) (by clear hP hK hl C ih; grind [ndP])]; rfl)
              · refine lv_iload C.1 C.2.1 dX4_isDrawn_59 (lv_at hl 0 rfl) ?_
                refine jv_if_ne (tgt := 83) C dX4_isDrawn_61 (by decide) (by omega) (fun h8 => ?_) (fun h8 => ?_)
                · refine lv_iinc (v := J (((i + 1 : Nat) : Int))) (lv' := [(4, .int (J ((i + 1 : Nat) : Int))), (5, .int (J (wth Px Py a b k i))), (0, .ref qq), (1, .int (J ((a : Nat) : Int))), (2, .int (J ((b : Nat) : Int))), (3, .int (J ((k : Nat) : Int)))]) C.1 C.2.1 dX4_isDrawn_83 hl (k := 5) rfl (by rw [show Int32.ofInt 1 = J 1 from rfl, J_add]; exact congrArg J (by omega)) (by decide) rfl (fun ls hl => ?_)
                  refine lv_goto (tgt := 3) C.1 C.2.1 dX4_isDrawn_86 (by decide) ?_
                  exact ih (i + 1) (by omega) (by omega) rv (by rw [hrv, ff_go (by omega) (by clear hP hK hl C ih; grind [ndP])]) ls (lv_sub hl [2, 3, 4, 5, 0] rfl)
                · refine lv_iload C.1 C.2.1 dX4_isDrawn_64 (lv_at hl 5 rfl) ?_
                  refine lv_iload_n C.1 C.2.1 dX4_isDrawn_66 rfl (lv_at hl 2 rfl) ?_
                  refine jv_icmp_lt (tgt := 81) C dX4_isDrawn_67 (by decide) (by omega) (fun h9 => ?_) (fun h9 => ?_)
                  · refine jv_iconst C dX4_isDrawn_81 ?_
                    exact jv_zret C hlk hr dX4_isDrawn_82 (by rw [hrv, ff_hit (by omega) (by clear hP hK hl C ih; grind [ndP])]; rfl)
                  · refine lv_aload_n C.1 C.2.1 dX4_isDrawn_70 rfl (lv_at hl 1 rfl) ?_
                    refine lv_iload_n C.1 C.2.1 dX4_isDrawn_71 rfl (lv_at hl 3 rfl) ?_
                    refine lv_iload_n C.1 C.2.1 dX4_isDrawn_72 rfl (lv_at hl 4 rfl) ?_
                    refine lv_iload C.1 C.2.1 dX4_isDrawn_73 (lv_at hl 5 rfl) ?_
                    refine jv_rdV (ni := 3) (ci := 4) (q0 := 0) C [.int (J ((b : Nat) : Int)), .int (J ((k : Nat) : Int)), .int (J ((i : Nat) : Int))] [] (c_X4_turns (Px := Px) (Py := Py) (Mt := Mt) (pn := pn) (kn := kn) (fl := fl) (Hu := Hu) (hn := hn) (A1 := A1) (A2 := A2) (A3 := A3) (mn := mn) (hd := hd) (sd := sd) (B1 := B1) (B2 := B2) (B3 := B3) (hh := hh) (fp := fp) (Or := Or) (Ro := Ro) (Ne := Ne) (rn := rn) (Mr := Mr) hRI (a := b) (b := k) (k := i) (by omega) (by omega) (by omega)) gv_X4_95 (by decide +kernel) (by decide) hK (hP) rfl rfl rfl hl.1 (by simp [Value.category]) dX4_isDrawn_75 (by decide) ?_ rfl
                    show W _ _ _ _ _ _ _ _ _ _ _ _ _ _ _ (F0 m 78 ls [.int (J (trn Px Py b k i))])
                    have f10 := trn_R Px Py b k i
                    refine jv_if_ge (tgt := 83) C dX4_isDrawn_78 (by decide) (by omega) (fun h11 => ?_) (fun h11 => ?_)
                    · refine lv_iinc (v := J (((i + 1 : Nat) : Int))) (lv' := [(4, .int (J ((i + 1 : Nat) : Int))), (5, .int (J (wth Px Py a b k i))), (0, .ref qq), (1, .int (J ((a : Nat) : Int))), (2, .int (J ((b : Nat) : Int))), (3, .int (J ((k : Nat) : Int)))]) C.1 C.2.1 dX4_isDrawn_83 hl (k := 5) rfl (by rw [show Int32.ofInt 1 = J 1 from rfl, J_add]; exact congrArg J (by omega)) (by decide) rfl (fun ls hl => ?_)
                      refine lv_goto (tgt := 3) C.1 C.2.1 dX4_isDrawn_86 (by decide) ?_
                      exact ih (i + 1) (by omega) (by omega) rv (by rw [hrv, ff_go (by omega) (by clear hP hK hl C ih; grind [ndP])]) ls (lv_sub hl [2, 3, 4, 5, 0] rfl)
                    · refine jv_iconst C dX4_isDrawn_81 ?_
                      exact jv_zret C hlk hr dX4_isDrawn_82 (by rw [hrv, ff_hit (by omega) (by clear hP hK hl C ih; grind [ndP])]; rfl)
            · refine lv_goto (tgt := 83) C.1 C.2.1 dX4_isDrawn_40 (by decide) ?_
              refine lv_iinc (v := J (((i + 1 : Nat) : Int))) (lv' := [(4, .int (J ((i + 1 : Nat) : Int))), (0, .ref qq), (1, .int (J ((a : Nat) : Int))), (2, .int (J ((b : Nat) : Int))), (3, .int (J ((k : Nat) : Int)))]) C.1 C.2.1 dX4_isDrawn_83 hl (k := 4) rfl (by rw [show Int32.ofInt 1 = J 1 from rfl, J_add]; exact congrArg J (by omega)) (by decide) rfl (fun ls hl => ?_)
              refine lv_goto (tgt := 3) C.1 C.2.1 dX4_isDrawn_86 (by decide) ?_
              exact ih (i + 1) (by omega) (by omega) rv (by rw [hrv, ff_go (by omega) (by clear hP hK hl C ih; grind [ndP])]) ls (lv_sub hl [1, 2, 3, 4, 0] rfl)
set_option maxRecDepth 20000 in
set_option maxHeartbeats 4000000 in
theorem c_X4_isDrawn {a b k : Nat} (hRI : RI ((Px, Py, Mt, pn), (kn, fl, Hu, hn, A1, A2, A3, mn), (hd, sd, B1, B2, B3, hh, fp), (Or, Ro, Ne, rn), Mr)) (ha : a < 40) (hb : b < 40) (hk : k < 40) : cR l yX4_isDrawn cX4_isDrawn 6 (some .boolean) 3 69 D (tyz cI cZ) [.ref qq, .int (J ((a : Nat) : Int)), .int (J ((b : Nat) : Int)), .int (J ((k : Nat) : Int))] (wRS cI cZ qq r0 rx ry rt rh ra rb rc sa sb sc so sr sw ((Px, Py, Mt, pn), (kn, fl, Hu, hn, A1, A2, A3, mn), (hd, sd, B1, B2, B3, hh, fp), (Or, Ro, Ne, rn), Mr)) (some (.int (J (b2i (drn Px Py Mt pn a b k))))) := by
  refine cR_of (owner := RX4) rfl (by decide) (Nat.le_of_ble_eq_true rfl) ?_
  intro p e s m args below meth c ls C hlk hr hK hP hl
  have hl : lv_has ls 6 [(0, .ref qq), (1, .int (J ((a : Nat) : Int))), (2, .int (J ((b : Nat) : Int))), (3, .int (J ((k : Nat) : Int)))] := hl
  have hP : va_P D vwCl [(qq, .inr (4, [.ref r0, .ref rx, .ref ry, .ref rt, .int (J ((pn : Nat) : Int)), .int (J (b2i (kn))), .int (J (b2i (fl))), .ref rh, .ref ra, .ref rb, .ref rc, .int (J ((hn : Nat) : Int)), .int (J ((mn : Nat) : Int)), .int (J (b2i (hd))), .int (J (b2i (sd))), .ref sa, .ref sb, .ref sc, .int (J ((hh : Nat) : Int)), .int (J ((fp : Nat) : Int)), .ref so, .ref sr, .ref sw, .int (J ((rn : Nat) : Int))])), (r0, .inl (cI, 7, .inl (fun z9 => J ((Mr z9 : Nat) : Int)))), (rx, .inl (cI, 40, .inl (fun z9 => J (Px z9)))), (ry, .inl (cI, 40, .inl (fun z9 => J (Py z9)))), (rt, .inl (cZ, 40, .inl (fun z9 => J (b2i (Mt z9))))), (rh, .inl (cI, 41, .inl (fun z9 => J ((Hu z9 : Nat) : Int)))), (ra, .inl (cI, 120, .inl (fun z9 => J ((A1 z9 : Nat) : Int)))), (rb, .inl (cI, 120, .inl (fun z9 => J ((A2 z9 : Nat) : Int)))), (rc, .inl (cI, 120, .inl (fun z9 => J ((A3 z9 : Nat) : Int)))), (sa, .inl (cI, 120, .inl (fun z9 => J ((B1 z9 : Nat) : Int)))), (sb, .inl (cI, 120, .inl (fun z9 => J ((B2 z9 : Nat) : Int)))), (sc, .inl (cI, 120, .inl (fun z9 => J ((B3 z9 : Nat) : Int)))), (so, .inl (cI, 40, .inl (fun z9 => J ((Or z9 : Nat) : Int)))), (sr, .inl (cI, 80, .inl (fun z9 => J ((Ro z9 : Nat) : Int)))), (sw, .inl (cI, 80, .inl (fun z9 => J ((Ne z9 : Nat) : Int))))] s.heap := hP
  have hX : ∀ i, -10000 ≤ Px i ∧ Px i ≤ 10000 := hRI.1
  have hY : ∀ i, -10000 ≤ Py i ∧ Py i ≤ 10000 := hRI.2.1
  have hpn : pn ≤ 40 := hRI.2.2.1
  have hHu : ∀ i, Hu i < 40 := hRI.2.2.2.1
  have hhn : hn ≤ 41 := hRI.2.2.2.2.1
  have hA1 : ∀ i, A1 i < 40 := hRI.2.2.2.2.2.1
  have hA2 : ∀ i, A2 i < 40 := hRI.2.2.2.2.2.2.1
  have hA3 : ∀ i, A3 i < 40 := hRI.2.2.2.2.2.2.2.1
  have hmn : mn ≤ 120 := hRI.2.2.2.2.2.2.2.2.1
  have hB1 : ∀ i, B1 i < 40 := hRI.2.2.2.2.2.2.2.2.2.1
  have hB2 : ∀ i, B2 i < 40 := hRI.2.2.2.2.2.2.2.2.2.2.1
  have hB3 : ∀ i, B3 i < 40 := hRI.2.2.2.2.2.2.2.2.2.2.2.1
  have hhh : hh ≤ 120 := hRI.2.2.2.2.2.2.2.2.2.2.2.2.1
  have hOr : ∀ i, Or i < 40 := hRI.2.2.2.2.2.2.2.2.2.2.2.2.2.1
  have hRo : ∀ i, Ro i < 40 := hRI.2.2.2.2.2.2.2.2.2.2.2.2.2.2.1
  have hNe : ∀ i, Ne i < 40 := hRI.2.2.2.2.2.2.2.2.2.2.2.2.2.2.2.1
  have hrn : rn ≤ 80 := hRI.2.2.2.2.2.2.2.2.2.2.2.2.2.2.2.2
  refine jv_iconst C dX4_isDrawn_0 ?_
  refine lv_istore (lv' := [(4, .int (J 0)), (0, .ref qq), (1, .int (J ((a : Nat) : Int))), (2, .int (J ((b : Nat) : Int))), (3, .int (J ((k : Nat) : Int)))]) C.1 C.2.1 dX4_isDrawn_1 hl (by decide) rfl (fun ls hl => ?_)
  exact lp_X4_isDrawn_3 C hlk hr hK hP hRI ha hb hk (pn + 1) 0 (by omega) (by omega) _ rfl ls (lv_sub hl [1, 2, 3, 4, 0] rfl)
set_option maxRecDepth 20000 in
set_option maxHeartbeats 4000000 in
theorem c_X4_cornerOf {t w : Nat} (hRI : RI ((Px, Py, Mt, pn), (kn, fl, Hu, hn, A1, A2, A3, mn), (hd, sd, B1, B2, B3, hh, fp), (Or, Ro, Ne, rn), Mr)) (ht : t < 120) (hw : w < 3) : cR l yX4_cornerOf cX4_cornerOf 3 (some .int) 0 0 D (tyz cI cZ) [.ref qq, .int (J ((t : Nat) : Int)), .int (J ((w : Nat) : Int))] (wRS cI cZ qq r0 rx ry rt rh ra rb rc sa sb sc so sr sw ((Px, Py, Mt, pn), (kn, fl, Hu, hn, A1, A2, A3, mn), (hd, sd, B1, B2, B3, hh, fp), (Or, Ro, Ne, rn), Mr)) (some (.int (J ((ptA A1 A2 A3 t w : Nat) : Int)))) := by
  refine cR_of (owner := RX4) rfl (by decide) (Nat.le_of_ble_eq_true rfl) ?_
  intro p e s m args below meth c ls C hlk hr hK hP hl
  have hl : lv_has ls 3 [(0, .ref qq), (1, .int (J ((t : Nat) : Int))), (2, .int (J ((w : Nat) : Int)))] := hl
  have hP : va_P D vwCl [(qq, .inr (4, [.ref r0, .ref rx, .ref ry, .ref rt, .int (J ((pn : Nat) : Int)), .int (J (b2i (kn))), .int (J (b2i (fl))), .ref rh, .ref ra, .ref rb, .ref rc, .int (J ((hn : Nat) : Int)), .int (J ((mn : Nat) : Int)), .int (J (b2i (hd))), .int (J (b2i (sd))), .ref sa, .ref sb, .ref sc, .int (J ((hh : Nat) : Int)), .int (J ((fp : Nat) : Int)), .ref so, .ref sr, .ref sw, .int (J ((rn : Nat) : Int))])), (r0, .inl (cI, 7, .inl (fun z9 => J ((Mr z9 : Nat) : Int)))), (rx, .inl (cI, 40, .inl (fun z9 => J (Px z9)))), (ry, .inl (cI, 40, .inl (fun z9 => J (Py z9)))), (rt, .inl (cZ, 40, .inl (fun z9 => J (b2i (Mt z9))))), (rh, .inl (cI, 41, .inl (fun z9 => J ((Hu z9 : Nat) : Int)))), (ra, .inl (cI, 120, .inl (fun z9 => J ((A1 z9 : Nat) : Int)))), (rb, .inl (cI, 120, .inl (fun z9 => J ((A2 z9 : Nat) : Int)))), (rc, .inl (cI, 120, .inl (fun z9 => J ((A3 z9 : Nat) : Int)))), (sa, .inl (cI, 120, .inl (fun z9 => J ((B1 z9 : Nat) : Int)))), (sb, .inl (cI, 120, .inl (fun z9 => J ((B2 z9 : Nat) : Int)))), (sc, .inl (cI, 120, .inl (fun z9 => J ((B3 z9 : Nat) : Int)))), (so, .inl (cI, 40, .inl (fun z9 => J ((Or z9 : Nat) : Int)))), (sr, .inl (cI, 80, .inl (fun z9 => J ((Ro z9 : Nat) : Int)))), (sw, .inl (cI, 80, .inl (fun z9 => J ((Ne z9 : Nat) : Int))))] s.heap := hP
  have hX : ∀ i, -10000 ≤ Px i ∧ Px i ≤ 10000 := hRI.1
  have hY : ∀ i, -10000 ≤ Py i ∧ Py i ≤ 10000 := hRI.2.1
  have hpn : pn ≤ 40 := hRI.2.2.1
  have hHu : ∀ i, Hu i < 40 := hRI.2.2.2.1
  have hhn : hn ≤ 41 := hRI.2.2.2.2.1
  have hA1 : ∀ i, A1 i < 40 := hRI.2.2.2.2.2.1
  have hA2 : ∀ i, A2 i < 40 := hRI.2.2.2.2.2.2.1
  have hA3 : ∀ i, A3 i < 40 := hRI.2.2.2.2.2.2.2.1
  have hmn : mn ≤ 120 := hRI.2.2.2.2.2.2.2.2.1
  have hB1 : ∀ i, B1 i < 40 := hRI.2.2.2.2.2.2.2.2.2.1
  have hB2 : ∀ i, B2 i < 40 := hRI.2.2.2.2.2.2.2.2.2.2.1
  have hB3 : ∀ i, B3 i < 40 := hRI.2.2.2.2.2.2.2.2.2.2.2.1
  have hhh : hh ≤ 120 := hRI.2.2.2.2.2.2.2.2.2.2.2.2.1
  have hOr : ∀ i, Or i < 40 := hRI.2.2.2.2.2.2.2.2.2.2.2.2.2.1
  have hRo : ∀ i, Ro i < 40 := hRI.2.2.2.2.2.2.2.2.2.2.2.2.2.2.1
  have hNe : ∀ i, Ne i < 40 := hRI.2.2.2.2.2.2.2.2.2.2.2.2.2.2.2.1
  have hrn : rn ≤ 80 := hRI.2.2.2.2.2.2.2.2.2.2.2.2.2.2.2.2
  refine lv_iload_n C.1 C.2.1 dX4_cornerOf_0 rfl (lv_at hl 2 rfl) ?_
  refine jv_if_ne (tgt := 13) C dX4_cornerOf_1 (by decide) (by omega) (fun h1 => ?_) (fun h1 => ?_)
  · refine lv_iload_n C.1 C.2.1 dX4_cornerOf_13 rfl (lv_at hl 2 rfl) ?_
    refine jv_iconst C dX4_cornerOf_14 ?_
    refine jv_icmp_ne (tgt := 27) C dX4_cornerOf_15 (by decide) (by omega) (fun h2 => ?_) (fun h2 => ?_)
    · refine lv_aload_n C.1 C.2.1 dX4_cornerOf_27 rfl (lv_at hl 0 rfl) ?_
      refine jv_get C fw_X4_32 hK hP 0 rfl rfl dX4_cornerOf_28 ?_
      refine lv_iload_n C.1 C.2.1 dX4_cornerOf_31 rfl (lv_at hl 1 rfl) ?_
      refine jv_iald C hK hP 8 0 rfl rfl (t) (by omega) (by omega) (by decide) dX4_cornerOf_32 ?_
      have f3 := hA3 t
      exact jv_iret C hlk hr dX4_cornerOf_33 (by unfold ptA; first | (rw [if_pos (by omega)]; done) | (rw [if_neg (by omega), if_pos (by omega)]; done) | (rw [if_neg (by omega), if_neg (by omega)]; done))
    · refine lv_aload_n C.1 C.2.1 dX4_cornerOf_18 rfl (lv_at hl 0 rfl) ?_
      refine jv_get C fw_X4_29 hK hP 0 rfl rfl dX4_cornerOf_19 ?_
      refine lv_iload_n C.1 C.2.1 dX4_cornerOf_22 rfl (lv_at hl 1 rfl) ?_
      refine jv_iald C hK hP 7 0 rfl rfl (t) (by omega) (by omega) (by decide) dX4_cornerOf_23 ?_
      have f4 := hA2 t
      refine lv_goto (tgt := 33) C.1 C.2.1 dX4_cornerOf_24 (by decide) ?_
      exact jv_iret C hlk hr dX4_cornerOf_33 (by unfold ptA; first | (rw [if_pos (by omega)]; done) | (rw [if_neg (by omega), if_pos (by omega)]; done) | (rw [if_neg (by omega), if_neg (by omega)]; done))
  · refine lv_aload_n C.1 C.2.1 dX4_cornerOf_4 rfl (lv_at hl 0 rfl) ?_
    refine jv_get C fw_X4_26 hK hP 0 rfl rfl dX4_cornerOf_5 ?_
    refine lv_iload_n C.1 C.2.1 dX4_cornerOf_8 rfl (lv_at hl 1 rfl) ?_
    refine jv_iald C hK hP 6 0 rfl rfl (t) (by omega) (by omega) (by decide) dX4_cornerOf_9 ?_
    have f5 := hA1 t
    refine lv_goto (tgt := 33) C.1 C.2.1 dX4_cornerOf_10 (by decide) ?_
    exact jv_iret C hlk hr dX4_cornerOf_33 (by unfold ptA; first | (rw [if_pos (by omega)]; done) | (rw [if_neg (by omega), if_pos (by omega)]; done) | (rw [if_neg (by omega), if_neg (by omega)]; done))
set_option maxRecDepth 20000 in
set_option maxHeartbeats 4000000 in
theorem c_X4_hasPoint {t : Nat} {z : Int} (hRI : RI ((Px, Py, Mt, pn), (kn, fl, Hu, hn, A1, A2, A3, mn), (hd, sd, B1, B2, B3, hh, fp), (Or, Ro, Ne, rn), Mr)) (ht : t < 120) (hz : R3 z) : cR l yX4_hasPoint cX4_hasPoint 3 (some .boolean) 0 0 D (tyz cI cZ) [.ref qq, .int (J ((t : Nat) : Int)), .int (J z)] (wRS cI cZ qq r0 rx ry rt rh ra rb rc sa sb sc so sr sw ((Px, Py, Mt, pn), (kn, fl, Hu, hn, A1, A2, A3, mn), (hd, sd, B1, B2, B3, hh, fp), (Or, Ro, Ne, rn), Mr)) (some (.int (J (b2i (hsA A1 A2 A3 t z))))) := by
  refine cR_of (owner := RX4) rfl (by decide) (Nat.le_of_ble_eq_true rfl) ?_
  intro p e s m args below meth c ls C hlk hr hK hP hl
  have hl : lv_has ls 3 [(0, .ref qq), (1, .int (J ((t : Nat) : Int))), (2, .int (J z))] := hl
  have hP : va_P D vwCl [(qq, .inr (4, [.ref r0, .ref rx, .ref ry, .ref rt, .int (J ((pn : Nat) : Int)), .int (J (b2i (kn))), .int (J (b2i (fl))), .ref rh, .ref ra, .ref rb, .ref rc, .int (J ((hn : Nat) : Int)), .int (J ((mn : Nat) : Int)), .int (J (b2i (hd))), .int (J (b2i (sd))), .ref sa, .ref sb, .ref sc, .int (J ((hh : Nat) : Int)), .int (J ((fp : Nat) : Int)), .ref so, .ref sr, .ref sw, .int (J ((rn : Nat) : Int))])), (r0, .inl (cI, 7, .inl (fun z9 => J ((Mr z9 : Nat) : Int)))), (rx, .inl (cI, 40, .inl (fun z9 => J (Px z9)))), (ry, .inl (cI, 40, .inl (fun z9 => J (Py z9)))), (rt, .inl (cZ, 40, .inl (fun z9 => J (b2i (Mt z9))))), (rh, .inl (cI, 41, .inl (fun z9 => J ((Hu z9 : Nat) : Int)))), (ra, .inl (cI, 120, .inl (fun z9 => J ((A1 z9 : Nat) : Int)))), (rb, .inl (cI, 120, .inl (fun z9 => J ((A2 z9 : Nat) : Int)))), (rc, .inl (cI, 120, .inl (fun z9 => J ((A3 z9 : Nat) : Int)))), (sa, .inl (cI, 120, .inl (fun z9 => J ((B1 z9 : Nat) : Int)))), (sb, .inl (cI, 120, .inl (fun z9 => J ((B2 z9 : Nat) : Int)))), (sc, .inl (cI, 120, .inl (fun z9 => J ((B3 z9 : Nat) : Int)))), (so, .inl (cI, 40, .inl (fun z9 => J ((Or z9 : Nat) : Int)))), (sr, .inl (cI, 80, .inl (fun z9 => J ((Ro z9 : Nat) : Int)))), (sw, .inl (cI, 80, .inl (fun z9 => J ((Ne z9 : Nat) : Int))))] s.heap := hP
  have hX : ∀ i, -10000 ≤ Px i ∧ Px i ≤ 10000 := hRI.1
  have hY : ∀ i, -10000 ≤ Py i ∧ Py i ≤ 10000 := hRI.2.1
  have hpn : pn ≤ 40 := hRI.2.2.1
  have hHu : ∀ i, Hu i < 40 := hRI.2.2.2.1
  have hhn : hn ≤ 41 := hRI.2.2.2.2.1
  have hA1 : ∀ i, A1 i < 40 := hRI.2.2.2.2.2.1
  have hA2 : ∀ i, A2 i < 40 := hRI.2.2.2.2.2.2.1
  have hA3 : ∀ i, A3 i < 40 := hRI.2.2.2.2.2.2.2.1
  have hmn : mn ≤ 120 := hRI.2.2.2.2.2.2.2.2.1
  have hB1 : ∀ i, B1 i < 40 := hRI.2.2.2.2.2.2.2.2.2.1
  have hB2 : ∀ i, B2 i < 40 := hRI.2.2.2.2.2.2.2.2.2.2.1
  have hB3 : ∀ i, B3 i < 40 := hRI.2.2.2.2.2.2.2.2.2.2.2.1
  have hhh : hh ≤ 120 := hRI.2.2.2.2.2.2.2.2.2.2.2.2.1
  have hOr : ∀ i, Or i < 40 := hRI.2.2.2.2.2.2.2.2.2.2.2.2.2.1
  have hRo : ∀ i, Ro i < 40 := hRI.2.2.2.2.2.2.2.2.2.2.2.2.2.2.1
  have hNe : ∀ i, Ne i < 40 := hRI.2.2.2.2.2.2.2.2.2.2.2.2.2.2.2.1
  have hrn : rn ≤ 80 := hRI.2.2.2.2.2.2.2.2.2.2.2.2.2.2.2.2
  refine lv_aload_n C.1 C.2.1 dX4_hasPoint_0 rfl (lv_at hl 0 rfl) ?_
  refine jv_get C fw_X4_26 hK hP 0 rfl rfl dX4_hasPoint_1 ?_
  refine lv_iload_n C.1 C.2.1 dX4_hasPoint_4 rfl (lv_at hl 1 rfl) ?_
  refine jv_iald C hK hP 6 0 rfl rfl (t) (by omega) (by omega) (by decide) dX4_hasPoint_5 ?_
  have f1 := hA1 t
  refine lv_iload_n C.1 C.2.1 dX4_hasPoint_6 rfl (lv_at hl 2 rfl) ?_
  refine jv_icmp_eq (tgt := 30) C dX4_hasPoint_7 (by decide) (by omega) (fun h2 => ?_) (fun h2 => ?_)
  · refine jv_iconst C dX4_hasPoint_30 ?_
    refine lv_goto (tgt := 35) C.1 C.2.1 dX4_hasPoint_31 (by decide) ?_
    exact jv_zret C hlk hr dX4_hasPoint_35 (by clear hP hK hl C; grind [hsA, b2i])
  · refine lv_aload_n C.1 C.2.1 dX4_hasPoint_10 rfl (lv_at hl 0 rfl) ?_
    refine jv_get C fw_X4_29 hK hP 0 rfl rfl dX4_hasPoint_11 ?_
    refine lv_iload_n C.1 C.2.1 dX4_hasPoint_14 rfl (lv_at hl 1 rfl) ?_
    refine jv_iald C hK hP 7 0 rfl rfl (t) (by omega) (by omega) (by decide) dX4_hasPoint_15 ?_
    have f3 := hA2 t
    refine lv_iload_n C.1 C.2.1 dX4_hasPoint_16 rfl (lv_at hl 2 rfl) ?_
    refine jv_icmp_eq (tgt := 30) C dX4_hasPoint_17 (by decide) (by omega) (fun h4 => ?_) (fun h4 => ?_)
    · refine jv_iconst C dX4_hasPoint_30 ?_
      refine lv_goto (tgt := 35) C.1 C.2.1 dX4_hasPoint_31 (by decide) ?_
      exact jv_zret C hlk hr dX4_hasPoint_35 (by clear hP hK hl C; grind [hsA, b2i])
    · refine lv_aload_n C.1 C.2.1 dX4_hasPoint_20 rfl (lv_at hl 0 rfl) ?_
      refine jv_get C fw_X4_32 hK hP 0 rfl rfl dX4_hasPoint_21 ?_
      refine lv_iload_n C.1 C.2.1 dX4_hasPoint_24 rfl (lv_at hl 1 rfl) ?_
      refine jv_iald C hK hP 8 0 rfl rfl (t) (by omega) (by omega) (by decide) dX4_hasPoint_25 ?_
      have f5 := hA3 t
      refine lv_iload_n C.1 C.2.1 dX4_hasPoint_26 rfl (lv_at hl 2 rfl) ?_
      refine jv_icmp_ne (tgt := 34) C dX4_hasPoint_27 (by decide) (by omega) (fun h6 => ?_) (fun h6 => ?_)
      · refine jv_iconst C dX4_hasPoint_34 ?_
        exact jv_zret C hlk hr dX4_hasPoint_35 (by clear hP hK hl C; grind [hsA, b2i])
      · refine jv_iconst C dX4_hasPoint_30 ?_
        refine lv_goto (tgt := 35) C.1 C.2.1 dX4_hasPoint_31 (by decide) ?_
        exact jv_zret C hlk hr dX4_hasPoint_35 (by clear hP hK hl C; grind [hsA, b2i])
set_option maxRecDepth 20000 in
set_option maxHeartbeats 4000000 in
theorem c_X4_holdsPoint {t : Nat} {z : Int} (hRI : RI ((Px, Py, Mt, pn), (kn, fl, Hu, hn, A1, A2, A3, mn), (hd, sd, B1, B2, B3, hh, fp), (Or, Ro, Ne, rn), Mr)) (ht : t < 120) (hz : R3 z) : cR l yX4_holdsPoint cX4_holdsPoint 3 (some .boolean) 0 0 D (tyz cI cZ) [.ref qq, .int (J ((t : Nat) : Int)), .int (J z)] (wRS cI cZ qq r0 rx ry rt rh ra rb rc sa sb sc so sr sw ((Px, Py, Mt, pn), (kn, fl, Hu, hn, A1, A2, A3, mn), (hd, sd, B1, B2, B3, hh, fp), (Or, Ro, Ne, rn), Mr)) (some (.int (J (b2i (hsA B1 B2 B3 t z))))) := by
  refine cR_of (owner := RX4) rfl (by decide) (Nat.le_of_ble_eq_true rfl) ?_
  intro p e s m args below meth c ls C hlk hr hK hP hl
  have hl : lv_has ls 3 [(0, .ref qq), (1, .int (J ((t : Nat) : Int))), (2, .int (J z))] := hl
  have hP : va_P D vwCl [(qq, .inr (4, [.ref r0, .ref rx, .ref ry, .ref rt, .int (J ((pn : Nat) : Int)), .int (J (b2i (kn))), .int (J (b2i (fl))), .ref rh, .ref ra, .ref rb, .ref rc, .int (J ((hn : Nat) : Int)), .int (J ((mn : Nat) : Int)), .int (J (b2i (hd))), .int (J (b2i (sd))), .ref sa, .ref sb, .ref sc, .int (J ((hh : Nat) : Int)), .int (J ((fp : Nat) : Int)), .ref so, .ref sr, .ref sw, .int (J ((rn : Nat) : Int))])), (r0, .inl (cI, 7, .inl (fun z9 => J ((Mr z9 : Nat) : Int)))), (rx, .inl (cI, 40, .inl (fun z9 => J (Px z9)))), (ry, .inl (cI, 40, .inl (fun z9 => J (Py z9)))), (rt, .inl (cZ, 40, .inl (fun z9 => J (b2i (Mt z9))))), (rh, .inl (cI, 41, .inl (fun z9 => J ((Hu z9 : Nat) : Int)))), (ra, .inl (cI, 120, .inl (fun z9 => J ((A1 z9 : Nat) : Int)))), (rb, .inl (cI, 120, .inl (fun z9 => J ((A2 z9 : Nat) : Int)))), (rc, .inl (cI, 120, .inl (fun z9 => J ((A3 z9 : Nat) : Int)))), (sa, .inl (cI, 120, .inl (fun z9 => J ((B1 z9 : Nat) : Int)))), (sb, .inl (cI, 120, .inl (fun z9 => J ((B2 z9 : Nat) : Int)))), (sc, .inl (cI, 120, .inl (fun z9 => J ((B3 z9 : Nat) : Int)))), (so, .inl (cI, 40, .inl (fun z9 => J ((Or z9 : Nat) : Int)))), (sr, .inl (cI, 80, .inl (fun z9 => J ((Ro z9 : Nat) : Int)))), (sw, .inl (cI, 80, .inl (fun z9 => J ((Ne z9 : Nat) : Int))))] s.heap := hP
  have hX : ∀ i, -10000 ≤ Px i ∧ Px i ≤ 10000 := hRI.1
  have hY : ∀ i, -10000 ≤ Py i ∧ Py i ≤ 10000 := hRI.2.1
  have hpn : pn ≤ 40 := hRI.2.2.1
  have hHu : ∀ i, Hu i < 40 := hRI.2.2.2.1
  have hhn : hn ≤ 41 := hRI.2.2.2.2.1
  have hA1 : ∀ i, A1 i < 40 := hRI.2.2.2.2.2.1
  have hA2 : ∀ i, A2 i < 40 := hRI.2.2.2.2.2.2.1
  have hA3 : ∀ i, A3 i < 40 := hRI.2.2.2.2.2.2.2.1
  have hmn : mn ≤ 120 := hRI.2.2.2.2.2.2.2.2.1
  have hB1 : ∀ i, B1 i < 40 := hRI.2.2.2.2.2.2.2.2.2.1
  have hB2 : ∀ i, B2 i < 40 := hRI.2.2.2.2.2.2.2.2.2.2.1
  have hB3 : ∀ i, B3 i < 40 := hRI.2.2.2.2.2.2.2.2.2.2.2.1
  have hhh : hh ≤ 120 := hRI.2.2.2.2.2.2.2.2.2.2.2.2.1
  have hOr : ∀ i, Or i < 40 := hRI.2.2.2.2.2.2.2.2.2.2.2.2.2.1
  have hRo : ∀ i, Ro i < 40 := hRI.2.2.2.2.2.2.2.2.2.2.2.2.2.2.1
  have hNe : ∀ i, Ne i < 40 := hRI.2.2.2.2.2.2.2.2.2.2.2.2.2.2.2.1
  have hrn : rn ≤ 80 := hRI.2.2.2.2.2.2.2.2.2.2.2.2.2.2.2.2
  refine lv_aload_n C.1 C.2.1 dX4_holdsPoint_0 rfl (lv_at hl 0 rfl) ?_
  refine jv_get C fw_X4_35 hK hP 0 rfl rfl dX4_holdsPoint_1 ?_
  refine lv_iload_n C.1 C.2.1 dX4_holdsPoint_4 rfl (lv_at hl 1 rfl) ?_
  refine jv_iald C hK hP 9 0 rfl rfl (t) (by omega) (by omega) (by decide) dX4_holdsPoint_5 ?_
  have f1 := hB1 t
  refine lv_iload_n C.1 C.2.1 dX4_holdsPoint_6 rfl (lv_at hl 2 rfl) ?_
  refine jv_icmp_eq (tgt := 30) C dX4_holdsPoint_7 (by decide) (by omega) (fun h2 => ?_) (fun h2 => ?_)
  · refine jv_iconst C dX4_holdsPoint_30 ?_
    refine lv_goto (tgt := 35) C.1 C.2.1 dX4_holdsPoint_31 (by decide) ?_
    exact jv_zret C hlk hr dX4_holdsPoint_35 (by clear hP hK hl C; grind [hsA, b2i])
  · refine lv_aload_n C.1 C.2.1 dX4_holdsPoint_10 rfl (lv_at hl 0 rfl) ?_
    refine jv_get C fw_X4_38 hK hP 0 rfl rfl dX4_holdsPoint_11 ?_
    refine lv_iload_n C.1 C.2.1 dX4_holdsPoint_14 rfl (lv_at hl 1 rfl) ?_
    refine jv_iald C hK hP 10 0 rfl rfl (t) (by omega) (by omega) (by decide) dX4_holdsPoint_15 ?_
    have f3 := hB2 t
    refine lv_iload_n C.1 C.2.1 dX4_holdsPoint_16 rfl (lv_at hl 2 rfl) ?_
    refine jv_icmp_eq (tgt := 30) C dX4_holdsPoint_17 (by decide) (by omega) (fun h4 => ?_) (fun h4 => ?_)
    · refine jv_iconst C dX4_holdsPoint_30 ?_
      refine lv_goto (tgt := 35) C.1 C.2.1 dX4_holdsPoint_31 (by decide) ?_
      exact jv_zret C hlk hr dX4_holdsPoint_35 (by clear hP hK hl C; grind [hsA, b2i])
    · refine lv_aload_n C.1 C.2.1 dX4_holdsPoint_20 rfl (lv_at hl 0 rfl) ?_
      refine jv_get C fw_X4_41 hK hP 0 rfl rfl dX4_holdsPoint_21 ?_
      refine lv_iload_n C.1 C.2.1 dX4_holdsPoint_24 rfl (lv_at hl 1 rfl) ?_
      refine jv_iald C hK hP 11 0 rfl rfl (t) (by omega) (by omega) (by decide) dX4_holdsPoint_25 ?_
      have f5 := hB3 t
      refine lv_iload_n C.1 C.2.1 dX4_holdsPoint_26 rfl (lv_at hl 2 rfl) ?_
      refine jv_icmp_ne (tgt := 34) C dX4_holdsPoint_27 (by decide) (by omega) (fun h6 => ?_) (fun h6 => ?_)
      · refine jv_iconst C dX4_holdsPoint_34 ?_
        exact jv_zret C hlk hr dX4_holdsPoint_35 (by clear hP hK hl C; grind [hsA, b2i])
      · refine jv_iconst C dX4_holdsPoint_30 ?_
        refine lv_goto (tgt := 35) C.1 C.2.1 dX4_holdsPoint_31 (by decide) ?_
        exact jv_zret C hlk hr dX4_holdsPoint_35 (by clear hP hK hl C; grind [hsA, b2i])
set_option maxRecDepth 20000 in
set_option maxHeartbeats 4000000 in
theorem c_X4_isLeft {a b : Nat} {x y : Int} (hRI : RI ((Px, Py, Mt, pn), (kn, fl, Hu, hn, A1, A2, A3, mn), (hd, sd, B1, B2, B3, hh, fp), (Or, Ro, Ne, rn), Mr)) (ha : a < 40) (hb : b < 40) (hx : -10000 ≤ x ∧ x ≤ 10000) (hy : -10000 ≤ y ∧ y ≤ 10000) : cR l yX4_isLeft cX4_isLeft 5 (some .boolean) 2 46 D (tyz cI cZ) [.ref qq, .int (J ((a : Nat) : Int)), .int (J ((b : Nat) : Int)), .int (J x), .int (J y)] (wRS cI cZ qq r0 rx ry rt rh ra rb rc sa sb sc so sr sw ((Px, Py, Mt, pn), (kn, fl, Hu, hn, A1, A2, A3, mn), (hd, sd, B1, B2, B3, hh, fp), (Or, Ro, Ne, rn), Mr)) (some (.int (J (b2i (lfP Px Py a b x y))))) := by
  refine cR_of (owner := RX4) rfl (by decide) (Nat.le_of_ble_eq_true rfl) ?_
  intro p e s m args below meth c ls C hlk hr hK hP hl
  have hl : lv_has ls 5 [(0, .ref qq), (1, .int (J ((a : Nat) : Int))), (2, .int (J ((b : Nat) : Int))), (3, .int (J x)), (4, .int (J y))] := hl
  have hP : va_P D vwCl [(qq, .inr (4, [.ref r0, .ref rx, .ref ry, .ref rt, .int (J ((pn : Nat) : Int)), .int (J (b2i (kn))), .int (J (b2i (fl))), .ref rh, .ref ra, .ref rb, .ref rc, .int (J ((hn : Nat) : Int)), .int (J ((mn : Nat) : Int)), .int (J (b2i (hd))), .int (J (b2i (sd))), .ref sa, .ref sb, .ref sc, .int (J ((hh : Nat) : Int)), .int (J ((fp : Nat) : Int)), .ref so, .ref sr, .ref sw, .int (J ((rn : Nat) : Int))])), (r0, .inl (cI, 7, .inl (fun z9 => J ((Mr z9 : Nat) : Int)))), (rx, .inl (cI, 40, .inl (fun z9 => J (Px z9)))), (ry, .inl (cI, 40, .inl (fun z9 => J (Py z9)))), (rt, .inl (cZ, 40, .inl (fun z9 => J (b2i (Mt z9))))), (rh, .inl (cI, 41, .inl (fun z9 => J ((Hu z9 : Nat) : Int)))), (ra, .inl (cI, 120, .inl (fun z9 => J ((A1 z9 : Nat) : Int)))), (rb, .inl (cI, 120, .inl (fun z9 => J ((A2 z9 : Nat) : Int)))), (rc, .inl (cI, 120, .inl (fun z9 => J ((A3 z9 : Nat) : Int)))), (sa, .inl (cI, 120, .inl (fun z9 => J ((B1 z9 : Nat) : Int)))), (sb, .inl (cI, 120, .inl (fun z9 => J ((B2 z9 : Nat) : Int)))), (sc, .inl (cI, 120, .inl (fun z9 => J ((B3 z9 : Nat) : Int)))), (so, .inl (cI, 40, .inl (fun z9 => J ((Or z9 : Nat) : Int)))), (sr, .inl (cI, 80, .inl (fun z9 => J ((Ro z9 : Nat) : Int)))), (sw, .inl (cI, 80, .inl (fun z9 => J ((Ne z9 : Nat) : Int))))] s.heap := hP
  have hX : ∀ i, -10000 ≤ Px i ∧ Px i ≤ 10000 := hRI.1
  have hY : ∀ i, -10000 ≤ Py i ∧ Py i ≤ 10000 := hRI.2.1
  have hpn : pn ≤ 40 := hRI.2.2.1
  have hHu : ∀ i, Hu i < 40 := hRI.2.2.2.1
  have hhn : hn ≤ 41 := hRI.2.2.2.2.1
  have hA1 : ∀ i, A1 i < 40 := hRI.2.2.2.2.2.1
  have hA2 : ∀ i, A2 i < 40 := hRI.2.2.2.2.2.2.1
  have hA3 : ∀ i, A3 i < 40 := hRI.2.2.2.2.2.2.2.1
  have hmn : mn ≤ 120 := hRI.2.2.2.2.2.2.2.2.1
  have hB1 : ∀ i, B1 i < 40 := hRI.2.2.2.2.2.2.2.2.2.1
  have hB2 : ∀ i, B2 i < 40 := hRI.2.2.2.2.2.2.2.2.2.2.1
  have hB3 : ∀ i, B3 i < 40 := hRI.2.2.2.2.2.2.2.2.2.2.2.1
  have hhh : hh ≤ 120 := hRI.2.2.2.2.2.2.2.2.2.2.2.2.1
  have hOr : ∀ i, Or i < 40 := hRI.2.2.2.2.2.2.2.2.2.2.2.2.2.1
  have hRo : ∀ i, Ro i < 40 := hRI.2.2.2.2.2.2.2.2.2.2.2.2.2.2.1
  have hNe : ∀ i, Ne i < 40 := hRI.2.2.2.2.2.2.2.2.2.2.2.2.2.2.2.1
  have hrn : rn ≤ 80 := hRI.2.2.2.2.2.2.2.2.2.2.2.2.2.2.2.2
  refine lv_aload_n C.1 C.2.1 dX4_isLeft_0 rfl (lv_at hl 0 rfl) ?_
  refine jv_get C fw_X4_13 hK hP 0 rfl rfl dX4_isLeft_1 ?_
  refine lv_iload_n C.1 C.2.1 dX4_isLeft_4 rfl (lv_at hl 1 rfl) ?_
  refine jv_iald C hK hP 2 0 rfl rfl (a) (by omega) (by omega) (by decide) dX4_isLeft_5 ?_
  have f1 := hX a
  refine lv_aload_n C.1 C.2.1 dX4_isLeft_6 rfl (lv_at hl 0 rfl) ?_
  refine jv_get C fw_X4_16 hK hP 0 rfl rfl dX4_isLeft_7 ?_
  refine lv_iload_n C.1 C.2.1 dX4_isLeft_10 rfl (lv_at hl 1 rfl) ?_
  refine jv_iald C hK hP 3 0 rfl rfl (a) (by omega) (by omega) (by decide) dX4_isLeft_11 ?_
  have f2 := hY a
  refine lv_aload_n C.1 C.2.1 dX4_isLeft_12 rfl (lv_at hl 0 rfl) ?_
  refine jv_get C fw_X4_13 hK hP 0 rfl rfl dX4_isLeft_13 ?_
  refine lv_iload_n C.1 C.2.1 dX4_isLeft_16 rfl (lv_at hl 2 rfl) ?_
  refine jv_iald C hK hP 2 0 rfl rfl (b) (by omega) (by omega) (by decide) dX4_isLeft_17 ?_
  have f3 := hX b
  refine lv_aload_n C.1 C.2.1 dX4_isLeft_18 rfl (lv_at hl 0 rfl) ?_
  refine jv_get C fw_X4_16 hK hP 0 rfl rfl dX4_isLeft_19 ?_
  refine lv_iload_n C.1 C.2.1 dX4_isLeft_22 rfl (lv_at hl 2 rfl) ?_
  refine jv_iald C hK hP 3 0 rfl rfl (b) (by omega) (by omega) (by decide) dX4_isLeft_23 ?_
  have f4 := hY b
  refine lv_iload_n C.1 C.2.1 dX4_isLeft_24 rfl (lv_at hl 3 rfl) ?_
  refine lv_iload C.1 C.2.1 dX4_isLeft_25 (lv_at hl 4 rfl) ?_
  refine jv_rdS (ni := 6) C [.int (J (Px a)), .int (J (Py a)), .int (J (Px b)), .int (J (Py b)), .int (J x), .int (J y)] [] (c_X4_turnOf (a1 := Px a) (a2 := Py a) (b1 := Px b) (b2 := Py b) (c1 := x) (c2 := y) (by omega) (by omega) (by omega) (by omega) (by omega) (by omega)) gs_X4_87 (by decide +kernel) (by decide) hK (hP.sub (ws' := []) [] rfl) rfl hl.1 (by simp [Value.category]) dX4_isLeft_27 (by decide) ?_ rfl
  show W _ _ _ _ _ _ _ _ _ _ _ _ _ _ _ (F0 m 30 ls [.int (J (sgn ((Px b - Px a) * (y - Py a) - (Py b - Py a) * (x - Px a))))])
  have hsg := sgn_R ((Px b - Px a) * (y - Py a) - (Py b - Py a) * (x - Px a))
  refine jv_if_lt (tgt := 37) C dX4_isLeft_30 (by decide) (by omega) (fun h5 => ?_) (fun h5 => ?_)
  · refine jv_iconst C dX4_isLeft_37 ?_
    exact jv_zret C hlk hr dX4_isLeft_38 (by unfold lfP lo; rw [decide_eq_false (by omega)]; rfl)
  · refine jv_iconst C dX4_isLeft_33 ?_
    refine lv_goto (tgt := 38) C.1 C.2.1 dX4_isLeft_34 (by decide) ?_
    exact jv_zret C hlk hr dX4_isLeft_38 (by unfold lfP lo; rw [decide_eq_true (by omega)]; rfl)
end REF2
