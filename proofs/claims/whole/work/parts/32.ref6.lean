abbrev QA : Type := (Nat → Nat) × (Nat → Nat) × (Nat → Nat) × Nat
def adA (a b c : Nat) (Q : QA) : QA := (sn Q.1 Q.2.2.2 a, sn Q.2.1 Q.2.2.2 b, sn Q.2.2.1 Q.2.2.2 c, Q.2.2.2 + 1)
def ftP (X Y : Nat → Int) (T : Nat → Bool) (pn a b c : Nat) : Bool := decide (b ≠ c) && (T a && (T b && (T c && (decide (0 < trn X Y a b c) && drn X Y T pn a b c))))
def ft3 (X Y : Nat → Int) (T : Nat → Bool) (pn a b c : Nat) (Q : QA) : QA := if c < pn then ft3 X Y T pn a b (c + 1) (if ftP X Y T pn a b c = true then adA a b c Q else Q) else Q
termination_by pn - c
def ft2 (X Y : Nat → Int) (T : Nat → Bool) (pn a b : Nat) (Q : QA) : QA := if b < pn then ft2 X Y T pn a (b + 1) (ft3 X Y T pn a b (a + 1) Q) else Q
termination_by pn - b
def ft1 (X Y : Nat → Int) (T : Nat → Bool) (pn a : Nat) (Q : QA) : QA := if a < pn then ft1 X Y T pn (a + 1) (ft2 X Y T pn a (a + 1) Q) else Q
termination_by pn - a
theorem ft3_end {X Y : Nat → Int} {T : Nat → Bool} {pn a b c : Nat} {Q : QA} (h : pn ≤ c) : ft3 X Y T pn a b c Q = Q := by rw [ft3, if_neg (by omega)]
theorem ft3_in {X Y : Nat → Int} {T : Nat → Bool} {pn a b c : Nat} {Q : QA} (h : c < pn) (hp : ftP X Y T pn a b c = true) : ft3 X Y T pn a b c Q = ft3 X Y T pn a b (c + 1) (adA a b c Q) := by rw [ft3, if_pos h, if_pos hp]
theorem ft3_no {X Y : Nat → Int} {T : Nat → Bool} {pn a b c : Nat} {Q : QA} (h : c < pn) (hp : ftP X Y T pn a b c = false) : ft3 X Y T pn a b c Q = ft3 X Y T pn a b (c + 1) Q := by rw [ft3, if_pos h, if_neg (by rw [hp]; decide)]
theorem ft2_end {X Y : Nat → Int} {T : Nat → Bool} {pn a b : Nat} {Q : QA} (h : pn ≤ b) : ft2 X Y T pn a b Q = Q := by rw [ft2, if_neg (by omega)]
theorem ft2_go {X Y : Nat → Int} {T : Nat → Bool} {pn a b : Nat} {Q : QA} (h : b < pn) : ft2 X Y T pn a b Q = ft2 X Y T pn a (b + 1) (ft3 X Y T pn a b (a + 1) Q) := by rw [ft2, if_pos h]
theorem ft1_end {X Y : Nat → Int} {T : Nat → Bool} {pn a : Nat} {Q : QA} (h : pn ≤ a) : ft1 X Y T pn a Q = Q := by rw [ft1, if_neg (by omega)]
theorem ft1_go {X Y : Nat → Int} {T : Nat → Bool} {pn a : Nat} {Q : QA} (h : a < pn) : ft1 X Y T pn a Q = ft1 X Y T pn (a + 1) (ft2 X Y T pn a (a + 1) Q) := by rw [ft1, if_pos h]
theorem ft3_le {X Y : Nat → Int} {T : Nat → Bool} {pn a b : Nat} : ∀ (k c : Nat) (Q : QA), pn ≤ c + k → Q.2.2.2 ≤ (ft3 X Y T pn a b c Q).2.2.2 := by
  intro k
  induction k with
  | zero => intro c Q h; rw [ft3_end (by omega)]; exact Nat.le_refl _
  | succ k ih =>
    intro c Q h
    rcases Nat.lt_or_ge c pn with q | q
    · cases hp : ftP X Y T pn a b c with
      | true => rw [ft3_in q hp]; exact Nat.le_trans (Nat.le_succ _) (ih (c + 1) (adA a b c Q) (by omega))
      | false => rw [ft3_no q hp]; exact ih (c + 1) Q (by omega)
    · rw [ft3_end q]; exact Nat.le_refl _
theorem ft2_le {X Y : Nat → Int} {T : Nat → Bool} {pn a : Nat} : ∀ (k b : Nat) (Q : QA), pn ≤ b + k → Q.2.2.2 ≤ (ft2 X Y T pn a b Q).2.2.2 := by
  intro k
  induction k with
  | zero => intro b Q h; rw [ft2_end (by omega)]; exact Nat.le_refl _
  | succ k ih =>
    intro b Q h
    rcases Nat.lt_or_ge b pn with q | q
    · rw [ft2_go q]; exact Nat.le_trans (ft3_le pn (a + 1) Q (by omega)) (ih (b + 1) _ (by omega))
    · rw [ft2_end q]; exact Nat.le_refl _
theorem ft1_le {X Y : Nat → Int} {T : Nat → Bool} {pn : Nat} : ∀ (k a : Nat) (Q : QA), pn ≤ a + k → Q.2.2.2 ≤ (ft1 X Y T pn a Q).2.2.2 := by
  intro k
  induction k with
  | zero => intro a Q h; rw [ft1_end (by omega)]; exact Nat.le_refl _
  | succ k ih =>
    intro a Q h
    rcases Nat.lt_or_ge a pn with q | q
    · rw [ft1_go q]; exact Nat.le_trans (ft2_le pn (a + 1) Q (by omega)) (ih (a + 1) _ (by omega))
    · rw [ft1_end q]; exact Nat.le_refl _
theorem ncS_R {X Y : Nat → Int} {T : Nat → Bool} {pn p : Nat} (hp : pn ≤ 40) : ∀ (k i : Nat) (b : Int), pn ≤ i + k → -1 ≤ b → b < 40 → -1 ≤ ncS X Y T pn p i b ∧ ncS X Y T pn p i b < 40 := by
  intro k
  induction k with
  | zero => intro i b h h1 h2; rw [ncS_end (by omega)]; omega
  | succ k ih =>
    intro i b h h1 h2
    rcases Nat.lt_or_ge i pn with q | q
    · rw [ncS, if_pos q]
      split
      · exact ih _ _ (by omega) (by omega) (by omega)
      · exact ih _ _ (by omega) h1 h2
    · rw [ncS_end q]; omega
section REF6
variable {l : Launch} {D : va_G} {cI cZ : ClassId} {qq r0 rx ry rt rh ra rb rc sa sb sc so sr sw : Nat} {Px Py : Nat → Int} {Mt : Nat → Bool} {pn : Nat} {kn fl : Bool} {Hu : Nat → Nat} {hn : Nat} {A1 A2 A3 : Nat → Nat} {mn : Nat} {hd sd : Bool} {B1 B2 B3 : Nat → Nat} {hh fp : Nat} {Or Ro Ne : Nat → Nat} {rn : Nat} {Mr : Nat → Nat}
set_option maxRecDepth 20000 in
theorem lp_X4_findTriangles_26 {p : Program} {e : Env} {s : State} {m : MethodId} {args : Array Value} {below : List Frame} {meth : Method} {c : Code} {WC : va_W} {a b : Nat} {Qf : QA} (C : CallFix p m c cX4_findTriangles 4 s args TB RX4) (hlk : meth.locks = false) (hr : meth.sig.returnType = none) (hK : va_K D vwCl (tyz cI cZ) s) (hRI : RI ((Px, Py, Mt, pn), (kn, fl, Hu, hn, A1, A2, A3, mn), (hd, sd, B1, B2, B3, hh, fp), (Or, Ro, Ne, rn), Mr)) (ha : a < pn) (hb : b < pn) (hcap : Qf.2.2.2 ≤ 120) (KK : ∀ (A1 A2 A3 : Nat → Nat) (mn : Nat), (∀ i, A1 i < 40) → (∀ i, A2 i < 40) → (∀ i, A3 i < 40) → Qf = ft1 Px Py Mt pn (a + 1) (ft2 Px Py Mt pn a (b + 1) (A1, A2, A3, mn)) → ∀ (H : Heap) (locs : List Loc), va_P D vwCl [(qq, .inr (4, [.ref r0, .ref rx, .ref ry, .ref rt, .int (J ((pn : Nat) : Int)), .int (J (b2i (kn))), .int (J (b2i (fl))), .ref rh, .ref ra, .ref rb, .ref rc, .int (J ((hn : Nat) : Int)), .int (J ((mn : Nat) : Int)), .int (J (b2i (hd))), .int (J (b2i (sd))), .ref sa, .ref sb, .ref sc, .int (J ((hh : Nat) : Int)), .int (J ((fp : Nat) : Int)), .ref so, .ref sr, .ref sw, .int (J ((rn : Nat) : Int))])), (r0, .inl (cI, 7, .inl (fun z9 => J ((Mr z9 : Nat) : Int)))), (rx, .inl (cI, 40, .inl (fun z9 => J (Px z9)))), (ry, .inl (cI, 40, .inl (fun z9 => J (Py z9)))), (rt, .inl (cZ, 40, .inl (fun z9 => J (b2i (Mt z9))))), (rh, .inl (cI, 41, .inl (fun z9 => J ((Hu z9 : Nat) : Int)))), (ra, .inl (cI, 120, .inl (fun z9 => J ((A1 z9 : Nat) : Int)))), (rb, .inl (cI, 120, .inl (fun z9 => J ((A2 z9 : Nat) : Int)))), (rc, .inl (cI, 120, .inl (fun z9 => J ((A3 z9 : Nat) : Int)))), (sa, .inl (cI, 120, .inl (fun z9 => J ((B1 z9 : Nat) : Int)))), (sb, .inl (cI, 120, .inl (fun z9 => J ((B2 z9 : Nat) : Int)))), (sc, .inl (cI, 120, .inl (fun z9 => J ((B3 z9 : Nat) : Int)))), (so, .inl (cI, 40, .inl (fun z9 => J ((Or z9 : Nat) : Int)))), (sr, .inl (cI, 80, .inl (fun z9 => J ((Ro z9 : Nat) : Int)))), (sw, .inl (cI, 80, .inl (fun z9 => J ((Ne z9 : Nat) : Int))))] H → va_D (inW WC) [(qq, .inr (4, [.ref r0, .ref rx, .ref ry, .ref rt, .int (J ((pn : Nat) : Int)), .int (J (b2i (kn))), .int (J (b2i (fl))), .ref rh, .ref ra, .ref rb, .ref rc, .int (J ((hn : Nat) : Int)), .int (J ((mn : Nat) : Int)), .int (J (b2i (hd))), .int (J (b2i (sd))), .ref sa, .ref sb, .ref sc, .int (J ((hh : Nat) : Int)), .int (J ((fp : Nat) : Int)), .ref so, .ref sr, .ref sw, .int (J ((rn : Nat) : Int))])), (r0, .inl (cI, 7, .inl (fun z9 => J ((Mr z9 : Nat) : Int)))), (rx, .inl (cI, 40, .inl (fun z9 => J (Px z9)))), (ry, .inl (cI, 40, .inl (fun z9 => J (Py z9)))), (rt, .inl (cZ, 40, .inl (fun z9 => J (b2i (Mt z9))))), (rh, .inl (cI, 41, .inl (fun z9 => J ((Hu z9 : Nat) : Int)))), (ra, .inl (cI, 120, .inl (fun z9 => J ((A1 z9 : Nat) : Int)))), (rb, .inl (cI, 120, .inl (fun z9 => J ((A2 z9 : Nat) : Int)))), (rc, .inl (cI, 120, .inl (fun z9 => J ((A3 z9 : Nat) : Int)))), (sa, .inl (cI, 120, .inl (fun z9 => J ((B1 z9 : Nat) : Int)))), (sb, .inl (cI, 120, .inl (fun z9 => J ((B2 z9 : Nat) : Int)))), (sc, .inl (cI, 120, .inl (fun z9 => J ((B3 z9 : Nat) : Int)))), (so, .inl (cI, 40, .inl (fun z9 => J ((Or z9 : Nat) : Int)))), (sr, .inl (cI, 80, .inl (fun z9 => J ((Ro z9 : Nat) : Int)))), (sw, .inl (cI, 80, .inl (fun z9 => J ((Ne z9 : Nat) : Int))))] → va_S (inW WC) s.heap H locs → ∀ ls : Array Slot, lv_has ls 4 [(0, .ref qq), (1, .int (J ((a : Nat) : Int))), (2, .int (J ((b + 1 : Nat) : Int)))] → W p l e { frames := 4, cells := 0, slots := 0, locals := 94 } s m args below meth c H locs 0 0 (MQ below (QW D WC (wRS cI cZ qq r0 rx ry rt rh ra rb rc sa sb sc so sr sw ((Px, Py, Mt, pn), (kn, fl, Hu, hn, Qf.1, Qf.2.1, Qf.2.2.1, Qf.2.2.2), (hd, sd, B1, B2, B3, hh, fp), (Or, Ro, Ne, rn), Mr)) none) args s 0 0 (inW WC)) (F0 m 14 ls [])) :
    ∀ (n : Nat) (i : Nat) (A1 A2 A3 : Nat → Nat) (mn : Nat), pn < i + n → i ≤ pn → (∀ i, A1 i < 40) → (∀ i, A2 i < 40) → (∀ i, A3 i < 40) → ∀ (Qg : QA), (Qf = ft1 Px Py Mt pn (a + 1) (ft2 Px Py Mt pn a (b + 1) Qg) ∧ Qg = ft3 Px Py Mt pn a b i (A1, A2, A3, mn)) → ∀ (H : Heap) (locs : List Loc), va_P D vwCl [(qq, .inr (4, [.ref r0, .ref rx, .ref ry, .ref rt, .int (J ((pn : Nat) : Int)), .int (J (b2i (kn))), .int (J (b2i (fl))), .ref rh, .ref ra, .ref rb, .ref rc, .int (J ((hn : Nat) : Int)), .int (J ((mn : Nat) : Int)), .int (J (b2i (hd))), .int (J (b2i (sd))), .ref sa, .ref sb, .ref sc, .int (J ((hh : Nat) : Int)), .int (J ((fp : Nat) : Int)), .ref so, .ref sr, .ref sw, .int (J ((rn : Nat) : Int))])), (r0, .inl (cI, 7, .inl (fun z9 => J ((Mr z9 : Nat) : Int)))), (rx, .inl (cI, 40, .inl (fun z9 => J (Px z9)))), (ry, .inl (cI, 40, .inl (fun z9 => J (Py z9)))), (rt, .inl (cZ, 40, .inl (fun z9 => J (b2i (Mt z9))))), (rh, .inl (cI, 41, .inl (fun z9 => J ((Hu z9 : Nat) : Int)))), (ra, .inl (cI, 120, .inl (fun z9 => J ((A1 z9 : Nat) : Int)))), (rb, .inl (cI, 120, .inl (fun z9 => J ((A2 z9 : Nat) : Int)))), (rc, .inl (cI, 120, .inl (fun z9 => J ((A3 z9 : Nat) : Int)))), (sa, .inl (cI, 120, .inl (fun z9 => J ((B1 z9 : Nat) : Int)))), (sb, .inl (cI, 120, .inl (fun z9 => J ((B2 z9 : Nat) : Int)))), (sc, .inl (cI, 120, .inl (fun z9 => J ((B3 z9 : Nat) : Int)))), (so, .inl (cI, 40, .inl (fun z9 => J ((Or z9 : Nat) : Int)))), (sr, .inl (cI, 80, .inl (fun z9 => J ((Ro z9 : Nat) : Int)))), (sw, .inl (cI, 80, .inl (fun z9 => J ((Ne z9 : Nat) : Int))))] H → va_D (inW WC) [(qq, .inr (4, [.ref r0, .ref rx, .ref ry, .ref rt, .int (J ((pn : Nat) : Int)), .int (J (b2i (kn))), .int (J (b2i (fl))), .ref rh, .ref ra, .ref rb, .ref rc, .int (J ((hn : Nat) : Int)), .int (J ((mn : Nat) : Int)), .int (J (b2i (hd))), .int (J (b2i (sd))), .ref sa, .ref sb, .ref sc, .int (J ((hh : Nat) : Int)), .int (J ((fp : Nat) : Int)), .ref so, .ref sr, .ref sw, .int (J ((rn : Nat) : Int))])), (r0, .inl (cI, 7, .inl (fun z9 => J ((Mr z9 : Nat) : Int)))), (rx, .inl (cI, 40, .inl (fun z9 => J (Px z9)))), (ry, .inl (cI, 40, .inl (fun z9 => J (Py z9)))), (rt, .inl (cZ, 40, .inl (fun z9 => J (b2i (Mt z9))))), (rh, .inl (cI, 41, .inl (fun z9 => J ((Hu z9 : Nat) : Int)))), (ra, .inl (cI, 120, .inl (fun z9 => J ((A1 z9 : Nat) : Int)))), (rb, .inl (cI, 120, .inl (fun z9 => J ((A2 z9 : Nat) : Int)))), (rc, .inl (cI, 120, .inl (fun z9 => J ((A3 z9 : Nat) : Int)))), (sa, .inl (cI, 120, .inl (fun z9 => J ((B1 z9 : Nat) : Int)))), (sb, .inl (cI, 120, .inl (fun z9 => J ((B2 z9 : Nat) : Int)))), (sc, .inl (cI, 120, .inl (fun z9 => J ((B3 z9 : Nat) : Int)))), (so, .inl (cI, 40, .inl (fun z9 => J ((Or z9 : Nat) : Int)))), (sr, .inl (cI, 80, .inl (fun z9 => J ((Ro z9 : Nat) : Int)))), (sw, .inl (cI, 80, .inl (fun z9 => J ((Ne z9 : Nat) : Int))))] → va_S (inW WC) s.heap H locs → ∀ ls : Array Slot, lv_has ls 4 [(0, .ref qq), (1, .int (J ((a : Nat) : Int))), (2, .int (J ((b : Nat) : Int))), (3, .int (J ((i : Nat) : Int)))] → W p l e { frames := 4, cells := 0, slots := 0, locals := 94 } s m args below meth c H locs 0 0 (MQ below (QW D WC (wRS cI cZ qq r0 rx ry rt rh ra rb rc sa sb sc so sr sw ((Px, Py, Mt, pn), (kn, fl, Hu, hn, Qf.1, Qf.2.1, Qf.2.2.1, Qf.2.2.2), (hd, sd, B1, B2, B3, hh, fp), (Or, Ro, Ne, rn), Mr)) none) args s 0 0 (inW WC)) (F0 m 26 ls []) := by
  have hX : ∀ i, -10000 ≤ Px i ∧ Px i ≤ 10000 := hRI.1
  have hY : ∀ i, -10000 ≤ Py i ∧ Py i ≤ 10000 := hRI.2.1
  have hpn : pn ≤ 40 := hRI.2.2.1
  have hHu : ∀ i, Hu i < 40 := hRI.2.2.2.1
  have hhn : hn ≤ 41 := hRI.2.2.2.2.1
  have hB1 : ∀ i, B1 i < 40 := hRI.2.2.2.2.2.2.2.2.2.1
  have hB2 : ∀ i, B2 i < 40 := hRI.2.2.2.2.2.2.2.2.2.2.1
  have hB3 : ∀ i, B3 i < 40 := hRI.2.2.2.2.2.2.2.2.2.2.2.1
  have hhh : hh ≤ 120 := hRI.2.2.2.2.2.2.2.2.2.2.2.2.1
  have hOr : ∀ i, Or i < 40 := hRI.2.2.2.2.2.2.2.2.2.2.2.2.2.1
  have hRo : ∀ i, Ro i < 40 := hRI.2.2.2.2.2.2.2.2.2.2.2.2.2.2.1
  have hNe : ∀ i, Ne i < 40 := hRI.2.2.2.2.2.2.2.2.2.2.2.2.2.2.2.1
  have hrn : rn ≤ 80 := hRI.2.2.2.2.2.2.2.2.2.2.2.2.2.2.2.2
  intro n
  induction n with
  | zero => intro i A1 A2 A3 mn hi0 hi1 hA1 hA2 hA3; omega
  | succ n ih =>
    intro i A1 A2 A3 mn hi0 hi1 hA1 hA2 hA3 Qg hQg H locs hP hD hS ls hl
    have hq1 := ft1_le (X := Px) (Y := Py) (T := Mt) (pn := pn) pn (a + 1) (ft2 Px Py Mt pn a (b + 1) Qg) (by omega)
    have hq2 := ft2_le (X := Px) (Y := Py) (T := Mt) (pn := pn) (a := a) pn (b + 1) Qg (by omega)
    rw [← hQg.1] at hq1
    have hq3 := ft3_le (X := Px) (Y := Py) (T := Mt) (pn := pn) (a := a) (b := b) pn i (A1, A2, A3, mn) (by omega)
    rw [← hQg.2] at hq3
    have hq3 : mn ≤ Qg.2.2.2 := hq3
    have hRI : RI ((Px, Py, Mt, pn), (kn, fl, Hu, hn, A1, A2, A3, mn), (hd, sd, B1, B2, B3, hh, fp), (Or, Ro, Ne, rn), Mr) := ⟨hX, hY, hpn, hHu, hhn, hA1, hA2, hA3, by show mn ≤ 120; omega, hB1, hB2, hB3, hhh, hOr, hRo, hNe, hrn⟩
    refine lv_iload_n C.1 C.2.1 dX4_findTriangles_26 rfl (lv_at hl 3 rfl) ?_
    refine lv_aload_n C.1 C.2.1 dX4_findTriangles_27 rfl (lv_at hl 0 rfl) ?_
    refine jv_get C fw_X4_58 hK hP 0 rfl rfl dX4_findTriangles_28 ?_
    refine jv_icmp_ge (tgt := 99) C dX4_findTriangles_31 (by decide) (by omega) (fun h1 => ?_) (fun h1 => ?_)
    · refine lv_iinc (v := J (((b + 1 : Nat) : Int))) (lv' := [(2, .int (J ((b + 1 : Nat) : Int))), (0, .ref qq), (1, .int (J ((a : Nat) : Int))), (3, .int (J ((i : Nat) : Int)))]) C.1 C.2.1 dX4_findTriangles_99 hl (k := 2) rfl (by rw [show Int32.ofInt 1 = J 1 from rfl, J_add]; exact congrArg J (by omega)) (by decide) rfl (fun ls hl => ?_)
      refine lv_goto (tgt := 14) C.1 C.2.1 dX4_findTriangles_102 (by decide) ?_
      exact KK A1 A2 A3 mn hA1 hA2 hA3 (by rw [hQg.1, hQg.2, ft3_end (by omega)]) H locs hP hD hS ls (lv_sub hl [1, 2, 0] rfl)
    · refine lv_iload_n C.1 C.2.1 dX4_findTriangles_34 rfl (lv_at hl 2 rfl) ?_
      refine lv_iload_n C.1 C.2.1 dX4_findTriangles_35 rfl (lv_at hl 3 rfl) ?_
      refine jv_icmp_eq (tgt := 93) C dX4_findTriangles_36 (by decide) (by omega) (fun h2 => ?_) (fun h2 => ?_)
      · refine lv_iinc (v := J (((i + 1 : Nat) : Int))) (lv' := [(3, .int (J ((i + 1 : Nat) : Int))), (0, .ref qq), (1, .int (J ((a : Nat) : Int))), (2, .int (J ((b : Nat) : Int)))]) C.1 C.2.1 dX4_findTriangles_93 hl (k := 3) rfl (by rw [show Int32.ofInt 1 = J 1 from rfl, J_add]; exact congrArg J (by omega)) (by decide) rfl (fun ls hl => ?_)
        refine lv_goto (tgt := 26) C.1 C.2.1 dX4_findTriangles_96 (by decide) ?_
        exact ih (i + 1) A1 A2 A3 mn (by omega) (by omega) hA1 hA2 hA3 Qg ⟨hQg.1, hQg.2.trans (ft3_no (by omega) (by unfold ftP; rw [decide_eq_false (by omega)]; rfl))⟩ H locs hP hD hS ls (lv_sub hl [1, 2, 3, 0] rfl)
      · refine lv_aload_n C.1 C.2.1 dX4_findTriangles_39 rfl (lv_at hl 0 rfl) ?_
        refine jv_get C fw_X4_19 hK hP 0 rfl rfl dX4_findTriangles_40 ?_
        refine lv_iload_n C.1 C.2.1 dX4_findTriangles_43 rfl (lv_at hl 1 rfl) ?_
        refine jv_zald C hK hP 4 1 rfl rfl (a) (by omega) (by omega) (by decide) dX4_findTriangles_44 ?_
        refine jv_bif_eq (tgt := 93) C dX4_findTriangles_45 (by decide) (fun h3 => ?_) (fun h3 => ?_)
        · refine lv_iinc (v := J (((i + 1 : Nat) : Int))) (lv' := [(3, .int (J ((i + 1 : Nat) : Int))), (0, .ref qq), (1, .int (J ((a : Nat) : Int))), (2, .int (J ((b : Nat) : Int)))]) C.1 C.2.1 dX4_findTriangles_93 hl (k := 3) rfl (by rw [show Int32.ofInt 1 = J 1 from rfl, J_add]; exact congrArg J (by omega)) (by decide) rfl (fun ls hl => ?_)
          refine lv_goto (tgt := 26) C.1 C.2.1 dX4_findTriangles_96 (by decide) ?_
          exact ih (i + 1) A1 A2 A3 mn (by omega) (by omega) hA1 hA2 hA3 Qg ⟨hQg.1, hQg.2.trans (ft3_no (by omega) (by unfold ftP; rw [h3, Bool.false_and, Bool.and_false]))⟩ H locs hP hD hS ls (lv_sub hl [1, 2, 3, 0] rfl)
        · refine lv_aload_n C.1 C.2.1 dX4_findTriangles_48 rfl (lv_at hl 0 rfl) ?_
          refine jv_get C fw_X4_19 hK hP 0 rfl rfl dX4_findTriangles_49 ?_
          refine lv_iload_n C.1 C.2.1 dX4_findTriangles_52 rfl (lv_at hl 2 rfl) ?_
          refine jv_zald C hK hP 4 1 rfl rfl (b) (by omega) (by omega) (by decide) dX4_findTriangles_53 ?_
          refine jv_bif_eq (tgt := 93) C dX4_findTriangles_54 (by decide) (fun h4 => ?_) (fun h4 => ?_)
          · refine lv_iinc (v := J (((i + 1 : Nat) : Int))) (lv' := [(3, .int (J ((i + 1 : Nat) : Int))), (0, .ref qq), (1, .int (J ((a : Nat) : Int))), (2, .int (J ((b : Nat) : Int)))]) C.1 C.2.1 dX4_findTriangles_93 hl (k := 3) rfl (by rw [show Int32.ofInt 1 = J 1 from rfl, J_add]; exact congrArg J (by omega)) (by decide) rfl (fun ls hl => ?_)
            refine lv_goto (tgt := 26) C.1 C.2.1 dX4_findTriangles_96 (by decide) ?_
            exact ih (i + 1) A1 A2 A3 mn (by omega) (by omega) hA1 hA2 hA3 Qg ⟨hQg.1, hQg.2.trans (ft3_no (by omega) (by unfold ftP; rw [h4, Bool.false_and, Bool.and_false, Bool.and_false]))⟩ H locs hP hD hS ls (lv_sub hl [1, 2, 3, 0] rfl)
          · refine lv_aload_n C.1 C.2.1 dX4_findTriangles_57 rfl (lv_at hl 0 rfl) ?_
            refine jv_get C fw_X4_19 hK hP 0 rfl rfl dX4_findTriangles_58 ?_
            refine lv_iload_n C.1 C.2.1 dX4_findTriangles_61 rfl (lv_at hl 3 rfl) ?_
            refine jv_zald C hK hP 4 1 rfl rfl (i) (by omega) (by omega) (by decide) dX4_findTriangles_62 ?_
            refine jv_bif_eq (tgt := 93) C dX4_findTriangles_63 (by decide) (fun h5 => ?_) (fun h5 => ?_)
            · refine lv_iinc (v := J (((i + 1 : Nat) : Int))) (lv' := [(3, .int (J ((i + 1 : Nat) : Int))), (0, .ref qq), (1, .int (J ((a : Nat) : Int))), (2, .int (J ((b : Nat) : Int)))]) C.1 C.2.1 dX4_findTriangles_93 hl (k := 3) rfl (by rw [show Int32.ofInt 1 = J 1 from rfl, J_add]; exact congrArg J (by omega)) (by decide) rfl (fun ls hl => ?_)
              refine lv_goto (tgt := 26) C.1 C.2.1 dX4_findTriangles_96 (by decide) ?_
              exact ih (i + 1) A1 A2 A3 mn (by omega) (by omega) hA1 hA2 hA3 Qg ⟨hQg.1, hQg.2.trans (ft3_no (by omega) (by unfold ftP; rw [h5, Bool.false_and, Bool.and_false, Bool.and_false, Bool.and_false]))⟩ H locs hP hD hS ls (lv_sub hl [1, 2, 3, 0] rfl)
            · refine lv_aload_n C.1 C.2.1 dX4_findTriangles_66 rfl (lv_at hl 0 rfl) ?_
              refine lv_iload_n C.1 C.2.1 dX4_findTriangles_67 rfl (lv_at hl 1 rfl) ?_
              refine lv_iload_n C.1 C.2.1 dX4_findTriangles_68 rfl (lv_at hl 2 rfl) ?_
              refine lv_iload_n C.1 C.2.1 dX4_findTriangles_69 rfl (lv_at hl 3 rfl) ?_
              refine jv_rdV (ni := 3) (ci := 4) (q0 := 0) C [.int (J ((a : Nat) : Int)), .int (J ((b : Nat) : Int)), .int (J ((i : Nat) : Int))] [] (c_X4_turns (Px := Px) (Py := Py) (Mt := Mt) (pn := pn) (kn := kn) (fl := fl) (Hu := Hu) (hn := hn) (A1 := A1) (A2 := A2) (A3 := A3) (mn := mn) (hd := hd) (sd := sd) (B1 := B1) (B2 := B2) (B3 := B3) (hh := hh) (fp := fp) (Or := Or) (Ro := Ro) (Ne := Ne) (rn := rn) (Mr := Mr) hRI (a := a) (b := b) (k := i) (by omega) (by omega) (by omega)) gv_X4_95 (by decide +kernel) (by decide) hK (hP) rfl rfl rfl hl.1 (by simp [Value.category]) dX4_findTriangles_70 (by decide) ?_ rfl
              show W _ _ _ _ _ _ _ _ _ _ _ _ _ _ _ (F0 m 73 ls [.int (J (trn Px Py a b i))])
              have f6 := trn_R Px Py a b i
              refine jv_if_le (tgt := 93) C dX4_findTriangles_73 (by decide) (by omega) (fun h7 => ?_) (fun h7 => ?_)
              · refine lv_iinc (v := J (((i + 1 : Nat) : Int))) (lv' := [(3, .int (J ((i + 1 : Nat) : Int))), (0, .ref qq), (1, .int (J ((a : Nat) : Int))), (2, .int (J ((b : Nat) : Int)))]) C.1 C.2.1 dX4_findTriangles_93 hl (k := 3) rfl (by rw [show Int32.ofInt 1 = J 1 from rfl, J_add]; exact congrArg J (by omega)) (by decide) rfl (fun ls hl => ?_)
                refine lv_goto (tgt := 26) C.1 C.2.1 dX4_findTriangles_96 (by decide) ?_
                exact ih (i + 1) A1 A2 A3 mn (by omega) (by omega) hA1 hA2 hA3 Qg ⟨hQg.1, hQg.2.trans (ft3_no (by omega) (by unfold ftP; rw [decide_eq_false (p := 0 < trn Px Py a b i) (by omega), Bool.false_and, Bool.and_false, Bool.and_false, Bool.and_false, Bool.and_false]))⟩ H locs hP hD hS ls (lv_sub hl [1, 2, 3, 0] rfl)
              · refine lv_aload_n C.1 C.2.1 dX4_findTriangles_76 rfl (lv_at hl 0 rfl) ?_
                refine lv_iload_n C.1 C.2.1 dX4_findTriangles_77 rfl (lv_at hl 1 rfl) ?_
                refine lv_iload_n C.1 C.2.1 dX4_findTriangles_78 rfl (lv_at hl 2 rfl) ?_
                refine lv_iload_n C.1 C.2.1 dX4_findTriangles_79 rfl (lv_at hl 3 rfl) ?_
                refine jv_rdV (ni := 3) (ci := 4) (q0 := 0) C [.int (J ((a : Nat) : Int)), .int (J ((b : Nat) : Int)), .int (J ((i : Nat) : Int))] [] (c_X4_isDrawn (Px := Px) (Py := Py) (Mt := Mt) (pn := pn) (kn := kn) (fl := fl) (Hu := Hu) (hn := hn) (A1 := A1) (A2 := A2) (A3 := A3) (mn := mn) (hd := hd) (sd := sd) (B1 := B1) (B2 := B2) (B3 := B3) (hh := hh) (fp := fp) (Or := Or) (Ro := Ro) (Ne := Ne) (rn := rn) (Mr := Mr) hRI (a := a) (b := b) (k := i) (by omega) (by omega) (by omega)) gv_X4_139 (by decide +kernel) (by decide) hK (hP) rfl rfl rfl hl.1 (by simp [Value.category]) dX4_findTriangles_80 (by decide) ?_ rfl
                show W _ _ _ _ _ _ _ _ _ _ _ _ _ _ _ (F0 m 83 ls [.int (J (b2i (drn Px Py Mt pn a b i)))])
                refine jv_bif_eq (tgt := 93) C dX4_findTriangles_83 (by decide) (fun h8 => ?_) (fun h8 => ?_)
                · refine lv_iinc (v := J (((i + 1 : Nat) : Int))) (lv' := [(3, .int (J ((i + 1 : Nat) : Int))), (0, .ref qq), (1, .int (J ((a : Nat) : Int))), (2, .int (J ((b : Nat) : Int)))]) C.1 C.2.1 dX4_findTriangles_93 hl (k := 3) rfl (by rw [show Int32.ofInt 1 = J 1 from rfl, J_add]; exact congrArg J (by omega)) (by decide) rfl (fun ls hl => ?_)
                  refine lv_goto (tgt := 26) C.1 C.2.1 dX4_findTriangles_96 (by decide) ?_
                  exact ih (i + 1) A1 A2 A3 mn (by omega) (by omega) hA1 hA2 hA3 Qg ⟨hQg.1, hQg.2.trans (ft3_no (by omega) (by unfold ftP; rw [h8, Bool.and_false, Bool.and_false, Bool.and_false, Bool.and_false, Bool.and_false]))⟩ H locs hP hD hS ls (lv_sub hl [1, 2, 3, 0] rfl)
                · refine lv_aload_n C.1 C.2.1 dX4_findTriangles_86 rfl (lv_at hl 0 rfl) ?_
                  refine lv_iload_n C.1 C.2.1 dX4_findTriangles_87 rfl (lv_at hl 1 rfl) ?_
                  refine lv_iload_n C.1 C.2.1 dX4_findTriangles_88 rfl (lv_at hl 2 rfl) ?_
                  refine lv_iload_n C.1 C.2.1 dX4_findTriangles_89 rfl (lv_at hl 3 rfl) ?_
                  have hcp := ft3_le (X := Px) (Y := Py) (T := Mt) (pn := pn) (a := a) (b := b) pn (i + 1) (adA a b i (A1, A2, A3, mn)) (by omega)
                  have hfp : ftP Px Py Mt pn a b i = true := by unfold ftP; rw [decide_eq_true (by omega), h3, h4, h5, decide_eq_true (by omega), h8]; rfl
                  rw [ft3_in (by omega) hfp] at hQg
                  rw [← hQg.2] at hcp
                  have hcp : mn + 1 ≤ Qg.2.2.2 := hcp
                  refine jv_waV (ni := 3) (ci := 4) (q0 := 0) (wc := (wRS cI cZ qq r0 rx ry rt rh ra rb rc sa sb sc so sr sw ((Px, Py, Mt, pn), (kn, fl, Hu, hn, A1, A2, A3, mn), (hd, sd, B1, B2, B3, hh, fp), (Or, Ro, Ne, rn), Mr))) (wd := (wRS cI cZ qq r0 rx ry rt rh ra rb rc sa sb sc so sr sw (rAdd a b i ((Px, Py, Mt, pn), (kn, fl, Hu, hn, A1, A2, A3, mn), (hd, sd, B1, B2, B3, hh, fp), (Or, Ro, Ne, rn), Mr)))) C [.int (J ((a : Nat) : Int)), .int (J ((b : Nat) : Int)), .int (J ((i : Nat) : Int))] [] (c_X4_addTriangle (Px := Px) (Py := Py) (Mt := Mt) (pn := pn) (kn := kn) (fl := fl) (Hu := Hu) (hn := hn) (A1 := A1) (A2 := A2) (A3 := A3) (mn := mn) (hd := hd) (sd := sd) (B1 := B1) (B2 := B2) (B3 := B3) (hh := hh) (fp := fp) (Or := Or) (Ro := Ro) (Ne := Ne) (rn := rn) (Mr := Mr) (a := a) (b := b) (k := i) hRI (by omega) (by omega) (by omega) (by omega)) gv_X4_143 (by decide +kernel) (by decide) hK hP hD hS rfl rfl rfl rfl hl.1 (by simp) dX4_findTriangles_90 (by decide) (fun H locs hP hD hS => ?_) rfl
                  have hP : va_P D vwCl [(qq, .inr (4, [.ref r0, .ref rx, .ref ry, .ref rt, .int (J ((pn : Nat) : Int)), .int (J (b2i (kn))), .int (J (b2i (fl))), .ref rh, .ref ra, .ref rb, .ref rc, .int (J ((hn : Nat) : Int)), .int (J ((mn + 1 : Nat) : Int)), .int (J (b2i (hd))), .int (J (b2i (sd))), .ref sa, .ref sb, .ref sc, .int (J ((hh : Nat) : Int)), .int (J ((fp : Nat) : Int)), .ref so, .ref sr, .ref sw, .int (J ((rn : Nat) : Int))])), (r0, .inl (cI, 7, .inl (fun z9 => J ((Mr z9 : Nat) : Int)))), (rx, .inl (cI, 40, .inl (fun z9 => J (Px z9)))), (ry, .inl (cI, 40, .inl (fun z9 => J (Py z9)))), (rt, .inl (cZ, 40, .inl (fun z9 => J (b2i (Mt z9))))), (rh, .inl (cI, 41, .inl (fun z9 => J ((Hu z9 : Nat) : Int)))), (ra, .inl (cI, 120, .inl (fun z9 => J (((sn A1 mn a) z9 : Nat) : Int)))), (rb, .inl (cI, 120, .inl (fun z9 => J (((sn A2 mn b) z9 : Nat) : Int)))), (rc, .inl (cI, 120, .inl (fun z9 => J (((sn A3 mn i) z9 : Nat) : Int)))), (sa, .inl (cI, 120, .inl (fun z9 => J ((B1 z9 : Nat) : Int)))), (sb, .inl (cI, 120, .inl (fun z9 => J ((B2 z9 : Nat) : Int)))), (sc, .inl (cI, 120, .inl (fun z9 => J ((B3 z9 : Nat) : Int)))), (so, .inl (cI, 40, .inl (fun z9 => J ((Or z9 : Nat) : Int)))), (sr, .inl (cI, 80, .inl (fun z9 => J ((Ro z9 : Nat) : Int)))), (sw, .inl (cI, 80, .inl (fun z9 => J ((Ne z9 : Nat) : Int))))] H := hP
                  have hD : va_D _ [(qq, .inr (4, [.ref r0, .ref rx, .ref ry, .ref rt, .int (J ((pn : Nat) : Int)), .int (J (b2i (kn))), .int (J (b2i (fl))), .ref rh, .ref ra, .ref rb, .ref rc, .int (J ((hn : Nat) : Int)), .int (J ((mn + 1 : Nat) : Int)), .int (J (b2i (hd))), .int (J (b2i (sd))), .ref sa, .ref sb, .ref sc, .int (J ((hh : Nat) : Int)), .int (J ((fp : Nat) : Int)), .ref so, .ref sr, .ref sw, .int (J ((rn : Nat) : Int))])), (r0, .inl (cI, 7, .inl (fun z9 => J ((Mr z9 : Nat) : Int)))), (rx, .inl (cI, 40, .inl (fun z9 => J (Px z9)))), (ry, .inl (cI, 40, .inl (fun z9 => J (Py z9)))), (rt, .inl (cZ, 40, .inl (fun z9 => J (b2i (Mt z9))))), (rh, .inl (cI, 41, .inl (fun z9 => J ((Hu z9 : Nat) : Int)))), (ra, .inl (cI, 120, .inl (fun z9 => J (((sn A1 mn a) z9 : Nat) : Int)))), (rb, .inl (cI, 120, .inl (fun z9 => J (((sn A2 mn b) z9 : Nat) : Int)))), (rc, .inl (cI, 120, .inl (fun z9 => J (((sn A3 mn i) z9 : Nat) : Int)))), (sa, .inl (cI, 120, .inl (fun z9 => J ((B1 z9 : Nat) : Int)))), (sb, .inl (cI, 120, .inl (fun z9 => J ((B2 z9 : Nat) : Int)))), (sc, .inl (cI, 120, .inl (fun z9 => J ((B3 z9 : Nat) : Int)))), (so, .inl (cI, 40, .inl (fun z9 => J ((Or z9 : Nat) : Int)))), (sr, .inl (cI, 80, .inl (fun z9 => J ((Ro z9 : Nat) : Int)))), (sw, .inl (cI, 80, .inl (fun z9 => J ((Ne z9 : Nat) : Int))))] := hD
                  have hA1 := sn_lt hA1 mn (z := a) (by omega)
                  have hA2 := sn_lt hA2 mn (z := b) (by omega)
                  have hA3 := sn_lt hA3 mn (z := i) (by omega)
                  show W _ _ _ _ _ _ _ _ _ _ _ _ _ _ _ (F0 m 93 ls [])
                  refine lv_iinc (v := J (((i + 1 : Nat) : Int))) (lv' := [(3, .int (J ((i + 1 : Nat) : Int))), (0, .ref qq), (1, .int (J ((a : Nat) : Int))), (2, .int (J ((b : Nat) : Int)))]) C.1 C.2.1 dX4_findTriangles_93 hl (k := 3) rfl (by rw [show Int32.ofInt 1 = J 1 from rfl, J_add]; exact congrArg J (by omega)) (by decide) rfl (fun ls hl => ?_)
                  refine lv_goto (tgt := 26) C.1 C.2.1 dX4_findTriangles_96 (by decide) ?_
                  exact ih (i + 1) (sn A1 mn a) (sn A2 mn b) (sn A3 mn i) (mn + 1) (by omega) (by omega) hA1 hA2 hA3 Qg hQg H locs hP hD hS ls (lv_sub hl [1, 2, 3, 0] rfl)
end REF6
