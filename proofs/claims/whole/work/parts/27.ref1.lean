/-! the reference: its state, its cells, its reading methods -/
abbrev RS : Type := ((Nat → Int) × (Nat → Int) × (Nat → Bool) × Nat) × (Bool × Bool × (Nat → Nat) × Nat × (Nat → Nat) × (Nat → Nat) × (Nat → Nat) × Nat) × (Bool × Bool × (Nat → Nat) × (Nat → Nat) × (Nat → Nat) × Nat × Nat) × ((Nat → Nat) × (Nat → Nat) × (Nat → Nat) × Nat) × (Nat → Nat)
abbrev wRS (cI cZ : ClassId) (qq r0 rx ry rt rh ra rb rc sa sb sc so sr sw : Nat) (S : RS) : va_W := [(qq, .inr (4, [.ref r0, .ref rx, .ref ry, .ref rt, .int (J ((S.1.2.2.2 : Nat) : Int)), .int (J (b2i (S.2.1.1))), .int (J (b2i (S.2.1.2.1))), .ref rh, .ref ra, .ref rb, .ref rc, .int (J ((S.2.1.2.2.2.1 : Nat) : Int)), .int (J ((S.2.1.2.2.2.2.2.2.2 : Nat) : Int)), .int (J (b2i (S.2.2.1.1))), .int (J (b2i (S.2.2.1.2.1))), .ref sa, .ref sb, .ref sc, .int (J ((S.2.2.1.2.2.2.2.2.1 : Nat) : Int)), .int (J ((S.2.2.1.2.2.2.2.2.2 : Nat) : Int)), .ref so, .ref sr, .ref sw, .int (J ((S.2.2.2.1.2.2.2 : Nat) : Int))])), (r0, .inl (cI, 7, .inl (fun i => J ((S.2.2.2.2 i : Nat) : Int)))), (rx, .inl (cI, 40, .inl (fun i => J (S.1.1 i)))), (ry, .inl (cI, 40, .inl (fun i => J (S.1.2.1 i)))), (rt, .inl (cZ, 40, .inl (fun i => J (b2i (S.1.2.2.1 i))))), (rh, .inl (cI, 41, .inl (fun i => J ((S.2.1.2.2.1 i : Nat) : Int)))), (ra, .inl (cI, 120, .inl (fun i => J ((S.2.1.2.2.2.2.1 i : Nat) : Int)))), (rb, .inl (cI, 120, .inl (fun i => J ((S.2.1.2.2.2.2.2.1 i : Nat) : Int)))), (rc, .inl (cI, 120, .inl (fun i => J ((S.2.1.2.2.2.2.2.2.1 i : Nat) : Int)))), (sa, .inl (cI, 120, .inl (fun i => J ((S.2.2.1.2.2.1 i : Nat) : Int)))), (sb, .inl (cI, 120, .inl (fun i => J ((S.2.2.1.2.2.2.1 i : Nat) : Int)))), (sc, .inl (cI, 120, .inl (fun i => J ((S.2.2.1.2.2.2.2.1 i : Nat) : Int)))), (so, .inl (cI, 40, .inl (fun i => J ((S.2.2.2.1.1 i : Nat) : Int)))), (sr, .inl (cI, 80, .inl (fun i => J ((S.2.2.2.1.2.1 i : Nat) : Int)))), (sw, .inl (cI, 80, .inl (fun i => J ((S.2.2.2.1.2.2.1 i : Nat) : Int))))]
def RI (S : RS) : Prop := (∀ i, -10000 ≤ S.1.1 i ∧ S.1.1 i ≤ 10000) ∧ (∀ i, -10000 ≤ S.1.2.1 i ∧ S.1.2.1 i ≤ 10000) ∧ (S.1.2.2.2 ≤ 40) ∧ (∀ i, S.2.1.2.2.1 i < 40) ∧ (S.2.1.2.2.2.1 ≤ 41) ∧ (∀ i, S.2.1.2.2.2.2.1 i < 40) ∧ (∀ i, S.2.1.2.2.2.2.2.1 i < 40) ∧ (∀ i, S.2.1.2.2.2.2.2.2.1 i < 40) ∧ (S.2.1.2.2.2.2.2.2.2 ≤ 120) ∧ (∀ i, S.2.2.1.2.2.1 i < 40) ∧ (∀ i, S.2.2.1.2.2.2.1 i < 40) ∧ (∀ i, S.2.2.1.2.2.2.2.1 i < 40) ∧ (S.2.2.1.2.2.2.2.2.1 ≤ 120) ∧ (∀ i, S.2.2.2.1.1 i < 40) ∧ (∀ i, S.2.2.2.1.2.1 i < 40) ∧ (∀ i, S.2.2.2.1.2.2.1 i < 40) ∧ (S.2.2.2.1.2.2.2 ≤ 80)
theorem sgn_R (v : Int) : -1 ≤ sgn v ∧ sgn v ≤ 1 := by
  unfold sgn
  split
  · omega
  · split <;> omega
def trn (X Y : Nat → Int) (a b c : Nat) : Int := sgn (le3 X Y a b c)
def wth (X Y : Nat → Int) (a b c d : Nat) : Int := sgn (wsum X Y a b c d)
theorem trn_R (X Y : Nat → Int) (a b c : Nat) : -1 ≤ trn X Y a b c ∧ trn X Y a b c ≤ 1 := sgn_R _
theorem wth_R (X Y : Nat → Int) (a b c d : Nat) : -1 ≤ wth X Y a b c d ∧ wth X Y a b c d ≤ 1 := sgn_R _
def upp (X Y : Nat → Int) (p q : Nat) : Bool := decide (Y p < Y q) || (decide (Y q = Y p) && decide (X p < X q))
def bfr (X Y : Nat → Int) (p q r : Nat) : Bool := if upp X Y p q = upp X Y p r then (if trn X Y p q r = 0 then decide (sq X Y q (X p) (Y p) < sq X Y r (X p) (Y p)) else decide (0 < trn X Y p q r)) else upp X Y p q
theorem within_eq (ax ay bx by_ cx cy dx dy : Int) : ((ax - dx) * (ax - dx) + (ay - dy) * (ay - dy)) * ((bx - dx) * (cy - dy) - (cx - dx) * (by_ - dy)) - ((bx - dx) * (bx - dx) + (by_ - dy) * (by_ - dy)) * ((ax - dx) * (cy - dy) - (cx - dx) * (ay - dy)) + ((cx - dx) * (cx - dx) + (cy - dy) * (cy - dy)) * ((ax - dx) * (by_ - dy) - (bx - dx) * (ay - dy)) = ((ax - dx) * (ax - dx) + (ay - dy) * (ay - dy)) * ((cx - bx) * (dy - by_) - (cy - by_) * (dx - bx)) + ((bx - dx) * (bx - dx) + (by_ - dy) * (by_ - dy)) * ((ax - cx) * (dy - cy) - (ay - cy) * (dx - cx)) + ((cx - dx) * (cx - dx) + (cy - dy) * (cy - dy)) * ((bx - ax) * (dy - ay) - (by_ - ay) * (dx - ax)) := by grind
section REF1
variable {l : Launch} {D : va_G} {cI cZ : ClassId} {qq r0 rx ry rt rh ra rb rc sa sb sc so sr sw : Nat} {Px Py : Nat → Int} {Mt : Nat → Bool} {pn : Nat} {kn fl : Bool} {Hu : Nat → Nat} {hn : Nat} {A1 A2 A3 : Nat → Nat} {mn : Nat} {hd sd : Bool} {B1 B2 B3 : Nat → Nat} {hh fp : Nat} {Or Ro Ne : Nat → Nat} {rn : Nat} {Mr : Nat → Nat}
set_option maxRecDepth 20000 in
set_option maxHeartbeats 4000000 in
theorem c_X4_sign {q : Int}  (hq : R6 q) : cR l yX4_sign cX4_sign 2 (some .int) 0 0 D (tyz cI cZ) [.long (Lg (q))] [] (some (.int (J (sgn q)))) := by
  refine cR_of (owner := RX4) rfl (by decide) (Nat.le_of_ble_eq_true rfl) ?_
  intro p e s m args below meth c ls C hlk hr hK hP hl
  have hl : lv_has ls 2 [(0, .long (Lg (q)))] := hl
  refine lv_lload_n C.1 C.2.1 dX4_sign_0 rfl (lv_at hl 0 rfl) ?_
  refine jv_lconst (z := 0) C dX4_sign_1 rfl ?_
  refine jv_lcmp_le (tgt := 10) C dX4_sign_2 dX4_sign_3 (by decide) (by omega) (fun h1 => ?_) (fun h1 => ?_)
  · refine lv_lload_n C.1 C.2.1 dX4_sign_10 rfl (lv_at hl 0 rfl) ?_
    refine jv_lconst (z := 0) C dX4_sign_11 rfl ?_
    refine jv_lcmp_ge (tgt := 20) C dX4_sign_12 dX4_sign_13 (by decide) (by omega) (fun h2 => ?_) (fun h2 => ?_)
    · refine jv_iconst C dX4_sign_20 ?_
      exact jv_iret C hlk hr dX4_sign_21 (by grind [sgn])
    · refine jv_iconst C dX4_sign_16 ?_
      refine lv_goto (tgt := 21) C.1 C.2.1 dX4_sign_17 (by decide) ?_
      exact jv_iret C hlk hr dX4_sign_21 (by grind [sgn])
  · refine jv_iconst C dX4_sign_6 ?_
    refine lv_goto (tgt := 21) C.1 C.2.1 dX4_sign_7 (by decide) ?_
    exact jv_iret C hlk hr dX4_sign_21 (by grind [sgn])
set_option maxRecDepth 20000 in
set_option maxHeartbeats 4000000 in
theorem c_X4_turnOf {a1 a2 b1 b2 c1 c2 : Int}  (h1 : -10000 ≤ a1 ∧ a1 ≤ 10000) (h2 : -10000 ≤ a2 ∧ a2 ≤ 10000) (h3 : -10000 ≤ b1 ∧ b1 ≤ 10000) (h4 : -10000 ≤ b2 ∧ b2 ≤ 10000) (h5 : -10000 ≤ c1 ∧ c1 ≤ 10000) (h6 : -10000 ≤ c2 ∧ c2 ≤ 10000) : cR l yX4_turnOf cX4_turnOf 6 (some .int) 1 21 D (tyz cI cZ) [.int (J a1), .int (J a2), .int (J b1), .int (J b2), .int (J c1), .int (J c2)] [] (some (.int (J (sgn ((b1 - a1) * (c2 - a2) - (b2 - a2) * (c1 - a1)))))) := by
  refine cR_of (owner := RX4) rfl (by decide) (Nat.le_of_ble_eq_true rfl) ?_
  intro p e s m args below meth c ls C hlk hr hK hP hl
  have hl : lv_has ls 6 [(0, .int (J a1)), (1, .int (J a2)), (2, .int (J b1)), (3, .int (J b2)), (4, .int (J c1)), (5, .int (J c2))] := hl
  refine lv_iload_n C.1 C.2.1 dX4_turnOf_0 rfl (lv_at hl 2 rfl) ?_
  refine lv_iload_n C.1 C.2.1 dX4_turnOf_1 rfl (lv_at hl 0 rfl) ?_
  refine jv_isub (z := b1 - a1) C dX4_turnOf_2 (rfl) ?_
  refine jv_i2l C dX4_turnOf_3 (by omega) ?_
  refine lv_iload C.1 C.2.1 dX4_turnOf_4 (lv_at hl 5 rfl) ?_
  refine lv_iload_n C.1 C.2.1 dX4_turnOf_6 rfl (lv_at hl 1 rfl) ?_
  refine jv_isub (z := c2 - a2) C dX4_turnOf_7 (rfl) ?_
  refine jv_i2l C dX4_turnOf_8 (by omega) ?_
  refine jv_lmul (z := (b1 - a1) * (c2 - a2)) C dX4_turnOf_9 (rfl) ?_
  refine lv_iload_n C.1 C.2.1 dX4_turnOf_10 rfl (lv_at hl 3 rfl) ?_
  refine lv_iload_n C.1 C.2.1 dX4_turnOf_11 rfl (lv_at hl 1 rfl) ?_
  refine jv_isub (z := b2 - a2) C dX4_turnOf_12 (rfl) ?_
  refine jv_i2l C dX4_turnOf_13 (by omega) ?_
  refine lv_iload C.1 C.2.1 dX4_turnOf_14 (lv_at hl 4 rfl) ?_
  refine lv_iload_n C.1 C.2.1 dX4_turnOf_16 rfl (lv_at hl 0 rfl) ?_
  refine jv_isub (z := c1 - a1) C dX4_turnOf_17 (rfl) ?_
  refine jv_i2l C dX4_turnOf_18 (by omega) ?_
  refine jv_lmul (z := (b2 - a2) * (c1 - a1)) C dX4_turnOf_19 (rfl) ?_
  refine jv_lsub (z := ((b1 - a1) * (c2 - a2)) - ((b2 - a2) * (c1 - a1))) C dX4_turnOf_20 (rfl) ?_
  have m1 := mul_bd (a := b1 - a1) (b := c2 - a2) (A := 20000) (B := 20000) (by omega) (by omega)
  have m2 := mul_bd (a := b2 - a2) (b := c1 - a1) (A := 20000) (B := 20000) (by omega) (by omega)
  refine jv_rdS (ni := 1) C [.long (Lg (((b1 - a1) * (c2 - a2)) - ((b2 - a2) * (c1 - a1))))] [] (c_X4_sign (q := ((b1 - a1) * (c2 - a2)) - ((b2 - a2) * (c1 - a1))) (by omega)) gs_X4_83 (by decide +kernel) (by decide) hK (hP) rfl hl.1 (by simp [Value.category]) dX4_turnOf_21 (by decide) ?_ rfl
  show W _ _ _ _ _ _ _ _ _ _ _ _ _ _ _ (F0 m 24 ls [.int (J (sgn (((b1 - a1) * (c2 - a2)) - ((b2 - a2) * (c1 - a1)))))])
  exact jv_iret C hlk hr dX4_turnOf_24 (rfl)
set_option maxRecDepth 20000 in
set_option maxHeartbeats 4000000 in
theorem c_X4_turns {a b k : Nat} (hRI : RI ((Px, Py, Mt, pn), (kn, fl, Hu, hn, A1, A2, A3, mn), (hd, sd, B1, B2, B3, hh, fp), (Or, Ro, Ne, rn), Mr)) (ha : a < 40) (hb : b < 40) (hk : k < 40) : cR l yX4_turns cX4_turns 4 (some .int) 2 46 D (tyz cI cZ) [.ref qq, .int (J ((a : Nat) : Int)), .int (J ((b : Nat) : Int)), .int (J ((k : Nat) : Int))] (wRS cI cZ qq r0 rx ry rt rh ra rb rc sa sb sc so sr sw ((Px, Py, Mt, pn), (kn, fl, Hu, hn, A1, A2, A3, mn), (hd, sd, B1, B2, B3, hh, fp), (Or, Ro, Ne, rn), Mr)) (some (.int (J (trn Px Py a b k)))) := by
  refine cR_of (owner := RX4) rfl (by decide) (Nat.le_of_ble_eq_true rfl) ?_
  intro p e s m args below meth c ls C hlk hr hK hP hl
  have hl : lv_has ls 4 [(0, .ref qq), (1, .int (J ((a : Nat) : Int))), (2, .int (J ((b : Nat) : Int))), (3, .int (J ((k : Nat) : Int)))] := hl
  have hP : va_P D vwCl [(qq, .inr (4, [.ref r0, .ref rx, .ref ry, .ref rt, .int (J ((pn : Nat) : Int)), .int (J (b2i (kn))), .int (J (b2i (fl))), .ref rh, .ref ra, .ref rb, .ref rc, .int (J ((hn : Nat) : Int)), .int (J ((mn : Nat) : Int)), .int (J (b2i (hd))), .int (J (b2i (sd))), .ref sa, .ref sb, .ref sc, .int (J ((hh : Nat) : Int)), .int (J ((fp : Nat) : Int)), .ref so, .ref sr, .ref sw, .int (J ((rn : Nat) : Int))])), (r0, .inl (cI, 7, .inl (fun z9 => J ((Mr z9 : Nat) : Int)))), (rx, .inl (cI, 40, .inl (fun z9 => J (Px z9)))), (ry, .inl (cI, 40, .inl (fun z9 => J (Py z9)))), (rt, .inl (cZ, 40, .inl (fun z9 => J (b2i (Mt z9))))), (rh, .inl (cI, 41, .inl (fun z9 => J ((Hu z9 : Nat) : Int)))), (ra, .inl (cI, 120, .inl (fun z9 => J ((A1 z9 : Nat) : Int)))), (rb, .inl (cI, 120, .inl (fun z9 => J ((A2 z9 : Nat) : Int)))), (rc, .inl (cI, 120, .inl (fun z9 => J ((A3 z9 : Nat) : Int)))), (sa, .inl (cI, 120, .inl (fun z9 => J ((B1 z9 : Nat) : Int)))), (sb, .inl (cI, 120, .inl (fun z9 => J ((B2 z9 : Nat) : Int)))), (sc, .inl (cI, 120, .inl (fun z9 => J ((B3 z9 : Nat) : Int)))), (so, .inl (cI, 40, .inl (fun z9 => J ((Or z9 : Nat) : Int)))), (sr, .inl (cI, 80, .inl (fun z9 => J ((Ro z9 : Nat) : Int)))), (sw, .inl (cI, 80, .inl (fun z9 => J ((Ne z9 : Nat) : Int))))] s.heap := hP
  have hX : ∀ i, -10000 ≤ Px i ∧ Px i ≤ 10000 := hRI.1
  have hY : ∀ i, -10000 ≤ Py i ∧ Py i ≤ 10000 := hRI.2.1
  have hpn : pn ≤ 40 := hRI.2.2.1
  have hHu : ∀ i, Hu i < 40 := hRI.2.2.2.1
  have hhn : hn ≤ 41 := hRI.2.2.2.2.1
  have hA1 : ∀ i, A1 i < 40 := hRI.2.2.2.2.2.1
  have hA2 : ∀ i, A2 i < 40 := hRI.2.2.2.2.2.2.1
  have hA3 : ∀ i, A3 i < 40 := hRI.2.2.2.2.2.2.2.1
  have hmn : mn ≤ 120 := hRI.2.2.2.2.2.2.2.2.1
  have hB1 : ∀ i, B1 i < 40 := hRI.2.2.2.2.2.2.2.2.2.1
  have hB2 : ∀ i, B2 i < 40 := hRI.2.2.2.2.2.2.2.2.2.2.1
  have hB3 : ∀ i, B3 i < 40 := hRI.2.2.2.2.2.2.2.2.2.2.2.1
  have hhh : hh ≤ 120 := hRI.2.2.2.2.2.2.2.2.2.2.2.2.1
  have hOr : ∀ i, Or i < 40 := hRI.2.2.2.2.2.2.2.2.2.2.2.2.2.1
  have hRo : ∀ i, Ro i < 40 := hRI.2.2.2.2.2.2.2.2.2.2.2.2.2.2.1
  have hNe : ∀ i, Ne i < 40 := hRI.2.2.2.2.2.2.2.2.2.2.2.2.2.2.2.1
  have hrn : rn ≤ 80 := hRI.2.2.2.2.2.2.2.2.2.2.2.2.2.2.2.2
  refine lv_aload_n C.1 C.2.1 dX4_turns_0 rfl (lv_at hl 0 rfl) ?_
  refine jv_get C fw_X4_13 hK hP 0 rfl rfl dX4_turns_1 ?_
  refine lv_iload_n C.1 C.2.1 dX4_turns_4 rfl (lv_at hl 1 rfl) ?_
  refine jv_iald C hK hP 2 0 rfl rfl (a) (by omega) (by omega) (by decide) dX4_turns_5 ?_
  have f1 := hX a
  refine lv_aload_n C.1 C.2.1 dX4_turns_6 rfl (lv_at hl 0 rfl) ?_
  refine jv_get C fw_X4_16 hK hP 0 rfl rfl dX4_turns_7 ?_
  refine lv_iload_n C.1 C.2.1 dX4_turns_10 rfl (lv_at hl 1 rfl) ?_
  refine jv_iald C hK hP 3 0 rfl rfl (a) (by omega) (by omega) (by decide) dX4_turns_11 ?_
  have f2 := hY a
  refine lv_aload_n C.1 C.2.1 dX4_turns_12 rfl (lv_at hl 0 rfl) ?_
  refine jv_get C fw_X4_13 hK hP 0 rfl rfl dX4_turns_13 ?_
  refine lv_iload_n C.1 C.2.1 dX4_turns_16 rfl (lv_at hl 2 rfl) ?_
  refine jv_iald C hK hP 2 0 rfl rfl (b) (by omega) (by omega) (by decide) dX4_turns_17 ?_
  have f3 := hX b
  refine lv_aload_n C.1 C.2.1 dX4_turns_18 rfl (lv_at hl 0 rfl) ?_
  refine jv_get C fw_X4_16 hK hP 0 rfl rfl dX4_turns_19 ?_
  refine lv_iload_n C.1 C.2.1 dX4_turns_22 rfl (lv_at hl 2 rfl) ?_
  refine jv_iald C hK hP 3 0 rfl rfl (b) (by omega) (by omega) (by decide) dX4_turns_23 ?_
  have f4 := hY b
  refine lv_aload_n C.1 C.2.1 dX4_turns_24 rfl (lv_at hl 0 rfl) ?_
  refine jv_get C fw_X4_13 hK hP 0 rfl rfl dX4_turns_25 ?_
  refine lv_iload_n C.1 C.2.1 dX4_turns_28 rfl (lv_at hl 3 rfl) ?_
  refine jv_iald C hK hP 2 0 rfl rfl (k) (by omega) (by omega) (by decide) dX4_turns_29 ?_
  have f5 := hX k
  refine lv_aload_n C.1 C.2.1 dX4_turns_30 rfl (lv_at hl 0 rfl) ?_
  refine jv_get C fw_X4_16 hK hP 0 rfl rfl dX4_turns_31 ?_
  refine lv_iload_n C.1 C.2.1 dX4_turns_34 rfl (lv_at hl 3 rfl) ?_
  refine jv_iald C hK hP 3 0 rfl rfl (k) (by omega) (by omega) (by decide) dX4_turns_35 ?_
  have f6 := hY k
  refine jv_rdS (ni := 6) C [.int (J (Px a)), .int (J (Py a)), .int (J (Px b)), .int (J (Py b)), .int (J (Px k)), .int (J (Py k))] [] (c_X4_turnOf (a1 := Px a) (a2 := Py a) (b1 := Px b) (b2 := Py b) (c1 := Px k) (c2 := Py k) (by omega) (by omega) (by omega) (by omega) (by omega) (by omega)) gs_X4_87 (by decide +kernel) (by decide) hK (hP.sub (ws' := []) [] rfl) rfl hl.1 (by simp [Value.category]) dX4_turns_36 (by decide) ?_ rfl
  show W _ _ _ _ _ _ _ _ _ _ _ _ _ _ _ (F0 m 39 ls [.int (J (sgn ((Px b - Px a) * (Py k - Py a) - (Py b - Py a) * (Px k - Px a))))])
  exact jv_iret C hlk hr dX4_turns_39 (rfl)
set_option maxRecDepth 20000 in
set_option maxHeartbeats 4000000 in
theorem c_X4_within {a b k d : Nat} (hRI : RI ((Px, Py, Mt, pn), (kn, fl, Hu, hn, A1, A2, A3, mn), (hd, sd, B1, B2, B3, hh, fp), (Or, Ro, Ne, rn), Mr)) (ha : a < 40) (hb : b < 40) (hk : k < 40) (hd4 : d < 40) : cR l yX4_within cX4_within 17 (some .int) 1 21 D (tyz cI cZ) [.ref qq, .int (J ((a : Nat) : Int)), .int (J ((b : Nat) : Int)), .int (J ((k : Nat) : Int)), .int (J ((d : Nat) : Int))] (wRS cI cZ qq r0 rx ry rt rh ra rb rc sa sb sc so sr sw ((Px, Py, Mt, pn), (kn, fl, Hu, hn, A1, A2, A3, mn), (hd, sd, B1, B2, B3, hh, fp), (Or, Ro, Ne, rn), Mr)) (some (.int (J (wth Px Py a b k d)))) := by
  refine cR_of (owner := RX4) rfl (by decide) (Nat.le_of_ble_eq_true rfl) ?_
  intro p e s m args below meth c ls C hlk hr hK hP hl
  have hl : lv_has ls 17 [(0, .ref qq), (1, .int (J ((a : Nat) : Int))), (2, .int (J ((b : Nat) : Int))), (3, .int (J ((k : Nat) : Int))), (4, .int (J ((d : Nat) : Int)))] := hl
  have hP : va_P D vwCl [(qq, .inr (4, [.ref r0, .ref rx, .ref ry, .ref rt, .int (J ((pn : Nat) : Int)), .int (J (b2i (kn))), .int (J (b2i (fl))), .ref rh, .ref ra, .ref rb, .ref rc, .int (J ((hn : Nat) : Int)), .int (J ((mn : Nat) : Int)), .int (J (b2i (hd))), .int (J (b2i (sd))), .ref sa, .ref sb, .ref sc, .int (J ((hh : Nat) : Int)), .int (J ((fp : Nat) : Int)), .ref so, .ref sr, .ref sw, .int (J ((rn : Nat) : Int))])), (r0, .inl (cI, 7, .inl (fun z9 => J ((Mr z9 : Nat) : Int)))), (rx, .inl (cI, 40, .inl (fun z9 => J (Px z9)))), (ry, .inl (cI, 40, .inl (fun z9 => J (Py z9)))), (rt, .inl (cZ, 40, .inl (fun z9 => J (b2i (Mt z9))))), (rh, .inl (cI, 41, .inl (fun z9 => J ((Hu z9 : Nat) : Int)))), (ra, .inl (cI, 120, .inl (fun z9 => J ((A1 z9 : Nat) : Int)))), (rb, .inl (cI, 120, .inl (fun z9 => J ((A2 z9 : Nat) : Int)))), (rc, .inl (cI, 120, .inl (fun z9 => J ((A3 z9 : Nat) : Int)))), (sa, .inl (cI, 120, .inl (fun z9 => J ((B1 z9 : Nat) : Int)))), (sb, .inl (cI, 120, .inl (fun z9 => J ((B2 z9 : Nat) : Int)))), (sc, .inl (cI, 120, .inl (fun z9 => J ((B3 z9 : Nat) : Int)))), (so, .inl (cI, 40, .inl (fun z9 => J ((Or z9 : Nat) : Int)))), (sr, .inl (cI, 80, .inl (fun z9 => J ((Ro z9 : Nat) : Int)))), (sw, .inl (cI, 80, .inl (fun z9 => J ((Ne z9 : Nat) : Int))))] s.heap := hP
  have hX : ∀ i, -10000 ≤ Px i ∧ Px i ≤ 10000 := hRI.1
  have hY : ∀ i, -10000 ≤ Py i ∧ Py i ≤ 10000 := hRI.2.1
  have hpn : pn ≤ 40 := hRI.2.2.1
  have hHu : ∀ i, Hu i < 40 := hRI.2.2.2.1
  have hhn : hn ≤ 41 := hRI.2.2.2.2.1
  have hA1 : ∀ i, A1 i < 40 := hRI.2.2.2.2.2.1
  have hA2 : ∀ i, A2 i < 40 := hRI.2.2.2.2.2.2.1
  have hA3 : ∀ i, A3 i < 40 := hRI.2.2.2.2.2.2.2.1
  have hmn : mn ≤ 120 := hRI.2.2.2.2.2.2.2.2.1
  have hB1 : ∀ i, B1 i < 40 := hRI.2.2.2.2.2.2.2.2.2.1
  have hB2 : ∀ i, B2 i < 40 := hRI.2.2.2.2.2.2.2.2.2.2.1
  have hB3 : ∀ i, B3 i < 40 := hRI.2.2.2.2.2.2.2.2.2.2.2.1
  have hhh : hh ≤ 120 := hRI.2.2.2.2.2.2.2.2.2.2.2.2.1
  have hOr : ∀ i, Or i < 40 := hRI.2.2.2.2.2.2.2.2.2.2.2.2.2.1
  have hRo : ∀ i, Ro i < 40 := hRI.2.2.2.2.2.2.2.2.2.2.2.2.2.2.1
  have hNe : ∀ i, Ne i < 40 := hRI.2.2.2.2.2.2.2.2.2.2.2.2.2.2.2.1
  have hrn : rn ≤ 80 := hRI.2.2.2.2.2.2.2.2.2.2.2.2.2.2.2.2
  refine lv_aload_n C.1 C.2.1 dX4_within_0 rfl (lv_at hl 0 rfl) ?_
  refine jv_get C fw_X4_13 hK hP 0 rfl rfl dX4_within_1 ?_
  refine lv_iload_n C.1 C.2.1 dX4_within_4 rfl (lv_at hl 1 rfl) ?_
  refine jv_iald C hK hP 2 0 rfl rfl (a) (by omega) (by omega) (by decide) dX4_within_5 ?_
  have f1 := hX a
  refine lv_aload_n C.1 C.2.1 dX4_within_6 rfl (lv_at hl 0 rfl) ?_
  refine jv_get C fw_X4_13 hK hP 0 rfl rfl dX4_within_7 ?_
  refine lv_iload C.1 C.2.1 dX4_within_10 (lv_at hl 4 rfl) ?_
  refine jv_iald C hK hP 2 0 rfl rfl (d) (by omega) (by omega) (by decide) dX4_within_12 ?_
  have f2 := hX d
  refine jv_isub (z := (Px a) - (Px d)) C dX4_within_13 (rfl) ?_
  refine jv_i2l C dX4_within_14 (by omega) ?_
  refine lv_lstore (lv' := [(5, .long (Lg ((Px a) - (Px d)))), (0, .ref qq), (1, .int (J ((a : Nat) : Int))), (2, .int (J ((b : Nat) : Int))), (3, .int (J ((k : Nat) : Int))), (4, .int (J ((d : Nat) : Int)))]) C.1 C.2.1 dX4_within_15 hl (by decide) rfl (fun ls hl => ?_)
  refine lv_aload_n C.1 C.2.1 dX4_within_17 rfl (lv_at hl 1 rfl) ?_
  refine jv_get C fw_X4_16 hK hP 0 rfl rfl dX4_within_18 ?_
  refine lv_iload_n C.1 C.2.1 dX4_within_21 rfl (lv_at hl 2 rfl) ?_
  refine jv_iald C hK hP 3 0 rfl rfl (a) (by omega) (by omega) (by decide) dX4_within_22 ?_
  have f3 := hY a
  refine lv_aload_n C.1 C.2.1 dX4_within_23 rfl (lv_at hl 1 rfl) ?_
  refine jv_get C fw_X4_16 hK hP 0 rfl rfl dX4_within_24 ?_
  refine lv_iload C.1 C.2.1 dX4_within_27 (lv_at hl 5 rfl) ?_
  refine jv_iald C hK hP 3 0 rfl rfl (d) (by omega) (by omega) (by decide) dX4_within_29 ?_
  have f4 := hY d
  refine jv_isub (z := (Py a) - (Py d)) C dX4_within_30 (rfl) ?_
  refine jv_i2l C dX4_within_31 (by omega) ?_
  refine lv_lstore (lv' := [(7, .long (Lg ((Py a) - (Py d)))), (5, .long (Lg ((Px a) - (Px d)))), (0, .ref qq), (1, .int (J ((a : Nat) : Int))), (2, .int (J ((b : Nat) : Int))), (3, .int (J ((k : Nat) : Int))), (4, .int (J ((d : Nat) : Int)))]) C.1 C.2.1 dX4_within_32 hl (by decide) rfl (fun ls hl => ?_)
  refine lv_aload_n C.1 C.2.1 dX4_within_34 rfl (lv_at hl 2 rfl) ?_
  refine jv_get C fw_X4_13 hK hP 0 rfl rfl dX4_within_35 ?_
  refine lv_iload_n C.1 C.2.1 dX4_within_38 rfl (lv_at hl 4 rfl) ?_
  refine jv_iald C hK hP 2 0 rfl rfl (b) (by omega) (by omega) (by decide) dX4_within_39 ?_
  have f5 := hX b
  refine lv_aload_n C.1 C.2.1 dX4_within_40 rfl (lv_at hl 2 rfl) ?_
  refine jv_get C fw_X4_13 hK hP 0 rfl rfl dX4_within_41 ?_
  refine lv_iload C.1 C.2.1 dX4_within_44 (lv_at hl 6 rfl) ?_
  refine jv_iald C hK hP 2 0 rfl rfl (d) (by omega) (by omega) (by decide) dX4_within_46 ?_
  have f6 := hX d
  refine jv_isub (z := (Px b) - (Px d)) C dX4_within_47 (rfl) ?_
  refine jv_i2l C dX4_within_48 (by omega) ?_
  refine lv_lstore (lv' := [(9, .long (Lg ((Px b) - (Px d)))), (7, .long (Lg ((Py a) - (Py d)))), (5, .long (Lg ((Px a) - (Px d)))), (0, .ref qq), (1, .int (J ((a : Nat) : Int))), (2, .int (J ((b : Nat) : Int))), (3, .int (J ((k : Nat) : Int))), (4, .int (J ((d : Nat) : Int)))]) C.1 C.2.1 dX4_within_49 hl (by decide) rfl (fun ls hl => ?_)
  refine lv_aload_n C.1 C.2.1 dX4_within_51 rfl (lv_at hl 3 rfl) ?_
  refine jv_get C fw_X4_16 hK hP 0 rfl rfl dX4_within_52 ?_
  refine lv_iload_n C.1 C.2.1 dX4_within_55 rfl (lv_at hl 5 rfl) ?_
  refine jv_iald C hK hP 3 0 rfl rfl (b) (by omega) (by omega) (by decide) dX4_within_56 ?_
  have f7 := hY b
  refine lv_aload_n C.1 C.2.1 dX4_within_57 rfl (lv_at hl 3 rfl) ?_
  refine jv_get C fw_X4_16 hK hP 0 rfl rfl dX4_within_58 ?_
  refine lv_iload C.1 C.2.1 dX4_within_61 (lv_at hl 7 rfl) ?_
  refine jv_iald C hK hP 3 0 rfl rfl (d) (by omega) (by omega) (by decide) dX4_within_63 ?_
  have f8 := hY d
  refine jv_isub (z := (Py b) - (Py d)) C dX4_within_64 (rfl) ?_
  refine jv_i2l C dX4_within_65 (by omega) ?_
  refine lv_lstore (lv' := [(11, .long (Lg ((Py b) - (Py d)))), (9, .long (Lg ((Px b) - (Px d)))), (7, .long (Lg ((Py a) - (Py d)))), (5, .long (Lg ((Px a) - (Px d)))), (0, .ref qq), (1, .int (J ((a : Nat) : Int))), (2, .int (J ((b : Nat) : Int))), (3, .int (J ((k : Nat) : Int))), (4, .int (J ((d : Nat) : Int)))]) C.1 C.2.1 dX4_within_66 hl (by decide) rfl (fun ls hl => ?_)
  refine lv_aload_n C.1 C.2.1 dX4_within_68 rfl (lv_at hl 4 rfl) ?_
  refine jv_get C fw_X4_13 hK hP 0 rfl rfl dX4_within_69 ?_
  refine lv_iload_n C.1 C.2.1 dX4_within_72 rfl (lv_at hl 7 rfl) ?_
  refine jv_iald C hK hP 2 0 rfl rfl (k) (by omega) (by omega) (by decide) dX4_within_73 ?_
  have f9 := hX k
  refine lv_aload_n C.1 C.2.1 dX4_within_74 rfl (lv_at hl 4 rfl) ?_
  refine jv_get C fw_X4_13 hK hP 0 rfl rfl dX4_within_75 ?_
  refine lv_iload C.1 C.2.1 dX4_within_78 (lv_at hl 8 rfl) ?_
  refine jv_iald C hK hP 2 0 rfl rfl (d) (by omega) (by omega) (by decide) dX4_within_80 ?_
  have f10 := hX d
  refine jv_isub (z := (Px k) - (Px d)) C dX4_within_81 (rfl) ?_
  refine jv_i2l C dX4_within_82 (by omega) ?_
  refine lv_lstore (lv' := [(13, .long (Lg ((Px k) - (Px d)))), (11, .long (Lg ((Py b) - (Py d)))), (9, .long (Lg ((Px b) - (Px d)))), (7, .long (Lg ((Py a) - (Py d)))), (5, .long (Lg ((Px a) - (Px d)))), (0, .ref qq), (1, .int (J ((a : Nat) : Int))), (2, .int (J ((b : Nat) : Int))), (3, .int (J ((k : Nat) : Int))), (4, .int (J ((d : Nat) : Int)))]) C.1 C.2.1 dX4_within_83 hl (by decide) rfl (fun ls hl => ?_)
  refine lv_aload_n C.1 C.2.1 dX4_within_85 rfl (lv_at hl 5 rfl) ?_
  refine jv_get C fw_X4_16 hK hP 0 rfl rfl dX4_within_86 ?_
  refine lv_iload_n C.1 C.2.1 dX4_within_89 rfl (lv_at hl 8 rfl) ?_
  refine jv_iald C hK hP 3 0 rfl rfl (k) (by omega) (by omega) (by decide) dX4_within_90 ?_
  have f11 := hY k
  refine lv_aload_n C.1 C.2.1 dX4_within_91 rfl (lv_at hl 5 rfl) ?_
  refine jv_get C fw_X4_16 hK hP 0 rfl rfl dX4_within_92 ?_
  refine lv_iload C.1 C.2.1 dX4_within_95 (lv_at hl 9 rfl) ?_
  refine jv_iald C hK hP 3 0 rfl rfl (d) (by omega) (by omega) (by decide) dX4_within_97 ?_
  have f12 := hY d
  refine jv_isub (z := (Py k) - (Py d)) C dX4_within_98 (rfl) ?_
  refine jv_i2l C dX4_within_99 (by omega) ?_
  refine lv_lstore (lv' := [(15, .long (Lg ((Py k) - (Py d)))), (13, .long (Lg ((Px k) - (Px d)))), (11, .long (Lg ((Py b) - (Py d)))), (9, .long (Lg ((Px b) - (Px d)))), (7, .long (Lg ((Py a) - (Py d)))), (5, .long (Lg ((Px a) - (Px d)))), (0, .ref qq), (1, .int (J ((a : Nat) : Int))), (2, .int (J ((b : Nat) : Int))), (3, .int (J ((k : Nat) : Int))), (4, .int (J ((d : Nat) : Int)))]) C.1 C.2.1 dX4_within_100 hl (by decide) rfl (fun ls hl => ?_)
  refine lv_lload C.1 C.2.1 dX4_within_102 (lv_at hl 5 rfl) ?_
  refine lv_lload C.1 C.2.1 dX4_within_104 (lv_at hl 5 rfl) ?_
  refine jv_lmul (z := ((Px a) - (Px d)) * ((Px a) - (Px d))) C dX4_within_106 (rfl) ?_
  refine lv_lload C.1 C.2.1 dX4_within_107 (lv_at hl 4 rfl) ?_
  refine lv_lload C.1 C.2.1 dX4_within_109 (lv_at hl 4 rfl) ?_
  refine jv_lmul (z := ((Py a) - (Py d)) * ((Py a) - (Py d))) C dX4_within_111 (rfl) ?_
  refine jv_ladd (z := (((Px a) - (Px d)) * ((Px a) - (Px d))) + (((Py a) - (Py d)) * ((Py a) - (Py d)))) C dX4_within_112 (rfl) ?_
  refine lv_lload C.1 C.2.1 dX4_within_113 (lv_at hl 3 rfl) ?_
  refine lv_lload C.1 C.2.1 dX4_within_115 (lv_at hl 0 rfl) ?_
  refine jv_lmul (z := ((Px b) - (Px d)) * ((Py k) - (Py d))) C dX4_within_117 (rfl) ?_
  refine lv_lload C.1 C.2.1 dX4_within_118 (lv_at hl 1 rfl) ?_
  refine lv_lload C.1 C.2.1 dX4_within_120 (lv_at hl 2 rfl) ?_
  refine jv_lmul (z := ((Px k) - (Px d)) * ((Py b) - (Py d))) C dX4_within_122 (rfl) ?_
  refine jv_lsub (z := (((Px b) - (Px d)) * ((Py k) - (Py d))) - (((Px k) - (Px d)) * ((Py b) - (Py d)))) C dX4_within_123 (rfl) ?_
  refine jv_lmul (z := ((((Px a) - (Px d)) * ((Px a) - (Px d))) + (((Py a) - (Py d)) * ((Py a) - (Py d)))) * ((((Px b) - (Px d)) * ((Py k) - (Py d))) - (((Px k) - (Px d)) * ((Py b) - (Py d))))) C dX4_within_124 (rfl) ?_
  refine lv_lload C.1 C.2.1 dX4_within_125 (lv_at hl 3 rfl) ?_
  refine lv_lload C.1 C.2.1 dX4_within_127 (lv_at hl 3 rfl) ?_
  refine jv_lmul (z := ((Px b) - (Px d)) * ((Px b) - (Px d))) C dX4_within_129 (rfl) ?_
  refine lv_lload C.1 C.2.1 dX4_within_130 (lv_at hl 2 rfl) ?_
  refine lv_lload C.1 C.2.1 dX4_within_132 (lv_at hl 2 rfl) ?_
  refine jv_lmul (z := ((Py b) - (Py d)) * ((Py b) - (Py d))) C dX4_within_134 (rfl) ?_
  refine jv_ladd (z := (((Px b) - (Px d)) * ((Px b) - (Px d))) + (((Py b) - (Py d)) * ((Py b) - (Py d)))) C dX4_within_135 (rfl) ?_
  refine lv_lload C.1 C.2.1 dX4_within_136 (lv_at hl 5 rfl) ?_
  refine lv_lload C.1 C.2.1 dX4_within_138 (lv_at hl 0 rfl) ?_
  refine jv_lmul (z := ((Px a) - (Px d)) * ((Py k) - (Py d))) C dX4_within_140 (rfl) ?_
  refine lv_lload C.1 C.2.1 dX4_within_141 (lv_at hl 1 rfl) ?_
  refine lv_lload C.1 C.2.1 dX4_within_143 (lv_at hl 4 rfl) ?_
  refine jv_lmul (z := ((Px k) - (Px d)) * ((Py a) - (Py d))) C dX4_within_145 (rfl) ?_
  refine jv_lsub (z := (((Px a) - (Px d)) * ((Py k) - (Py d))) - (((Px k) - (Px d)) * ((Py a) - (Py d)))) C dX4_within_146 (rfl) ?_
  refine jv_lmul (z := ((((Px b) - (Px d)) * ((Px b) - (Px d))) + (((Py b) - (Py d)) * ((Py b) - (Py d)))) * ((((Px a) - (Px d)) * ((Py k) - (Py d))) - (((Px k) - (Px d)) * ((Py a) - (Py d))))) C dX4_within_147 (rfl) ?_
  refine jv_lsub (z := (((((Px a) - (Px d)) * ((Px a) - (Px d))) + (((Py a) - (Py d)) * ((Py a) - (Py d)))) * ((((Px b) - (Px d)) * ((Py k) - (Py d))) - (((Px k) - (Px d)) * ((Py b) - (Py d))))) - (((((Px b) - (Px d)) * ((Px b) - (Px d))) + (((Py b) - (Py d)) * ((Py b) - (Py d)))) * ((((Px a) - (Px d)) * ((Py k) - (Py d))) - (((Px k) - (Px d)) * ((Py a) - (Py d)))))) C dX4_within_148 (rfl) ?_
  refine lv_lload C.1 C.2.1 dX4_within_149 (lv_at hl 1 rfl) ?_
  refine lv_lload C.1 C.2.1 dX4_within_151 (lv_at hl 1 rfl) ?_
  refine jv_lmul (z := ((Px k) - (Px d)) * ((Px k) - (Px d))) C dX4_within_153 (rfl) ?_
  refine lv_lload C.1 C.2.1 dX4_within_154 (lv_at hl 0 rfl) ?_
  refine lv_lload C.1 C.2.1 dX4_within_156 (lv_at hl 0 rfl) ?_
  refine jv_lmul (z := ((Py k) - (Py d)) * ((Py k) - (Py d))) C dX4_within_158 (rfl) ?_
  refine jv_ladd (z := (((Px k) - (Px d)) * ((Px k) - (Px d))) + (((Py k) - (Py d)) * ((Py k) - (Py d)))) C dX4_within_159 (rfl) ?_
  refine lv_lload C.1 C.2.1 dX4_within_160 (lv_at hl 5 rfl) ?_
  refine lv_lload C.1 C.2.1 dX4_within_162 (lv_at hl 2 rfl) ?_
  refine jv_lmul (z := ((Px a) - (Px d)) * ((Py b) - (Py d))) C dX4_within_164 (rfl) ?_
  refine lv_lload C.1 C.2.1 dX4_within_165 (lv_at hl 3 rfl) ?_
  refine lv_lload C.1 C.2.1 dX4_within_167 (lv_at hl 4 rfl) ?_
  refine jv_lmul (z := ((Px b) - (Px d)) * ((Py a) - (Py d))) C dX4_within_169 (rfl) ?_
  refine jv_lsub (z := (((Px a) - (Px d)) * ((Py b) - (Py d))) - (((Px b) - (Px d)) * ((Py a) - (Py d)))) C dX4_within_170 (rfl) ?_
  refine jv_lmul (z := ((((Px k) - (Px d)) * ((Px k) - (Px d))) + (((Py k) - (Py d)) * ((Py k) - (Py d)))) * ((((Px a) - (Px d)) * ((Py b) - (Py d))) - (((Px b) - (Px d)) * ((Py a) - (Py d))))) C dX4_within_171 (rfl) ?_
  refine jv_ladd (z := ((((((Px a) - (Px d)) * ((Px a) - (Px d))) + (((Py a) - (Py d)) * ((Py a) - (Py d)))) * ((((Px b) - (Px d)) * ((Py k) - (Py d))) - (((Px k) - (Px d)) * ((Py b) - (Py d))))) - (((((Px b) - (Px d)) * ((Px b) - (Px d))) + (((Py b) - (Py d)) * ((Py b) - (Py d)))) * ((((Px a) - (Px d)) * ((Py k) - (Py d))) - (((Px k) - (Px d)) * ((Py a) - (Py d)))))) + (((((Px k) - (Px d)) * ((Px k) - (Px d))) + (((Py k) - (Py d)) * ((Py k) - (Py d)))) * ((((Px a) - (Px d)) * ((Py b) - (Py d))) - (((Px b) - (Px d)) * ((Py a) - (Py d)))))) C dX4_within_172 (rfl) ?_
  have hwe := within_eq (Px a) (Py a) (Px b) (Py b) (Px k) (Py k) (Px d) (Py d)
  have hwb := wsum_bd hX hY a b k d
  have hwr : R6 (((((((Px a) - (Px d)) * ((Px a) - (Px d))) + (((Py a) - (Py d)) * ((Py a) - (Py d)))) * ((((Px b) - (Px d)) * ((Py k) - (Py d))) - (((Px k) - (Px d)) * ((Py b) - (Py d))))) - (((((Px b) - (Px d)) * ((Px b) - (Px d))) + (((Py b) - (Py d)) * ((Py b) - (Py d)))) * ((((Px a) - (Px d)) * ((Py k) - (Py d))) - (((Px k) - (Px d)) * ((Py a) - (Py d)))))) + (((((Px k) - (Px d)) * ((Px k) - (Px d))) + (((Py k) - (Py d)) * ((Py k) - (Py d)))) * ((((Px a) - (Px d)) * ((Py b) - (Py d))) - (((Px b) - (Px d)) * ((Py a) - (Py d)))))) := by rw [hwe]; exact ⟨by have := hwb.1; unfold wsum sq lo at this; omega, by have := hwb.2; unfold wsum sq lo at this; omega⟩
  refine jv_rdS (ni := 1) C [.long (Lg (((((((Px a) - (Px d)) * ((Px a) - (Px d))) + (((Py a) - (Py d)) * ((Py a) - (Py d)))) * ((((Px b) - (Px d)) * ((Py k) - (Py d))) - (((Px k) - (Px d)) * ((Py b) - (Py d))))) - (((((Px b) - (Px d)) * ((Px b) - (Px d))) + (((Py b) - (Py d)) * ((Py b) - (Py d)))) * ((((Px a) - (Px d)) * ((Py k) - (Py d))) - (((Px k) - (Px d)) * ((Py a) - (Py d)))))) + (((((Px k) - (Px d)) * ((Px k) - (Px d))) + (((Py k) - (Py d)) * ((Py k) - (Py d)))) * ((((Px a) - (Px d)) * ((Py b) - (Py d))) - (((Px b) - (Px d)) * ((Py a) - (Py d)))))))] [] (c_X4_sign (q := ((((((Px a) - (Px d)) * ((Px a) - (Px d))) + (((Py a) - (Py d)) * ((Py a) - (Py d)))) * ((((Px b) - (Px d)) * ((Py k) - (Py d))) - (((Px k) - (Px d)) * ((Py b) - (Py d))))) - (((((Px b) - (Px d)) * ((Px b) - (Px d))) + (((Py b) - (Py d)) * ((Py b) - (Py d)))) * ((((Px a) - (Px d)) * ((Py k) - (Py d))) - (((Px k) - (Px d)) * ((Py a) - (Py d)))))) + (((((Px k) - (Px d)) * ((Px k) - (Px d))) + (((Py k) - (Py d)) * ((Py k) - (Py d)))) * ((((Px a) - (Px d)) * ((Py b) - (Py d))) - (((Px b) - (Px d)) * ((Py a) - (Py d)))))) hwr) gs_X4_83 (by decide +kernel) (by decide) hK (hP.sub (ws' := []) [] rfl) rfl hl.1 (by simp [Value.category]) dX4_within_173 (by decide) ?_ rfl
  show W _ _ _ _ _ _ _ _ _ _ _ _ _ _ _ (F0 m 176 ls [.int (J (sgn (((((((Px a) - (Px d)) * ((Px a) - (Px d))) + (((Py a) - (Py d)) * ((Py a) - (Py d)))) * ((((Px b) - (Px d)) * ((Py k) - (Py d))) - (((Px k) - (Px d)) * ((Py b) - (Py d))))) - (((((Px b) - (Px d)) * ((Px b) - (Px d))) + (((Py b) - (Py d)) * ((Py b) - (Py d)))) * ((((Px a) - (Px d)) * ((Py k) - (Py d))) - (((Px k) - (Px d)) * ((Py a) - (Py d)))))) + (((((Px k) - (Px d)) * ((Px k) - (Px d))) + (((Py k) - (Py d)) * ((Py k) - (Py d)))) * ((((Px a) - (Px d)) * ((Py b) - (Py d))) - (((Px b) - (Px d)) * ((Py a) - (Py d))))))))])
  exact jv_iret C hlk hr dX4_within_176 (congrArg sgn hwe)
set_option maxRecDepth 20000 in
set_option maxHeartbeats 4000000 in
theorem c_X4_rounds {a b k d : Nat} (hRI : RI ((Px, Py, Mt, pn), (kn, fl, Hu, hn, A1, A2, A3, mn), (hd, sd, B1, B2, B3, hh, fp), (Or, Ro, Ne, rn), Mr)) (ha : a < 40) (hb : b < 40) (hk : k < 40) (hd4 : d < 40) : cR l yX4_rounds cX4_rounds 5 (some .int) 3 69 D (tyz cI cZ) [.ref qq, .int (J ((a : Nat) : Int)), .int (J ((b : Nat) : Int)), .int (J ((k : Nat) : Int)), .int (J ((d : Nat) : Int))] (wRS cI cZ qq r0 rx ry rt rh ra rb rc sa sb sc so sr sw ((Px, Py, Mt, pn), (kn, fl, Hu, hn, A1, A2, A3, mn), (hd, sd, B1, B2, B3, hh, fp), (Or, Ro, Ne, rn), Mr)) (some (.int (J (wth Px Py a b k d * trn Px Py a b k)))) := by
  refine cR_of (owner := RX4) rfl (by decide) (Nat.le_of_ble_eq_true rfl) ?_
  intro p e s m args below meth c ls C hlk hr hK hP hl
  have hl : lv_has ls 5 [(0, .ref qq), (1, .int (J ((a : Nat) : Int))), (2, .int (J ((b : Nat) : Int))), (3, .int (J ((k : Nat) : Int))), (4, .int (J ((d : Nat) : Int)))] := hl
  have hP : va_P D vwCl [(qq, .inr (4, [.ref r0, .ref rx, .ref ry, .ref rt, .int (J ((pn : Nat) : Int)), .int (J (b2i (kn))), .int (J (b2i (fl))), .ref rh, .ref ra, .ref rb, .ref rc, .int (J ((hn : Nat) : Int)), .int (J ((mn : Nat) : Int)), .int (J (b2i (hd))), .int (J (b2i (sd))), .ref sa, .ref sb, .ref sc, .int (J ((hh : Nat) : Int)), .int (J ((fp : Nat) : Int)), .ref so, .ref sr, .ref sw, .int (J ((rn : Nat) : Int))])), (r0, .inl (cI, 7, .inl (fun z9 => J ((Mr z9 : Nat) : Int)))), (rx, .inl (cI, 40, .inl (fun z9 => J (Px z9)))), (ry, .inl (cI, 40, .inl (fun z9 => J (Py z9)))), (rt, .inl (cZ, 40, .inl (fun z9 => J (b2i (Mt z9))))), (rh, .inl (cI, 41, .inl (fun z9 => J ((Hu z9 : Nat) : Int)))), (ra, .inl (cI, 120, .inl (fun z9 => J ((A1 z9 : Nat) : Int)))), (rb, .inl (cI, 120, .inl (fun z9 => J ((A2 z9 : Nat) : Int)))), (rc, .inl (cI, 120, .inl (fun z9 => J ((A3 z9 : Nat) : Int)))), (sa, .inl (cI, 120, .inl (fun z9 => J ((B1 z9 : Nat) : Int)))), (sb, .inl (cI, 120, .inl (fun z9 => J ((B2 z9 : Nat) : Int)))), (sc, .inl (cI, 120, .inl (fun z9 => J ((B3 z9 : Nat) : Int)))), (so, .inl (cI, 40, .inl (fun z9 => J ((Or z9 : Nat) : Int)))), (sr, .inl (cI, 80, .inl (fun z9 => J ((Ro z9 : Nat) : Int)))), (sw, .inl (cI, 80, .inl (fun z9 => J ((Ne z9 : Nat) : Int))))] s.heap := hP
  have hX : ∀ i, -10000 ≤ Px i ∧ Px i ≤ 10000 := hRI.1
  have hY : ∀ i, -10000 ≤ Py i ∧ Py i ≤ 10000 := hRI.2.1
  have hpn : pn ≤ 40 := hRI.2.2.1
  have hHu : ∀ i, Hu i < 40 := hRI.2.2.2.1
  have hhn : hn ≤ 41 := hRI.2.2.2.2.1
  have hA1 : ∀ i, A1 i < 40 := hRI.2.2.2.2.2.1
  have hA2 : ∀ i, A2 i < 40 := hRI.2.2.2.2.2.2.1
  have hA3 : ∀ i, A3 i < 40 := hRI.2.2.2.2.2.2.2.1
  have hmn : mn ≤ 120 := hRI.2.2.2.2.2.2.2.2.1
  have hB1 : ∀ i, B1 i < 40 := hRI.2.2.2.2.2.2.2.2.2.1
  have hB2 : ∀ i, B2 i < 40 := hRI.2.2.2.2.2.2.2.2.2.2.1
  have hB3 : ∀ i, B3 i < 40 := hRI.2.2.2.2.2.2.2.2.2.2.2.1
  have hhh : hh ≤ 120 := hRI.2.2.2.2.2.2.2.2.2.2.2.2.1
  have hOr : ∀ i, Or i < 40 := hRI.2.2.2.2.2.2.2.2.2.2.2.2.2.1
  have hRo : ∀ i, Ro i < 40 := hRI.2.2.2.2.2.2.2.2.2.2.2.2.2.2.1
  have hNe : ∀ i, Ne i < 40 := hRI.2.2.2.2.2.2.2.2.2.2.2.2.2.2.2.1
  have hrn : rn ≤ 80 := hRI.2.2.2.2.2.2.2.2.2.2.2.2.2.2.2.2
  refine lv_aload_n C.1 C.2.1 dX4_rounds_0 rfl (lv_at hl 0 rfl) ?_
  refine lv_iload_n C.1 C.2.1 dX4_rounds_1 rfl (lv_at hl 1 rfl) ?_
  refine lv_iload_n C.1 C.2.1 dX4_rounds_2 rfl (lv_at hl 2 rfl) ?_
  refine lv_iload_n C.1 C.2.1 dX4_rounds_3 rfl (lv_at hl 3 rfl) ?_
  refine lv_iload C.1 C.2.1 dX4_rounds_4 (lv_at hl 4 rfl) ?_
  refine jv_rdV (ni := 4) (ci := 4) (q0 := 0) C [.int (J ((a : Nat) : Int)), .int (J ((b : Nat) : Int)), .int (J ((k : Nat) : Int)), .int (J ((d : Nat) : Int))] [] (c_X4_within (Px := Px) (Py := Py) (Mt := Mt) (pn := pn) (kn := kn) (fl := fl) (Hu := Hu) (hn := hn) (A1 := A1) (A2 := A2) (A3 := A3) (mn := mn) (hd := hd) (sd := sd) (B1 := B1) (B2 := B2) (B3 := B3) (hh := hh) (fp := fp) (Or := Or) (Ro := Ro) (Ne := Ne) (rn := rn) (Mr := Mr) hRI (a := a) (b := b) (k := k) (d := d) (by omega) (by omega) (by omega) (by omega)) gv_X4_91 (by decide +kernel) (by decide) hK (hP) rfl rfl rfl hl.1 (by simp [Value.category]) dX4_rounds_6 (by decide) ?_ rfl
  show W _ _ _ _ _ _ _ _ _ _ _ _ _ _ _ (F0 m 9 ls [.int (J (wth Px Py a b k d))])
  have f1 := wth_R Px Py a b k d
  refine lv_aload_n C.1 C.2.1 dX4_rounds_9 rfl (lv_at hl 0 rfl) ?_
  refine lv_iload_n C.1 C.2.1 dX4_rounds_10 rfl (lv_at hl 1 rfl) ?_
  refine lv_iload_n C.1 C.2.1 dX4_rounds_11 rfl (lv_at hl 2 rfl) ?_
  refine lv_iload_n C.1 C.2.1 dX4_rounds_12 rfl (lv_at hl 3 rfl) ?_
  refine jv_rdV (ni := 3) (ci := 4) (q0 := 0) C [.int (J ((a : Nat) : Int)), .int (J ((b : Nat) : Int)), .int (J ((k : Nat) : Int))] [.int (J (wth Px Py a b k d))] (c_X4_turns (Px := Px) (Py := Py) (Mt := Mt) (pn := pn) (kn := kn) (fl := fl) (Hu := Hu) (hn := hn) (A1 := A1) (A2 := A2) (A3 := A3) (mn := mn) (hd := hd) (sd := sd) (B1 := B1) (B2 := B2) (B3 := B3) (hh := hh) (fp := fp) (Or := Or) (Ro := Ro) (Ne := Ne) (rn := rn) (Mr := Mr) hRI (a := a) (b := b) (k := k) (by omega) (by omega) (by omega)) gv_X4_95 (by decide +kernel) (by decide) hK (hP) rfl rfl rfl hl.1 (by simp [Value.category]) dX4_rounds_13 (by decide) ?_ rfl
  show W _ _ _ _ _ _ _ _ _ _ _ _ _ _ _ (F0 m 16 ls [.int (J (trn Px Py a b k)), .int (J (wth Px Py a b k d))])
  have f2 := trn_R Px Py a b k
  refine jv_imul (z := (wth Px Py a b k d) * (trn Px Py a b k)) C dX4_rounds_16 (rfl) ?_
  exact jv_iret C hlk hr dX4_rounds_17 (rfl)
set_option maxRecDepth 20000 in
set_option maxHeartbeats 4000000 in
theorem c_X4_wrongPlace {x y : Int} (hRI : RI ((Px, Py, Mt, pn), (kn, fl, Hu, hn, A1, A2, A3, mn), (hd, sd, B1, B2, B3, hh, fp), (Or, Ro, Ne, rn), Mr)) (hx : R3 x) (hy : R3 y) : cR l yX4_wrongPlace cX4_wrongPlace 3 (some .int) 0 0 D (tyz cI cZ) [.ref qq, .int (J x), .int (J y)] (wRS cI cZ qq r0 rx ry rt rh ra rb rc sa sb sc so sr sw ((Px, Py, Mt, pn), (kn, fl, Hu, hn, A1, A2, A3, mn), (hd, sd, B1, B2, B3, hh, fp), (Or, Ro, Ne, rn), Mr)) (some (.int (J (fop x y)))) := by
  refine cR_of (owner := RX4) rfl (by decide) (Nat.le_of_ble_eq_true rfl) ?_
  intro p e s m args below meth c ls C hlk hr hK hP hl
  have hl : lv_has ls 3 [(0, .ref qq), (1, .int (J x)), (2, .int (J y))] := hl
  have hP : va_P D vwCl [(qq, .inr (4, [.ref r0, .ref rx, .ref ry, .ref rt, .int (J ((pn : Nat) : Int)), .int (J (b2i (kn))), .int (J (b2i (fl))), .ref rh, .ref ra, .ref rb, .ref rc, .int (J ((hn : Nat) : Int)), .int (J ((mn : Nat) : Int)), .int (J (b2i (hd))), .int (J (b2i (sd))), .ref sa, .ref sb, .ref sc, .int (J ((hh : Nat) : Int)), .int (J ((fp : Nat) : Int)), .ref so, .ref sr, .ref sw, .int (J ((rn : Nat) : Int))])), (r0, .inl (cI, 7, .inl (fun z9 => J ((Mr z9 : Nat) : Int)))), (rx, .inl (cI, 40, .inl (fun z9 => J (Px z9)))), (ry, .inl (cI, 40, .inl (fun z9 => J (Py z9)))), (rt, .inl (cZ, 40, .inl (fun z9 => J (b2i (Mt z9))))), (rh, .inl (cI, 41, .inl (fun z9 => J ((Hu z9 : Nat) : Int)))), (ra, .inl (cI, 120, .inl (fun z9 => J ((A1 z9 : Nat) : Int)))), (rb, .inl (cI, 120, .inl (fun z9 => J ((A2 z9 : Nat) : Int)))), (rc, .inl (cI, 120, .inl (fun z9 => J ((A3 z9 : Nat) : Int)))), (sa, .inl (cI, 120, .inl (fun z9 => J ((B1 z9 : Nat) : Int)))), (sb, .inl (cI, 120, .inl (fun z9 => J ((B2 z9 : Nat) : Int)))), (sc, .inl (cI, 120, .inl (fun z9 => J ((B3 z9 : Nat) : Int)))), (so, .inl (cI, 40, .inl (fun z9 => J ((Or z9 : Nat) : Int)))), (sr, .inl (cI, 80, .inl (fun z9 => J ((Ro z9 : Nat) : Int)))), (sw, .inl (cI, 80, .inl (fun z9 => J ((Ne z9 : Nat) : Int))))] s.heap := hP
  have hX : ∀ i, -10000 ≤ Px i ∧ Px i ≤ 10000 := hRI.1
  have hY : ∀ i, -10000 ≤ Py i ∧ Py i ≤ 10000 := hRI.2.1
  have hpn : pn ≤ 40 := hRI.2.2.1
  have hHu : ∀ i, Hu i < 40 := hRI.2.2.2.1
  have hhn : hn ≤ 41 := hRI.2.2.2.2.1
  have hA1 : ∀ i, A1 i < 40 := hRI.2.2.2.2.2.1
  have hA2 : ∀ i, A2 i < 40 := hRI.2.2.2.2.2.2.1
  have hA3 : ∀ i, A3 i < 40 := hRI.2.2.2.2.2.2.2.1
  have hmn : mn ≤ 120 := hRI.2.2.2.2.2.2.2.2.1
  have hB1 : ∀ i, B1 i < 40 := hRI.2.2.2.2.2.2.2.2.2.1
  have hB2 : ∀ i, B2 i < 40 := hRI.2.2.2.2.2.2.2.2.2.2.1
  have hB3 : ∀ i, B3 i < 40 := hRI.2.2.2.2.2.2.2.2.2.2.2.1
  have hhh : hh ≤ 120 := hRI.2.2.2.2.2.2.2.2.2.2.2.2.1
  have hOr : ∀ i, Or i < 40 := hRI.2.2.2.2.2.2.2.2.2.2.2.2.2.1
  have hRo : ∀ i, Ro i < 40 := hRI.2.2.2.2.2.2.2.2.2.2.2.2.2.2.1
  have hNe : ∀ i, Ne i < 40 := hRI.2.2.2.2.2.2.2.2.2.2.2.2.2.2.2.1
  have hrn : rn ≤ 80 := hRI.2.2.2.2.2.2.2.2.2.2.2.2.2.2.2.2
  refine lv_iload_n C.1 C.2.1 dX4_wrongPlace_0 rfl (lv_at hl 1 rfl) ?_
  refine jv_sipush C dX4_wrongPlace_1 rfl ?_
  refine jv_icmp_lt (tgt := 14) C dX4_wrongPlace_4 (by decide) (by omega) (fun h1 => ?_) (fun h1 => ?_)
  · refine jv_bipush C dX4_wrongPlace_14 rfl ?_
    refine lv_goto (tgt := 39) C.1 C.2.1 dX4_wrongPlace_16 (by decide) ?_
    exact jv_iret C hlk hr dX4_wrongPlace_39 (by unfold fop; first | (rw [if_pos (by omega)]; done) | (rw [if_neg (by omega), if_pos (by omega)]; done) | (rw [if_neg (by omega), if_neg (by omega)]; done))
  · refine lv_iload_n C.1 C.2.1 dX4_wrongPlace_7 rfl (lv_at hl 2 rfl) ?_
    refine jv_sipush C dX4_wrongPlace_8 rfl ?_
    refine jv_icmp_ge (tgt := 19) C dX4_wrongPlace_11 (by decide) (by omega) (fun h2 => ?_) (fun h2 => ?_)
    · refine lv_iload_n C.1 C.2.1 dX4_wrongPlace_19 rfl (lv_at hl 1 rfl) ?_
      refine jv_sipush C dX4_wrongPlace_20 rfl ?_
      refine jv_icmp_gt (tgt := 33) C dX4_wrongPlace_23 (by decide) (by omega) (fun h3 => ?_) (fun h3 => ?_)
      · refine jv_bipush C dX4_wrongPlace_33 rfl ?_
        refine lv_goto (tgt := 39) C.1 C.2.1 dX4_wrongPlace_35 (by decide) ?_
        exact jv_iret C hlk hr dX4_wrongPlace_39 (by unfold fop; first | (rw [if_pos (by omega)]; done) | (rw [if_neg (by omega), if_pos (by omega)]; done) | (rw [if_neg (by omega), if_neg (by omega)]; done))
      · refine lv_iload_n C.1 C.2.1 dX4_wrongPlace_26 rfl (lv_at hl 2 rfl) ?_
        refine jv_sipush C dX4_wrongPlace_27 rfl ?_
        refine jv_icmp_le (tgt := 38) C dX4_wrongPlace_30 (by decide) (by omega) (fun h4 => ?_) (fun h4 => ?_)
        · refine jv_iconst C dX4_wrongPlace_38 ?_
          exact jv_iret C hlk hr dX4_wrongPlace_39 (by unfold fop; first | (rw [if_pos (by omega)]; done) | (rw [if_neg (by omega), if_pos (by omega)]; done) | (rw [if_neg (by omega), if_neg (by omega)]; done))
        · refine jv_bipush C dX4_wrongPlace_33 rfl ?_
          refine lv_goto (tgt := 39) C.1 C.2.1 dX4_wrongPlace_35 (by decide) ?_
          exact jv_iret C hlk hr dX4_wrongPlace_39 (by unfold fop; first | (rw [if_pos (by omega)]; done) | (rw [if_neg (by omega), if_pos (by omega)]; done) | (rw [if_neg (by omega), if_neg (by omega)]; done))
    · refine jv_bipush C dX4_wrongPlace_14 rfl ?_
      refine lv_goto (tgt := 39) C.1 C.2.1 dX4_wrongPlace_16 (by decide) ?_
      exact jv_iret C hlk hr dX4_wrongPlace_39 (by unfold fop; first | (rw [if_pos (by omega)]; done) | (rw [if_neg (by omega), if_pos (by omega)]; done) | (rw [if_neg (by omega), if_neg (by omega)]; done))
set_option maxRecDepth 20000 in
set_option maxHeartbeats 4000000 in
theorem c_X4_isPoint {z : Int} (hRI : RI ((Px, Py, Mt, pn), (kn, fl, Hu, hn, A1, A2, A3, mn), (hd, sd, B1, B2, B3, hh, fp), (Or, Ro, Ne, rn), Mr)) (hz : R3 z) : cR l yX4_isPoint cX4_isPoint 2 (some .boolean) 0 0 D (tyz cI cZ) [.ref qq, .int (J z)] (wRS cI cZ qq r0 rx ry rt rh ra rb rc sa sb sc so sr sw ((Px, Py, Mt, pn), (kn, fl, Hu, hn, A1, A2, A3, mn), (hd, sd, B1, B2, B3, hh, fp), (Or, Ro, Ne, rn), Mr)) (some (.int (J (b2i (thr Mt pn z))))) := by
  refine cR_of (owner := RX4) rfl (by decide) (Nat.le_of_ble_eq_true rfl) ?_
  intro p e s m args below meth c ls C hlk hr hK hP hl
  have hl : lv_has ls 2 [(0, .ref qq), (1, .int (J z))] := hl
  have hP : va_P D vwCl [(qq, .inr (4, [.ref r0, .ref rx, .ref ry, .ref rt, .int (J ((pn : Nat) : Int)), .int (J (b2i (kn))), .int (J (b2i (fl))), .ref rh, .ref ra, .ref rb, .ref rc, .int (J ((hn : Nat) : Int)), .int (J ((mn : Nat) : Int)), .int (J (b2i (hd))), .int (J (b2i (sd))), .ref sa, .ref sb, .ref sc, .int (J ((hh : Nat) : Int)), .int (J ((fp : Nat) : Int)), .ref so, .ref sr, .ref sw, .int (J ((rn : Nat) : Int))])), (r0, .inl (cI, 7, .inl (fun z9 => J ((Mr z9 : Nat) : Int)))), (rx, .inl (cI, 40, .inl (fun z9 => J (Px z9)))), (ry, .inl (cI, 40, .inl (fun z9 => J (Py z9)))), (rt, .inl (cZ, 40, .inl (fun z9 => J (b2i (Mt z9))))), (rh, .inl (cI, 41, .inl (fun z9 => J ((Hu z9 : Nat) : Int)))), (ra, .inl (cI, 120, .inl (fun z9 => J ((A1 z9 : Nat) : Int)))), (rb, .inl (cI, 120, .inl (fun z9 => J ((A2 z9 : Nat) : Int)))), (rc, .inl (cI, 120, .inl (fun z9 => J ((A3 z9 : Nat) : Int)))), (sa, .inl (cI, 120, .inl (fun z9 => J ((B1 z9 : Nat) : Int)))), (sb, .inl (cI, 120, .inl (fun z9 => J ((B2 z9 : Nat) : Int)))), (sc, .inl (cI, 120, .inl (fun z9 => J ((B3 z9 : Nat) : Int)))), (so, .inl (cI, 40, .inl (fun z9 => J ((Or z9 : Nat) : Int)))), (sr, .inl (cI, 80, .inl (fun z9 => J ((Ro z9 : Nat) : Int)))), (sw, .inl (cI, 80, .inl (fun z9 => J ((Ne z9 : Nat) : Int))))] s.heap := hP
  have hX : ∀ i, -10000 ≤ Px i ∧ Px i ≤ 10000 := hRI.1
  have hY : ∀ i, -10000 ≤ Py i ∧ Py i ≤ 10000 := hRI.2.1
  have hpn : pn ≤ 40 := hRI.2.2.1
  have hHu : ∀ i, Hu i < 40 := hRI.2.2.2.1
  have hhn : hn ≤ 41 := hRI.2.2.2.2.1
  have hA1 : ∀ i, A1 i < 40 := hRI.2.2.2.2.2.1
  have hA2 : ∀ i, A2 i < 40 := hRI.2.2.2.2.2.2.1
  have hA3 : ∀ i, A3 i < 40 := hRI.2.2.2.2.2.2.2.1
  have hmn : mn ≤ 120 := hRI.2.2.2.2.2.2.2.2.1
  have hB1 : ∀ i, B1 i < 40 := hRI.2.2.2.2.2.2.2.2.2.1
  have hB2 : ∀ i, B2 i < 40 := hRI.2.2.2.2.2.2.2.2.2.2.1
  have hB3 : ∀ i, B3 i < 40 := hRI.2.2.2.2.2.2.2.2.2.2.2.1
  have hhh : hh ≤ 120 := hRI.2.2.2.2.2.2.2.2.2.2.2.2.1
  have hOr : ∀ i, Or i < 40 := hRI.2.2.2.2.2.2.2.2.2.2.2.2.2.1
  have hRo : ∀ i, Ro i < 40 := hRI.2.2.2.2.2.2.2.2.2.2.2.2.2.2.1
  have hNe : ∀ i, Ne i < 40 := hRI.2.2.2.2.2.2.2.2.2.2.2.2.2.2.2.1
  have hrn : rn ≤ 80 := hRI.2.2.2.2.2.2.2.2.2.2.2.2.2.2.2.2
  refine lv_iload_n C.1 C.2.1 dX4_isPoint_0 rfl (lv_at hl 1 rfl) ?_
  refine jv_if_lt (tgt := 25) C dX4_isPoint_1 (by decide) (by omega) (fun h1 => ?_) (fun h1 => ?_)
  · refine jv_iconst C dX4_isPoint_25 ?_
    exact jv_zret C hlk hr dX4_isPoint_26 (by unfold thr; rw [decide_eq_false (by omega)]; rfl)
  · refine lv_iload_n C.1 C.2.1 dX4_isPoint_4 rfl (lv_at hl 1 rfl) ?_
    refine lv_aload_n C.1 C.2.1 dX4_isPoint_5 rfl (lv_at hl 0 rfl) ?_
    refine jv_get C fw_X4_58 hK hP 0 rfl rfl dX4_isPoint_6 ?_
    refine jv_icmp_ge (tgt := 25) C dX4_isPoint_9 (by decide) (by omega) (fun h2 => ?_) (fun h2 => ?_)
    · refine jv_iconst C dX4_isPoint_25 ?_
      exact jv_zret C hlk hr dX4_isPoint_26 (by unfold thr; rw [decide_eq_false (p := z < (pn : Int)) (by omega), Bool.false_and, Bool.and_false]; rfl)
    · refine lv_aload_n C.1 C.2.1 dX4_isPoint_12 rfl (lv_at hl 0 rfl) ?_
      refine jv_get C fw_X4_19 hK hP 0 rfl rfl dX4_isPoint_13 ?_
      refine lv_iload_n C.1 C.2.1 dX4_isPoint_16 rfl (lv_at hl 1 rfl) ?_
      refine jv_zald C hK hP 4 1 rfl rfl (z.toNat) (by omega) (by omega) (by decide) dX4_isPoint_17 ?_
      refine jv_bif_eq (tgt := 25) C dX4_isPoint_18 (by decide) (fun h3 => ?_) (fun h3 => ?_)
      · refine jv_iconst C dX4_isPoint_25 ?_
        exact jv_zret C hlk hr dX4_isPoint_26 (by unfold thr; rw [decide_eq_true (by omega), decide_eq_true (by omega), h3]; rfl)
      · refine jv_iconst C dX4_isPoint_21 ?_
        refine lv_goto (tgt := 26) C.1 C.2.1 dX4_isPoint_22 (by decide) ?_
        exact jv_zret C hlk hr dX4_isPoint_26 (by unfold thr; rw [decide_eq_true (by omega), decide_eq_true (by omega), h3]; rfl)
set_option maxRecDepth 20000 in
theorem lp_X4_at_2 {p : Program} {e : Env} {s : State} {m : MethodId} {args : Array Value} {below : List Frame} {meth : Method} {c : Code} {x y : Int} (C : CallFix p m c cX4_at 4 s args TB RX4) (hlk : meth.locks = false) (hr : meth.sig.returnType = (some .int)) (hK : va_K D vwCl (tyz cI cZ) s) (hP : va_P D vwCl (wRS cI cZ qq r0 rx ry rt rh ra rb rc sa sb sc so sr sw ((Px, Py, Mt, pn), (kn, fl, Hu, hn, A1, A2, A3, mn), (hd, sd, B1, B2, B3, hh, fp), (Or, Ro, Ne, rn), Mr)) s.heap) (hRI : RI ((Px, Py, Mt, pn), (kn, fl, Hu, hn, A1, A2, A3, mn), (hd, sd, B1, B2, B3, hh, fp), (Or, Ro, Ne, rn), Mr)) (hx : R3 x) (hy : R3 y) :
    ∀ (n : Nat) (i : Nat), pn < i + n → i ≤ pn → ∀ (rv : Int), rv = oI (-1) (ff (atP Px Py Mt x y) pn i) → ∀ ls : Array Slot, lv_has ls 4 [(0, .ref qq), (1, .int (J x)), (2, .int (J y)), (3, .int (J ((i : Nat) : Int)))] → W p l e { frames := 0, cells := 0, slots := 0, locals := 0 } s m args below meth c s.heap [] 0 0 (MQ below (QR (some (.int (J rv)))) args s 0 0 (fun _ => False)) (F0 m 2 ls []) := by
  have hX : ∀ i, -10000 ≤ Px i ∧ Px i ≤ 10000 := hRI.1
  have hY : ∀ i, -10000 ≤ Py i ∧ Py i ≤ 10000 := hRI.2.1
  have hpn : pn ≤ 40 := hRI.2.2.1
  have hHu : ∀ i, Hu i < 40 := hRI.2.2.2.1
  have hhn : hn ≤ 41 := hRI.2.2.2.2.1
  have hA1 : ∀ i, A1 i < 40 := hRI.2.2.2.2.2.1
  have hA2 : ∀ i, A2 i < 40 := hRI.2.2.2.2.2.2.1
  have hA3 : ∀ i, A3 i < 40 := hRI.2.2.2.2.2.2.2.1
  have hmn : mn ≤ 120 := hRI.2.2.2.2.2.2.2.2.1
  have hB1 : ∀ i, B1 i < 40 := hRI.2.2.2.2.2.2.2.2.2.1
  have hB2 : ∀ i, B2 i < 40 := hRI.2.2.2.2.2.2.2.2.2.2.1
  have hB3 : ∀ i, B3 i < 40 := hRI.2.2.2.2.2.2.2.2.2.2.2.1
  have hhh : hh ≤ 120 := hRI.2.2.2.2.2.2.2.2.2.2.2.2.1
  have hOr : ∀ i, Or i < 40 := hRI.2.2.2.2.2.2.2.2.2.2.2.2.2.1
  have hRo : ∀ i, Ro i < 40 := hRI.2.2.2.2.2.2.2.2.2.2.2.2.2.2.1
  have hNe : ∀ i, Ne i < 40 := hRI.2.2.2.2.2.2.2.2.2.2.2.2.2.2.2.1
  have hrn : rn ≤ 80 := hRI.2.2.2.2.2.2.2.2.2.2.2.2.2.2.2.2
  have hP : va_P D vwCl [(qq, .inr (4, [.ref r0, .ref rx, .ref ry, .ref rt, .int (J ((pn : Nat) : Int)), .int (J (b2i (kn))), .int (J (b2i (fl))), .ref rh, .ref ra, .ref rb, .ref rc, .int (J ((hn : Nat) : Int)), .int (J ((mn : Nat) : Int)), .int (J (b2i (hd))), .int (J (b2i (sd))), .ref sa, .ref sb, .ref sc, .int (J ((hh : Nat) : Int)), .int (J ((fp : Nat) : Int)), .ref so, .ref sr, .ref sw, .int (J ((rn : Nat) : Int))])), (r0, .inl (cI, 7, .inl (fun z9 => J ((Mr z9 : Nat) : Int)))), (rx, .inl (cI, 40, .inl (fun z9 => J (Px z9)))), (ry, .inl (cI, 40, .inl (fun z9 => J (Py z9)))), (rt, .inl (cZ, 40, .inl (fun z9 => J (b2i (Mt z9))))), (rh, .inl (cI, 41, .inl (fun z9 => J ((Hu z9 : Nat) : Int)))), (ra, .inl (cI, 120, .inl (fun z9 => J ((A1 z9 : Nat) : Int)))), (rb, .inl (cI, 120, .inl (fun z9 => J ((A2 z9 : Nat) : Int)))), (rc, .inl (cI, 120, .inl (fun z9 => J ((A3 z9 : Nat) : Int)))), (sa, .inl (cI, 120, .inl (fun z9 => J ((B1 z9 : Nat) : Int)))), (sb, .inl (cI, 120, .inl (fun z9 => J ((B2 z9 : Nat) : Int)))), (sc, .inl (cI, 120, .inl (fun z9 => J ((B3 z9 : Nat) : Int)))), (so, .inl (cI, 40, .inl (fun z9 => J ((Or z9 : Nat) : Int)))), (sr, .inl (cI, 80, .inl (fun z9 => J ((Ro z9 : Nat) : Int)))), (sw, .inl (cI, 80, .inl (fun z9 => J ((Ne z9 : Nat) : Int))))] s.heap := hP
  intro n
  induction n with
  | zero => intro i hi0 hi1; omega
  | succ n ih =>
    intro i hi0 hi1 rv hrv ls hl
    refine lv_iload_n C.1 C.2.1 dX4_at_2 rfl (lv_at hl 3 rfl) ?_
    refine lv_aload_n C.1 C.2.1 dX4_at_3 rfl (lv_at hl 0 rfl) ?_
    refine jv_get C fw_X4_58 hK hP 0 rfl rfl dX4_at_4 ?_
    refine jv_icmp_ge (tgt := 47) C dX4_at_7 (by decide) (by omega) (fun h1 => ?_) (fun h1 => ?_)
    · refine jv_iconst C dX4_at_47 ?_
      exact jv_iret C hlk hr dX4_at_48 (by rw [hrv, ff_end (by omega)]; rfl)
    · refine lv_aload_n C.1 C.2.1 dX4_at_10 rfl (lv_at hl 0 rfl) ?_
      refine jv_get C fw_X4_19 hK hP 0 rfl rfl dX4_at_11 ?_
      refine lv_iload_n C.1 C.2.1 dX4_at_14 rfl (lv_at hl 3 rfl) ?_
      refine jv_zald C hK hP 4 1 rfl rfl (i) (by omega) (by omega) (by decide) dX4_at_15 ?_
      refine jv_bif_eq (tgt := 41) C dX4_at_16 (by decide) (fun h2 => ?_) (fun h2 => ?_)
      · refine lv_iinc (v := J (((i + 1 : Nat) : Int))) (lv' := [(3, .int (J ((i + 1 : Nat) : Int))), (0, .ref qq), (1, .int (J x)), (2, .int (J y))]) C.1 C.2.1 dX4_at_41 hl (k := 3) rfl (by rw [show Int32.ofInt 1 = J 1 from rfl, J_add]; exact congrArg J (by omega)) (by decide) rfl (fun ls hl => ?_)
        refine lv_goto (tgt := 2) C.1 C.2.1 dX4_at_44 (by decide) ?_
        exact ih (i + 1) (by omega) (by omega) rv (by rw [hrv, ff_go (by omega) (by unfold atP; rw [h2, Bool.false_and])]) ls (lv_sub hl [1, 2, 3, 0] rfl)
      · refine lv_aload_n C.1 C.2.1 dX4_at_19 rfl (lv_at hl 0 rfl) ?_
        refine jv_get C fw_X4_13 hK hP 0 rfl rfl dX4_at_20 ?_
        refine lv_iload_n C.1 C.2.1 dX4_at_23 rfl (lv_at hl 3 rfl) ?_
        refine jv_iald C hK hP 2 0 rfl rfl (i) (by omega) (by omega) (by decide) dX4_at_24 ?_
        have f3 := hX i
        refine lv_iload_n C.1 C.2.1 dX4_at_25 rfl (lv_at hl 1 rfl) ?_
        refine jv_icmp_ne (tgt := 41) C dX4_at_26 (by decide) (by omega) (fun h4 => ?_) (fun h4 => ?_)
        · refine lv_iinc (v := J (((i + 1 : Nat) : Int))) (lv' := [(3, .int (J ((i + 1 : Nat) : Int))), (0, .ref qq), (1, .int (J x)), (2, .int (J y))]) C.1 C.2.1 dX4_at_41 hl (k := 3) rfl (by rw [show Int32.ofInt 1 = J 1 from rfl, J_add]; exact congrArg J (by omega)) (by decide) rfl (fun ls hl => ?_)
          refine lv_goto (tgt := 2) C.1 C.2.1 dX4_at_44 (by decide) ?_
          exact ih (i + 1) (by omega) (by omega) rv (by rw [hrv, ff_go (by omega) (by unfold atP; rw [decide_eq_false (p := Px i = x) (by omega), Bool.false_and, Bool.and_false])]) ls (lv_sub hl [1, 2, 3, 0] rfl)
        · refine lv_aload_n C.1 C.2.1 dX4_at_29 rfl (lv_at hl 0 rfl) ?_
          refine jv_get C fw_X4_16 hK hP 0 rfl rfl dX4_at_30 ?_
          refine lv_iload_n C.1 C.2.1 dX4_at_33 rfl (lv_at hl 3 rfl) ?_
          refine jv_iald C hK hP 3 0 rfl rfl (i) (by omega) (by omega) (by decide) dX4_at_34 ?_
          have f5 := hY i
          refine lv_iload_n C.1 C.2.1 dX4_at_35 rfl (lv_at hl 2 rfl) ?_
          refine jv_icmp_ne (tgt := 41) C dX4_at_36 (by decide) (by omega) (fun h6 => ?_) (fun h6 => ?_)
          · refine lv_iinc (v := J (((i + 1 : Nat) : Int))) (lv' := [(3, .int (J ((i + 1 : Nat) : Int))), (0, .ref qq), (1, .int (J x)), (2, .int (J y))]) C.1 C.2.1 dX4_at_41 hl (k := 3) rfl (by rw [show Int32.ofInt 1 = J 1 from rfl, J_add]; exact congrArg J (by omega)) (by decide) rfl (fun ls hl => ?_)
            refine lv_goto (tgt := 2) C.1 C.2.1 dX4_at_44 (by decide) ?_
            exact ih (i + 1) (by omega) (by omega) rv (by rw [hrv, ff_go (by omega) (by unfold atP; rw [decide_eq_false (p := Py i = y) (by omega), Bool.and_false, Bool.and_false])]) ls (lv_sub hl [1, 2, 3, 0] rfl)
          · refine lv_iload_n C.1 C.2.1 dX4_at_39 rfl (lv_at hl 3 rfl) ?_
            exact jv_iret C hlk hr dX4_at_40 (by rw [hrv, ff_hit (by omega) (by unfold atP; rw [h2, decide_eq_true (by omega), decide_eq_true (by omega)]; rfl)]; rfl)
set_option maxRecDepth 20000 in
set_option maxHeartbeats 4000000 in
theorem c_X4_at {x y : Int} (hRI : RI ((Px, Py, Mt, pn), (kn, fl, Hu, hn, A1, A2, A3, mn), (hd, sd, B1, B2, B3, hh, fp), (Or, Ro, Ne, rn), Mr)) (hx : R3 x) (hy : R3 y) : cR l yX4_at cX4_at 4 (some .int) 0 0 D (tyz cI cZ) [.ref qq, .int (J x), .int (J y)] (wRS cI cZ qq r0 rx ry rt rh ra rb rc sa sb sc so sr sw ((Px, Py, Mt, pn), (kn, fl, Hu, hn, A1, A2, A3, mn), (hd, sd, B1, B2, B3, hh, fp), (Or, Ro, Ne, rn), Mr)) (some (.int (J (oI (-1) (ff (atP Px Py Mt x y) pn 0))))) := by
  refine cR_of (owner := RX4) rfl (by decide) (Nat.le_of_ble_eq_true rfl) ?_
  intro p e s m args below meth c ls C hlk hr hK hP hl
  have hl : lv_has ls 4 [(0, .ref qq), (1, .int (J x)), (2, .int (J y))] := hl
  have hP : va_P D vwCl [(qq, .inr (4, [.ref r0, .ref rx, .ref ry, .ref rt, .int (J ((pn : Nat) : Int)), .int (J (b2i (kn))), .int (J (b2i (fl))), .ref rh, .ref ra, .ref rb, .ref rc, .int (J ((hn : Nat) : Int)), .int (J ((mn : Nat) : Int)), .int (J (b2i (hd))), .int (J (b2i (sd))), .ref sa, .ref sb, .ref sc, .int (J ((hh : Nat) : Int)), .int (J ((fp : Nat) : Int)), .ref so, .ref sr, .ref sw, .int (J ((rn : Nat) : Int))])), (r0, .inl (cI, 7, .inl (fun z9 => J ((Mr z9 : Nat) : Int)))), (rx, .inl (cI, 40, .inl (fun z9 => J (Px z9)))), (ry, .inl (cI, 40, .inl (fun z9 => J (Py z9)))), (rt, .inl (cZ, 40, .inl (fun z9 => J (b2i (Mt z9))))), (rh, .inl (cI, 41, .inl (fun z9 => J ((Hu z9 : Nat) : Int)))), (ra, .inl (cI, 120, .inl (fun z9 => J ((A1 z9 : Nat) : Int)))), (rb, .inl (cI, 120, .inl (fun z9 => J ((A2 z9 : Nat) : Int)))), (rc, .inl (cI, 120, .inl (fun z9 => J ((A3 z9 : Nat) : Int)))), (sa, .inl (cI, 120, .inl (fun z9 => J ((B1 z9 : Nat) : Int)))), (sb, .inl (cI, 120, .inl (fun z9 => J ((B2 z9 : Nat) : Int)))), (sc, .inl (cI, 120, .inl (fun z9 => J ((B3 z9 : Nat) : Int)))), (so, .inl (cI, 40, .inl (fun z9 => J ((Or z9 : Nat) : Int)))), (sr, .inl (cI, 80, .inl (fun z9 => J ((Ro z9 : Nat) : Int)))), (sw, .inl (cI, 80, .inl (fun z9 => J ((Ne z9 : Nat) : Int))))] s.heap := hP
  have hX : ∀ i, -10000 ≤ Px i ∧ Px i ≤ 10000 := hRI.1
  have hY : ∀ i, -10000 ≤ Py i ∧ Py i ≤ 10000 := hRI.2.1
  have hpn : pn ≤ 40 := hRI.2.2.1
  have hHu : ∀ i, Hu i < 40 := hRI.2.2.2.1
  have hhn : hn ≤ 41 := hRI.2.2.2.2.1
  have hA1 : ∀ i, A1 i < 40 := hRI.2.2.2.2.2.1
  have hA2 : ∀ i, A2 i < 40 := hRI.2.2.2.2.2.2.1
  have hA3 : ∀ i, A3 i < 40 := hRI.2.2.2.2.2.2.2.1
  have hmn : mn ≤ 120 := hRI.2.2.2.2.2.2.2.2.1
  have hB1 : ∀ i, B1 i < 40 := hRI.2.2.2.2.2.2.2.2.2.1
  have hB2 : ∀ i, B2 i < 40 := hRI.2.2.2.2.2.2.2.2.2.2.1
  have hB3 : ∀ i, B3 i < 40 := hRI.2.2.2.2.2.2.2.2.2.2.2.1
  have hhh : hh ≤ 120 := hRI.2.2.2.2.2.2.2.2.2.2.2.2.1
  have hOr : ∀ i, Or i < 40 := hRI.2.2.2.2.2.2.2.2.2.2.2.2.2.1
  have hRo : ∀ i, Ro i < 40 := hRI.2.2.2.2.2.2.2.2.2.2.2.2.2.2.1
  have hNe : ∀ i, Ne i < 40 := hRI.2.2.2.2.2.2.2.2.2.2.2.2.2.2.2.1
  have hrn : rn ≤ 80 := hRI.2.2.2.2.2.2.2.2.2.2.2.2.2.2.2.2
  refine jv_iconst C dX4_at_0 ?_
  refine lv_istore_n (lv' := [(3, .int (J 0)), (0, .ref qq), (1, .int (J x)), (2, .int (J y))]) C.1 C.2.1 dX4_at_1 rfl hl (by decide) rfl (fun ls hl => ?_)
  exact lp_X4_at_2 C hlk hr hK hP hRI hx hy (pn + 1) 0 (by omega) (by omega) _ rfl ls (lv_sub hl [1, 2, 3, 0] rfl)
set_option maxRecDepth 20000 in
theorem lp_X4_here_4 {p : Program} {e : Env} {s : State} {m : MethodId} {args : Array Value} {below : List Frame} {meth : Method} {c : Code}  (C : CallFix p m c cX4_here 3 s args TB RX4) (hlk : meth.locks = false) (hr : meth.sig.returnType = (some .int)) (hK : va_K D vwCl (tyz cI cZ) s) (hP : va_P D vwCl (wRS cI cZ qq r0 rx ry rt rh ra rb rc sa sb sc so sr sw ((Px, Py, Mt, pn), (kn, fl, Hu, hn, A1, A2, A3, mn), (hd, sd, B1, B2, B3, hh, fp), (Or, Ro, Ne, rn), Mr)) s.heap) (hRI : RI ((Px, Py, Mt, pn), (kn, fl, Hu, hn, A1, A2, A3, mn), (hd, sd, B1, B2, B3, hh, fp), (Or, Ro, Ne, rn), Mr))  :
    ∀ (n : Nat) (i k : Nat), pn < i + n → i ≤ pn → k ≤ i → ∀ (rv : Nat), rv = k + cn Mt pn i → ∀ ls : Array Slot, lv_has ls 3 [(0, .ref qq), (1, .int (J ((k : Nat) : Int))), (2, .int (J ((i : Nat) : Int)))] → W p l e { frames := 0, cells := 0, slots := 0, locals := 0 } s m args below meth c s.heap [] 0 0 (MQ below (QR (some (.int (J ((rv : Nat) : Int))))) args s 0 0 (fun _ => False)) (F0 m 4 ls []) := by
  have hX : ∀ i, -10000 ≤ Px i ∧ Px i ≤ 10000 := hRI.1
  have hY : ∀ i, -10000 ≤ Py i ∧ Py i ≤ 10000 := hRI.2.1
  have hpn : pn ≤ 40 := hRI.2.2.1
  have hHu : ∀ i, Hu i < 40 := hRI.2.2.2.1
  have hhn : hn ≤ 41 := hRI.2.2.2.2.1
  have hA1 : ∀ i, A1 i < 40 := hRI.2.2.2.2.2.1
  have hA2 : ∀ i, A2 i < 40 := hRI.2.2.2.2.2.2.1
  have hA3 : ∀ i, A3 i < 40 := hRI.2.2.2.2.2.2.2.1
  have hmn : mn ≤ 120 := hRI.2.2.2.2.2.2.2.2.1
  have hB1 : ∀ i, B1 i < 40 := hRI.2.2.2.2.2.2.2.2.2.1
  have hB2 : ∀ i, B2 i < 40 := hRI.2.2.2.2.2.2.2.2.2.2.1
  have hB3 : ∀ i, B3 i < 40 := hRI.2.2.2.2.2.2.2.2.2.2.2.1
  have hhh : hh ≤ 120 := hRI.2.2.2.2.2.2.2.2.2.2.2.2.1
  have hOr : ∀ i, Or i < 40 := hRI.2.2.2.2.2.2.2.2.2.2.2.2.2.1
  have hRo : ∀ i, Ro i < 40 := hRI.2.2.2.2.2.2.2.2.2.2.2.2.2.2.1
  have hNe : ∀ i, Ne i < 40 := hRI.2.2.2.2.2.2.2.2.2.2.2.2.2.2.2.1
  have hrn : rn ≤ 80 := hRI.2.2.2.2.2.2.2.2.2.2.2.2.2.2.2.2
  have hP : va_P D vwCl [(qq, .inr (4, [.ref r0, .ref rx, .ref ry, .ref rt, .int (J ((pn : Nat) : Int)), .int (J (b2i (kn))), .int (J (b2i (fl))), .ref rh, .ref ra, .ref rb, .ref rc, .int (J ((hn : Nat) : Int)), .int (J ((mn : Nat) : Int)), .int (J (b2i (hd))), .int (J (b2i (sd))), .ref sa, .ref sb, .ref sc, .int (J ((hh : Nat) : Int)), .int (J ((fp : Nat) : Int)), .ref so, .ref sr, .ref sw, .int (J ((rn : Nat) : Int))])), (r0, .inl (cI, 7, .inl (fun z9 => J ((Mr z9 : Nat) : Int)))), (rx, .inl (cI, 40, .inl (fun z9 => J (Px z9)))), (ry, .inl (cI, 40, .inl (fun z9 => J (Py z9)))), (rt, .inl (cZ, 40, .inl (fun z9 => J (b2i (Mt z9))))), (rh, .inl (cI, 41, .inl (fun z9 => J ((Hu z9 : Nat) : Int)))), (ra, .inl (cI, 120, .inl (fun z9 => J ((A1 z9 : Nat) : Int)))), (rb, .inl (cI, 120, .inl (fun z9 => J ((A2 z9 : Nat) : Int)))), (rc, .inl (cI, 120, .inl (fun z9 => J ((A3 z9 : Nat) : Int)))), (sa, .inl (cI, 120, .inl (fun z9 => J ((B1 z9 : Nat) : Int)))), (sb, .inl (cI, 120, .inl (fun z9 => J ((B2 z9 : Nat) : Int)))), (sc, .inl (cI, 120, .inl (fun z9 => J ((B3 z9 : Nat) : Int)))), (so, .inl (cI, 40, .inl (fun z9 => J ((Or z9 : Nat) : Int)))), (sr, .inl (cI, 80, .inl (fun z9 => J ((Ro z9 : Nat) : Int)))), (sw, .inl (cI, 80, .inl (fun z9 => J ((Ne z9 : Nat) : Int))))] s.heap := hP
  intro n
  induction n with
  | zero => intro i k hi0 hi1 hi2; omega
  | succ n ih =>
    intro i k hi0 hi1 hi2 rv hrv ls hl
    refine lv_iload_n C.1 C.2.1 dX4_here_4 rfl (lv_at hl 2 rfl) ?_
    refine lv_aload_n C.1 C.2.1 dX4_here_5 rfl (lv_at hl 0 rfl) ?_
    refine jv_get C fw_X4_58 hK hP 0 rfl rfl dX4_here_6 ?_
    refine jv_icmp_ge (tgt := 35) C dX4_here_9 (by decide) (by omega) (fun h1 => ?_) (fun h1 => ?_)
    · refine lv_iload_n C.1 C.2.1 dX4_here_35 rfl (lv_at hl 1 rfl) ?_
      exact jv_iret C hlk hr dX4_here_36 (by rw [hrv, cn_end (by omega)]; rfl)
    · refine lv_iload_n C.1 C.2.1 dX4_here_12 rfl (lv_at hl 1 rfl) ?_
      refine lv_aload_n C.1 C.2.1 dX4_here_13 rfl (lv_at hl 0 rfl) ?_
      refine jv_get C fw_X4_19 hK hP 0 rfl rfl dX4_here_14 ?_
      refine lv_iload_n C.1 C.2.1 dX4_here_17 rfl (lv_at hl 2 rfl) ?_
      refine jv_zald C hK hP 4 1 rfl rfl (i) (by omega) (by omega) (by decide) dX4_here_18 ?_
      refine jv_bif_eq (tgt := 26) C dX4_here_19 (by decide) (fun h2 => ?_) (fun h2 => ?_)
      · refine jv_iconst C dX4_here_26 ?_
        refine jv_iadd (z := ((k + 0 : Nat) : Int)) C dX4_here_27 (by omega) ?_
        refine lv_istore_n (lv' := [(1, .int (J ((k + 0 : Nat) : Int))), (0, .ref qq), (2, .int (J ((i : Nat) : Int)))]) C.1 C.2.1 dX4_here_28 rfl hl (by decide) rfl (fun ls hl => ?_)
        refine lv_iinc (v := J (((i + 1 : Nat) : Int))) (lv' := [(2, .int (J ((i + 1 : Nat) : Int))), (1, .int (J ((k + 0 : Nat) : Int))), (0, .ref qq)]) C.1 C.2.1 dX4_here_29 hl (k := 2) rfl (by rw [show Int32.ofInt 1 = J 1 from rfl, J_add]; exact congrArg J (by omega)) (by decide) rfl (fun ls hl => ?_)
        refine lv_goto (tgt := 4) C.1 C.2.1 dX4_here_32 (by decide) ?_
        exact ih (i + 1) (k + 0) (by omega) (by omega) (by omega) rv (by rw [hrv, cn_go (by omega) h2]; omega) ls (lv_sub hl [2, 1, 0] rfl)
      · refine jv_iconst C dX4_here_22 ?_
        refine lv_goto (tgt := 27) C.1 C.2.1 dX4_here_23 (by decide) ?_
        refine jv_iadd (z := ((k + 1 : Nat) : Int)) C dX4_here_27 (by omega) ?_
        refine lv_istore_n (lv' := [(1, .int (J ((k + 1 : Nat) : Int))), (0, .ref qq), (2, .int (J ((i : Nat) : Int)))]) C.1 C.2.1 dX4_here_28 rfl hl (by decide) rfl (fun ls hl => ?_)
        refine lv_iinc (v := J (((i + 1 : Nat) : Int))) (lv' := [(2, .int (J ((i + 1 : Nat) : Int))), (1, .int (J ((k + 1 : Nat) : Int))), (0, .ref qq)]) C.1 C.2.1 dX4_here_29 hl (k := 2) rfl (by rw [show Int32.ofInt 1 = J 1 from rfl, J_add]; exact congrArg J (by omega)) (by decide) rfl (fun ls hl => ?_)
        refine lv_goto (tgt := 4) C.1 C.2.1 dX4_here_32 (by decide) ?_
        exact ih (i + 1) (k + 1) (by omega) (by omega) (by omega) rv (by rw [hrv, cn_hit (by omega) h2]; omega) ls (lv_sub hl [2, 1, 0] rfl)
set_option maxRecDepth 20000 in
set_option maxHeartbeats 4000000 in
theorem c_X4_here  (hRI : RI ((Px, Py, Mt, pn), (kn, fl, Hu, hn, A1, A2, A3, mn), (hd, sd, B1, B2, B3, hh, fp), (Or, Ro, Ne, rn), Mr))  : cR l yX4_here cX4_here 3 (some .int) 0 0 D (tyz cI cZ) [.ref qq] (wRS cI cZ qq r0 rx ry rt rh ra rb rc sa sb sc so sr sw ((Px, Py, Mt, pn), (kn, fl, Hu, hn, A1, A2, A3, mn), (hd, sd, B1, B2, B3, hh, fp), (Or, Ro, Ne, rn), Mr)) (some (.int (J ((cn Mt pn 0 : Nat) : Int)))) := by
  refine cR_of (owner := RX4) rfl (by decide) (Nat.le_of_ble_eq_true rfl) ?_
  intro p e s m args below meth c ls C hlk hr hK hP hl
  have hl : lv_has ls 3 [(0, .ref qq)] := hl
  have hP : va_P D vwCl [(qq, .inr (4, [.ref r0, .ref rx, .ref ry, .ref rt, .int (J ((pn : Nat) : Int)), .int (J (b2i (kn))), .int (J (b2i (fl))), .ref rh, .ref ra, .ref rb, .ref rc, .int (J ((hn : Nat) : Int)), .int (J ((mn : Nat) : Int)), .int (J (b2i (hd))), .int (J (b2i (sd))), .ref sa, .ref sb, .ref sc, .int (J ((hh : Nat) : Int)), .int (J ((fp : Nat) : Int)), .ref so, .ref sr, .ref sw, .int (J ((rn : Nat) : Int))])), (r0, .inl (cI, 7, .inl (fun z9 => J ((Mr z9 : Nat) : Int)))), (rx, .inl (cI, 40, .inl (fun z9 => J (Px z9)))), (ry, .inl (cI, 40, .inl (fun z9 => J (Py z9)))), (rt, .inl (cZ, 40, .inl (fun z9 => J (b2i (Mt z9))))), (rh, .inl (cI, 41, .inl (fun z9 => J ((Hu z9 : Nat) : Int)))), (ra, .inl (cI, 120, .inl (fun z9 => J ((A1 z9 : Nat) : Int)))), (rb, .inl (cI, 120, .inl (fun z9 => J ((A2 z9 : Nat) : Int)))), (rc, .inl (cI, 120, .inl (fun z9 => J ((A3 z9 : Nat) : Int)))), (sa, .inl (cI, 120, .inl (fun z9 => J ((B1 z9 : Nat) : Int)))), (sb, .inl (cI, 120, .inl (fun z9 => J ((B2 z9 : Nat) : Int)))), (sc, .inl (cI, 120, .inl (fun z9 => J ((B3 z9 : Nat) : Int)))), (so, .inl (cI, 40, .inl (fun z9 => J ((Or z9 : Nat) : Int)))), (sr, .inl (cI, 80, .inl (fun z9 => J ((Ro z9 : Nat) : Int)))), (sw, .inl (cI, 80, .inl (fun z9 => J ((Ne z9 : Nat) : Int))))] s.heap := hP
  have hX : ∀ i, -10000 ≤ Px i ∧ Px i ≤ 10000 := hRI.1
  have hY : ∀ i, -10000 ≤ Py i ∧ Py i ≤ 10000 := hRI.2.1
  have hpn : pn ≤ 40 := hRI.2.2.1
  have hHu : ∀ i, Hu i < 40 := hRI.2.2.2.1
  have hhn : hn ≤ 41 := hRI.2.2.2.2.1
  have hA1 : ∀ i, A1 i < 40 := hRI.2.2.2.2.2.1
  have hA2 : ∀ i, A2 i < 40 := hRI.2.2.2.2.2.2.1
  have hA3 : ∀ i, A3 i < 40 := hRI.2.2.2.2.2.2.2.1
  have hmn : mn ≤ 120 := hRI.2.2.2.2.2.2.2.2.1
  have hB1 : ∀ i, B1 i < 40 := hRI.2.2.2.2.2.2.2.2.2.1
  have hB2 : ∀ i, B2 i < 40 := hRI.2.2.2.2.2.2.2.2.2.2.1
  have hB3 : ∀ i, B3 i < 40 := hRI.2.2.2.2.2.2.2.2.2.2.2.1
  have hhh : hh ≤ 120 := hRI.2.2.2.2.2.2.2.2.2.2.2.2.1
  have hOr : ∀ i, Or i < 40 := hRI.2.2.2.2.2.2.2.2.2.2.2.2.2.1
  have hRo : ∀ i, Ro i < 40 := hRI.2.2.2.2.2.2.2.2.2.2.2.2.2.2.1
  have hNe : ∀ i, Ne i < 40 := hRI.2.2.2.2.2.2.2.2.2.2.2.2.2.2.2.1
  have hrn : rn ≤ 80 := hRI.2.2.2.2.2.2.2.2.2.2.2.2.2.2.2.2
  refine jv_iconst C dX4_here_0 ?_
  refine lv_istore_n (lv' := [(1, .int (J 0)), (0, .ref qq)]) C.1 C.2.1 dX4_here_1 rfl hl (by decide) rfl (fun ls hl => ?_)
  refine jv_iconst C dX4_here_2 ?_
  refine lv_istore_n (lv' := [(2, .int (J 0)), (1, .int (J 0)), (0, .ref qq)]) C.1 C.2.1 dX4_here_3 rfl hl (by decide) rfl (fun ls hl => ?_)
  exact lp_X4_here_4 C hlk hr hK hP hRI (pn + 1) 0 0 (by omega) (by omega) (by omega) _ (by omega) ls (lv_sub hl [2, 1, 0] rfl)
set_option maxRecDepth 20000 in
set_option maxHeartbeats 4000000 in
theorem c_X4_isAhead {a b : Nat} (hRI : RI ((Px, Py, Mt, pn), (kn, fl, Hu, hn, A1, A2, A3, mn), (hd, sd, B1, B2, B3, hh, fp), (Or, Ro, Ne, rn), Mr)) (ha : a < 40) (hb : b < 40) : cR l yX4_isAhead cX4_isAhead 3 (some .boolean) 0 0 D (tyz cI cZ) [.ref qq, .int (J ((a : Nat) : Int)), .int (J ((b : Nat) : Int))] (wRS cI cZ qq r0 rx ry rt rh ra rb rc sa sb sc so sr sw ((Px, Py, Mt, pn), (kn, fl, Hu, hn, A1, A2, A3, mn), (hd, sd, B1, B2, B3, hh, fp), (Or, Ro, Ne, rn), Mr)) (some (.int (J (b2i (ear Px Py a b))))) := by
  refine cR_of (owner := RX4) rfl (by decide) (Nat.le_of_ble_eq_true rfl) ?_
  intro p e s m args below meth c ls C hlk hr hK hP hl
  have hl : lv_has ls 3 [(0, .ref qq), (1, .int (J ((a : Nat) : Int))), (2, .int (J ((b : Nat) : Int)))] := hl
  have hP : va_P D vwCl [(qq, .inr (4, [.ref r0, .ref rx, .ref ry, .ref rt, .int (J ((pn : Nat) : Int)), .int (J (b2i (kn))), .int (J (b2i (fl))), .ref rh, .ref ra, .ref rb, .ref rc, .int (J ((hn : Nat) : Int)), .int (J ((mn : Nat) : Int)), .int (J (b2i (hd))), .int (J (b2i (sd))), .ref sa, .ref sb, .ref sc, .int (J ((hh : Nat) : Int)), .int (J ((fp : Nat) : Int)), .ref so, .ref sr, .ref sw, .int (J ((rn : Nat) : Int))])), (r0, .inl (cI, 7, .inl (fun z9 => J ((Mr z9 : Nat) : Int)))), (rx, .inl (cI, 40, .inl (fun z9 => J (Px z9)))), (ry, .inl (cI, 40, .inl (fun z9 => J (Py z9)))), (rt, .inl (cZ, 40, .inl (fun z9 => J (b2i (Mt z9))))), (rh, .inl (cI, 41, .inl (fun z9 => J ((Hu z9 : Nat) : Int)))), (ra, .inl (cI, 120, .inl (fun z9 => J ((A1 z9 : Nat) : Int)))), (rb, .inl (cI, 120, .inl (fun z9 => J ((A2 z9 : Nat) : Int)))), (rc, .inl (cI, 120, .inl (fun z9 => J ((A3 z9 : Nat) : Int)))), (sa, .inl (cI, 120, .inl (fun z9 => J ((B1 z9 : Nat) : Int)))), (sb, .inl (cI, 120, .inl (fun z9 => J ((B2 z9 : Nat) : Int)))), (sc, .inl (cI, 120, .inl (fun z9 => J ((B3 z9 : Nat) : Int)))), (so, .inl (cI, 40, .inl (fun z9 => J ((Or z9 : Nat) : Int)))), (sr, .inl (cI, 80, .inl (fun z9 => J ((Ro z9 : Nat) : Int)))), (sw, .inl (cI, 80, .inl (fun z9 => J ((Ne z9 : Nat) : Int))))] s.heap := hP
  have hX : ∀ i, -10000 ≤ Px i ∧ Px i ≤ 10000 := hRI.1
  have hY : ∀ i, -10000 ≤ Py i ∧ Py i ≤ 10000 := hRI.2.1
  have hpn : pn ≤ 40 := hRI.2.2.1
  have hHu : ∀ i, Hu i < 40 := hRI.2.2.2.1
  have hhn : hn ≤ 41 := hRI.2.2.2.2.1
  have hA1 : ∀ i, A1 i < 40 := hRI.2.2.2.2.2.1
  have hA2 : ∀ i, A2 i < 40 := hRI.2.2.2.2.2.2.1
  have hA3 : ∀ i, A3 i < 40 := hRI.2.2.2.2.2.2.2.1
  have hmn : mn ≤ 120 := hRI.2.2.2.2.2.2.2.2.1
  have hB1 : ∀ i, B1 i < 40 := hRI.2.2.2.2.2.2.2.2.2.1
  have hB2 : ∀ i, B2 i < 40 := hRI.2.2.2.2.2.2.2.2.2.2.1
  have hB3 : ∀ i, B3 i < 40 := hRI.2.2.2.2.2.2.2.2.2.2.2.1
  have hhh : hh ≤ 120 := hRI.2.2.2.2.2.2.2.2.2.2.2.2.1
  have hOr : ∀ i, Or i < 40 := hRI.2.2.2.2.2.2.2.2.2.2.2.2.2.1
  have hRo : ∀ i, Ro i < 40 := hRI.2.2.2.2.2.2.2.2.2.2.2.2.2.2.1
  have hNe : ∀ i, Ne i < 40 := hRI.2.2.2.2.2.2.2.2.2.2.2.2.2.2.2.1
  have hrn : rn ≤ 80 := hRI.2.2.2.2.2.2.2.2.2.2.2.2.2.2.2.2
  refine lv_aload_n C.1 C.2.1 dX4_isAhead_0 rfl (lv_at hl 0 rfl) ?_
  refine jv_get C fw_X4_13 hK hP 0 rfl rfl dX4_isAhead_1 ?_
  refine lv_iload_n C.1 C.2.1 dX4_isAhead_4 rfl (lv_at hl 1 rfl) ?_
  refine jv_iald C hK hP 2 0 rfl rfl (a) (by omega) (by omega) (by decide) dX4_isAhead_5 ?_
  have f1 := hX a
  refine lv_aload_n C.1 C.2.1 dX4_isAhead_6 rfl (lv_at hl 0 rfl) ?_
  refine jv_get C fw_X4_13 hK hP 0 rfl rfl dX4_isAhead_7 ?_
  refine lv_iload_n C.1 C.2.1 dX4_isAhead_10 rfl (lv_at hl 2 rfl) ?_
  refine jv_iald C hK hP 2 0 rfl rfl (b) (by omega) (by omega) (by decide) dX4_isAhead_11 ?_
  have f2 := hX b
  refine jv_icmp_eq (tgt := 38) C dX4_isAhead_12 (by decide) (by omega) (fun h3 => ?_) (fun h3 => ?_)
  · refine lv_aload_n C.1 C.2.1 dX4_isAhead_38 rfl (lv_at hl 0 rfl) ?_
    refine jv_get C fw_X4_16 hK hP 0 rfl rfl dX4_isAhead_39 ?_
    refine lv_iload_n C.1 C.2.1 dX4_isAhead_42 rfl (lv_at hl 1 rfl) ?_
    refine jv_iald C hK hP 3 0 rfl rfl (a) (by omega) (by omega) (by decide) dX4_isAhead_43 ?_
    have f4 := hY a
    refine lv_aload_n C.1 C.2.1 dX4_isAhead_44 rfl (lv_at hl 0 rfl) ?_
    refine jv_get C fw_X4_16 hK hP 0 rfl rfl dX4_isAhead_45 ?_
    refine lv_iload_n C.1 C.2.1 dX4_isAhead_48 rfl (lv_at hl 2 rfl) ?_
    refine jv_iald C hK hP 3 0 rfl rfl (b) (by omega) (by omega) (by decide) dX4_isAhead_49 ?_
    have f5 := hY b
    refine jv_icmp_ge (tgt := 57) C dX4_isAhead_50 (by decide) (by omega) (fun h6 => ?_) (fun h6 => ?_)
    · refine jv_iconst C dX4_isAhead_57 ?_
      exact jv_zret C hlk hr dX4_isAhead_58 (by unfold ear; first | (rw [decide_eq_true (p := Px a < Px b) (by omega)]; rfl) | (rw [decide_eq_false (p := Px a < Px b) (by omega), decide_eq_false (p := Px a = Px b) (by omega)]; rfl) | (rw [decide_eq_false (p := Px a < Px b) (by omega), decide_eq_true (p := Px a = Px b) (by omega), decide_eq_true (p := Py a < Py b) (by omega)]; rfl) | (rw [decide_eq_false (p := Px a < Px b) (by omega), decide_eq_true (p := Px a = Px b) (by omega), decide_eq_false (p := Py a < Py b) (by omega)]; rfl))
    · refine jv_iconst C dX4_isAhead_53 ?_
      refine lv_goto (tgt := 58) C.1 C.2.1 dX4_isAhead_54 (by decide) ?_
      exact jv_zret C hlk hr dX4_isAhead_58 (by unfold ear; first | (rw [decide_eq_true (p := Px a < Px b) (by omega)]; rfl) | (rw [decide_eq_false (p := Px a < Px b) (by omega), decide_eq_false (p := Px a = Px b) (by omega)]; rfl) | (rw [decide_eq_false (p := Px a < Px b) (by omega), decide_eq_true (p := Px a = Px b) (by omega), decide_eq_true (p := Py a < Py b) (by omega)]; rfl) | (rw [decide_eq_false (p := Px a < Px b) (by omega), decide_eq_true (p := Px a = Px b) (by omega), decide_eq_false (p := Py a < Py b) (by omega)]; rfl))
  · refine lv_aload_n C.1 C.2.1 dX4_isAhead_15 rfl (lv_at hl 0 rfl) ?_
    refine jv_get C fw_X4_13 hK hP 0 rfl rfl dX4_isAhead_16 ?_
    refine lv_iload_n C.1 C.2.1 dX4_isAhead_19 rfl (lv_at hl 1 rfl) ?_
    refine jv_iald C hK hP 2 0 rfl rfl (a) (by omega) (by omega) (by decide) dX4_isAhead_20 ?_
    have f7 := hX a
    refine lv_aload_n C.1 C.2.1 dX4_isAhead_21 rfl (lv_at hl 0 rfl) ?_
    refine jv_get C fw_X4_13 hK hP 0 rfl rfl dX4_isAhead_22 ?_
    refine lv_iload_n C.1 C.2.1 dX4_isAhead_25 rfl (lv_at hl 2 rfl) ?_
    refine jv_iald C hK hP 2 0 rfl rfl (b) (by omega) (by omega) (by decide) dX4_isAhead_26 ?_
    have f8 := hX b
    refine jv_icmp_ge (tgt := 34) C dX4_isAhead_27 (by decide) (by omega) (fun h9 => ?_) (fun h9 => ?_)
    · refine jv_iconst C dX4_isAhead_34 ?_
      refine lv_goto (tgt := 58) C.1 C.2.1 dX4_isAhead_35 (by decide) ?_
      exact jv_zret C hlk hr dX4_isAhead_58 (by unfold ear; first | (rw [decide_eq_true (p := Px a < Px b) (by omega)]; rfl) | (rw [decide_eq_false (p := Px a < Px b) (by omega), decide_eq_false (p := Px a = Px b) (by omega)]; rfl) | (rw [decide_eq_false (p := Px a < Px b) (by omega), decide_eq_true (p := Px a = Px b) (by omega), decide_eq_true (p := Py a < Py b) (by omega)]; rfl) | (rw [decide_eq_false (p := Px a < Px b) (by omega), decide_eq_true (p := Px a = Px b) (by omega), decide_eq_false (p := Py a < Py b) (by omega)]; rfl))
    · refine jv_iconst C dX4_isAhead_30 ?_
      refine lv_goto (tgt := 58) C.1 C.2.1 dX4_isAhead_31 (by decide) ?_
      exact jv_zret C hlk hr dX4_isAhead_58 (by unfold ear; first | (rw [decide_eq_true (p := Px a < Px b) (by omega)]; rfl) | (rw [decide_eq_false (p := Px a < Px b) (by omega), decide_eq_false (p := Px a = Px b) (by omega)]; rfl) | (rw [decide_eq_false (p := Px a < Px b) (by omega), decide_eq_true (p := Px a = Px b) (by omega), decide_eq_true (p := Py a < Py b) (by omega)]; rfl) | (rw [decide_eq_false (p := Px a < Px b) (by omega), decide_eq_true (p := Px a = Px b) (by omega), decide_eq_false (p := Py a < Py b) (by omega)]; rfl))
set_option maxRecDepth 20000 in
set_option maxHeartbeats 4000000 in
theorem c_X4_farOf {x y : Int} {a : Nat} (hRI : RI ((Px, Py, Mt, pn), (kn, fl, Hu, hn, A1, A2, A3, mn), (hd, sd, B1, B2, B3, hh, fp), (Or, Ro, Ne, rn), Mr)) (hx : -10000 ≤ x ∧ x ≤ 10000) (hy : -10000 ≤ y ∧ y ≤ 10000) (ha : a < 40) : cR l yX4_farOf cX4_farOf 4 (some .long) 0 0 D (tyz cI cZ) [.ref qq, .int (J x), .int (J y), .int (J ((a : Nat) : Int))] (wRS cI cZ qq r0 rx ry rt rh ra rb rc sa sb sc so sr sw ((Px, Py, Mt, pn), (kn, fl, Hu, hn, A1, A2, A3, mn), (hd, sd, B1, B2, B3, hh, fp), (Or, Ro, Ne, rn), Mr)) (some (.long (Lg (sq Px Py a x y)))) := by
  refine cR_of (owner := RX4) rfl (by decide) (Nat.le_of_ble_eq_true rfl) ?_
  intro p e s m args below meth c ls C hlk hr hK hP hl
  have hl : lv_has ls 4 [(0, .ref qq), (1, .int (J x)), (2, .int (J y)), (3, .int (J ((a : Nat) : Int)))] := hl
  have hP : va_P D vwCl [(qq, .inr (4, [.ref r0, .ref rx, .ref ry, .ref rt, .int (J ((pn : Nat) : Int)), .int (J (b2i (kn))), .int (J (b2i (fl))), .ref rh, .ref ra, .ref rb, .ref rc, .int (J ((hn : Nat) : Int)), .int (J ((mn : Nat) : Int)), .int (J (b2i (hd))), .int (J (b2i (sd))), .ref sa, .ref sb, .ref sc, .int (J ((hh : Nat) : Int)), .int (J ((fp : Nat) : Int)), .ref so, .ref sr, .ref sw, .int (J ((rn : Nat) : Int))])), (r0, .inl (cI, 7, .inl (fun z9 => J ((Mr z9 : Nat) : Int)))), (rx, .inl (cI, 40, .inl (fun z9 => J (Px z9)))), (ry, .inl (cI, 40, .inl (fun z9 => J (Py z9)))), (rt, .inl (cZ, 40, .inl (fun z9 => J (b2i (Mt z9))))), (rh, .inl (cI, 41, .inl (fun z9 => J ((Hu z9 : Nat) : Int)))), (ra, .inl (cI, 120, .inl (fun z9 => J ((A1 z9 : Nat) : Int)))), (rb, .inl (cI, 120, .inl (fun z9 => J ((A2 z9 : Nat) : Int)))), (rc, .inl (cI, 120, .inl (fun z9 => J ((A3 z9 : Nat) : Int)))), (sa, .inl (cI, 120, .inl (fun z9 => J ((B1 z9 : Nat) : Int)))), (sb, .inl (cI, 120, .inl (fun z9 => J ((B2 z9 : Nat) : Int)))), (sc, .inl (cI, 120, .inl (fun z9 => J ((B3 z9 : Nat) : Int)))), (so, .inl (cI, 40, .inl (fun z9 => J ((Or z9 : Nat) : Int)))), (sr, .inl (cI, 80, .inl (fun z9 => J ((Ro z9 : Nat) : Int)))), (sw, .inl (cI, 80, .inl (fun z9 => J ((Ne z9 : Nat) : Int))))] s.heap := hP
  have hX : ∀ i, -10000 ≤ Px i ∧ Px i ≤ 10000 := hRI.1
  have hY : ∀ i, -10000 ≤ Py i ∧ Py i ≤ 10000 := hRI.2.1
  have hpn : pn ≤ 40 := hRI.2.2.1
  have hHu : ∀ i, Hu i < 40 := hRI.2.2.2.1
  have hhn : hn ≤ 41 := hRI.2.2.2.2.1
  have hA1 : ∀ i, A1 i < 40 := hRI.2.2.2.2.2.1
  have hA2 : ∀ i, A2 i < 40 := hRI.2.2.2.2.2.2.1
  have hA3 : ∀ i, A3 i < 40 := hRI.2.2.2.2.2.2.2.1
  have hmn : mn ≤ 120 := hRI.2.2.2.2.2.2.2.2.1
  have hB1 : ∀ i, B1 i < 40 := hRI.2.2.2.2.2.2.2.2.2.1
  have hB2 : ∀ i, B2 i < 40 := hRI.2.2.2.2.2.2.2.2.2.2.1
  have hB3 : ∀ i, B3 i < 40 := hRI.2.2.2.2.2.2.2.2.2.2.2.1
  have hhh : hh ≤ 120 := hRI.2.2.2.2.2.2.2.2.2.2.2.2.1
  have hOr : ∀ i, Or i < 40 := hRI.2.2.2.2.2.2.2.2.2.2.2.2.2.1
  have hRo : ∀ i, Ro i < 40 := hRI.2.2.2.2.2.2.2.2.2.2.2.2.2.2.1
  have hNe : ∀ i, Ne i < 40 := hRI.2.2.2.2.2.2.2.2.2.2.2.2.2.2.2.1
  have hrn : rn ≤ 80 := hRI.2.2.2.2.2.2.2.2.2.2.2.2.2.2.2.2
  refine lv_aload_n C.1 C.2.1 dX4_farOf_0 rfl (lv_at hl 0 rfl) ?_
  refine jv_get C fw_X4_13 hK hP 0 rfl rfl dX4_farOf_1 ?_
  refine lv_iload_n C.1 C.2.1 dX4_farOf_4 rfl (lv_at hl 3 rfl) ?_
  refine jv_iald C hK hP 2 0 rfl rfl (a) (by omega) (by omega) (by decide) dX4_farOf_5 ?_
  have f1 := hX a
  refine lv_iload_n C.1 C.2.1 dX4_farOf_6 rfl (lv_at hl 1 rfl) ?_
  refine jv_isub (z := (Px a) - x) C dX4_farOf_7 (rfl) ?_
  refine jv_i2l C dX4_farOf_8 (by omega) ?_
  refine lv_aload_n C.1 C.2.1 dX4_farOf_9 rfl (lv_at hl 0 rfl) ?_
  refine jv_get C fw_X4_13 hK hP 0 rfl rfl dX4_farOf_10 ?_
  refine lv_iload_n C.1 C.2.1 dX4_farOf_13 rfl (lv_at hl 3 rfl) ?_
  refine jv_iald C hK hP 2 0 rfl rfl (a) (by omega) (by omega) (by decide) dX4_farOf_14 ?_
  have f2 := hX a
  refine lv_iload_n C.1 C.2.1 dX4_farOf_15 rfl (lv_at hl 1 rfl) ?_
  refine jv_isub (z := (Px a) - x) C dX4_farOf_16 (rfl) ?_
  refine jv_i2l C dX4_farOf_17 (by omega) ?_
  refine jv_lmul (z := ((Px a) - x) * ((Px a) - x)) C dX4_farOf_18 (rfl) ?_
  refine lv_aload_n C.1 C.2.1 dX4_farOf_19 rfl (lv_at hl 0 rfl) ?_
  refine jv_get C fw_X4_16 hK hP 0 rfl rfl dX4_farOf_20 ?_
  refine lv_iload_n C.1 C.2.1 dX4_farOf_23 rfl (lv_at hl 3 rfl) ?_
  refine jv_iald C hK hP 3 0 rfl rfl (a) (by omega) (by omega) (by decide) dX4_farOf_24 ?_
  have f3 := hY a
  refine lv_iload_n C.1 C.2.1 dX4_farOf_25 rfl (lv_at hl 2 rfl) ?_
  refine jv_isub (z := (Py a) - y) C dX4_farOf_26 (rfl) ?_
  refine jv_i2l C dX4_farOf_27 (by omega) ?_
  refine lv_aload_n C.1 C.2.1 dX4_farOf_28 rfl (lv_at hl 0 rfl) ?_
  refine jv_get C fw_X4_16 hK hP 0 rfl rfl dX4_farOf_29 ?_
  refine lv_iload_n C.1 C.2.1 dX4_farOf_32 rfl (lv_at hl 3 rfl) ?_
  refine jv_iald C hK hP 3 0 rfl rfl (a) (by omega) (by omega) (by decide) dX4_farOf_33 ?_
  have f4 := hY a
  refine lv_iload_n C.1 C.2.1 dX4_farOf_34 rfl (lv_at hl 2 rfl) ?_
  refine jv_isub (z := (Py a) - y) C dX4_farOf_35 (rfl) ?_
  refine jv_i2l C dX4_farOf_36 (by omega) ?_
  refine jv_lmul (z := ((Py a) - y) * ((Py a) - y)) C dX4_farOf_37 (rfl) ?_
  refine jv_ladd (z := (((Px a) - x) * ((Px a) - x)) + (((Py a) - y) * ((Py a) - y))) C dX4_farOf_38 (rfl) ?_
  exact jv_lret C hlk hr dX4_farOf_39 (rfl)
set_option maxRecDepth 20000 in
set_option maxHeartbeats 4000000 in
theorem c_X4_far {a b : Nat} (hRI : RI ((Px, Py, Mt, pn), (kn, fl, Hu, hn, A1, A2, A3, mn), (hd, sd, B1, B2, B3, hh, fp), (Or, Ro, Ne, rn), Mr)) (ha : a < 40) (hb : b < 40) : cR l yX4_far cX4_far 3 (some .long) 1 23 D (tyz cI cZ) [.ref qq, .int (J ((a : Nat) : Int)), .int (J ((b : Nat) : Int))] (wRS cI cZ qq r0 rx ry rt rh ra rb rc sa sb sc so sr sw ((Px, Py, Mt, pn), (kn, fl, Hu, hn, A1, A2, A3, mn), (hd, sd, B1, B2, B3, hh, fp), (Or, Ro, Ne, rn), Mr)) (some (.long (Lg (sq Px Py b (Px a) (Py a))))) := by
  refine cR_of (owner := RX4) rfl (by decide) (Nat.le_of_ble_eq_true rfl) ?_
  intro p e s m args below meth c ls C hlk hr hK hP hl
  have hl : lv_has ls 3 [(0, .ref qq), (1, .int (J ((a : Nat) : Int))), (2, .int (J ((b : Nat) : Int)))] := hl
  have hP : va_P D vwCl [(qq, .inr (4, [.ref r0, .ref rx, .ref ry, .ref rt, .int (J ((pn : Nat) : Int)), .int (J (b2i (kn))), .int (J (b2i (fl))), .ref rh, .ref ra, .ref rb, .ref rc, .int (J ((hn : Nat) : Int)), .int (J ((mn : Nat) : Int)), .int (J (b2i (hd))), .int (J (b2i (sd))), .ref sa, .ref sb, .ref sc, .int (J ((hh : Nat) : Int)), .int (J ((fp : Nat) : Int)), .ref so, .ref sr, .ref sw, .int (J ((rn : Nat) : Int))])), (r0, .inl (cI, 7, .inl (fun z9 => J ((Mr z9 : Nat) : Int)))), (rx, .inl (cI, 40, .inl (fun z9 => J (Px z9)))), (ry, .inl (cI, 40, .inl (fun z9 => J (Py z9)))), (rt, .inl (cZ, 40, .inl (fun z9 => J (b2i (Mt z9))))), (rh, .inl (cI, 41, .inl (fun z9 => J ((Hu z9 : Nat) : Int)))), (ra, .inl (cI, 120, .inl (fun z9 => J ((A1 z9 : Nat) : Int)))), (rb, .inl (cI, 120, .inl (fun z9 => J ((A2 z9 : Nat) : Int)))), (rc, .inl (cI, 120, .inl (fun z9 => J ((A3 z9 : Nat) : Int)))), (sa, .inl (cI, 120, .inl (fun z9 => J ((B1 z9 : Nat) : Int)))), (sb, .inl (cI, 120, .inl (fun z9 => J ((B2 z9 : Nat) : Int)))), (sc, .inl (cI, 120, .inl (fun z9 => J ((B3 z9 : Nat) : Int)))), (so, .inl (cI, 40, .inl (fun z9 => J ((Or z9 : Nat) : Int)))), (sr, .inl (cI, 80, .inl (fun z9 => J ((Ro z9 : Nat) : Int)))), (sw, .inl (cI, 80, .inl (fun z9 => J ((Ne z9 : Nat) : Int))))] s.heap := hP
  have hX : ∀ i, -10000 ≤ Px i ∧ Px i ≤ 10000 := hRI.1
  have hY : ∀ i, -10000 ≤ Py i ∧ Py i ≤ 10000 := hRI.2.1
  have hpn : pn ≤ 40 := hRI.2.2.1
  have hHu : ∀ i, Hu i < 40 := hRI.2.2.2.1
  have hhn : hn ≤ 41 := hRI.2.2.2.2.1
  have hA1 : ∀ i, A1 i < 40 := hRI.2.2.2.2.2.1
  have hA2 : ∀ i, A2 i < 40 := hRI.2.2.2.2.2.2.1
  have hA3 : ∀ i, A3 i < 40 := hRI.2.2.2.2.2.2.2.1
  have hmn : mn ≤ 120 := hRI.2.2.2.2.2.2.2.2.1
  have hB1 : ∀ i, B1 i < 40 := hRI.2.2.2.2.2.2.2.2.2.1
  have hB2 : ∀ i, B2 i < 40 := hRI.2.2.2.2.2.2.2.2.2.2.1
  have hB3 : ∀ i, B3 i < 40 := hRI.2.2.2.2.2.2.2.2.2.2.2.1
  have hhh : hh ≤ 120 := hRI.2.2.2.2.2.2.2.2.2.2.2.2.1
  have hOr : ∀ i, Or i < 40 := hRI.2.2.2.2.2.2.2.2.2.2.2.2.2.1
  have hRo : ∀ i, Ro i < 40 := hRI.2.2.2.2.2.2.2.2.2.2.2.2.2.2.1
  have hNe : ∀ i, Ne i < 40 := hRI.2.2.2.2.2.2.2.2.2.2.2.2.2.2.2.1
  have hrn : rn ≤ 80 := hRI.2.2.2.2.2.2.2.2.2.2.2.2.2.2.2.2
  refine lv_aload_n C.1 C.2.1 dX4_far_0 rfl (lv_at hl 0 rfl) ?_
  refine lv_aload_n C.1 C.2.1 dX4_far_1 rfl (lv_at hl 0 rfl) ?_
  refine jv_get C fw_X4_13 hK hP 0 rfl rfl dX4_far_2 ?_
  refine lv_iload_n C.1 C.2.1 dX4_far_5 rfl (lv_at hl 1 rfl) ?_
  refine jv_iald C hK hP 2 0 rfl rfl (a) (by omega) (by omega) (by decide) dX4_far_6 ?_
  have f1 := hX a
  refine lv_aload_n C.1 C.2.1 dX4_far_7 rfl (lv_at hl 0 rfl) ?_
  refine jv_get C fw_X4_16 hK hP 0 rfl rfl dX4_far_8 ?_
  refine lv_iload_n C.1 C.2.1 dX4_far_11 rfl (lv_at hl 1 rfl) ?_
  refine jv_iald C hK hP 3 0 rfl rfl (a) (by omega) (by omega) (by decide) dX4_far_12 ?_
  have f2 := hY a
  refine lv_iload_n C.1 C.2.1 dX4_far_13 rfl (lv_at hl 2 rfl) ?_
  refine jv_rdV (ni := 3) (ci := 4) (q0 := 0) C [.int (J (Px a)), .int (J (Py a)), .int (J ((b : Nat) : Int))] [] (c_X4_farOf (Px := Px) (Py := Py) (Mt := Mt) (pn := pn) (kn := kn) (fl := fl) (Hu := Hu) (hn := hn) (A1 := A1) (A2 := A2) (A3 := A3) (mn := mn) (hd := hd) (sd := sd) (B1 := B1) (B2 := B2) (B3 := B3) (hh := hh) (fp := fp) (Or := Or) (Ro := Ro) (Ne := Ne) (rn := rn) (Mr := Mr) hRI (x := Px a) (y := Py a) (a := b) (by omega) (by omega) (by omega)) gv_X4_135 (by decide +kernel) (by decide) hK (hP) rfl rfl rfl hl.1 (by simp [Value.category]) dX4_far_14 (by decide) ?_ rfl
  show W _ _ _ _ _ _ _ _ _ _ _ _ _ _ _ (F0 m 17 ls [.long (Lg (sq Px Py b (Px a) (Py a)))])
  have f3 := sq_bd hX hY b (x := Px a) (y := Py a) (by omega) (by omega)
  exact jv_lret C hlk hr dX4_far_17 (rfl)
set_option maxRecDepth 20000 in
set_option maxHeartbeats 4000000 in
theorem c_X4_isUpper {a b : Nat} (hRI : RI ((Px, Py, Mt, pn), (kn, fl, Hu, hn, A1, A2, A3, mn), (hd, sd, B1, B2, B3, hh, fp), (Or, Ro, Ne, rn), Mr)) (ha : a < 40) (hb : b < 40) : cR l yX4_isUpper cX4_isUpper 3 (some .boolean) 0 0 D (tyz cI cZ) [.ref qq, .int (J ((a : Nat) : Int)), .int (J ((b : Nat) : Int))] (wRS cI cZ qq r0 rx ry rt rh ra rb rc sa sb sc so sr sw ((Px, Py, Mt, pn), (kn, fl, Hu, hn, A1, A2, A3, mn), (hd, sd, B1, B2, B3, hh, fp), (Or, Ro, Ne, rn), Mr)) (some (.int (J (b2i (upp Px Py a b))))) := by
  refine cR_of (owner := RX4) rfl (by decide) (Nat.le_of_ble_eq_true rfl) ?_
  intro p e s m args below meth c ls C hlk hr hK hP hl
  have hl : lv_has ls 3 [(0, .ref qq), (1, .int (J ((a : Nat) : Int))), (2, .int (J ((b : Nat) : Int)))] := hl
  have hP : va_P D vwCl [(qq, .inr (4, [.ref r0, .ref rx, .ref ry, .ref rt, .int (J ((pn : Nat) : Int)), .int (J (b2i (kn))), .int (J (b2i (fl))), .ref rh, .ref ra, .ref rb, .ref rc, .int (J ((hn : Nat) : Int)), .int (J ((mn : Nat) : Int)), .int (J (b2i (hd))), .int (J (b2i (sd))), .ref sa, .ref sb, .ref sc, .int (J ((hh : Nat) : Int)), .int (J ((fp : Nat) : Int)), .ref so, .ref sr, .ref sw, .int (J ((rn : Nat) : Int))])), (r0, .inl (cI, 7, .inl (fun z9 => J ((Mr z9 : Nat) : Int)))), (rx, .inl (cI, 40, .inl (fun z9 => J (Px z9)))), (ry, .inl (cI, 40, .inl (fun z9 => J (Py z9)))), (rt, .inl (cZ, 40, .inl (fun z9 => J (b2i (Mt z9))))), (rh, .inl (cI, 41, .inl (fun z9 => J ((Hu z9 : Nat) : Int)))), (ra, .inl (cI, 120, .inl (fun z9 => J ((A1 z9 : Nat) : Int)))), (rb, .inl (cI, 120, .inl (fun z9 => J ((A2 z9 : Nat) : Int)))), (rc, .inl (cI, 120, .inl (fun z9 => J ((A3 z9 : Nat) : Int)))), (sa, .inl (cI, 120, .inl (fun z9 => J ((B1 z9 : Nat) : Int)))), (sb, .inl (cI, 120, .inl (fun z9 => J ((B2 z9 : Nat) : Int)))), (sc, .inl (cI, 120, .inl (fun z9 => J ((B3 z9 : Nat) : Int)))), (so, .inl (cI, 40, .inl (fun z9 => J ((Or z9 : Nat) : Int)))), (sr, .inl (cI, 80, .inl (fun z9 => J ((Ro z9 : Nat) : Int)))), (sw, .inl (cI, 80, .inl (fun z9 => J ((Ne z9 : Nat) : Int))))] s.heap := hP
  have hX : ∀ i, -10000 ≤ Px i ∧ Px i ≤ 10000 := hRI.1
  have hY : ∀ i, -10000 ≤ Py i ∧ Py i ≤ 10000 := hRI.2.1
  have hpn : pn ≤ 40 := hRI.2.2.1
  have hHu : ∀ i, Hu i < 40 := hRI.2.2.2.1
  have hhn : hn ≤ 41 := hRI.2.2.2.2.1
  have hA1 : ∀ i, A1 i < 40 := hRI.2.2.2.2.2.1
  have hA2 : ∀ i, A2 i < 40 := hRI.2.2.2.2.2.2.1
  have hA3 : ∀ i, A3 i < 40 := hRI.2.2.2.2.2.2.2.1
  have hmn : mn ≤ 120 := hRI.2.2.2.2.2.2.2.2.1
  have hB1 : ∀ i, B1 i < 40 := hRI.2.2.2.2.2.2.2.2.2.1
  have hB2 : ∀ i, B2 i < 40 := hRI.2.2.2.2.2.2.2.2.2.2.1
  have hB3 : ∀ i, B3 i < 40 := hRI.2.2.2.2.2.2.2.2.2.2.2.1
  have hhh : hh ≤ 120 := hRI.2.2.2.2.2.2.2.2.2.2.2.2.1
  have hOr : ∀ i, Or i < 40 := hRI.2.2.2.2.2.2.2.2.2.2.2.2.2.1
  have hRo : ∀ i, Ro i < 40 := hRI.2.2.2.2.2.2.2.2.2.2.2.2.2.2.1
  have hNe : ∀ i, Ne i < 40 := hRI.2.2.2.2.2.2.2.2.2.2.2.2.2.2.2.1
  have hrn : rn ≤ 80 := hRI.2.2.2.2.2.2.2.2.2.2.2.2.2.2.2.2
  refine lv_aload_n C.1 C.2.1 dX4_isUpper_0 rfl (lv_at hl 0 rfl) ?_
  refine jv_get C fw_X4_16 hK hP 0 rfl rfl dX4_isUpper_1 ?_
  refine lv_iload_n C.1 C.2.1 dX4_isUpper_4 rfl (lv_at hl 2 rfl) ?_
  refine jv_iald C hK hP 3 0 rfl rfl (b) (by omega) (by omega) (by decide) dX4_isUpper_5 ?_
  have f1 := hY b
  refine lv_aload_n C.1 C.2.1 dX4_isUpper_6 rfl (lv_at hl 0 rfl) ?_
  refine jv_get C fw_X4_16 hK hP 0 rfl rfl dX4_isUpper_7 ?_
  refine lv_iload_n C.1 C.2.1 dX4_isUpper_10 rfl (lv_at hl 1 rfl) ?_
  refine jv_iald C hK hP 3 0 rfl rfl (a) (by omega) (by omega) (by decide) dX4_isUpper_11 ?_
  have f2 := hY a
  refine jv_icmp_gt (tgt := 45) C dX4_isUpper_12 (by decide) (by omega) (fun h3 => ?_) (fun h3 => ?_)
  · refine jv_iconst C dX4_isUpper_45 ?_
    refine lv_goto (tgt := 50) C.1 C.2.1 dX4_isUpper_46 (by decide) ?_
    exact jv_zret C hlk hr dX4_isUpper_50 (by clear hP hK hl C; grind [upp, b2i])
  · refine lv_aload_n C.1 C.2.1 dX4_isUpper_15 rfl (lv_at hl 0 rfl) ?_
    refine jv_get C fw_X4_16 hK hP 0 rfl rfl dX4_isUpper_16 ?_
    refine lv_iload_n C.1 C.2.1 dX4_isUpper_19 rfl (lv_at hl 2 rfl) ?_
    refine jv_iald C hK hP 3 0 rfl rfl (b) (by omega) (by omega) (by decide) dX4_isUpper_20 ?_
    have f4 := hY b
    refine lv_aload_n C.1 C.2.1 dX4_isUpper_21 rfl (lv_at hl 0 rfl) ?_
    refine jv_get C fw_X4_16 hK hP 0 rfl rfl dX4_isUpper_22 ?_
    refine lv_iload_n C.1 C.2.1 dX4_isUpper_25 rfl (lv_at hl 1 rfl) ?_
    refine jv_iald C hK hP 3 0 rfl rfl (a) (by omega) (by omega) (by decide) dX4_isUpper_26 ?_
    have f5 := hY a
    refine jv_icmp_ne (tgt := 49) C dX4_isUpper_27 (by decide) (by omega) (fun h6 => ?_) (fun h6 => ?_)
    · refine jv_iconst C dX4_isUpper_49 ?_
      exact jv_zret C hlk hr dX4_isUpper_50 (by clear hP hK hl C; grind [upp, b2i])
    · refine lv_aload_n C.1 C.2.1 dX4_isUpper_30 rfl (lv_at hl 0 rfl) ?_
      refine jv_get C fw_X4_13 hK hP 0 rfl rfl dX4_isUpper_31 ?_
      refine lv_iload_n C.1 C.2.1 dX4_isUpper_34 rfl (lv_at hl 2 rfl) ?_
      refine jv_iald C hK hP 2 0 rfl rfl (b) (by omega) (by omega) (by decide) dX4_isUpper_35 ?_
      have f7 := hX b
      refine lv_aload_n C.1 C.2.1 dX4_isUpper_36 rfl (lv_at hl 0 rfl) ?_
      refine jv_get C fw_X4_13 hK hP 0 rfl rfl dX4_isUpper_37 ?_
      refine lv_iload_n C.1 C.2.1 dX4_isUpper_40 rfl (lv_at hl 1 rfl) ?_
      refine jv_iald C hK hP 2 0 rfl rfl (a) (by omega) (by omega) (by decide) dX4_isUpper_41 ?_
      have f8 := hX a
      refine jv_icmp_le (tgt := 49) C dX4_isUpper_42 (by decide) (by omega) (fun h9 => ?_) (fun h9 => ?_)
      · refine jv_iconst C dX4_isUpper_49 ?_
        exact jv_zret C hlk hr dX4_isUpper_50 (by clear hP hK hl C; grind [upp, b2i])
      · refine jv_iconst C dX4_isUpper_45 ?_
        refine lv_goto (tgt := 50) C.1 C.2.1 dX4_isUpper_46 (by decide) ?_
        exact jv_zret C hlk hr dX4_isUpper_50 (by clear hP hK hl C; grind [upp, b2i])
set_option maxRecDepth 20000 in
set_option maxHeartbeats 4000000 in
theorem c_X4_isBefore {a b k : Nat} (hRI : RI ((Px, Py, Mt, pn), (kn, fl, Hu, hn, A1, A2, A3, mn), (hd, sd, B1, B2, B3, hh, fp), (Or, Ro, Ne, rn), Mr)) (ha : a < 40) (hb : b < 40) (hk : k < 40) : cR l yX4_isBefore cX4_isBefore 5 (some .boolean) 3 69 D (tyz cI cZ) [.ref qq, .int (J ((a : Nat) : Int)), .int (J ((b : Nat) : Int)), .int (J ((k : Nat) : Int))] (wRS cI cZ qq r0 rx ry rt rh ra rb rc sa sb sc so sr sw ((Px, Py, Mt, pn), (kn, fl, Hu, hn, A1, A2, A3, mn), (hd, sd, B1, B2, B3, hh, fp), (Or, Ro, Ne, rn), Mr)) (some (.int (J (b2i (bfr Px Py a b k))))) := by
  refine cR_of (owner := RX4) rfl (by decide) (Nat.le_of_ble_eq_true rfl) ?_
  intro p e s m args below meth c ls C hlk hr hK hP hl
  have hl : lv_has ls 5 [(0, .ref qq), (1, .int (J ((a : Nat) : Int))), (2, .int (J ((b : Nat) : Int))), (3, .int (J ((k : Nat) : Int)))] := hl
  have hP : va_P D vwCl [(qq, .inr (4, [.ref r0, .ref rx, .ref ry, .ref rt, .int (J ((pn : Nat) : Int)), .int (J (b2i (kn))), .int (J (b2i (fl))), .ref rh, .ref ra, .ref rb, .ref rc, .int (J ((hn : Nat) : Int)), .int (J ((mn : Nat) : Int)), .int (J (b2i (hd))), .int (J (b2i (sd))), .ref sa, .ref sb, .ref sc, .int (J ((hh : Nat) : Int)), .int (J ((fp : Nat) : Int)), .ref so, .ref sr, .ref sw, .int (J ((rn : Nat) : Int))])), (r0, .inl (cI, 7, .inl (fun z9 => J ((Mr z9 : Nat) : Int)))), (rx, .inl (cI, 40, .inl (fun z9 => J (Px z9)))), (ry, .inl (cI, 40, .inl (fun z9 => J (Py z9)))), (rt, .inl (cZ, 40, .inl (fun z9 => J (b2i (Mt z9))))), (rh, .inl (cI, 41, .inl (fun z9 => J ((Hu z9 : Nat) : Int)))), (ra, .inl (cI, 120, .inl (fun z9 => J ((A1 z9 : Nat) : Int)))), (rb, .inl (cI, 120, .inl (fun z9 => J ((A2 z9 : Nat) : Int)))), (rc, .inl (cI, 120, .inl (fun z9 => J ((A3 z9 : Nat) : Int)))), (sa, .inl (cI, 120, .inl (fun z9 => J ((B1 z9 : Nat) : Int)))), (sb, .inl (cI, 120, .inl (fun z9 => J ((B2 z9 : Nat) : Int)))), (sc, .inl (cI, 120, .inl (fun z9 => J ((B3 z9 : Nat) : Int)))), (so, .inl (cI, 40, .inl (fun z9 => J ((Or z9 : Nat) : Int)))), (sr, .inl (cI, 80, .inl (fun z9 => J ((Ro z9 : Nat) : Int)))), (sw, .inl (cI, 80, .inl (fun z9 => J ((Ne z9 : Nat) : Int))))] s.heap := hP
  have hX : ∀ i, -10000 ≤ Px i ∧ Px i ≤ 10000 := hRI.1
  have hY : ∀ i, -10000 ≤ Py i ∧ Py i ≤ 10000 := hRI.2.1
  have hpn : pn ≤ 40 := hRI.2.2.1
  have hHu : ∀ i, Hu i < 40 := hRI.2.2.2.1
  have hhn : hn ≤ 41 := hRI.2.2.2.2.1
  have hA1 : ∀ i, A1 i < 40 := hRI.2.2.2.2.2.1
  have hA2 : ∀ i, A2 i < 40 := hRI.2.2.2.2.2.2.1
  have hA3 : ∀ i, A3 i < 40 := hRI.2.2.2.2.2.2.2.1
  have hmn : mn ≤ 120 := hRI.2.2.2.2.2.2.2.2.1
  have hB1 : ∀ i, B1 i < 40 := hRI.2.2.2.2.2.2.2.2.2.1
  have hB2 : ∀ i, B2 i < 40 := hRI.2.2.2.2.2.2.2.2.2.2.1
  have hB3 : ∀ i, B3 i < 40 := hRI.2.2.2.2.2.2.2.2.2.2.2.1
  have hhh : hh ≤ 120 := hRI.2.2.2.2.2.2.2.2.2.2.2.2.1
  have hOr : ∀ i, Or i < 40 := hRI.2.2.2.2.2.2.2.2.2.2.2.2.2.1
  have hRo : ∀ i, Ro i < 40 := hRI.2.2.2.2.2.2.2.2.2.2.2.2.2.2.1
  have hNe : ∀ i, Ne i < 40 := hRI.2.2.2.2.2.2.2.2.2.2.2.2.2.2.2.1
  have hrn : rn ≤ 80 := hRI.2.2.2.2.2.2.2.2.2.2.2.2.2.2.2.2
  refine lv_aload_n C.1 C.2.1 dX4_isBefore_0 rfl (lv_at hl 0 rfl) ?_
  refine lv_iload_n C.1 C.2.1 dX4_isBefore_1 rfl (lv_at hl 1 rfl) ?_
  refine lv_iload_n C.1 C.2.1 dX4_isBefore_2 rfl (lv_at hl 2 rfl) ?_
  refine jv_rdV (ni := 2) (ci := 4) (q0 := 0) C [.int (J ((a : Nat) : Int)), .int (J ((b : Nat) : Int))] [] (c_X4_isUpper (Px := Px) (Py := Py) (Mt := Mt) (pn := pn) (kn := kn) (fl := fl) (Hu := Hu) (hn := hn) (A1 := A1) (A2 := A2) (A3 := A3) (mn := mn) (hd := hd) (sd := sd) (B1 := B1) (B2 := B2) (B3 := B3) (hh := hh) (fp := fp) (Or := Or) (Ro := Ro) (Ne := Ne) (rn := rn) (Mr := Mr) hRI (a := a) (b := b) (by omega) (by omega)) gv_X4_174 (by decide +kernel) (by decide) hK (hP) rfl rfl rfl hl.1 (by simp [Value.category]) dX4_isBefore_3 (by decide) ?_ rfl
  show W _ _ _ _ _ _ _ _ _ _ _ _ _ _ _ (F0 m 6 ls [.int (J (b2i (upp Px Py a b)))])
  refine lv_aload_n C.1 C.2.1 dX4_isBefore_6 rfl (lv_at hl 0 rfl) ?_
  refine lv_iload_n C.1 C.2.1 dX4_isBefore_7 rfl (lv_at hl 1 rfl) ?_
  refine lv_iload_n C.1 C.2.1 dX4_isBefore_8 rfl (lv_at hl 3 rfl) ?_
  refine jv_rdV (ni := 2) (ci := 4) (q0 := 0) C [.int (J ((a : Nat) : Int)), .int (J ((k : Nat) : Int))] [.int (J (b2i (upp Px Py a b)))] (c_X4_isUpper (Px := Px) (Py := Py) (Mt := Mt) (pn := pn) (kn := kn) (fl := fl) (Hu := Hu) (hn := hn) (A1 := A1) (A2 := A2) (A3 := A3) (mn := mn) (hd := hd) (sd := sd) (B1 := B1) (B2 := B2) (B3 := B3) (hh := hh) (fp := fp) (Or := Or) (Ro := Ro) (Ne := Ne) (rn := rn) (Mr := Mr) hRI (a := a) (b := k) (by omega) (by omega)) gv_X4_174 (by decide +kernel) (by decide) hK (hP) rfl rfl rfl hl.1 (by simp [Value.category]) dX4_isBefore_9 (by decide) ?_ rfl
  show W _ _ _ _ _ _ _ _ _ _ _ _ _ _ _ (F0 m 12 ls [.int (J (b2i (upp Px Py a k))), .int (J (b2i (upp Px Py a b)))])
  refine jv_icmp_eq (tgt := 22) C dX4_isBefore_12 (by decide) (⟨b2i_R _, b2i_R _⟩) (fun h1 => ?_) (fun h1 => ?_)
  · refine lv_aload_n C.1 C.2.1 dX4_isBefore_22 rfl (lv_at hl 0 rfl) ?_
    refine lv_iload_n C.1 C.2.1 dX4_isBefore_23 rfl (lv_at hl 1 rfl) ?_
    refine lv_iload_n C.1 C.2.1 dX4_isBefore_24 rfl (lv_at hl 2 rfl) ?_
    refine lv_iload_n C.1 C.2.1 dX4_isBefore_25 rfl (lv_at hl 3 rfl) ?_
    refine jv_rdV (ni := 3) (ci := 4) (q0 := 0) C [.int (J ((a : Nat) : Int)), .int (J ((b : Nat) : Int)), .int (J ((k : Nat) : Int))] [] (c_X4_turns (Px := Px) (Py := Py) (Mt := Mt) (pn := pn) (kn := kn) (fl := fl) (Hu := Hu) (hn := hn) (A1 := A1) (A2 := A2) (A3 := A3) (mn := mn) (hd := hd) (sd := sd) (B1 := B1) (B2 := B2) (B3 := B3) (hh := hh) (fp := fp) (Or := Or) (Ro := Ro) (Ne := Ne) (rn := rn) (Mr := Mr) hRI (a := a) (b := b) (k := k) (by omega) (by omega) (by omega)) gv_X4_95 (by decide +kernel) (by decide) hK (hP) rfl rfl rfl hl.1 (by simp [Value.category]) dX4_isBefore_26 (by decide) ?_ rfl
    show W _ _ _ _ _ _ _ _ _ _ _ _ _ _ _ (F0 m 29 ls [.int (J (trn Px Py a b k))])
    have f2 := trn_R Px Py a b k
    refine lv_istore (lv' := [(4, .int (J (trn Px Py a b k))), (0, .ref qq), (1, .int (J ((a : Nat) : Int))), (2, .int (J ((b : Nat) : Int))), (3, .int (J ((k : Nat) : Int)))]) C.1 C.2.1 dX4_isBefore_29 hl (by decide) rfl (fun ls hl => ?_)
    refine lv_iload C.1 C.2.1 dX4_isBefore_31 (lv_at hl 0 rfl) ?_
    refine jv_if_eq (tgt := 49) C dX4_isBefore_33 (by decide) (by omega) (fun h3 => ?_) (fun h3 => ?_)
    · refine lv_aload_n C.1 C.2.1 dX4_isBefore_49 rfl (lv_at hl 1 rfl) ?_
      refine lv_iload_n C.1 C.2.1 dX4_isBefore_50 rfl (lv_at hl 2 rfl) ?_
      refine lv_iload_n C.1 C.2.1 dX4_isBefore_51 rfl (lv_at hl 3 rfl) ?_
      refine jv_rdV (ni := 2) (ci := 4) (q0 := 0) C [.int (J ((a : Nat) : Int)), .int (J ((b : Nat) : Int))] [] (c_X4_far (Px := Px) (Py := Py) (Mt := Mt) (pn := pn) (kn := kn) (fl := fl) (Hu := Hu) (hn := hn) (A1 := A1) (A2 := A2) (A3 := A3) (mn := mn) (hd := hd) (sd := sd) (B1 := B1) (B2 := B2) (B3 := B3) (hh := hh) (fp := fp) (Or := Or) (Ro := Ro) (Ne := Ne) (rn := rn) (Mr := Mr) hRI (a := a) (b := b) (by omega) (by omega)) gv_X4_131 (by decide +kernel) (by decide) hK (hP) rfl rfl rfl hl.1 (by simp [Value.category]) dX4_isBefore_52 (by decide) ?_ rfl
      show W _ _ _ _ _ _ _ _ _ _ _ _ _ _ _ (F0 m 55 ls [.long (Lg (sq Px Py b (Px a) (Py a)))])
      have f4 := sq_bd hX hY b (hX a) (hY a)
      refine lv_aload_n C.1 C.2.1 dX4_isBefore_55 rfl (lv_at hl 1 rfl) ?_
      refine lv_iload_n C.1 C.2.1 dX4_isBefore_56 rfl (lv_at hl 2 rfl) ?_
      refine lv_iload_n C.1 C.2.1 dX4_isBefore_57 rfl (lv_at hl 4 rfl) ?_
      refine jv_rdV (ni := 2) (ci := 4) (q0 := 0) C [.int (J ((a : Nat) : Int)), .int (J ((k : Nat) : Int))] [.long (Lg (sq Px Py b (Px a) (Py a)))] (c_X4_far (Px := Px) (Py := Py) (Mt := Mt) (pn := pn) (kn := kn) (fl := fl) (Hu := Hu) (hn := hn) (A1 := A1) (A2 := A2) (A3 := A3) (mn := mn) (hd := hd) (sd := sd) (B1 := B1) (B2 := B2) (B3 := B3) (hh := hh) (fp := fp) (Or := Or) (Ro := Ro) (Ne := Ne) (rn := rn) (Mr := Mr) hRI (a := a) (b := k) (by omega) (by omega)) gv_X4_131 (by decide +kernel) (by decide) hK (hP) rfl rfl rfl hl.1 (by simp [Value.category]) dX4_isBefore_58 (by decide) ?_ rfl
      show W _ _ _ _ _ _ _ _ _ _ _ _ _ _ _ (F0 m 61 ls [.long (Lg (sq Px Py k (Px a) (Py a))), .long (Lg (sq Px Py b (Px a) (Py a)))])
      have f5 := sq_bd hX hY k (hX a) (hY a)
      refine jv_lcmp_ge (tgt := 69) C dX4_isBefore_61 dX4_isBefore_62 (by decide) (by omega) (fun h6 => ?_) (fun h6 => ?_)
      · refine jv_iconst C dX4_isBefore_69 ?_
        exact jv_zret C hlk hr dX4_isBefore_70 (by clear hP hK hl C; grind [bfr, b2i])
      · refine jv_iconst C dX4_isBefore_65 ?_
        refine lv_goto (tgt := 70) C.1 C.2.1 dX4_isBefore_66 (by decide) ?_
        exact jv_zret C hlk hr dX4_isBefore_70 (by clear hP hK hl C; grind [bfr, b2i])
    · refine lv_iload C.1 C.2.1 dX4_isBefore_36 (lv_at hl 0 rfl) ?_
      refine jv_if_le (tgt := 45) C dX4_isBefore_38 (by decide) (by omega) (fun h7 => ?_) (fun h7 => ?_)
      · refine jv_iconst C dX4_isBefore_45 ?_
        refine lv_goto (tgt := 70) C.1 C.2.1 dX4_isBefore_46 (by decide) ?_
        exact jv_zret C hlk hr dX4_isBefore_70 (by clear hP hK hl C; grind [bfr, b2i])
      · refine jv_iconst C dX4_isBefore_41 ?_
        refine lv_goto (tgt := 70) C.1 C.2.1 dX4_isBefore_42 (by decide) ?_
        exact jv_zret C hlk hr dX4_isBefore_70 (by clear hP hK hl C; grind [bfr, b2i])
  · refine lv_aload_n C.1 C.2.1 dX4_isBefore_15 rfl (lv_at hl 0 rfl) ?_
    refine lv_iload_n C.1 C.2.1 dX4_isBefore_16 rfl (lv_at hl 1 rfl) ?_
    refine lv_iload_n C.1 C.2.1 dX4_isBefore_17 rfl (lv_at hl 2 rfl) ?_
    refine jv_rdV (ni := 2) (ci := 4) (q0 := 0) C [.int (J ((a : Nat) : Int)), .int (J ((b : Nat) : Int))] [] (c_X4_isUpper (Px := Px) (Py := Py) (Mt := Mt) (pn := pn) (kn := kn) (fl := fl) (Hu := Hu) (hn := hn) (A1 := A1) (A2 := A2) (A3 := A3) (mn := mn) (hd := hd) (sd := sd) (B1 := B1) (B2 := B2) (B3 := B3) (hh := hh) (fp := fp) (Or := Or) (Ro := Ro) (Ne := Ne) (rn := rn) (Mr := Mr) hRI (a := a) (b := b) (by omega) (by omega)) gv_X4_174 (by decide +kernel) (by decide) hK (hP) rfl rfl rfl hl.1 (by simp [Value.category]) dX4_isBefore_18 (by decide) ?_ rfl
    show W _ _ _ _ _ _ _ _ _ _ _ _ _ _ _ (F0 m 21 ls [.int (J (b2i (upp Px Py a b)))])
    exact jv_zret C hlk hr dX4_isBefore_21 (by clear hP hK hl C; grind [bfr, b2i])
end REF1
