def QA3 (Q : QA) : Prop := (∀ i, Q.1 i < 40) ∧ (∀ i, Q.2.1 i < 40) ∧ ∀ i, Q.2.2.1 i < 40
theorem adA_b {a b c : Nat} {Q : QA} (h : QA3 Q) (ha : a < 40) (hb : b < 40) (hc : c < 40) : QA3 (adA a b c Q) := ⟨sn_lt h.1 _ ha, sn_lt h.2.1 _ hb, sn_lt h.2.2 _ hc⟩
theorem ft3_b {X Y : Nat → Int} {T : Nat → Bool} {pn a b : Nat} (hp : pn ≤ 40) (ha : a < 40) (hb : b < 40) : ∀ (k c : Nat) (Q : QA), pn ≤ c + k → QA3 Q → QA3 (ft3 X Y T pn a b c Q) := by
  intro k
  induction k with
  | zero => intro c Q h hQ; rw [ft3_end (by omega)]; exact hQ
  | succ k ih =>
    intro c Q h hQ
    rcases Nat.lt_or_ge c pn with q | q
    · cases hp2 : ftP X Y T pn a b c with
      | true => rw [ft3_in q hp2]; exact ih (c + 1) _ (by omega) (adA_b hQ ha hb (by omega))
      | false => rw [ft3_no q hp2]; exact ih (c + 1) Q (by omega) hQ
    · rw [ft3_end q]; exact hQ
theorem ft2_b {X Y : Nat → Int} {T : Nat → Bool} {pn a : Nat} (hp : pn ≤ 40) (ha : a < 40) : ∀ (k b : Nat) (Q : QA), pn ≤ b + k → QA3 Q → QA3 (ft2 X Y T pn a b Q) := by
  intro k
  induction k with
  | zero => intro b Q h hQ; rw [ft2_end (by omega)]; exact hQ
  | succ k ih =>
    intro b Q h hQ
    rcases Nat.lt_or_ge b pn with q | q
    · rw [ft2_go q]; exact ih (b + 1) _ (by omega) (ft3_b hp ha (by omega) pn _ _ (by omega) hQ)
    · rw [ft2_end q]; exact hQ
theorem ft1_b {X Y : Nat → Int} {T : Nat → Bool} {pn : Nat} (hp : pn ≤ 40) : ∀ (k a : Nat) (Q : QA), pn ≤ a + k → QA3 Q → QA3 (ft1 X Y T pn a Q) := by
  intro k
  induction k with
  | zero => intro a Q h hQ; rw [ft1_end (by omega)]; exact hQ
  | succ k ih =>
    intro a Q h hQ
    rcases Nat.lt_or_ge a pn with q | q
    · rw [ft1_go q]; exact ih (a + 1) _ (by omega) (ft2_b hp (by omega) pn _ _ (by omega) hQ)
    · rw [ft1_end q]; exact hQ
def rHul (S : RS) : RS := ((S.1.1, S.1.2.1, S.1.2.2.1, S.1.2.2.2), (S.2.1.1, S.2.1.2.1, (hulQ S.1.1 S.1.2.1 S.1.2.2.1 S.1.2.2.2 S.2.1.2.1 S.2.1.2.2.1).1, (hulQ S.1.1 S.1.2.1 S.1.2.2.1 S.1.2.2.2 S.2.1.2.1 S.2.1.2.2.1).2, S.2.1.2.2.2.2.1, S.2.1.2.2.2.2.2.1, S.2.1.2.2.2.2.2.2.1, S.2.1.2.2.2.2.2.2.2), (S.2.2.1.1, S.2.2.1.2.1, S.2.2.1.2.2.1, S.2.2.1.2.2.2.1, S.2.2.1.2.2.2.2.1, S.2.2.1.2.2.2.2.2.1, S.2.2.1.2.2.2.2.2.2), (S.2.2.2.1.1, S.2.2.2.1.2.1, S.2.2.2.1.2.2.1, S.2.2.2.1.2.2.2), S.2.2.2.2)
theorem rHul_b {S : RS} (h : RI S) : RI (rHul S) := by
  obtain ⟨h1, h2, h3, h4, h5, h6⟩ := h
  have q := hulQ_b (X := S.1.1) (Y := S.1.2.1) (T := S.1.2.2.1) (fl := S.2.1.2.1) h3 h4
  exact ⟨h1, h2, h3, q.1, q.2, h6⟩
theorem rFtr_b {S : RS} (h : RI S) (hc : (ft1 S.1.1 S.1.2.1 S.1.2.2.1 S.1.2.2.2 0 (S.2.1.2.2.2.2.1, S.2.1.2.2.2.2.2.1, S.2.1.2.2.2.2.2.2.1, S.2.1.2.2.2.2.2.2.2)).2.2.2 ≤ 120) : RI (rFtr S) := by
  obtain ⟨h1, h2, h3, h4, h5, h6, h7, h8, h9, h10⟩ := h
  have q := ft1_b (X := S.1.1) (Y := S.1.2.1) (T := S.1.2.2.1) h3 S.1.2.2.2 0 (S.2.1.2.2.2.2.1, S.2.1.2.2.2.2.2.1, S.2.1.2.2.2.2.2.2.1, S.2.1.2.2.2.2.2.2.2) (by omega) ⟨h6, h7, h8⟩
  exact ⟨h1, h2, h3, h4, h5, q.1, q.2.1, q.2.2, hc, h10⟩
/-- what know() finds, before the triangles -/
def rKn0 (S : RS) : RS := ((S.1.1, S.1.2.1, S.1.2.2.1, S.1.2.2.2), (true, !(nf1 S.1.1 S.1.2.1 S.1.2.2.1 S.1.2.2.2 0), (hulQ S.1.1 S.1.2.1 S.1.2.2.1 S.1.2.2.2 (!(nf1 S.1.1 S.1.2.1 S.1.2.2.1 S.1.2.2.2 0)) S.2.1.2.2.1).1, (hulQ S.1.1 S.1.2.1 S.1.2.2.1 S.1.2.2.2 (!(nf1 S.1.1 S.1.2.1 S.1.2.2.1 S.1.2.2.2 0)) S.2.1.2.2.1).2, S.2.1.2.2.2.2.1, S.2.1.2.2.2.2.2.1, S.2.1.2.2.2.2.2.2.1, 0), (S.2.2.1.1, S.2.2.1.2.1, S.2.2.1.2.2.1, S.2.2.1.2.2.2.1, S.2.2.1.2.2.2.2.1, S.2.2.1.2.2.2.2.2.1, S.2.2.1.2.2.2.2.2.2), (S.2.2.2.1.1, S.2.2.2.1.2.1, S.2.2.2.1.2.2.1, S.2.2.2.1.2.2.2), S.2.2.2.2)
theorem rKn0_b {S : RS} (h : RI S) : RI (rKn0 S) := by
  obtain ⟨h1, h2, h3, h4, h5, h6, h7, h8, h9, h10⟩ := h
  have q := hulQ_b (X := S.1.1) (Y := S.1.2.1) (T := S.1.2.2.1) (fl := !(nf1 S.1.1 S.1.2.1 S.1.2.2.1 S.1.2.2.2 0)) h3 h4
  exact ⟨h1, h2, h3, q.1, q.2, h6, h7, h8, by show 0 ≤ 120; omega, h10⟩
def rKnow (S : RS) : RS := if S.2.1.1 = true then S else if (!(nf1 S.1.1 S.1.2.1 S.1.2.2.1 S.1.2.2.2 0)) = true then rKn0 S else rFtr (rKn0 S)
def knOk (S : RS) : Prop := S.2.1.1 = false → hulOk S.1.1 S.1.2.1 S.1.2.2.1 S.1.2.2.2 (!(nf1 S.1.1 S.1.2.1 S.1.2.2.1 S.1.2.2.2 0)) S.2.1.2.2.1 ∧ ((!(nf1 S.1.1 S.1.2.1 S.1.2.2.1 S.1.2.2.2 0)) = false → (ft1 S.1.1 S.1.2.1 S.1.2.2.1 S.1.2.2.2 0 (S.2.1.2.2.2.2.1, S.2.1.2.2.2.2.2.1, S.2.1.2.2.2.2.2.2.1, 0)).2.2.2 ≤ 120)
theorem rKnow_b {S : RS} (h : RI S) (hk : knOk S) : RI (rKnow S) := by
  unfold rKnow
  split
  · exact h
  · rename_i h1
    split
    · exact rKn0_b h
    · rename_i h2
      exact rFtr_b (rKn0_b h) ((hk (by simpa using h1)).2 (by simpa using h2))
section REF8
variable {l : Launch} {D : va_G} {cI cZ : ClassId} {qq r0 rx ry rt rh ra rb rc sa sb sc so sr sw : Nat} {Px Py : Nat → Int} {Mt : Nat → Bool} {pn : Nat} {kn fl : Bool} {Hu : Nat → Nat} {hn : Nat} {A1 A2 A3 : Nat → Nat} {mn : Nat} {hd sd : Bool} {B1 B2 B3 : Nat → Nat} {hh fp : Nat} {Or Ro Ne : Nat → Nat} {rn : Nat} {Mr : Nat → Nat}
set_option maxRecDepth 20000 in
theorem lp_X4_findHull_11 {p : Program} {e : Env} {s : State} {m : MethodId} {args : Array Value} {below : List Frame} {meth : Method} {c : Code} {WC : va_W} {FL : Int × Int} (C : CallFix p m c cX4_findHull 4 s args TB RX4) (hlk : meth.locks = false) (hr : meth.sig.returnType = none) (hK : va_K D vwCl (tyz cI cZ) s) (hRI : RI ((Px, Py, Mt, pn), (kn, fl, Hu, hn, A1, A2, A3, mn), (hd, sd, B1, B2, B3, hh, fp), (Or, Ro, Ne, rn), Mr)) (hFL0 : FL = fla Px Py Mt pn 0 (-1) (-1)) (hok : hulOk Px Py Mt pn fl Hu) :
    ∀ (n : Nat) (i : Nat) (f l0 : Int), pn < i + n → i ≤ pn → -1 ≤ f → f < 40 → -1 ≤ l0 → l0 < 40 → (f < 0 ↔ l0 < 0) → ∀ (FL2 : Int × Int), FL = fla Px Py Mt pn i f l0 → ∀ (Rf : QH), Rf = hulQ Px Py Mt pn fl Hu → ∀ (H : Heap) (locs : List Loc), va_P D vwCl [(qq, .inr (4, [.ref r0, .ref rx, .ref ry, .ref rt, .int (J ((pn : Nat) : Int)), .int (J (b2i (kn))), .int (J (b2i (fl))), .ref rh, .ref ra, .ref rb, .ref rc, .int (J ((0 : Nat) : Int)), .int (J ((mn : Nat) : Int)), .int (J (b2i (hd))), .int (J (b2i (sd))), .ref sa, .ref sb, .ref sc, .int (J ((hh : Nat) : Int)), .int (J ((fp : Nat) : Int)), .ref so, .ref sr, .ref sw, .int (J ((rn : Nat) : Int))])), (r0, .inl (cI, 7, .inl (fun z9 => J ((Mr z9 : Nat) : Int)))), (rx, .inl (cI, 40, .inl (fun z9 => J (Px z9)))), (ry, .inl (cI, 40, .inl (fun z9 => J (Py z9)))), (rt, .inl (cZ, 40, .inl (fun z9 => J (b2i (Mt z9))))), (rh, .inl (cI, 41, .inl (fun z9 => J ((Hu z9 : Nat) : Int)))), (ra, .inl (cI, 120, .inl (fun z9 => J ((A1 z9 : Nat) : Int)))), (rb, .inl (cI, 120, .inl (fun z9 => J ((A2 z9 : Nat) : Int)))), (rc, .inl (cI, 120, .inl (fun z9 => J ((A3 z9 : Nat) : Int)))), (sa, .inl (cI, 120, .inl (fun z9 => J ((B1 z9 : Nat) : Int)))), (sb, .inl (cI, 120, .inl (fun z9 => J ((B2 z9 : Nat) : Int)))), (sc, .inl (cI, 120, .inl (fun z9 => J ((B3 z9 : Nat) : Int)))), (so, .inl (cI, 40, .inl (fun z9 => J ((Or z9 : Nat) : Int)))), (sr, .inl (cI, 80, .inl (fun z9 => J ((Ro z9 : Nat) : Int)))), (sw, .inl (cI, 80, .inl (fun z9 => J ((Ne z9 : Nat) : Int))))] H → va_D (inW WC) [(qq, .inr (4, [.ref r0, .ref rx, .ref ry, .ref rt, .int (J ((pn : Nat) : Int)), .int (J (b2i (kn))), .int (J (b2i (fl))), .ref rh, .ref ra, .ref rb, .ref rc, .int (J ((0 : Nat) : Int)), .int (J ((mn : Nat) : Int)), .int (J (b2i (hd))), .int (J (b2i (sd))), .ref sa, .ref sb, .ref sc, .int (J ((hh : Nat) : Int)), .int (J ((fp : Nat) : Int)), .ref so, .ref sr, .ref sw, .int (J ((rn : Nat) : Int))])), (r0, .inl (cI, 7, .inl (fun z9 => J ((Mr z9 : Nat) : Int)))), (rx, .inl (cI, 40, .inl (fun z9 => J (Px z9)))), (ry, .inl (cI, 40, .inl (fun z9 => J (Py z9)))), (rt, .inl (cZ, 40, .inl (fun z9 => J (b2i (Mt z9))))), (rh, .inl (cI, 41, .inl (fun z9 => J ((Hu z9 : Nat) : Int)))), (ra, .inl (cI, 120, .inl (fun z9 => J ((A1 z9 : Nat) : Int)))), (rb, .inl (cI, 120, .inl (fun z9 => J ((A2 z9 : Nat) : Int)))), (rc, .inl (cI, 120, .inl (fun z9 => J ((A3 z9 : Nat) : Int)))), (sa, .inl (cI, 120, .inl (fun z9 => J ((B1 z9 : Nat) : Int)))), (sb, .inl (cI, 120, .inl (fun z9 => J ((B2 z9 : Nat) : Int)))), (sc, .inl (cI, 120, .inl (fun z9 => J ((B3 z9 : Nat) : Int)))), (so, .inl (cI, 40, .inl (fun z9 => J ((Or z9 : Nat) : Int)))), (sr, .inl (cI, 80, .inl (fun z9 => J ((Ro z9 : Nat) : Int)))), (sw, .inl (cI, 80, .inl (fun z9 => J ((Ne z9 : Nat) : Int))))] → va_S (inW WC) s.heap H locs → ∀ ls : Array Slot, lv_has ls 4 [(0, .ref qq), (1, .int (J f)), (2, .int (J l0)), (3, .int (J ((i : Nat) : Int)))] → W p l e { frames := 4, cells := 0, slots := 0, locals := 93 } s m args below meth c H locs 0 0 (MQ below (QW D WC (wRS cI cZ qq r0 rx ry rt rh ra rb rc sa sb sc so sr sw ((Px, Py, Mt, pn), (kn, fl, Rf.1, Rf.2, A1, A2, A3, mn), (hd, sd, B1, B2, B3, hh, fp), (Or, Ro, Ne, rn), Mr)) none) args s 0 0 (inW WC)) (F0 m 11 ls []) := by
  have hX : ∀ i, -10000 ≤ Px i ∧ Px i ≤ 10000 := hRI.1
  have hY : ∀ i, -10000 ≤ Py i ∧ Py i ≤ 10000 := hRI.2.1
  have hpn : pn ≤ 40 := hRI.2.2.1
  have hHu : ∀ i, Hu i < 40 := hRI.2.2.2.1
  have hhn : hn ≤ 41 := hRI.2.2.2.2.1
  have hA1 : ∀ i, A1 i < 40 := hRI.2.2.2.2.2.1
  have hA2 : ∀ i, A2 i < 40 := hRI.2.2.2.2.2.2.1
  have hA3 : ∀ i, A3 i < 40 := hRI.2.2.2.2.2.2.2.1
  have hmn : mn ≤ 120 := hRI.2.2.2.2.2.2.2.2.1
  have hB1 : ∀ i, B1 i < 40 := hRI.2.2.2.2.2.2.2.2.2.1
  have hB2 : ∀ i, B2 i < 40 := hRI.2.2.2.2.2.2.2.2.2.2.1
  have hB3 : ∀ i, B3 i < 40 := hRI.2.2.2.2.2.2.2.2.2.2.2.1
  have hhh : hh ≤ 120 := hRI.2.2.2.2.2.2.2.2.2.2.2.2.1
  have hOr : ∀ i, Or i < 40 := hRI.2.2.2.2.2.2.2.2.2.2.2.2.2.1
  have hRo : ∀ i, Ro i < 40 := hRI.2.2.2.2.2.2.2.2.2.2.2.2.2.2.1
  have hNe : ∀ i, Ne i < 40 := hRI.2.2.2.2.2.2.2.2.2.2.2.2.2.2.2.1
  have hrn : rn ≤ 80 := hRI.2.2.2.2.2.2.2.2.2.2.2.2.2.2.2.2
  intro n
  induction n with
  | zero => intro i f l0 hi0 hi1 hi2 hi3 hi4 hi5 hi6; omega
  | succ n ih =>
    intro i f l0 hi0 hi1 hi2 hi3 hi4 hi5 hi6 FL2 hFL2 Rf hRf H locs hP hD hS ls hl
    have hR0 : RI ((Px, Py, Mt, pn), (kn, fl, Hu, 0, A1, A2, A3, mn), (hd, sd, B1, B2, B3, hh, fp), (Or, Ro, Ne, rn), Mr) := ⟨hX, hY, hpn, hHu, by show 0 ≤ 41; omega, hA1, hA2, hA3, hmn, hB1, hB2, hB3, hhh, hOr, hRo, hNe, hrn⟩
    refine lv_iload_n C.1 C.2.1 dX4_findHull_11 rfl (lv_at hl 3 rfl) ?_
    refine lv_aload_n C.1 C.2.1 dX4_findHull_12 rfl (lv_at hl 0 rfl) ?_
    refine jv_get C fw_X4_58 hK hP 0 rfl rfl dX4_findHull_13 ?_
    refine jv_icmp_ge (tgt := 67) C dX4_findHull_16 (by decide) (by omega) (fun h1 => ?_) (fun h1 => ?_)
    · have hFe : FL = (f, l0) := by rw [hFL2, fla_end (by omega)]
      refine lv_iload_n C.1 C.2.1 dX4_findHull_67 rfl (lv_at hl 1 rfl) ?_
      refine jv_if_ge (tgt := 72) C dX4_findHull_68 (by decide) (by omega) (fun h2 => ?_) (fun h2 => ?_)
      · rw [show f = ((f.toNat : Nat) : Int) from by omega] at hl
        rw [show l0 = ((l0.toNat : Nat) : Int) from by omega] at hl
        refine lv_aload_n C.1 C.2.1 dX4_findHull_72 rfl (lv_at hl 0 rfl) ?_
        refine jv_get C fw_X4_23 hK hP 0 rfl rfl dX4_findHull_73 ?_
        refine jv_iconst C dX4_findHull_76 ?_
        refine lv_iload_n C.1 C.2.1 dX4_findHull_77 rfl (lv_at hl 1 rfl) ?_
        refine jv_iast (G := fun z9 => (((sn Hu 0 f.toNat) z9 : Nat) : Int)) C hK hP hD hS 5 0 rfl rfl (0) (by omega) (by omega) (by decide) (sn_nat Hu 0 f.toNat) dX4_findHull_78 (fun H locs hP hD hS => ?_)
        have hP : va_P D vwCl [(qq, .inr (4, [.ref r0, .ref rx, .ref ry, .ref rt, .int (J ((pn : Nat) : Int)), .int (J (b2i (kn))), .int (J (b2i (fl))), .ref rh, .ref ra, .ref rb, .ref rc, .int (J ((0 : Nat) : Int)), .int (J ((mn : Nat) : Int)), .int (J (b2i (hd))), .int (J (b2i (sd))), .ref sa, .ref sb, .ref sc, .int (J ((hh : Nat) : Int)), .int (J ((fp : Nat) : Int)), .ref so, .ref sr, .ref sw, .int (J ((rn : Nat) : Int))])), (r0, .inl (cI, 7, .inl (fun z9 => J ((Mr z9 : Nat) : Int)))), (rx, .inl (cI, 40, .inl (fun z9 => J (Px z9)))), (ry, .inl (cI, 40, .inl (fun z9 => J (Py z9)))), (rt, .inl (cZ, 40, .inl (fun z9 => J (b2i (Mt z9))))), (rh, .inl (cI, 41, .inl (fun z9 => J (((sn Hu 0 f.toNat) z9 : Nat) : Int)))), (ra, .inl (cI, 120, .inl (fun z9 => J ((A1 z9 : Nat) : Int)))), (rb, .inl (cI, 120, .inl (fun z9 => J ((A2 z9 : Nat) : Int)))), (rc, .inl (cI, 120, .inl (fun z9 => J ((A3 z9 : Nat) : Int)))), (sa, .inl (cI, 120, .inl (fun z9 => J ((B1 z9 : Nat) : Int)))), (sb, .inl (cI, 120, .inl (fun z9 => J ((B2 z9 : Nat) : Int)))), (sc, .inl (cI, 120, .inl (fun z9 => J ((B3 z9 : Nat) : Int)))), (so, .inl (cI, 40, .inl (fun z9 => J ((Or z9 : Nat) : Int)))), (sr, .inl (cI, 80, .inl (fun z9 => J ((Ro z9 : Nat) : Int)))), (sw, .inl (cI, 80, .inl (fun z9 => J ((Ne z9 : Nat) : Int))))] H := hP
        have hD : va_D _ [(qq, .inr (4, [.ref r0, .ref rx, .ref ry, .ref rt, .int (J ((pn : Nat) : Int)), .int (J (b2i (kn))), .int (J (b2i (fl))), .ref rh, .ref ra, .ref rb, .ref rc, .int (J ((0 : Nat) : Int)), .int (J ((mn : Nat) : Int)), .int (J (b2i (hd))), .int (J (b2i (sd))), .ref sa, .ref sb, .ref sc, .int (J ((hh : Nat) : Int)), .int (J ((fp : Nat) : Int)), .ref so, .ref sr, .ref sw, .int (J ((rn : Nat) : Int))])), (r0, .inl (cI, 7, .inl (fun z9 => J ((Mr z9 : Nat) : Int)))), (rx, .inl (cI, 40, .inl (fun z9 => J (Px z9)))), (ry, .inl (cI, 40, .inl (fun z9 => J (Py z9)))), (rt, .inl (cZ, 40, .inl (fun z9 => J (b2i (Mt z9))))), (rh, .inl (cI, 41, .inl (fun z9 => J (((sn Hu 0 f.toNat) z9 : Nat) : Int)))), (ra, .inl (cI, 120, .inl (fun z9 => J ((A1 z9 : Nat) : Int)))), (rb, .inl (cI, 120, .inl (fun z9 => J ((A2 z9 : Nat) : Int)))), (rc, .inl (cI, 120, .inl (fun z9 => J ((A3 z9 : Nat) : Int)))), (sa, .inl (cI, 120, .inl (fun z9 => J ((B1 z9 : Nat) : Int)))), (sb, .inl (cI, 120, .inl (fun z9 => J ((B2 z9 : Nat) : Int)))), (sc, .inl (cI, 120, .inl (fun z9 => J ((B3 z9 : Nat) : Int)))), (so, .inl (cI, 40, .inl (fun z9 => J ((Or z9 : Nat) : Int)))), (sr, .inl (cI, 80, .inl (fun z9 => J ((Ro z9 : Nat) : Int)))), (sw, .inl (cI, 80, .inl (fun z9 => J ((Ne z9 : Nat) : Int))))] := hD
        refine lv_aload_n C.1 C.2.1 dX4_findHull_79 rfl (lv_at hl 0 rfl) ?_
        refine jv_iconst C dX4_findHull_80 ?_
        refine jv_put C fw_X4_121 fp_X4 hK hP hD hS 0 rfl rfl rfl rfl (Nat.le_of_ble_eq_true rfl) dX4_findHull_81 (fun H locs hP hD hS => ?_)
        have hP : va_P D vwCl [(qq, .inr (4, [.ref r0, .ref rx, .ref ry, .ref rt, .int (J ((pn : Nat) : Int)), .int (J (b2i (kn))), .int (J (b2i (fl))), .ref rh, .ref ra, .ref rb, .ref rc, .int (J 1), .int (J ((mn : Nat) : Int)), .int (J (b2i (hd))), .int (J (b2i (sd))), .ref sa, .ref sb, .ref sc, .int (J ((hh : Nat) : Int)), .int (J ((fp : Nat) : Int)), .ref so, .ref sr, .ref sw, .int (J ((rn : Nat) : Int))])), (r0, .inl (cI, 7, .inl (fun z9 => J ((Mr z9 : Nat) : Int)))), (rx, .inl (cI, 40, .inl (fun z9 => J (Px z9)))), (ry, .inl (cI, 40, .inl (fun z9 => J (Py z9)))), (rt, .inl (cZ, 40, .inl (fun z9 => J (b2i (Mt z9))))), (rh, .inl (cI, 41, .inl (fun z9 => J (((sn Hu 0 f.toNat) z9 : Nat) : Int)))), (ra, .inl (cI, 120, .inl (fun z9 => J ((A1 z9 : Nat) : Int)))), (rb, .inl (cI, 120, .inl (fun z9 => J ((A2 z9 : Nat) : Int)))), (rc, .inl (cI, 120, .inl (fun z9 => J ((A3 z9 : Nat) : Int)))), (sa, .inl (cI, 120, .inl (fun z9 => J ((B1 z9 : Nat) : Int)))), (sb, .inl (cI, 120, .inl (fun z9 => J ((B2 z9 : Nat) : Int)))), (sc, .inl (cI, 120, .inl (fun z9 => J ((B3 z9 : Nat) : Int)))), (so, .inl (cI, 40, .inl (fun z9 => J ((Or z9 : Nat) : Int)))), (sr, .inl (cI, 80, .inl (fun z9 => J ((Ro z9 : Nat) : Int)))), (sw, .inl (cI, 80, .inl (fun z9 => J ((Ne z9 : Nat) : Int))))] H := hP
        have hD : va_D _ [(qq, .inr (4, [.ref r0, .ref rx, .ref ry, .ref rt, .int (J ((pn : Nat) : Int)), .int (J (b2i (kn))), .int (J (b2i (fl))), .ref rh, .ref ra, .ref rb, .ref rc, .int (J 1), .int (J ((mn : Nat) : Int)), .int (J (b2i (hd))), .int (J (b2i (sd))), .ref sa, .ref sb, .ref sc, .int (J ((hh : Nat) : Int)), .int (J ((fp : Nat) : Int)), .ref so, .ref sr, .ref sw, .int (J ((rn : Nat) : Int))])), (r0, .inl (cI, 7, .inl (fun z9 => J ((Mr z9 : Nat) : Int)))), (rx, .inl (cI, 40, .inl (fun z9 => J (Px z9)))), (ry, .inl (cI, 40, .inl (fun z9 => J (Py z9)))), (rt, .inl (cZ, 40, .inl (fun z9 => J (b2i (Mt z9))))), (rh, .inl (cI, 41, .inl (fun z9 => J (((sn Hu 0 f.toNat) z9 : Nat) : Int)))), (ra, .inl (cI, 120, .inl (fun z9 => J ((A1 z9 : Nat) : Int)))), (rb, .inl (cI, 120, .inl (fun z9 => J ((A2 z9 : Nat) : Int)))), (rc, .inl (cI, 120, .inl (fun z9 => J ((A3 z9 : Nat) : Int)))), (sa, .inl (cI, 120, .inl (fun z9 => J ((B1 z9 : Nat) : Int)))), (sb, .inl (cI, 120, .inl (fun z9 => J ((B2 z9 : Nat) : Int)))), (sc, .inl (cI, 120, .inl (fun z9 => J ((B3 z9 : Nat) : Int)))), (so, .inl (cI, 40, .inl (fun z9 => J ((Or z9 : Nat) : Int)))), (sr, .inl (cI, 80, .inl (fun z9 => J ((Ro z9 : Nat) : Int)))), (sw, .inl (cI, 80, .inl (fun z9 => J ((Ne z9 : Nat) : Int))))] := hD
        refine lv_aload_n C.1 C.2.1 dX4_findHull_84 rfl (lv_at hl 0 rfl) ?_
        refine jv_get C fw_X4_109 hK hP 0 rfl rfl dX4_findHull_85 ?_
        refine jv_bif_eq (tgt := 113) C dX4_findHull_88 (by decide) (fun h3 => ?_) (fun h3 => ?_)
        · have hHu9 := sn_lt hHu 0 (z := f.toNat) (by omega)
          have hR1 : RI ((Px, Py, Mt, pn), (kn, fl, sn Hu 0 f.toNat, 1, A1, A2, A3, mn), (hd, sd, B1, B2, B3, hh, fp), (Or, Ro, Ne, rn), Mr) := ⟨hX, hY, hpn, hHu9, by show 1 ≤ 41; omega, hA1, hA2, hA3, hmn, hB1, hB2, hB3, hhh, hOr, hRo, hNe, hrn⟩
          refine lv_aload_n C.1 C.2.1 dX4_findHull_113 rfl (lv_at hl 0 rfl) ?_
          refine lv_iload_n C.1 C.2.1 dX4_findHull_114 rfl (lv_at hl 1 rfl) ?_
          refine jv_rdV (ni := 1) (ci := 4) (q0 := 0) C [.int (J ((f.toNat : Nat) : Int))] [] (c_X4_nextCorner (Px := Px) (Py := Py) (Mt := Mt) (pn := pn) (kn := kn) (fl := fl) (Hu := sn Hu 0 f.toNat) (hn := 1) (A1 := A1) (A2 := A2) (A3 := A3) (mn := mn) (hd := hd) (sd := sd) (B1 := B1) (B2 := B2) (B3 := B3) (hh := hh) (fp := fp) (Or := Or) (Ro := Ro) (Ne := Ne) (rn := rn) (Mr := Mr) hR1 (a := f.toNat) (by omega)) gv_X4_128 (by decide +kernel) (by decide) hK (hP) rfl rfl rfl hl.1 (by simp [Value.category]) dX4_findHull_115 (by decide) ?_ rfl
          show W _ _ _ _ _ _ _ _ _ _ _ _ _ _ _ (F0 m 118 ls [.int (J (nxc Px Py Mt pn f.toNat))])
          have f4 := nxc_R Px Py Mt (pn := pn) f.toNat (by omega)
          refine lv_istore_n (lv' := [(3, .int (J (nxc Px Py Mt pn f.toNat))), (0, .ref qq), (1, .int (J ((f.toNat : Nat) : Int))), (2, .int (J ((l0.toNat : Nat) : Int)))]) C.1 C.2.1 dX4_findHull_118 rfl hl (by decide) rfl (fun ls hl => ?_)
          have hsm := hok (by rw [← hFL0, hFe]; show 0 ≤ f; omega) h3
          rw [← hFL0, hFe] at hsm
          obtain ⟨R9, hR9⟩ := Option.isSome_iff_exists.mp hsm
          have hRR : Rf = R9 := by rw [hRf]; unfold hulQ; rw [if_neg (by rw [← hFL0, hFe]; show ¬ f < 0; omega), if_neg (by rw [h3]; decide), ← hFL0, hFe, hR9]; rfl
          subst hRR
          exact lp_X4_findHull_119 (Hu := Hu) (hn := hn) C hlk hr hK hRI (f := f.toNat) (by omega) 40 (nxc Px Py Mt pn f.toNat) (sn Hu 0 f.toNat) 1 (by omega) (by omega) (by omega) hHu9 hR9 H locs hP hD hS ls (lv_sub hl [1, 2, 3, 0] rfl)
        · refine lv_aload_n C.1 C.2.1 dX4_findHull_91 rfl (lv_at hl 0 rfl) ?_
          refine jv_get C fw_X4_23 hK hP 0 rfl rfl dX4_findHull_92 ?_
          refine jv_iconst C dX4_findHull_95 ?_
          refine lv_iload_n C.1 C.2.1 dX4_findHull_96 rfl (lv_at hl 2 rfl) ?_
          refine jv_iast (G := fun z9 => (((sn (sn Hu 0 f.toNat) 1 l0.toNat) z9 : Nat) : Int)) C hK hP hD hS 5 0 rfl rfl (1) (by omega) (by omega) (by decide) (sn_nat (sn Hu 0 f.toNat) 1 l0.toNat) dX4_findHull_97 (fun H locs hP hD hS => ?_)
          have hP : va_P D vwCl [(qq, .inr (4, [.ref r0, .ref rx, .ref ry, .ref rt, .int (J ((pn : Nat) : Int)), .int (J (b2i (kn))), .int (J (b2i (fl))), .ref rh, .ref ra, .ref rb, .ref rc, .int (J 1), .int (J ((mn : Nat) : Int)), .int (J (b2i (hd))), .int (J (b2i (sd))), .ref sa, .ref sb, .ref sc, .int (J ((hh : Nat) : Int)), .int (J ((fp : Nat) : Int)), .ref so, .ref sr, .ref sw, .int (J ((rn : Nat) : Int))])), (r0, .inl (cI, 7, .inl (fun z9 => J ((Mr z9 : Nat) : Int)))), (rx, .inl (cI, 40, .inl (fun z9 => J (Px z9)))), (ry, .inl (cI, 40, .inl (fun z9 => J (Py z9)))), (rt, .inl (cZ, 40, .inl (fun z9 => J (b2i (Mt z9))))), (rh, .inl (cI, 41, .inl (fun z9 => J (((sn (sn Hu 0 f.toNat) 1 l0.toNat) z9 : Nat) : Int)))), (ra, .inl (cI, 120, .inl (fun z9 => J ((A1 z9 : Nat) : Int)))), (rb, .inl (cI, 120, .inl (fun z9 => J ((A2 z9 : Nat) : Int)))), (rc, .inl (cI, 120, .inl (fun z9 => J ((A3 z9 : Nat) : Int)))), (sa, .inl (cI, 120, .inl (fun z9 => J ((B1 z9 : Nat) : Int)))), (sb, .inl (cI, 120, .inl (fun z9 => J ((B2 z9 : Nat) : Int)))), (sc, .inl (cI, 120, .inl (fun z9 => J ((B3 z9 : Nat) : Int)))), (so, .inl (cI, 40, .inl (fun z9 => J ((Or z9 : Nat) : Int)))), (sr, .inl (cI, 80, .inl (fun z9 => J ((Ro z9 : Nat) : Int)))), (sw, .inl (cI, 80, .inl (fun z9 => J ((Ne z9 : Nat) : Int))))] H := hP
          have hD : va_D _ [(qq, .inr (4, [.ref r0, .ref rx, .ref ry, .ref rt, .int (J ((pn : Nat) : Int)), .int (J (b2i (kn))), .int (J (b2i (fl))), .ref rh, .ref ra, .ref rb, .ref rc, .int (J 1), .int (J ((mn : Nat) : Int)), .int (J (b2i (hd))), .int (J (b2i (sd))), .ref sa, .ref sb, .ref sc, .int (J ((hh : Nat) : Int)), .int (J ((fp : Nat) : Int)), .ref so, .ref sr, .ref sw, .int (J ((rn : Nat) : Int))])), (r0, .inl (cI, 7, .inl (fun z9 => J ((Mr z9 : Nat) : Int)))), (rx, .inl (cI, 40, .inl (fun z9 => J (Px z9)))), (ry, .inl (cI, 40, .inl (fun z9 => J (Py z9)))), (rt, .inl (cZ, 40, .inl (fun z9 => J (b2i (Mt z9))))), (rh, .inl (cI, 41, .inl (fun z9 => J (((sn (sn Hu 0 f.toNat) 1 l0.toNat) z9 : Nat) : Int)))), (ra, .inl (cI, 120, .inl (fun z9 => J ((A1 z9 : Nat) : Int)))), (rb, .inl (cI, 120, .inl (fun z9 => J ((A2 z9 : Nat) : Int)))), (rc, .inl (cI, 120, .inl (fun z9 => J ((A3 z9 : Nat) : Int)))), (sa, .inl (cI, 120, .inl (fun z9 => J ((B1 z9 : Nat) : Int)))), (sb, .inl (cI, 120, .inl (fun z9 => J ((B2 z9 : Nat) : Int)))), (sc, .inl (cI, 120, .inl (fun z9 => J ((B3 z9 : Nat) : Int)))), (so, .inl (cI, 40, .inl (fun z9 => J ((Or z9 : Nat) : Int)))), (sr, .inl (cI, 80, .inl (fun z9 => J ((Ro z9 : Nat) : Int)))), (sw, .inl (cI, 80, .inl (fun z9 => J ((Ne z9 : Nat) : Int))))] := hD
          refine lv_aload_n C.1 C.2.1 dX4_findHull_98 rfl (lv_at hl 0 rfl) ?_
          refine lv_iload_n C.1 C.2.1 dX4_findHull_99 rfl (lv_at hl 1 rfl) ?_
          refine lv_iload_n C.1 C.2.1 dX4_findHull_100 rfl (lv_at hl 2 rfl) ?_
          refine jv_icmp_ne (tgt := 108) C dX4_findHull_101 (by decide) (by omega) (fun h5 => ?_) (fun h5 => ?_)
          · refine jv_iconst C dX4_findHull_108 ?_
            refine jv_put C fw_X4_121 fp_X4 hK hP hD hS 0 rfl rfl rfl rfl (Nat.le_of_ble_eq_true rfl) dX4_findHull_109 (fun H locs hP hD hS => ?_)
            have hP : va_P D vwCl [(qq, .inr (4, [.ref r0, .ref rx, .ref ry, .ref rt, .int (J ((pn : Nat) : Int)), .int (J (b2i (kn))), .int (J (b2i (fl))), .ref rh, .ref ra, .ref rb, .ref rc, .int (J 2), .int (J ((mn : Nat) : Int)), .int (J (b2i (hd))), .int (J (b2i (sd))), .ref sa, .ref sb, .ref sc, .int (J ((hh : Nat) : Int)), .int (J ((fp : Nat) : Int)), .ref so, .ref sr, .ref sw, .int (J ((rn : Nat) : Int))])), (r0, .inl (cI, 7, .inl (fun z9 => J ((Mr z9 : Nat) : Int)))), (rx, .inl (cI, 40, .inl (fun z9 => J (Px z9)))), (ry, .inl (cI, 40, .inl (fun z9 => J (Py z9)))), (rt, .inl (cZ, 40, .inl (fun z9 => J (b2i (Mt z9))))), (rh, .inl (cI, 41, .inl (fun z9 => J (((sn (sn Hu 0 f.toNat) 1 l0.toNat) z9 : Nat) : Int)))), (ra, .inl (cI, 120, .inl (fun z9 => J ((A1 z9 : Nat) : Int)))), (rb, .inl (cI, 120, .inl (fun z9 => J ((A2 z9 : Nat) : Int)))), (rc, .inl (cI, 120, .inl (fun z9 => J ((A3 z9 : Nat) : Int)))), (sa, .inl (cI, 120, .inl (fun z9 => J ((B1 z9 : Nat) : Int)))), (sb, .inl (cI, 120, .inl (fun z9 => J ((B2 z9 : Nat) : Int)))), (sc, .inl (cI, 120, .inl (fun z9 => J ((B3 z9 : Nat) : Int)))), (so, .inl (cI, 40, .inl (fun z9 => J ((Or z9 : Nat) : Int)))), (sr, .inl (cI, 80, .inl (fun z9 => J ((Ro z9 : Nat) : Int)))), (sw, .inl (cI, 80, .inl (fun z9 => J ((Ne z9 : Nat) : Int))))] H := hP
            have hD : va_D _ [(qq, .inr (4, [.ref r0, .ref rx, .ref ry, .ref rt, .int (J ((pn : Nat) : Int)), .int (J (b2i (kn))), .int (J (b2i (fl))), .ref rh, .ref ra, .ref rb, .ref rc, .int (J 2), .int (J ((mn : Nat) : Int)), .int (J (b2i (hd))), .int (J (b2i (sd))), .ref sa, .ref sb, .ref sc, .int (J ((hh : Nat) : Int)), .int (J ((fp : Nat) : Int)), .ref so, .ref sr, .ref sw, .int (J ((rn : Nat) : Int))])), (r0, .inl (cI, 7, .inl (fun z9 => J ((Mr z9 : Nat) : Int)))), (rx, .inl (cI, 40, .inl (fun z9 => J (Px z9)))), (ry, .inl (cI, 40, .inl (fun z9 => J (Py z9)))), (rt, .inl (cZ, 40, .inl (fun z9 => J (b2i (Mt z9))))), (rh, .inl (cI, 41, .inl (fun z9 => J (((sn (sn Hu 0 f.toNat) 1 l0.toNat) z9 : Nat) : Int)))), (ra, .inl (cI, 120, .inl (fun z9 => J ((A1 z9 : Nat) : Int)))), (rb, .inl (cI, 120, .inl (fun z9 => J ((A2 z9 : Nat) : Int)))), (rc, .inl (cI, 120, .inl (fun z9 => J ((A3 z9 : Nat) : Int)))), (sa, .inl (cI, 120, .inl (fun z9 => J ((B1 z9 : Nat) : Int)))), (sb, .inl (cI, 120, .inl (fun z9 => J ((B2 z9 : Nat) : Int)))), (sc, .inl (cI, 120, .inl (fun z9 => J ((B3 z9 : Nat) : Int)))), (so, .inl (cI, 40, .inl (fun z9 => J ((Or z9 : Nat) : Int)))), (sr, .inl (cI, 80, .inl (fun z9 => J ((Ro z9 : Nat) : Int)))), (sw, .inl (cI, 80, .inl (fun z9 => J ((Ne z9 : Nat) : Int))))] := hD
            exact jw_vret C hlk hr dX4_findHull_112 (by rw [hRf]; unfold hulQ; rw [if_neg (by rw [← hFL0, hFe]; show ¬ f < 0; omega), if_pos h3, ← hFL0, hFe]; dsimp only; rw [if_neg (by omega)]; exact hP) hS
          · refine jv_iconst C dX4_findHull_104 ?_
            refine lv_goto (tgt := 109) C.1 C.2.1 dX4_findHull_105 (by decide) ?_
            refine jv_put C fw_X4_121 fp_X4 hK hP hD hS 0 rfl rfl rfl rfl (Nat.le_of_ble_eq_true rfl) dX4_findHull_109 (fun H locs hP hD hS => ?_)
            have hP : va_P D vwCl [(qq, .inr (4, [.ref r0, .ref rx, .ref ry, .ref rt, .int (J ((pn : Nat) : Int)), .int (J (b2i (kn))), .int (J (b2i (fl))), .ref rh, .ref ra, .ref rb, .ref rc, .int (J 1), .int (J ((mn : Nat) : Int)), .int (J (b2i (hd))), .int (J (b2i (sd))), .ref sa, .ref sb, .ref sc, .int (J ((hh : Nat) : Int)), .int (J ((fp : Nat) : Int)), .ref so, .ref sr, .ref sw, .int (J ((rn : Nat) : Int))])), (r0, .inl (cI, 7, .inl (fun z9 => J ((Mr z9 : Nat) : Int)))), (rx, .inl (cI, 40, .inl (fun z9 => J (Px z9)))), (ry, .inl (cI, 40, .inl (fun z9 => J (Py z9)))), (rt, .inl (cZ, 40, .inl (fun z9 => J (b2i (Mt z9))))), (rh, .inl (cI, 41, .inl (fun z9 => J (((sn (sn Hu 0 f.toNat) 1 l0.toNat) z9 : Nat) : Int)))), (ra, .inl (cI, 120, .inl (fun z9 => J ((A1 z9 : Nat) : Int)))), (rb, .inl (cI, 120, .inl (fun z9 => J ((A2 z9 : Nat) : Int)))), (rc, .inl (cI, 120, .inl (fun z9 => J ((A3 z9 : Nat) : Int)))), (sa, .inl (cI, 120, .inl (fun z9 => J ((B1 z9 : Nat) : Int)))), (sb, .inl (cI, 120, .inl (fun z9 => J ((B2 z9 : Nat) : Int)))), (sc, .inl (cI, 120, .inl (fun z9 => J ((B3 z9 : Nat) : Int)))), (so, .inl (cI, 40, .inl (fun z9 => J ((Or z9 : Nat) : Int)))), (sr, .inl (cI, 80, .inl (fun z9 => J ((Ro z9 : Nat) : Int)))), (sw, .inl (cI, 80, .inl (fun z9 => J ((Ne z9 : Nat) : Int))))] H := hP
            have hD : va_D _ [(qq, .inr (4, [.ref r0, .ref rx, .ref ry, .ref rt, .int (J ((pn : Nat) : Int)), .int (J (b2i (kn))), .int (J (b2i (fl))), .ref rh, .ref ra, .ref rb, .ref rc, .int (J 1), .int (J ((mn : Nat) : Int)), .int (J (b2i (hd))), .int (J (b2i (sd))), .ref sa, .ref sb, .ref sc, .int (J ((hh : Nat) : Int)), .int (J ((fp : Nat) : Int)), .ref so, .ref sr, .ref sw, .int (J ((rn : Nat) : Int))])), (r0, .inl (cI, 7, .inl (fun z9 => J ((Mr z9 : Nat) : Int)))), (rx, .inl (cI, 40, .inl (fun z9 => J (Px z9)))), (ry, .inl (cI, 40, .inl (fun z9 => J (Py z9)))), (rt, .inl (cZ, 40, .inl (fun z9 => J (b2i (Mt z9))))), (rh, .inl (cI, 41, .inl (fun z9 => J (((sn (sn Hu 0 f.toNat) 1 l0.toNat) z9 : Nat) : Int)))), (ra, .inl (cI, 120, .inl (fun z9 => J ((A1 z9 : Nat) : Int)))), (rb, .inl (cI, 120, .inl (fun z9 => J ((A2 z9 : Nat) : Int)))), (rc, .inl (cI, 120, .inl (fun z9 => J ((A3 z9 : Nat) : Int)))), (sa, .inl (cI, 120, .inl (fun z9 => J ((B1 z9 : Nat) : Int)))), (sb, .inl (cI, 120, .inl (fun z9 => J ((B2 z9 : Nat) : Int)))), (sc, .inl (cI, 120, .inl (fun z9 => J ((B3 z9 : Nat) : Int)))), (so, .inl (cI, 40, .inl (fun z9 => J ((Or z9 : Nat) : Int)))), (sr, .inl (cI, 80, .inl (fun z9 => J ((Ro z9 : Nat) : Int)))), (sw, .inl (cI, 80, .inl (fun z9 => J ((Ne z9 : Nat) : Int))))] := hD
            exact jw_vret C hlk hr dX4_findHull_112 (by rw [hRf]; unfold hulQ; rw [if_neg (by rw [← hFL0, hFe]; show ¬ f < 0; omega), if_pos h3, ← hFL0, hFe]; dsimp only; rw [if_pos (by omega)]; exact hP) hS
      · exact jw_vret C hlk hr dX4_findHull_71 (by rw [hRf]; unfold hulQ; rw [if_pos (by rw [← hFL0, hFe]; show f < 0; omega)]; exact hP) hS
    · refine lv_aload_n C.1 C.2.1 dX4_findHull_19 rfl (lv_at hl 0 rfl) ?_
      refine jv_get C fw_X4_19 hK hP 0 rfl rfl dX4_findHull_20 ?_
      refine lv_iload_n C.1 C.2.1 dX4_findHull_23 rfl (lv_at hl 3 rfl) ?_
      refine jv_zald C hK hP 4 1 rfl rfl (i) (by omega) (by omega) (by decide) dX4_findHull_24 ?_
      refine jv_bif_ne (tgt := 31) C dX4_findHull_25 (by decide) (fun h6 => ?_) (fun h6 => ?_)
      · refine lv_iload_n C.1 C.2.1 dX4_findHull_31 rfl (lv_at hl 1 rfl) ?_
        refine jv_if_lt (tgt := 44) C dX4_findHull_32 (by decide) (by omega) (fun h7 => ?_) (fun h7 => ?_)
        · refine lv_iload_n C.1 C.2.1 dX4_findHull_44 rfl (lv_at hl 3 rfl) ?_
          refine lv_istore_n (lv' := [(1, .int (J ((i : Nat) : Int))), (0, .ref qq), (2, .int (J l0)), (3, .int (J ((i : Nat) : Int)))]) C.1 C.2.1 dX4_findHull_45 rfl hl (by decide) rfl (fun ls hl => ?_)
          refine lv_iload_n C.1 C.2.1 dX4_findHull_46 rfl (lv_at hl 2 rfl) ?_
          refine jv_if_lt (tgt := 59) C dX4_findHull_47 (by decide) (by omega) (fun h8 => ?_) (fun h8 => ?_)
          · refine lv_iload_n C.1 C.2.1 dX4_findHull_59 rfl (lv_at hl 3 rfl) ?_
            refine lv_istore_n (lv' := [(2, .int (J ((i : Nat) : Int))), (1, .int (J ((i : Nat) : Int))), (0, .ref qq), (3, .int (J ((i : Nat) : Int)))]) C.1 C.2.1 dX4_findHull_60 rfl hl (by decide) rfl (fun ls hl => ?_)
            refine lv_iinc (v := J (((i + 1 : Nat) : Int))) (lv' := [(3, .int (J ((i + 1 : Nat) : Int))), (2, .int (J ((i : Nat) : Int))), (1, .int (J ((i : Nat) : Int))), (0, .ref qq)]) C.1 C.2.1 dX4_findHull_61 hl (k := 3) rfl (by rw [show Int32.ofInt 1 = J 1 from rfl, J_add]; exact congrArg J (by omega)) (by decide) rfl (fun ls hl => ?_)
            refine lv_goto (tgt := 11) C.1 C.2.1 dX4_findHull_64 (by decide) ?_
            exact ih (i + 1) (((i : Nat) : Int)) (((i : Nat) : Int)) (by omega) (by omega) (by omega) (by omega) (by omega) (by omega) (by omega) FL2 (by rw [hFL2, fla_go (f2 := ((i : Nat) : Int)) (l2 := ((i : Nat) : Int)) (by omega) h6 (by first | (rw [if_pos (by first | (left; omega) | (right; assumption))]; done) | (rw [if_neg (by rintro (q | q); omega; simp_all)]; done)) (by first | (rw [if_pos (by first | (left; omega) | (right; assumption))]; done) | (rw [if_neg (by rintro (q | q); omega; simp_all)]; done))]) Rf hRf H locs hP hD hS ls (lv_sub hl [3, 2, 1, 0] rfl)
          · rw [show l0 = ((l0.toNat : Nat) : Int) from by omega] at hl
            refine lv_aload_n C.1 C.2.1 dX4_findHull_50 rfl (lv_at hl 1 rfl) ?_
            refine lv_iload_n C.1 C.2.1 dX4_findHull_51 rfl (lv_at hl 2 rfl) ?_
            refine lv_iload_n C.1 C.2.1 dX4_findHull_52 rfl (lv_at hl 3 rfl) ?_
            refine jv_rdV (ni := 2) (ci := 4) (q0 := 0) C [.int (J ((l0.toNat : Nat) : Int)), .int (J ((i : Nat) : Int))] [] (c_X4_isAhead (Px := Px) (Py := Py) (Mt := Mt) (pn := pn) (kn := kn) (fl := fl) (Hu := Hu) (hn := 0) (A1 := A1) (A2 := A2) (A3 := A3) (mn := mn) (hd := hd) (sd := sd) (B1 := B1) (B2 := B2) (B3 := B3) (hh := hh) (fp := fp) (Or := Or) (Ro := Ro) (Ne := Ne) (rn := rn) (Mr := Mr) hR0 (a := l0.toNat) (b := i) (by omega) (by omega)) gv_X4_124 (by decide +kernel) (by decide) hK (hP) rfl rfl rfl hl.1 (by simp [Value.category]) dX4_findHull_53 (by decide) ?_ rfl
            show W _ _ _ _ _ _ _ _ _ _ _ _ _ _ _ (F0 m 56 ls [.int (J (b2i (ear Px Py l0.toNat i)))])
            refine jv_bif_eq (tgt := 61) C dX4_findHull_56 (by decide) (fun h9 => ?_) (fun h9 => ?_)
            · refine lv_iinc (v := J (((i + 1 : Nat) : Int))) (lv' := [(3, .int (J ((i + 1 : Nat) : Int))), (1, .int (J ((i : Nat) : Int))), (0, .ref qq), (2, .int (J ((l0.toNat : Nat) : Int)))]) C.1 C.2.1 dX4_findHull_61 hl (k := 3) rfl (by rw [show Int32.ofInt 1 = J 1 from rfl, J_add]; exact congrArg J (by omega)) (by decide) rfl (fun ls hl => ?_)
              refine lv_goto (tgt := 11) C.1 C.2.1 dX4_findHull_64 (by decide) ?_
              rw [show ((l0.toNat : Nat) : Int) = l0 from by omega] at hl
              exact ih (i + 1) (((i : Nat) : Int)) (l0) (by omega) (by omega) (by omega) (by omega) (by omega) (by omega) (by omega) FL2 (by rw [hFL2, fla_go (f2 := ((i : Nat) : Int)) (l2 := l0) (by omega) h6 (by first | (rw [if_pos (by first | (left; omega) | (right; assumption))]; done) | (rw [if_neg (by rintro (q | q); omega; simp_all)]; done)) (by first | (rw [if_pos (by first | (left; omega) | (right; assumption))]; done) | (rw [if_neg (by rintro (q | q); omega; simp_all)]; done))]) Rf hRf H locs hP hD hS ls (lv_sub hl [2, 1, 3, 0] rfl)
            · refine lv_iload_n C.1 C.2.1 dX4_findHull_59 rfl (lv_at hl 3 rfl) ?_
              refine lv_istore_n (lv' := [(2, .int (J ((i : Nat) : Int))), (1, .int (J ((i : Nat) : Int))), (0, .ref qq), (3, .int (J ((i : Nat) : Int)))]) C.1 C.2.1 dX4_findHull_60 rfl hl (by decide) rfl (fun ls hl => ?_)
              refine lv_iinc (v := J (((i + 1 : Nat) : Int))) (lv' := [(3, .int (J ((i + 1 : Nat) : Int))), (2, .int (J ((i : Nat) : Int))), (1, .int (J ((i : Nat) : Int))), (0, .ref qq)]) C.1 C.2.1 dX4_findHull_61 hl (k := 3) rfl (by rw [show Int32.ofInt 1 = J 1 from rfl, J_add]; exact congrArg J (by omega)) (by decide) rfl (fun ls hl => ?_)
              refine lv_goto (tgt := 11) C.1 C.2.1 dX4_findHull_64 (by decide) ?_
              exact ih (i + 1) (((i : Nat) : Int)) (((i : Nat) : Int)) (by omega) (by omega) (by omega) (by omega) (by omega) (by omega) (by omega) FL2 (by rw [hFL2, fla_go (f2 := ((i : Nat) : Int)) (l2 := ((i : Nat) : Int)) (by omega) h6 (by first | (rw [if_pos (by first | (left; omega) | (right; assumption))]; done) | (rw [if_neg (by rintro (q | q); omega; simp_all)]; done)) (by first | (rw [if_pos (by first | (left; omega) | (right; assumption))]; done) | (rw [if_neg (by rintro (q | q); omega; simp_all)]; done))]) Rf hRf H locs hP hD hS ls (lv_sub hl [3, 2, 1, 0] rfl)
        · rw [show f = ((f.toNat : Nat) : Int) from by omega] at hl
          refine lv_aload_n C.1 C.2.1 dX4_findHull_35 rfl (lv_at hl 0 rfl) ?_
          refine lv_iload_n C.1 C.2.1 dX4_findHull_36 rfl (lv_at hl 3 rfl) ?_
          refine lv_iload_n C.1 C.2.1 dX4_findHull_37 rfl (lv_at hl 1 rfl) ?_
          refine jv_rdV (ni := 2) (ci := 4) (q0 := 0) C [.int (J ((i : Nat) : Int)), .int (J ((f.toNat : Nat) : Int))] [] (c_X4_isAhead (Px := Px) (Py := Py) (Mt := Mt) (pn := pn) (kn := kn) (fl := fl) (Hu := Hu) (hn := 0) (A1 := A1) (A2 := A2) (A3 := A3) (mn := mn) (hd := hd) (sd := sd) (B1 := B1) (B2 := B2) (B3 := B3) (hh := hh) (fp := fp) (Or := Or) (Ro := Ro) (Ne := Ne) (rn := rn) (Mr := Mr) hR0 (a := i) (b := f.toNat) (by omega) (by omega)) gv_X4_124 (by decide +kernel) (by decide) hK (hP) rfl rfl rfl hl.1 (by simp [Value.category]) dX4_findHull_38 (by decide) ?_ rfl
          show W _ _ _ _ _ _ _ _ _ _ _ _ _ _ _ (F0 m 41 ls [.int (J (b2i (ear Px Py i f.toNat)))])
          refine jv_bif_eq (tgt := 46) C dX4_findHull_41 (by decide) (fun h10 => ?_) (fun h10 => ?_)
          · refine lv_iload_n C.1 C.2.1 dX4_findHull_46 rfl (lv_at hl 2 rfl) ?_
            refine jv_if_lt (tgt := 59) C dX4_findHull_47 (by decide) (by omega) (fun h11 => ?_) (fun h11 => ?_)
            · refine lv_iload_n C.1 C.2.1 dX4_findHull_59 rfl (lv_at hl 3 rfl) ?_
              refine lv_istore_n (lv' := [(2, .int (J ((i : Nat) : Int))), (0, .ref qq), (1, .int (J ((f.toNat : Nat) : Int))), (3, .int (J ((i : Nat) : Int)))]) C.1 C.2.1 dX4_findHull_60 rfl hl (by decide) rfl (fun ls hl => ?_)
              refine lv_iinc (v := J (((i + 1 : Nat) : Int))) (lv' := [(3, .int (J ((i + 1 : Nat) : Int))), (2, .int (J ((i : Nat) : Int))), (0, .ref qq), (1, .int (J ((f.toNat : Nat) : Int)))]) C.1 C.2.1 dX4_findHull_61 hl (k := 3) rfl (by rw [show Int32.ofInt 1 = J 1 from rfl, J_add]; exact congrArg J (by omega)) (by decide) rfl (fun ls hl => ?_)
              refine lv_goto (tgt := 11) C.1 C.2.1 dX4_findHull_64 (by decide) ?_
              rw [show ((f.toNat : Nat) : Int) = f from by omega] at hl
              exact ih (i + 1) (f) (((i : Nat) : Int)) (by omega) (by omega) (by omega) (by omega) (by omega) (by omega) (by omega) FL2 (by rw [hFL2, fla_go (f2 := f) (l2 := ((i : Nat) : Int)) (by omega) h6 (by first | (rw [if_pos (by first | (left; omega) | (right; assumption))]; done) | (rw [if_neg (by rintro (q | q); omega; simp_all)]; done)) (by first | (rw [if_pos (by first | (left; omega) | (right; assumption))]; done) | (rw [if_neg (by rintro (q | q); omega; simp_all)]; done))]) Rf hRf H locs hP hD hS ls (lv_sub hl [2, 3, 1, 0] rfl)
            · rw [show l0 = ((l0.toNat : Nat) : Int) from by omega] at hl
              refine lv_aload_n C.1 C.2.1 dX4_findHull_50 rfl (lv_at hl 0 rfl) ?_
              refine lv_iload_n C.1 C.2.1 dX4_findHull_51 rfl (lv_at hl 2 rfl) ?_
              refine lv_iload_n C.1 C.2.1 dX4_findHull_52 rfl (lv_at hl 3 rfl) ?_
              refine jv_rdV (ni := 2) (ci := 4) (q0 := 0) C [.int (J ((l0.toNat : Nat) : Int)), .int (J ((i : Nat) : Int))] [] (c_X4_isAhead (Px := Px) (Py := Py) (Mt := Mt) (pn := pn) (kn := kn) (fl := fl) (Hu := Hu) (hn := 0) (A1 := A1) (A2 := A2) (A3 := A3) (mn := mn) (hd := hd) (sd := sd) (B1 := B1) (B2 := B2) (B3 := B3) (hh := hh) (fp := fp) (Or := Or) (Ro := Ro) (Ne := Ne) (rn := rn) (Mr := Mr) hR0 (a := l0.toNat) (b := i) (by omega) (by omega)) gv_X4_124 (by decide +kernel) (by decide) hK (hP) rfl rfl rfl hl.1 (by simp [Value.category]) dX4_findHull_53 (by decide) ?_ rfl
              show W _ _ _ _ _ _ _ _ _ _ _ _ _ _ _ (F0 m 56 ls [.int (J (b2i (ear Px Py l0.toNat i)))])
              refine jv_bif_eq (tgt := 61) C dX4_findHull_56 (by decide) (fun h12 => ?_) (fun h12 => ?_)
              · refine lv_iinc (v := J (((i + 1 : Nat) : Int))) (lv' := [(3, .int (J ((i + 1 : Nat) : Int))), (0, .ref qq), (1, .int (J ((f.toNat : Nat) : Int))), (2, .int (J ((l0.toNat : Nat) : Int)))]) C.1 C.2.1 dX4_findHull_61 hl (k := 3) rfl (by rw [show Int32.ofInt 1 = J 1 from rfl, J_add]; exact congrArg J (by omega)) (by decide) rfl (fun ls hl => ?_)
                refine lv_goto (tgt := 11) C.1 C.2.1 dX4_findHull_64 (by decide) ?_
                rw [show ((f.toNat : Nat) : Int) = f from by omega] at hl
                rw [show ((l0.toNat : Nat) : Int) = l0 from by omega] at hl
                exact ih (i + 1) (f) (l0) (by omega) (by omega) (by omega) (by omega) (by omega) (by omega) (by omega) FL2 (by rw [hFL2, fla_go (f2 := f) (l2 := l0) (by omega) h6 (by first | (rw [if_pos (by first | (left; omega) | (right; assumption))]; done) | (rw [if_neg (by rintro (q | q); omega; simp_all)]; done)) (by first | (rw [if_pos (by first | (left; omega) | (right; assumption))]; done) | (rw [if_neg (by rintro (q | q); omega; simp_all)]; done))]) Rf hRf H locs hP hD hS ls (lv_sub hl [1, 2, 3, 0] rfl)
              · refine lv_iload_n C.1 C.2.1 dX4_findHull_59 rfl (lv_at hl 3 rfl) ?_
                refine lv_istore_n (lv' := [(2, .int (J ((i : Nat) : Int))), (0, .ref qq), (1, .int (J ((f.toNat : Nat) : Int))), (3, .int (J ((i : Nat) : Int)))]) C.1 C.2.1 dX4_findHull_60 rfl hl (by decide) rfl (fun ls hl => ?_)
                refine lv_iinc (v := J (((i + 1 : Nat) : Int))) (lv' := [(3, .int (J ((i + 1 : Nat) : Int))), (2, .int (J ((i : Nat) : Int))), (0, .ref qq), (1, .int (J ((f.toNat : Nat) : Int)))]) C.1 C.2.1 dX4_findHull_61 hl (k := 3) rfl (by rw [show Int32.ofInt 1 = J 1 from rfl, J_add]; exact congrArg J (by omega)) (by decide) rfl (fun ls hl => ?_)
                refine lv_goto (tgt := 11) C.1 C.2.1 dX4_findHull_64 (by decide) ?_
                rw [show ((f.toNat : Nat) : Int) = f from by omega] at hl
                exact ih (i + 1) (f) (((i : Nat) : Int)) (by omega) (by omega) (by omega) (by omega) (by omega) (by omega) (by omega) FL2 (by rw [hFL2, fla_go (f2 := f) (l2 := ((i : Nat) : Int)) (by omega) h6 (by first | (rw [if_pos (by first | (left; omega) | (right; assumption))]; done) | (rw [if_neg (by rintro (q | q); omega; simp_all)]; done)) (by first | (rw [if_pos (by first | (left; omega) | (right; assumption))]; done) | (rw [if_neg (by rintro (q | q); omega; simp_all)]; done))]) Rf hRf H locs hP hD hS ls (lv_sub hl [2, 3, 1, 0] rfl)
          · refine lv_iload_n C.1 C.2.1 dX4_findHull_44 rfl (lv_at hl 3 rfl) ?_
            refine lv_istore_n (lv' := [(1, .int (J ((i : Nat) : Int))), (0, .ref qq), (2, .int (J l0)), (3, .int (J ((i : Nat) : Int)))]) C.1 C.2.1 dX4_findHull_45 rfl hl (by decide) rfl (fun ls hl => ?_)
            refine lv_iload_n C.1 C.2.1 dX4_findHull_46 rfl (lv_at hl 2 rfl) ?_
            refine jv_if_lt (tgt := 59) C dX4_findHull_47 (by decide) (by omega) (fun h13 => ?_) (fun h13 => ?_)
            · refine lv_iload_n C.1 C.2.1 dX4_findHull_59 rfl (lv_at hl 3 rfl) ?_
              refine lv_istore_n (lv' := [(2, .int (J ((i : Nat) : Int))), (1, .int (J ((i : Nat) : Int))), (0, .ref qq), (3, .int (J ((i : Nat) : Int)))]) C.1 C.2.1 dX4_findHull_60 rfl hl (by decide) rfl (fun ls hl => ?_)
              refine lv_iinc (v := J (((i + 1 : Nat) : Int))) (lv' := [(3, .int (J ((i + 1 : Nat) : Int))), (2, .int (J ((i : Nat) : Int))), (1, .int (J ((i : Nat) : Int))), (0, .ref qq)]) C.1 C.2.1 dX4_findHull_61 hl (k := 3) rfl (by rw [show Int32.ofInt 1 = J 1 from rfl, J_add]; exact congrArg J (by omega)) (by decide) rfl (fun ls hl => ?_)
              refine lv_goto (tgt := 11) C.1 C.2.1 dX4_findHull_64 (by decide) ?_
              exact ih (i + 1) (((i : Nat) : Int)) (((i : Nat) : Int)) (by omega) (by omega) (by omega) (by omega) (by omega) (by omega) (by omega) FL2 (by rw [hFL2, fla_go (f2 := ((i : Nat) : Int)) (l2 := ((i : Nat) : Int)) (by omega) h6 (by first | (rw [if_pos (by first | (left; omega) | (right; assumption))]; done) | (rw [if_neg (by rintro (q | q); omega; simp_all)]; done)) (by first | (rw [if_pos (by first | (left; omega) | (right; assumption))]; done) | (rw [if_neg (by rintro (q | q); omega; simp_all)]; done))]) Rf hRf H locs hP hD hS ls (lv_sub hl [3, 2, 1, 0] rfl)
            · rw [show l0 = ((l0.toNat : Nat) : Int) from by omega] at hl
              refine lv_aload_n C.1 C.2.1 dX4_findHull_50 rfl (lv_at hl 1 rfl) ?_
              refine lv_iload_n C.1 C.2.1 dX4_findHull_51 rfl (lv_at hl 2 rfl) ?_
              refine lv_iload_n C.1 C.2.1 dX4_findHull_52 rfl (lv_at hl 3 rfl) ?_
              refine jv_rdV (ni := 2) (ci := 4) (q0 := 0) C [.int (J ((l0.toNat : Nat) : Int)), .int (J ((i : Nat) : Int))] [] (c_X4_isAhead (Px := Px) (Py := Py) (Mt := Mt) (pn := pn) (kn := kn) (fl := fl) (Hu := Hu) (hn := 0) (A1 := A1) (A2 := A2) (A3 := A3) (mn := mn) (hd := hd) (sd := sd) (B1 := B1) (B2 := B2) (B3 := B3) (hh := hh) (fp := fp) (Or := Or) (Ro := Ro) (Ne := Ne) (rn := rn) (Mr := Mr) hR0 (a := l0.toNat) (b := i) (by omega) (by omega)) gv_X4_124 (by decide +kernel) (by decide) hK (hP) rfl rfl rfl hl.1 (by simp [Value.category]) dX4_findHull_53 (by decide) ?_ rfl
              show W _ _ _ _ _ _ _ _ _ _ _ _ _ _ _ (F0 m 56 ls [.int (J (b2i (ear Px Py l0.toNat i)))])
              refine jv_bif_eq (tgt := 61) C dX4_findHull_56 (by decide) (fun h14 => ?_) (fun h14 => ?_)
              · refine lv_iinc (v := J (((i + 1 : Nat) : Int))) (lv' := [(3, .int (J ((i + 1 : Nat) : Int))), (1, .int (J ((i : Nat) : Int))), (0, .ref qq), (2, .int (J ((l0.toNat : Nat) : Int)))]) C.1 C.2.1 dX4_findHull_61 hl (k := 3) rfl (by rw [show Int32.ofInt 1 = J 1 from rfl, J_add]; exact congrArg J (by omega)) (by decide) rfl (fun ls hl => ?_)
                refine lv_goto (tgt := 11) C.1 C.2.1 dX4_findHull_64 (by decide) ?_
                rw [show ((l0.toNat : Nat) : Int) = l0 from by omega] at hl
                exact ih (i + 1) (((i : Nat) : Int)) (l0) (by omega) (by omega) (by omega) (by omega) (by omega) (by omega) (by omega) FL2 (by rw [hFL2, fla_go (f2 := ((i : Nat) : Int)) (l2 := l0) (by omega) h6 (by first | (rw [if_pos (by first | (left; omega) | (right; assumption))]; done) | (rw [if_neg (by rintro (q | q); omega; simp_all)]; done)) (by first | (rw [if_pos (by first | (left; omega) | (right; assumption))]; done) | (rw [if_neg (by rintro (q | q); omega; simp_all)]; done))]) Rf hRf H locs hP hD hS ls (lv_sub hl [2, 1, 3, 0] rfl)
              · refine lv_iload_n C.1 C.2.1 dX4_findHull_59 rfl (lv_at hl 3 rfl) ?_
                refine lv_istore_n (lv' := [(2, .int (J ((i : Nat) : Int))), (1, .int (J ((i : Nat) : Int))), (0, .ref qq), (3, .int (J ((i : Nat) : Int)))]) C.1 C.2.1 dX4_findHull_60 rfl hl (by decide) rfl (fun ls hl => ?_)
                refine lv_iinc (v := J (((i + 1 : Nat) : Int))) (lv' := [(3, .int (J ((i + 1 : Nat) : Int))), (2, .int (J ((i : Nat) : Int))), (1, .int (J ((i : Nat) : Int))), (0, .ref qq)]) C.1 C.2.1 dX4_findHull_61 hl (k := 3) rfl (by rw [show Int32.ofInt 1 = J 1 from rfl, J_add]; exact congrArg J (by omega)) (by decide) rfl (fun ls hl => ?_)
                refine lv_goto (tgt := 11) C.1 C.2.1 dX4_findHull_64 (by decide) ?_
                exact ih (i + 1) (((i : Nat) : Int)) (((i : Nat) : Int)) (by omega) (by omega) (by omega) (by omega) (by omega) (by omega) (by omega) FL2 (by rw [hFL2, fla_go (f2 := ((i : Nat) : Int)) (l2 := ((i : Nat) : Int)) (by omega) h6 (by first | (rw [if_pos (by first | (left; omega) | (right; assumption))]; done) | (rw [if_neg (by rintro (q | q); omega; simp_all)]; done)) (by first | (rw [if_pos (by first | (left; omega) | (right; assumption))]; done) | (rw [if_neg (by rintro (q | q); omega; simp_all)]; done))]) Rf hRf H locs hP hD hS ls (lv_sub hl [3, 2, 1, 0] rfl)
      · refine lv_goto (tgt := 61) C.1 C.2.1 dX4_findHull_28 (by decide) ?_
        refine lv_iinc (v := J (((i + 1 : Nat) : Int))) (lv' := [(3, .int (J ((i + 1 : Nat) : Int))), (0, .ref qq), (1, .int (J f)), (2, .int (J l0))]) C.1 C.2.1 dX4_findHull_61 hl (k := 3) rfl (by rw [show Int32.ofInt 1 = J 1 from rfl, J_add]; exact congrArg J (by omega)) (by decide) rfl (fun ls hl => ?_)
        refine lv_goto (tgt := 11) C.1 C.2.1 dX4_findHull_64 (by decide) ?_
        exact ih (i + 1) (f) (l0) (by omega) (by omega) (by omega) (by omega) (by omega) (by omega) (by omega) FL2 (by rw [hFL2, fla_no (by omega) h6]) Rf hRf H locs hP hD hS ls (lv_sub hl [1, 2, 3, 0] rfl)
end REF8
