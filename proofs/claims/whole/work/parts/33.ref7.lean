/-- first and last by x, then y -/
def fla (X Y : Nat → Int) (T : Nat → Bool) (pn i : Nat) (f l : Int) : Int × Int := if i < pn then (if T i = true then fla X Y T pn (i + 1) (if f < 0 ∨ ear X Y i f.toNat = true then (i : Int) else f) (if l < 0 ∨ ear X Y l.toNat i = true then (i : Int) else l) else fla X Y T pn (i + 1) f l) else (f, l)
termination_by pn - i
theorem fla_end {X Y : Nat → Int} {T : Nat → Bool} {pn i : Nat} {f l : Int} (h : pn ≤ i) : fla X Y T pn i f l = (f, l) := by rw [fla, if_neg (by omega)]
theorem fla_no {X Y : Nat → Int} {T : Nat → Bool} {pn i : Nat} {f l : Int} (h : i < pn) (ht : T i = false) : fla X Y T pn i f l = fla X Y T pn (i + 1) f l := by rw [fla, if_pos h, if_neg (by rw [ht]; decide)]
theorem fla_go {X Y : Nat → Int} {T : Nat → Bool} {pn i : Nat} {f l f2 l2 : Int} (h : i < pn) (ht : T i = true) (h1 : (if f < 0 ∨ ear X Y i f.toNat = true then (i : Int) else f) = f2) (h2 : (if l < 0 ∨ ear X Y l.toNat i = true then (i : Int) else l) = l2) : fla X Y T pn i f l = fla X Y T pn (i + 1) f2 l2 := by rw [fla, if_pos h, if_pos ht, h1, h2]
abbrev QH : Type := (Nat → Nat) × Nat
def hlw (nx : Nat → Int) (f : Nat) : Nat → Int → QH → Option QH
  | 0, _, _ => none
  | k + 1, p, Q => if p = (f : Int) then some Q else if p < 0 then none else hlw nx f k (nx p.toNat) (sn Q.1 Q.2 p.toNat, Q.2 + 1)
def nxc (X Y : Nat → Int) (T : Nat → Bool) (pn p : Nat) : Int := ncS X Y T pn p 0 (-1)
theorem nxc_R (X Y : Nat → Int) (T : Nat → Bool) {pn : Nat} (p : Nat) (hp : pn ≤ 40) : -1 ≤ nxc X Y T pn p ∧ nxc X Y T pn p < 40 := ncS_R hp pn 0 (-1) (by omega) (by omega) (by omega)
def hulQ (X Y : Nat → Int) (T : Nat → Bool) (pn : Nat) (fl : Bool) (Hu : Nat → Nat) : QH :=
  if (fla X Y T pn 0 (-1) (-1)).1 < 0 then (Hu, 0) else if fl = true then (sn (sn Hu 0 (fla X Y T pn 0 (-1) (-1)).1.toNat) 1 (fla X Y T pn 0 (-1) (-1)).2.toNat, if (fla X Y T pn 0 (-1) (-1)).1 = (fla X Y T pn 0 (-1) (-1)).2 then 1 else 2) else (hlw (nxc X Y T pn) (fla X Y T pn 0 (-1) (-1)).1.toNat 40 (nxc X Y T pn (fla X Y T pn 0 (-1) (-1)).1.toNat) (sn Hu 0 (fla X Y T pn 0 (-1) (-1)).1.toNat, 1)).getD (Hu, 0)
def hulOk (X Y : Nat → Int) (T : Nat → Bool) (pn : Nat) (fl : Bool) (Hu : Nat → Nat) : Prop := 0 ≤ (fla X Y T pn 0 (-1) (-1)).1 → fl = false → (hlw (nxc X Y T pn) (fla X Y T pn 0 (-1) (-1)).1.toNat 40 (nxc X Y T pn (fla X Y T pn 0 (-1) (-1)).1.toNat) (sn Hu 0 (fla X Y T pn 0 (-1) (-1)).1.toNat, 1)).isSome = true
theorem fla_R {X Y : Nat → Int} {T : Nat → Bool} {pn : Nat} (hp : pn ≤ 40) : ∀ (k i : Nat) (f l : Int), pn ≤ i + k → -1 ≤ f → f < 40 → -1 ≤ l → l < 40 → (f < 0 ↔ l < 0) → (-1 ≤ (fla X Y T pn i f l).1 ∧ (fla X Y T pn i f l).1 < 40) ∧ (-1 ≤ (fla X Y T pn i f l).2 ∧ (fla X Y T pn i f l).2 < 40) ∧ ((fla X Y T pn i f l).1 < 0 ↔ (fla X Y T pn i f l).2 < 0) := by
  intro k
  induction k with
  | zero => intro i f l h h1 h2 h3 h4 h5; rw [fla_end (by omega)]; exact ⟨⟨h1, h2⟩, ⟨h3, h4⟩, h5⟩
  | succ k ih =>
    intro i f l h h1 h2 h3 h4 h5
    rcases Nat.lt_or_ge i pn with q | q
    · cases ht : T i with
      | false => rw [fla_no q ht]; exact ih _ _ _ (by omega) h1 h2 h3 h4 h5
      | true =>
        rw [fla_go q ht rfl rfl]
        refine ih _ _ _ (by omega) ?_ ?_ ?_ ?_ ?_
        · split <;> omega
        · split <;> omega
        · split <;> omega
        · split <;> omega
        · split <;> split <;> omega
    · rw [fla_end q]; exact ⟨⟨h1, h2⟩, ⟨h3, h4⟩, h5⟩
theorem hlw_b {nx : Nat → Int} (hn : ∀ p, nx p < 40) {f : Nat} : ∀ (k : Nat) (p : Int) (Q R : QH), p < 40 → (∀ i, Q.1 i < 40) → Q.2 + k ≤ 41 → hlw nx f k p Q = some R → (∀ i, R.1 i < 40) ∧ R.2 ≤ 41 := by
  intro k
  induction k with
  | zero => intro p Q R _ _ _ h; cases h
  | succ k ih =>
    intro p Q R hp hQ hk h
    rw [hlw] at h
    split at h
    · cases h; exact ⟨hQ, by omega⟩
    · split at h
      · cases h
      · exact ih _ _ R (hn _) (sn_lt hQ _ (by omega)) (by show Q.2 + 1 + k ≤ 41; omega) h
theorem hulQ_b {X Y : Nat → Int} {T : Nat → Bool} {pn : Nat} {fl : Bool} {Hu : Nat → Nat} (hp : pn ≤ 40) (h : ∀ i, Hu i < 40) : (∀ i, (hulQ X Y T pn fl Hu).1 i < 40) ∧ (hulQ X Y T pn fl Hu).2 ≤ 41 := by
  have hr := fla_R (X := X) (Y := Y) (T := T) hp pn 0 (-1) (-1) (by omega) (by omega) (by omega) (by omega) (by omega) (by omega)
  unfold hulQ
  split
  · exact ⟨h, by show 0 ≤ 41; omega⟩
  · split
    · refine ⟨sn_lt (sn_lt h _ (by omega)) _ (by omega), ?_⟩
      show (if _ then 1 else 2) ≤ 41
      split <;> omega
    · cases hw : hlw (nxc X Y T pn) (fla X Y T pn 0 (-1) (-1)).1.toNat 40 (nxc X Y T pn (fla X Y T pn 0 (-1) (-1)).1.toNat) (sn Hu 0 (fla X Y T pn 0 (-1) (-1)).1.toNat, 1) with
      | none => exact ⟨h, by show 0 ≤ 41; omega⟩
      | some R => exact hlw_b (fun p => (nxc_R X Y T p hp).2) 40 _ _ R (nxc_R X Y T _ hp).2 (sn_lt h _ (by omega)) (by show 1 + 40 ≤ 41; omega) hw
section REF7
variable {l : Launch} {D : va_G} {cI cZ : ClassId} {qq r0 rx ry rt rh ra rb rc sa sb sc so sr sw : Nat} {Px Py : Nat → Int} {Mt : Nat → Bool} {pn : Nat} {kn fl : Bool} {Hu : Nat → Nat} {hn : Nat} {A1 A2 A3 : Nat → Nat} {mn : Nat} {hd sd : Bool} {B1 B2 B3 : Nat → Nat} {hh fp : Nat} {Or Ro Ne : Nat → Nat} {rn : Nat} {Mr : Nat → Nat}
set_option maxRecDepth 20000 in
theorem lp_X4_findTriangles_14 {p : Program} {e : Env} {s : State} {m : MethodId} {args : Array Value} {below : List Frame} {meth : Method} {c : Code} {WC : va_W} {a : Nat} {Qf : QA} (C : CallFix p m c cX4_findTriangles 4 s args TB RX4) (hlk : meth.locks = false) (hr : meth.sig.returnType = none) (hK : va_K D vwCl (tyz cI cZ) s) (hRI : RI ((Px, Py, Mt, pn), (kn, fl, Hu, hn, A1, A2, A3, mn), (hd, sd, B1, B2, B3, hh, fp), (Or, Ro, Ne, rn), Mr)) (ha : a < pn) (hcap : Qf.2.2.2 ≤ 120) (KK : ∀ (A1 A2 A3 : Nat → Nat) (mn : Nat), (∀ i, A1 i < 40) → (∀ i, A2 i < 40) → (∀ i, A3 i < 40) → Qf = ft1 Px Py Mt pn (a + 1) (A1, A2, A3, mn) → ∀ (H : Heap) (locs : List Loc), va_P D vwCl [(qq, .inr (4, [.ref r0, .ref rx, .ref ry, .ref rt, .int (J ((pn : Nat) : Int)), .int (J (b2i (kn))), .int (J (b2i (fl))), .ref rh, .ref ra, .ref rb, .ref rc, .int (J ((hn : Nat) : Int)), .int (J ((mn : Nat) : Int)), .int (J (b2i (hd))), .int (J (b2i (sd))), .ref sa, .ref sb, .ref sc, .int (J ((hh : Nat) : Int)), .int (J ((fp : Nat) : Int)), .ref so, .ref sr, .ref sw, .int (J ((rn : Nat) : Int))])), (r0, .inl (cI, 7, .inl (fun z9 => J ((Mr z9 : Nat) : Int)))), (rx, .inl (cI, 40, .inl (fun z9 => J (Px z9)))), (ry, .inl (cI, 40, .inl (fun z9 => J (Py z9)))), (rt, .inl (cZ, 40, .inl (fun z9 => J (b2i (Mt z9))))), (rh, .inl (cI, 41, .inl (fun z9 => J ((Hu z9 : Nat) : Int)))), (ra, .inl (cI, 120, .inl (fun z9 => J ((A1 z9 : Nat) : Int)))), (rb, .inl (cI, 120, .inl (fun z9 => J ((A2 z9 : Nat) : Int)))), (rc, .inl (cI, 120, .inl (fun z9 => J ((A3 z9 : Nat) : Int)))), (sa, .inl (cI, 120, .inl (fun z9 => J ((B1 z9 : Nat) : Int)))), (sb, .inl (cI, 120, .inl (fun z9 => J ((B2 z9 : Nat) : Int)))), (sc, .inl (cI, 120, .inl (fun z9 => J ((B3 z9 : Nat) : Int)))), (so, .inl (cI, 40, .inl (fun z9 => J ((Or z9 : Nat) : Int)))), (sr, .inl (cI, 80, .inl (fun z9 => J ((Ro z9 : Nat) : Int)))), (sw, .inl (cI, 80, .inl (fun z9 => J ((Ne z9 : Nat) : Int))))] H → va_D (inW WC) [(qq, .inr (4, [.ref r0, .ref rx, .ref ry, .ref rt, .int (J ((pn : Nat) : Int)), .int (J (b2i (kn))), .int (J (b2i (fl))), .ref rh, .ref ra, .ref rb, .ref rc, .int (J ((hn : Nat) : Int)), .int (J ((mn : Nat) : Int)), .int (J (b2i (hd))), .int (J (b2i (sd))), .ref sa, .ref sb, .ref sc, .int (J ((hh : Nat) : Int)), .int (J ((fp : Nat) : Int)), .ref so, .ref sr, .ref sw, .int (J ((rn : Nat) : Int))])), (r0, .inl (cI, 7, .inl (fun z9 => J ((Mr z9 : Nat) : Int)))), (rx, .inl (cI, 40, .inl (fun z9 => J (Px z9)))), (ry, .inl (cI, 40, .inl (fun z9 => J (Py z9)))), (rt, .inl (cZ, 40, .inl (fun z9 => J (b2i (Mt z9))))), (rh, .inl (cI, 41, .inl (fun z9 => J ((Hu z9 : Nat) : Int)))), (ra, .inl (cI, 120, .inl (fun z9 => J ((A1 z9 : Nat) : Int)))), (rb, .inl (cI, 120, .inl (fun z9 => J ((A2 z9 : Nat) : Int)))), (rc, .inl (cI, 120, .inl (fun z9 => J ((A3 z9 : Nat) : Int)))), (sa, .inl (cI, 120, .inl (fun z9 => J ((B1 z9 : Nat) : Int)))), (sb, .inl (cI, 120, .inl (fun z9 => J ((B2 z9 : Nat) : Int)))), (sc, .inl (cI, 120, .inl (fun z9 => J ((B3 z9 : Nat) : Int)))), (so, .inl (cI, 40, .inl (fun z9 => J ((Or z9 : Nat) : Int)))), (sr, .inl (cI, 80, .inl (fun z9 => J ((Ro z9 : Nat) : Int)))), (sw, .inl (cI, 80, .inl (fun z9 => J ((Ne z9 : Nat) : Int))))] → va_S (inW WC) s.heap H locs → ∀ ls : Array Slot, lv_has ls 4 [(0, .ref qq), (1, .int (J ((a + 1 : Nat) : Int)))] → W p l e { frames := 4, cells := 0, slots := 0, locals := 94 } s m args below meth c H locs 0 0 (MQ below (QW D WC (wRS cI cZ qq r0 rx ry rt rh ra rb rc sa sb sc so sr sw ((Px, Py, Mt, pn), (kn, fl, Hu, hn, Qf.1, Qf.2.1, Qf.2.2.1, Qf.2.2.2), (hd, sd, B1, B2, B3, hh, fp), (Or, Ro, Ne, rn), Mr)) none) args s 0 0 (inW WC)) (F0 m 2 ls [])) :
    ∀ (n : Nat) (i : Nat) (A1 A2 A3 : Nat → Nat) (mn : Nat), pn < i + n → i ≤ pn → (∀ i, A1 i < 40) → (∀ i, A2 i < 40) → (∀ i, A3 i < 40) → ∀ (Qg : QA), (Qf = ft1 Px Py Mt pn (a + 1) Qg ∧ Qg = ft2 Px Py Mt pn a i (A1, A2, A3, mn)) → ∀ (H : Heap) (locs : List Loc), va_P D vwCl [(qq, .inr (4, [.ref r0, .ref rx, .ref ry, .ref rt, .int (J ((pn : Nat) : Int)), .int (J (b2i (kn))), .int (J (b2i (fl))), .ref rh, .ref ra, .ref rb, .ref rc, .int (J ((hn : Nat) : Int)), .int (J ((mn : Nat) : Int)), .int (J (b2i (hd))), .int (J (b2i (sd))), .ref sa, .ref sb, .ref sc, .int (J ((hh : Nat) : Int)), .int (J ((fp : Nat) : Int)), .ref so, .ref sr, .ref sw, .int (J ((rn : Nat) : Int))])), (r0, .inl (cI, 7, .inl (fun z9 => J ((Mr z9 : Nat) : Int)))), (rx, .inl (cI, 40, .inl (fun z9 => J (Px z9)))), (ry, .inl (cI, 40, .inl (fun z9 => J (Py z9)))), (rt, .inl (cZ, 40, .inl (fun z9 => J (b2i (Mt z9))))), (rh, .inl (cI, 41, .inl (fun z9 => J ((Hu z9 : Nat) : Int)))), (ra, .inl (cI, 120, .inl (fun z9 => J ((A1 z9 : Nat) : Int)))), (rb, .inl (cI, 120, .inl (fun z9 => J ((A2 z9 : Nat) : Int)))), (rc, .inl (cI, 120, .inl (fun z9 => J ((A3 z9 : Nat) : Int)))), (sa, .inl (cI, 120, .inl (fun z9 => J ((B1 z9 : Nat) : Int)))), (sb, .inl (cI, 120, .inl (fun z9 => J ((B2 z9 : Nat) : Int)))), (sc, .inl (cI, 120, .inl (fun z9 => J ((B3 z9 : Nat) : Int)))), (so, .inl (cI, 40, .inl (fun z9 => J ((Or z9 : Nat) : Int)))), (sr, .inl (cI, 80, .inl (fun z9 => J ((Ro z9 : Nat) : Int)))), (sw, .inl (cI, 80, .inl (fun z9 => J ((Ne z9 : Nat) : Int))))] H → va_D (inW WC) [(qq, .inr (4, [.ref r0, .ref rx, .ref ry, .ref rt, .int (J ((pn : Nat) : Int)), .int (J (b2i (kn))), .int (J (b2i (fl))), .ref rh, .ref ra, .ref rb, .ref rc, .int (J ((hn : Nat) : Int)), .int (J ((mn : Nat) : Int)), .int (J (b2i (hd))), .int (J (b2i (sd))), .ref sa, .ref sb, .ref sc, .int (J ((hh : Nat) : Int)), .int (J ((fp : Nat) : Int)), .ref so, .ref sr, .ref sw, .int (J ((rn : Nat) : Int))])), (r0, .inl (cI, 7, .inl (fun z9 => J ((Mr z9 : Nat) : Int)))), (rx, .inl (cI, 40, .inl (fun z9 => J (Px z9)))), (ry, .inl (cI, 40, .inl (fun z9 => J (Py z9)))), (rt, .inl (cZ, 40, .inl (fun z9 => J (b2i (Mt z9))))), (rh, .inl (cI, 41, .inl (fun z9 => J ((Hu z9 : Nat) : Int)))), (ra, .inl (cI, 120, .inl (fun z9 => J ((A1 z9 : Nat) : Int)))), (rb, .inl (cI, 120, .inl (fun z9 => J ((A2 z9 : Nat) : Int)))), (rc, .inl (cI, 120, .inl (fun z9 => J ((A3 z9 : Nat) : Int)))), (sa, .inl (cI, 120, .inl (fun z9 => J ((B1 z9 : Nat) : Int)))), (sb, .inl (cI, 120, .inl (fun z9 => J ((B2 z9 : Nat) : Int)))), (sc, .inl (cI, 120, .inl (fun z9 => J ((B3 z9 : Nat) : Int)))), (so, .inl (cI, 40, .inl (fun z9 => J ((Or z9 : Nat) : Int)))), (sr, .inl (cI, 80, .inl (fun z9 => J ((Ro z9 : Nat) : Int)))), (sw, .inl (cI, 80, .inl (fun z9 => J ((Ne z9 : Nat) : Int))))] → va_S (inW WC) s.heap H locs → ∀ ls : Array Slot, lv_has ls 4 [(0, .ref qq), (1, .int (J ((a : Nat) : Int))), (2, .int (J ((i : Nat) : Int)))] → W p l e { frames := 4, cells := 0, slots := 0, locals := 94 } s m args below meth c H locs 0 0 (MQ below (QW D WC (wRS cI cZ qq r0 rx ry rt rh ra rb rc sa sb sc so sr sw ((Px, Py, Mt, pn), (kn, fl, Hu, hn, Qf.1, Qf.2.1, Qf.2.2.1, Qf.2.2.2), (hd, sd, B1, B2, B3, hh, fp), (Or, Ro, Ne, rn), Mr)) none) args s 0 0 (inW WC)) (F0 m 14 ls []) := by
  have hX : ∀ i, -10000 ≤ Px i ∧ Px i ≤ 10000 := hRI.1
  have hY : ∀ i, -10000 ≤ Py i ∧ Py i ≤ 10000 := hRI.2.1
  have hpn : pn ≤ 40 := hRI.2.2.1
  have hHu : ∀ i, Hu i < 40 := hRI.2.2.2.1
  have hhn : hn ≤ 41 := hRI.2.2.2.2.1
  have hB1 : ∀ i, B1 i < 40 := hRI.2.2.2.2.2.2.2.2.2.1
  have hB2 : ∀ i, B2 i < 40 := hRI.2.2.2.2.2.2.2.2.2.2.1
  have hB3 : ∀ i, B3 i < 40 := hRI.2.2.2.2.2.2.2.2.2.2.2.1
  have hhh : hh ≤ 120 := hRI.2.2.2.2.2.2.2.2.2.2.2.2.1
  have hOr : ∀ i, Or i < 40 := hRI.2.2.2.2.2.2.2.2.2.2.2.2.2.1
  have hRo : ∀ i, Ro i < 40 := hRI.2.2.2.2.2.2.2.2.2.2.2.2.2.2.1
  have hNe : ∀ i, Ne i < 40 := hRI.2.2.2.2.2.2.2.2.2.2.2.2.2.2.2.1
  have hrn : rn ≤ 80 := hRI.2.2.2.2.2.2.2.2.2.2.2.2.2.2.2.2
  intro n
  induction n with
  | zero => intro i A1 A2 A3 mn hi0 hi1 hA1 hA2 hA3; omega
  | succ n ih =>
    intro i A1 A2 A3 mn hi0 hi1 hA1 hA2 hA3 Qg hQg H locs hP hD hS ls hl
    have hq1 := ft1_le (X := Px) (Y := Py) (T := Mt) (pn := pn) pn (a + 1) Qg (by omega)
    rw [← hQg.1] at hq1
    have hq3 := ft2_le (X := Px) (Y := Py) (T := Mt) (pn := pn) (a := a) pn i (A1, A2, A3, mn) (by omega)
    rw [← hQg.2] at hq3
    have hq3 : mn ≤ Qg.2.2.2 := hq3
    have hRI : RI ((Px, Py, Mt, pn), (kn, fl, Hu, hn, A1, A2, A3, mn), (hd, sd, B1, B2, B3, hh, fp), (Or, Ro, Ne, rn), Mr) := ⟨hX, hY, hpn, hHu, hhn, hA1, hA2, hA3, by show mn ≤ 120; omega, hB1, hB2, hB3, hhh, hOr, hRo, hNe, hrn⟩
    refine lv_iload_n C.1 C.2.1 dX4_findTriangles_14 rfl (lv_at hl 2 rfl) ?_
    refine lv_aload_n C.1 C.2.1 dX4_findTriangles_15 rfl (lv_at hl 0 rfl) ?_
    refine jv_get C fw_X4_58 hK hP 0 rfl rfl dX4_findTriangles_16 ?_
    refine jv_icmp_ge (tgt := 105) C dX4_findTriangles_19 (by decide) (by omega) (fun h1 => ?_) (fun h1 => ?_)
    · refine lv_iinc (v := J (((a + 1 : Nat) : Int))) (lv' := [(1, .int (J ((a + 1 : Nat) : Int))), (0, .ref qq), (2, .int (J ((i : Nat) : Int)))]) C.1 C.2.1 dX4_findTriangles_105 hl (k := 1) rfl (by rw [show Int32.ofInt 1 = J 1 from rfl, J_add]; exact congrArg J (by omega)) (by decide) rfl (fun ls hl => ?_)
      refine lv_goto (tgt := 2) C.1 C.2.1 dX4_findTriangles_108 (by decide) ?_
      exact KK A1 A2 A3 mn hA1 hA2 hA3 (by rw [hQg.1, hQg.2, ft2_end (by omega)]) H locs hP hD hS ls (lv_sub hl [1, 0] rfl)
    · refine lv_iload_n C.1 C.2.1 dX4_findTriangles_22 rfl (lv_at hl 1 rfl) ?_
      refine jv_iconst C dX4_findTriangles_23 ?_
      refine jv_iadd (z := ((a + 1 : Nat) : Int)) C dX4_findTriangles_24 (by omega) ?_
      refine lv_istore_n (lv' := [(3, .int (J ((a + 1 : Nat) : Int))), (0, .ref qq), (1, .int (J ((a : Nat) : Int))), (2, .int (J ((i : Nat) : Int)))]) C.1 C.2.1 dX4_findTriangles_25 rfl hl (by decide) rfl (fun ls hl => ?_)
      exact lp_X4_findTriangles_26 (A1 := A1) (A2 := A2) (A3 := A3) (mn := mn) C hlk hr hK hRI ha (by omega) hcap (fun A1 A2 A3 mn h1 h2 h3 hf H locs hP hD hS ls hl => ih (i + 1) A1 A2 A3 mn (by omega) (by omega) h1 h2 h3 _ ⟨hf, rfl⟩ H locs hP hD hS ls hl) (pn + 1) (a + 1) A1 A2 A3 mn (by omega) (by omega) hA1 hA2 hA3 _ ⟨by rw [hQg.1, hQg.2, ft2_go (by omega)], rfl⟩ H locs hP hD hS ls (lv_sub hl [1, 2, 3, 0] rfl)
set_option maxRecDepth 20000 in
theorem lp_X4_findTriangles_2 {p : Program} {e : Env} {s : State} {m : MethodId} {args : Array Value} {below : List Frame} {meth : Method} {c : Code} {WC : va_W} {Qf : QA} (C : CallFix p m c cX4_findTriangles 4 s args TB RX4) (hlk : meth.locks = false) (hr : meth.sig.returnType = none) (hK : va_K D vwCl (tyz cI cZ) s) (hRI : RI ((Px, Py, Mt, pn), (kn, fl, Hu, hn, A1, A2, A3, mn), (hd, sd, B1, B2, B3, hh, fp), (Or, Ro, Ne, rn), Mr)) (hcap : Qf.2.2.2 ≤ 120) :
    ∀ (n : Nat) (i : Nat) (A1 A2 A3 : Nat → Nat) (mn : Nat), pn < i + n → i ≤ pn → (∀ i, A1 i < 40) → (∀ i, A2 i < 40) → (∀ i, A3 i < 40) → ∀ (Qg : QA), (Qf = Qg ∧ Qg = ft1 Px Py Mt pn i (A1, A2, A3, mn)) → ∀ (H : Heap) (locs : List Loc), va_P D vwCl [(qq, .inr (4, [.ref r0, .ref rx, .ref ry, .ref rt, .int (J ((pn : Nat) : Int)), .int (J (b2i (kn))), .int (J (b2i (fl))), .ref rh, .ref ra, .ref rb, .ref rc, .int (J ((hn : Nat) : Int)), .int (J ((mn : Nat) : Int)), .int (J (b2i (hd))), .int (J (b2i (sd))), .ref sa, .ref sb, .ref sc, .int (J ((hh : Nat) : Int)), .int (J ((fp : Nat) : Int)), .ref so, .ref sr, .ref sw, .int (J ((rn : Nat) : Int))])), (r0, .inl (cI, 7, .inl (fun z9 => J ((Mr z9 : Nat) : Int)))), (rx, .inl (cI, 40, .inl (fun z9 => J (Px z9)))), (ry, .inl (cI, 40, .inl (fun z9 => J (Py z9)))), (rt, .inl (cZ, 40, .inl (fun z9 => J (b2i (Mt z9))))), (rh, .inl (cI, 41, .inl (fun z9 => J ((Hu z9 : Nat) : Int)))), (ra, .inl (cI, 120, .inl (fun z9 => J ((A1 z9 : Nat) : Int)))), (rb, .inl (cI, 120, .inl (fun z9 => J ((A2 z9 : Nat) : Int)))), (rc, .inl (cI, 120, .inl (fun z9 => J ((A3 z9 : Nat) : Int)))), (sa, .inl (cI, 120, .inl (fun z9 => J ((B1 z9 : Nat) : Int)))), (sb, .inl (cI, 120, .inl (fun z9 => J ((B2 z9 : Nat) : Int)))), (sc, .inl (cI, 120, .inl (fun z9 => J ((B3 z9 : Nat) : Int)))), (so, .inl (cI, 40, .inl (fun z9 => J ((Or z9 : Nat) : Int)))), (sr, .inl (cI, 80, .inl (fun z9 => J ((Ro z9 : Nat) : Int)))), (sw, .inl (cI, 80, .inl (fun z9 => J ((Ne z9 : Nat) : Int))))] H → va_D (inW WC) [(qq, .inr (4, [.ref r0, .ref rx, .ref ry, .ref rt, .int (J ((pn : Nat) : Int)), .int (J (b2i (kn))), .int (J (b2i (fl))), .ref rh, .ref ra, .ref rb, .ref rc, .int (J ((hn : Nat) : Int)), .int (J ((mn : Nat) : Int)), .int (J (b2i (hd))), .int (J (b2i (sd))), .ref sa, .ref sb, .ref sc, .int (J ((hh : Nat) : Int)), .int (J ((fp : Nat) : Int)), .ref so, .ref sr, .ref sw, .int (J ((rn : Nat) : Int))])), (r0, .inl (cI, 7, .inl (fun z9 => J ((Mr z9 : Nat) : Int)))), (rx, .inl (cI, 40, .inl (fun z9 => J (Px z9)))), (ry, .inl (cI, 40, .inl (fun z9 => J (Py z9)))), (rt, .inl (cZ, 40, .inl (fun z9 => J (b2i (Mt z9))))), (rh, .inl (cI, 41, .inl (fun z9 => J ((Hu z9 : Nat) : Int)))), (ra, .inl (cI, 120, .inl (fun z9 => J ((A1 z9 : Nat) : Int)))), (rb, .inl (cI, 120, .inl (fun z9 => J ((A2 z9 : Nat) : Int)))), (rc, .inl (cI, 120, .inl (fun z9 => J ((A3 z9 : Nat) : Int)))), (sa, .inl (cI, 120, .inl (fun z9 => J ((B1 z9 : Nat) : Int)))), (sb, .inl (cI, 120, .inl (fun z9 => J ((B2 z9 : Nat) : Int)))), (sc, .inl (cI, 120, .inl (fun z9 => J ((B3 z9 : Nat) : Int)))), (so, .inl (cI, 40, .inl (fun z9 => J ((Or z9 : Nat) : Int)))), (sr, .inl (cI, 80, .inl (fun z9 => J ((Ro z9 : Nat) : Int)))), (sw, .inl (cI, 80, .inl (fun z9 => J ((Ne z9 : Nat) : Int))))] → va_S (inW WC) s.heap H locs → ∀ ls : Array Slot, lv_has ls 4 [(0, .ref qq), (1, .int (J ((i : Nat) : Int)))] → W p l e { frames := 4, cells := 0, slots := 0, locals := 94 } s m args below meth c H locs 0 0 (MQ below (QW D WC (wRS cI cZ qq r0 rx ry rt rh ra rb rc sa sb sc so sr sw ((Px, Py, Mt, pn), (kn, fl, Hu, hn, Qf.1, Qf.2.1, Qf.2.2.1, Qf.2.2.2), (hd, sd, B1, B2, B3, hh, fp), (Or, Ro, Ne, rn), Mr)) none) args s 0 0 (inW WC)) (F0 m 2 ls []) := by
  have hX : ∀ i, -10000 ≤ Px i ∧ Px i ≤ 10000 := hRI.1
  have hY : ∀ i, -10000 ≤ Py i ∧ Py i ≤ 10000 := hRI.2.1
  have hpn : pn ≤ 40 := hRI.2.2.1
  have hHu : ∀ i, Hu i < 40 := hRI.2.2.2.1
  have hhn : hn ≤ 41 := hRI.2.2.2.2.1
  have hB1 : ∀ i, B1 i < 40 := hRI.2.2.2.2.2.2.2.2.2.1
  have hB2 : ∀ i, B2 i < 40 := hRI.2.2.2.2.2.2.2.2.2.2.1
  have hB3 : ∀ i, B3 i < 40 := hRI.2.2.2.2.2.2.2.2.2.2.2.1
  have hhh : hh ≤ 120 := hRI.2.2.2.2.2.2.2.2.2.2.2.2.1
  have hOr : ∀ i, Or i < 40 := hRI.2.2.2.2.2.2.2.2.2.2.2.2.2.1
  have hRo : ∀ i, Ro i < 40 := hRI.2.2.2.2.2.2.2.2.2.2.2.2.2.2.1
  have hNe : ∀ i, Ne i < 40 := hRI.2.2.2.2.2.2.2.2.2.2.2.2.2.2.2.1
  have hrn : rn ≤ 80 := hRI.2.2.2.2.2.2.2.2.2.2.2.2.2.2.2.2
  intro n
  induction n with
  | zero => intro i A1 A2 A3 mn hi0 hi1 hA1 hA2 hA3; omega
  | succ n ih =>
    intro i A1 A2 A3 mn hi0 hi1 hA1 hA2 hA3 Qg hQg H locs hP hD hS ls hl
    have hq3 := ft1_le (X := Px) (Y := Py) (T := Mt) (pn := pn) pn i (A1, A2, A3, mn) (by omega)
    rw [← hQg.2, ← hQg.1] at hq3
    have hq3 : mn ≤ Qf.2.2.2 := hq3
    have hRI : RI ((Px, Py, Mt, pn), (kn, fl, Hu, hn, A1, A2, A3, mn), (hd, sd, B1, B2, B3, hh, fp), (Or, Ro, Ne, rn), Mr) := ⟨hX, hY, hpn, hHu, hhn, hA1, hA2, hA3, by show mn ≤ 120; omega, hB1, hB2, hB3, hhh, hOr, hRo, hNe, hrn⟩
    refine lv_iload_n C.1 C.2.1 dX4_findTriangles_2 rfl (lv_at hl 1 rfl) ?_
    refine lv_aload_n C.1 C.2.1 dX4_findTriangles_3 rfl (lv_at hl 0 rfl) ?_
    refine jv_get C fw_X4_58 hK hP 0 rfl rfl dX4_findTriangles_4 ?_
    refine jv_icmp_ge (tgt := 111) C dX4_findTriangles_7 (by decide) (by omega) (fun h1 => ?_) (fun h1 => ?_)
    · exact jw_vret C hlk hr dX4_findTriangles_111 (by rw [hQg.1, hQg.2, ft1_end (by omega)]; exact hP) hS
    · refine lv_iload_n C.1 C.2.1 dX4_findTriangles_10 rfl (lv_at hl 1 rfl) ?_
      refine jv_iconst C dX4_findTriangles_11 ?_
      refine jv_iadd (z := ((i + 1 : Nat) : Int)) C dX4_findTriangles_12 (by omega) ?_
      refine lv_istore_n (lv' := [(2, .int (J ((i + 1 : Nat) : Int))), (0, .ref qq), (1, .int (J ((i : Nat) : Int)))]) C.1 C.2.1 dX4_findTriangles_13 rfl hl (by decide) rfl (fun ls hl => ?_)
      exact lp_X4_findTriangles_14 (A1 := A1) (A2 := A2) (A3 := A3) (mn := mn) C hlk hr hK hRI (by omega) hcap (fun A1 A2 A3 mn h1 h2 h3 hf H locs hP hD hS ls hl => ih (i + 1) A1 A2 A3 mn (by omega) (by omega) h1 h2 h3 _ ⟨hf, rfl⟩ H locs hP hD hS ls hl) (pn + 1) (i + 1) A1 A2 A3 mn (by omega) (by omega) hA1 hA2 hA3 _ ⟨by rw [hQg.1, hQg.2, ft1_go (by omega)], rfl⟩ H locs hP hD hS ls (lv_sub hl [1, 2, 0] rfl)
def rFtr (S : RS) : RS := ((S.1.1, S.1.2.1, S.1.2.2.1, S.1.2.2.2), (S.2.1.1, S.2.1.2.1, S.2.1.2.2.1, S.2.1.2.2.2.1, (ft1 S.1.1 S.1.2.1 S.1.2.2.1 S.1.2.2.2 0 (S.2.1.2.2.2.2.1, S.2.1.2.2.2.2.2.1, S.2.1.2.2.2.2.2.2.1, S.2.1.2.2.2.2.2.2.2)).1, (ft1 S.1.1 S.1.2.1 S.1.2.2.1 S.1.2.2.2 0 (S.2.1.2.2.2.2.1, S.2.1.2.2.2.2.2.1, S.2.1.2.2.2.2.2.2.1, S.2.1.2.2.2.2.2.2.2)).2.1, (ft1 S.1.1 S.1.2.1 S.1.2.2.1 S.1.2.2.2 0 (S.2.1.2.2.2.2.1, S.2.1.2.2.2.2.2.1, S.2.1.2.2.2.2.2.2.1, S.2.1.2.2.2.2.2.2.2)).2.2.1, (ft1 S.1.1 S.1.2.1 S.1.2.2.1 S.1.2.2.2 0 (S.2.1.2.2.2.2.1, S.2.1.2.2.2.2.2.1, S.2.1.2.2.2.2.2.2.1, S.2.1.2.2.2.2.2.2.2)).2.2.2), (S.2.2.1.1, S.2.2.1.2.1, S.2.2.1.2.2.1, S.2.2.1.2.2.2.1, S.2.2.1.2.2.2.2.1, S.2.2.1.2.2.2.2.2.1, S.2.2.1.2.2.2.2.2.2), (S.2.2.2.1.1, S.2.2.2.1.2.1, S.2.2.2.1.2.2.1, S.2.2.2.1.2.2.2), S.2.2.2.2)
set_option maxRecDepth 20000 in
set_option maxHeartbeats 4000000 in
theorem c_X4_findTriangles  (hRI : RI ((Px, Py, Mt, pn), (kn, fl, Hu, hn, A1, A2, A3, mn), (hd, sd, B1, B2, B3, hh, fp), (Or, Ro, Ne, rn), Mr)) (hcap : (ft1 Px Py Mt pn 0 (A1, A2, A3, mn)).2.2.2 ≤ 120) : cW l yX4_findTriangles cX4_findTriangles 4 none 4 94 D (tyz cI cZ) [.ref qq] (wRS cI cZ qq r0 rx ry rt rh ra rb rc sa sb sc so sr sw ((Px, Py, Mt, pn), (kn, fl, Hu, hn, A1, A2, A3, mn), (hd, sd, B1, B2, B3, hh, fp), (Or, Ro, Ne, rn), Mr)) (wRS cI cZ qq r0 rx ry rt rh ra rb rc sa sb sc so sr sw (rFtr ((Px, Py, Mt, pn), (kn, fl, Hu, hn, A1, A2, A3, mn), (hd, sd, B1, B2, B3, hh, fp), (Or, Ro, Ne, rn), Mr))) none := by
  refine cW_of (owner := RX4) rfl (by decide) (Nat.le_of_ble_eq_true rfl) ?_
  intro p e s m args below meth c ls C hlk hr hK hP hD hS hl
  have hl : lv_has ls 4 [(0, .ref qq)] := hl
  have hP : va_P D vwCl [(qq, .inr (4, [.ref r0, .ref rx, .ref ry, .ref rt, .int (J ((pn : Nat) : Int)), .int (J (b2i (kn))), .int (J (b2i (fl))), .ref rh, .ref ra, .ref rb, .ref rc, .int (J ((hn : Nat) : Int)), .int (J ((mn : Nat) : Int)), .int (J (b2i (hd))), .int (J (b2i (sd))), .ref sa, .ref sb, .ref sc, .int (J ((hh : Nat) : Int)), .int (J ((fp : Nat) : Int)), .ref so, .ref sr, .ref sw, .int (J ((rn : Nat) : Int))])), (r0, .inl (cI, 7, .inl (fun z9 => J ((Mr z9 : Nat) : Int)))), (rx, .inl (cI, 40, .inl (fun z9 => J (Px z9)))), (ry, .inl (cI, 40, .inl (fun z9 => J (Py z9)))), (rt, .inl (cZ, 40, .inl (fun z9 => J (b2i (Mt z9))))), (rh, .inl (cI, 41, .inl (fun z9 => J ((Hu z9 : Nat) : Int)))), (ra, .inl (cI, 120, .inl (fun z9 => J ((A1 z9 : Nat) : Int)))), (rb, .inl (cI, 120, .inl (fun z9 => J ((A2 z9 : Nat) : Int)))), (rc, .inl (cI, 120, .inl (fun z9 => J ((A3 z9 : Nat) : Int)))), (sa, .inl (cI, 120, .inl (fun z9 => J ((B1 z9 : Nat) : Int)))), (sb, .inl (cI, 120, .inl (fun z9 => J ((B2 z9 : Nat) : Int)))), (sc, .inl (cI, 120, .inl (fun z9 => J ((B3 z9 : Nat) : Int)))), (so, .inl (cI, 40, .inl (fun z9 => J ((Or z9 : Nat) : Int)))), (sr, .inl (cI, 80, .inl (fun z9 => J ((Ro z9 : Nat) : Int)))), (sw, .inl (cI, 80, .inl (fun z9 => J ((Ne z9 : Nat) : Int))))] s.heap := hP
  have hD : va_D _ [(qq, .inr (4, [.ref r0, .ref rx, .ref ry, .ref rt, .int (J ((pn : Nat) : Int)), .int (J (b2i (kn))), .int (J (b2i (fl))), .ref rh, .ref ra, .ref rb, .ref rc, .int (J ((hn : Nat) : Int)), .int (J ((mn : Nat) : Int)), .int (J (b2i (hd))), .int (J (b2i (sd))), .ref sa, .ref sb, .ref sc, .int (J ((hh : Nat) : Int)), .int (J ((fp : Nat) : Int)), .ref so, .ref sr, .ref sw, .int (J ((rn : Nat) : Int))])), (r0, .inl (cI, 7, .inl (fun z9 => J ((Mr z9 : Nat) : Int)))), (rx, .inl (cI, 40, .inl (fun z9 => J (Px z9)))), (ry, .inl (cI, 40, .inl (fun z9 => J (Py z9)))), (rt, .inl (cZ, 40, .inl (fun z9 => J (b2i (Mt z9))))), (rh, .inl (cI, 41, .inl (fun z9 => J ((Hu z9 : Nat) : Int)))), (ra, .inl (cI, 120, .inl (fun z9 => J ((A1 z9 : Nat) : Int)))), (rb, .inl (cI, 120, .inl (fun z9 => J ((A2 z9 : Nat) : Int)))), (rc, .inl (cI, 120, .inl (fun z9 => J ((A3 z9 : Nat) : Int)))), (sa, .inl (cI, 120, .inl (fun z9 => J ((B1 z9 : Nat) : Int)))), (sb, .inl (cI, 120, .inl (fun z9 => J ((B2 z9 : Nat) : Int)))), (sc, .inl (cI, 120, .inl (fun z9 => J ((B3 z9 : Nat) : Int)))), (so, .inl (cI, 40, .inl (fun z9 => J ((Or z9 : Nat) : Int)))), (sr, .inl (cI, 80, .inl (fun z9 => J ((Ro z9 : Nat) : Int)))), (sw, .inl (cI, 80, .inl (fun z9 => J ((Ne z9 : Nat) : Int))))] := hD
  have hX : ∀ i, -10000 ≤ Px i ∧ Px i ≤ 10000 := hRI.1
  have hY : ∀ i, -10000 ≤ Py i ∧ Py i ≤ 10000 := hRI.2.1
  have hpn : pn ≤ 40 := hRI.2.2.1
  have hHu : ∀ i, Hu i < 40 := hRI.2.2.2.1
  have hhn : hn ≤ 41 := hRI.2.2.2.2.1
  have hA1 : ∀ i, A1 i < 40 := hRI.2.2.2.2.2.1
  have hA2 : ∀ i, A2 i < 40 := hRI.2.2.2.2.2.2.1
  have hA3 : ∀ i, A3 i < 40 := hRI.2.2.2.2.2.2.2.1
  have hmn : mn ≤ 120 := hRI.2.2.2.2.2.2.2.2.1
  have hB1 : ∀ i, B1 i < 40 := hRI.2.2.2.2.2.2.2.2.2.1
  have hB2 : ∀ i, B2 i < 40 := hRI.2.2.2.2.2.2.2.2.2.2.1
  have hB3 : ∀ i, B3 i < 40 := hRI.2.2.2.2.2.2.2.2.2.2.2.1
  have hhh : hh ≤ 120 := hRI.2.2.2.2.2.2.2.2.2.2.2.2.1
  have hOr : ∀ i, Or i < 40 := hRI.2.2.2.2.2.2.2.2.2.2.2.2.2.1
  have hRo : ∀ i, Ro i < 40 := hRI.2.2.2.2.2.2.2.2.2.2.2.2.2.2.1
  have hNe : ∀ i, Ne i < 40 := hRI.2.2.2.2.2.2.2.2.2.2.2.2.2.2.2.1
  have hrn : rn ≤ 80 := hRI.2.2.2.2.2.2.2.2.2.2.2.2.2.2.2.2
  refine jv_iconst C dX4_findTriangles_0 ?_
  refine lv_istore_n (lv' := [(1, .int (J 0)), (0, .ref qq)]) C.1 C.2.1 dX4_findTriangles_1 rfl hl (by decide) rfl (fun ls hl => ?_)
  exact lp_X4_findTriangles_2 C hlk hr hK hRI hcap (pn + 1) 0 A1 A2 A3 mn (by omega) (by omega) hA1 hA2 hA3 _ ⟨rfl, rfl⟩ _ _ hP hD hS ls (lv_sub hl [1, 0] rfl)
set_option maxRecDepth 20000 in
theorem lp_X4_findHull_119 {p : Program} {e : Env} {s : State} {m : MethodId} {args : Array Value} {below : List Frame} {meth : Method} {c : Code} {WC : va_W} {f : Nat} {lx : Int} {Rf : QH} (C : CallFix p m c cX4_findHull 4 s args TB RX4) (hlk : meth.locks = false) (hr : meth.sig.returnType = none) (hK : va_K D vwCl (tyz cI cZ) s) (hRI : RI ((Px, Py, Mt, pn), (kn, fl, Hu, hn, A1, A2, A3, mn), (hd, sd, B1, B2, B3, hh, fp), (Or, Ro, Ne, rn), Mr)) (hf : f < 40) :
    ∀ (n : Nat) (z : Int) (Hu : Nat → Nat) (hn : Nat), hn + n = 41 → -1 ≤ z → z < 40 → (∀ i, Hu i < 40) → hlw (nxc Px Py Mt pn) f n z (Hu, hn) = some Rf →  ∀ (H : Heap) (locs : List Loc), va_P D vwCl [(qq, .inr (4, [.ref r0, .ref rx, .ref ry, .ref rt, .int (J ((pn : Nat) : Int)), .int (J (b2i (kn))), .int (J (b2i (fl))), .ref rh, .ref ra, .ref rb, .ref rc, .int (J ((hn : Nat) : Int)), .int (J ((mn : Nat) : Int)), .int (J (b2i (hd))), .int (J (b2i (sd))), .ref sa, .ref sb, .ref sc, .int (J ((hh : Nat) : Int)), .int (J ((fp : Nat) : Int)), .ref so, .ref sr, .ref sw, .int (J ((rn : Nat) : Int))])), (r0, .inl (cI, 7, .inl (fun z9 => J ((Mr z9 : Nat) : Int)))), (rx, .inl (cI, 40, .inl (fun z9 => J (Px z9)))), (ry, .inl (cI, 40, .inl (fun z9 => J (Py z9)))), (rt, .inl (cZ, 40, .inl (fun z9 => J (b2i (Mt z9))))), (rh, .inl (cI, 41, .inl (fun z9 => J ((Hu z9 : Nat) : Int)))), (ra, .inl (cI, 120, .inl (fun z9 => J ((A1 z9 : Nat) : Int)))), (rb, .inl (cI, 120, .inl (fun z9 => J ((A2 z9 : Nat) : Int)))), (rc, .inl (cI, 120, .inl (fun z9 => J ((A3 z9 : Nat) : Int)))), (sa, .inl (cI, 120, .inl (fun z9 => J ((B1 z9 : Nat) : Int)))), (sb, .inl (cI, 120, .inl (fun z9 => J ((B2 z9 : Nat) : Int)))), (sc, .inl (cI, 120, .inl (fun z9 => J ((B3 z9 : Nat) : Int)))), (so, .inl (cI, 40, .inl (fun z9 => J ((Or z9 : Nat) : Int)))), (sr, .inl (cI, 80, .inl (fun z9 => J ((Ro z9 : Nat) : Int)))), (sw, .inl (cI, 80, .inl (fun z9 => J ((Ne z9 : Nat) : Int))))] H → va_D (inW WC) [(qq, .inr (4, [.ref r0, .ref rx, .ref ry, .ref rt, .int (J ((pn : Nat) : Int)), .int (J (b2i (kn))), .int (J (b2i (fl))), .ref rh, .ref ra, .ref rb, .ref rc, .int (J ((hn : Nat) : Int)), .int (J ((mn : Nat) : Int)), .int (J (b2i (hd))), .int (J (b2i (sd))), .ref sa, .ref sb, .ref sc, .int (J ((hh : Nat) : Int)), .int (J ((fp : Nat) : Int)), .ref so, .ref sr, .ref sw, .int (J ((rn : Nat) : Int))])), (r0, .inl (cI, 7, .inl (fun z9 => J ((Mr z9 : Nat) : Int)))), (rx, .inl (cI, 40, .inl (fun z9 => J (Px z9)))), (ry, .inl (cI, 40, .inl (fun z9 => J (Py z9)))), (rt, .inl (cZ, 40, .inl (fun z9 => J (b2i (Mt z9))))), (rh, .inl (cI, 41, .inl (fun z9 => J ((Hu z9 : Nat) : Int)))), (ra, .inl (cI, 120, .inl (fun z9 => J ((A1 z9 : Nat) : Int)))), (rb, .inl (cI, 120, .inl (fun z9 => J ((A2 z9 : Nat) : Int)))), (rc, .inl (cI, 120, .inl (fun z9 => J ((A3 z9 : Nat) : Int)))), (sa, .inl (cI, 120, .inl (fun z9 => J ((B1 z9 : Nat) : Int)))), (sb, .inl (cI, 120, .inl (fun z9 => J ((B2 z9 : Nat) : Int)))), (sc, .inl (cI, 120, .inl (fun z9 => J ((B3 z9 : Nat) : Int)))), (so, .inl (cI, 40, .inl (fun z9 => J ((Or z9 : Nat) : Int)))), (sr, .inl (cI, 80, .inl (fun z9 => J ((Ro z9 : Nat) : Int)))), (sw, .inl (cI, 80, .inl (fun z9 => J ((Ne z9 : Nat) : Int))))] → va_S (inW WC) s.heap H locs → ∀ ls : Array Slot, lv_has ls 4 [(0, .ref qq), (1, .int (J ((f : Nat) : Int))), (2, .int (J lx)), (3, .int (J z))] → W p l e { frames := 4, cells := 0, slots := 0, locals := 93 } s m args below meth c H locs 0 0 (MQ below (QW D WC (wRS cI cZ qq r0 rx ry rt rh ra rb rc sa sb sc so sr sw ((Px, Py, Mt, pn), (kn, fl, Rf.1, Rf.2, A1, A2, A3, mn), (hd, sd, B1, B2, B3, hh, fp), (Or, Ro, Ne, rn), Mr)) none) args s 0 0 (inW WC)) (F0 m 119 ls []) := by
  have hX : ∀ i, -10000 ≤ Px i ∧ Px i ≤ 10000 := hRI.1
  have hY : ∀ i, -10000 ≤ Py i ∧ Py i ≤ 10000 := hRI.2.1
  have hpn : pn ≤ 40 := hRI.2.2.1
  have hA1 : ∀ i, A1 i < 40 := hRI.2.2.2.2.2.1
  have hA2 : ∀ i, A2 i < 40 := hRI.2.2.2.2.2.2.1
  have hA3 : ∀ i, A3 i < 40 := hRI.2.2.2.2.2.2.2.1
  have hmn : mn ≤ 120 := hRI.2.2.2.2.2.2.2.2.1
  have hB1 : ∀ i, B1 i < 40 := hRI.2.2.2.2.2.2.2.2.2.1
  have hB2 : ∀ i, B2 i < 40 := hRI.2.2.2.2.2.2.2.2.2.2.1
  have hB3 : ∀ i, B3 i < 40 := hRI.2.2.2.2.2.2.2.2.2.2.2.1
  have hhh : hh ≤ 120 := hRI.2.2.2.2.2.2.2.2.2.2.2.2.1
  have hOr : ∀ i, Or i < 40 := hRI.2.2.2.2.2.2.2.2.2.2.2.2.2.1
  have hRo : ∀ i, Ro i < 40 := hRI.2.2.2.2.2.2.2.2.2.2.2.2.2.2.1
  have hNe : ∀ i, Ne i < 40 := hRI.2.2.2.2.2.2.2.2.2.2.2.2.2.2.2.1
  have hrn : rn ≤ 80 := hRI.2.2.2.2.2.2.2.2.2.2.2.2.2.2.2.2
  intro n
  induction n with
  | zero => intro z Hu hn hi0 hi1 hi2 hHu hw; cases hw
  | succ n ih =>
    intro z Hu hn hi0 hi1 hi2 hHu hw  H locs hP hD hS ls hl
    have hRI : RI ((Px, Py, Mt, pn), (kn, fl, Hu, hn, A1, A2, A3, mn), (hd, sd, B1, B2, B3, hh, fp), (Or, Ro, Ne, rn), Mr) := ⟨hX, hY, hpn, hHu, by show hn ≤ 41; omega, hA1, hA2, hA3, hmn, hB1, hB2, hB3, hhh, hOr, hRo, hNe, hrn⟩
    refine lv_iload_n C.1 C.2.1 dX4_findHull_119 rfl (lv_at hl 3 rfl) ?_
    refine lv_iload_n C.1 C.2.1 dX4_findHull_120 rfl (lv_at hl 1 rfl) ?_
    refine jv_icmp_eq (tgt := 153) C dX4_findHull_121 (by decide) (by omega) (fun h1 => ?_) (fun h1 => ?_)
    · exact jw_vret C hlk hr dX4_findHull_153 (by rw [hlw, if_pos (by omega)] at hw; cases hw; exact hP) hS
    · have hz0 : 0 ≤ z := by
        rcases Int.lt_or_le z 0 with q | q
        · rw [hlw, if_neg (by omega), if_pos q] at hw; cases hw
        · exact q
      rw [show z = ((z.toNat : Nat) : Int) from by omega] at hl
      refine lv_aload_n C.1 C.2.1 dX4_findHull_124 rfl (lv_at hl 0 rfl) ?_
      refine jv_get C fw_X4_23 hK hP 0 rfl rfl dX4_findHull_125 ?_
      refine lv_aload_n C.1 C.2.1 dX4_findHull_128 rfl (lv_at hl 0 rfl) ?_
      refine jv_get C fw_X4_121 hK hP 0 rfl rfl dX4_findHull_129 ?_
      refine lv_iload_n C.1 C.2.1 dX4_findHull_132 rfl (lv_at hl 3 rfl) ?_
      refine jv_iast (G := fun z9 => (((sn Hu hn z.toNat) z9 : Nat) : Int)) C hK hP hD hS 5 0 rfl rfl (hn) (by omega) (by omega) (by decide) (sn_nat Hu hn z.toNat) dX4_findHull_133 (fun H locs hP hD hS => ?_)
      have hP : va_P D vwCl [(qq, .inr (4, [.ref r0, .ref rx, .ref ry, .ref rt, .int (J ((pn : Nat) : Int)), .int (J (b2i (kn))), .int (J (b2i (fl))), .ref rh, .ref ra, .ref rb, .ref rc, .int (J ((hn : Nat) : Int)), .int (J ((mn : Nat) : Int)), .int (J (b2i (hd))), .int (J (b2i (sd))), .ref sa, .ref sb, .ref sc, .int (J ((hh : Nat) : Int)), .int (J ((fp : Nat) : Int)), .ref so, .ref sr, .ref sw, .int (J ((rn : Nat) : Int))])), (r0, .inl (cI, 7, .inl (fun z9 => J ((Mr z9 : Nat) : Int)))), (rx, .inl (cI, 40, .inl (fun z9 => J (Px z9)))), (ry, .inl (cI, 40, .inl (fun z9 => J (Py z9)))), (rt, .inl (cZ, 40, .inl (fun z9 => J (b2i (Mt z9))))), (rh, .inl (cI, 41, .inl (fun z9 => J (((sn Hu hn z.toNat) z9 : Nat) : Int)))), (ra, .inl (cI, 120, .inl (fun z9 => J ((A1 z9 : Nat) : Int)))), (rb, .inl (cI, 120, .inl (fun z9 => J ((A2 z9 : Nat) : Int)))), (rc, .inl (cI, 120, .inl (fun z9 => J ((A3 z9 : Nat) : Int)))), (sa, .inl (cI, 120, .inl (fun z9 => J ((B1 z9 : Nat) : Int)))), (sb, .inl (cI, 120, .inl (fun z9 => J ((B2 z9 : Nat) : Int)))), (sc, .inl (cI, 120, .inl (fun z9 => J ((B3 z9 : Nat) : Int)))), (so, .inl (cI, 40, .inl (fun z9 => J ((Or z9 : Nat) : Int)))), (sr, .inl (cI, 80, .inl (fun z9 => J ((Ro z9 : Nat) : Int)))), (sw, .inl (cI, 80, .inl (fun z9 => J ((Ne z9 : Nat) : Int))))] H := hP
      have hD : va_D _ [(qq, .inr (4, [.ref r0, .ref rx, .ref ry, .ref rt, .int (J ((pn : Nat) : Int)), .int (J (b2i (kn))), .int (J (b2i (fl))), .ref rh, .ref ra, .ref rb, .ref rc, .int (J ((hn : Nat) : Int)), .int (J ((mn : Nat) : Int)), .int (J (b2i (hd))), .int (J (b2i (sd))), .ref sa, .ref sb, .ref sc, .int (J ((hh : Nat) : Int)), .int (J ((fp : Nat) : Int)), .ref so, .ref sr, .ref sw, .int (J ((rn : Nat) : Int))])), (r0, .inl (cI, 7, .inl (fun z9 => J ((Mr z9 : Nat) : Int)))), (rx, .inl (cI, 40, .inl (fun z9 => J (Px z9)))), (ry, .inl (cI, 40, .inl (fun z9 => J (Py z9)))), (rt, .inl (cZ, 40, .inl (fun z9 => J (b2i (Mt z9))))), (rh, .inl (cI, 41, .inl (fun z9 => J (((sn Hu hn z.toNat) z9 : Nat) : Int)))), (ra, .inl (cI, 120, .inl (fun z9 => J ((A1 z9 : Nat) : Int)))), (rb, .inl (cI, 120, .inl (fun z9 => J ((A2 z9 : Nat) : Int)))), (rc, .inl (cI, 120, .inl (fun z9 => J ((A3 z9 : Nat) : Int)))), (sa, .inl (cI, 120, .inl (fun z9 => J ((B1 z9 : Nat) : Int)))), (sb, .inl (cI, 120, .inl (fun z9 => J ((B2 z9 : Nat) : Int)))), (sc, .inl (cI, 120, .inl (fun z9 => J ((B3 z9 : Nat) : Int)))), (so, .inl (cI, 40, .inl (fun z9 => J ((Or z9 : Nat) : Int)))), (sr, .inl (cI, 80, .inl (fun z9 => J ((Ro z9 : Nat) : Int)))), (sw, .inl (cI, 80, .inl (fun z9 => J ((Ne z9 : Nat) : Int))))] := hD
      have hHu := sn_lt hHu hn (z := z.toNat) (by omega)
      refine lv_aload_n C.1 C.2.1 dX4_findHull_134 rfl (lv_at hl 0 rfl) ?_
      refine lv_dup C.1 C.2.1 dX4_findHull_135 rfl ?_
      refine jv_get C fw_X4_121 hK hP 0 rfl rfl dX4_findHull_136 ?_
      refine jv_iconst C dX4_findHull_139 ?_
      refine jv_iadd (z := ((hn + 1 : Nat) : Int)) C dX4_findHull_140 (by omega) ?_
      refine jv_put C fw_X4_121 fp_X4 hK hP hD hS 0 rfl rfl rfl rfl (Nat.le_of_ble_eq_true rfl) dX4_findHull_141 (fun H locs hP hD hS => ?_)
      have hP : va_P D vwCl [(qq, .inr (4, [.ref r0, .ref rx, .ref ry, .ref rt, .int (J ((pn : Nat) : Int)), .int (J (b2i (kn))), .int (J (b2i (fl))), .ref rh, .ref ra, .ref rb, .ref rc, .int (J ((hn + 1 : Nat) : Int)), .int (J ((mn : Nat) : Int)), .int (J (b2i (hd))), .int (J (b2i (sd))), .ref sa, .ref sb, .ref sc, .int (J ((hh : Nat) : Int)), .int (J ((fp : Nat) : Int)), .ref so, .ref sr, .ref sw, .int (J ((rn : Nat) : Int))])), (r0, .inl (cI, 7, .inl (fun z9 => J ((Mr z9 : Nat) : Int)))), (rx, .inl (cI, 40, .inl (fun z9 => J (Px z9)))), (ry, .inl (cI, 40, .inl (fun z9 => J (Py z9)))), (rt, .inl (cZ, 40, .inl (fun z9 => J (b2i (Mt z9))))), (rh, .inl (cI, 41, .inl (fun z9 => J (((sn Hu hn z.toNat) z9 : Nat) : Int)))), (ra, .inl (cI, 120, .inl (fun z9 => J ((A1 z9 : Nat) : Int)))), (rb, .inl (cI, 120, .inl (fun z9 => J ((A2 z9 : Nat) : Int)))), (rc, .inl (cI, 120, .inl (fun z9 => J ((A3 z9 : Nat) : Int)))), (sa, .inl (cI, 120, .inl (fun z9 => J ((B1 z9 : Nat) : Int)))), (sb, .inl (cI, 120, .inl (fun z9 => J ((B2 z9 : Nat) : Int)))), (sc, .inl (cI, 120, .inl (fun z9 => J ((B3 z9 : Nat) : Int)))), (so, .inl (cI, 40, .inl (fun z9 => J ((Or z9 : Nat) : Int)))), (sr, .inl (cI, 80, .inl (fun z9 => J ((Ro z9 : Nat) : Int)))), (sw, .inl (cI, 80, .inl (fun z9 => J ((Ne z9 : Nat) : Int))))] H := hP
      have hD : va_D _ [(qq, .inr (4, [.ref r0, .ref rx, .ref ry, .ref rt, .int (J ((pn : Nat) : Int)), .int (J (b2i (kn))), .int (J (b2i (fl))), .ref rh, .ref ra, .ref rb, .ref rc, .int (J ((hn + 1 : Nat) : Int)), .int (J ((mn : Nat) : Int)), .int (J (b2i (hd))), .int (J (b2i (sd))), .ref sa, .ref sb, .ref sc, .int (J ((hh : Nat) : Int)), .int (J ((fp : Nat) : Int)), .ref so, .ref sr, .ref sw, .int (J ((rn : Nat) : Int))])), (r0, .inl (cI, 7, .inl (fun z9 => J ((Mr z9 : Nat) : Int)))), (rx, .inl (cI, 40, .inl (fun z9 => J (Px z9)))), (ry, .inl (cI, 40, .inl (fun z9 => J (Py z9)))), (rt, .inl (cZ, 40, .inl (fun z9 => J (b2i (Mt z9))))), (rh, .inl (cI, 41, .inl (fun z9 => J (((sn Hu hn z.toNat) z9 : Nat) : Int)))), (ra, .inl (cI, 120, .inl (fun z9 => J ((A1 z9 : Nat) : Int)))), (rb, .inl (cI, 120, .inl (fun z9 => J ((A2 z9 : Nat) : Int)))), (rc, .inl (cI, 120, .inl (fun z9 => J ((A3 z9 : Nat) : Int)))), (sa, .inl (cI, 120, .inl (fun z9 => J ((B1 z9 : Nat) : Int)))), (sb, .inl (cI, 120, .inl (fun z9 => J ((B2 z9 : Nat) : Int)))), (sc, .inl (cI, 120, .inl (fun z9 => J ((B3 z9 : Nat) : Int)))), (so, .inl (cI, 40, .inl (fun z9 => J ((Or z9 : Nat) : Int)))), (sr, .inl (cI, 80, .inl (fun z9 => J ((Ro z9 : Nat) : Int)))), (sw, .inl (cI, 80, .inl (fun z9 => J ((Ne z9 : Nat) : Int))))] := hD
      have hR2 : RI ((Px, Py, Mt, pn), (kn, fl, sn Hu hn z.toNat, hn + 1, A1, A2, A3, mn), (hd, sd, B1, B2, B3, hh, fp), (Or, Ro, Ne, rn), Mr) := ⟨hX, hY, hpn, hHu, by show hn + 1 ≤ 41; omega, hA1, hA2, hA3, hmn, hB1, hB2, hB3, hhh, hOr, hRo, hNe, hrn⟩
      refine lv_aload_n C.1 C.2.1 dX4_findHull_144 rfl (lv_at hl 0 rfl) ?_
      refine lv_iload_n C.1 C.2.1 dX4_findHull_145 rfl (lv_at hl 3 rfl) ?_
      refine jv_rdV (ni := 1) (ci := 4) (q0 := 0) C [.int (J ((z.toNat : Nat) : Int))] [] (c_X4_nextCorner (Px := Px) (Py := Py) (Mt := Mt) (pn := pn) (kn := kn) (fl := fl) (Hu := sn Hu hn z.toNat) (hn := hn + 1) (A1 := A1) (A2 := A2) (A3 := A3) (mn := mn) (hd := hd) (sd := sd) (B1 := B1) (B2 := B2) (B3 := B3) (hh := hh) (fp := fp) (Or := Or) (Ro := Ro) (Ne := Ne) (rn := rn) (Mr := Mr) hR2 (a := z.toNat) (by omega)) gv_X4_128 (by decide +kernel) (by decide) hK (hP) rfl rfl rfl hl.1 (by simp [Value.category]) dX4_findHull_146 (by decide) ?_ rfl
      show W _ _ _ _ _ _ _ _ _ _ _ _ _ _ _ (F0 m 149 ls [.int (J (nxc Px Py Mt pn z.toNat))])
      have f2 := nxc_R Px Py Mt (pn := pn) z.toNat (by omega)
      refine lv_istore_n (lv' := [(3, .int (J (nxc Px Py Mt pn z.toNat))), (0, .ref qq), (1, .int (J ((f : Nat) : Int))), (2, .int (J lx))]) C.1 C.2.1 dX4_findHull_149 rfl hl (by decide) rfl (fun ls hl => ?_)
      refine lv_goto (tgt := 119) C.1 C.2.1 dX4_findHull_150 (by decide) ?_
      exact ih (nxc Px Py Mt pn z.toNat) (sn Hu hn z.toNat) (hn + 1) (by omega) (by omega) (by omega) hHu (by rw [hlw, if_neg (by omega), if_neg (by omega)] at hw; exact hw) H locs hP hD hS ls (lv_sub hl [1, 2, 3, 0] rfl)
end REF7
