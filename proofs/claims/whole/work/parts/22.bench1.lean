/-! the bench: its state, its cells, what each method does to them -/
abbrev PS : Type := (Nat → Int) × (Nat → Int) × (Nat → Bool) × (Nat → Nat) × Nat × Nat
abbrev BS : Type := PS × ((Nat → Nat) × Nat) × (MT × AB) × (MT × AB) × (Nat → Nat) × Bool × Bool × Bool × Nat
abbrev wBS (cI cZ : ClassId) (bb br pp ax ay at_ ao oo oc dm dc dt da db gm gc gt ga gb : Nat) (S : BS) : va_W := [(bb, .inr (3, [.ref pp, .ref oo, .ref dm, .ref gm, .ref br, .int (J (b2i (S.2.2.2.2.2.1))), .int (J (b2i (S.2.2.2.2.2.2.1))), .int (J (b2i (S.2.2.2.2.2.2.2.1))), .int (J ((S.2.2.2.2.2.2.2.2 : Nat) : Int))])), (br, .inl (cI, 6, .inl (fun i => J ((S.2.2.2.2.1 i : Nat) : Int)))), (pp, .inr (2, [.ref ax, .ref ay, .ref at_, .ref ao, .int (J ((S.1.2.2.2.2.1 : Nat) : Int)), .int (J ((S.1.2.2.2.2.2 : Nat) : Int))])), (ax, .inl (cI, 40, .inl (fun i => J (S.1.1 i)))), (ay, .inl (cI, 40, .inl (fun i => J (S.1.2.1 i)))), (at_, .inl (cZ, 40, .inl (fun i => J (b2i (S.1.2.2.1 i))))), (ao, .inl (cI, 40, .inl (fun i => J ((S.1.2.2.2.1 i : Nat) : Int)))), (oo, .inr (1, [.ref pp, .ref oc, .int (J ((S.2.1.2 : Nat) : Int))])), (oc, .inl (cI, 80, .inl (fun i => J ((S.2.1.1 i : Nat) : Int)))), (dm, .inr (0, [.ref pp, .ref dc, .int (J ((S.2.2.1.1.2.1 : Nat) : Int)), .ref dt, .ref da, .ref db])), (dc, .inl (cI, 80, .inl (fun i => J ((S.2.2.1.1.1 i : Nat) : Int)))), (dt, .inl (cI, 1600, .inl (fun i => J (S.2.2.1.1.2.2 i)))), (da, .inl (cI, 40, .inl (fun i => J ((S.2.2.1.2.1 i : Nat) : Int)))), (db, .inl (cI, 40, .inl (fun i => J ((S.2.2.1.2.2 i : Nat) : Int)))), (gm, .inr (0, [.ref pp, .ref gc, .int (J ((S.2.2.2.1.1.2.1 : Nat) : Int)), .ref gt, .ref ga, .ref gb])), (gc, .inl (cI, 80, .inl (fun i => J ((S.2.2.2.1.1.1 i : Nat) : Int)))), (gt, .inl (cI, 1600, .inl (fun i => J (S.2.2.2.1.1.2.2 i)))), (ga, .inl (cI, 40, .inl (fun i => J ((S.2.2.2.1.2.1 i : Nat) : Int)))), (gb, .inl (cI, 40, .inl (fun i => J ((S.2.2.2.1.2.2 i : Nat) : Int))))]
def BI (S : BS) : Prop := PB S.1.1 S.1.2.1 S.1.2.2.2.1 S.1.2.2.2.2.1 S.1.2.2.2.2.2 ∧ S.1.2.2.2.2.2 ≤ S.1.2.2.2.2.1 ∧ (∀ i, S.2.1.1 i < 40) ∧ S.2.1.2 ≤ 80 ∧ MB3 S.2.2.1.1 ∧ AB3 S.2.2.1.2 ∧ MB3 S.2.2.2.1.1 ∧ AB3 S.2.2.2.1.2
def fop (x y : Int) : Int := if x < -10000 ∨ y < -10000 then -4 else if 10000 < x ∨ 10000 < y then -6 else 0
def refu (z : Int) (Rq : Nat → Nat) : Nat → Nat := sn Rq (-1 - z).toNat (Rq (-1 - z).toNat + 1)
def sRef (z : Int) (S : BS) : BS := (S.1, S.2.1, S.2.2.1, S.2.2.2.1, refu z S.2.2.2.2.1, S.2.2.2.2.2)
theorem sRef_b {z : Int} {S : BS} (h : BI S) : BI (sRef z S) := h
def chg (S : BS) : BS := (S.1, S.2.1, S.2.2.1, S.2.2.2.1, S.2.2.2.2.1, false, S.2.2.2.2.2.2.1, S.2.2.2.2.2.2.1, S.2.2.2.2.2.2.2.2)
theorem chg_b {S : BS} (h : BI S) : BI (chg S) := h
def drw (X Y : Nat → Int) (O : Nat → Nat) (pres : Nat) (R : MT × AB) : MT × AB := ((stl X Y 10000 0 (fb X Y (loT X Y O pres R).1.2.2 0) (loT X Y O pres R).1).2, (loT X Y O pres R).2)
theorem drw_b {X Y : Nat → Int} {O : Nat → Nat} (hO : ∀ i, O i < 40) {pres : Nat} {R : MT × AB} (h1 : MB3 R.1) (h2 : AB3 R.2) : MB3 (drw X Y O pres R).1 ∧ AB3 (drw X Y O pres R).2 := by
  have h := loT_b (X := X) (Y := Y) hO (pres := pres) h1 h2
  exact ⟨(stl_b 10000 0 _ _ (by omega) h.1 (by omega)).1, h.2⟩
def sDrw (S : BS) : BS := if S.2.2.2.2.2.1 then S else (S.1, S.2.1, drw S.1.1 S.1.2.1 S.1.2.2.2.1 S.1.2.2.2.2.2 S.2.2.1, S.2.2.2.1, S.2.2.2.2.1, true, S.2.2.2.2.2.2)
theorem sDrw_b {S : BS} (h : BI S) : BI (sDrw S) := by
  unfold sDrw
  split
  · exact h
  · obtain ⟨h1, h2, h3, h4, h5, h6, h7, h8⟩ := h
    have := drw_b (X := S.1.1) (Y := S.1.2.1) (O := S.1.2.2.2.1) h1.2.2.1 (pres := S.1.2.2.2.2.2) h5 h6
    exact ⟨h1, h2, h3, h4, this.1, this.2, h7, h8⟩
def sTrc (S : BS) : BS := (S.1, trC S.1.1 S.1.2.1 S.1.2.2.2.1 S.1.2.2.2.2.2 S.2.1.1, S.2.2)
theorem fwC_b {X Y : Nat → Int} {O : Nat → Nat} (hO : ∀ i, O i < 40) {n : Nat} : ∀ (k i : Nat) (S : (Nat → Nat) × Nat), n ≤ i + k → (∀ i, S.1 i < 40) → S.2 ≤ 80 → (∀ j, (fwC X Y O n i S).1 j < 40) ∧ (fwC X Y O n i S).2 ≤ 80 := by
  intro k
  induction k with
  | zero => intro i S h h1 h2; rw [fwC_end (by omega)]; exact ⟨h1, h2⟩
  | succ k ih =>
    intro i S h h1 h2
    rcases Nat.lt_or_ge i n with q | q
    · rw [fwC_go q]
      have := addC_bd (X := X) (Y := Y) (p := O i) (kept := 1) h1 h2 (hO i)
      exact ih (i + 1) _ (by omega) this.1 this.2
    · rw [fwC_end q]; exact ⟨h1, h2⟩
theorem bwC_b {X Y : Nat → Int} {O : Nat → Nat} (hO : ∀ i, O i < 40) {w : Nat} : ∀ (i : Nat) (S : (Nat → Nat) × Nat), (∀ i, S.1 i < 40) → S.2 ≤ 80 → (∀ j, (bwC X Y O w i S).1 j < 40) ∧ (bwC X Y O w i S).2 ≤ 80 := by
  intro i
  induction i with
  | zero => intro S h1 h2; exact ⟨h1, h2⟩
  | succ i ih =>
    intro S h1 h2
    have := addC_bd (X := X) (Y := Y) (p := O i) (kept := w) h1 h2 (hO i)
    exact ih _ this.1 this.2
theorem trC_b {X Y : Nat → Int} {O : Nat → Nat} (hO : ∀ i, O i < 40) {pres : Nat} {K : Nat → Nat} (hK : ∀ i, K i < 40) : (∀ i, (trC X Y O pres K).1 i < 40) ∧ (trC X Y O pres K).2 ≤ 80 := by
  have h1 := fwC_b (X := X) (Y := Y) hO (n := pres) pres 0 (K, 0) (by omega) hK (by show 0 ≤ 80; omega)
  have h2 := bwC_b (X := X) (Y := Y) hO (w := (fwC X Y O pres 0 (K, 0)).2) (pres - 1) _ h1.1 h1.2
  exact ⟨h2.1, Nat.le_trans (cut1_le _) h2.2⟩
theorem sTrc_b {S : BS} (h : BI S) : BI (sTrc S) := by
  obtain ⟨h1, h2, h3, h4, h5⟩ := h
  have := trC_b (X := S.1.1) (Y := S.1.2.1) h1.2.2.1 (pres := S.1.2.2.2.2.2) h3
  exact ⟨h1, h2, this.1, this.2, h5⟩
def rdy (S : BS) : Bool := S.2.2.2.2.2.2.1 && !S.2.2.2.2.2.2.2.1
def two (T : Nat → Bool) (told : Nat) (a b : Int) : Bool := decide (a ≠ b) && (thr T told a && thr T told b)
def all4 (T : Nat → Bool) (told : Nat) (a b c d : Int) : Bool := thr T told a && (thr T told b && (thr T told c && thr T told d))
def sgn (v : Int) : Int := if v = 0 then 0 else if 0 < v then 1 else -1
def fhe (S : BS) (a b : Int) : Int := if rdy S then (if two S.1.2.2.1 S.1.2.2.2.2.1 a b && sidP S.2.2.2.1.1.2.2 a.toNat b.toNat then 0 else -1) else -3
theorem thr_t {T : Nat → Bool} {told : Nat} {z : Int} (h : thr T told z = true) : 0 ≤ z ∧ z < told ∧ T z.toNat = true := by
  unfold thr at h
  simp only [Bool.and_eq_true, decide_eq_true_eq] at h
  exact ⟨h.1, h.2.1, h.2.2⟩
section BEN1
variable {l : Launch} {D : va_G} {cI cZ : ClassId} {bb br pp ax ay at_ ao oo oc dm dc dt da db gm gc gt ga gb : Nat} {X Y : Nat → Int} {T : Nat → Bool} {O : Nat → Nat} {told pres : Nat} {K : Nat → Nat} {osz : Nat} {Cd : Nat → Nat} {sz : Nat} {Th : Nat → Int} {Af Bf : Nat → Nat} {Ce : Nat → Nat} {se : Nat} {Te : Nat → Int} {Ae Be : Nat → Nat} {Rq : Nat → Nat} {fi bg sl : Bool} {fd : Nat}
set_option maxRecDepth 20000 in
set_option maxHeartbeats 4000000 in
theorem c_X3_faultOfPlace {x y : Int}  (hx : R3 x) (hy : R3 y) : cR l yX3_faultOfPlace cX3_faultOfPlace 2 (some .int) 0 0 D (tyz cI cZ) [.int (J x), .int (J y)] [] (some (.int (J (fop x y)))) := by
  refine cR_of (owner := RX3) rfl (by decide) (Nat.le_of_ble_eq_true rfl) ?_
  intro p e s m args below meth c ls C hlk hr hK hP hl
  have hl : lv_has ls 2 [(0, .int (J x)), (1, .int (J y))] := hl
  refine lv_iload_n C.1 C.2.1 dX3_faultOfPlace_0 rfl (lv_at hl 0 rfl) ?_
  refine jv_sipush C dX3_faultOfPlace_1 rfl ?_
  refine jv_icmp_lt (tgt := 14) C dX3_faultOfPlace_4 (by decide) (by omega) (fun h1 => ?_) (fun h1 => ?_)
  · refine jv_bipush C dX3_faultOfPlace_14 rfl ?_
    exact jv_iret C hlk hr dX3_faultOfPlace_16 (by grind [fop])
  · refine lv_iload_n C.1 C.2.1 dX3_faultOfPlace_7 rfl (lv_at hl 1 rfl) ?_
    refine jv_sipush C dX3_faultOfPlace_8 rfl ?_
    refine jv_icmp_ge (tgt := 17) C dX3_faultOfPlace_11 (by decide) (by omega) (fun h2 => ?_) (fun h2 => ?_)
    · refine lv_iload_n C.1 C.2.1 dX3_faultOfPlace_17 rfl (lv_at hl 0 rfl) ?_
      refine jv_sipush C dX3_faultOfPlace_18 rfl ?_
      refine jv_icmp_gt (tgt := 31) C dX3_faultOfPlace_21 (by decide) (by omega) (fun h3 => ?_) (fun h3 => ?_)
      · refine jv_bipush C dX3_faultOfPlace_31 rfl ?_
        refine lv_goto (tgt := 37) C.1 C.2.1 dX3_faultOfPlace_33 (by decide) ?_
        exact jv_iret C hlk hr dX3_faultOfPlace_37 (by grind [fop])
      · refine lv_iload_n C.1 C.2.1 dX3_faultOfPlace_24 rfl (lv_at hl 1 rfl) ?_
        refine jv_sipush C dX3_faultOfPlace_25 rfl ?_
        refine jv_icmp_le (tgt := 36) C dX3_faultOfPlace_28 (by decide) (by omega) (fun h4 => ?_) (fun h4 => ?_)
        · refine jv_iconst C dX3_faultOfPlace_36 ?_
          exact jv_iret C hlk hr dX3_faultOfPlace_37 (by grind [fop])
        · refine jv_bipush C dX3_faultOfPlace_31 rfl ?_
          refine lv_goto (tgt := 37) C.1 C.2.1 dX3_faultOfPlace_33 (by decide) ?_
          exact jv_iret C hlk hr dX3_faultOfPlace_37 (by grind [fop])
    · refine jv_bipush C dX3_faultOfPlace_14 rfl ?_
      exact jv_iret C hlk hr dX3_faultOfPlace_16 (by grind [fop])
set_option maxRecDepth 20000 in
set_option maxHeartbeats 4000000 in
theorem c_X3_signOf {q : Int}  (hq : R6 q) : cR l yX3_signOf cX3_signOf 2 (some .int) 0 0 D (tyz cI cZ) [.long (Lg (q))] [] (some (.int (J (sgn q)))) := by
  refine cR_of (owner := RX3) rfl (by decide) (Nat.le_of_ble_eq_true rfl) ?_
  intro p e s m args below meth c ls C hlk hr hK hP hl
  have hl : lv_has ls 2 [(0, .long (Lg (q)))] := hl
  refine lv_lload_n C.1 C.2.1 dX3_signOf_0 rfl (lv_at hl 0 rfl) ?_
  refine jv_lconst (z := 0) C dX3_signOf_1 rfl ?_
  refine jv_lcmp_ne (tgt := 8) C dX3_signOf_2 dX3_signOf_3 (by decide) (by omega) (fun h1 => ?_) (fun h1 => ?_)
  · refine lv_lload_n C.1 C.2.1 dX3_signOf_8 rfl (lv_at hl 0 rfl) ?_
    refine jv_lconst (z := 0) C dX3_signOf_9 rfl ?_
    refine jv_lcmp_le (tgt := 18) C dX3_signOf_10 dX3_signOf_11 (by decide) (by omega) (fun h2 => ?_) (fun h2 => ?_)
    · refine jv_iconst C dX3_signOf_18 ?_
      exact jv_iret C hlk hr dX3_signOf_19 (by grind [sgn])
    · refine jv_iconst C dX3_signOf_14 ?_
      refine lv_goto (tgt := 19) C.1 C.2.1 dX3_signOf_15 (by decide) ?_
      exact jv_iret C hlk hr dX3_signOf_19 (by grind [sgn])
  · refine jv_iconst C dX3_signOf_6 ?_
    exact jv_iret C hlk hr dX3_signOf_7 (by grind [sgn])
set_option maxRecDepth 20000 in
set_option maxHeartbeats 4000000 in
theorem c_X3_isHandReady  (hBI : BI ((X, Y, T, O, told, pres), (K, osz), ((Cd, sz, Th), (Af, Bf)), ((Ce, se, Te), (Ae, Be)), Rq, fi, bg, sl, fd))  : cR l yX3_isHandReady cX3_isHandReady 1 (some .boolean) 0 0 D (tyz cI cZ) [.ref bb] (wBS cI cZ bb br pp ax ay at_ ao oo oc dm dc dt da db gm gc gt ga gb ((X, Y, T, O, told, pres), (K, osz), ((Cd, sz, Th), (Af, Bf)), ((Ce, se, Te), (Ae, Be)), Rq, fi, bg, sl, fd)) (some (.int (J (b2i (bg && !sl))))) := by
  refine cR_of (owner := RX3) rfl (by decide) (Nat.le_of_ble_eq_true rfl) ?_
  intro p e s m args below meth c ls C hlk hr hK hP hl
  have hl : lv_has ls 1 [(0, .ref bb)] := hl
  have hP : va_P D vwCl [(bb, .inr (3, [.ref pp, .ref oo, .ref dm, .ref gm, .ref br, .int (J (b2i (fi))), .int (J (b2i (bg))), .int (J (b2i (sl))), .int (J ((fd : Nat) : Int))])), (br, .inl (cI, 6, .inl (fun z9 => J ((Rq z9 : Nat) : Int)))), (pp, .inr (2, [.ref ax, .ref ay, .ref at_, .ref ao, .int (J ((told : Nat) : Int)), .int (J ((pres : Nat) : Int))])), (ax, .inl (cI, 40, .inl (fun z9 => J (X z9)))), (ay, .inl (cI, 40, .inl (fun z9 => J (Y z9)))), (at_, .inl (cZ, 40, .inl (fun z9 => J (b2i (T z9))))), (ao, .inl (cI, 40, .inl (fun z9 => J ((O z9 : Nat) : Int)))), (oo, .inr (1, [.ref pp, .ref oc, .int (J ((osz : Nat) : Int))])), (oc, .inl (cI, 80, .inl (fun z9 => J ((K z9 : Nat) : Int)))), (dm, .inr (0, [.ref pp, .ref dc, .int (J ((sz : Nat) : Int)), .ref dt, .ref da, .ref db])), (dc, .inl (cI, 80, .inl (fun z9 => J ((Cd z9 : Nat) : Int)))), (dt, .inl (cI, 1600, .inl (fun z9 => J (Th z9)))), (da, .inl (cI, 40, .inl (fun z9 => J ((Af z9 : Nat) : Int)))), (db, .inl (cI, 40, .inl (fun z9 => J ((Bf z9 : Nat) : Int)))), (gm, .inr (0, [.ref pp, .ref gc, .int (J ((se : Nat) : Int)), .ref gt, .ref ga, .ref gb])), (gc, .inl (cI, 80, .inl (fun z9 => J ((Ce z9 : Nat) : Int)))), (gt, .inl (cI, 1600, .inl (fun z9 => J (Te z9)))), (ga, .inl (cI, 40, .inl (fun z9 => J ((Ae z9 : Nat) : Int)))), (gb, .inl (cI, 40, .inl (fun z9 => J ((Be z9 : Nat) : Int))))] s.heap := hP
  have hX : ∀ i, -10000 ≤ X i ∧ X i ≤ 10000 := hBI.1.1
  have hY : ∀ i, -10000 ≤ Y i ∧ Y i ≤ 10000 := hBI.1.2.1
  have hO : ∀ i, O i < 40 := hBI.1.2.2.1
  have htd : told ≤ 40 := hBI.1.2.2.2.1
  have hps : pres ≤ 40 := hBI.1.2.2.2.2
  have hpt : pres ≤ told := hBI.2.1
  have hKc : ∀ i, K i < 40 := hBI.2.2.1
  have hos : osz ≤ 80 := hBI.2.2.2.1
  have hD3 : MB3 (Cd, sz, Th) := hBI.2.2.2.2.1
  have hDA : AB3 (Af, Bf) := hBI.2.2.2.2.2.1
  have hH3 : MB3 (Ce, se, Te) := hBI.2.2.2.2.2.2.1
  have hHA : AB3 (Ae, Be) := hBI.2.2.2.2.2.2.2
  have hsz : sz ≤ 80 := hD3.2.1
  have hse : se ≤ 80 := hH3.2.1
  have hCe : ∀ i, Ce i < 64000 := hH3.1
  refine lv_aload_n C.1 C.2.1 dX3_isHandReady_0 rfl (lv_at hl 0 rfl) ?_
  refine jv_get C fw_X3_169 hK hP 0 rfl rfl dX3_isHandReady_1 ?_
  refine jv_bif_eq (tgt := 18) C dX3_isHandReady_4 (by decide) (fun h1 => ?_) (fun h1 => ?_)
  · refine jv_iconst C dX3_isHandReady_18 ?_
    exact jv_zret C hlk hr dX3_isHandReady_19 (by grind [b2i])
  · refine lv_aload_n C.1 C.2.1 dX3_isHandReady_7 rfl (lv_at hl 0 rfl) ?_
    refine jv_get C fw_X3_173 hK hP 0 rfl rfl dX3_isHandReady_8 ?_
    refine jv_bif_ne (tgt := 18) C dX3_isHandReady_11 (by decide) (fun h2 => ?_) (fun h2 => ?_)
    · refine jv_iconst C dX3_isHandReady_18 ?_
      exact jv_zret C hlk hr dX3_isHandReady_19 (by grind [b2i])
    · refine jv_iconst C dX3_isHandReady_14 ?_
      refine lv_goto (tgt := 19) C.1 C.2.1 dX3_isHandReady_15 (by decide) ?_
      exact jv_zret C hlk hr dX3_isHandReady_19 (by grind [b2i])
set_option maxRecDepth 20000 in
set_option maxHeartbeats 4000000 in
theorem c_X3_areTwoPoints {a b : Int} (hBI : BI ((X, Y, T, O, told, pres), (K, osz), ((Cd, sz, Th), (Af, Bf)), ((Ce, se, Te), (Ae, Be)), Rq, fi, bg, sl, fd)) (ha : R3 a) (hb : R3 b) : cR l yX3_areTwoPoints cX3_areTwoPoints 3 (some .boolean) 1 21 D (tyz cI cZ) [.ref bb, .int (J a), .int (J b)] (wBS cI cZ bb br pp ax ay at_ ao oo oc dm dc dt da db gm gc gt ga gb ((X, Y, T, O, told, pres), (K, osz), ((Cd, sz, Th), (Af, Bf)), ((Ce, se, Te), (Ae, Be)), Rq, fi, bg, sl, fd)) (some (.int (J (b2i (two T told a b))))) := by
  refine cR_of (owner := RX3) rfl (by decide) (Nat.le_of_ble_eq_true rfl) ?_
  intro p e s m args below meth c ls C hlk hr hK hP hl
  have hl : lv_has ls 3 [(0, .ref bb), (1, .int (J a)), (2, .int (J b))] := hl
  have hP : va_P D vwCl [(bb, .inr (3, [.ref pp, .ref oo, .ref dm, .ref gm, .ref br, .int (J (b2i (fi))), .int (J (b2i (bg))), .int (J (b2i (sl))), .int (J ((fd : Nat) : Int))])), (br, .inl (cI, 6, .inl (fun z9 => J ((Rq z9 : Nat) : Int)))), (pp, .inr (2, [.ref ax, .ref ay, .ref at_, .ref ao, .int (J ((told : Nat) : Int)), .int (J ((pres : Nat) : Int))])), (ax, .inl (cI, 40, .inl (fun z9 => J (X z9)))), (ay, .inl (cI, 40, .inl (fun z9 => J (Y z9)))), (at_, .inl (cZ, 40, .inl (fun z9 => J (b2i (T z9))))), (ao, .inl (cI, 40, .inl (fun z9 => J ((O z9 : Nat) : Int)))), (oo, .inr (1, [.ref pp, .ref oc, .int (J ((osz : Nat) : Int))])), (oc, .inl (cI, 80, .inl (fun z9 => J ((K z9 : Nat) : Int)))), (dm, .inr (0, [.ref pp, .ref dc, .int (J ((sz : Nat) : Int)), .ref dt, .ref da, .ref db])), (dc, .inl (cI, 80, .inl (fun z9 => J ((Cd z9 : Nat) : Int)))), (dt, .inl (cI, 1600, .inl (fun z9 => J (Th z9)))), (da, .inl (cI, 40, .inl (fun z9 => J ((Af z9 : Nat) : Int)))), (db, .inl (cI, 40, .inl (fun z9 => J ((Bf z9 : Nat) : Int)))), (gm, .inr (0, [.ref pp, .ref gc, .int (J ((se : Nat) : Int)), .ref gt, .ref ga, .ref gb])), (gc, .inl (cI, 80, .inl (fun z9 => J ((Ce z9 : Nat) : Int)))), (gt, .inl (cI, 1600, .inl (fun z9 => J (Te z9)))), (ga, .inl (cI, 40, .inl (fun z9 => J ((Ae z9 : Nat) : Int)))), (gb, .inl (cI, 40, .inl (fun z9 => J ((Be z9 : Nat) : Int))))] s.heap := hP
  have hX : ∀ i, -10000 ≤ X i ∧ X i ≤ 10000 := hBI.1.1
  have hY : ∀ i, -10000 ≤ Y i ∧ Y i ≤ 10000 := hBI.1.2.1
  have hO : ∀ i, O i < 40 := hBI.1.2.2.1
  have htd : told ≤ 40 := hBI.1.2.2.2.1
  have hps : pres ≤ 40 := hBI.1.2.2.2.2
  have hpt : pres ≤ told := hBI.2.1
  have hKc : ∀ i, K i < 40 := hBI.2.2.1
  have hos : osz ≤ 80 := hBI.2.2.2.1
  have hD3 : MB3 (Cd, sz, Th) := hBI.2.2.2.2.1
  have hDA : AB3 (Af, Bf) := hBI.2.2.2.2.2.1
  have hH3 : MB3 (Ce, se, Te) := hBI.2.2.2.2.2.2.1
  have hHA : AB3 (Ae, Be) := hBI.2.2.2.2.2.2.2
  have hsz : sz ≤ 80 := hD3.2.1
  have hse : se ≤ 80 := hH3.2.1
  have hCe : ∀ i, Ce i < 64000 := hH3.1
  refine lv_iload_n C.1 C.2.1 dX3_areTwoPoints_0 rfl (lv_at hl 1 rfl) ?_
  refine lv_iload_n C.1 C.2.1 dX3_areTwoPoints_1 rfl (lv_at hl 2 rfl) ?_
  refine jv_icmp_eq (tgt := 31) C dX3_areTwoPoints_2 (by decide) (by omega) (fun h1 => ?_) (fun h1 => ?_)
  · refine jv_iconst C dX3_areTwoPoints_31 ?_
    exact jv_zret C hlk hr dX3_areTwoPoints_32 (by grind [two, b2i])
  · refine lv_aload_n C.1 C.2.1 dX3_areTwoPoints_5 rfl (lv_at hl 0 rfl) ?_
    refine jv_get C fw_X3_10 hK hP 0 rfl rfl dX3_areTwoPoints_6 ?_
    refine lv_iload_n C.1 C.2.1 dX3_areTwoPoints_9 rfl (lv_at hl 1 rfl) ?_
    refine jv_rdV (ni := 1) (ci := 2) (q0 := 0) C [.int (J a)] [] (c_X2_isThere (X := X) (Y := Y) (T := T) (O := O) (told := told) (pres := pres) (z := a) ⟨hX, hY, hO, by omega, by omega⟩ (by omega)) gv_X3_60 (by decide +kernel) (by decide) hK (hP.sub (ws' := [(pp, .inr (2, [.ref ax, .ref ay, .ref at_, .ref ao, .int (J ((told : Nat) : Int)), .int (J ((pres : Nat) : Int))])), (ax, .inl (cI, 40, .inl (fun z9 => J (X z9)))), (ay, .inl (cI, 40, .inl (fun z9 => J (Y z9)))), (at_, .inl (cZ, 40, .inl (fun z9 => J (b2i (T z9))))), (ao, .inl (cI, 40, .inl (fun z9 => J ((O z9 : Nat) : Int))))]) [2, 3, 4, 5, 6] rfl) rfl rfl rfl hl.1 (by simp [Value.category]) dX3_areTwoPoints_10 (by decide) ?_ rfl
    show W _ _ _ _ _ _ _ _ _ _ _ _ _ _ _ (F0 m 13 ls [.int (J (b2i (thr T told a)))])
    refine jv_bif_eq (tgt := 31) C dX3_areTwoPoints_13 (by decide) (fun h2 => ?_) (fun h2 => ?_)
    · refine jv_iconst C dX3_areTwoPoints_31 ?_
      exact jv_zret C hlk hr dX3_areTwoPoints_32 (by grind [two, b2i])
    · refine lv_aload_n C.1 C.2.1 dX3_areTwoPoints_16 rfl (lv_at hl 0 rfl) ?_
      refine jv_get C fw_X3_10 hK hP 0 rfl rfl dX3_areTwoPoints_17 ?_
      refine lv_iload_n C.1 C.2.1 dX3_areTwoPoints_20 rfl (lv_at hl 2 rfl) ?_
      refine jv_rdV (ni := 1) (ci := 2) (q0 := 0) C [.int (J b)] [] (c_X2_isThere (X := X) (Y := Y) (T := T) (O := O) (told := told) (pres := pres) (z := b) ⟨hX, hY, hO, by omega, by omega⟩ (by omega)) gv_X3_60 (by decide +kernel) (by decide) hK (hP.sub (ws' := [(pp, .inr (2, [.ref ax, .ref ay, .ref at_, .ref ao, .int (J ((told : Nat) : Int)), .int (J ((pres : Nat) : Int))])), (ax, .inl (cI, 40, .inl (fun z9 => J (X z9)))), (ay, .inl (cI, 40, .inl (fun z9 => J (Y z9)))), (at_, .inl (cZ, 40, .inl (fun z9 => J (b2i (T z9))))), (ao, .inl (cI, 40, .inl (fun z9 => J ((O z9 : Nat) : Int))))]) [2, 3, 4, 5, 6] rfl) rfl rfl rfl hl.1 (by simp [Value.category]) dX3_areTwoPoints_21 (by decide) ?_ rfl
      show W _ _ _ _ _ _ _ _ _ _ _ _ _ _ _ (F0 m 24 ls [.int (J (b2i (thr T told b)))])
      refine jv_bif_eq (tgt := 31) C dX3_areTwoPoints_24 (by decide) (fun h3 => ?_) (fun h3 => ?_)
      · refine jv_iconst C dX3_areTwoPoints_31 ?_
        exact jv_zret C hlk hr dX3_areTwoPoints_32 (by grind [two, b2i])
      · refine jv_iconst C dX3_areTwoPoints_27 ?_
        refine lv_goto (tgt := 32) C.1 C.2.1 dX3_areTwoPoints_28 (by decide) ?_
        exact jv_zret C hlk hr dX3_areTwoPoints_32 (by grind [two, b2i])
set_option maxRecDepth 20000 in
set_option maxHeartbeats 4000000 in
theorem c_X3_areAllThere {a b k d : Int} (hBI : BI ((X, Y, T, O, told, pres), (K, osz), ((Cd, sz, Th), (Af, Bf)), ((Ce, se, Te), (Ae, Be)), Rq, fi, bg, sl, fd)) (ha : R3 a) (hb : R3 b) (hk : R3 k) (hd : R3 d) : cR l yX3_areAllThere cX3_areAllThere 5 (some .boolean) 1 21 D (tyz cI cZ) [.ref bb, .int (J a), .int (J b), .int (J k), .int (J d)] (wBS cI cZ bb br pp ax ay at_ ao oo oc dm dc dt da db gm gc gt ga gb ((X, Y, T, O, told, pres), (K, osz), ((Cd, sz, Th), (Af, Bf)), ((Ce, se, Te), (Ae, Be)), Rq, fi, bg, sl, fd)) (some (.int (J (b2i (all4 T told a b k d))))) := by
  refine cR_of (owner := RX3) rfl (by decide) (Nat.le_of_ble_eq_true rfl) ?_
  intro p e s m args below meth c ls C hlk hr hK hP hl
  have hl : lv_has ls 5 [(0, .ref bb), (1, .int (J a)), (2, .int (J b)), (3, .int (J k)), (4, .int (J d))] := hl
  have hP : va_P D vwCl [(bb, .inr (3, [.ref pp, .ref oo, .ref dm, .ref gm, .ref br, .int (J (b2i (fi))), .int (J (b2i (bg))), .int (J (b2i (sl))), .int (J ((fd : Nat) : Int))])), (br, .inl (cI, 6, .inl (fun z9 => J ((Rq z9 : Nat) : Int)))), (pp, .inr (2, [.ref ax, .ref ay, .ref at_, .ref ao, .int (J ((told : Nat) : Int)), .int (J ((pres : Nat) : Int))])), (ax, .inl (cI, 40, .inl (fun z9 => J (X z9)))), (ay, .inl (cI, 40, .inl (fun z9 => J (Y z9)))), (at_, .inl (cZ, 40, .inl (fun z9 => J (b2i (T z9))))), (ao, .inl (cI, 40, .inl (fun z9 => J ((O z9 : Nat) : Int)))), (oo, .inr (1, [.ref pp, .ref oc, .int (J ((osz : Nat) : Int))])), (oc, .inl (cI, 80, .inl (fun z9 => J ((K z9 : Nat) : Int)))), (dm, .inr (0, [.ref pp, .ref dc, .int (J ((sz : Nat) : Int)), .ref dt, .ref da, .ref db])), (dc, .inl (cI, 80, .inl (fun z9 => J ((Cd z9 : Nat) : Int)))), (dt, .inl (cI, 1600, .inl (fun z9 => J (Th z9)))), (da, .inl (cI, 40, .inl (fun z9 => J ((Af z9 : Nat) : Int)))), (db, .inl (cI, 40, .inl (fun z9 => J ((Bf z9 : Nat) : Int)))), (gm, .inr (0, [.ref pp, .ref gc, .int (J ((se : Nat) : Int)), .ref gt, .ref ga, .ref gb])), (gc, .inl (cI, 80, .inl (fun z9 => J ((Ce z9 : Nat) : Int)))), (gt, .inl (cI, 1600, .inl (fun z9 => J (Te z9)))), (ga, .inl (cI, 40, .inl (fun z9 => J ((Ae z9 : Nat) : Int)))), (gb, .inl (cI, 40, .inl (fun z9 => J ((Be z9 : Nat) : Int))))] s.heap := hP
  have hX : ∀ i, -10000 ≤ X i ∧ X i ≤ 10000 := hBI.1.1
  have hY : ∀ i, -10000 ≤ Y i ∧ Y i ≤ 10000 := hBI.1.2.1
  have hO : ∀ i, O i < 40 := hBI.1.2.2.1
  have htd : told ≤ 40 := hBI.1.2.2.2.1
  have hps : pres ≤ 40 := hBI.1.2.2.2.2
  have hpt : pres ≤ told := hBI.2.1
  have hKc : ∀ i, K i < 40 := hBI.2.2.1
  have hos : osz ≤ 80 := hBI.2.2.2.1
  have hD3 : MB3 (Cd, sz, Th) := hBI.2.2.2.2.1
  have hDA : AB3 (Af, Bf) := hBI.2.2.2.2.2.1
  have hH3 : MB3 (Ce, se, Te) := hBI.2.2.2.2.2.2.1
  have hHA : AB3 (Ae, Be) := hBI.2.2.2.2.2.2.2
  have hsz : sz ≤ 80 := hD3.2.1
  have hse : se ≤ 80 := hH3.2.1
  have hCe : ∀ i, Ce i < 64000 := hH3.1
  refine lv_aload_n C.1 C.2.1 dX3_areAllThere_0 rfl (lv_at hl 0 rfl) ?_
  refine jv_get C fw_X3_10 hK hP 0 rfl rfl dX3_areAllThere_1 ?_
  refine lv_iload_n C.1 C.2.1 dX3_areAllThere_4 rfl (lv_at hl 1 rfl) ?_
  refine jv_rdV (ni := 1) (ci := 2) (q0 := 0) C [.int (J a)] [] (c_X2_isThere (X := X) (Y := Y) (T := T) (O := O) (told := told) (pres := pres) (z := a) ⟨hX, hY, hO, by omega, by omega⟩ (by omega)) gv_X3_60 (by decide +kernel) (by decide) hK (hP.sub (ws' := [(pp, .inr (2, [.ref ax, .ref ay, .ref at_, .ref ao, .int (J ((told : Nat) : Int)), .int (J ((pres : Nat) : Int))])), (ax, .inl (cI, 40, .inl (fun z9 => J (X z9)))), (ay, .inl (cI, 40, .inl (fun z9 => J (Y z9)))), (at_, .inl (cZ, 40, .inl (fun z9 => J (b2i (T z9))))), (ao, .inl (cI, 40, .inl (fun z9 => J ((O z9 : Nat) : Int))))]) [2, 3, 4, 5, 6] rfl) rfl rfl rfl hl.1 (by simp [Value.category]) dX3_areAllThere_5 (by decide) ?_ rfl
  show W _ _ _ _ _ _ _ _ _ _ _ _ _ _ _ (F0 m 8 ls [.int (J (b2i (thr T told a)))])
  refine jv_bif_eq (tgt := 49) C dX3_areAllThere_8 (by decide) (fun h1 => ?_) (fun h1 => ?_)
  · refine jv_iconst C dX3_areAllThere_49 ?_
    exact jv_zret C hlk hr dX3_areAllThere_50 (by grind [all4, b2i])
  · refine lv_aload_n C.1 C.2.1 dX3_areAllThere_11 rfl (lv_at hl 0 rfl) ?_
    refine jv_get C fw_X3_10 hK hP 0 rfl rfl dX3_areAllThere_12 ?_
    refine lv_iload_n C.1 C.2.1 dX3_areAllThere_15 rfl (lv_at hl 2 rfl) ?_
    refine jv_rdV (ni := 1) (ci := 2) (q0 := 0) C [.int (J b)] [] (c_X2_isThere (X := X) (Y := Y) (T := T) (O := O) (told := told) (pres := pres) (z := b) ⟨hX, hY, hO, by omega, by omega⟩ (by omega)) gv_X3_60 (by decide +kernel) (by decide) hK (hP.sub (ws' := [(pp, .inr (2, [.ref ax, .ref ay, .ref at_, .ref ao, .int (J ((told : Nat) : Int)), .int (J ((pres : Nat) : Int))])), (ax, .inl (cI, 40, .inl (fun z9 => J (X z9)))), (ay, .inl (cI, 40, .inl (fun z9 => J (Y z9)))), (at_, .inl (cZ, 40, .inl (fun z9 => J (b2i (T z9))))), (ao, .inl (cI, 40, .inl (fun z9 => J ((O z9 : Nat) : Int))))]) [2, 3, 4, 5, 6] rfl) rfl rfl rfl hl.1 (by simp [Value.category]) dX3_areAllThere_16 (by decide) ?_ rfl
    show W _ _ _ _ _ _ _ _ _ _ _ _ _ _ _ (F0 m 19 ls [.int (J (b2i (thr T told b)))])
    refine jv_bif_eq (tgt := 49) C dX3_areAllThere_19 (by decide) (fun h2 => ?_) (fun h2 => ?_)
    · refine jv_iconst C dX3_areAllThere_49 ?_
      exact jv_zret C hlk hr dX3_areAllThere_50 (by grind [all4, b2i])
    · refine lv_aload_n C.1 C.2.1 dX3_areAllThere_22 rfl (lv_at hl 0 rfl) ?_
      refine jv_get C fw_X3_10 hK hP 0 rfl rfl dX3_areAllThere_23 ?_
      refine lv_iload_n C.1 C.2.1 dX3_areAllThere_26 rfl (lv_at hl 3 rfl) ?_
      refine jv_rdV (ni := 1) (ci := 2) (q0 := 0) C [.int (J k)] [] (c_X2_isThere (X := X) (Y := Y) (T := T) (O := O) (told := told) (pres := pres) (z := k) ⟨hX, hY, hO, by omega, by omega⟩ (by omega)) gv_X3_60 (by decide +kernel) (by decide) hK (hP.sub (ws' := [(pp, .inr (2, [.ref ax, .ref ay, .ref at_, .ref ao, .int (J ((told : Nat) : Int)), .int (J ((pres : Nat) : Int))])), (ax, .inl (cI, 40, .inl (fun z9 => J (X z9)))), (ay, .inl (cI, 40, .inl (fun z9 => J (Y z9)))), (at_, .inl (cZ, 40, .inl (fun z9 => J (b2i (T z9))))), (ao, .inl (cI, 40, .inl (fun z9 => J ((O z9 : Nat) : Int))))]) [2, 3, 4, 5, 6] rfl) rfl rfl rfl hl.1 (by simp [Value.category]) dX3_areAllThere_27 (by decide) ?_ rfl
      show W _ _ _ _ _ _ _ _ _ _ _ _ _ _ _ (F0 m 30 ls [.int (J (b2i (thr T told k)))])
      refine jv_bif_eq (tgt := 49) C dX3_areAllThere_30 (by decide) (fun h3 => ?_) (fun h3 => ?_)
      · refine jv_iconst C dX3_areAllThere_49 ?_
        exact jv_zret C hlk hr dX3_areAllThere_50 (by grind [all4, b2i])
      · refine lv_aload_n C.1 C.2.1 dX3_areAllThere_33 rfl (lv_at hl 0 rfl) ?_
        refine jv_get C fw_X3_10 hK hP 0 rfl rfl dX3_areAllThere_34 ?_
        refine lv_iload C.1 C.2.1 dX3_areAllThere_37 (lv_at hl 4 rfl) ?_
        refine jv_rdV (ni := 1) (ci := 2) (q0 := 0) C [.int (J d)] [] (c_X2_isThere (X := X) (Y := Y) (T := T) (O := O) (told := told) (pres := pres) (z := d) ⟨hX, hY, hO, by omega, by omega⟩ (by omega)) gv_X3_60 (by decide +kernel) (by decide) hK (hP.sub (ws' := [(pp, .inr (2, [.ref ax, .ref ay, .ref at_, .ref ao, .int (J ((told : Nat) : Int)), .int (J ((pres : Nat) : Int))])), (ax, .inl (cI, 40, .inl (fun z9 => J (X z9)))), (ay, .inl (cI, 40, .inl (fun z9 => J (Y z9)))), (at_, .inl (cZ, 40, .inl (fun z9 => J (b2i (T z9))))), (ao, .inl (cI, 40, .inl (fun z9 => J ((O z9 : Nat) : Int))))]) [2, 3, 4, 5, 6] rfl) rfl rfl rfl hl.1 (by simp [Value.category]) dX3_areAllThere_39 (by decide) ?_ rfl
        show W _ _ _ _ _ _ _ _ _ _ _ _ _ _ _ (F0 m 42 ls [.int (J (b2i (thr T told d)))])
        refine jv_bif_eq (tgt := 49) C dX3_areAllThere_42 (by decide) (fun h4 => ?_) (fun h4 => ?_)
        · refine jv_iconst C dX3_areAllThere_49 ?_
          exact jv_zret C hlk hr dX3_areAllThere_50 (by grind [all4, b2i])
        · refine jv_iconst C dX3_areAllThere_45 ?_
          refine lv_goto (tgt := 50) C.1 C.2.1 dX3_areAllThere_46 (by decide) ?_
          exact jv_zret C hlk hr dX3_areAllThere_50 (by grind [all4, b2i])
end BEN1
