/-! a drawing's cells, and its reading methods -/
abbrev wMesh (cI : ClassId) (mm mc mt ma mb pp : Nat) (Cd : Nat → Nat) (sz : Nat) (Th : Nat → Int) (Af Bf : Nat → Nat) : va_W := [(mm, .inr (0, [.ref pp, .ref mc, .int (J ((sz : Nat) : Int)), .ref mt, .ref ma, .ref mb])), (mc, .inl (cI, 80, .inl (fun i => J ((Cd i : Nat) : Int)))), (mt, .inl (cI, 1600, .inl (fun i => J (Th i)))), (ma, .inl (cI, 40, .inl (fun i => J ((Af i : Nat) : Int)))), (mb, .inl (cI, 40, .inl (fun i => J ((Bf i : Nat) : Int))))]
def MBd (Cd : Nat → Nat) (sz : Nat) (Th : Nat → Int) (Af Bf : Nat → Nat) : Prop := (∀ i, Cd i < 64000) ∧ sz ≤ 80 ∧ (∀ i, -1 ≤ Th i ∧ Th i < 40) ∧ (∀ i, Af i < 40) ∧ (∀ i, Bf i < 40)
def cod (a b c : Nat) : Nat := if a < b ∧ a < c then a * 1600 + b * 40 + c else if b < c then b * 1600 + c * 40 + a else c * 1600 + a * 40 + b
theorem cod_lt {a b c : Nat} (ha : a < 40) (hb : b < 40) (hc : c < 40) : cod a b c < 64000 := by
  unfold cod
  split
  · omega
  · split <;> omega
def ptT (Cd : Nat → Nat) (t w : Nat) : Nat := if w = 0 then Cd t / 1600 else if w = 1 then Cd t / 40 % 40 else Cd t % 40
theorem ptT_lt {Cd : Nat → Nat} (h : ∀ i, Cd i < 64000) (t w : Nat) : ptT Cd t w < 40 := by
  have := h t
  unfold ptT
  split
  · omega
  · split <;> omega
def cdP (Cd : Nat → Nat) (k j : Nat) : Bool := decide (Cd j = k)
def bey (Cd : Nat → Nat) (sz : Nat) (Th : Nat → Int) (t w : Nat) : Int :=
  if Th (ptT Cd t ((w + 2) % 3) * 40 + ptT Cd t ((w + 1) % 3)) < 0 then -1 else oI (-1) (ff (cdP Cd (cod (ptT Cd t ((w + 2) % 3)) (ptT Cd t ((w + 1) % 3)) (Th (ptT Cd t ((w + 2) % 3) * 40 + ptT Cd t ((w + 1) % 3))).toNat)) sz 0)
def triP (Th : Nat → Int) (p q : Nat) : Bool := decide (0 ≤ Th (p * 40 + q))
def sidP (Th : Nat → Int) (a b : Nat) : Bool := decide (0 ≤ Th (a * 40 + b)) || decide (0 ≤ Th (b * 40 + a))
def cov (X Y : Nat → Int) (Cd : Nat → Nat) (t : Nat) (x y : Int) : Bool := decide (0 ≤ lo X Y (ptT Cd t 0) (ptT Cd t 1) x y) && (decide (0 ≤ lo X Y (ptT Cd t 1) (ptT Cd t 2) x y) && decide (0 ≤ lo X Y (ptT Cd t 2) (ptT Cd t 0) x y))
def badS (X Y : Nat → Int) (Th : Nat → Int) (a b : Nat) : Bool := decide (0 ≤ Th (a * 40 + b)) && (decide (0 ≤ Th (b * 40 + a)) && (decide (0 < wi X Y a b (Th (a * 40 + b)).toNat (Th (b * 40 + a)).toNat) || (decide (wi X Y a b (Th (a * 40 + b)).toNat (Th (b * 40 + a)).toNat = 0) && decide (min (Th (a * 40 + b)).toNat (Th (b * 40 + a)).toNat < min a b))))
def mayS (X Y : Nat → Int) (Th : Nat → Int) (a b : Nat) : Bool := decide (0 ≤ Th (a * 40 + b)) && (decide (0 ≤ Th (b * 40 + a)) && (parted X Y a b (Th (a * 40 + b)).toNat (Th (b * 40 + a)).toNat && parted X Y (Th (a * 40 + b)).toNat (Th (b * 40 + a)).toNat a b))
def fbP (X Y : Nat → Int) (Th : Nat → Int) (s : Nat) : Bool := decide (s / 40 < s % 40) && badS X Y Th (s / 40) (s % 40)
def fb (X Y : Nat → Int) (Th : Nat → Int) (i : Nat) : Nat := (ff (fbP X Y Th) 1600 i).getD 1600
theorem fb_le (X Y : Nat → Int) (Th : Nat → Int) (i : Nat) : fb X Y Th i ≤ 1600 := by
  unfold fb
  cases h : ff (fbP X Y Th) 1600 i with
  | none => exact Nat.le_refl _
  | some j => exact Nat.le_of_lt (ff_lt 1600 i (by omega) j h).2.1
theorem cn_ff_none {P : Nat → Bool} {n : Nat} : ∀ (k i : Nat), n ≤ i + k → ff P n i = none → cn P n i = 0 := by
  intro k
  induction k with
  | zero => intro i h _; exact cn_end (by omega)
  | succ k ih =>
    intro i h hf
    rcases Nat.lt_or_ge i n with q | q
    · cases hp : P i with
      | true => rw [ff_hit q hp] at hf; cases hf
      | false => rw [ff_go q hp] at hf; rw [cn_go q hp]; exact ih (i + 1) (by omega) hf
    · exact cn_end q
theorem cn_ff_some {P : Nat → Bool} {n : Nat} : ∀ (k i : Nat), n ≤ i + k → ∀ j, ff P n i = some j → cn P n i = 1 + cn P n (j + 1) := by
  intro k
  induction k with
  | zero => intro i h j hf; rw [ff_end (by omega)] at hf; cases hf
  | succ k ih =>
    intro i h j hf
    rcases Nat.lt_or_ge i n with q | q
    · cases hp : P i with
      | true => rw [ff_hit q hp] at hf; cases hf; exact cn_hit q hp
      | false => rw [ff_go q hp] at hf; rw [cn_go q hp]; exact ih (i + 1) (by omega) j hf
    · rw [ff_end q] at hf; cases hf
theorem fb_out {X Y Th : Nat → Int} {i : Nat} (h : 1600 ≤ fb X Y Th i) : cn (fbP X Y Th) 1600 i = 0 := by
  cases hf : ff (fbP X Y Th) 1600 i with
  | none => exact cn_ff_none 1600 i (by omega) hf
  | some j =>
    have := (ff_lt 1600 i (by omega) j hf).2.1
    unfold fb at h
    rw [hf] at h
    simp only [Option.getD_some] at h
    omega
theorem fb_in {X Y Th : Nat → Int} {i : Nat} (h : fb X Y Th i < 1600) : ff (fbP X Y Th) 1600 i = some (fb X Y Th i) := by
  cases hf : ff (fbP X Y Th) 1600 i with
  | none => unfold fb at h; rw [hf] at h; simp at h
  | some j => unfold fb; rw [hf]; rfl
theorem fbP_at {X Y Th : Nat → Int} {a b : Nat} (h : a < b) (hb : b < 40) : fbP X Y Th (a * 40 + b) = badS X Y Th a b := by
  unfold fbP
  rw [show (a * 40 + b) / 40 = a from by omega, show (a * 40 + b) % 40 = b from by omega, decide_eq_true h, Bool.true_and]
theorem fbP_low {X Y Th : Nat → Int} {a b : Nat} (h : b ≤ a) (ha : a < 40) : fbP X Y Th (a * 40 + b) = false := by
  unfold fbP
  rw [show (a * 40 + b) / 40 = a from by omega, show (a * 40 + b) % 40 = b from by omega, decide_eq_false (by omega), Bool.false_and]
theorem cn_row {X Y Th : Nat → Int} {a : Nat} (ha : a < 40) : ∀ d, d ≤ a + 1 → cn (fbP X Y Th) 1600 (a * 40) = cn (fbP X Y Th) 1600 (a * 40 + d) := by
  intro d
  induction d with
  | zero => intro _; rfl
  | succ d ih => intro h; rw [ih (by omega), cn_go (by omega) (fbP_low (by omega) ha)]; rfl
section MESH1
variable {l : Launch} {D : va_G} {cI cZ : ClassId} {pp ax ay at_ ao mm mc mt ma mb : Nat} {X Y : Nat → Int} {T : Nat → Bool} {O : Nat → Nat} {told pres : Nat} {Cd : Nat → Nat} {sz : Nat} {Th : Nat → Int} {Af Bf : Nat → Nat}
set_option maxRecDepth 20000 in
theorem c_X0_codeOf {a b k : Nat} (ha : a < 40) (hb : b < 40) (hk : k < 40) : cR l yX0_codeOf cX0_codeOf 3 (some .int) 0 0 D (tyz cI cZ) [.int (J ((a : Nat) : Int)), .int (J ((b : Nat) : Int)), .int (J ((k : Nat) : Int))] [] (some (.int (J ((cod a b k : Nat) : Int)))) := by
  refine cR_of (owner := RX0) rfl (by decide) (Nat.le_of_ble_eq_true rfl) ?_
  intro p e s m args below meth c ls C hlk hr hK hP hl
  have hl : lv_has ls 3 [(0, .int (J ((a : Nat) : Int))), (1, .int (J ((b : Nat) : Int))), (2, .int (J ((k : Nat) : Int)))] := hl
  refine lv_iload_n C.1 C.2.1 dX0_codeOf_0 rfl (lv_at hl 0 rfl) ?_
  refine lv_iload_n C.1 C.2.1 dX0_codeOf_1 rfl (lv_at hl 1 rfl) ?_
  refine jv_icmp_ge (tgt := 23) C dX0_codeOf_2 (by decide) (by omega) (fun h1 => ?_) (fun h1 => ?_)
  · refine lv_iload_n C.1 C.2.1 dX0_codeOf_23 rfl (lv_at hl 1 rfl) ?_
    refine lv_iload_n C.1 C.2.1 dX0_codeOf_24 rfl (lv_at hl 2 rfl) ?_
    refine jv_icmp_ge (tgt := 43) C dX0_codeOf_25 (by decide) (by omega) (fun h2 => ?_) (fun h2 => ?_)
    · refine lv_iload_n C.1 C.2.1 dX0_codeOf_43 rfl (lv_at hl 2 rfl) ?_
      refine jv_sipush C dX0_codeOf_44 rfl ?_
      refine jv_imul (z := ((k * 1600 : Nat) : Int)) C dX0_codeOf_47 (by omega) ?_
      refine lv_iload_n C.1 C.2.1 dX0_codeOf_48 rfl (lv_at hl 0 rfl) ?_
      refine jv_bipush C dX0_codeOf_49 rfl ?_
      refine jv_imul (z := ((a * 40 : Nat) : Int)) C dX0_codeOf_51 (by omega) ?_
      refine jv_iadd (z := (((k * 1600) + (a * 40) : Nat) : Int)) C dX0_codeOf_52 (by omega) ?_
      refine lv_iload_n C.1 C.2.1 dX0_codeOf_53 rfl (lv_at hl 1 rfl) ?_
      refine jv_iadd (z := ((((k * 1600) + (a * 40)) + b : Nat) : Int)) C dX0_codeOf_54 (by omega) ?_
      exact jv_iret C hlk hr dX0_codeOf_55 (by unfold cod; first | (rw [if_pos (by omega)]; done) | (rw [if_neg (by omega), if_pos (by omega)]; done) | (rw [if_neg (by omega), if_neg (by omega)]; done))
    · refine lv_iload_n C.1 C.2.1 dX0_codeOf_28 rfl (lv_at hl 1 rfl) ?_
      refine jv_sipush C dX0_codeOf_29 rfl ?_
      refine jv_imul (z := ((b * 1600 : Nat) : Int)) C dX0_codeOf_32 (by omega) ?_
      refine lv_iload_n C.1 C.2.1 dX0_codeOf_33 rfl (lv_at hl 2 rfl) ?_
      refine jv_bipush C dX0_codeOf_34 rfl ?_
      refine jv_imul (z := ((k * 40 : Nat) : Int)) C dX0_codeOf_36 (by omega) ?_
      refine jv_iadd (z := (((b * 1600) + (k * 40) : Nat) : Int)) C dX0_codeOf_37 (by omega) ?_
      refine lv_iload_n C.1 C.2.1 dX0_codeOf_38 rfl (lv_at hl 0 rfl) ?_
      refine jv_iadd (z := ((((b * 1600) + (k * 40)) + a : Nat) : Int)) C dX0_codeOf_39 (by omega) ?_
      refine lv_goto (tgt := 55) C.1 C.2.1 dX0_codeOf_40 (by decide) ?_
      exact jv_iret C hlk hr dX0_codeOf_55 (by unfold cod; first | (rw [if_pos (by omega)]; done) | (rw [if_neg (by omega), if_pos (by omega)]; done) | (rw [if_neg (by omega), if_neg (by omega)]; done))
  · refine lv_iload_n C.1 C.2.1 dX0_codeOf_5 rfl (lv_at hl 0 rfl) ?_
    refine lv_iload_n C.1 C.2.1 dX0_codeOf_6 rfl (lv_at hl 2 rfl) ?_
    refine jv_icmp_ge (tgt := 23) C dX0_codeOf_7 (by decide) (by omega) (fun h3 => ?_) (fun h3 => ?_)
    · refine lv_iload_n C.1 C.2.1 dX0_codeOf_23 rfl (lv_at hl 1 rfl) ?_
      refine lv_iload_n C.1 C.2.1 dX0_codeOf_24 rfl (lv_at hl 2 rfl) ?_
      refine jv_icmp_ge (tgt := 43) C dX0_codeOf_25 (by decide) (by omega) (fun h4 => ?_) (fun h4 => ?_)
      · refine lv_iload_n C.1 C.2.1 dX0_codeOf_43 rfl (lv_at hl 2 rfl) ?_
        refine jv_sipush C dX0_codeOf_44 rfl ?_
        refine jv_imul (z := ((k * 1600 : Nat) : Int)) C dX0_codeOf_47 (by omega) ?_
        refine lv_iload_n C.1 C.2.1 dX0_codeOf_48 rfl (lv_at hl 0 rfl) ?_
        refine jv_bipush C dX0_codeOf_49 rfl ?_
        refine jv_imul (z := ((a * 40 : Nat) : Int)) C dX0_codeOf_51 (by omega) ?_
        refine jv_iadd (z := (((k * 1600) + (a * 40) : Nat) : Int)) C dX0_codeOf_52 (by omega) ?_
        refine lv_iload_n C.1 C.2.1 dX0_codeOf_53 rfl (lv_at hl 1 rfl) ?_
        refine jv_iadd (z := ((((k * 1600) + (a * 40)) + b : Nat) : Int)) C dX0_codeOf_54 (by omega) ?_
        exact jv_iret C hlk hr dX0_codeOf_55 (by unfold cod; first | (rw [if_pos (by omega)]; done) | (rw [if_neg (by omega), if_pos (by omega)]; done) | (rw [if_neg (by omega), if_neg (by omega)]; done))
      · refine lv_iload_n C.1 C.2.1 dX0_codeOf_28 rfl (lv_at hl 1 rfl) ?_
        refine jv_sipush C dX0_codeOf_29 rfl ?_
        refine jv_imul (z := ((b * 1600 : Nat) : Int)) C dX0_codeOf_32 (by omega) ?_
        refine lv_iload_n C.1 C.2.1 dX0_codeOf_33 rfl (lv_at hl 2 rfl) ?_
        refine jv_bipush C dX0_codeOf_34 rfl ?_
        refine jv_imul (z := ((k * 40 : Nat) : Int)) C dX0_codeOf_36 (by omega) ?_
        refine jv_iadd (z := (((b * 1600) + (k * 40) : Nat) : Int)) C dX0_codeOf_37 (by omega) ?_
        refine lv_iload_n C.1 C.2.1 dX0_codeOf_38 rfl (lv_at hl 0 rfl) ?_
        refine jv_iadd (z := ((((b * 1600) + (k * 40)) + a : Nat) : Int)) C dX0_codeOf_39 (by omega) ?_
        refine lv_goto (tgt := 55) C.1 C.2.1 dX0_codeOf_40 (by decide) ?_
        exact jv_iret C hlk hr dX0_codeOf_55 (by unfold cod; first | (rw [if_pos (by omega)]; done) | (rw [if_neg (by omega), if_pos (by omega)]; done) | (rw [if_neg (by omega), if_neg (by omega)]; done))
    · refine lv_iload_n C.1 C.2.1 dX0_codeOf_10 rfl (lv_at hl 0 rfl) ?_
      refine jv_sipush C dX0_codeOf_11 rfl ?_
      refine jv_imul (z := ((a * 1600 : Nat) : Int)) C dX0_codeOf_14 (by omega) ?_
      refine lv_iload_n C.1 C.2.1 dX0_codeOf_15 rfl (lv_at hl 1 rfl) ?_
      refine jv_bipush C dX0_codeOf_16 rfl ?_
      refine jv_imul (z := ((b * 40 : Nat) : Int)) C dX0_codeOf_18 (by omega) ?_
      refine jv_iadd (z := (((a * 1600) + (b * 40) : Nat) : Int)) C dX0_codeOf_19 (by omega) ?_
      refine lv_iload_n C.1 C.2.1 dX0_codeOf_20 rfl (lv_at hl 2 rfl) ?_
      refine jv_iadd (z := ((((a * 1600) + (b * 40)) + k : Nat) : Int)) C dX0_codeOf_21 (by omega) ?_
      exact jv_iret C hlk hr dX0_codeOf_22 (by unfold cod; first | (rw [if_pos (by omega)]; done) | (rw [if_neg (by omega), if_pos (by omega)]; done) | (rw [if_neg (by omega), if_neg (by omega)]; done))
set_option maxRecDepth 20000 in
theorem c_X0_hasTriangle {z : Int} (hM : MBd Cd sz Th Af Bf)  (hz : R3 z) : cR l yX0_hasTriangle cX0_hasTriangle 2 (some .boolean) 0 0 D (tyz cI cZ) [.ref mm, .int (J z)] (wMesh cI mm mc mt ma mb pp Cd sz Th Af Bf) (some (.int (J (b2i (decide (0 ≤ z) && decide (z < sz)))))) := by
  refine cR_of (owner := RX0) rfl (by decide) (Nat.le_of_ble_eq_true rfl) ?_
  intro p e s m args below meth c ls C hlk hr hK hP hl
  have hl : lv_has ls 2 [(0, .ref mm), (1, .int (J z))] := hl
  obtain ⟨hCd, hsz, hTh, hAf, hBf⟩ := hM
  refine lv_iload_n C.1 C.2.1 dX0_hasTriangle_0 rfl (lv_at hl 1 rfl) ?_
  refine jv_if_lt (tgt := 16) C dX0_hasTriangle_1 (by decide) (by omega) (fun h1 => ?_) (fun h1 => ?_)
  · refine jv_iconst C dX0_hasTriangle_16 ?_
    exact jv_zret C hlk hr dX0_hasTriangle_17 (by grind [b2i])
  · refine lv_iload_n C.1 C.2.1 dX0_hasTriangle_4 rfl (lv_at hl 1 rfl) ?_
    refine lv_aload_n C.1 C.2.1 dX0_hasTriangle_5 rfl (lv_at hl 0 rfl) ?_
    refine jv_get C fw_X0_34 hK hP 0 rfl rfl dX0_hasTriangle_6 ?_
    refine jv_icmp_ge (tgt := 16) C dX0_hasTriangle_9 (by decide) (by omega) (fun h2 => ?_) (fun h2 => ?_)
    · refine jv_iconst C dX0_hasTriangle_16 ?_
      exact jv_zret C hlk hr dX0_hasTriangle_17 (by grind [b2i])
    · refine jv_iconst C dX0_hasTriangle_12 ?_
      refine lv_goto (tgt := 17) C.1 C.2.1 dX0_hasTriangle_13 (by decide) ?_
      exact jv_zret C hlk hr dX0_hasTriangle_17 (by grind [b2i])
set_option maxRecDepth 20000 in
theorem c_X0_pointOfTriangle {t w : Nat} (hM : MBd Cd sz Th Af Bf)  (ht : t < 80) (hw : w < 3) : cR l yX0_pointOfTriangle cX0_pointOfTriangle 3 (some .int) 0 0 D (tyz cI cZ) [.ref mm, .int (J ((t : Nat) : Int)), .int (J ((w : Nat) : Int))] (wMesh cI mm mc mt ma mb pp Cd sz Th Af Bf) (some (.int (J ((ptT Cd t w : Nat) : Int)))) := by
  refine cR_of (owner := RX0) rfl (by decide) (Nat.le_of_ble_eq_true rfl) ?_
  intro p e s m args below meth c ls C hlk hr hK hP hl
  have hl : lv_has ls 3 [(0, .ref mm), (1, .int (J ((t : Nat) : Int))), (2, .int (J ((w : Nat) : Int)))] := hl
  obtain ⟨hCd, hsz, hTh, hAf, hBf⟩ := hM
  refine lv_iload_n C.1 C.2.1 dX0_pointOfTriangle_0 rfl (lv_at hl 2 rfl) ?_
  refine jv_if_ne (tgt := 15) C dX0_pointOfTriangle_1 (by decide) (by omega) (fun h1 => ?_) (fun h1 => ?_)
  · refine lv_iload_n C.1 C.2.1 dX0_pointOfTriangle_15 rfl (lv_at hl 2 rfl) ?_
    refine jv_iconst C dX0_pointOfTriangle_16 ?_
    refine jv_icmp_ne (tgt := 35) C dX0_pointOfTriangle_17 (by decide) (by omega) (fun h2 => ?_) (fun h2 => ?_)
    · refine lv_aload_n C.1 C.2.1 dX0_pointOfTriangle_35 rfl (lv_at hl 0 rfl) ?_
      refine jv_get C fw_X0_9 hK hP 0 rfl rfl dX0_pointOfTriangle_36 ?_
      refine lv_iload_n C.1 C.2.1 dX0_pointOfTriangle_39 rfl (lv_at hl 1 rfl) ?_
      refine jv_iald C hK hP 1 0 rfl rfl (t) (by omega) (by omega) (by decide) dX0_pointOfTriangle_40 ?_
      have f3 := hCd t
      refine jv_bipush C dX0_pointOfTriangle_41 rfl ?_
      refine jv_irem (a := Cd t) (b := 40) C dX0_pointOfTriangle_43 (by omega) (by omega) (by omega) ?_
      exact jv_iret C hlk hr dX0_pointOfTriangle_44 (by unfold ptT; first | (rw [if_pos (by omega)]; done) | (rw [if_neg (by omega), if_pos (by omega)]; done) | (rw [if_neg (by omega), if_neg (by omega)]; done))
    · refine lv_aload_n C.1 C.2.1 dX0_pointOfTriangle_20 rfl (lv_at hl 0 rfl) ?_
      refine jv_get C fw_X0_9 hK hP 0 rfl rfl dX0_pointOfTriangle_21 ?_
      refine lv_iload_n C.1 C.2.1 dX0_pointOfTriangle_24 rfl (lv_at hl 1 rfl) ?_
      refine jv_iald C hK hP 1 0 rfl rfl (t) (by omega) (by omega) (by decide) dX0_pointOfTriangle_25 ?_
      have f4 := hCd t
      refine jv_bipush C dX0_pointOfTriangle_26 rfl ?_
      refine jv_idiv (a := Cd t) (b := 40) C dX0_pointOfTriangle_28 (by omega) (by omega) (by omega) ?_
      refine jv_bipush C dX0_pointOfTriangle_29 rfl ?_
      refine jv_irem (a := (Cd t) / 40) (b := 40) C dX0_pointOfTriangle_31 (by omega) (by omega) (by omega) ?_
      refine lv_goto (tgt := 44) C.1 C.2.1 dX0_pointOfTriangle_32 (by decide) ?_
      exact jv_iret C hlk hr dX0_pointOfTriangle_44 (by unfold ptT; first | (rw [if_pos (by omega)]; done) | (rw [if_neg (by omega), if_pos (by omega)]; done) | (rw [if_neg (by omega), if_neg (by omega)]; done))
  · refine lv_aload_n C.1 C.2.1 dX0_pointOfTriangle_4 rfl (lv_at hl 0 rfl) ?_
    refine jv_get C fw_X0_9 hK hP 0 rfl rfl dX0_pointOfTriangle_5 ?_
    refine lv_iload_n C.1 C.2.1 dX0_pointOfTriangle_8 rfl (lv_at hl 1 rfl) ?_
    refine jv_iald C hK hP 1 0 rfl rfl (t) (by omega) (by omega) (by decide) dX0_pointOfTriangle_9 ?_
    have f5 := hCd t
    refine jv_sipush C dX0_pointOfTriangle_10 rfl ?_
    refine jv_idiv (a := Cd t) (b := 1600) C dX0_pointOfTriangle_13 (by omega) (by omega) (by omega) ?_
    exact jv_iret C hlk hr dX0_pointOfTriangle_14 (by unfold ptT; first | (rw [if_pos (by omega)]; done) | (rw [if_neg (by omega), if_pos (by omega)]; done) | (rw [if_neg (by omega), if_neg (by omega)]; done))
set_option maxRecDepth 20000 in
theorem c_X0_thirdOf {a b : Nat} (hM : MBd Cd sz Th Af Bf)  (ha : a < 40) (hb : b < 40) : cR l yX0_thirdOf cX0_thirdOf 3 (some .int) 0 0 D (tyz cI cZ) [.ref mm, .int (J ((a : Nat) : Int)), .int (J ((b : Nat) : Int))] (wMesh cI mm mc mt ma mb pp Cd sz Th Af Bf) (some (.int (J (Th (a * 40 + b))))) := by
  refine cR_of (owner := RX0) rfl (by decide) (Nat.le_of_ble_eq_true rfl) ?_
  intro p e s m args below meth c ls C hlk hr hK hP hl
  have hl : lv_has ls 3 [(0, .ref mm), (1, .int (J ((a : Nat) : Int))), (2, .int (J ((b : Nat) : Int)))] := hl
  obtain ⟨hCd, hsz, hTh, hAf, hBf⟩ := hM
  refine lv_aload_n C.1 C.2.1 dX0_thirdOf_0 rfl (lv_at hl 0 rfl) ?_
  refine jv_get C fw_X0_15 hK hP 0 rfl rfl dX0_thirdOf_1 ?_
  refine lv_iload_n C.1 C.2.1 dX0_thirdOf_4 rfl (lv_at hl 1 rfl) ?_
  refine jv_bipush C dX0_thirdOf_5 rfl ?_
  refine jv_imul (z := ((a * 40 : Nat) : Int)) C dX0_thirdOf_7 (by omega) ?_
  refine lv_iload_n C.1 C.2.1 dX0_thirdOf_8 rfl (lv_at hl 2 rfl) ?_
  refine jv_iadd (z := (((a * 40) + b : Nat) : Int)) C dX0_thirdOf_9 (by omega) ?_
  refine jv_iald C hK hP 2 0 rfl rfl ((a * 40) + b) (by omega) (by omega) (by decide) dX0_thirdOf_10 ?_
  have f1 := hTh ((a * 40) + b)
  exact jv_iret C hlk hr dX0_thirdOf_11 (rfl)
set_option maxRecDepth 20000 in
theorem c_X0_hasSide {a b : Nat} (hM : MBd Cd sz Th Af Bf)  (ha : a < 40) (hb : b < 40) : cR l yX0_hasSide cX0_hasSide 3 (some .boolean) 1 22 D (tyz cI cZ) [.ref mm, .int (J ((a : Nat) : Int)), .int (J ((b : Nat) : Int))] (wMesh cI mm mc mt ma mb pp Cd sz Th Af Bf) (some (.int (J (b2i (sidP Th a b))))) := by
  refine cR_of (owner := RX0) rfl (by decide) (Nat.le_of_ble_eq_true rfl) ?_
  intro p e s m args below meth c ls C hlk hr hK hP hl
  have hl : lv_has ls 3 [(0, .ref mm), (1, .int (J ((a : Nat) : Int))), (2, .int (J ((b : Nat) : Int)))] := hl
  obtain ⟨hCd, hsz, hTh, hAf, hBf⟩ := hM
  refine lv_aload_n C.1 C.2.1 dX0_hasSide_0 rfl (lv_at hl 0 rfl) ?_
  refine lv_iload_n C.1 C.2.1 dX0_hasSide_1 rfl (lv_at hl 1 rfl) ?_
  refine lv_iload_n C.1 C.2.1 dX0_hasSide_2 rfl (lv_at hl 2 rfl) ?_
  refine jv_rdV (ni := 2) (ci := 0) (q0 := 0) C [.int (J ((a : Nat) : Int)), .int (J ((b : Nat) : Int))] [] (c_X0_thirdOf (Cd := Cd) (sz := sz) (Th := Th) (Af := Af) (Bf := Bf) ⟨hCd, hsz, hTh, hAf, hBf⟩  (a := a) (b := b) (by omega) (by omega)) gv_X0_42 (by decide +kernel) (by decide) hK (hP) rfl rfl rfl hl.1 (by simp [Value.category]) dX0_hasSide_3 (by decide) ?_ rfl
  show W _ _ _ _ _ _ _ _ _ _ _ _ _ _ _ (F0 m 6 ls [.int (J (Th (a * 40 + b)))])
  have f1 := hTh (a * 40 + b)
  refine jv_if_ge (tgt := 18) C dX0_hasSide_6 (by decide) (by omega) (fun h2 => ?_) (fun h2 => ?_)
  · refine jv_iconst C dX0_hasSide_18 ?_
    refine lv_goto (tgt := 23) C.1 C.2.1 dX0_hasSide_19 (by decide) ?_
    exact jv_zret C hlk hr dX0_hasSide_23 (by grind [sidP, b2i])
  · refine lv_aload_n C.1 C.2.1 dX0_hasSide_9 rfl (lv_at hl 0 rfl) ?_
    refine lv_iload_n C.1 C.2.1 dX0_hasSide_10 rfl (lv_at hl 2 rfl) ?_
    refine lv_iload_n C.1 C.2.1 dX0_hasSide_11 rfl (lv_at hl 1 rfl) ?_
    refine jv_rdV (ni := 2) (ci := 0) (q0 := 0) C [.int (J ((b : Nat) : Int)), .int (J ((a : Nat) : Int))] [] (c_X0_thirdOf (Cd := Cd) (sz := sz) (Th := Th) (Af := Af) (Bf := Bf) ⟨hCd, hsz, hTh, hAf, hBf⟩  (a := b) (b := a) (by omega) (by omega)) gv_X0_42 (by decide +kernel) (by decide) hK (hP) rfl rfl rfl hl.1 (by simp [Value.category]) dX0_hasSide_12 (by decide) ?_ rfl
    show W _ _ _ _ _ _ _ _ _ _ _ _ _ _ _ (F0 m 15 ls [.int (J (Th (b * 40 + a)))])
    have f3 := hTh (b * 40 + a)
    refine jv_if_lt (tgt := 22) C dX0_hasSide_15 (by decide) (by omega) (fun h4 => ?_) (fun h4 => ?_)
    · refine jv_iconst C dX0_hasSide_22 ?_
      exact jv_zret C hlk hr dX0_hasSide_23 (by grind [sidP, b2i])
    · refine jv_iconst C dX0_hasSide_18 ?_
      refine lv_goto (tgt := 23) C.1 C.2.1 dX0_hasSide_19 (by decide) ?_
      exact jv_zret C hlk hr dX0_hasSide_23 (by grind [sidP, b2i])
set_option maxRecDepth 20000 in
theorem lp_X0_indexOfCode_2 {p : Program} {e : Env} {s : State} {m : MethodId} {args : Array Value} {below : List Frame} {meth : Method} {c : Code} {k : Nat} (C : CallFix p m c cX0_indexOfCode 3 s args TB RX0) (hlk : meth.locks = false) (hr : meth.sig.returnType = (some .int)) (hK : va_K D vwCl (tyz cI cZ) s) (hP : va_P D vwCl (wMesh cI mm mc mt ma mb pp Cd sz Th Af Bf) s.heap) (hM : MBd Cd sz Th Af Bf) (hk : k < 64000) :
    ∀ (n : Nat) (i : Nat), sz < i + n → i ≤ sz → ∀ (rv : Int), rv = oI (-1) (ff (cdP Cd k) sz i) → ∀ ls : Array Slot, lv_has ls 3 [(0, .ref mm), (1, .int (J ((k : Nat) : Int))), (2, .int (J ((i : Nat) : Int)))] → W p l e { frames := 0, cells := 0, slots := 0, locals := 0 } s m args below meth c s.heap [] 0 0 (MQ below (QR (some (.int (J rv)))) args s 0 0 (fun _ => False)) (F0 m 2 ls []) := by
  obtain ⟨hCd, hsz, hTh, hAf, hBf⟩ := hM
  intro n
  induction n with
  | zero => intro i hi0 hi1; omega
  | succ n ih =>
    intro i hi0 hi1 rv hrv ls hl
    refine lv_iload_n C.1 C.2.1 dX0_indexOfCode_2 rfl (lv_at hl 2 rfl) ?_
    refine lv_aload_n C.1 C.2.1 dX0_indexOfCode_3 rfl (lv_at hl 0 rfl) ?_
    refine jv_get C fw_X0_34 hK hP 0 rfl rfl dX0_indexOfCode_4 ?_
    refine jv_icmp_ge (tgt := 28) C dX0_indexOfCode_7 (by decide) (by omega) (fun h1 => ?_) (fun h1 => ?_)
    · refine jv_iconst C dX0_indexOfCode_28 ?_
      exact jv_iret C hlk hr dX0_indexOfCode_29 (by rw [hrv, ff_end (by omega)]; rfl)
    · refine lv_aload_n C.1 C.2.1 dX0_indexOfCode_10 rfl (lv_at hl 0 rfl) ?_
      refine jv_get C fw_X0_9 hK hP 0 rfl rfl dX0_indexOfCode_11 ?_
      refine lv_iload_n C.1 C.2.1 dX0_indexOfCode_14 rfl (lv_at hl 2 rfl) ?_
      refine jv_iald C hK hP 1 0 rfl rfl (i) (by omega) (by omega) (by decide) dX0_indexOfCode_15 ?_
      have f2 := hCd i
      refine lv_iload_n C.1 C.2.1 dX0_indexOfCode_16 rfl (lv_at hl 1 rfl) ?_
      refine jv_icmp_ne (tgt := 22) C dX0_indexOfCode_17 (by decide) (by omega) (fun h3 => ?_) (fun h3 => ?_)
      · refine lv_iinc (v := J (((i + 1 : Nat) : Int))) (lv' := [(2, .int (J ((i + 1 : Nat) : Int))), (0, .ref mm), (1, .int (J ((k : Nat) : Int)))]) C.1 C.2.1 dX0_indexOfCode_22 hl (k := 2) rfl (by rw [show Int32.ofInt 1 = J 1 from rfl, J_add]; exact congrArg J (by omega)) (by decide) rfl (fun ls hl => ?_)
        refine lv_goto (tgt := 2) C.1 C.2.1 dX0_indexOfCode_25 (by decide) ?_
        exact ih (i + 1) (by omega) (by omega) rv (by rw [hrv, ff_go (by omega) (by grind [cdP])]) ls (lv_sub hl [1, 2, 0] rfl)
      · refine lv_iload_n C.1 C.2.1 dX0_indexOfCode_20 rfl (lv_at hl 2 rfl) ?_
        exact jv_iret C hlk hr dX0_indexOfCode_21 (by rw [hrv, ff_hit (by omega) (by grind [cdP])]; rfl)
set_option maxRecDepth 20000 in
theorem c_X0_indexOfCode {k : Nat} (hM : MBd Cd sz Th Af Bf)  (hk : k < 64000) : cR l yX0_indexOfCode cX0_indexOfCode 3 (some .int) 0 0 D (tyz cI cZ) [.ref mm, .int (J ((k : Nat) : Int))] (wMesh cI mm mc mt ma mb pp Cd sz Th Af Bf) (some (.int (J (oI (-1) (ff (cdP Cd k) sz 0))))) := by
  refine cR_of (owner := RX0) rfl (by decide) (Nat.le_of_ble_eq_true rfl) ?_
  intro p e s m args below meth c ls C hlk hr hK hP hl
  have hl : lv_has ls 3 [(0, .ref mm), (1, .int (J ((k : Nat) : Int)))] := hl
  obtain ⟨hCd, hsz, hTh, hAf, hBf⟩ := hM
  refine jv_iconst C dX0_indexOfCode_0 ?_
  refine lv_istore_n (lv' := [(2, .int (J 0)), (0, .ref mm), (1, .int (J ((k : Nat) : Int)))]) C.1 C.2.1 dX0_indexOfCode_1 rfl hl (by decide) rfl (fun ls hl => ?_)
  exact lp_X0_indexOfCode_2 C hlk hr hK hP ⟨hCd, hsz, hTh, hAf, hBf⟩ hk (sz + 1) 0 (by omega) (by omega) _ rfl ls (lv_sub hl [1, 2, 0] rfl)
set_option maxRecDepth 20000 in
theorem lp_X0_trianglesAt_4 {p : Program} {e : Env} {s : State} {m : MethodId} {args : Array Value} {below : List Frame} {meth : Method} {c : Code} {a : Nat} (C : CallFix p m c cX0_trianglesAt 4 s args TB RX0) (hlk : meth.locks = false) (hr : meth.sig.returnType = (some .int)) (hK : va_K D vwCl (tyz cI cZ) s) (hP : va_P D vwCl (wMesh cI mm mc mt ma mb pp Cd sz Th Af Bf) s.heap) (hM : MBd Cd sz Th Af Bf) (ha : a < 40) :
    ∀ (n : Nat) (i k : Nat), 40 < i + n → i ≤ 40 → k ≤ i → ∀ (rv : Nat), rv = k + cn (triP Th a) 40 i → ∀ ls : Array Slot, lv_has ls 4 [(0, .ref mm), (1, .int (J ((a : Nat) : Int))), (2, .int (J ((k : Nat) : Int))), (3, .int (J ((i : Nat) : Int)))] → W p l e { frames := 1, cells := 0, slots := 0, locals := 22 } s m args below meth c s.heap [] 0 0 (MQ below (QR (some (.int (J ((rv : Nat) : Int))))) args s 0 0 (fun _ => False)) (F0 m 4 ls []) := by
  obtain ⟨hCd, hsz, hTh, hAf, hBf⟩ := hM
  intro n
  induction n with
  | zero => intro i k hi0 hi1 hi2; omega
  | succ n ih =>
    intro i k hi0 hi1 hi2 rv hrv ls hl
    refine lv_iload_n C.1 C.2.1 dX0_trianglesAt_4 rfl (lv_at hl 3 rfl) ?_
    refine jv_bipush C dX0_trianglesAt_5 rfl ?_
    refine jv_icmp_ge (tgt := 28) C dX0_trianglesAt_7 (by decide) (by omega) (fun h1 => ?_) (fun h1 => ?_)
    · refine lv_iload_n C.1 C.2.1 dX0_trianglesAt_28 rfl (lv_at hl 2 rfl) ?_
      exact jv_iret C hlk hr dX0_trianglesAt_29 (by rw [hrv, cn_end (by omega)]; rfl)
    · refine lv_aload_n C.1 C.2.1 dX0_trianglesAt_10 rfl (lv_at hl 0 rfl) ?_
      refine lv_iload_n C.1 C.2.1 dX0_trianglesAt_11 rfl (lv_at hl 1 rfl) ?_
      refine lv_iload_n C.1 C.2.1 dX0_trianglesAt_12 rfl (lv_at hl 3 rfl) ?_
      refine jv_rdV (ni := 2) (ci := 0) (q0 := 0) C [.int (J ((a : Nat) : Int)), .int (J ((i : Nat) : Int))] [] (c_X0_thirdOf (Cd := Cd) (sz := sz) (Th := Th) (Af := Af) (Bf := Bf) ⟨hCd, hsz, hTh, hAf, hBf⟩  (a := a) (b := i) (by omega) (by omega)) gv_X0_42 (by decide +kernel) (by decide) hK (hP) rfl rfl rfl hl.1 (by simp [Value.category]) dX0_trianglesAt_13 (by decide) ?_ rfl
      show W _ _ _ _ _ _ _ _ _ _ _ _ _ _ _ (F0 m 16 ls [.int (J (Th (a * 40 + i)))])
      have f2 := hTh (a * 40 + i)
      refine jv_if_lt (tgt := 22) C dX0_trianglesAt_16 (by decide) (by omega) (fun h3 => ?_) (fun h3 => ?_)
      · refine lv_iinc (v := J (((i + 1 : Nat) : Int))) (lv' := [(3, .int (J ((i + 1 : Nat) : Int))), (0, .ref mm), (1, .int (J ((a : Nat) : Int))), (2, .int (J ((k : Nat) : Int)))]) C.1 C.2.1 dX0_trianglesAt_22 hl (k := 3) rfl (by rw [show Int32.ofInt 1 = J 1 from rfl, J_add]; exact congrArg J (by omega)) (by decide) rfl (fun ls hl => ?_)
        refine lv_goto (tgt := 4) C.1 C.2.1 dX0_trianglesAt_25 (by decide) ?_
        exact ih (i + 1) (k) (by omega) (by omega) (by omega) rv (by rw [hrv, cn_go (by omega) (by grind [triP])]) ls (lv_sub hl [1, 2, 3, 0] rfl)
      · refine lv_iinc (v := J (((k + 1 : Nat) : Int))) (lv' := [(2, .int (J ((k + 1 : Nat) : Int))), (0, .ref mm), (1, .int (J ((a : Nat) : Int))), (3, .int (J ((i : Nat) : Int)))]) C.1 C.2.1 dX0_trianglesAt_19 hl (k := 2) rfl (by rw [show Int32.ofInt 1 = J 1 from rfl, J_add]; exact congrArg J (by omega)) (by decide) rfl (fun ls hl => ?_)
        refine lv_iinc (v := J (((i + 1 : Nat) : Int))) (lv' := [(3, .int (J ((i + 1 : Nat) : Int))), (2, .int (J ((k + 1 : Nat) : Int))), (0, .ref mm), (1, .int (J ((a : Nat) : Int)))]) C.1 C.2.1 dX0_trianglesAt_22 hl (k := 3) rfl (by rw [show Int32.ofInt 1 = J 1 from rfl, J_add]; exact congrArg J (by omega)) (by decide) rfl (fun ls hl => ?_)
        refine lv_goto (tgt := 4) C.1 C.2.1 dX0_trianglesAt_25 (by decide) ?_
        exact ih (i + 1) (k + 1) (by omega) (by omega) (by omega) rv (by rw [hrv, cn_hit (by omega) (by grind [triP])]; omega) ls (lv_sub hl [2, 3, 1, 0] rfl)
set_option maxRecDepth 20000 in
theorem c_X0_trianglesAt {a : Nat} (hM : MBd Cd sz Th Af Bf)  (ha : a < 40) : cR l yX0_trianglesAt cX0_trianglesAt 4 (some .int) 1 22 D (tyz cI cZ) [.ref mm, .int (J ((a : Nat) : Int))] (wMesh cI mm mc mt ma mb pp Cd sz Th Af Bf) (some (.int (J ((cn (triP Th a) 40 0 : Nat) : Int)))) := by
  refine cR_of (owner := RX0) rfl (by decide) (Nat.le_of_ble_eq_true rfl) ?_
  intro p e s m args below meth c ls C hlk hr hK hP hl
  have hl : lv_has ls 4 [(0, .ref mm), (1, .int (J ((a : Nat) : Int)))] := hl
  obtain ⟨hCd, hsz, hTh, hAf, hBf⟩ := hM
  refine jv_iconst C dX0_trianglesAt_0 ?_
  refine lv_istore_n (lv' := [(2, .int (J 0)), (0, .ref mm), (1, .int (J ((a : Nat) : Int)))]) C.1 C.2.1 dX0_trianglesAt_1 rfl hl (by decide) rfl (fun ls hl => ?_)
  refine jv_iconst C dX0_trianglesAt_2 ?_
  refine lv_istore_n (lv' := [(3, .int (J 0)), (2, .int (J 0)), (0, .ref mm), (1, .int (J ((a : Nat) : Int)))]) C.1 C.2.1 dX0_trianglesAt_3 rfl hl (by decide) rfl (fun ls hl => ?_)
  exact lp_X0_trianglesAt_4 C hlk hr hK hP ⟨hCd, hsz, hTh, hAf, hBf⟩ ha 41 0 0 (by omega) (by omega) (by omega) _ (by omega) ls (lv_sub hl [2, 3, 1, 0] rfl)
set_option maxRecDepth 20000 in
theorem c_X0_triangleBeyond {t w : Nat} (hM : MBd Cd sz Th Af Bf)  (ht : t < 80) (hw : w < 3) : cR l yX0_triangleBeyond cX0_triangleBeyond 6 (some .int) 1 22 D (tyz cI cZ) [.ref mm, .int (J ((t : Nat) : Int)), .int (J ((w : Nat) : Int))] (wMesh cI mm mc mt ma mb pp Cd sz Th Af Bf) (some (.int (J (bey Cd sz Th t w)))) := by
  refine cR_of (owner := RX0) rfl (by decide) (Nat.le_of_ble_eq_true rfl) ?_
  intro p e s m args below meth c ls C hlk hr hK hP hl
  have hl : lv_has ls 6 [(0, .ref mm), (1, .int (J ((t : Nat) : Int))), (2, .int (J ((w : Nat) : Int)))] := hl
  obtain ⟨hCd, hsz, hTh, hAf, hBf⟩ := hM
  refine lv_aload_n C.1 C.2.1 dX0_triangleBeyond_0 rfl (lv_at hl 0 rfl) ?_
  refine lv_iload_n C.1 C.2.1 dX0_triangleBeyond_1 rfl (lv_at hl 1 rfl) ?_
  refine lv_iload_n C.1 C.2.1 dX0_triangleBeyond_2 rfl (lv_at hl 2 rfl) ?_
  refine jv_iconst C dX0_triangleBeyond_3 ?_
  refine jv_iadd (z := ((w + 1 : Nat) : Int)) C dX0_triangleBeyond_4 (by omega) ?_
  refine jv_iconst C dX0_triangleBeyond_5 ?_
  refine jv_irem (a := w + 1) (b := 3) C dX0_triangleBeyond_6 (by omega) (by omega) (by omega) ?_
  refine jv_rdV (ni := 2) (ci := 0) (q0 := 0) C [.int (J ((t : Nat) : Int)), .int (J (((w + 1) % 3 : Nat) : Int))] [] (c_X0_pointOfTriangle (Cd := Cd) (sz := sz) (Th := Th) (Af := Af) (Bf := Bf) ⟨hCd, hsz, hTh, hAf, hBf⟩  (t := t) (w := (w + 1) % 3) (by omega) (by omega)) gv_X0_38 (by decide +kernel) (by decide) hK (hP) rfl rfl rfl hl.1 (by simp [Value.category]) dX0_triangleBeyond_7 (by decide) ?_ rfl
  show W _ _ _ _ _ _ _ _ _ _ _ _ _ _ _ (F0 m 10 ls [.int (J ((ptT Cd t ((w + 1) % 3) : Nat) : Int))])
  have f1 := ptT_lt hCd t ((w + 1) % 3)
  refine lv_istore_n (lv' := [(3, .int (J ((ptT Cd t ((w + 1) % 3) : Nat) : Int))), (0, .ref mm), (1, .int (J ((t : Nat) : Int))), (2, .int (J ((w : Nat) : Int)))]) C.1 C.2.1 dX0_triangleBeyond_10 rfl hl (by decide) rfl (fun ls hl => ?_)
  refine lv_aload_n C.1 C.2.1 dX0_triangleBeyond_11 rfl (lv_at hl 1 rfl) ?_
  refine lv_iload_n C.1 C.2.1 dX0_triangleBeyond_12 rfl (lv_at hl 2 rfl) ?_
  refine lv_iload_n C.1 C.2.1 dX0_triangleBeyond_13 rfl (lv_at hl 3 rfl) ?_
  refine jv_iconst C dX0_triangleBeyond_14 ?_
  refine jv_iadd (z := ((w + 2 : Nat) : Int)) C dX0_triangleBeyond_15 (by omega) ?_
  refine jv_iconst C dX0_triangleBeyond_16 ?_
  refine jv_irem (a := w + 2) (b := 3) C dX0_triangleBeyond_17 (by omega) (by omega) (by omega) ?_
  refine jv_rdV (ni := 2) (ci := 0) (q0 := 0) C [.int (J ((t : Nat) : Int)), .int (J (((w + 2) % 3 : Nat) : Int))] [] (c_X0_pointOfTriangle (Cd := Cd) (sz := sz) (Th := Th) (Af := Af) (Bf := Bf) ⟨hCd, hsz, hTh, hAf, hBf⟩  (t := t) (w := (w + 2) % 3) (by omega) (by omega)) gv_X0_38 (by decide +kernel) (by decide) hK (hP) rfl rfl rfl hl.1 (by simp [Value.category]) dX0_triangleBeyond_18 (by decide) ?_ rfl
  show W _ _ _ _ _ _ _ _ _ _ _ _ _ _ _ (F0 m 21 ls [.int (J ((ptT Cd t ((w + 2) % 3) : Nat) : Int))])
  have f2 := ptT_lt hCd t ((w + 2) % 3)
  refine lv_istore (lv' := [(4, .int (J ((ptT Cd t ((w + 2) % 3) : Nat) : Int))), (3, .int (J ((ptT Cd t ((w + 1) % 3) : Nat) : Int))), (0, .ref mm), (1, .int (J ((t : Nat) : Int))), (2, .int (J ((w : Nat) : Int)))]) C.1 C.2.1 dX0_triangleBeyond_21 hl (by decide) rfl (fun ls hl => ?_)
  refine lv_aload_n C.1 C.2.1 dX0_triangleBeyond_23 rfl (lv_at hl 2 rfl) ?_
  refine lv_iload C.1 C.2.1 dX0_triangleBeyond_24 (lv_at hl 0 rfl) ?_
  refine lv_iload_n C.1 C.2.1 dX0_triangleBeyond_26 rfl (lv_at hl 1 rfl) ?_
  refine jv_rdV (ni := 2) (ci := 0) (q0 := 0) C [.int (J ((ptT Cd t ((w + 2) % 3) : Nat) : Int)), .int (J ((ptT Cd t ((w + 1) % 3) : Nat) : Int))] [] (c_X0_thirdOf (Cd := Cd) (sz := sz) (Th := Th) (Af := Af) (Bf := Bf) ⟨hCd, hsz, hTh, hAf, hBf⟩  (a := ptT Cd t ((w + 2) % 3)) (b := ptT Cd t ((w + 1) % 3)) (by omega) (by omega)) gv_X0_42 (by decide +kernel) (by decide) hK (hP) rfl rfl rfl hl.1 (by simp [Value.category]) dX0_triangleBeyond_27 (by decide) ?_ rfl
  show W _ _ _ _ _ _ _ _ _ _ _ _ _ _ _ (F0 m 30 ls [.int (J (Th ((ptT Cd t ((w + 2) % 3)) * 40 + (ptT Cd t ((w + 1) % 3)))))])
  have f3 := hTh ((ptT Cd t ((w + 2) % 3)) * 40 + (ptT Cd t ((w + 1) % 3)))
  refine lv_istore (lv' := [(5, .int (J (Th ((ptT Cd t ((w + 2) % 3)) * 40 + (ptT Cd t ((w + 1) % 3)))))), (4, .int (J ((ptT Cd t ((w + 2) % 3) : Nat) : Int))), (3, .int (J ((ptT Cd t ((w + 1) % 3) : Nat) : Int))), (0, .ref mm), (1, .int (J ((t : Nat) : Int))), (2, .int (J ((w : Nat) : Int)))]) C.1 C.2.1 dX0_triangleBeyond_30 hl (by decide) rfl (fun ls hl => ?_)
  refine lv_iload C.1 C.2.1 dX0_triangleBeyond_32 (lv_at hl 0 rfl) ?_
  refine jv_if_ge (tgt := 41) C dX0_triangleBeyond_34 (by decide) (by omega) (fun h4 => ?_) (fun h4 => ?_)
  · obtain ⟨q, hq⟩ : ∃ k : Nat, Th ((ptT Cd t ((w + 2) % 3)) * 40 + (ptT Cd t ((w + 1) % 3))) = (k : Int) := ⟨(Th ((ptT Cd t ((w + 2) % 3)) * 40 + (ptT Cd t ((w + 1) % 3)))).toNat, by omega⟩
    rw [hq] at hl
    refine lv_aload_n C.1 C.2.1 dX0_triangleBeyond_41 rfl (lv_at hl 3 rfl) ?_
    refine lv_iload C.1 C.2.1 dX0_triangleBeyond_42 (lv_at hl 1 rfl) ?_
    refine lv_iload_n C.1 C.2.1 dX0_triangleBeyond_44 rfl (lv_at hl 2 rfl) ?_
    refine lv_iload C.1 C.2.1 dX0_triangleBeyond_45 (lv_at hl 0 rfl) ?_
    refine jv_rdS (ni := 3) C [.int (J ((ptT Cd t ((w + 2) % 3) : Nat) : Int)), .int (J ((ptT Cd t ((w + 1) % 3) : Nat) : Int)), .int (J ((q : Nat) : Int))] [.ref mm] (c_X0_codeOf (a := ptT Cd t ((w + 2) % 3)) (b := ptT Cd t ((w + 1) % 3)) (k := q) (by omega) (by omega) (by omega)) gs_X0_45 (by decide +kernel) (by decide) hK (hP.sub (ws' := []) [] rfl) rfl hl.1 (by simp [Value.category]) dX0_triangleBeyond_47 (by decide) ?_ rfl
    show W _ _ _ _ _ _ _ _ _ _ _ _ _ _ _ (F0 m 50 ls [.int (J ((cod (ptT Cd t ((w + 2) % 3)) (ptT Cd t ((w + 1) % 3)) q : Nat) : Int)), .ref mm])
    have f5 := cod_lt (a := ptT Cd t ((w + 2) % 3)) (b := ptT Cd t ((w + 1) % 3)) (c := q) (by omega) (by omega) (by omega)
    refine jv_rdV (ni := 1) (ci := 0) (q0 := 0) C [.int (J ((cod (ptT Cd t ((w + 2) % 3)) (ptT Cd t ((w + 1) % 3)) q : Nat) : Int))] [] (c_X0_indexOfCode (Cd := Cd) (sz := sz) (Th := Th) (Af := Af) (Bf := Bf) ⟨hCd, hsz, hTh, hAf, hBf⟩  (k := cod (ptT Cd t ((w + 2) % 3)) (ptT Cd t ((w + 1) % 3)) q) (by omega)) gv_X0_49 (by decide +kernel) (by decide) hK (hP) rfl rfl rfl hl.1 (by simp [Value.category]) dX0_triangleBeyond_50 (by decide) ?_ rfl
    show W _ _ _ _ _ _ _ _ _ _ _ _ _ _ _ (F0 m 53 ls [.int (J (oI (-1) (ff (cdP Cd (cod (ptT Cd t ((w + 2) % 3)) (ptT Cd t ((w + 1) % 3)) q)) sz 0)))])
    exact jv_iret C hlk hr dX0_triangleBeyond_53 (by unfold bey; rw [if_neg (by omega), hq, Int.toNat_natCast])
  · refine jv_iconst C dX0_triangleBeyond_37 ?_
    refine lv_goto (tgt := 53) C.1 C.2.1 dX0_triangleBeyond_38 (by decide) ?_
    exact jv_iret C hlk hr dX0_triangleBeyond_53 (by unfold bey; rw [if_pos (by omega)])
set_option maxRecDepth 20000 in
theorem c_X0_covers {t : Nat} {x y : Int} (hM : MBd Cd sz Th Af Bf) (hB : PB X Y O told pres) (ht : t < 80) (hx : -10000 ≤ x ∧ x ≤ 10000) (hy : -10000 ≤ y ∧ y ≤ 10000) : cR l yX0_covers cX0_covers 7 (some .boolean) 1 24 D (tyz cI cZ) [.ref mm, .int (J ((t : Nat) : Int)), .int (J x), .int (J y)] ((wMesh cI mm mc mt ma mb pp Cd sz Th Af Bf) ++ (wPts cI cZ pp ax ay at_ ao X Y T O told pres)) (some (.int (J (b2i (cov X Y Cd t x y))))) := by
  refine cR_of (owner := RX0) rfl (by decide) (Nat.le_of_ble_eq_true rfl) ?_
  intro p e s m args below meth c ls C hlk hr hK hP hl
  have hl : lv_has ls 7 [(0, .ref mm), (1, .int (J ((t : Nat) : Int))), (2, .int (J x)), (3, .int (J y))] := hl
  obtain ⟨hCd, hsz, hTh, hAf, hBf⟩ := hM
  obtain ⟨hX, hY, hO, htd, hps⟩ := hB
  refine lv_aload_n C.1 C.2.1 dX0_covers_0 rfl (lv_at hl 0 rfl) ?_
  refine lv_iload_n C.1 C.2.1 dX0_covers_1 rfl (lv_at hl 1 rfl) ?_
  refine jv_iconst C dX0_covers_2 ?_
  refine jv_rdV (ni := 2) (ci := 0) (q0 := 0) C [.int (J ((t : Nat) : Int)), .int (J 0)] [] (c_X0_pointOfTriangle (Cd := Cd) (sz := sz) (Th := Th) (Af := Af) (Bf := Bf) ⟨hCd, hsz, hTh, hAf, hBf⟩  (t := t) (w := 0) (by omega) (by omega)) gv_X0_38 (by decide +kernel) (by decide) hK (hP.sub (ws' := [(mm, .inr (0, [.ref pp, .ref mc, .int (J ((sz : Nat) : Int)), .ref mt, .ref ma, .ref mb])), (mc, .inl (cI, 80, .inl (fun z9 => J ((Cd z9 : Nat) : Int)))), (mt, .inl (cI, 1600, .inl (fun z9 => J (Th z9)))), (ma, .inl (cI, 40, .inl (fun z9 => J ((Af z9 : Nat) : Int)))), (mb, .inl (cI, 40, .inl (fun z9 => J ((Bf z9 : Nat) : Int))))]) [0, 1, 2, 3, 4] rfl) rfl rfl rfl hl.1 (by simp [Value.category]) dX0_covers_3 (by decide) ?_ rfl
  show W _ _ _ _ _ _ _ _ _ _ _ _ _ _ _ (F0 m 6 ls [.int (J ((ptT Cd t 0 : Nat) : Int))])
  have f1 := ptT_lt hCd t 0
  refine lv_istore (lv' := [(4, .int (J ((ptT Cd t 0 : Nat) : Int))), (0, .ref mm), (1, .int (J ((t : Nat) : Int))), (2, .int (J x)), (3, .int (J y))]) C.1 C.2.1 dX0_covers_6 hl (by decide) rfl (fun ls hl => ?_)
  refine lv_aload_n C.1 C.2.1 dX0_covers_8 rfl (lv_at hl 1 rfl) ?_
  refine lv_iload_n C.1 C.2.1 dX0_covers_9 rfl (lv_at hl 2 rfl) ?_
  refine jv_iconst C dX0_covers_10 ?_
  refine jv_rdV (ni := 2) (ci := 0) (q0 := 0) C [.int (J ((t : Nat) : Int)), .int (J 1)] [] (c_X0_pointOfTriangle (Cd := Cd) (sz := sz) (Th := Th) (Af := Af) (Bf := Bf) ⟨hCd, hsz, hTh, hAf, hBf⟩  (t := t) (w := 1) (by omega) (by omega)) gv_X0_38 (by decide +kernel) (by decide) hK (hP.sub (ws' := [(mm, .inr (0, [.ref pp, .ref mc, .int (J ((sz : Nat) : Int)), .ref mt, .ref ma, .ref mb])), (mc, .inl (cI, 80, .inl (fun z9 => J ((Cd z9 : Nat) : Int)))), (mt, .inl (cI, 1600, .inl (fun z9 => J (Th z9)))), (ma, .inl (cI, 40, .inl (fun z9 => J ((Af z9 : Nat) : Int)))), (mb, .inl (cI, 40, .inl (fun z9 => J ((Bf z9 : Nat) : Int))))]) [0, 1, 2, 3, 4] rfl) rfl rfl rfl hl.1 (by simp [Value.category]) dX0_covers_11 (by decide) ?_ rfl
  show W _ _ _ _ _ _ _ _ _ _ _ _ _ _ _ (F0 m 14 ls [.int (J ((ptT Cd t 1 : Nat) : Int))])
  have f2 := ptT_lt hCd t 1
  refine lv_istore (lv' := [(5, .int (J ((ptT Cd t 1 : Nat) : Int))), (4, .int (J ((ptT Cd t 0 : Nat) : Int))), (0, .ref mm), (1, .int (J ((t : Nat) : Int))), (2, .int (J x)), (3, .int (J y))]) C.1 C.2.1 dX0_covers_14 hl (by decide) rfl (fun ls hl => ?_)
  refine lv_aload_n C.1 C.2.1 dX0_covers_16 rfl (lv_at hl 2 rfl) ?_
  refine lv_iload_n C.1 C.2.1 dX0_covers_17 rfl (lv_at hl 3 rfl) ?_
  refine jv_iconst C dX0_covers_18 ?_
  refine jv_rdV (ni := 2) (ci := 0) (q0 := 0) C [.int (J ((t : Nat) : Int)), .int (J 2)] [] (c_X0_pointOfTriangle (Cd := Cd) (sz := sz) (Th := Th) (Af := Af) (Bf := Bf) ⟨hCd, hsz, hTh, hAf, hBf⟩  (t := t) (w := 2) (by omega) (by omega)) gv_X0_38 (by decide +kernel) (by decide) hK (hP.sub (ws' := [(mm, .inr (0, [.ref pp, .ref mc, .int (J ((sz : Nat) : Int)), .ref mt, .ref ma, .ref mb])), (mc, .inl (cI, 80, .inl (fun z9 => J ((Cd z9 : Nat) : Int)))), (mt, .inl (cI, 1600, .inl (fun z9 => J (Th z9)))), (ma, .inl (cI, 40, .inl (fun z9 => J ((Af z9 : Nat) : Int)))), (mb, .inl (cI, 40, .inl (fun z9 => J ((Bf z9 : Nat) : Int))))]) [0, 1, 2, 3, 4] rfl) rfl rfl rfl hl.1 (by simp [Value.category]) dX0_covers_19 (by decide) ?_ rfl
  show W _ _ _ _ _ _ _ _ _ _ _ _ _ _ _ (F0 m 22 ls [.int (J ((ptT Cd t 2 : Nat) : Int))])
  have f3 := ptT_lt hCd t 2
  refine lv_istore (lv' := [(6, .int (J ((ptT Cd t 2 : Nat) : Int))), (5, .int (J ((ptT Cd t 1 : Nat) : Int))), (4, .int (J ((ptT Cd t 0 : Nat) : Int))), (0, .ref mm), (1, .int (J ((t : Nat) : Int))), (2, .int (J x)), (3, .int (J y))]) C.1 C.2.1 dX0_covers_22 hl (by decide) rfl (fun ls hl => ?_)
  refine lv_aload_n C.1 C.2.1 dX0_covers_24 rfl (lv_at hl 3 rfl) ?_
  refine jv_get C fw_X0_24 hK hP 0 rfl rfl dX0_covers_25 ?_
  refine lv_iload C.1 C.2.1 dX0_covers_28 (lv_at hl 2 rfl) ?_
  refine lv_iload C.1 C.2.1 dX0_covers_30 (lv_at hl 1 rfl) ?_
  refine lv_iload_n C.1 C.2.1 dX0_covers_32 rfl (lv_at hl 5 rfl) ?_
  refine lv_iload_n C.1 C.2.1 dX0_covers_33 rfl (lv_at hl 6 rfl) ?_
  refine jv_rdV (ni := 4) (ci := 2) (q0 := 0) C [.int (J ((ptT Cd t 0 : Nat) : Int)), .int (J ((ptT Cd t 1 : Nat) : Int)), .int (J x), .int (J y)] [] (c_X2_leftnessOf (X := X) (Y := Y) (T := T) (O := O) (told := told) (pres := pres) (a := ptT Cd t 0) (b := ptT Cd t 1) (x := x) (y := y) ⟨hX, hY, hO, by omega, by omega⟩ (by omega) (by omega) (by omega) (by omega)) gv_X0_53 (by decide +kernel) (by decide) hK (hP.sub (ws' := [(pp, .inr (2, [.ref ax, .ref ay, .ref at_, .ref ao, .int (J ((told : Nat) : Int)), .int (J ((pres : Nat) : Int))])), (ax, .inl (cI, 40, .inl (fun z9 => J (X z9)))), (ay, .inl (cI, 40, .inl (fun z9 => J (Y z9)))), (at_, .inl (cZ, 40, .inl (fun z9 => J (b2i (T z9))))), (ao, .inl (cI, 40, .inl (fun z9 => J ((O z9 : Nat) : Int))))]) [5, 6, 7, 8, 9] rfl) rfl rfl rfl hl.1 (by simp [Value.category]) dX0_covers_34 (by decide) ?_ rfl
  show W _ _ _ _ _ _ _ _ _ _ _ _ _ _ _ (F0 m 37 ls [.long (Lg (lo X Y (ptT Cd t 0) (ptT Cd t 1) x y))])
  have f4 := lo_bd hX hY (ptT Cd t 0) (ptT Cd t 1) (x := x) (y := y) (by omega) (by omega)
  refine jv_lconst (z := 0) C dX0_covers_37 rfl ?_
  refine jv_lcmp_lt (tgt := 82) C dX0_covers_38 dX0_covers_39 (by decide) (by omega) (fun h5 => ?_) (fun h5 => ?_)
  · refine jv_iconst C dX0_covers_82 ?_
    exact jv_zret C hlk hr dX0_covers_83 (by grind [cov, b2i])
  · refine lv_aload_n C.1 C.2.1 dX0_covers_42 rfl (lv_at hl 3 rfl) ?_
    refine jv_get C fw_X0_24 hK hP 0 rfl rfl dX0_covers_43 ?_
    refine lv_iload C.1 C.2.1 dX0_covers_46 (lv_at hl 1 rfl) ?_
    refine lv_iload C.1 C.2.1 dX0_covers_48 (lv_at hl 0 rfl) ?_
    refine lv_iload_n C.1 C.2.1 dX0_covers_50 rfl (lv_at hl 5 rfl) ?_
    refine lv_iload_n C.1 C.2.1 dX0_covers_51 rfl (lv_at hl 6 rfl) ?_
    refine jv_rdV (ni := 4) (ci := 2) (q0 := 0) C [.int (J ((ptT Cd t 1 : Nat) : Int)), .int (J ((ptT Cd t 2 : Nat) : Int)), .int (J x), .int (J y)] [] (c_X2_leftnessOf (X := X) (Y := Y) (T := T) (O := O) (told := told) (pres := pres) (a := ptT Cd t 1) (b := ptT Cd t 2) (x := x) (y := y) ⟨hX, hY, hO, by omega, by omega⟩ (by omega) (by omega) (by omega) (by omega)) gv_X0_53 (by decide +kernel) (by decide) hK (hP.sub (ws' := [(pp, .inr (2, [.ref ax, .ref ay, .ref at_, .ref ao, .int (J ((told : Nat) : Int)), .int (J ((pres : Nat) : Int))])), (ax, .inl (cI, 40, .inl (fun z9 => J (X z9)))), (ay, .inl (cI, 40, .inl (fun z9 => J (Y z9)))), (at_, .inl (cZ, 40, .inl (fun z9 => J (b2i (T z9))))), (ao, .inl (cI, 40, .inl (fun z9 => J ((O z9 : Nat) : Int))))]) [5, 6, 7, 8, 9] rfl) rfl rfl rfl hl.1 (by simp [Value.category]) dX0_covers_52 (by decide) ?_ rfl
    show W _ _ _ _ _ _ _ _ _ _ _ _ _ _ _ (F0 m 55 ls [.long (Lg (lo X Y (ptT Cd t 1) (ptT Cd t 2) x y))])
    have f6 := lo_bd hX hY (ptT Cd t 1) (ptT Cd t 2) (x := x) (y := y) (by omega) (by omega)
    refine jv_lconst (z := 0) C dX0_covers_55 rfl ?_
    refine jv_lcmp_lt (tgt := 82) C dX0_covers_56 dX0_covers_57 (by decide) (by omega) (fun h7 => ?_) (fun h7 => ?_)
    · refine jv_iconst C dX0_covers_82 ?_
      exact jv_zret C hlk hr dX0_covers_83 (by grind [cov, b2i])
    · refine lv_aload_n C.1 C.2.1 dX0_covers_60 rfl (lv_at hl 3 rfl) ?_
      refine jv_get C fw_X0_24 hK hP 0 rfl rfl dX0_covers_61 ?_
      refine lv_iload C.1 C.2.1 dX0_covers_64 (lv_at hl 0 rfl) ?_
      refine lv_iload C.1 C.2.1 dX0_covers_66 (lv_at hl 2 rfl) ?_
      refine lv_iload_n C.1 C.2.1 dX0_covers_68 rfl (lv_at hl 5 rfl) ?_
      refine lv_iload_n C.1 C.2.1 dX0_covers_69 rfl (lv_at hl 6 rfl) ?_
      refine jv_rdV (ni := 4) (ci := 2) (q0 := 0) C [.int (J ((ptT Cd t 2 : Nat) : Int)), .int (J ((ptT Cd t 0 : Nat) : Int)), .int (J x), .int (J y)] [] (c_X2_leftnessOf (X := X) (Y := Y) (T := T) (O := O) (told := told) (pres := pres) (a := ptT Cd t 2) (b := ptT Cd t 0) (x := x) (y := y) ⟨hX, hY, hO, by omega, by omega⟩ (by omega) (by omega) (by omega) (by omega)) gv_X0_53 (by decide +kernel) (by decide) hK (hP.sub (ws' := [(pp, .inr (2, [.ref ax, .ref ay, .ref at_, .ref ao, .int (J ((told : Nat) : Int)), .int (J ((pres : Nat) : Int))])), (ax, .inl (cI, 40, .inl (fun z9 => J (X z9)))), (ay, .inl (cI, 40, .inl (fun z9 => J (Y z9)))), (at_, .inl (cZ, 40, .inl (fun z9 => J (b2i (T z9))))), (ao, .inl (cI, 40, .inl (fun z9 => J ((O z9 : Nat) : Int))))]) [5, 6, 7, 8, 9] rfl) rfl rfl rfl hl.1 (by simp [Value.category]) dX0_covers_70 (by decide) ?_ rfl
      show W _ _ _ _ _ _ _ _ _ _ _ _ _ _ _ (F0 m 73 ls [.long (Lg (lo X Y (ptT Cd t 2) (ptT Cd t 0) x y))])
      have f8 := lo_bd hX hY (ptT Cd t 2) (ptT Cd t 0) (x := x) (y := y) (by omega) (by omega)
      refine jv_lconst (z := 0) C dX0_covers_73 rfl ?_
      refine jv_lcmp_lt (tgt := 82) C dX0_covers_74 dX0_covers_75 (by decide) (by omega) (fun h9 => ?_) (fun h9 => ?_)
      · refine jv_iconst C dX0_covers_82 ?_
        exact jv_zret C hlk hr dX0_covers_83 (by grind [cov, b2i])
      · refine jv_iconst C dX0_covers_78 ?_
        refine lv_goto (tgt := 83) C.1 C.2.1 dX0_covers_79 (by decide) ?_
        exact jv_zret C hlk hr dX0_covers_83 (by grind [cov, b2i])
set_option maxRecDepth 20000 in
theorem c_X0_isBadSide {a b : Nat} (hM : MBd Cd sz Th Af Bf) (hB : PB X Y O told pres) (ha : a < 40) (hb : b < 40) : cR l yX0_isBadSide cX0_isBadSide 7 (some .boolean) 2 55 D (tyz cI cZ) [.ref mm, .int (J ((a : Nat) : Int)), .int (J ((b : Nat) : Int))] ((wMesh cI mm mc mt ma mb pp Cd sz Th Af Bf) ++ (wPts cI cZ pp ax ay at_ ao X Y T O told pres)) (some (.int (J (b2i (badS X Y Th a b))))) := by
  refine cR_of (owner := RX0) rfl (by decide) (Nat.le_of_ble_eq_true rfl) ?_
  intro p e s m args below meth c ls C hlk hr hK hP hl
  have hl : lv_has ls 7 [(0, .ref mm), (1, .int (J ((a : Nat) : Int))), (2, .int (J ((b : Nat) : Int)))] := hl
  obtain ⟨hCd, hsz, hTh, hAf, hBf⟩ := hM
  obtain ⟨hX, hY, hO, htd, hps⟩ := hB
  refine lv_aload_n C.1 C.2.1 dX0_isBadSide_0 rfl (lv_at hl 0 rfl) ?_
  refine lv_iload_n C.1 C.2.1 dX0_isBadSide_1 rfl (lv_at hl 1 rfl) ?_
  refine lv_iload_n C.1 C.2.1 dX0_isBadSide_2 rfl (lv_at hl 2 rfl) ?_
  refine jv_rdV (ni := 2) (ci := 0) (q0 := 0) C [.int (J ((a : Nat) : Int)), .int (J ((b : Nat) : Int))] [] (c_X0_thirdOf (Cd := Cd) (sz := sz) (Th := Th) (Af := Af) (Bf := Bf) ⟨hCd, hsz, hTh, hAf, hBf⟩  (a := a) (b := b) (by omega) (by omega)) gv_X0_42 (by decide +kernel) (by decide) hK (hP.sub (ws' := [(mm, .inr (0, [.ref pp, .ref mc, .int (J ((sz : Nat) : Int)), .ref mt, .ref ma, .ref mb])), (mc, .inl (cI, 80, .inl (fun z9 => J ((Cd z9 : Nat) : Int)))), (mt, .inl (cI, 1600, .inl (fun z9 => J (Th z9)))), (ma, .inl (cI, 40, .inl (fun z9 => J ((Af z9 : Nat) : Int)))), (mb, .inl (cI, 40, .inl (fun z9 => J ((Bf z9 : Nat) : Int))))]) [0, 1, 2, 3, 4] rfl) rfl rfl rfl hl.1 (by simp [Value.category]) dX0_isBadSide_3 (by decide) ?_ rfl
  show W _ _ _ _ _ _ _ _ _ _ _ _ _ _ _ (F0 m 6 ls [.int (J (Th (a * 40 + b)))])
  have f1 := hTh (a * 40 + b)
  refine lv_istore_n (lv' := [(3, .int (J (Th (a * 40 + b)))), (0, .ref mm), (1, .int (J ((a : Nat) : Int))), (2, .int (J ((b : Nat) : Int)))]) C.1 C.2.1 dX0_isBadSide_6 rfl hl (by decide) rfl (fun ls hl => ?_)
  refine lv_aload_n C.1 C.2.1 dX0_isBadSide_7 rfl (lv_at hl 1 rfl) ?_
  refine lv_iload_n C.1 C.2.1 dX0_isBadSide_8 rfl (lv_at hl 3 rfl) ?_
  refine lv_iload_n C.1 C.2.1 dX0_isBadSide_9 rfl (lv_at hl 2 rfl) ?_
  refine jv_rdV (ni := 2) (ci := 0) (q0 := 0) C [.int (J ((b : Nat) : Int)), .int (J ((a : Nat) : Int))] [] (c_X0_thirdOf (Cd := Cd) (sz := sz) (Th := Th) (Af := Af) (Bf := Bf) ⟨hCd, hsz, hTh, hAf, hBf⟩  (a := b) (b := a) (by omega) (by omega)) gv_X0_42 (by decide +kernel) (by decide) hK (hP.sub (ws' := [(mm, .inr (0, [.ref pp, .ref mc, .int (J ((sz : Nat) : Int)), .ref mt, .ref ma, .ref mb])), (mc, .inl (cI, 80, .inl (fun z9 => J ((Cd z9 : Nat) : Int)))), (mt, .inl (cI, 1600, .inl (fun z9 => J (Th z9)))), (ma, .inl (cI, 40, .inl (fun z9 => J ((Af z9 : Nat) : Int)))), (mb, .inl (cI, 40, .inl (fun z9 => J ((Bf z9 : Nat) : Int))))]) [0, 1, 2, 3, 4] rfl) rfl rfl rfl hl.1 (by simp [Value.category]) dX0_isBadSide_10 (by decide) ?_ rfl
  show W _ _ _ _ _ _ _ _ _ _ _ _ _ _ _ (F0 m 13 ls [.int (J (Th (b * 40 + a)))])
  have f2 := hTh (b * 40 + a)
  refine lv_istore (lv' := [(4, .int (J (Th (b * 40 + a)))), (3, .int (J (Th (a * 40 + b)))), (0, .ref mm), (1, .int (J ((a : Nat) : Int))), (2, .int (J ((b : Nat) : Int)))]) C.1 C.2.1 dX0_isBadSide_13 hl (by decide) rfl (fun ls hl => ?_)
  refine lv_iload_n C.1 C.2.1 dX0_isBadSide_15 rfl (lv_at hl 1 rfl) ?_
  refine jv_if_lt (tgt := 24) C dX0_isBadSide_16 (by decide) (by omega) (fun h3 => ?_) (fun h3 => ?_)
  · refine jv_iconst C dX0_isBadSide_24 ?_
    exact jv_zret C hlk hr dX0_isBadSide_25 (by unfold badS; grind [b2i])
  · refine lv_iload C.1 C.2.1 dX0_isBadSide_19 (lv_at hl 0 rfl) ?_
    refine jv_if_ge (tgt := 26) C dX0_isBadSide_21 (by decide) (by omega) (fun h4 => ?_) (fun h4 => ?_)
    · obtain ⟨q1, hq1⟩ : ∃ k : Nat, Th (a * 40 + b) = (k : Int) := ⟨(Th (a * 40 + b)).toNat, by omega⟩
      rw [hq1] at hl
      obtain ⟨q2, hq2⟩ : ∃ k : Nat, Th (b * 40 + a) = (k : Int) := ⟨(Th (b * 40 + a)).toNat, by omega⟩
      rw [hq2] at hl
      refine lv_aload_n C.1 C.2.1 dX0_isBadSide_26 rfl (lv_at hl 2 rfl) ?_
      refine jv_get C fw_X0_24 hK hP 0 rfl rfl dX0_isBadSide_27 ?_
      refine lv_iload_n C.1 C.2.1 dX0_isBadSide_30 rfl (lv_at hl 3 rfl) ?_
      refine lv_iload_n C.1 C.2.1 dX0_isBadSide_31 rfl (lv_at hl 4 rfl) ?_
      refine lv_iload_n C.1 C.2.1 dX0_isBadSide_32 rfl (lv_at hl 1 rfl) ?_
      refine lv_iload C.1 C.2.1 dX0_isBadSide_33 (lv_at hl 0 rfl) ?_
      refine jv_rdV (ni := 4) (ci := 2) (q0 := 0) C [.int (J ((a : Nat) : Int)), .int (J ((b : Nat) : Int)), .int (J ((q1 : Nat) : Int)), .int (J ((q2 : Nat) : Int))] [] (c_X2_withinness (X := X) (Y := Y) (T := T) (O := O) (told := told) (pres := pres) (a := a) (b := b) (k := q1) (d := q2) ⟨hX, hY, hO, by omega, by omega⟩ (by omega) (by omega) (by omega) (by omega)) gv_X0_88 (by decide +kernel) (by decide) hK (hP.sub (ws' := [(pp, .inr (2, [.ref ax, .ref ay, .ref at_, .ref ao, .int (J ((told : Nat) : Int)), .int (J ((pres : Nat) : Int))])), (ax, .inl (cI, 40, .inl (fun z9 => J (X z9)))), (ay, .inl (cI, 40, .inl (fun z9 => J (Y z9)))), (at_, .inl (cZ, 40, .inl (fun z9 => J (b2i (T z9))))), (ao, .inl (cI, 40, .inl (fun z9 => J ((O z9 : Nat) : Int))))]) [5, 6, 7, 8, 9] rfl) rfl rfl rfl hl.1 (by simp [Value.category]) dX0_isBadSide_35 (by decide) ?_ rfl
      show W _ _ _ _ _ _ _ _ _ _ _ _ _ _ _ (F0 m 38 ls [.long (Lg (wi X Y a b q1 q2))])
      have f5 := wi_bd hX hY a b q1 q2
      refine lv_lstore (lv' := [(5, .long (Lg (wi X Y a b q1 q2))), (4, .int (J ((q2 : Nat) : Int))), (3, .int (J ((q1 : Nat) : Int))), (0, .ref mm), (1, .int (J ((a : Nat) : Int))), (2, .int (J ((b : Nat) : Int)))]) C.1 C.2.1 dX0_isBadSide_38 hl (by decide) rfl (fun ls hl => ?_)
      refine lv_lload C.1 C.2.1 dX0_isBadSide_40 (lv_at hl 0 rfl) ?_
      refine jv_lconst (z := 0) C dX0_isBadSide_42 rfl ?_
      refine jv_lcmp_gt (tgt := 68) C dX0_isBadSide_43 dX0_isBadSide_44 (by decide) (by omega) (fun h6 => ?_) (fun h6 => ?_)
      · refine jv_iconst C dX0_isBadSide_68 ?_
        refine lv_goto (tgt := 73) C.1 C.2.1 dX0_isBadSide_69 (by decide) ?_
        exact jv_zret C hlk hr dX0_isBadSide_73 (by unfold badS; grind [b2i])
      · refine lv_lload C.1 C.2.1 dX0_isBadSide_47 (lv_at hl 0 rfl) ?_
        refine jv_lconst (z := 0) C dX0_isBadSide_49 rfl ?_
        refine jv_lcmp_ne (tgt := 72) C dX0_isBadSide_50 dX0_isBadSide_51 (by decide) (by omega) (fun h7 => ?_) (fun h7 => ?_)
        · refine jv_iconst C dX0_isBadSide_72 ?_
          exact jv_zret C hlk hr dX0_isBadSide_73 (by unfold badS; grind [b2i])
        · refine lv_iload_n C.1 C.2.1 dX0_isBadSide_54 rfl (lv_at hl 2 rfl) ?_
          refine lv_iload C.1 C.2.1 dX0_isBadSide_55 (lv_at hl 1 rfl) ?_
          refine jv_mmin (z := ((min q1 q2 : Nat) : Int)) C mw_257 hl.1 (by omega) (by omega) (by decide) (by simp [Value.category]) dX0_isBadSide_57 ?_
          refine lv_iload_n C.1 C.2.1 dX0_isBadSide_60 rfl (lv_at hl 4 rfl) ?_
          refine lv_iload_n C.1 C.2.1 dX0_isBadSide_61 rfl (lv_at hl 5 rfl) ?_
          refine jv_mmin (z := ((min a b : Nat) : Int)) C mw_257 hl.1 (by omega) (by omega) (by decide) (by simp [Value.category]) dX0_isBadSide_62 ?_
          refine jv_icmp_ge (tgt := 72) C dX0_isBadSide_65 (by decide) (by omega) (fun h8 => ?_) (fun h8 => ?_)
          · refine jv_iconst C dX0_isBadSide_72 ?_
            exact jv_zret C hlk hr dX0_isBadSide_73 (by unfold badS; grind [b2i])
          · refine jv_iconst C dX0_isBadSide_68 ?_
            refine lv_goto (tgt := 73) C.1 C.2.1 dX0_isBadSide_69 (by decide) ?_
            exact jv_zret C hlk hr dX0_isBadSide_73 (by unfold badS; grind [b2i])
    · refine jv_iconst C dX0_isBadSide_24 ?_
      exact jv_zret C hlk hr dX0_isBadSide_25 (by unfold badS; grind [b2i])
set_option maxRecDepth 20000 in
theorem c_X0_mayFlipSide {a b : Nat} (hM : MBd Cd sz Th Af Bf) (hB : PB X Y O told pres) (ha : a < 40) (hb : b < 40) : cR l yX0_mayFlipSide cX0_mayFlipSide 5 (some .boolean) 3 75 D (tyz cI cZ) [.ref mm, .int (J ((a : Nat) : Int)), .int (J ((b : Nat) : Int))] ((wMesh cI mm mc mt ma mb pp Cd sz Th Af Bf) ++ (wPts cI cZ pp ax ay at_ ao X Y T O told pres)) (some (.int (J (b2i (mayS X Y Th a b))))) := by
  refine cR_of (owner := RX0) rfl (by decide) (Nat.le_of_ble_eq_true rfl) ?_
  intro p e s m args below meth c ls C hlk hr hK hP hl
  have hl : lv_has ls 5 [(0, .ref mm), (1, .int (J ((a : Nat) : Int))), (2, .int (J ((b : Nat) : Int)))] := hl
  obtain ⟨hCd, hsz, hTh, hAf, hBf⟩ := hM
  obtain ⟨hX, hY, hO, htd, hps⟩ := hB
  refine lv_aload_n C.1 C.2.1 dX0_mayFlipSide_0 rfl (lv_at hl 0 rfl) ?_
  refine lv_iload_n C.1 C.2.1 dX0_mayFlipSide_1 rfl (lv_at hl 1 rfl) ?_
  refine lv_iload_n C.1 C.2.1 dX0_mayFlipSide_2 rfl (lv_at hl 2 rfl) ?_
  refine jv_rdV (ni := 2) (ci := 0) (q0 := 0) C [.int (J ((a : Nat) : Int)), .int (J ((b : Nat) : Int))] [] (c_X0_thirdOf (Cd := Cd) (sz := sz) (Th := Th) (Af := Af) (Bf := Bf) ⟨hCd, hsz, hTh, hAf, hBf⟩  (a := a) (b := b) (by omega) (by omega)) gv_X0_42 (by decide +kernel) (by decide) hK (hP.sub (ws' := [(mm, .inr (0, [.ref pp, .ref mc, .int (J ((sz : Nat) : Int)), .ref mt, .ref ma, .ref mb])), (mc, .inl (cI, 80, .inl (fun z9 => J ((Cd z9 : Nat) : Int)))), (mt, .inl (cI, 1600, .inl (fun z9 => J (Th z9)))), (ma, .inl (cI, 40, .inl (fun z9 => J ((Af z9 : Nat) : Int)))), (mb, .inl (cI, 40, .inl (fun z9 => J ((Bf z9 : Nat) : Int))))]) [0, 1, 2, 3, 4] rfl) rfl rfl rfl hl.1 (by simp [Value.category]) dX0_mayFlipSide_3 (by decide) ?_ rfl
  show W _ _ _ _ _ _ _ _ _ _ _ _ _ _ _ (F0 m 6 ls [.int (J (Th (a * 40 + b)))])
  have f1 := hTh (a * 40 + b)
  refine lv_istore_n (lv' := [(3, .int (J (Th (a * 40 + b)))), (0, .ref mm), (1, .int (J ((a : Nat) : Int))), (2, .int (J ((b : Nat) : Int)))]) C.1 C.2.1 dX0_mayFlipSide_6 rfl hl (by decide) rfl (fun ls hl => ?_)
  refine lv_aload_n C.1 C.2.1 dX0_mayFlipSide_7 rfl (lv_at hl 1 rfl) ?_
  refine lv_iload_n C.1 C.2.1 dX0_mayFlipSide_8 rfl (lv_at hl 3 rfl) ?_
  refine lv_iload_n C.1 C.2.1 dX0_mayFlipSide_9 rfl (lv_at hl 2 rfl) ?_
  refine jv_rdV (ni := 2) (ci := 0) (q0 := 0) C [.int (J ((b : Nat) : Int)), .int (J ((a : Nat) : Int))] [] (c_X0_thirdOf (Cd := Cd) (sz := sz) (Th := Th) (Af := Af) (Bf := Bf) ⟨hCd, hsz, hTh, hAf, hBf⟩  (a := b) (b := a) (by omega) (by omega)) gv_X0_42 (by decide +kernel) (by decide) hK (hP.sub (ws' := [(mm, .inr (0, [.ref pp, .ref mc, .int (J ((sz : Nat) : Int)), .ref mt, .ref ma, .ref mb])), (mc, .inl (cI, 80, .inl (fun z9 => J ((Cd z9 : Nat) : Int)))), (mt, .inl (cI, 1600, .inl (fun z9 => J (Th z9)))), (ma, .inl (cI, 40, .inl (fun z9 => J ((Af z9 : Nat) : Int)))), (mb, .inl (cI, 40, .inl (fun z9 => J ((Bf z9 : Nat) : Int))))]) [0, 1, 2, 3, 4] rfl) rfl rfl rfl hl.1 (by simp [Value.category]) dX0_mayFlipSide_10 (by decide) ?_ rfl
  show W _ _ _ _ _ _ _ _ _ _ _ _ _ _ _ (F0 m 13 ls [.int (J (Th (b * 40 + a)))])
  have f2 := hTh (b * 40 + a)
  refine lv_istore (lv' := [(4, .int (J (Th (b * 40 + a)))), (3, .int (J (Th (a * 40 + b)))), (0, .ref mm), (1, .int (J ((a : Nat) : Int))), (2, .int (J ((b : Nat) : Int)))]) C.1 C.2.1 dX0_mayFlipSide_13 hl (by decide) rfl (fun ls hl => ?_)
  refine lv_iload_n C.1 C.2.1 dX0_mayFlipSide_15 rfl (lv_at hl 1 rfl) ?_
  refine jv_if_lt (tgt := 58) C dX0_mayFlipSide_16 (by decide) (by omega) (fun h3 => ?_) (fun h3 => ?_)
  · refine jv_iconst C dX0_mayFlipSide_58 ?_
    exact jv_zret C hlk hr dX0_mayFlipSide_59 (by unfold mayS; grind [b2i])
  · refine lv_iload C.1 C.2.1 dX0_mayFlipSide_19 (lv_at hl 0 rfl) ?_
    refine jv_if_lt (tgt := 58) C dX0_mayFlipSide_21 (by decide) (by omega) (fun h4 => ?_) (fun h4 => ?_)
    · refine jv_iconst C dX0_mayFlipSide_58 ?_
      exact jv_zret C hlk hr dX0_mayFlipSide_59 (by unfold mayS; grind [b2i])
    · obtain ⟨q1, hq1⟩ : ∃ k : Nat, Th (a * 40 + b) = (k : Int) := ⟨(Th (a * 40 + b)).toNat, by omega⟩
      rw [hq1] at hl
      obtain ⟨q2, hq2⟩ : ∃ k : Nat, Th (b * 40 + a) = (k : Int) := ⟨(Th (b * 40 + a)).toNat, by omega⟩
      rw [hq2] at hl
      refine lv_aload_n C.1 C.2.1 dX0_mayFlipSide_24 rfl (lv_at hl 2 rfl) ?_
      refine jv_get C fw_X0_24 hK hP 0 rfl rfl dX0_mayFlipSide_25 ?_
      refine lv_iload_n C.1 C.2.1 dX0_mayFlipSide_28 rfl (lv_at hl 3 rfl) ?_
      refine lv_iload_n C.1 C.2.1 dX0_mayFlipSide_29 rfl (lv_at hl 4 rfl) ?_
      refine lv_iload_n C.1 C.2.1 dX0_mayFlipSide_30 rfl (lv_at hl 1 rfl) ?_
      refine lv_iload C.1 C.2.1 dX0_mayFlipSide_31 (lv_at hl 0 rfl) ?_
      refine jv_rdV (ni := 4) (ci := 2) (q0 := 0) C [.int (J ((a : Nat) : Int)), .int (J ((b : Nat) : Int)), .int (J ((q1 : Nat) : Int)), .int (J ((q2 : Nat) : Int))] [] (c_X2_isParted (X := X) (Y := Y) (T := T) (O := O) (told := told) (pres := pres) (a := a) (b := b) (k := q1) (d := q2) ⟨hX, hY, hO, by omega, by omega⟩ (by omega) (by omega) (by omega) (by omega)) gv_X0_96 (by decide +kernel) (by decide) hK (hP.sub (ws' := [(pp, .inr (2, [.ref ax, .ref ay, .ref at_, .ref ao, .int (J ((told : Nat) : Int)), .int (J ((pres : Nat) : Int))])), (ax, .inl (cI, 40, .inl (fun z9 => J (X z9)))), (ay, .inl (cI, 40, .inl (fun z9 => J (Y z9)))), (at_, .inl (cZ, 40, .inl (fun z9 => J (b2i (T z9))))), (ao, .inl (cI, 40, .inl (fun z9 => J ((O z9 : Nat) : Int))))]) [5, 6, 7, 8, 9] rfl) rfl rfl rfl hl.1 (by simp [Value.category]) dX0_mayFlipSide_33 (by decide) ?_ rfl
      show W _ _ _ _ _ _ _ _ _ _ _ _ _ _ _ (F0 m 36 ls [.int (J (b2i (parted X Y a b q1 q2)))])
      refine jv_bif_eq (tgt := 58) C dX0_mayFlipSide_36 (by decide) (fun h5 => ?_) (fun h5 => ?_)
      · refine jv_iconst C dX0_mayFlipSide_58 ?_
        exact jv_zret C hlk hr dX0_mayFlipSide_59 (by unfold mayS; grind [b2i])
      · refine lv_aload_n C.1 C.2.1 dX0_mayFlipSide_39 rfl (lv_at hl 2 rfl) ?_
        refine jv_get C fw_X0_24 hK hP 0 rfl rfl dX0_mayFlipSide_40 ?_
        refine lv_iload_n C.1 C.2.1 dX0_mayFlipSide_43 rfl (lv_at hl 1 rfl) ?_
        refine lv_iload C.1 C.2.1 dX0_mayFlipSide_44 (lv_at hl 0 rfl) ?_
        refine lv_iload_n C.1 C.2.1 dX0_mayFlipSide_46 rfl (lv_at hl 3 rfl) ?_
        refine lv_iload_n C.1 C.2.1 dX0_mayFlipSide_47 rfl (lv_at hl 4 rfl) ?_
        refine jv_rdV (ni := 4) (ci := 2) (q0 := 0) C [.int (J ((q1 : Nat) : Int)), .int (J ((q2 : Nat) : Int)), .int (J ((a : Nat) : Int)), .int (J ((b : Nat) : Int))] [] (c_X2_isParted (X := X) (Y := Y) (T := T) (O := O) (told := told) (pres := pres) (a := q1) (b := q2) (k := a) (d := b) ⟨hX, hY, hO, by omega, by omega⟩ (by omega) (by omega) (by omega) (by omega)) gv_X0_96 (by decide +kernel) (by decide) hK (hP.sub (ws' := [(pp, .inr (2, [.ref ax, .ref ay, .ref at_, .ref ao, .int (J ((told : Nat) : Int)), .int (J ((pres : Nat) : Int))])), (ax, .inl (cI, 40, .inl (fun z9 => J (X z9)))), (ay, .inl (cI, 40, .inl (fun z9 => J (Y z9)))), (at_, .inl (cZ, 40, .inl (fun z9 => J (b2i (T z9))))), (ao, .inl (cI, 40, .inl (fun z9 => J ((O z9 : Nat) : Int))))]) [5, 6, 7, 8, 9] rfl) rfl rfl rfl hl.1 (by simp [Value.category]) dX0_mayFlipSide_48 (by decide) ?_ rfl
        show W _ _ _ _ _ _ _ _ _ _ _ _ _ _ _ (F0 m 51 ls [.int (J (b2i (parted X Y q1 q2 a b)))])
        refine jv_bif_eq (tgt := 58) C dX0_mayFlipSide_51 (by decide) (fun h6 => ?_) (fun h6 => ?_)
        · refine jv_iconst C dX0_mayFlipSide_58 ?_
          exact jv_zret C hlk hr dX0_mayFlipSide_59 (by unfold mayS; grind [b2i])
        · refine jv_iconst C dX0_mayFlipSide_54 ?_
          refine lv_goto (tgt := 59) C.1 C.2.1 dX0_mayFlipSide_55 (by decide) ?_
          exact jv_zret C hlk hr dX0_mayFlipSide_59 (by unfold mayS; grind [b2i])
set_option maxRecDepth 20000 in
theorem lp_X0_firstBadSide_2 {p : Program} {e : Env} {s : State} {m : MethodId} {args : Array Value} {below : List Frame} {meth : Method} {c : Code} {k : Nat} (C : CallFix p m c cX0_firstBadSide 5 s args TB RX0) (hlk : meth.locks = false) (hr : meth.sig.returnType = (some .int)) (hK : va_K D vwCl (tyz cI cZ) s) (hP : va_P D vwCl ((wMesh cI mm mc mt ma mb pp Cd sz Th Af Bf) ++ (wPts cI cZ pp ax ay at_ ao X Y T O told pres)) s.heap) (hM : MBd Cd sz Th Af Bf) (hB : PB X Y O told pres) :
    ∀ (n : Nat) (i : Nat), 1600 < i + n → i ≤ 1600 → ∀ (rv : Nat), rv = (ff (fbP X Y Th) 1600 i).getD 1600 → ∀ ls : Array Slot, lv_has ls 5 [(0, .ref mm), (1, .int (J ((k : Nat) : Int))), (2, .int (J ((i : Nat) : Int)))] → W p l e { frames := 3, cells := 0, slots := 0, locals := 81 } s m args below meth c s.heap [] 0 0 (MQ below (QR (some (.int (J ((rv : Nat) : Int))))) args s 0 0 (fun _ => False)) (F0 m 2 ls []) := by
  obtain ⟨hCd, hsz, hTh, hAf, hBf⟩ := hM
  obtain ⟨hX, hY, hO, htd, hps⟩ := hB
  intro n
  induction n with
  | zero => intro i hi0 hi1; omega
  | succ n ih =>
    intro i hi0 hi1 rv hrv ls hl
    refine lv_iload_n C.1 C.2.1 dX0_firstBadSide_2 rfl (lv_at hl 2 rfl) ?_
    refine jv_sipush C dX0_firstBadSide_3 rfl ?_
    refine jv_icmp_ge (tgt := 44) C dX0_firstBadSide_6 (by decide) (by omega) (fun h1 => ?_) (fun h1 => ?_)
    · refine jv_sipush C dX0_firstBadSide_44 rfl ?_
      exact jv_iret C hlk hr dX0_firstBadSide_47 (by rw [hrv, ff_end (by omega)]; rfl)
    · refine lv_iload_n C.1 C.2.1 dX0_firstBadSide_9 rfl (lv_at hl 2 rfl) ?_
      refine jv_bipush C dX0_firstBadSide_10 rfl ?_
      refine jv_idiv (a := i) (b := 40) C dX0_firstBadSide_12 (by omega) (by omega) (by omega) ?_
      refine lv_istore_n (lv' := [(3, .int (J ((i / 40 : Nat) : Int))), (0, .ref mm), (1, .int (J ((k : Nat) : Int))), (2, .int (J ((i : Nat) : Int)))]) C.1 C.2.1 dX0_firstBadSide_13 rfl hl (by decide) rfl (fun ls hl => ?_)
      refine lv_iload_n C.1 C.2.1 dX0_firstBadSide_14 rfl (lv_at hl 3 rfl) ?_
      refine jv_bipush C dX0_firstBadSide_15 rfl ?_
      refine jv_irem (a := i) (b := 40) C dX0_firstBadSide_17 (by omega) (by omega) (by omega) ?_
      refine lv_istore (lv' := [(4, .int (J ((i % 40 : Nat) : Int))), (3, .int (J ((i / 40 : Nat) : Int))), (0, .ref mm), (1, .int (J ((k : Nat) : Int))), (2, .int (J ((i : Nat) : Int)))]) C.1 C.2.1 dX0_firstBadSide_18 hl (by decide) rfl (fun ls hl => ?_)
      refine lv_iload_n C.1 C.2.1 dX0_firstBadSide_20 rfl (lv_at hl 1 rfl) ?_
      refine lv_iload C.1 C.2.1 dX0_firstBadSide_21 (lv_at hl 0 rfl) ?_
      refine jv_icmp_ge (tgt := 38) C dX0_firstBadSide_23 (by decide) (by omega) (fun h2 => ?_) (fun h2 => ?_)
      · refine lv_iinc (v := J (((i + 1 : Nat) : Int))) (lv' := [(2, .int (J ((i + 1 : Nat) : Int))), (4, .int (J ((i % 40 : Nat) : Int))), (3, .int (J ((i / 40 : Nat) : Int))), (0, .ref mm), (1, .int (J ((k : Nat) : Int)))]) C.1 C.2.1 dX0_firstBadSide_38 hl (k := 4) rfl (by rw [show Int32.ofInt 1 = J 1 from rfl, J_add]; exact congrArg J (by omega)) (by decide) rfl (fun ls hl => ?_)
        refine lv_goto (tgt := 2) C.1 C.2.1 dX0_firstBadSide_41 (by decide) ?_
        exact ih (i + 1) (by omega) (by omega) rv (by rw [hrv, ff_go (by omega) (by grind [fbP])]) ls (lv_sub hl [3, 4, 0] rfl)
      · refine lv_aload_n C.1 C.2.1 dX0_firstBadSide_26 rfl (lv_at hl 2 rfl) ?_
        refine lv_iload_n C.1 C.2.1 dX0_firstBadSide_27 rfl (lv_at hl 1 rfl) ?_
        refine lv_iload C.1 C.2.1 dX0_firstBadSide_28 (lv_at hl 0 rfl) ?_
        refine jv_rdV (ni := 2) (ci := 0) (q0 := 0) C [.int (J ((i / 40 : Nat) : Int)), .int (J ((i % 40 : Nat) : Int))] [] (c_X0_isBadSide (Cd := Cd) (sz := sz) (Th := Th) (Af := Af) (Bf := Bf) ⟨hCd, hsz, hTh, hAf, hBf⟩ ⟨hX, hY, hO, htd, hps⟩ (a := i / 40) (b := i % 40) (by omega) (by omega)) gv_X0_112 (by decide +kernel) (by decide) hK (hP) rfl rfl rfl hl.1 (by simp [Value.category]) dX0_firstBadSide_30 (by decide) ?_ rfl
        show W _ _ _ _ _ _ _ _ _ _ _ _ _ _ _ (F0 m 33 ls [.int (J (b2i (badS X Y Th (i / 40) (i % 40))))])
        refine jv_bif_eq (tgt := 38) C dX0_firstBadSide_33 (by decide) (fun h3 => ?_) (fun h3 => ?_)
        · refine lv_iinc (v := J (((i + 1 : Nat) : Int))) (lv' := [(2, .int (J ((i + 1 : Nat) : Int))), (4, .int (J ((i % 40 : Nat) : Int))), (3, .int (J ((i / 40 : Nat) : Int))), (0, .ref mm), (1, .int (J ((k : Nat) : Int)))]) C.1 C.2.1 dX0_firstBadSide_38 hl (k := 4) rfl (by rw [show Int32.ofInt 1 = J 1 from rfl, J_add]; exact congrArg J (by omega)) (by decide) rfl (fun ls hl => ?_)
          refine lv_goto (tgt := 2) C.1 C.2.1 dX0_firstBadSide_41 (by decide) ?_
          exact ih (i + 1) (by omega) (by omega) rv (by rw [hrv, ff_go (by omega) (by grind [fbP])]) ls (lv_sub hl [3, 4, 0] rfl)
        · refine lv_iload_n C.1 C.2.1 dX0_firstBadSide_36 rfl (lv_at hl 4 rfl) ?_
          exact jv_iret C hlk hr dX0_firstBadSide_37 (by rw [hrv, ff_hit (by omega) (by grind [fbP])]; rfl)
set_option maxRecDepth 20000 in
theorem c_X0_firstBadSide {k : Nat} (hM : MBd Cd sz Th Af Bf) (hB : PB X Y O told pres) (hk : k ≤ 1600) : cR l yX0_firstBadSide cX0_firstBadSide 5 (some .int) 3 81 D (tyz cI cZ) [.ref mm, .int (J ((k : Nat) : Int))] ((wMesh cI mm mc mt ma mb pp Cd sz Th Af Bf) ++ (wPts cI cZ pp ax ay at_ ao X Y T O told pres)) (some (.int (J ((fb X Y Th k : Nat) : Int)))) := by
  refine cR_of (owner := RX0) rfl (by decide) (Nat.le_of_ble_eq_true rfl) ?_
  intro p e s m args below meth c ls C hlk hr hK hP hl
  have hl : lv_has ls 5 [(0, .ref mm), (1, .int (J ((k : Nat) : Int)))] := hl
  obtain ⟨hCd, hsz, hTh, hAf, hBf⟩ := hM
  obtain ⟨hX, hY, hO, htd, hps⟩ := hB
  refine lv_iload_n C.1 C.2.1 dX0_firstBadSide_0 rfl (lv_at hl 1 rfl) ?_
  refine lv_istore_n (lv' := [(2, .int (J ((k : Nat) : Int))), (0, .ref mm), (1, .int (J ((k : Nat) : Int)))]) C.1 C.2.1 dX0_firstBadSide_1 rfl hl (by decide) rfl (fun ls hl => ?_)
  exact lp_X0_firstBadSide_2 C hlk hr hK hP ⟨hCd, hsz, hTh, hAf, hBf⟩ ⟨hX, hY, hO, htd, hps⟩ 1601 k (by omega) (by omega) _ rfl ls (lv_sub hl [1, 2, 0] rfl)
set_option maxRecDepth 20000 in
theorem lp_X0_countBadSides_14 {p : Program} {e : Env} {s : State} {m : MethodId} {args : Array Value} {below : List Frame} {meth : Method} {c : Code} {a : Nat} (C : CallFix p m c cX0_countBadSides 4 s args TB RX0) (hlk : meth.locks = false) (hr : meth.sig.returnType = (some .int)) (hK : va_K D vwCl (tyz cI cZ) s) (hP : va_P D vwCl ((wMesh cI mm mc mt ma mb pp Cd sz Th Af Bf) ++ (wPts cI cZ pp ax ay at_ ao X Y T O told pres)) s.heap) (hM : MBd Cd sz Th Af Bf) (hB : PB X Y O told pres) (ha : a < 40) (KK : ∀ k rv : Nat, k ≤ (a + 1) * 40 → rv = k + cn (fbP X Y Th) 1600 ((a + 1) * 40) → ∀ ls : Array Slot, lv_has ls 4 [(0, .ref mm), (1, .int (J ((k : Nat) : Int))), (2, .int (J ((a + 1 : Nat) : Int)))] → W p l e { frames := 3, cells := 0, slots := 0, locals := 81 } s m args below meth c s.heap [] 0 0 (MQ below (QR (some (.int (J ((rv : Nat) : Int))))) args s 0 0 (fun _ => False)) (F0 m 4 ls [])) :
    ∀ (n : Nat) (i k : Nat), 40 < i + n → i ≤ 40 → a < i → k ≤ a * 40 + i → ∀ (rv : Nat), rv = k + cn (fbP X Y Th) 1600 (a * 40 + i) → ∀ ls : Array Slot, lv_has ls 4 [(0, .ref mm), (1, .int (J ((k : Nat) : Int))), (2, .int (J ((a : Nat) : Int))), (3, .int (J ((i : Nat) : Int)))] → W p l e { frames := 3, cells := 0, slots := 0, locals := 81 } s m args below meth c s.heap [] 0 0 (MQ below (QR (some (.int (J ((rv : Nat) : Int))))) args s 0 0 (fun _ => False)) (F0 m 14 ls []) := by
  obtain ⟨hCd, hsz, hTh, hAf, hBf⟩ := hM
  obtain ⟨hX, hY, hO, htd, hps⟩ := hB
  intro n
  induction n with
  | zero => intro i k hi0 hi1 hi2 hi3; omega
  | succ n ih =>
    intro i k hi0 hi1 hi2 hi3 rv hrv ls hl
    refine lv_iload_n C.1 C.2.1 dX0_countBadSides_14 rfl (lv_at hl 3 rfl) ?_
    refine jv_bipush C dX0_countBadSides_15 rfl ?_
    refine jv_icmp_ge (tgt := 38) C dX0_countBadSides_17 (by decide) (by omega) (fun h1 => ?_) (fun h1 => ?_)
    · refine lv_iinc (v := J (((a + 1 : Nat) : Int))) (lv' := [(2, .int (J ((a + 1 : Nat) : Int))), (0, .ref mm), (1, .int (J ((k : Nat) : Int))), (3, .int (J ((i : Nat) : Int)))]) C.1 C.2.1 dX0_countBadSides_38 hl (k := 2) rfl (by rw [show Int32.ofInt 1 = J 1 from rfl, J_add]; exact congrArg J (by omega)) (by decide) rfl (fun ls hl => ?_)
      refine lv_goto (tgt := 4) C.1 C.2.1 dX0_countBadSides_41 (by decide) ?_
      exact KK k rv (by omega) (by rw [hrv, show a * 40 + i = (a + 1) * 40 from by omega]) ls (lv_sub hl [1, 2, 0] rfl)
    · refine lv_aload_n C.1 C.2.1 dX0_countBadSides_20 rfl (lv_at hl 0 rfl) ?_
      refine lv_iload_n C.1 C.2.1 dX0_countBadSides_21 rfl (lv_at hl 2 rfl) ?_
      refine lv_iload_n C.1 C.2.1 dX0_countBadSides_22 rfl (lv_at hl 3 rfl) ?_
      refine jv_rdV (ni := 2) (ci := 0) (q0 := 0) C [.int (J ((a : Nat) : Int)), .int (J ((i : Nat) : Int))] [] (c_X0_isBadSide (Cd := Cd) (sz := sz) (Th := Th) (Af := Af) (Bf := Bf) ⟨hCd, hsz, hTh, hAf, hBf⟩ ⟨hX, hY, hO, htd, hps⟩ (a := a) (b := i) (by omega) (by omega)) gv_X0_112 (by decide +kernel) (by decide) hK (hP) rfl rfl rfl hl.1 (by simp [Value.category]) dX0_countBadSides_23 (by decide) ?_ rfl
      show W _ _ _ _ _ _ _ _ _ _ _ _ _ _ _ (F0 m 26 ls [.int (J (b2i (badS X Y Th a i)))])
      refine jv_bif_eq (tgt := 32) C dX0_countBadSides_26 (by decide) (fun h2 => ?_) (fun h2 => ?_)
      · refine lv_iinc (v := J (((i + 1 : Nat) : Int))) (lv' := [(3, .int (J ((i + 1 : Nat) : Int))), (0, .ref mm), (1, .int (J ((k : Nat) : Int))), (2, .int (J ((a : Nat) : Int)))]) C.1 C.2.1 dX0_countBadSides_32 hl (k := 3) rfl (by rw [show Int32.ofInt 1 = J 1 from rfl, J_add]; exact congrArg J (by omega)) (by decide) rfl (fun ls hl => ?_)
        refine lv_goto (tgt := 14) C.1 C.2.1 dX0_countBadSides_35 (by decide) ?_
        exact ih (i + 1) (k) (by omega) (by omega) (by omega) (by omega) rv (by rw [hrv, cn_go (by omega) ((fbP_at (by omega) (by omega)).trans h2)]; rfl) ls (lv_sub hl [1, 2, 3, 0] rfl)
      · refine lv_iinc (v := J (((k + 1 : Nat) : Int))) (lv' := [(1, .int (J ((k + 1 : Nat) : Int))), (0, .ref mm), (2, .int (J ((a : Nat) : Int))), (3, .int (J ((i : Nat) : Int)))]) C.1 C.2.1 dX0_countBadSides_29 hl (k := 1) rfl (by rw [show Int32.ofInt 1 = J 1 from rfl, J_add]; exact congrArg J (by omega)) (by decide) rfl (fun ls hl => ?_)
        refine lv_iinc (v := J (((i + 1 : Nat) : Int))) (lv' := [(3, .int (J ((i + 1 : Nat) : Int))), (1, .int (J ((k + 1 : Nat) : Int))), (0, .ref mm), (2, .int (J ((a : Nat) : Int)))]) C.1 C.2.1 dX0_countBadSides_32 hl (k := 3) rfl (by rw [show Int32.ofInt 1 = J 1 from rfl, J_add]; exact congrArg J (by omega)) (by decide) rfl (fun ls hl => ?_)
        refine lv_goto (tgt := 14) C.1 C.2.1 dX0_countBadSides_35 (by decide) ?_
        exact ih (i + 1) (k + 1) (by omega) (by omega) (by omega) (by omega) rv (by rw [hrv, cn_hit (by omega) ((fbP_at (by omega) (by omega)).trans h2), show a * 40 + i + 1 = a * 40 + (i + 1) from rfl]; omega) ls (lv_sub hl [2, 1, 3, 0] rfl)
set_option maxRecDepth 20000 in
theorem lp_X0_countBadSides_4 {p : Program} {e : Env} {s : State} {m : MethodId} {args : Array Value} {below : List Frame} {meth : Method} {c : Code}  (C : CallFix p m c cX0_countBadSides 4 s args TB RX0) (hlk : meth.locks = false) (hr : meth.sig.returnType = (some .int)) (hK : va_K D vwCl (tyz cI cZ) s) (hP : va_P D vwCl ((wMesh cI mm mc mt ma mb pp Cd sz Th Af Bf) ++ (wPts cI cZ pp ax ay at_ ao X Y T O told pres)) s.heap) (hM : MBd Cd sz Th Af Bf) (hB : PB X Y O told pres) :
    ∀ (n : Nat) (i k : Nat), 40 < i + n → i ≤ 40 → k ≤ i * 40 → ∀ (rv : Nat), rv = k + cn (fbP X Y Th) 1600 (i * 40) → ∀ ls : Array Slot, lv_has ls 4 [(0, .ref mm), (1, .int (J ((k : Nat) : Int))), (2, .int (J ((i : Nat) : Int)))] → W p l e { frames := 3, cells := 0, slots := 0, locals := 81 } s m args below meth c s.heap [] 0 0 (MQ below (QR (some (.int (J ((rv : Nat) : Int))))) args s 0 0 (fun _ => False)) (F0 m 4 ls []) := by
  obtain ⟨hCd, hsz, hTh, hAf, hBf⟩ := hM
  obtain ⟨hX, hY, hO, htd, hps⟩ := hB
  intro n
  induction n with
  | zero => intro i k hi0 hi1 hi2; omega
  | succ n ih =>
    intro i k hi0 hi1 hi2 rv hrv ls hl
    refine lv_iload_n C.1 C.2.1 dX0_countBadSides_4 rfl (lv_at hl 2 rfl) ?_
    refine jv_bipush C dX0_countBadSides_5 rfl ?_
    refine jv_icmp_ge (tgt := 44) C dX0_countBadSides_7 (by decide) (by omega) (fun h1 => ?_) (fun h1 => ?_)
    · refine lv_iload_n C.1 C.2.1 dX0_countBadSides_44 rfl (lv_at hl 1 rfl) ?_
      exact jv_iret C hlk hr dX0_countBadSides_45 (by rw [hrv, cn_end (by omega)]; rfl)
    · refine lv_iload_n C.1 C.2.1 dX0_countBadSides_10 rfl (lv_at hl 2 rfl) ?_
      refine jv_iconst C dX0_countBadSides_11 ?_
      refine jv_iadd (z := ((i + 1 : Nat) : Int)) C dX0_countBadSides_12 (by omega) ?_
      refine lv_istore_n (lv' := [(3, .int (J ((i + 1 : Nat) : Int))), (0, .ref mm), (1, .int (J ((k : Nat) : Int))), (2, .int (J ((i : Nat) : Int)))]) C.1 C.2.1 dX0_countBadSides_13 rfl hl (by decide) rfl (fun ls hl => ?_)
      exact lp_X0_countBadSides_14 C hlk hr hK hP ⟨hCd, hsz, hTh, hAf, hBf⟩ ⟨hX, hY, hO, htd, hps⟩ (by omega) (fun k rv h h2 ls hl => ih (i + 1) k (by omega) (by omega) h rv h2 ls hl) 41 (i + 1) k (by omega) (by omega) (by omega) (by omega) rv (by rw [hrv, cn_row (a := i) (by omega) (i + 1) (by omega)]) ls (lv_sub hl [1, 2, 3, 0] rfl)
set_option maxRecDepth 20000 in
theorem c_X0_countBadSides  (hM : MBd Cd sz Th Af Bf) (hB : PB X Y O told pres)  : cR l yX0_countBadSides cX0_countBadSides 4 (some .int) 3 81 D (tyz cI cZ) [.ref mm] ((wMesh cI mm mc mt ma mb pp Cd sz Th Af Bf) ++ (wPts cI cZ pp ax ay at_ ao X Y T O told pres)) (some (.int (J ((cn (fbP X Y Th) 1600 0 : Nat) : Int)))) := by
  refine cR_of (owner := RX0) rfl (by decide) (Nat.le_of_ble_eq_true rfl) ?_
  intro p e s m args below meth c ls C hlk hr hK hP hl
  have hl : lv_has ls 4 [(0, .ref mm)] := hl
  obtain ⟨hCd, hsz, hTh, hAf, hBf⟩ := hM
  obtain ⟨hX, hY, hO, htd, hps⟩ := hB
  refine jv_iconst C dX0_countBadSides_0 ?_
  refine lv_istore_n (lv' := [(1, .int (J 0)), (0, .ref mm)]) C.1 C.2.1 dX0_countBadSides_1 rfl hl (by decide) rfl (fun ls hl => ?_)
  refine jv_iconst C dX0_countBadSides_2 ?_
  refine lv_istore_n (lv' := [(2, .int (J 0)), (1, .int (J 0)), (0, .ref mm)]) C.1 C.2.1 dX0_countBadSides_3 rfl hl (by decide) rfl (fun ls hl => ?_)
  exact lp_X0_countBadSides_4 C hlk hr hK hP ⟨hCd, hsz, hTh, hAf, hBf⟩ ⟨hX, hY, hO, htd, hps⟩ 41 0 0 (by omega) (by omega) (by omega) _ (by rw [Nat.zero_mul, Nat.zero_add]) ls (lv_sub hl [2, 1, 0] rfl)
end MESH1
