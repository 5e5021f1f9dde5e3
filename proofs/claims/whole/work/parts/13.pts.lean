/-! the points' cells, and what the reading methods of SignBench$Points answer -/
def lo (X Y : Nat → Int) (a b : Nat) (x y : Int) : Int := (X b - X a) * (y - Y a) - (Y b - Y a) * (x - X a)
def le3 (X Y : Nat → Int) (a b c : Nat) : Int := lo X Y a b (X c) (Y c)
def sq (X Y : Nat → Int) (p : Nat) (x y : Int) : Int := (X p - x) * (X p - x) + (Y p - y) * (Y p - y)
def wsum (X Y : Nat → Int) (a b c d : Nat) : Int := sq X Y a (X d) (Y d) * lo X Y b c (X d) (Y d) + sq X Y b (X d) (Y d) * lo X Y c a (X d) (Y d) + sq X Y c (X d) (Y d) * lo X Y a b (X d) (Y d)
def wi (X Y : Nat → Int) (a b c d : Nat) : Int := if lo X Y a b (X c) (Y c) < 0 then -wsum X Y a b c d else wsum X Y a b c d
def thr (T : Nat → Bool) (told : Nat) (z : Int) : Bool := decide (0 ≤ z) && (decide (z < told) && T z.toNat)
def ear (X Y : Nat → Int) (a b : Nat) : Bool := decide (X a < X b) || (decide (X a = X b) && decide (Y a < Y b))
def parted (X Y : Nat → Int) (a b c d : Nat) : Bool := (decide (0 < le3 X Y a b c) && decide (le3 X Y a b d < 0)) || (decide (le3 X Y a b c < 0) && decide (0 < le3 X Y a b d))
def onw (X Y : Nat → Int) (a b c : Nat) : Bool := decide (le3 X Y a b c = 0) && (decide (min (X a) (X b) ≤ X c) && (decide (X c ≤ max (X a) (X b)) && (decide (min (Y a) (Y b) ≤ Y c) && decide (Y c ≤ max (Y a) (Y b)))))
def late (X Y : Nat → Int) (a b : Nat) : Bool := decide (Y b < Y a) || (decide (Y b = Y a) && decide (X b < X a))
def eara (X Y : Nat → Int) (p q r : Nat) : Bool := if late X Y p q = late X Y p r then (if le3 X Y p q r = 0 then decide (sq X Y q (X p) (Y p) < sq X Y r (X p) (Y p)) else decide (0 < le3 X Y p q r)) else !late X Y p q
def PB (X Y : Nat → Int) (O : Nat → Nat) (told pres : Nat) : Prop := (∀ i, -10000 ≤ X i ∧ X i ≤ 10000) ∧ (∀ i, -10000 ≤ Y i ∧ Y i ≤ 10000) ∧ (∀ i, O i < 40) ∧ told ≤ 40 ∧ pres ≤ 40
abbrev tyz (cI cZ : ClassId) : List (ClassId × FieldType) := [(cI, .int), (cZ, .boolean)]
abbrev wPts (cI cZ : ClassId) (pp ax ay at_ ao : Nat) (X Y : Nat → Int) (T : Nat → Bool) (O : Nat → Nat) (told pres : Nat) : va_W := [(pp, .inr (2, [.ref ax, .ref ay, .ref at_, .ref ao, .int (J ((told : Nat) : Int)), .int (J ((pres : Nat) : Int))])), (ax, .inl (cI, 40, .inl (fun i => J (X i)))), (ay, .inl (cI, 40, .inl (fun i => J (Y i)))), (at_, .inl (cZ, 40, .inl (fun i => J (b2i (T i))))), (ao, .inl (cI, 40, .inl (fun i => J ((O i : Nat) : Int))))]
theorem mul_bd {a b A B : Int} (ha : -A ≤ a ∧ a ≤ A) (hb : -B ≤ b ∧ b ≤ B) : -(A * B) ≤ a * b ∧ a * b ≤ A * B := by
  have hA : 0 ≤ A := by omega
  have hB : 0 ≤ B := by omega
  have h1 : a.natAbs ≤ A.natAbs := by omega
  have h2 : b.natAbs ≤ B.natAbs := by omega
  have h3 : (a * b).natAbs ≤ (A * B).natAbs := by rw [Int.natAbs_mul, Int.natAbs_mul]; exact Nat.mul_le_mul h1 h2
  have h4 : 0 ≤ A * B := Int.mul_nonneg hA hB
  omega
theorem msq (a : Int) : 0 ≤ a * a := by
  rcases Int.le_total 0 a with h | h
  · exact Int.mul_nonneg h h
  · have := Int.mul_nonneg (Int.neg_nonneg_of_nonpos h) (Int.neg_nonneg_of_nonpos h)
    rwa [Int.neg_mul_neg] at this
theorem lo_bd {X Y : Nat → Int} (hX : ∀ i, -10000 ≤ X i ∧ X i ≤ 10000) (hY : ∀ i, -10000 ≤ Y i ∧ Y i ≤ 10000) (a b : Nat) {x y : Int} (hx : -10000 ≤ x ∧ x ≤ 10000) (hy : -10000 ≤ y ∧ y ≤ 10000) : -800000000 ≤ lo X Y a b x y ∧ lo X Y a b x y ≤ 800000000 := by
  have := hX a; have := hX b; have := hY a; have := hY b
  have h1 := mul_bd (a := X b - X a) (b := y - Y a) (A := 20000) (B := 20000) (by omega) (by omega)
  have h2 := mul_bd (a := Y b - Y a) (b := x - X a) (A := 20000) (B := 20000) (by omega) (by omega)
  unfold lo
  omega
theorem le3_bd {X Y : Nat → Int} (hX : ∀ i, -10000 ≤ X i ∧ X i ≤ 10000) (hY : ∀ i, -10000 ≤ Y i ∧ Y i ≤ 10000) (a b c : Nat) : -800000000 ≤ le3 X Y a b c ∧ le3 X Y a b c ≤ 800000000 := lo_bd hX hY a b (hX c) (hY c)
theorem sq_bd {X Y : Nat → Int} (hX : ∀ i, -10000 ≤ X i ∧ X i ≤ 10000) (hY : ∀ i, -10000 ≤ Y i ∧ Y i ≤ 10000) (a : Nat) {x y : Int} (hx : -10000 ≤ x ∧ x ≤ 10000) (hy : -10000 ≤ y ∧ y ≤ 10000) : 0 ≤ sq X Y a x y ∧ sq X Y a x y ≤ 800000000 := by
  have := hX a; have := hY a
  have h1 := mul_bd (a := X a - x) (b := X a - x) (A := 20000) (B := 20000) (by omega) (by omega)
  have h2 := mul_bd (a := Y a - y) (b := Y a - y) (A := 20000) (B := 20000) (by omega) (by omega)
  have h3 : 0 ≤ (X a - x) * (X a - x) := msq _
  have h4 : 0 ≤ (Y a - y) * (Y a - y) := msq _
  unfold sq
  omega
theorem wsum_bd {X Y : Nat → Int} (hX : ∀ i, -10000 ≤ X i ∧ X i ≤ 10000) (hY : ∀ i, -10000 ≤ Y i ∧ Y i ≤ 10000) (a b c d : Nat) : -1920000000000000000 ≤ wsum X Y a b c d ∧ wsum X Y a b c d ≤ 1920000000000000000 := by
  have q1 := sq_bd hX hY a (hX d) (hY d)
  have q2 := sq_bd hX hY b (hX d) (hY d)
  have q3 := sq_bd hX hY c (hX d) (hY d)
  have h1 := mul_bd (A := 800000000) (B := 800000000) (a := sq X Y a (X d) (Y d)) (by omega) (lo_bd hX hY b c (hX d) (hY d))
  have h2 := mul_bd (A := 800000000) (B := 800000000) (a := sq X Y b (X d) (Y d)) (by omega) (lo_bd hX hY c a (hX d) (hY d))
  have h3 := mul_bd (A := 800000000) (B := 800000000) (a := sq X Y c (X d) (Y d)) (by omega) (lo_bd hX hY a b (hX d) (hY d))
  unfold wsum
  omega
theorem wi_bd {X Y : Nat → Int} (hX : ∀ i, -10000 ≤ X i ∧ X i ≤ 10000) (hY : ∀ i, -10000 ≤ Y i ∧ Y i ≤ 10000) (a b c d : Nat) : -1920000000000000000 ≤ wi X Y a b c d ∧ wi X Y a b c d ≤ 1920000000000000000 := by
  have := wsum_bd hX hY a b c d
  unfold wi
  split <;> omega
theorem jv_mmin {p : Program} {l : Launch} {e : Env} {R : Room} {s : State} {m : MethodId} {args : Array Value} {below : List Frame} {meth : Method} {c : Code} {H : Heap} {locs : List Loc} {cells slots : Nat} {Q : State → Prop} {cc : ByteArray} {pc nL idx : Nat} {ls : Array Slot} {rest : List Value} {own : String} (C : CallFix p m c cc nL s args TB own) {a b z : Int} (hlink : Cond.methodLink own idx ⟨"java/lang/Math", "min", "(II)I"⟩ ∈ TB) (hls : ls.size = nL) (h : R3 a ∧ R3 b) (hz : min a b = z) (hR : 1 ≤ R.frames ∧ 21 ≤ R.locals ∧ cells ≤ R.cells ∧ slots ≤ R.slots) (hro : (rest.map fun v => v.category).sum ≤ 8) (hdg : decode cc pc = .ok (.invokestatic idx, 3))
    (kk : W p l e R s m args below meth c H locs cells slots Q (F0 m (pc + 3) ls (.int (J z) :: rest))) : W p l e R s m args below meth c H locs cells slots Q (F0 m pc ls (.int (J b) :: .int (J a) :: rest)) := by
  refine va_mmin C.1 C.2.1 (by rw [C.2.2.1, hls]) C.2.2.2.1 (C.2.2.2.2 _ hlink) (C.2.2.2.2 _ mw_258) (C.2.2.2.2 _ mw_7) (C.2.2.2.2 _ mw_259) hR.1 (by have := hR.2.1; omega) hR.2.2.1 hR.2.2.2 hdg ?_
  have e : (if J b < J a then J b else J a) = J z := by
    rw [← hz]
    by_cases q : b < a
    · rw [if_pos ((J_lt h.2 h.1).mpr q), show min a b = b by omega]
    · rw [if_neg (fun w => q ((J_lt h.2 h.1).mp w)), show min a b = a by omega]
  rw [e]
  exact kk
theorem jv_mmax {p : Program} {l : Launch} {e : Env} {R : Room} {s : State} {m : MethodId} {args : Array Value} {below : List Frame} {meth : Method} {c : Code} {H : Heap} {locs : List Loc} {cells slots : Nat} {Q : State → Prop} {cc : ByteArray} {pc nL idx : Nat} {ls : Array Slot} {rest : List Value} {own : String} (C : CallFix p m c cc nL s args TB own) {a b z : Int} (hlink : Cond.methodLink own idx ⟨"java/lang/Math", "max", "(II)I"⟩ ∈ TB) (hls : ls.size = nL) (h : R3 a ∧ R3 b) (hz : max a b = z) (hR : 1 ≤ R.frames ∧ 21 ≤ R.locals ∧ cells ≤ R.cells ∧ slots ≤ R.slots) (hro : (rest.map fun v => v.category).sum ≤ 8) (hdg : decode cc pc = .ok (.invokestatic idx, 3))
    (kk : W p l e R s m args below meth c H locs cells slots Q (F0 m (pc + 3) ls (.int (J z) :: rest))) : W p l e R s m args below meth c H locs cells slots Q (F0 m pc ls (.int (J b) :: .int (J a) :: rest)) := by
  refine va_mmax C.1 C.2.1 (by rw [C.2.2.1, hls]) C.2.2.2.1 (C.2.2.2.2 _ hlink) (C.2.2.2.2 _ mw_273) (C.2.2.2.2 _ mw_7) (C.2.2.2.2 _ mw_274) hR.1 (by have := hR.2.1; omega) hR.2.2.1 hR.2.2.2 hdg ?_
  have e : (if J a < J b then J b else J a) = J z := by
    rw [← hz]
    by_cases q : a < b
    · rw [if_pos ((J_lt h.1 h.2).mpr q), show max a b = b by omega]
    · rw [if_neg (fun w => q ((J_lt h.1 h.2).mp w)), show max a b = a by omega]
  rw [e]
  exact kk
/-- the first place from i on, below n, where P holds -/
def ff (P : Nat → Bool) (n i : Nat) : Option Nat := if i < n then (if P i then some i else ff P n (i + 1)) else none
termination_by n - i
theorem ff_end {P : Nat → Bool} {n i : Nat} (h : n ≤ i) : ff P n i = none := by rw [ff, if_neg (by omega)]
theorem ff_hit {P : Nat → Bool} {n i : Nat} (h : i < n) (hp : P i = true) : ff P n i = some i := by rw [ff, if_pos h, if_pos hp]
theorem ff_go {P : Nat → Bool} {n i : Nat} (h : i < n) (hp : P i = false) : ff P n i = ff P n (i + 1) := by rw [ff, if_pos h, if_neg (by rw [hp]; decide)]
/-- how many places from i on, below n, where P holds -/
def cn (P : Nat → Bool) (n i : Nat) : Nat := if i < n then (if P i then 1 else 0) + cn P n (i + 1) else 0
termination_by n - i
theorem cn_end {P : Nat → Bool} {n i : Nat} (h : n ≤ i) : cn P n i = 0 := by rw [cn, if_neg (by omega)]
theorem cn_hit {P : Nat → Bool} {n i : Nat} (h : i < n) (hp : P i = true) : cn P n i = 1 + cn P n (i + 1) := by rw [cn, if_pos h, if_pos hp]
theorem cn_go {P : Nat → Bool} {n i : Nat} (h : i < n) (hp : P i = false) : cn P n i = cn P n (i + 1) := by rw [cn, if_pos h, if_neg (by rw [hp]; decide), Nat.zero_add]
theorem cn_le (P : Nat → Bool) (n : Nat) : ∀ (k i : Nat), n ≤ i + k → cn P n i ≤ k := by
  intro k
  induction k with
  | zero => intro i h; rw [cn_end (by omega)]; omega
  | succ k ih =>
    intro i h
    rcases Nat.lt_or_ge i n with q | q
    · rw [cn, if_pos q]
      have := ih (i + 1) (by omega)
      split <;> omega
    · rw [cn_end q]; omega
def oI (d : Int) (o : Option Nat) : Int := match o with
  | some k => (k : Int)
  | none => d
def atP (X Y : Nat → Int) (T : Nat → Bool) (x y : Int) (p : Nat) : Bool := T p && (decide (X p = x) && decide (Y p = y))
def offP (X Y : Nat → Int) (O : Nat → Nat) (i : Nat) : Bool := decide (le3 X Y (O 0) (O 1) (O i) ≠ 0)
def fol (X Y : Nat → Int) (O : Nat → Nat) (pres : Nat) : Nat := (ff (offP X Y O) pres 2).getD pres
def raP (X Y : Nat → Int) (O : Nat → Nat) (p q : Nat) (i : Nat) : Bool := decide (O i ≠ p) && (decide (O i ≠ q) && eara X Y p (O i) q)
section PTS
variable {l : Launch} {D : va_G} {cI cZ : ClassId} {pp ax ay at_ ao : Nat} {X Y : Nat → Int} {T : Nat → Bool} {O : Nat → Nat} {told pres : Nat}

set_option maxRecDepth 20000 in
theorem c_X2_isFull  (hB : PB X Y O told pres)  : cR l yX2_isFull cX2_isFull 1 (some .boolean) 0 0 D (tyz cI cZ) [.ref pp] (wPts cI cZ pp ax ay at_ ao X Y T O told pres) (some (.int (J (b2i (decide (40 ≤ told)))))) := by
  refine cR_of (owner := RX2) rfl (by decide) (Nat.le_of_ble_eq_true rfl) ?_
  intro p e s m args below meth c ls C hlk hr hK hP hl
  have hl : lv_has ls 1 [(0, .ref pp)] := hl
  obtain ⟨hX, hY, hO, htd, hps⟩ := hB
  refine lv_aload_n C.1 C.2.1 dX2_isFull_0 rfl (lv_at hl 0 rfl) ?_
  refine jv_get C fw_X2_25 hK hP 0 rfl rfl dX2_isFull_1 ?_
  refine jv_bipush C dX2_isFull_4 rfl ?_
  refine jv_icmp_lt (tgt := 13) C dX2_isFull_6 (by decide) (by omega) (fun h1 => ?_) (fun h1 => ?_)
  · refine jv_iconst C dX2_isFull_13 ?_
    exact jv_zret C hlk hr dX2_isFull_14 (by grind [b2i])
  · refine jv_iconst C dX2_isFull_9 ?_
    refine lv_goto (tgt := 14) C.1 C.2.1 dX2_isFull_10 (by decide) ?_
    exact jv_zret C hlk hr dX2_isFull_14 (by grind [b2i])
set_option maxRecDepth 20000 in
theorem c_X2_isThere {z : Int} (hB : PB X Y O told pres) (hz : R3 z) : cR l yX2_isThere cX2_isThere 2 (some .boolean) 0 0 D (tyz cI cZ) [.ref pp, .int (J z)] (wPts cI cZ pp ax ay at_ ao X Y T O told pres) (some (.int (J (b2i (thr T told z))))) := by
  refine cR_of (owner := RX2) rfl (by decide) (Nat.le_of_ble_eq_true rfl) ?_
  intro p e s m args below meth c ls C hlk hr hK hP hl
  have hl : lv_has ls 2 [(0, .ref pp), (1, .int (J z))] := hl
  obtain ⟨hX, hY, hO, htd, hps⟩ := hB
  refine lv_iload_n C.1 C.2.1 dX2_isThere_0 rfl (lv_at hl 1 rfl) ?_
  refine jv_if_lt (tgt := 25) C dX2_isThere_1 (by decide) (by omega) (fun h1 => ?_) (fun h1 => ?_)
  · refine jv_iconst C dX2_isThere_25 ?_
    exact jv_zret C hlk hr dX2_isThere_26 (by grind [thr, b2i])
  · refine lv_iload_n C.1 C.2.1 dX2_isThere_4 rfl (lv_at hl 1 rfl) ?_
    refine lv_aload_n C.1 C.2.1 dX2_isThere_5 rfl (lv_at hl 0 rfl) ?_
    refine jv_get C fw_X2_25 hK hP 0 rfl rfl dX2_isThere_6 ?_
    refine jv_icmp_ge (tgt := 25) C dX2_isThere_9 (by decide) (by omega) (fun h2 => ?_) (fun h2 => ?_)
    · refine jv_iconst C dX2_isThere_25 ?_
      exact jv_zret C hlk hr dX2_isThere_26 (by grind [thr, b2i])
    · refine lv_aload_n C.1 C.2.1 dX2_isThere_12 rfl (lv_at hl 0 rfl) ?_
      refine jv_get C fw_X2_18 hK hP 0 rfl rfl dX2_isThere_13 ?_
      refine lv_iload_n C.1 C.2.1 dX2_isThere_16 rfl (lv_at hl 1 rfl) ?_
      refine jv_zald C hK hP 3 1 rfl rfl (z.toNat) (by omega) (by omega) (by decide) dX2_isThere_17 ?_
      refine jv_bif_eq (tgt := 25) C dX2_isThere_18 (by decide) (fun h3 => ?_) (fun h3 => ?_)
      · refine jv_iconst C dX2_isThere_25 ?_
        exact jv_zret C hlk hr dX2_isThere_26 (by grind [thr, b2i])
      · refine jv_iconst C dX2_isThere_21 ?_
        refine lv_goto (tgt := 26) C.1 C.2.1 dX2_isThere_22 (by decide) ?_
        exact jv_zret C hlk hr dX2_isThere_26 (by grind [thr, b2i])
set_option maxRecDepth 20000 in
theorem c_X2_comesEarlier {a b : Nat} (hB : PB X Y O told pres) (ha : a < 40) (hb : b < 40) : cR l yX2_comesEarlier cX2_comesEarlier 3 (some .boolean) 0 0 D (tyz cI cZ) [.ref pp, .int (J ((a : Nat) : Int)), .int (J ((b : Nat) : Int))] (wPts cI cZ pp ax ay at_ ao X Y T O told pres) (some (.int (J (b2i (ear X Y a b))))) := by
  refine cR_of (owner := RX2) rfl (by decide) (Nat.le_of_ble_eq_true rfl) ?_
  intro p e s m args below meth c ls C hlk hr hK hP hl
  have hl : lv_has ls 3 [(0, .ref pp), (1, .int (J ((a : Nat) : Int))), (2, .int (J ((b : Nat) : Int)))] := hl
  obtain ⟨hX, hY, hO, htd, hps⟩ := hB
  refine lv_aload_n C.1 C.2.1 dX2_comesEarlier_0 rfl (lv_at hl 0 rfl) ?_
  refine jv_get C fw_X2_9 hK hP 0 rfl rfl dX2_comesEarlier_1 ?_
  refine lv_iload_n C.1 C.2.1 dX2_comesEarlier_4 rfl (lv_at hl 1 rfl) ?_
  refine jv_iald C hK hP 1 0 rfl rfl (a) (by omega) (by omega) (by decide) dX2_comesEarlier_5 ?_
  have f1 := hX a
  refine lv_aload_n C.1 C.2.1 dX2_comesEarlier_6 rfl (lv_at hl 0 rfl) ?_
  refine jv_get C fw_X2_9 hK hP 0 rfl rfl dX2_comesEarlier_7 ?_
  refine lv_iload_n C.1 C.2.1 dX2_comesEarlier_10 rfl (lv_at hl 2 rfl) ?_
  refine jv_iald C hK hP 1 0 rfl rfl (b) (by omega) (by omega) (by decide) dX2_comesEarlier_11 ?_
  have f2 := hX b
  refine jv_icmp_lt (tgt := 45) C dX2_comesEarlier_12 (by decide) (by omega) (fun h3 => ?_) (fun h3 => ?_)
  · refine jv_iconst C dX2_comesEarlier_45 ?_
    refine lv_goto (tgt := 50) C.1 C.2.1 dX2_comesEarlier_46 (by decide) ?_
    exact jv_zret C hlk hr dX2_comesEarlier_50 (by grind [ear, b2i])
  · refine lv_aload_n C.1 C.2.1 dX2_comesEarlier_15 rfl (lv_at hl 0 rfl) ?_
    refine jv_get C fw_X2_9 hK hP 0 rfl rfl dX2_comesEarlier_16 ?_
    refine lv_iload_n C.1 C.2.1 dX2_comesEarlier_19 rfl (lv_at hl 1 rfl) ?_
    refine jv_iald C hK hP 1 0 rfl rfl (a) (by omega) (by omega) (by decide) dX2_comesEarlier_20 ?_
    have f4 := hX a
    refine lv_aload_n C.1 C.2.1 dX2_comesEarlier_21 rfl (lv_at hl 0 rfl) ?_
    refine jv_get C fw_X2_9 hK hP 0 rfl rfl dX2_comesEarlier_22 ?_
    refine lv_iload_n C.1 C.2.1 dX2_comesEarlier_25 rfl (lv_at hl 2 rfl) ?_
    refine jv_iald C hK hP 1 0 rfl rfl (b) (by omega) (by omega) (by decide) dX2_comesEarlier_26 ?_
    have f5 := hX b
    refine jv_icmp_ne (tgt := 49) C dX2_comesEarlier_27 (by decide) (by omega) (fun h6 => ?_) (fun h6 => ?_)
    · refine jv_iconst C dX2_comesEarlier_49 ?_
      exact jv_zret C hlk hr dX2_comesEarlier_50 (by grind [ear, b2i])
    · refine lv_aload_n C.1 C.2.1 dX2_comesEarlier_30 rfl (lv_at hl 0 rfl) ?_
      refine jv_get C fw_X2_15 hK hP 0 rfl rfl dX2_comesEarlier_31 ?_
      refine lv_iload_n C.1 C.2.1 dX2_comesEarlier_34 rfl (lv_at hl 1 rfl) ?_
      refine jv_iald C hK hP 2 0 rfl rfl (a) (by omega) (by omega) (by decide) dX2_comesEarlier_35 ?_
      have f7 := hY a
      refine lv_aload_n C.1 C.2.1 dX2_comesEarlier_36 rfl (lv_at hl 0 rfl) ?_
      refine jv_get C fw_X2_15 hK hP 0 rfl rfl dX2_comesEarlier_37 ?_
      refine lv_iload_n C.1 C.2.1 dX2_comesEarlier_40 rfl (lv_at hl 2 rfl) ?_
      refine jv_iald C hK hP 2 0 rfl rfl (b) (by omega) (by omega) (by decide) dX2_comesEarlier_41 ?_
      have f8 := hY b
      refine jv_icmp_ge (tgt := 49) C dX2_comesEarlier_42 (by decide) (by omega) (fun h9 => ?_) (fun h9 => ?_)
      · refine jv_iconst C dX2_comesEarlier_49 ?_
        exact jv_zret C hlk hr dX2_comesEarlier_50 (by grind [ear, b2i])
      · refine jv_iconst C dX2_comesEarlier_45 ?_
        refine lv_goto (tgt := 50) C.1 C.2.1 dX2_comesEarlier_46 (by decide) ?_
        exact jv_zret C hlk hr dX2_comesEarlier_50 (by grind [ear, b2i])
set_option maxRecDepth 20000 in
theorem c_X2_leftnessOf {a b : Nat} {x y : Int} (hB : PB X Y O told pres) (ha : a < 40) (hb : b < 40) (hx : -10000 ≤ x ∧ x ≤ 10000) (hy : -10000 ≤ y ∧ y ≤ 10000) : cR l yX2_leftnessOf cX2_leftnessOf 5 (some .long) 0 0 D (tyz cI cZ) [.ref pp, .int (J ((a : Nat) : Int)), .int (J ((b : Nat) : Int)), .int (J x), .int (J y)] (wPts cI cZ pp ax ay at_ ao X Y T O told pres) (some (.long (Lg (lo X Y a b x y)))) := by
  refine cR_of (owner := RX2) rfl (by decide) (Nat.le_of_ble_eq_true rfl) ?_
  intro p e s m args below meth c ls C hlk hr hK hP hl
  have hl : lv_has ls 5 [(0, .ref pp), (1, .int (J ((a : Nat) : Int))), (2, .int (J ((b : Nat) : Int))), (3, .int (J x)), (4, .int (J y))] := hl
  obtain ⟨hX, hY, hO, htd, hps⟩ := hB
  refine lv_aload_n C.1 C.2.1 dX2_leftnessOf_0 rfl (lv_at hl 0 rfl) ?_
  refine jv_get C fw_X2_9 hK hP 0 rfl rfl dX2_leftnessOf_1 ?_
  refine lv_iload_n C.1 C.2.1 dX2_leftnessOf_4 rfl (lv_at hl 2 rfl) ?_
  refine jv_iald C hK hP 1 0 rfl rfl (b) (by omega) (by omega) (by decide) dX2_leftnessOf_5 ?_
  have f1 := hX b
  refine lv_aload_n C.1 C.2.1 dX2_leftnessOf_6 rfl (lv_at hl 0 rfl) ?_
  refine jv_get C fw_X2_9 hK hP 0 rfl rfl dX2_leftnessOf_7 ?_
  refine lv_iload_n C.1 C.2.1 dX2_leftnessOf_10 rfl (lv_at hl 1 rfl) ?_
  refine jv_iald C hK hP 1 0 rfl rfl (a) (by omega) (by omega) (by decide) dX2_leftnessOf_11 ?_
  have f2 := hX a
  refine jv_isub (z := (X b) - (X a)) C dX2_leftnessOf_12 (rfl) ?_
  refine jv_i2l C dX2_leftnessOf_13 (by omega) ?_
  refine lv_iload C.1 C.2.1 dX2_leftnessOf_14 (lv_at hl 4 rfl) ?_
  refine lv_aload_n C.1 C.2.1 dX2_leftnessOf_16 rfl (lv_at hl 0 rfl) ?_
  refine jv_get C fw_X2_15 hK hP 0 rfl rfl dX2_leftnessOf_17 ?_
  refine lv_iload_n C.1 C.2.1 dX2_leftnessOf_20 rfl (lv_at hl 1 rfl) ?_
  refine jv_iald C hK hP 2 0 rfl rfl (a) (by omega) (by omega) (by decide) dX2_leftnessOf_21 ?_
  have f3 := hY a
  refine jv_isub (z := y - (Y a)) C dX2_leftnessOf_22 (rfl) ?_
  refine jv_i2l C dX2_leftnessOf_23 (by omega) ?_
  refine jv_lmul (z := ((X b) - (X a)) * (y - (Y a))) C dX2_leftnessOf_24 (rfl) ?_
  refine lv_aload_n C.1 C.2.1 dX2_leftnessOf_25 rfl (lv_at hl 0 rfl) ?_
  refine jv_get C fw_X2_15 hK hP 0 rfl rfl dX2_leftnessOf_26 ?_
  refine lv_iload_n C.1 C.2.1 dX2_leftnessOf_29 rfl (lv_at hl 2 rfl) ?_
  refine jv_iald C hK hP 2 0 rfl rfl (b) (by omega) (by omega) (by decide) dX2_leftnessOf_30 ?_
  have f4 := hY b
  refine lv_aload_n C.1 C.2.1 dX2_leftnessOf_31 rfl (lv_at hl 0 rfl) ?_
  refine jv_get C fw_X2_15 hK hP 0 rfl rfl dX2_leftnessOf_32 ?_
  refine lv_iload_n C.1 C.2.1 dX2_leftnessOf_35 rfl (lv_at hl 1 rfl) ?_
  refine jv_iald C hK hP 2 0 rfl rfl (a) (by omega) (by omega) (by decide) dX2_leftnessOf_36 ?_
  have f5 := hY a
  refine jv_isub (z := (Y b) - (Y a)) C dX2_leftnessOf_37 (rfl) ?_
  refine jv_i2l C dX2_leftnessOf_38 (by omega) ?_
  refine lv_iload_n C.1 C.2.1 dX2_leftnessOf_39 rfl (lv_at hl 3 rfl) ?_
  refine lv_aload_n C.1 C.2.1 dX2_leftnessOf_40 rfl (lv_at hl 0 rfl) ?_
  refine jv_get C fw_X2_9 hK hP 0 rfl rfl dX2_leftnessOf_41 ?_
  refine lv_iload_n C.1 C.2.1 dX2_leftnessOf_44 rfl (lv_at hl 1 rfl) ?_
  refine jv_iald C hK hP 1 0 rfl rfl (a) (by omega) (by omega) (by decide) dX2_leftnessOf_45 ?_
  have f6 := hX a
  refine jv_isub (z := x - (X a)) C dX2_leftnessOf_46 (rfl) ?_
  refine jv_i2l C dX2_leftnessOf_47 (by omega) ?_
  refine jv_lmul (z := ((Y b) - (Y a)) * (x - (X a))) C dX2_leftnessOf_48 (rfl) ?_
  refine jv_lsub (z := (((X b) - (X a)) * (y - (Y a))) - (((Y b) - (Y a)) * (x - (X a)))) C dX2_leftnessOf_49 (rfl) ?_
  exact jv_lret C hlk hr dX2_leftnessOf_50 (rfl)
set_option maxRecDepth 20000 in
theorem c_X2_leftness {a b k : Nat} (hB : PB X Y O told pres) (ha : a < 40) (hb : b < 40) (hk : k < 40) : cR l yX2_leftness cX2_leftness 4 (some .long) 1 24 D (tyz cI cZ) [.ref pp, .int (J ((a : Nat) : Int)), .int (J ((b : Nat) : Int)), .int (J ((k : Nat) : Int))] (wPts cI cZ pp ax ay at_ ao X Y T O told pres) (some (.long (Lg (le3 X Y a b k)))) := by
  refine cR_of (owner := RX2) rfl (by decide) (Nat.le_of_ble_eq_true rfl) ?_
  intro p e s m args below meth c ls C hlk hr hK hP hl
  have hl : lv_has ls 4 [(0, .ref pp), (1, .int (J ((a : Nat) : Int))), (2, .int (J ((b : Nat) : Int))), (3, .int (J ((k : Nat) : Int)))] := hl
  obtain ⟨hX, hY, hO, htd, hps⟩ := hB
  refine lv_aload_n C.1 C.2.1 dX2_leftness_0 rfl (lv_at hl 0 rfl) ?_
  refine lv_iload_n C.1 C.2.1 dX2_leftness_1 rfl (lv_at hl 1 rfl) ?_
  refine lv_iload_n C.1 C.2.1 dX2_leftness_2 rfl (lv_at hl 2 rfl) ?_
  refine lv_aload_n C.1 C.2.1 dX2_leftness_3 rfl (lv_at hl 0 rfl) ?_
  refine jv_get C fw_X2_9 hK hP 0 rfl rfl dX2_leftness_4 ?_
  refine lv_iload_n C.1 C.2.1 dX2_leftness_7 rfl (lv_at hl 3 rfl) ?_
  refine jv_iald C hK hP 1 0 rfl rfl (k) (by omega) (by omega) (by decide) dX2_leftness_8 ?_
  have f1 := hX k
  refine lv_aload_n C.1 C.2.1 dX2_leftness_9 rfl (lv_at hl 0 rfl) ?_
  refine jv_get C fw_X2_15 hK hP 0 rfl rfl dX2_leftness_10 ?_
  refine lv_iload_n C.1 C.2.1 dX2_leftness_13 rfl (lv_at hl 3 rfl) ?_
  refine jv_iald C hK hP 2 0 rfl rfl (k) (by omega) (by omega) (by decide) dX2_leftness_14 ?_
  have f2 := hY k
  refine jv_rdV (ni := 4) (ci := 2) (q0 := 0) C [.int (J ((a : Nat) : Int)), .int (J ((b : Nat) : Int)), .int (J (X k)), .int (J (Y k))] [] (c_X2_leftnessOf (a := a) (b := b) (x := X k) (y := Y k) ⟨hX, hY, hO, htd, hps⟩ (by omega) (by omega) (by omega) (by omega)) gv_X2_48 (by decide +kernel) (by decide) hK (hP) rfl rfl rfl hl.1 (by simp [Value.category]) dX2_leftness_15 (by decide) ?_ rfl
  show W _ _ _ _ _ _ _ _ _ _ _ _ _ _ _ (F0 m 18 ls [.long (Lg (lo X Y a b (X k) (Y k)))])
  exact jv_lret C hlk hr dX2_leftness_18 (rfl)
set_option maxRecDepth 20000 in
theorem c_X2_squareTo {a : Nat} {x y : Int} (hB : PB X Y O told pres) (ha : a < 40) (hx : -10000 ≤ x ∧ x ≤ 10000) (hy : -10000 ≤ y ∧ y ≤ 10000) : cR l yX2_squareTo cX2_squareTo 8 (some .long) 0 0 D (tyz cI cZ) [.ref pp, .int (J ((a : Nat) : Int)), .int (J x), .int (J y)] (wPts cI cZ pp ax ay at_ ao X Y T O told pres) (some (.long (Lg (sq X Y a x y)))) := by
  refine cR_of (owner := RX2) rfl (by decide) (Nat.le_of_ble_eq_true rfl) ?_
  intro p e s m args below meth c ls C hlk hr hK hP hl
  have hl : lv_has ls 8 [(0, .ref pp), (1, .int (J ((a : Nat) : Int))), (2, .int (J x)), (3, .int (J y))] := hl
  obtain ⟨hX, hY, hO, htd, hps⟩ := hB
  refine lv_aload_n C.1 C.2.1 dX2_squareTo_0 rfl (lv_at hl 0 rfl) ?_
  refine jv_get C fw_X2_9 hK hP 0 rfl rfl dX2_squareTo_1 ?_
  refine lv_iload_n C.1 C.2.1 dX2_squareTo_4 rfl (lv_at hl 1 rfl) ?_
  refine jv_iald C hK hP 1 0 rfl rfl (a) (by omega) (by omega) (by decide) dX2_squareTo_5 ?_
  have f1 := hX a
  refine lv_iload_n C.1 C.2.1 dX2_squareTo_6 rfl (lv_at hl 2 rfl) ?_
  refine jv_isub (z := (X a) - x) C dX2_squareTo_7 (rfl) ?_
  refine jv_i2l C dX2_squareTo_8 (by omega) ?_
  refine lv_lstore (lv' := [(4, .long (Lg ((X a) - x))), (0, .ref pp), (1, .int (J ((a : Nat) : Int))), (2, .int (J x)), (3, .int (J y))]) C.1 C.2.1 dX2_squareTo_9 hl (by decide) rfl (fun ls hl => ?_)
  refine lv_aload_n C.1 C.2.1 dX2_squareTo_11 rfl (lv_at hl 1 rfl) ?_
  refine jv_get C fw_X2_15 hK hP 0 rfl rfl dX2_squareTo_12 ?_
  refine lv_iload_n C.1 C.2.1 dX2_squareTo_15 rfl (lv_at hl 2 rfl) ?_
  refine jv_iald C hK hP 2 0 rfl rfl (a) (by omega) (by omega) (by decide) dX2_squareTo_16 ?_
  have f2 := hY a
  refine lv_iload_n C.1 C.2.1 dX2_squareTo_17 rfl (lv_at hl 4 rfl) ?_
  refine jv_isub (z := (Y a) - y) C dX2_squareTo_18 (rfl) ?_
  refine jv_i2l C dX2_squareTo_19 (by omega) ?_
  refine lv_lstore (lv' := [(6, .long (Lg ((Y a) - y))), (4, .long (Lg ((X a) - x))), (0, .ref pp), (1, .int (J ((a : Nat) : Int))), (2, .int (J x)), (3, .int (J y))]) C.1 C.2.1 dX2_squareTo_20 hl (by decide) rfl (fun ls hl => ?_)
  refine lv_lload C.1 C.2.1 dX2_squareTo_22 (lv_at hl 1 rfl) ?_
  refine lv_lload C.1 C.2.1 dX2_squareTo_24 (lv_at hl 1 rfl) ?_
  refine jv_lmul (z := ((X a) - x) * ((X a) - x)) C dX2_squareTo_26 (rfl) ?_
  refine lv_lload C.1 C.2.1 dX2_squareTo_27 (lv_at hl 0 rfl) ?_
  refine lv_lload C.1 C.2.1 dX2_squareTo_29 (lv_at hl 0 rfl) ?_
  refine jv_lmul (z := ((Y a) - y) * ((Y a) - y)) C dX2_squareTo_31 (rfl) ?_
  refine jv_ladd (z := (((X a) - x) * ((X a) - x)) + (((Y a) - y) * ((Y a) - y))) C dX2_squareTo_32 (rfl) ?_
  exact jv_lret C hlk hr dX2_squareTo_33 (rfl)
set_option maxRecDepth 20000 in
theorem c_X2_withinness {a b k d : Nat} (hB : PB X Y O told pres) (ha : a < 40) (hb : b < 40) (hk : k < 40) (hd : d < 40) : cR l yX2_withinness cX2_withinness 9 (some .long) 1 27 D (tyz cI cZ) [.ref pp, .int (J ((a : Nat) : Int)), .int (J ((b : Nat) : Int)), .int (J ((k : Nat) : Int)), .int (J ((d : Nat) : Int))] (wPts cI cZ pp ax ay at_ ao X Y T O told pres) (some (.long (Lg (wi X Y a b k d)))) := by
  refine cR_of (owner := RX2) rfl (by decide) (Nat.le_of_ble_eq_true rfl) ?_
  intro p e s m args below meth c ls C hlk hr hK hP hl
  have hl : lv_has ls 9 [(0, .ref pp), (1, .int (J ((a : Nat) : Int))), (2, .int (J ((b : Nat) : Int))), (3, .int (J ((k : Nat) : Int))), (4, .int (J ((d : Nat) : Int)))] := hl
  obtain ⟨hX, hY, hO, htd, hps⟩ := hB
  refine lv_aload_n C.1 C.2.1 dX2_withinness_0 rfl (lv_at hl 0 rfl) ?_
  refine jv_get C fw_X2_9 hK hP 0 rfl rfl dX2_withinness_1 ?_
  refine lv_iload C.1 C.2.1 dX2_withinness_4 (lv_at hl 4 rfl) ?_
  refine jv_iald C hK hP 1 0 rfl rfl (d) (by omega) (by omega) (by decide) dX2_withinness_6 ?_
  have f1 := hX d
  refine lv_istore (lv' := [(5, .int (J (X d))), (0, .ref pp), (1, .int (J ((a : Nat) : Int))), (2, .int (J ((b : Nat) : Int))), (3, .int (J ((k : Nat) : Int))), (4, .int (J ((d : Nat) : Int)))]) C.1 C.2.1 dX2_withinness_7 hl (by decide) rfl (fun ls hl => ?_)
  refine lv_aload_n C.1 C.2.1 dX2_withinness_9 rfl (lv_at hl 1 rfl) ?_
  refine jv_get C fw_X2_15 hK hP 0 rfl rfl dX2_withinness_10 ?_
  refine lv_iload C.1 C.2.1 dX2_withinness_13 (lv_at hl 5 rfl) ?_
  refine jv_iald C hK hP 2 0 rfl rfl (d) (by omega) (by omega) (by decide) dX2_withinness_15 ?_
  have f2 := hY d
  refine lv_istore (lv' := [(6, .int (J (Y d))), (5, .int (J (X d))), (0, .ref pp), (1, .int (J ((a : Nat) : Int))), (2, .int (J ((b : Nat) : Int))), (3, .int (J ((k : Nat) : Int))), (4, .int (J ((d : Nat) : Int)))]) C.1 C.2.1 dX2_withinness_16 hl (by decide) rfl (fun ls hl => ?_)
  refine lv_aload_n C.1 C.2.1 dX2_withinness_18 rfl (lv_at hl 2 rfl) ?_
  refine lv_iload_n C.1 C.2.1 dX2_withinness_19 rfl (lv_at hl 3 rfl) ?_
  refine lv_iload C.1 C.2.1 dX2_withinness_20 (lv_at hl 1 rfl) ?_
  refine lv_iload C.1 C.2.1 dX2_withinness_22 (lv_at hl 0 rfl) ?_
  refine jv_rdV (ni := 3) (ci := 2) (q0 := 0) C [.int (J ((a : Nat) : Int)), .int (J (X d)), .int (J (Y d))] [] (c_X2_squareTo (a := a) (x := X d) (y := Y d) ⟨hX, hY, hO, htd, hps⟩ (by omega) (by omega) (by omega)) gv_X2_52 (by decide +kernel) (by decide) hK (hP) rfl rfl rfl hl.1 (by simp [Value.category]) dX2_withinness_24 (by decide) ?_ rfl
  show W _ _ _ _ _ _ _ _ _ _ _ _ _ _ _ (F0 m 27 ls [.long (Lg (sq X Y a (X d) (Y d)))])
  have f3 := sq_bd hX hY a (x := X d) (y := Y d) (by omega) (by omega)
  refine lv_aload_n C.1 C.2.1 dX2_withinness_27 rfl (lv_at hl 2 rfl) ?_
  refine lv_iload_n C.1 C.2.1 dX2_withinness_28 rfl (lv_at hl 4 rfl) ?_
  refine lv_iload_n C.1 C.2.1 dX2_withinness_29 rfl (lv_at hl 5 rfl) ?_
  refine lv_iload C.1 C.2.1 dX2_withinness_30 (lv_at hl 1 rfl) ?_
  refine lv_iload C.1 C.2.1 dX2_withinness_32 (lv_at hl 0 rfl) ?_
  refine jv_rdV (ni := 4) (ci := 2) (q0 := 0) C [.int (J ((b : Nat) : Int)), .int (J ((k : Nat) : Int)), .int (J (X d)), .int (J (Y d))] [.long (Lg (sq X Y a (X d) (Y d)))] (c_X2_leftnessOf (a := b) (b := k) (x := X d) (y := Y d) ⟨hX, hY, hO, htd, hps⟩ (by omega) (by omega) (by omega) (by omega)) gv_X2_48 (by decide +kernel) (by decide) hK (hP) rfl rfl rfl hl.1 (by simp [Value.category]) dX2_withinness_34 (by decide) ?_ rfl
  show W _ _ _ _ _ _ _ _ _ _ _ _ _ _ _ (F0 m 37 ls [.long (Lg (lo X Y b k (X d) (Y d))), .long (Lg (sq X Y a (X d) (Y d)))])
  have f4 := lo_bd hX hY b k (x := X d) (y := Y d) (by omega) (by omega)
  refine jv_lmul (z := (sq X Y a (X d) (Y d)) * (lo X Y b k (X d) (Y d))) C dX2_withinness_37 (rfl) ?_
  refine lv_aload_n C.1 C.2.1 dX2_withinness_38 rfl (lv_at hl 2 rfl) ?_
  refine lv_iload_n C.1 C.2.1 dX2_withinness_39 rfl (lv_at hl 4 rfl) ?_
  refine lv_iload C.1 C.2.1 dX2_withinness_40 (lv_at hl 1 rfl) ?_
  refine lv_iload C.1 C.2.1 dX2_withinness_42 (lv_at hl 0 rfl) ?_
  refine jv_rdV (ni := 3) (ci := 2) (q0 := 0) C [.int (J ((b : Nat) : Int)), .int (J (X d)), .int (J (Y d))] [.long (Lg ((sq X Y a (X d) (Y d)) * (lo X Y b k (X d) (Y d))))] (c_X2_squareTo (a := b) (x := X d) (y := Y d) ⟨hX, hY, hO, htd, hps⟩ (by omega) (by omega) (by omega)) gv_X2_52 (by decide +kernel) (by decide) hK (hP) rfl rfl rfl hl.1 (by simp [Value.category]) dX2_withinness_44 (by decide) ?_ rfl
  show W _ _ _ _ _ _ _ _ _ _ _ _ _ _ _ (F0 m 47 ls [.long (Lg (sq X Y b (X d) (Y d))), .long (Lg ((sq X Y a (X d) (Y d)) * (lo X Y b k (X d) (Y d))))])
  have f5 := sq_bd hX hY b (x := X d) (y := Y d) (by omega) (by omega)
  refine lv_aload_n C.1 C.2.1 dX2_withinness_47 rfl (lv_at hl 2 rfl) ?_
  refine lv_iload_n C.1 C.2.1 dX2_withinness_48 rfl (lv_at hl 5 rfl) ?_
  refine lv_iload_n C.1 C.2.1 dX2_withinness_49 rfl (lv_at hl 3 rfl) ?_
  refine lv_iload C.1 C.2.1 dX2_withinness_50 (lv_at hl 1 rfl) ?_
  refine lv_iload C.1 C.2.1 dX2_withinness_52 (lv_at hl 0 rfl) ?_
  refine jv_rdV (ni := 4) (ci := 2) (q0 := 0) C [.int (J ((k : Nat) : Int)), .int (J ((a : Nat) : Int)), .int (J (X d)), .int (J (Y d))] [.long (Lg (sq X Y b (X d) (Y d))), .long (Lg ((sq X Y a (X d) (Y d)) * (lo X Y b k (X d) (Y d))))] (c_X2_leftnessOf (a := k) (b := a) (x := X d) (y := Y d) ⟨hX, hY, hO, htd, hps⟩ (by omega) (by omega) (by omega) (by omega)) gv_X2_48 (by decide +kernel) (by decide) hK (hP) rfl rfl rfl hl.1 (by simp [Value.category]) dX2_withinness_54 (by decide) ?_ rfl
  show W _ _ _ _ _ _ _ _ _ _ _ _ _ _ _ (F0 m 57 ls [.long (Lg (lo X Y k a (X d) (Y d))), .long (Lg (sq X Y b (X d) (Y d))), .long (Lg ((sq X Y a (X d) (Y d)) * (lo X Y b k (X d) (Y d))))])
  have f6 := lo_bd hX hY k a (x := X d) (y := Y d) (by omega) (by omega)
  refine jv_lmul (z := (sq X Y b (X d) (Y d)) * (lo X Y k a (X d) (Y d))) C dX2_withinness_57 (rfl) ?_
  refine jv_ladd (z := ((sq X Y a (X d) (Y d)) * (lo X Y b k (X d) (Y d))) + ((sq X Y b (X d) (Y d)) * (lo X Y k a (X d) (Y d)))) C dX2_withinness_58 (rfl) ?_
  refine lv_aload_n C.1 C.2.1 dX2_withinness_59 rfl (lv_at hl 2 rfl) ?_
  refine lv_iload_n C.1 C.2.1 dX2_withinness_60 rfl (lv_at hl 5 rfl) ?_
  refine lv_iload C.1 C.2.1 dX2_withinness_61 (lv_at hl 1 rfl) ?_
  refine lv_iload C.1 C.2.1 dX2_withinness_63 (lv_at hl 0 rfl) ?_
  refine jv_rdV (ni := 3) (ci := 2) (q0 := 0) C [.int (J ((k : Nat) : Int)), .int (J (X d)), .int (J (Y d))] [.long (Lg (((sq X Y a (X d) (Y d)) * (lo X Y b k (X d) (Y d))) + ((sq X Y b (X d) (Y d)) * (lo X Y k a (X d) (Y d)))))] (c_X2_squareTo (a := k) (x := X d) (y := Y d) ⟨hX, hY, hO, htd, hps⟩ (by omega) (by omega) (by omega)) gv_X2_52 (by decide +kernel) (by decide) hK (hP) rfl rfl rfl hl.1 (by simp [Value.category]) dX2_withinness_65 (by decide) ?_ rfl
  show W _ _ _ _ _ _ _ _ _ _ _ _ _ _ _ (F0 m 68 ls [.long (Lg (sq X Y k (X d) (Y d))), .long (Lg (((sq X Y a (X d) (Y d)) * (lo X Y b k (X d) (Y d))) + ((sq X Y b (X d) (Y d)) * (lo X Y k a (X d) (Y d)))))])
  have f7 := sq_bd hX hY k (x := X d) (y := Y d) (by omega) (by omega)
  refine lv_aload_n C.1 C.2.1 dX2_withinness_68 rfl (lv_at hl 2 rfl) ?_
  refine lv_iload_n C.1 C.2.1 dX2_withinness_69 rfl (lv_at hl 3 rfl) ?_
  refine lv_iload_n C.1 C.2.1 dX2_withinness_70 rfl (lv_at hl 4 rfl) ?_
  refine lv_iload C.1 C.2.1 dX2_withinness_71 (lv_at hl 1 rfl) ?_
  refine lv_iload C.1 C.2.1 dX2_withinness_73 (lv_at hl 0 rfl) ?_
  refine jv_rdV (ni := 4) (ci := 2) (q0 := 0) C [.int (J ((a : Nat) : Int)), .int (J ((b : Nat) : Int)), .int (J (X d)), .int (J (Y d))] [.long (Lg (sq X Y k (X d) (Y d))), .long (Lg (((sq X Y a (X d) (Y d)) * (lo X Y b k (X d) (Y d))) + ((sq X Y b (X d) (Y d)) * (lo X Y k a (X d) (Y d)))))] (c_X2_leftnessOf (a := a) (b := b) (x := X d) (y := Y d) ⟨hX, hY, hO, htd, hps⟩ (by omega) (by omega) (by omega) (by omega)) gv_X2_48 (by decide +kernel) (by decide) hK (hP) rfl rfl rfl hl.1 (by simp [Value.category]) dX2_withinness_75 (by decide) ?_ rfl
  show W _ _ _ _ _ _ _ _ _ _ _ _ _ _ _ (F0 m 78 ls [.long (Lg (lo X Y a b (X d) (Y d))), .long (Lg (sq X Y k (X d) (Y d))), .long (Lg (((sq X Y a (X d) (Y d)) * (lo X Y b k (X d) (Y d))) + ((sq X Y b (X d) (Y d)) * (lo X Y k a (X d) (Y d)))))])
  have f8 := lo_bd hX hY a b (x := X d) (y := Y d) (by omega) (by omega)
  refine jv_lmul (z := (sq X Y k (X d) (Y d)) * (lo X Y a b (X d) (Y d))) C dX2_withinness_78 (rfl) ?_
  refine jv_ladd (z := (((sq X Y a (X d) (Y d)) * (lo X Y b k (X d) (Y d))) + ((sq X Y b (X d) (Y d)) * (lo X Y k a (X d) (Y d)))) + ((sq X Y k (X d) (Y d)) * (lo X Y a b (X d) (Y d)))) C dX2_withinness_79 (rfl) ?_
  refine lv_lstore (lv' := [(7, .long (Lg ((((sq X Y a (X d) (Y d)) * (lo X Y b k (X d) (Y d))) + ((sq X Y b (X d) (Y d)) * (lo X Y k a (X d) (Y d)))) + ((sq X Y k (X d) (Y d)) * (lo X Y a b (X d) (Y d)))))), (6, .int (J (Y d))), (5, .int (J (X d))), (0, .ref pp), (1, .int (J ((a : Nat) : Int))), (2, .int (J ((b : Nat) : Int))), (3, .int (J ((k : Nat) : Int))), (4, .int (J ((d : Nat) : Int)))]) C.1 C.2.1 dX2_withinness_80 hl (by decide) rfl (fun ls hl => ?_)
  refine lv_aload_n C.1 C.2.1 dX2_withinness_82 rfl (lv_at hl 3 rfl) ?_
  refine lv_iload_n C.1 C.2.1 dX2_withinness_83 rfl (lv_at hl 4 rfl) ?_
  refine lv_iload_n C.1 C.2.1 dX2_withinness_84 rfl (lv_at hl 5 rfl) ?_
  refine lv_aload_n C.1 C.2.1 dX2_withinness_85 rfl (lv_at hl 3 rfl) ?_
  refine jv_get C fw_X2_9 hK hP 0 rfl rfl dX2_withinness_86 ?_
  refine lv_iload_n C.1 C.2.1 dX2_withinness_89 rfl (lv_at hl 6 rfl) ?_
  refine jv_iald C hK hP 1 0 rfl rfl (k) (by omega) (by omega) (by decide) dX2_withinness_90 ?_
  have f9 := hX k
  refine lv_aload_n C.1 C.2.1 dX2_withinness_91 rfl (lv_at hl 3 rfl) ?_
  refine jv_get C fw_X2_15 hK hP 0 rfl rfl dX2_withinness_92 ?_
  refine lv_iload_n C.1 C.2.1 dX2_withinness_95 rfl (lv_at hl 6 rfl) ?_
  refine jv_iald C hK hP 2 0 rfl rfl (k) (by omega) (by omega) (by decide) dX2_withinness_96 ?_
  have f10 := hY k
  refine jv_rdV (ni := 4) (ci := 2) (q0 := 0) C [.int (J ((a : Nat) : Int)), .int (J ((b : Nat) : Int)), .int (J (X k)), .int (J (Y k))] [] (c_X2_leftnessOf (a := a) (b := b) (x := X k) (y := Y k) ⟨hX, hY, hO, htd, hps⟩ (by omega) (by omega) (by omega) (by omega)) gv_X2_48 (by decide +kernel) (by decide) hK (hP) rfl rfl rfl hl.1 (by simp [Value.category]) dX2_withinness_97 (by decide) ?_ rfl
  show W _ _ _ _ _ _ _ _ _ _ _ _ _ _ _ (F0 m 100 ls [.long (Lg (lo X Y a b (X k) (Y k)))])
  have f11 := lo_bd hX hY a b (x := X k) (y := Y k) (by omega) (by omega)
  refine jv_lconst (z := 0) C dX2_withinness_100 rfl ?_
  refine jv_lcmp_ge (tgt := 111) C dX2_withinness_101 dX2_withinness_102 (by decide) (by omega) (fun h12 => ?_) (fun h12 => ?_)
  · refine lv_lload C.1 C.2.1 dX2_withinness_111 (lv_at hl 0 rfl) ?_
    exact jv_lret C hlk hr dX2_withinness_113 (by rw [wi]; first | (rw [if_pos (by assumption)]; rfl) | (rw [if_neg (by omega)]; rfl))
  · refine lv_lload C.1 C.2.1 dX2_withinness_105 (lv_at hl 0 rfl) ?_
    refine jv_lneg C dX2_withinness_107 rfl ?_
    refine lv_goto (tgt := 113) C.1 C.2.1 dX2_withinness_108 (by decide) ?_
    exact jv_lret C hlk hr dX2_withinness_113 (by rw [wi]; first | (rw [if_pos (by assumption)]; rfl) | (rw [if_neg (by omega)]; rfl))
set_option maxRecDepth 20000 in
theorem c_X2_isParted {a b k d : Nat} (hB : PB X Y O told pres) (ha : a < 40) (hb : b < 40) (hk : k < 40) (hd : d < 40) : cR l yX2_isParted cX2_isParted 9 (some .boolean) 2 47 D (tyz cI cZ) [.ref pp, .int (J ((a : Nat) : Int)), .int (J ((b : Nat) : Int)), .int (J ((k : Nat) : Int)), .int (J ((d : Nat) : Int))] (wPts cI cZ pp ax ay at_ ao X Y T O told pres) (some (.int (J (b2i (parted X Y a b k d))))) := by
  refine cR_of (owner := RX2) rfl (by decide) (Nat.le_of_ble_eq_true rfl) ?_
  intro p e s m args below meth c ls C hlk hr hK hP hl
  have hl : lv_has ls 9 [(0, .ref pp), (1, .int (J ((a : Nat) : Int))), (2, .int (J ((b : Nat) : Int))), (3, .int (J ((k : Nat) : Int))), (4, .int (J ((d : Nat) : Int)))] := hl
  obtain ⟨hX, hY, hO, htd, hps⟩ := hB
  refine lv_aload_n C.1 C.2.1 dX2_isParted_0 rfl (lv_at hl 0 rfl) ?_
  refine lv_iload_n C.1 C.2.1 dX2_isParted_1 rfl (lv_at hl 1 rfl) ?_
  refine lv_iload_n C.1 C.2.1 dX2_isParted_2 rfl (lv_at hl 2 rfl) ?_
  refine lv_iload_n C.1 C.2.1 dX2_isParted_3 rfl (lv_at hl 3 rfl) ?_
  refine jv_rdV (ni := 3) (ci := 2) (q0 := 0) C [.int (J ((a : Nat) : Int)), .int (J ((b : Nat) : Int)), .int (J ((k : Nat) : Int))] [] (c_X2_leftness (a := a) (b := b) (k := k) ⟨hX, hY, hO, htd, hps⟩ (by omega) (by omega) (by omega)) gv_X2_40 (by decide +kernel) (by decide) hK (hP) rfl rfl rfl hl.1 (by simp [Value.category]) dX2_isParted_4 (by decide) ?_ rfl
  show W _ _ _ _ _ _ _ _ _ _ _ _ _ _ _ (F0 m 7 ls [.long (Lg (le3 X Y a b k))])
  have f1 := le3_bd hX hY a b k
  refine lv_lstore (lv' := [(5, .long (Lg (le3 X Y a b k))), (0, .ref pp), (1, .int (J ((a : Nat) : Int))), (2, .int (J ((b : Nat) : Int))), (3, .int (J ((k : Nat) : Int))), (4, .int (J ((d : Nat) : Int)))]) C.1 C.2.1 dX2_isParted_7 hl (by decide) rfl (fun ls hl => ?_)
  refine lv_aload_n C.1 C.2.1 dX2_isParted_9 rfl (lv_at hl 1 rfl) ?_
  refine lv_iload_n C.1 C.2.1 dX2_isParted_10 rfl (lv_at hl 2 rfl) ?_
  refine lv_iload_n C.1 C.2.1 dX2_isParted_11 rfl (lv_at hl 3 rfl) ?_
  refine lv_iload C.1 C.2.1 dX2_isParted_12 (lv_at hl 5 rfl) ?_
  refine jv_rdV (ni := 3) (ci := 2) (q0 := 0) C [.int (J ((a : Nat) : Int)), .int (J ((b : Nat) : Int)), .int (J ((d : Nat) : Int))] [] (c_X2_leftness (a := a) (b := b) (k := d) ⟨hX, hY, hO, htd, hps⟩ (by omega) (by omega) (by omega)) gv_X2_40 (by decide +kernel) (by decide) hK (hP) rfl rfl rfl hl.1 (by simp [Value.category]) dX2_isParted_14 (by decide) ?_ rfl
  show W _ _ _ _ _ _ _ _ _ _ _ _ _ _ _ (F0 m 17 ls [.long (Lg (le3 X Y a b d))])
  have f2 := le3_bd hX hY a b d
  refine lv_lstore (lv' := [(7, .long (Lg (le3 X Y a b d))), (5, .long (Lg (le3 X Y a b k))), (0, .ref pp), (1, .int (J ((a : Nat) : Int))), (2, .int (J ((b : Nat) : Int))), (3, .int (J ((k : Nat) : Int))), (4, .int (J ((d : Nat) : Int)))]) C.1 C.2.1 dX2_isParted_17 hl (by decide) rfl (fun ls hl => ?_)
  refine lv_lload C.1 C.2.1 dX2_isParted_19 (lv_at hl 1 rfl) ?_
  refine jv_lconst (z := 0) C dX2_isParted_21 rfl ?_
  refine jv_lcmp_le (tgt := 33) C dX2_isParted_22 dX2_isParted_23 (by decide) (by omega) (fun h3 => ?_) (fun h3 => ?_)
  · refine lv_lload C.1 C.2.1 dX2_isParted_33 (lv_at hl 1 rfl) ?_
    refine jv_lconst (z := 0) C dX2_isParted_35 rfl ?_
    refine jv_lcmp_ge (tgt := 51) C dX2_isParted_36 dX2_isParted_37 (by decide) (by omega) (fun h4 => ?_) (fun h4 => ?_)
    · refine jv_iconst C dX2_isParted_51 ?_
      exact jv_zret C hlk hr dX2_isParted_52 (by grind [parted, b2i])
    · refine lv_lload C.1 C.2.1 dX2_isParted_40 (lv_at hl 0 rfl) ?_
      refine jv_lconst (z := 0) C dX2_isParted_42 rfl ?_
      refine jv_lcmp_le (tgt := 51) C dX2_isParted_43 dX2_isParted_44 (by decide) (by omega) (fun h5 => ?_) (fun h5 => ?_)
      · refine jv_iconst C dX2_isParted_51 ?_
        exact jv_zret C hlk hr dX2_isParted_52 (by grind [parted, b2i])
      · refine jv_iconst C dX2_isParted_47 ?_
        refine lv_goto (tgt := 52) C.1 C.2.1 dX2_isParted_48 (by decide) ?_
        exact jv_zret C hlk hr dX2_isParted_52 (by grind [parted, b2i])
  · refine lv_lload C.1 C.2.1 dX2_isParted_26 (lv_at hl 0 rfl) ?_
    refine jv_lconst (z := 0) C dX2_isParted_28 rfl ?_
    refine jv_lcmp_lt (tgt := 47) C dX2_isParted_29 dX2_isParted_30 (by decide) (by omega) (fun h6 => ?_) (fun h6 => ?_)
    · refine jv_iconst C dX2_isParted_47 ?_
      refine lv_goto (tgt := 52) C.1 C.2.1 dX2_isParted_48 (by decide) ?_
      exact jv_zret C hlk hr dX2_isParted_52 (by grind [parted, b2i])
    · refine lv_lload C.1 C.2.1 dX2_isParted_33 (lv_at hl 1 rfl) ?_
      refine jv_lconst (z := 0) C dX2_isParted_35 rfl ?_
      refine jv_lcmp_ge (tgt := 51) C dX2_isParted_36 dX2_isParted_37 (by decide) (by omega) (fun h7 => ?_) (fun h7 => ?_)
      · refine jv_iconst C dX2_isParted_51 ?_
        exact jv_zret C hlk hr dX2_isParted_52 (by grind [parted, b2i])
      · refine lv_lload C.1 C.2.1 dX2_isParted_40 (lv_at hl 0 rfl) ?_
        refine jv_lconst (z := 0) C dX2_isParted_42 rfl ?_
        refine jv_lcmp_le (tgt := 51) C dX2_isParted_43 dX2_isParted_44 (by decide) (by omega) (fun h8 => ?_) (fun h8 => ?_)
        · refine jv_iconst C dX2_isParted_51 ?_
          exact jv_zret C hlk hr dX2_isParted_52 (by grind [parted, b2i])
        · refine jv_iconst C dX2_isParted_47 ?_
          refine lv_goto (tgt := 52) C.1 C.2.1 dX2_isParted_48 (by decide) ?_
          exact jv_zret C hlk hr dX2_isParted_52 (by grind [parted, b2i])
set_option maxRecDepth 20000 in
theorem c_X2_isOnWay {a b k : Nat} (hB : PB X Y O told pres) (ha : a < 40) (hb : b < 40) (hk : k < 40) : cR l yX2_isOnWay cX2_isOnWay 4 (some .boolean) 2 47 D (tyz cI cZ) [.ref pp, .int (J ((a : Nat) : Int)), .int (J ((b : Nat) : Int)), .int (J ((k : Nat) : Int))] (wPts cI cZ pp ax ay at_ ao X Y T O told pres) (some (.int (J (b2i (onw X Y a b k))))) := by
  refine cR_of (owner := RX2) rfl (by decide) (Nat.le_of_ble_eq_true rfl) ?_
  intro p e s m args below meth c ls C hlk hr hK hP hl
  have hl : lv_has ls 4 [(0, .ref pp), (1, .int (J ((a : Nat) : Int))), (2, .int (J ((b : Nat) : Int))), (3, .int (J ((k : Nat) : Int)))] := hl
  obtain ⟨hX, hY, hO, htd, hps⟩ := hB
  refine lv_aload_n C.1 C.2.1 dX2_isOnWay_0 rfl (lv_at hl 0 rfl) ?_
  refine lv_iload_n C.1 C.2.1 dX2_isOnWay_1 rfl (lv_at hl 1 rfl) ?_
  refine lv_iload_n C.1 C.2.1 dX2_isOnWay_2 rfl (lv_at hl 2 rfl) ?_
  refine lv_iload_n C.1 C.2.1 dX2_isOnWay_3 rfl (lv_at hl 3 rfl) ?_
  refine jv_rdV (ni := 3) (ci := 2) (q0 := 0) C [.int (J ((a : Nat) : Int)), .int (J ((b : Nat) : Int)), .int (J ((k : Nat) : Int))] [] (c_X2_leftness (a := a) (b := b) (k := k) ⟨hX, hY, hO, htd, hps⟩ (by omega) (by omega) (by omega)) gv_X2_40 (by decide +kernel) (by decide) hK (hP) rfl rfl rfl hl.1 (by simp [Value.category]) dX2_isOnWay_4 (by decide) ?_ rfl
  show W _ _ _ _ _ _ _ _ _ _ _ _ _ _ _ (F0 m 7 ls [.long (Lg (le3 X Y a b k))])
  have f1 := le3_bd hX hY a b k
  refine jv_lconst (z := 0) C dX2_isOnWay_7 rfl ?_
  refine jv_lcmp_ne (tgt := 112) C dX2_isOnWay_8 dX2_isOnWay_9 (by decide) (by omega) (fun h2 => ?_) (fun h2 => ?_)
  · refine jv_iconst C dX2_isOnWay_112 ?_
    exact jv_zret C hlk hr dX2_isOnWay_113 (by grind [onw, b2i])
  · refine lv_aload_n C.1 C.2.1 dX2_isOnWay_12 rfl (lv_at hl 0 rfl) ?_
    refine jv_get C fw_X2_9 hK hP 0 rfl rfl dX2_isOnWay_13 ?_
    refine lv_iload_n C.1 C.2.1 dX2_isOnWay_16 rfl (lv_at hl 3 rfl) ?_
    refine jv_iald C hK hP 1 0 rfl rfl (k) (by omega) (by omega) (by decide) dX2_isOnWay_17 ?_
    have f3 := hX k
    refine lv_aload_n C.1 C.2.1 dX2_isOnWay_18 rfl (lv_at hl 0 rfl) ?_
    refine jv_get C fw_X2_9 hK hP 0 rfl rfl dX2_isOnWay_19 ?_
    refine lv_iload_n C.1 C.2.1 dX2_isOnWay_22 rfl (lv_at hl 1 rfl) ?_
    refine jv_iald C hK hP 1 0 rfl rfl (a) (by omega) (by omega) (by decide) dX2_isOnWay_23 ?_
    have f4 := hX a
    refine lv_aload_n C.1 C.2.1 dX2_isOnWay_24 rfl (lv_at hl 0 rfl) ?_
    refine jv_get C fw_X2_9 hK hP 0 rfl rfl dX2_isOnWay_25 ?_
    refine lv_iload_n C.1 C.2.1 dX2_isOnWay_28 rfl (lv_at hl 2 rfl) ?_
    refine jv_iald C hK hP 1 0 rfl rfl (b) (by omega) (by omega) (by decide) dX2_isOnWay_29 ?_
    have f5 := hX b
    refine jv_mmin (z := min (X a) (X b)) C mw_388 hl.1 (by omega) (rfl) (by decide) (by simp [Value.category]) dX2_isOnWay_30 ?_
    refine jv_icmp_lt (tgt := 112) C dX2_isOnWay_33 (by decide) (by omega) (fun h6 => ?_) (fun h6 => ?_)
    · refine jv_iconst C dX2_isOnWay_112 ?_
      exact jv_zret C hlk hr dX2_isOnWay_113 (by grind [onw, b2i])
    · refine lv_aload_n C.1 C.2.1 dX2_isOnWay_36 rfl (lv_at hl 0 rfl) ?_
      refine jv_get C fw_X2_9 hK hP 0 rfl rfl dX2_isOnWay_37 ?_
      refine lv_iload_n C.1 C.2.1 dX2_isOnWay_40 rfl (lv_at hl 3 rfl) ?_
      refine jv_iald C hK hP 1 0 rfl rfl (k) (by omega) (by omega) (by decide) dX2_isOnWay_41 ?_
      have f7 := hX k
      refine lv_aload_n C.1 C.2.1 dX2_isOnWay_42 rfl (lv_at hl 0 rfl) ?_
      refine jv_get C fw_X2_9 hK hP 0 rfl rfl dX2_isOnWay_43 ?_
      refine lv_iload_n C.1 C.2.1 dX2_isOnWay_46 rfl (lv_at hl 1 rfl) ?_
      refine jv_iald C hK hP 1 0 rfl rfl (a) (by omega) (by omega) (by decide) dX2_isOnWay_47 ?_
      have f8 := hX a
      refine lv_aload_n C.1 C.2.1 dX2_isOnWay_48 rfl (lv_at hl 0 rfl) ?_
      refine jv_get C fw_X2_9 hK hP 0 rfl rfl dX2_isOnWay_49 ?_
      refine lv_iload_n C.1 C.2.1 dX2_isOnWay_52 rfl (lv_at hl 2 rfl) ?_
      refine jv_iald C hK hP 1 0 rfl rfl (b) (by omega) (by omega) (by decide) dX2_isOnWay_53 ?_
      have f9 := hX b
      refine jv_mmax (z := max (X a) (X b)) C mw_389 hl.1 (by omega) (rfl) (by decide) (by simp [Value.category]) dX2_isOnWay_54 ?_
      refine jv_icmp_gt (tgt := 112) C dX2_isOnWay_57 (by decide) (by omega) (fun h10 => ?_) (fun h10 => ?_)
      · refine jv_iconst C dX2_isOnWay_112 ?_
        exact jv_zret C hlk hr dX2_isOnWay_113 (by grind [onw, b2i])
      · refine lv_aload_n C.1 C.2.1 dX2_isOnWay_60 rfl (lv_at hl 0 rfl) ?_
        refine jv_get C fw_X2_15 hK hP 0 rfl rfl dX2_isOnWay_61 ?_
        refine lv_iload_n C.1 C.2.1 dX2_isOnWay_64 rfl (lv_at hl 3 rfl) ?_
        refine jv_iald C hK hP 2 0 rfl rfl (k) (by omega) (by omega) (by decide) dX2_isOnWay_65 ?_
        have f11 := hY k
        refine lv_aload_n C.1 C.2.1 dX2_isOnWay_66 rfl (lv_at hl 0 rfl) ?_
        refine jv_get C fw_X2_15 hK hP 0 rfl rfl dX2_isOnWay_67 ?_
        refine lv_iload_n C.1 C.2.1 dX2_isOnWay_70 rfl (lv_at hl 1 rfl) ?_
        refine jv_iald C hK hP 2 0 rfl rfl (a) (by omega) (by omega) (by decide) dX2_isOnWay_71 ?_
        have f12 := hY a
        refine lv_aload_n C.1 C.2.1 dX2_isOnWay_72 rfl (lv_at hl 0 rfl) ?_
        refine jv_get C fw_X2_15 hK hP 0 rfl rfl dX2_isOnWay_73 ?_
        refine lv_iload_n C.1 C.2.1 dX2_isOnWay_76 rfl (lv_at hl 2 rfl) ?_
        refine jv_iald C hK hP 2 0 rfl rfl (b) (by omega) (by omega) (by decide) dX2_isOnWay_77 ?_
        have f13 := hY b
        refine jv_mmin (z := min (Y a) (Y b)) C mw_388 hl.1 (by omega) (rfl) (by decide) (by simp [Value.category]) dX2_isOnWay_78 ?_
        refine jv_icmp_lt (tgt := 112) C dX2_isOnWay_81 (by decide) (by omega) (fun h14 => ?_) (fun h14 => ?_)
        · refine jv_iconst C dX2_isOnWay_112 ?_
          exact jv_zret C hlk hr dX2_isOnWay_113 (by grind [onw, b2i])
        · refine lv_aload_n C.1 C.2.1 dX2_isOnWay_84 rfl (lv_at hl 0 rfl) ?_
          refine jv_get C fw_X2_15 hK hP 0 rfl rfl dX2_isOnWay_85 ?_
          refine lv_iload_n C.1 C.2.1 dX2_isOnWay_88 rfl (lv_at hl 3 rfl) ?_
          refine jv_iald C hK hP 2 0 rfl rfl (k) (by omega) (by omega) (by decide) dX2_isOnWay_89 ?_
          have f15 := hY k
          refine lv_aload_n C.1 C.2.1 dX2_isOnWay_90 rfl (lv_at hl 0 rfl) ?_
          refine jv_get C fw_X2_15 hK hP 0 rfl rfl dX2_isOnWay_91 ?_
          refine lv_iload_n C.1 C.2.1 dX2_isOnWay_94 rfl (lv_at hl 1 rfl) ?_
          refine jv_iald C hK hP 2 0 rfl rfl (a) (by omega) (by omega) (by decide) dX2_isOnWay_95 ?_
          have f16 := hY a
          refine lv_aload_n C.1 C.2.1 dX2_isOnWay_96 rfl (lv_at hl 0 rfl) ?_
          refine jv_get C fw_X2_15 hK hP 0 rfl rfl dX2_isOnWay_97 ?_
          refine lv_iload_n C.1 C.2.1 dX2_isOnWay_100 rfl (lv_at hl 2 rfl) ?_
          refine jv_iald C hK hP 2 0 rfl rfl (b) (by omega) (by omega) (by decide) dX2_isOnWay_101 ?_
          have f17 := hY b
          refine jv_mmax (z := max (Y a) (Y b)) C mw_389 hl.1 (by omega) (rfl) (by decide) (by simp [Value.category]) dX2_isOnWay_102 ?_
          refine jv_icmp_gt (tgt := 112) C dX2_isOnWay_105 (by decide) (by omega) (fun h18 => ?_) (fun h18 => ?_)
          · refine jv_iconst C dX2_isOnWay_112 ?_
            exact jv_zret C hlk hr dX2_isOnWay_113 (by grind [onw, b2i])
          · refine jv_iconst C dX2_isOnWay_108 ?_
            refine lv_goto (tgt := 113) C.1 C.2.1 dX2_isOnWay_109 (by decide) ?_
            exact jv_zret C hlk hr dX2_isOnWay_113 (by grind [onw, b2i])
set_option maxRecDepth 20000 in
theorem c_X2_isInLaterHalf {a b : Nat} (hB : PB X Y O told pres) (ha : a < 40) (hb : b < 40) : cR l yX2_isInLaterHalf cX2_isInLaterHalf 3 (some .boolean) 0 0 D (tyz cI cZ) [.ref pp, .int (J ((a : Nat) : Int)), .int (J ((b : Nat) : Int))] (wPts cI cZ pp ax ay at_ ao X Y T O told pres) (some (.int (J (b2i (late X Y a b))))) := by
  refine cR_of (owner := RX2) rfl (by decide) (Nat.le_of_ble_eq_true rfl) ?_
  intro p e s m args below meth c ls C hlk hr hK hP hl
  have hl : lv_has ls 3 [(0, .ref pp), (1, .int (J ((a : Nat) : Int))), (2, .int (J ((b : Nat) : Int)))] := hl
  obtain ⟨hX, hY, hO, htd, hps⟩ := hB
  refine lv_aload_n C.1 C.2.1 dX2_isInLaterHalf_0 rfl (lv_at hl 0 rfl) ?_
  refine jv_get C fw_X2_15 hK hP 0 rfl rfl dX2_isInLaterHalf_1 ?_
  refine lv_iload_n C.1 C.2.1 dX2_isInLaterHalf_4 rfl (lv_at hl 2 rfl) ?_
  refine jv_iald C hK hP 2 0 rfl rfl (b) (by omega) (by omega) (by decide) dX2_isInLaterHalf_5 ?_
  have f1 := hY b
  refine lv_aload_n C.1 C.2.1 dX2_isInLaterHalf_6 rfl (lv_at hl 0 rfl) ?_
  refine jv_get C fw_X2_15 hK hP 0 rfl rfl dX2_isInLaterHalf_7 ?_
  refine lv_iload_n C.1 C.2.1 dX2_isInLaterHalf_10 rfl (lv_at hl 1 rfl) ?_
  refine jv_iald C hK hP 2 0 rfl rfl (a) (by omega) (by omega) (by decide) dX2_isInLaterHalf_11 ?_
  have f2 := hY a
  refine jv_icmp_lt (tgt := 45) C dX2_isInLaterHalf_12 (by decide) (by omega) (fun h3 => ?_) (fun h3 => ?_)
  · refine jv_iconst C dX2_isInLaterHalf_45 ?_
    refine lv_goto (tgt := 50) C.1 C.2.1 dX2_isInLaterHalf_46 (by decide) ?_
    exact jv_zret C hlk hr dX2_isInLaterHalf_50 (by grind [late, b2i])
  · refine lv_aload_n C.1 C.2.1 dX2_isInLaterHalf_15 rfl (lv_at hl 0 rfl) ?_
    refine jv_get C fw_X2_15 hK hP 0 rfl rfl dX2_isInLaterHalf_16 ?_
    refine lv_iload_n C.1 C.2.1 dX2_isInLaterHalf_19 rfl (lv_at hl 2 rfl) ?_
    refine jv_iald C hK hP 2 0 rfl rfl (b) (by omega) (by omega) (by decide) dX2_isInLaterHalf_20 ?_
    have f4 := hY b
    refine lv_aload_n C.1 C.2.1 dX2_isInLaterHalf_21 rfl (lv_at hl 0 rfl) ?_
    refine jv_get C fw_X2_15 hK hP 0 rfl rfl dX2_isInLaterHalf_22 ?_
    refine lv_iload_n C.1 C.2.1 dX2_isInLaterHalf_25 rfl (lv_at hl 1 rfl) ?_
    refine jv_iald C hK hP 2 0 rfl rfl (a) (by omega) (by omega) (by decide) dX2_isInLaterHalf_26 ?_
    have f5 := hY a
    refine jv_icmp_ne (tgt := 49) C dX2_isInLaterHalf_27 (by decide) (by omega) (fun h6 => ?_) (fun h6 => ?_)
    · refine jv_iconst C dX2_isInLaterHalf_49 ?_
      exact jv_zret C hlk hr dX2_isInLaterHalf_50 (by grind [late, b2i])
    · refine lv_aload_n C.1 C.2.1 dX2_isInLaterHalf_30 rfl (lv_at hl 0 rfl) ?_
      refine jv_get C fw_X2_9 hK hP 0 rfl rfl dX2_isInLaterHalf_31 ?_
      refine lv_iload_n C.1 C.2.1 dX2_isInLaterHalf_34 rfl (lv_at hl 2 rfl) ?_
      refine jv_iald C hK hP 1 0 rfl rfl (b) (by omega) (by omega) (by decide) dX2_isInLaterHalf_35 ?_
      have f7 := hX b
      refine lv_aload_n C.1 C.2.1 dX2_isInLaterHalf_36 rfl (lv_at hl 0 rfl) ?_
      refine jv_get C fw_X2_9 hK hP 0 rfl rfl dX2_isInLaterHalf_37 ?_
      refine lv_iload_n C.1 C.2.1 dX2_isInLaterHalf_40 rfl (lv_at hl 1 rfl) ?_
      refine jv_iald C hK hP 1 0 rfl rfl (a) (by omega) (by omega) (by decide) dX2_isInLaterHalf_41 ?_
      have f8 := hX a
      refine jv_icmp_ge (tgt := 49) C dX2_isInLaterHalf_42 (by decide) (by omega) (fun h9 => ?_) (fun h9 => ?_)
      · refine jv_iconst C dX2_isInLaterHalf_49 ?_
        exact jv_zret C hlk hr dX2_isInLaterHalf_50 (by grind [late, b2i])
      · refine jv_iconst C dX2_isInLaterHalf_45 ?_
        refine lv_goto (tgt := 50) C.1 C.2.1 dX2_isInLaterHalf_46 (by decide) ?_
        exact jv_zret C hlk hr dX2_isInLaterHalf_50 (by grind [late, b2i])
end PTS
