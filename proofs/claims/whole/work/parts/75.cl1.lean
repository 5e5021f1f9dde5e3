/-! the calls, one by one -/
theorem CL_ext {A B : Nat → Nat} {n m : Nat} {t : Nat → Nat → Nat → Prop} (h : CL A n t) (hn : n = m) (he : ∀ i, i < n → A i = B i) : CL B m t := by
  subst hn
  refine ⟨fun i j hij hj => by rw [← he i (by omega), ← he j hj]; exact h.1 i j hij hj, fun k => Iff.trans ?_ (h.2 k)⟩
  exact ⟨fun ⟨i, hi, e⟩ => ⟨i, hi, by rw [he i hi]; exact e⟩, fun ⟨i, hi, e⟩ => ⟨i, hi, by rw [← he i hi]; exact e⟩⟩
/-- the drawing, held by both -/
def Dbl (B : BS) (S : RS) (t : Nat → Nat → Nat → Prop) : Prop := SI B.1.1 B.1.2.1 (vbT B.1.2.2.1 B.1.2.2.2.2.1) B.2.2.1.1 t ∧ HB (S.2.1.2.2.2.2.1, S.2.1.2.2.2.2.2.1, S.2.1.2.2.2.2.2.2.1) S.2.1.2.2.2.2.2.2.2 t ∧ B.2.2.1.1.2.1 = S.2.1.2.2.2.2.2.2.2 ∧ ∀ i, i < B.2.2.1.1.2.1 → B.2.2.1.1.1 i = cd3 (S.2.1.2.2.2.2.1 i) (S.2.1.2.2.2.2.2.1 i) (S.2.1.2.2.2.2.2.2.1 i)
theorem Rel_both {B : BS} {S : RS} (h : Rel B S) : knOk S ∧ Rel (sDrw B) (rKnow S) ∧ (sDrw B).1 = B.1 ∧ (rKnow S).1 = S.1 ∧ ∃ t, Dbl (sDrw B) (rKnow S) t := by
  obtain ⟨k1, k2, k3⟩ := Rel_know h
  obtain ⟨d1, d2, t, d3⟩ := Rel_drw k2
  have kk := (know_keep S).1
  refine ⟨k1, d1, d2, kk, t, ?_⟩
  have u := CL_uq d3.2 k3.2.2
  have ri := d1.2.1
  obtain ⟨r1, r2, r3, r4, r5, r6, r7, r8, r9, r10⟩ := ri
  refine ⟨by rw [d2]; exact d3.1, ⟨⟨r6, r7, r8⟩, ?_, d3.1.1.2.2.1, d3.1.1.2.2.2.1, d3.1.1.2.2.2.2⟩, u.1, u.2⟩
  exact CL_ext d3.1.1.1 u.1 u.2
theorem Dbl_pt {B : BS} {S : RS} {t : Nat → Nat → Nat → Prop} (h : Dbl B S t) {i : Nat} (hi : i < B.2.2.1.1.2.1) (w : Nat) : ptT B.2.2.1.1.1 i w = ptA S.2.1.2.2.2.2.1 S.2.1.2.2.2.2.2.1 S.2.1.2.2.2.2.2.2.1 i w := by
  have e := h.2.2.2 i hi
  have q := h.2.1.1
  have d := dec3 (a := S.2.1.2.2.2.2.1 i) (q.2.1 i) (q.2.2 i)
  unfold ptT ptA
  rw [e, d.1]
  have d2 : cd3 (S.2.1.2.2.2.2.1 i) (S.2.1.2.2.2.2.2.1 i) (S.2.1.2.2.2.2.2.2.1 i) / 40 % 40 = S.2.1.2.2.2.2.2.1 i := d.2.1
  have d3 : cd3 (S.2.1.2.2.2.2.1 i) (S.2.1.2.2.2.2.2.1 i) (S.2.1.2.2.2.2.2.2.1 i) % 40 = S.2.1.2.2.2.2.2.2.1 i := d.2.2
  rw [d2, d3]
theorem PtR_e {B : BS} {S : RS} (h : PtR B S) : S.1.1 = B.1.1 ∧ S.1.2.1 = B.1.2.1 ∧ S.1.2.2.1 = B.1.2.2.1 ∧ S.1.2.2.2 = B.1.2.2.2.2.1 := by
  rw [h.1]; exact ⟨rfl, rfl, rfl, rfl⟩
theorem fop_w (x y : Int) : fop x y = -4 ∨ fop x y = -6 ∨ fop x y = 0 := by unfold fop; (repeat' split) <;> omega
theorem call_turn {B : BS} {S : RS} (h : Rel B S) (a b c : Int) : (spTurn a b c B).1 = (rpTurn a b c S).1 ∧ Rel (spTurn a b c B).2 (rpTurn a b c S).2 := by
  obtain ⟨eX, eY, eT, eN⟩ := PtR_e h.2.2.1
  have r := Rel_ref (z := -1) h (by omega)
  unfold spTurn rpTurn
  rw [eX, eY, eT, eN]
  by_cases c1 : thr B.1.2.2.1 B.1.2.2.2.2.1 a = false
  · rw [if_pos c1, if_pos c1]; exact ⟨rfl, r⟩
  rw [if_neg c1, if_neg c1]
  by_cases c2 : thr B.1.2.2.1 B.1.2.2.2.2.1 b = false
  · rw [if_pos c2, if_pos c2]; exact ⟨rfl, r⟩
  rw [if_neg c2, if_neg c2]
  by_cases c3 : thr B.1.2.2.1 B.1.2.2.2.2.1 c = false
  · rw [if_pos c3, if_pos c3]; exact ⟨rfl, r⟩
  rw [if_neg c3, if_neg c3]; exact ⟨rfl, h⟩
theorem call_round {B : BS} {S : RS} (h : Rel B S) (a b c d : Int) : (spRound a b c d B).1 = (rpRound a b c d S).1 ∧ Rel (spRound a b c d B).2 (rpRound a b c d S).2 := by
  obtain ⟨eX, eY, eT, eN⟩ := PtR_e h.2.2.1
  have r := Rel_ref (z := -1) h (by omega)
  have r3 := Rel_ref (z := -3) h (by omega)
  unfold spRound rpRound all4
  rw [eX, eY, eT, eN]
  cases c1 : thr B.1.2.2.1 B.1.2.2.2.2.1 a with
  | false => exact ⟨rfl, r⟩
  | true =>
    cases c2 : thr B.1.2.2.1 B.1.2.2.2.2.1 b with
    | false => exact ⟨rfl, r⟩
    | true =>
      cases c3 : thr B.1.2.2.1 B.1.2.2.2.2.1 c with
      | false => exact ⟨rfl, r⟩
      | true =>
        cases c4 : thr B.1.2.2.1 B.1.2.2.2.2.1 d with
        | false => exact ⟨rfl, r⟩
        | true =>
          have hf : ¬ (true = false) := by decide
          rw [if_neg (show ¬ ((true && (true && (true && true))) = false) by decide), if_neg hf, if_neg hf, if_neg hf, if_neg hf]
          by_cases q : le3 B.1.1 B.1.2.1 a.toNat b.toNat c.toNat = 0
          · rw [if_pos q, if_pos (trn_z.2 q)]; exact ⟨rfl, r3⟩
          · rw [if_neg q, if_neg (fun z => q (trn_z.1 z))]
            refine ⟨?_, h⟩
            show sgn (wi B.1.1 B.1.2.1 a.toNat b.toNat c.toNat d.toNat) = wth B.1.1 B.1.2.1 a.toNat b.toNat c.toNat d.toNat * trn B.1.1 B.1.2.1 a.toNat b.toNat c.toNat
            unfold wth trn
            by_cases w : 0 < le3 B.1.1 B.1.2.1 a.toNat b.toNat c.toNat
            · rw [wi_p w, show sgn (le3 B.1.1 B.1.2.1 a.toNat b.toNat c.toNat) = 1 from by unfold sgn; rw [if_neg q, if_pos w], Int.mul_one]
            · have w2 : le3 B.1.1 B.1.2.1 a.toNat b.toNat c.toNat < 0 := by omega
              rw [show sgn (le3 B.1.1 B.1.2.1 a.toNat b.toNat c.toNat) = -1 from by unfold sgn; rw [if_neg q, if_neg w], show wi B.1.1 B.1.2.1 a.toNat b.toNat c.toNat d.toNat = -wsum B.1.1 B.1.2.1 a.toNat b.toNat c.toNat d.toNat from by unfold wi; rw [if_pos (by unfold le3 at w2; exact w2)], sgn_neg]; omega
theorem call_hull {B : BS} {S : RS} (h : Rel B S) : knOk S ∧ (spHull B).1 = (rpHull S).1 ∧ Rel (spHull B).2 (rpHull S).2 := by
  obtain ⟨k1, k2, k3⟩ := Rel_know h
  refine ⟨k1, ?_, Rel_trc k2⟩
  show ((trC B.1.1 B.1.2.1 B.1.2.2.2.1 B.1.2.2.2.2.2 B.2.1.1).2 : Int) = _
  rw [(k3.2.1 B.2.1.1).1]; rfl
theorem call_corner {B : BS} {S : RS} (h : Rel B S) (i : Int) : knOk S ∧ (spCorner i B).1 = (rpCorner i S).1 ∧ Rel (spCorner i B).2 (rpCorner i S).2 := by
  obtain ⟨k1, k2, k3⟩ := Rel_know h
  have t := Rel_trc k2
  have e : (sTrc B).2.1.2 = (rKnow S).2.1.2.2.2.1 := (k3.2.1 B.2.1.1).1
  have e2 : ∀ k, k < (rKnow S).2.1.2.2.2.1 → (rKnow S).2.1.2.2.1 k = (sTrc B).2.1.1 k := (k3.2.1 B.2.1.1).2
  refine ⟨k1, ?_⟩
  unfold spCorner rpCorner
  by_cases c1 : i < 0
  · rw [if_pos c1, if_pos c1]; exact ⟨rfl, t⟩
  rw [if_neg c1, if_neg c1, e]
  by_cases c2 : i < ((rKnow S).2.1.2.2.2.1 : Int)
  · rw [if_pos c2, if_pos c2]
    refine ⟨?_, t⟩
    show ((sTrc B).2.1.1 i.toNat : Int) = ((rKnow S).2.1.2.2.1 i.toNat : Int)
    rw [e2 _ (by omega)]
  · rw [if_neg c2, if_neg c2]; exact ⟨rfl, t⟩
def shl (X Y : Nat → Int) (a b : Nat) : Int := X a * Y b - X b * Y a
theorem arS_arR {X Y : Nat → Int} {K : Nat → Nat} {m : Nat} (hm : 1 ≤ m) : ∀ (d j : Nat), j + d + 1 = m → arS X Y K m (j + 1) = shl X Y (K 0) (K j) + arR X Y K m j := by
  have at_ : ∀ j, j < m → arT X Y K m j = shl X Y (K j) (K (if j + 1 = m then 0 else j + 1)) := by
    intro j hj
    have e : (j + 1) % m = if j + 1 = m then 0 else j + 1 := by
      by_cases q : j + 1 = m
      · rw [if_pos q, q, Nat.mod_self]
      · rw [if_neg q, Nat.mod_eq_of_lt (by omega)]
    unfold arT shl; rw [e]
  intro d
  induction d with
  | zero =>
    intro j hj
    have e1 : arS X Y K m (j + 1) = 0 := by rw [arS, if_neg (by omega)]
    rw [e1, arR_go (by omega), arR_end (by omega), at_ j (by omega), if_pos (by omega)]
    unfold shl; grind
  | succ d ih =>
    intro j hj
    have a := ih (j + 1) (by omega)
    have e1 : arS X Y K m (j + 1) = le3 X Y (K 0) (K (j + 1 - 1)) (K (j + 1)) + arS X Y K m (j + 1 + 1) := by rw [arS, if_pos (by omega)]
    rw [e1, a, arR_go (i := j) (by omega), at_ j (by omega), if_neg (by omega), show j + 1 - 1 = j from by omega]
    have i : le3 X Y (K 0) (K j) (K (j + 1)) = shl X Y (K 0) (K j) + shl X Y (K j) (K (j + 1)) - shl X Y (K 0) (K (j + 1)) := by unfold le3 lo shl; grind
    omega
theorem arR_cg {X Y : Nat → Int} {K L : Nat → Nat} {m : Nat} (he : ∀ k, k < m → K k = L k) : ∀ (d i : Nat), i + d = m → arR X Y K m i = arR X Y L m i := by
  intro d
  induction d with
  | zero => intro i hi; rw [arR_end (by omega), arR_end (by omega)]
  | succ d ih =>
    intro i hi
    rw [arR_go (Hu := K) (i := i) (by omega), arR_go (Hu := L) (i := i) (by omega), ih (i + 1) (by omega)]
    unfold arT
    rw [he i (by omega), he _ (Nat.mod_lt _ (by omega))]
theorem call_area {B : BS} {S : RS} (h : Rel B S) : knOk S ∧ (spArea B).1 = (rpArea S).1 ∧ Rel (spArea B).2 (rpArea S).2 := by
  obtain ⟨k1, k2, k3⟩ := Rel_know h
  have t := Rel_trc k2
  have e : (sTrc B).2.1.2 = (rKnow S).2.1.2.2.2.1 := (k3.2.1 B.2.1.1).1
  have e2 : ∀ k, k < (rKnow S).2.1.2.2.2.1 → (rKnow S).2.1.2.2.1 k = (sTrc B).2.1.1 k := (k3.2.1 B.2.1.1).2
  obtain ⟨eX, eY, _, _⟩ := PtR_e k2.2.2.1
  refine ⟨k1, ?_, t⟩
  show arS B.1.1 B.1.2.1 (sTrc B).2.1.1 (sTrc B).2.1.2 2 = arR (rKnow S).1.1 (rKnow S).1.2.1 (rKnow S).2.1.2.2.1 (rKnow S).2.1.2.2.2.1 0
  rw [eX, eY, e, arR_cg e2 (rKnow S).2.1.2.2.2.1 0 (by omega)]
  generalize (rKnow S).2.1.2.2.2.1 = m at *
  generalize (sTrc B).2.1.1 = K
  by_cases m0 : m = 0
  · rw [m0, arR_end (by omega), arS, if_neg (by omega)]
  by_cases m1 : m = 1
  · have a := arS_arR (X := B.1.1) (Y := B.1.2.1) (K := K) (m := m) (by omega) 0 0 (by omega)
    have z : arS B.1.1 B.1.2.1 K m (0 + 1) = 0 := by rw [arS, if_neg (by omega)]
    have z2 : arS B.1.1 B.1.2.1 K m 2 = 0 := by rw [arS, if_neg (by omega)]
    have z3 : shl B.1.1 B.1.2.1 (K 0) (K 0) = 0 := by unfold shl; grind
    omega
  · have a := arS_arR (X := B.1.1) (Y := B.1.2.1) (K := K) (m := m) (by omega) (m - 2) 1 (by omega)
    have b := arS_arR (X := B.1.1) (Y := B.1.2.1) (K := K) (m := m) (by omega) (m - 1) 0 (by omega)
    have c : arS B.1.1 B.1.2.1 K m (0 + 1) = le3 B.1.1 B.1.2.1 (K 0) (K (1 - 1)) (K 1) + arS B.1.1 B.1.2.1 K m (0 + 1 + 1) := by rw [arS, if_pos (by omega)]
    have z : le3 B.1.1 B.1.2.1 (K 0) (K (1 - 1)) (K 1) = 0 := le3_aa _ _
    have z3 : shl B.1.1 B.1.2.1 (K 0) (K 0) = 0 := by unfold shl; grind
    have c : arS B.1.1 B.1.2.1 K m (0 + 1) = le3 B.1.1 B.1.2.1 (K 0) (K (1 - 1)) (K 1) + arS B.1.1 B.1.2.1 K m 2 := c
    omega
theorem call_triangles {B : BS} {S : RS} (h : Rel B S) : knOk S ∧ (spTriangles B).1 = (rpTriangles S).1 ∧ Rel (spTriangles B).2 (rpTriangles S).2 := by
  obtain ⟨k1, k2, _, _, t, d⟩ := Rel_both h
  refine ⟨k1, ?_, k2⟩
  show (((sDrw B).2.2.1.1.2.1 : Nat) : Int) = _
  rw [d.2.2.1]; rfl
theorem call_where {B : BS} {S : RS} (h : Rel B S) (x y : Int) : knOk S ∧ (spWhere x y B).1 = (rpWhere x y S).1 ∧ Rel (spWhere x y B).2 (rpWhere x y S).2 := by
  obtain ⟨k1, k2, k3, k4, t, d⟩ := Rel_both h
  refine ⟨k1, ?_⟩
  unfold spWhere rpWhere
  have fv := fop_w x y
  by_cases c1 : fop x y ≠ 0
  · rw [if_pos c1, if_pos c1]; exact ⟨rfl, Rel_ref h (by omega)⟩
  rw [if_neg c1, if_neg c1]
  refine ⟨?_, k2⟩
  obtain ⟨eX, eY, _, _⟩ := PtR_e k2.2.2.1
  show oI (-9) (ff (whP (sDrw B).1.1 (sDrw B).1.2.1 (sDrw B).2.2.1.1.1 x y) (sDrw B).2.2.1.1.2.1 0) = oI (-9) _
  congr 1
  refine ff_cg0 d.2.2.1 (fun i hi => ?_)
  unfold whP cov whR lfP
  rw [eX, eY, Dbl_pt d hi, Dbl_pt d hi, Dbl_pt d hi]
  have sg : ∀ v : Int, decide (0 ≤ v) = decide (0 ≤ sgn v) := fun v => decide_eq_decide.mpr (by unfold sgn; (repeat' split) <;> omega)
  rw [sg (lo _ _ _ _ _ _), sg (lo _ _ _ _ _ _), sg (lo _ _ _ _ _ _)]; rfl
theorem near_eq {X Y : Nat → Int} (hX : ∀ i, -10000 ≤ X i ∧ X i ≤ 10000) (hY : ∀ i, -10000 ≤ Y i ∧ Y i ≤ 10000) {T : Nat → Bool} {pn : Nat} {x y : Int} (hx : -10000 ≤ x ∧ x ≤ 10000) (hy : -10000 ≤ y ∧ y ≤ 10000) : ∀ (d i : Nat) (best least : Int), i + d = pn → best = -9 ∨ (0 ≤ best ∧ least = sq X Y best.toNat x y) → nrS X Y T pn x y i best least = nrR X Y T pn x y i best := by
  intro d
  induction d with
  | zero => intro i best least hi _; rw [nrR_end (by omega), nrS, if_neg (by omega)]
  | succ d ih =>
    intro i best least hi hb
    have sb := sq_bd hX hY i hx hy
    have th : thr T pn (i : Int) = T i := by unfold thr; rw [decide_eq_true (by omega), decide_eq_true (by omega), Int.toNat_natCast]; rfl
    rw [nrS, if_pos (show i < pn by omega), nrR, if_pos (show i < pn by omega), th]
    have ce : (T i && (decide (best = -9) || decide (sq X Y i x y < least))) = (T i && (decide (best < 0) || decide (sq X Y i x y < sq X Y best.toNat x y))) := by
      rcases hb with b1 | ⟨b1, b2⟩
      · rw [decide_eq_true (p := best = -9) b1, decide_eq_true (p := best < 0) (by omega)]; rfl
      · rw [decide_eq_false (p := best = -9) (by omega), decide_eq_false (p := best < 0) (by omega), Bool.false_or, Bool.false_or, b2]
    rw [ce]
    split
    · exact ih (i + 1) _ _ (by omega) (Or.inr ⟨by omega, by rw [Int.toNat_natCast]⟩)
    · exact ih (i + 1) _ _ (by omega) hb
theorem fop_bd {x y : Int} (h : ¬ fop x y ≠ 0) : (-10000 ≤ x ∧ x ≤ 10000) ∧ (-10000 ≤ y ∧ y ≤ 10000) := by
  unfold fop at h
  by_cases q : x < -10000 ∨ y < -10000
  · rw [if_pos q] at h; omega
  · rw [if_neg q] at h
    by_cases w : 10000 < x ∨ 10000 < y
    · rw [if_pos w] at h; omega
    · omega
theorem call_nearest {B : BS} {S : RS} (h : Rel B S) (x y : Int) : (spNearest x y B).1 = (rpNearest x y S).1 ∧ Rel (spNearest x y B).2 (rpNearest x y S).2 := by
  obtain ⟨eX, eY, eT, eN⟩ := PtR_e h.2.2.1
  unfold spNearest rpNearest
  have fv := fop_w x y
  by_cases c1 : fop x y ≠ 0
  · rw [if_pos c1, if_pos c1]; exact ⟨rfl, Rel_ref h (by omega)⟩
  rw [if_neg c1, if_neg c1, eX, eY, eT, eN]
  have b := fop_bd c1
  exact ⟨near_eq h.1.1.1 h.1.1.2.1 b.1 b.2 B.1.2.2.2.2.1 0 (-9) _ (by omega) (Or.inl rfl), h⟩
theorem call_cross {B : BS} {S : RS} (h : Rel B S) (a b c d : Int) : (spCross a b c d B).1 = (rpCross a b c d S).1 ∧ Rel (spCross a b c d B).2 (rpCross a b c d S).2 := by
  obtain ⟨eX, eY, eT, eN⟩ := PtR_e h.2.2.1
  have r := Rel_ref (z := -1) h (by omega)
  unfold spCross rpCross two
  rw [eX, eY, eT, eN]
  cases c1 : thr B.1.2.2.1 B.1.2.2.2.2.1 a with
  | false => rw [Bool.false_and, Bool.and_false]; exact ⟨rfl, r⟩
  | true =>
    cases c2 : thr B.1.2.2.1 B.1.2.2.2.2.1 b with
    | false => rw [Bool.and_false, Bool.and_false]; exact ⟨rfl, r⟩
    | true =>
      cases c3 : thr B.1.2.2.1 B.1.2.2.2.2.1 c with
      | false =>
        rw [Bool.false_and, Bool.and_false, if_neg (show ¬ (true = false) by decide), if_neg (show ¬ (true = false) by decide), if_pos (show false = false from rfl)]
        split
        · exact ⟨rfl, r⟩
        · exact ⟨rfl, r⟩
      | true =>
        cases c4 : thr B.1.2.2.1 B.1.2.2.2.2.1 d with
        | false =>
          rw [Bool.and_false, Bool.and_false, if_neg (show ¬ (true = false) by decide), if_neg (show ¬ (true = false) by decide), if_neg (show ¬ (true = false) by decide), if_pos (show false = false from rfl)]
          split
          · exact ⟨rfl, r⟩
          · exact ⟨rfl, r⟩
        | true =>
          rw [if_neg (show ¬ (true = false) by decide), if_neg (show ¬ (true = false) by decide), if_neg (show ¬ (true = false) by decide), if_neg (show ¬ (true = false) by decide)]
          by_cases ab : a = b
          · rw [if_pos ab, decide_eq_false (show ¬ a ≠ b from fun z => z ab)]; exact ⟨rfl, r⟩
          rw [if_neg ab, decide_eq_true (show a ≠ b from ab)]
          by_cases cd : c = d
          · rw [if_pos cd, decide_eq_false (show ¬ c ≠ d from fun z => z cd)]; exact ⟨rfl, r⟩
          rw [if_neg cd, decide_eq_true (show c ≠ d from cd), if_neg (show ¬ ((true && (true && true)) = false) by decide), if_neg (show ¬ ((true && (true && true)) = false) by decide)]
          refine ⟨?_, h⟩
          generalize a.toNat = a
          generalize b.toNat = b
          generalize c.toNat = c
          generalize d.toNat = d
          generalize B.1.1 = X
          generalize B.1.2.1 = Y
          have may : ∀ u v : Int, (sgn u * sgn v < 0 ↔ (0 < u ∧ v < 0) ∨ (u < 0 ∧ 0 < v)) := by
            intro u v; unfold sgn; (repeat' split) <;> omega
          have pe : ∀ a b c d, parted X Y a b c d = true ↔ trn X Y a b c * trn X Y a b d < 0 := by
            intro a b c d
            unfold trn; rw [may]; unfold parted
            simp only [Bool.or_eq_true, Bool.and_eq_true, decide_eq_true_eq]
          have oe : ∀ a b c, onw X Y a b c = oni X Y a b c := by
            intro a b c
            unfold onw oni
            rw [decide_eq_decide.mpr (trn_z (X := X) (Y := Y) (a := a) (b := b) (c := c))]
          show (if (parted X Y a b c d && parted X Y c d a b) = true then (2 : Int) else if (onw X Y a b c || (onw X Y a b d || (onw X Y c d a || onw X Y c d b))) = true then 1 else 0) = crR X Y a b c d
          unfold crR
          rw [oe, oe, oe, oe]
          simp only [Bool.and_eq_true, Bool.or_eq_true, pe]
