/-! the reference's hand: its edges, its flips -/
section HND
variable {X Y : Nat → Int} {vb : Nat → Bool} {t : Nat → Nat → Nat → Prop}
def hP (B1 B2 B3 : Nat → Nat) (a b : Int) (i : Nat) : Bool := hsA B1 B2 B3 i a && hsA B1 B2 B3 i b
theorem haS_f0 {B1 B2 B3 : Nat → Nat} {hh : Nat} {a b : Int} : ∀ (k i : Nat), hh ≤ i + k → haS B1 B2 B3 hh a b 0 i = oI (-1) (ff (hP B1 B2 B3 a b) hh i) := by
  intro k
  induction k with
  | zero => intro i h; rw [haS_end (by omega), ff_end (by omega)]; rfl
  | succ k ih =>
    intro i h
    rcases Nat.lt_or_ge i hh with q | q
    · cases hp : hP B1 B2 B3 a b i with
      | true => rw [haS_hit q hp rfl, ff_hit q hp]; rfl
      | false => rw [haS_no q hp, ff_go q hp]; exact ih (i + 1) (by omega)
    · rw [haS_end q, ff_end q]; rfl
theorem haS_f1 {B1 B2 B3 : Nat → Nat} {hh : Nat} {a b : Int} : ∀ (k i : Nat), hh ≤ i + k → haS B1 B2 B3 hh a b 1 i = match ff (hP B1 B2 B3 a b) hh i with | none => -1 | some c => oI (-1) (ff (hP B1 B2 B3 a b) hh (c + 1)) := by
  intro k
  induction k with
  | zero => intro i h; rw [haS_end (by omega), ff_end (by omega)]
  | succ k ih =>
    intro i h
    rcases Nat.lt_or_ge i hh with q | q
    · cases hp : hP B1 B2 B3 a b i with
      | true => rw [haS_sk q hp (by omega), ff_hit q hp]; exact haS_f0 hh (i + 1) (by omega)
      | false => rw [haS_no q hp, ff_go q hp]; exact ih (i + 1) (by omega)
    · rw [haS_end q, ff_end q]
theorem ff_is1 {P : Nat → Bool} {n i c : Nat} (h1 : i ≤ c) (h2 : c < n) (h3 : P c = true) (h4 : ∀ q, i ≤ q → q < c → P q = false) : ff P n i = some c := by
  rw [ff_skip (n := n) (c - i) i c (by omega) h4, ff_hit h2 h3]
theorem ff_non {P : Nat → Bool} {n i : Nat} (h : ∀ q, i ≤ q → q < n → P q = false) : ff P n i = none := by
  rcases Nat.lt_or_ge i n with q | q
  · rw [ff_skip (n := n) (n - i) i n (by omega) h, ff_end (Nat.le_refl _)]
  · exact ff_end q
/-- the hand holds t -/
def HB (Q : QB) (hh : Nat) (t : Nat → Nat → Nat → Prop) : Prop := QB3 Q ∧ CL (rc Q) hh t ∧ tRot t ∧ tB t ∧ tN t
theorem HB_at {Q : QB} {hh : Nat} (h : HB Q hh t) {i : Nat} (hi : i < hh) : t (Q.1 i) (Q.2.1 i) (Q.2.2 i) ∧ Q.1 i < Q.2.1 i ∧ Q.1 i < Q.2.2 i := by
  obtain ⟨q1, q2, q3, q4, q5⟩ := h
  obtain ⟨a, b, c, g1, g2, g3, g4⟩ := (q2.2 (rc Q i)).1 ⟨i, hi, rfl⟩
  have bb := q4 _ _ _ g1
  have := cd3_inj (q1.2.1 i) (q1.2.2 i) bb.2.1 bb.2.2.1 g4
  rw [this.1, this.2.1, this.2.2]; exact ⟨g1, g2, g3⟩
theorem HB_P {Q : QB} {hh : Nat} (h : HB Q hh t) {i a b : Nat} (hi : i < hh) (hab : a ≠ b) (hp : hP Q.1 Q.2.1 Q.2.2 (a : Int) (b : Int) i = true) : rt3 a b (thd Q.1 Q.2.1 Q.2.2 i a b) (Q.1 i) (Q.2.1 i) (Q.2.2 i) ∨ rt3 b a (thd Q.1 Q.2.1 Q.2.2 i a b) (Q.1 i) (Q.2.1 i) (Q.2.2 i) := by
  have g := HB_at h hi
  have bb := h.2.2.2.1 _ _ _ g.1
  unfold hP hsA at hp
  simp only [Bool.and_eq_true, Bool.or_eq_true, decide_eq_true_eq] at hp
  unfold thd rt3
  generalize Q.1 i = x at *
  generalize Q.2.1 i = y at *
  generalize Q.2.2 i = z at *
  by_cases c1 : (x : Int) ≠ a ∧ (x : Int) ≠ b
  · rw [if_pos c1]; omega
  · rw [if_neg c1]
    by_cases c2 : (y : Int) ≠ a ∧ (y : Int) ≠ b
    · rw [if_pos c2]; omega
    · rw [if_neg c2]; omega
theorem HB_ix {Q : QB} {hh : Nat} (h : HB Q hh t) {a b p : Nat} (ht : t a b p) : ∃ i, i < hh ∧ rt3 a b p (Q.1 i) (Q.2.1 i) (Q.2.2 i) ∧ hP Q.1 Q.2.1 Q.2.2 (a : Int) (b : Int) i = true ∧ hP Q.1 Q.2.1 Q.2.2 (b : Int) (a : Int) i = true ∧ thd Q.1 Q.2.1 Q.2.2 i a b = p ∧ thd Q.1 Q.2.1 Q.2.2 i b a = p ∧ rc Q i = cod a b p := by
  obtain ⟨q1, q2, q3, q4, q5⟩ := h
  have bb := q4 _ _ _ ht
  obtain ⟨x, y, z, r, l1, l2, e⟩ := cod_sp bb.2.2.2.1 bb.2.2.2.2.1 bb.2.2.2.2.2
  obtain ⟨i, i1, i2⟩ := (q2.2 (cd3 x y z)).2 ⟨x, y, z, tRt q3 ht r, l1, l2, rfl⟩
  have xyz : y < 40 ∧ z < 40 := by unfold rt3 at r; omega
  have d := cd3_inj (q1.2.1 i) (q1.2.2 i) xyz.1 xyz.2 i2
  refine ⟨i, i1, by rw [d.1, d.2.1, d.2.2]; exact rt3_sy r, ?_, ?_, ?_, ?_, by rw [i2, e]⟩
  · unfold hP hsA; rw [d.1, d.2.1, d.2.2]
    simp only [Bool.and_eq_true, Bool.or_eq_true, decide_eq_true_eq]; unfold rt3 at r; omega
  · unfold hP hsA; rw [d.1, d.2.1, d.2.2]
    simp only [Bool.and_eq_true, Bool.or_eq_true, decide_eq_true_eq]; unfold rt3 at r; omega
  · unfold thd; rw [d.1, d.2.1, d.2.2]; unfold rt3 at r; (repeat' split) <;> omega
  · unfold thd; rw [d.1, d.2.1, d.2.2]; unfold rt3 at r; (repeat' split) <;> omega
/-- two triangles on a side -/
theorem hand2 {Q : QB} {hh : Nat} (h : HB Q hh t) {a b p q : Nat} (h1 : t a b p) (h2 : t b a q) (hpq : p ≠ q) : ∃ i j, i < j ∧ j < hh ∧ haS Q.1 Q.2.1 Q.2.2 hh (a : Int) (b : Int) 0 0 = (i : Int) ∧ haS Q.1 Q.2.1 Q.2.2 hh (a : Int) (b : Int) 1 0 = (j : Int) ∧ ((thd Q.1 Q.2.1 Q.2.2 i a b = p ∧ thd Q.1 Q.2.1 Q.2.2 j a b = q ∧ rc Q i = cod a b p ∧ rc Q j = cod b a q) ∨ (thd Q.1 Q.2.1 Q.2.2 i a b = q ∧ thd Q.1 Q.2.1 Q.2.2 j a b = p ∧ rc Q i = cod b a q ∧ rc Q j = cod a b p)) := by
  have ab := (h.2.2.2.1 _ _ _ h1).2.2.2.1
  obtain ⟨i1, u1, u2, u3, u3', u4, _, u5⟩ := HB_ix h h1
  obtain ⟨i2, w1, w2, _, w3, _, w4, w5⟩ := HB_ix h h2
  have only : ∀ i, i < hh → hP Q.1 Q.2.1 Q.2.2 (a : Int) (b : Int) i = true → i = i1 ∨ i = i2 := by
    intro i hi hp
    have g := HB_at h hi
    have same : ∀ i', i' < hh → rc Q i = rc Q i' → i = i' := by
      intro i' hi' e
      rcases Nat.lt_trichotomy i i' with z | z | z
      · have := h.2.1.1 i i' z hi'; omega
      · exact z
      · have := h.2.1.1 i' i z hi; omega
    rcases HB_P h hi ab hp with r | r
    · left
      have tt := tRt h.2.2.1 g.1 r
      have e := h.2.2.2.2 _ _ _ _ tt h1
      rw [e] at r
      refine same i1 u1 ?_
      rw [u5]; unfold rc; exact (cod_rt (rt3_sy r) g.2.1 g.2.2).symm
    · right
      have tt := tRt h.2.2.1 g.1 r
      have e := h.2.2.2.2 _ _ _ _ tt h2
      rw [e] at r
      refine same i2 w1 ?_
      rw [w5]; unfold rc; exact (cod_rt (rt3_sy r) g.2.1 g.2.2).symm
  have ne : i1 ≠ i2 := by
    intro e; subst e
    omega
  have sw : thd Q.1 Q.2.1 Q.2.2 i2 a b = q := w4
  have go : ∀ i j, i < j → j < hh → hP Q.1 Q.2.1 Q.2.2 (a : Int) (b : Int) i = true → hP Q.1 Q.2.1 Q.2.2 (a : Int) (b : Int) j = true → (∀ k, k < hh → hP Q.1 Q.2.1 Q.2.2 (a : Int) (b : Int) k = true → k = i ∨ k = j) → haS Q.1 Q.2.1 Q.2.2 hh (a : Int) (b : Int) 0 0 = (i : Int) ∧ haS Q.1 Q.2.1 Q.2.2 hh (a : Int) (b : Int) 1 0 = (j : Int) := by
    intro i j hij hj p1 p2 on
    have f1 : ff (hP Q.1 Q.2.1 Q.2.2 (a : Int) (b : Int)) hh 0 = some i := ff_is1 (by omega) (by omega) p1 (fun k _ hk => by
      cases hz : hP Q.1 Q.2.1 Q.2.2 (a : Int) (b : Int) k with
      | false => rfl
      | true => have := on k (by omega) hz; omega)
    have f2 : ff (hP Q.1 Q.2.1 Q.2.2 (a : Int) (b : Int)) hh (i + 1) = some j := ff_is1 (by omega) hj p2 (fun k _ hk => by
      cases hz : hP Q.1 Q.2.1 Q.2.2 (a : Int) (b : Int) k with
      | false => rfl
      | true => have := on k (by omega) hz; omega)
    rw [haS_f0 hh 0 (by omega), haS_f1 hh 0 (by omega), f1]
    dsimp only
    rw [f2]; exact ⟨rfl, rfl⟩
  rcases Nat.lt_or_gt_of_ne ne with z | z
  · have := go i1 i2 z w1 u3 w3 only
    exact ⟨i1, i2, z, w1, this.1, this.2, Or.inl ⟨u4, sw, u5, w5⟩⟩
  · have := go i2 i1 z u1 w3 u3 (fun k hk hp => (only k hk hp).symm)
    exact ⟨i2, i1, z, u1, this.1, this.2, Or.inr ⟨sw, u4, w5, u5⟩⟩
/-- one triangle on a side, or none -/
theorem hand1 {Q : QB} {hh : Nat} (h : HB Q hh t) {a b : Nat} (hab : a ≠ b) (h12 : (∀ q, ¬ t a b q) ∨ ∀ q, ¬ t b a q) : haS Q.1 Q.2.1 Q.2.2 hh (a : Int) (b : Int) 1 0 < 0 := by
  rw [haS_f1 hh 0 (by omega)]
  cases hf : ff (hP Q.1 Q.2.1 Q.2.2 (a : Int) (b : Int)) hh 0 with
  | none => show (-1 : Int) < 0; omega
  | some c =>
    dsimp only
    have fc := ff_lt hh 0 (by omega) c hf
    cases hg : ff (hP Q.1 Q.2.1 Q.2.2 (a : Int) (b : Int)) hh (c + 1) with
    | none => show (-1 : Int) < 0; omega
    | some d =>
      exfalso
      have fd := ff_lt hh (c + 1) (by omega) d hg
      have gc := HB_at h fc.2.1; have gd := HB_at h fd.2.1
      have lt := h.2.1.1 c d (by omega) fd.2.1
      rcases HB_P h fc.2.1 hab fc.2.2.1 with r | r <;> rcases HB_P h fd.2.1 hab fd.2.2.1 with r2 | r2
      · have t1 := tRt h.2.2.1 gc.1 r; have t2 := tRt h.2.2.1 gd.1 r2
        have e := h.2.2.2.2 _ _ _ _ t1 t2
        rw [e] at r
        have e1 := cod_rt (rt3_sy r) gc.2.1 gc.2.2; have e2 := cod_rt (rt3_sy r2) gd.2.1 gd.2.2
        unfold rc at lt; omega
      · have t1 := tRt h.2.2.1 gc.1 r; have t2 := tRt h.2.2.1 gd.1 r2
        rcases h12 with z | z
        · exact z _ t1
        · exact z _ t2
      · have t1 := tRt h.2.2.1 gc.1 r; have t2 := tRt h.2.2.1 gd.1 r2
        rcases h12 with z | z
        · exact z _ t2
        · exact z _ t1
      · have t1 := tRt h.2.2.1 gc.1 r; have t2 := tRt h.2.2.1 gd.1 r2
        have e := h.2.2.2.2 _ _ _ _ t1 t2
        rw [e] at r
        have e1 := cod_rt (rt3_sy r) gc.2.1 gc.2.2; have e2 := cod_rt (rt3_sy r2) gd.2.1 gd.2.2
        unfold rc at lt; omega
theorem edG_iff {Q : QB} {hh : Nat} (h : HB Q hh t) {a b : Nat} : edG Q.1 Q.2.1 Q.2.2 hh (a : Int) (b : Int) = true ↔ (∃ p, t a b p) ∨ ∃ p, t b a p := by
  unfold edG
  simp only [Bool.and_eq_true, decide_eq_true_eq]
  rw [haS_f0 hh 0 (by omega)]
  constructor
  · intro ⟨n1, n2⟩
    cases hf : ff (hP Q.1 Q.2.1 Q.2.2 (a : Int) (b : Int)) hh 0 with
    | none => rw [hf] at n2; simp only [oI] at n2; omega
    | some c =>
      have fc := ff_lt hh 0 (by omega) c hf
      rcases HB_P h fc.2.1 (by omega) fc.2.2.1 with r | r
      · exact Or.inl ⟨_, tRt h.2.2.1 (HB_at h fc.2.1).1 r⟩
      · exact Or.inr ⟨_, tRt h.2.2.1 (HB_at h fc.2.1).1 r⟩
  · intro w
    have key : ∀ i, i < hh → hP Q.1 Q.2.1 Q.2.2 (a : Int) (b : Int) i = true → 0 ≤ oI (-1) (ff (hP Q.1 Q.2.1 Q.2.2 (a : Int) (b : Int)) hh 0) := by
      intro i hi hp
      cases hf : ff (hP Q.1 Q.2.1 Q.2.2 (a : Int) (b : Int)) hh 0 with
      | none => have := ff_none hh 0 (by omega) hf i (by omega) hi; rw [hp] at this; cases this
      | some c => simp only [oI]; omega
    rcases w with ⟨p, hp⟩ | ⟨p, hp⟩
    · obtain ⟨i, i1, _, i3, _⟩ := HB_ix h hp
      have := (h.2.2.2.1 _ _ _ hp).2.2.2.1
      exact ⟨by omega, key i i1 i3⟩
    · obtain ⟨i, i1, _, _, i3, _⟩ := HB_ix h hp
      have := (h.2.2.2.1 _ _ _ hp).2.2.2.1
      exact ⟨by omega, key i i1 i3⟩
theorem sgn_neg (v : Int) : sgn (-v) = -sgn v := by
  unfold sgn
  (repeat' split) <;> omega
theorem sgn_pos {v : Int} : 0 < sgn v ↔ 0 < v := by unfold sgn; (repeat' split) <;> omega
theorem sgn_zero {v : Int} : sgn v = 0 ↔ v = 0 := by unfold sgn; (repeat' split) <;> omega
theorem bdP_v (hP' : PL X Y vb) (hT : TI X Y (Vb vb) t) {a b p q : Nat} (h1 : t a b p) (h2 : t b a q) : bdP X Y a b p q = (if 0 < cnf X Y (hgt X Y) a b p q then 2 else if 0 < le3 X Y p a q ∧ 0 < le3 X Y b p q then 1 else 0) ∧ bdP X Y a b q p = (if 0 < cnf X Y (hgt X Y) a b p q then 2 else if 0 < le3 X Y p a q ∧ 0 < le3 X Y b p q then 1 else 0) := by
  have v1 := hT.2.1 _ _ _ h1; have v2 := hT.2.1 _ _ _ h2
  have lq := nb_lt hT h1 h2
  have bc := bad_cnf hP'.1 hP'.2.1 hP'.2.2.1 hP'.2.2.2 v1.1 v1.2.1 v1.2.2.1 v2.2.2.1 v1.2.2.2 lq
  have t1 : trn X Y a b p = 1 := by unfold trn sgn; rw [if_neg (by omega), if_pos v1.2.2.2]
  have t2 : trn X Y a b q = -1 := by unfold trn sgn; rw [if_neg (by omega), if_neg (by omega)]
  have w1 : wth X Y a b p q = sgn (wsum X Y a b p q) := rfl
  have w2 : wth X Y a b q p = -sgn (wsum X Y a b p q) := by unfold wth; rw [wsum_sd, sgn_neg]
  have s := le3_sum (X := X) (Y := Y) a b p q
  have x1 : le3 X Y p q a = -le3 X Y p a q := by unfold le3 lo; grind
  have x2 : le3 X Y p q b = le3 X Y b p q := by unfold le3 lo; grind
  have x3 : le3 X Y q p a = le3 X Y p a q := by unfold le3 lo; grind
  have x4 : le3 X Y q p b = -le3 X Y b p q := by unfold le3 lo; grind
  have v22 := v2.2.2.2
  have y1 : le3 X Y b a q = -le3 X Y a b q := by unfold le3 lo; grind
  have may : ∀ u v : Int, (sgn u * sgn v < 0 ↔ (0 < u ∧ v < 0) ∨ (u < 0 ∧ 0 < v)) := by
    intro u v; unfold sgn; (repeat' split) <;> omega
  have m1 : trn X Y p q a * trn X Y p q b < 0 ↔ 0 < le3 X Y p a q ∧ 0 < le3 X Y b p q := by
    unfold trn; rw [may, x1, x2]; omega
  have m2 : trn X Y q p a * trn X Y q p b < 0 ↔ 0 < le3 X Y p a q ∧ 0 < le3 X Y b p q := by
    unfold trn; rw [may, x3, x4]; omega
  have b1 : (0 < wth X Y a b p q * trn X Y a b p ∨ (wth X Y a b p q * trn X Y a b p = 0 ∧ min p q < min a b)) ↔ 0 < cnf X Y (hgt X Y) a b p q := by
    rw [← bc, w1, t1, Int.mul_one, sgn_pos, sgn_zero]
  have b2 : (0 < wth X Y a b q p * trn X Y a b q ∨ (wth X Y a b q p * trn X Y a b q = 0 ∧ min q p < min a b)) ↔ 0 < cnf X Y (hgt X Y) a b p q := by
    rw [← bc, w2, t2, Int.neg_mul_neg, Int.mul_one, sgn_pos, sgn_zero, Nat.min_comm q p]
  unfold bdP
  constructor
  · by_cases k : 0 < cnf X Y (hgt X Y) a b p q
    · rw [if_pos (b1.2 k), if_pos k]
    · rw [if_neg (fun z => k (b1.1 z)), if_neg k]
      by_cases k2 : 0 < le3 X Y p a q ∧ 0 < le3 X Y b p q
      · rw [if_pos (m1.2 k2), if_pos k2]
      · rw [if_neg (fun z => k2 (m1.1 z)), if_neg k2]
  · by_cases k : 0 < cnf X Y (hgt X Y) a b p q
    · rw [if_pos (b2.2 k), if_pos k]
    · rw [if_neg (fun z => k (b2.1 z)), if_neg k]
      by_cases k2 : 0 < le3 X Y p a q ∧ 0 < le3 X Y b p q
      · rw [if_pos (m2.2 k2), if_pos k2]
      · rw [if_neg (fun z => k2 (m2.1 z)), if_neg k2]
theorem pq_ne (hT : TI X Y (Vb vb) t) {a b p q : Nat} (h1 : t a b p) (h2 : t b a q) : p ≠ q := by
  intro e; subst e
  have v1 := (hT.2.1 _ _ _ h1).2.2.2; have := nb_lt hT h1 h2; omega
/-- the two sides judge an edge alike -/
theorem bdO_w (hP' : PL X Y vb) {M : MT} (h : SI X Y vb M t) {Q : QB} {hh : Nat} (hB : HB Q hh t) {a b : Nat} (ha : a < 40) (hb : b < 40) (hab : a ≠ b) : bdO X Y Q.1 Q.2.1 Q.2.2 hh a b = if badS X Y M.2.2 a b = true then 2 else if mayS X Y M.2.2 a b = true then 1 else 0 := by
  have hT := h.2.2
  by_cases h12 : (∃ p, t a b p) ∧ ∃ q, t b a q
  · obtain ⟨⟨p, h1⟩, q, h2⟩ := h12
    obtain ⟨i, j, _, _, e1, e2, e3⟩ := hand2 hB h1 h2 (pq_ne hT h1 h2)
    have v := bdP_v hP' hT h1 h2
    unfold bdO
    rw [e1, e2, if_neg (by omega), Int.toNat_natCast, Int.toNat_natCast]
    have e4 : bdP X Y a b (thd Q.1 Q.2.1 Q.2.2 i a b) (thd Q.1 Q.2.1 Q.2.2 j a b) = (if 0 < cnf X Y (hgt X Y) a b p q then 2 else if 0 < le3 X Y p a q ∧ 0 < le3 X Y b p q then 1 else 0) := by
      rcases e3 with ⟨x1, x2, _⟩ | ⟨x1, x2, _⟩
      · rw [x1, x2]; exact v.1
      · rw [x1, x2]; exact v.2
    rw [e4]
    have N := h.1.2.2.2.2
    have i1 : badS X Y M.2.2 a b = true ↔ 0 < cnf X Y (hgt X Y) a b p q := by
      rw [badS_iff hP' h ha hb]
      constructor
      · intro ⟨p', q', k1, k2, k3⟩; rw [N _ _ _ _ k1 h1, N _ _ _ _ k2 h2] at k3; exact k3
      · intro k; exact ⟨p, q, h1, h2, k⟩
    have i2 : mayS X Y M.2.2 a b = true ↔ 0 < le3 X Y p a q ∧ 0 < le3 X Y b p q := by
      rw [mayS_iff h ha hb]
      constructor
      · intro ⟨p', q', k1, k2, k3⟩; rw [N _ _ _ _ k1 h1, N _ _ _ _ k2 h2] at k3; exact k3
      · intro k; exact ⟨p, q, h1, h2, k⟩
    by_cases k : 0 < cnf X Y (hgt X Y) a b p q
    · rw [if_pos k, if_pos (i1.2 k)]
    · rw [if_neg k, if_neg (fun z => k (i1.1 z))]
      by_cases k2 : 0 < le3 X Y p a q ∧ 0 < le3 X Y b p q
      · rw [if_pos k2, if_pos (i2.2 k2)]
      · rw [if_neg k2, if_neg (fun z => k2 (i2.1 z))]
  · have no : (∀ q, ¬ t a b q) ∨ ∀ q, ¬ t b a q := by
      by_cases z : ∃ p, t a b p
      · exact Or.inr (fun q hq => h12 ⟨z, q, hq⟩)
      · exact Or.inl (fun q hq => z ⟨q, hq⟩)
    have := hand1 hB hab no
    unfold bdO
    rw [if_pos this, if_neg, if_neg]
    · intro z; obtain ⟨p, q, k1, k2, _⟩ := (mayS_iff h ha hb).1 z
      rcases no with w | w
      · exact w _ k1
      · exact w _ k2
    · intro z; obtain ⟨p, q, k1, k2, _⟩ := (badS_iff hP' h ha hb).1 z
      rcases no with w | w
      · exact w _ k1
      · exact w _ k2
end HND
