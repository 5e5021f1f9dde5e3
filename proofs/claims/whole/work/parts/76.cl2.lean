/-! the calls over the hand -/
theorem rdy_eq {B : BS} {S : RS} (h : HdR B S) : (B.2.2.2.2.2.2.1 && !B.2.2.2.2.2.2.2.1) = (S.2.2.1.1 && !S.2.2.1.2.1) := by
  rw [h.1, h.2.1]; cases S.2.2.1.1 <;> cases S.2.2.1.2.1 <;> rfl
theorem HR_row {M : MT} {S : RS} {t : Nat → Nat → Nat → Prop} (h : HR M S t) : M.2.1 = S.2.2.1.2.2.2.2.2.1 ∧ ∀ i, i < M.2.1 → M.1 i = cd3 (S.2.2.1.2.2.1 i) (S.2.2.1.2.2.2.1 i) (S.2.2.1.2.2.2.2.1 i) := CL_uq h.1.1.1 h.2.2.1
theorem HR_pt {M : MT} {S : RS} {t : Nat → Nat → Nat → Prop} (h : HR M S t) {i : Nat} (hi : i < M.2.1) : ptT M.1 i 0 = S.2.2.1.2.2.1 i ∧ ptT M.1 i 1 = S.2.2.1.2.2.2.1 i ∧ ptT M.1 i 2 = S.2.2.1.2.2.2.2.1 i := by
  have e := (HR_row h).2 i hi
  have q := h.2.1
  have d := dec3 (a := S.2.2.1.2.2.1 i) (q.2.1 i) (q.2.2 i)
  unfold ptT
  rw [e]
  exact ⟨d.1, d.2.1, d.2.2⟩
theorem HR_PL {B : BS} {S : RS} (h : Rel B S) : PL S.1.1 S.1.2.1 (vbS S) := by
  obtain ⟨eX, eY, eT, eN⟩ := PtR_e h.2.2.1
  have := PL_of h.1.1.1 h.1.1.2.1 h.1.1.2.2.2.1 h.2.2.1.2.1 h.2.2.1.2.2
  unfold vbS; rw [eX, eY, eT, eN]; exact this
theorem ed_int {B : BS} {S : RS} (h : Rel B S) {t : Nat → Nat → Nat → Prop} (hh : HR B.2.2.2.1.1 S t) (a b : Int) : edG S.2.2.1.2.2.1 S.2.2.1.2.2.2.1 S.2.2.1.2.2.2.2.1 S.2.2.1.2.2.2.2.2.1 a b = (two B.1.2.2.1 B.1.2.2.2.2.1 a b && sidP B.2.2.2.1.1.2.2 a.toNat b.toNat) := by
  obtain ⟨eX, eY, eT, eN⟩ := PtR_e h.2.2.1
  have told40 := h.1.1.2.2.2.1
  have q := hh.2.1
  have key : ∀ x y : Nat, x < 40 → y < 40 → (sidP B.2.2.2.1.1.2.2 x y = true ↔ (∃ p, t x y p) ∨ ∃ p, t y x p) := by
    intro x y hx hy
    unfold sidP
    simp only [Bool.or_eq_true, decide_eq_true_eq]
    constructor
    · intro z
      rcases z with z | z
      · exact Or.inl ⟨_, MC_pos hh.1.1 hh.1.2.1 hx hy z⟩
      · exact Or.inr ⟨_, MC_pos hh.1.1 hh.1.2.1 hy hx z⟩
    · intro z
      rcases z with ⟨p, z⟩ | ⟨p, z⟩
      · left; have := (hh.1.1.2.1 x y p hx hy (hh.1.1.2.2.2.1 _ _ _ z).2.2.1).2 z; omega
      · right; have := (hh.1.1.2.1 y x p hy hx (hh.1.1.2.2.2.1 _ _ _ z).2.2.1).2 z; omega
  cases he : edG S.2.2.1.2.2.1 S.2.2.1.2.2.2.1 S.2.2.1.2.2.2.2.1 S.2.2.1.2.2.2.2.2.1 a b with
  | true =>
    have r := edG_R (B1 := S.2.2.1.2.2.1) (B2 := S.2.2.1.2.2.2.1) (B3 := S.2.2.1.2.2.2.2.1) q.1 q.2.1 q.2.2 he
    have ea : ((a.toNat : Nat) : Int) = a := by omega
    have eb : ((b.toNat : Nat) : Int) = b := by omega
    have he2 : edG S.2.2.1.2.2.1 S.2.2.1.2.2.2.1 S.2.2.1.2.2.2.2.1 S.2.2.1.2.2.2.2.2.1 ((a.toNat : Nat) : Int) ((b.toNat : Nat) : Int) = true := by rw [ea, eb]; exact he
    have w := (edG_iff hh.2).1 he2
    have vv : vbS S a.toNat = true ∧ vbS S b.toNat = true := by
      rcases w with ⟨p, z⟩ | ⟨p, z⟩
      · have := hh.1.2.2.2.1 _ _ _ z; exact ⟨this.1, this.2.1⟩
      · have := hh.1.2.2.2.1 _ _ _ z; exact ⟨this.2.1, this.1⟩
    unfold vbS at vv
    simp only [Bool.and_eq_true, decide_eq_true_eq, eT, eN] at vv
    unfold two thr
    rw [decide_eq_true (show a ≠ b from r.2.2), decide_eq_true (show 0 ≤ a by omega), decide_eq_true (show 0 ≤ b by omega), decide_eq_true (show a < (B.1.2.2.2.2.1 : Int) by omega), decide_eq_true (show b < (B.1.2.2.2.2.1 : Int) by omega), vv.1.2, vv.2.2, (key _ _ (by omega) (by omega)).2 w]
    rfl
  | false =>
    cases ht : (two B.1.2.2.1 B.1.2.2.2.2.1 a b && sidP B.2.2.2.1.1.2.2 a.toNat b.toNat) with
    | false => rfl
    | true =>
      exfalso
      simp only [Bool.and_eq_true] at ht
      have t1 := ht.1
      unfold two at t1
      simp only [Bool.and_eq_true, decide_eq_true_eq] at t1
      have ta := thr_t t1.2.1; have tb := thr_t t1.2.2
      have w := (key a.toNat b.toNat (by omega) (by omega)).1 ht.2
      have := (edG_iff hh.2).2 w
      rw [show ((a.toNat : Nat) : Int) = a from by omega, show ((b.toNat : Nat) : Int) = b from by omega] at this
      have this : edG S.2.2.1.2.2.1 S.2.2.1.2.2.2.1 S.2.2.1.2.2.2.2.1 S.2.2.1.2.2.2.2.2.1 a b = true := this
      rw [he] at this; cases this
theorem call_held {B : BS} {S : RS} (h : Rel B S) (t w : Int) : (spHeld t w B).1 = (rpHeld t w S).1 ∧ Rel (spHeld t w B).2 (rpHeld t w S).2 := by
  have r3 := Rel_ref (z := -3) h (by omega)
  have r1 := Rel_ref (z := -1) h (by omega)
  have r2 := Rel_ref (z := -2) h (by omega)
  unfold spHeld rpHeld
  rw [rdy_eq h.2.2.2.2.1]
  by_cases c0 : (S.2.2.1.1 && !S.2.2.1.2.1) = false
  · rw [if_pos c0, if_pos c0]; exact ⟨rfl, r3⟩
  rw [if_neg c0, if_neg c0]
  obtain ⟨u, hu⟩ := h.2.2.2.2.1.2.2.2.2.2 (by simpa using c0)
  have e := (HR_row hu).1
  rw [e]
  by_cases c1 : t < 0
  · rw [if_pos c1, if_pos (by rw [decide_eq_false (show ¬ 0 ≤ t by omega)]; rfl)]; exact ⟨rfl, r1⟩
  rw [if_neg c1]
  by_cases c2 : (S.2.2.1.2.2.2.2.2.1 : Int) ≤ t
  · rw [if_pos c2, if_pos (by rw [decide_eq_false (show ¬ t < (S.2.2.1.2.2.2.2.2.1 : Int) by omega), Bool.and_false])]; exact ⟨rfl, r1⟩
  rw [if_neg c2, if_neg (by rw [decide_eq_true (show 0 ≤ t by omega), decide_eq_true (show t < (S.2.2.1.2.2.2.2.2.1 : Int) by omega)]; decide)]
  have pt := HR_pt hu (i := t.toNat) (by omega)
  by_cases w0 : w = 0
  · subst w0; rw [if_neg (by decide), if_neg (by decide), if_pos rfl]
    exact ⟨by show ((ptT B.2.2.2.1.1.1 t.toNat 0 : Nat) : Int) = _; rw [pt.1], h⟩
  by_cases w1 : w = 1
  · subst w1; rw [if_neg (by decide), if_neg (by decide), if_neg (by decide), if_pos rfl]
    exact ⟨by show ((ptT B.2.2.2.1.1.1 t.toNat 1 : Nat) : Int) = _; rw [pt.2.1], h⟩
  by_cases w2 : w = 2
  · subst w2; rw [if_neg (by decide), if_neg (by decide), if_neg (by decide), if_neg (by decide), if_pos rfl]
    exact ⟨by show ((ptT B.2.2.2.1.1.1 t.toNat 2 : Nat) : Int) = _; rw [pt.2.2], h⟩
  rw [if_neg w0, if_neg w1, if_neg w2]
  by_cases w3 : w < 0
  · rw [if_pos w3]; exact ⟨rfl, r2⟩
  · rw [if_neg w3, if_pos (show 2 < w by omega)]; exact ⟨rfl, r2⟩
theorem fhe_eq {B : BS} {S : RS} (h : Rel B S) (a b : Int) : fhe B a b = if (S.2.2.1.1 && !S.2.2.1.2.1) = false then -3 else if edG S.2.2.1.2.2.1 S.2.2.1.2.2.2.1 S.2.2.1.2.2.2.2.1 S.2.2.1.2.2.2.2.2.1 a b = false then -1 else 0 := by
  unfold fhe rdy
  rw [rdy_eq h.2.2.2.2.1]
  cases c0 : (S.2.2.1.1 && !S.2.2.1.2.1) with
  | false => rfl
  | true =>
    obtain ⟨u, hu⟩ := h.2.2.2.2.1.2.2.2.2.2 c0
    rw [ed_int h hu a b]
    cases (two B.1.2.2.1 B.1.2.2.2.2.1 a b && sidP B.2.2.2.1.1.2.2 a.toNat b.toNat) <;> rfl
theorem ed_nat {B : BS} {S : RS} (h : Rel B S) {t : Nat → Nat → Nat → Prop} (hh : HR B.2.2.2.1.1 S t) {a b : Int} (he : edG S.2.2.1.2.2.1 S.2.2.1.2.2.2.1 S.2.2.1.2.2.2.2.1 S.2.2.1.2.2.2.2.2.1 a b = true) : a.toNat < 40 ∧ b.toNat < 40 ∧ a.toNat ≠ b.toNat ∧ bdO S.1.1 S.1.2.1 S.2.2.1.2.2.1 S.2.2.1.2.2.2.1 S.2.2.1.2.2.2.2.1 S.2.2.1.2.2.2.2.2.1 a.toNat b.toNat = (if badS B.1.1 B.1.2.1 B.2.2.2.1.1.2.2 a.toNat b.toNat = true then 2 else if mayS B.1.1 B.1.2.1 B.2.2.2.1.1.2.2 a.toNat b.toNat = true then 1 else 0) := by
  obtain ⟨eX, eY, _, _⟩ := PtR_e h.2.2.1
  have q := hh.2.1
  have r := edG_R (B1 := S.2.2.1.2.2.1) (B2 := S.2.2.1.2.2.2.1) (B3 := S.2.2.1.2.2.2.2.1) q.1 q.2.1 q.2.2 he
  have l : a.toNat < 40 ∧ b.toNat < 40 ∧ a.toNat ≠ b.toNat := by omega
  have w := bdO_w (HR_PL h) hh.1 hh.2 l.1 l.2.1 l.2.2
  rw [← eX, ← eY]
  exact ⟨l.1, l.2.1, l.2.2, w⟩
theorem call_bad {B : BS} {S : RS} (h : Rel B S) (a b : Int) : (spBad a b B).1 = (rpBad a b S).1 ∧ Rel (spBad a b B).2 (rpBad a b S).2 := by
  have r3 := Rel_ref (z := -3) h (by omega)
  have r1 := Rel_ref (z := -1) h (by omega)
  unfold spBad rpBad
  rw [fhe_eq h a b]
  by_cases c0 : (S.2.2.1.1 && !S.2.2.1.2.1) = false
  · rw [if_pos c0, if_pos c0, if_pos (by decide)]; exact ⟨rfl, r3⟩
  rw [if_neg c0, if_neg c0]
  obtain ⟨u, hu⟩ := h.2.2.2.2.1.2.2.2.2.2 (by simpa using c0)
  by_cases c1 : edG S.2.2.1.2.2.1 S.2.2.1.2.2.2.1 S.2.2.1.2.2.2.2.1 S.2.2.1.2.2.2.2.2.1 a b = false
  · rw [if_pos c1, if_pos c1, if_pos (by decide)]; exact ⟨rfl, r1⟩
  rw [if_neg c1, if_neg c1, if_neg (by decide)]
  obtain ⟨_, _, _, w⟩ := ed_nat h hu (by simpa using c1 : edG S.2.2.1.2.2.1 S.2.2.1.2.2.2.1 S.2.2.1.2.2.2.2.1 S.2.2.1.2.2.2.2.2.1 a b = true)
  by_cases c2 : badS B.1.1 B.1.2.1 B.2.2.2.1.1.2.2 a.toNat b.toNat = true
  · rw [if_pos c2] at w ⊢; exact ⟨w.symm, h⟩
  · rw [if_neg c2] at w ⊢
    by_cases c3 : mayS B.1.1 B.1.2.1 B.2.2.2.1.1.2.2 a.toNat b.toNat = false
    · rw [if_pos c3]; rw [c3] at w; exact ⟨w.symm, h⟩
    · rw [if_neg c3]; rw [if_pos (by simpa using c3)] at w; exact ⟨w.symm, h⟩
theorem call_flip {B : BS} {S : RS} (h : Rel B S) (a b : Int) : ((S.2.2.1.1 && !S.2.2.1.2.1) = true → flOk a b S) ∧ (spFlip a b B).1 = (rpFlip a b S).1 ∧ Rel (spFlip a b B).2 (rpFlip a b S).2 := by
  have r3 := Rel_ref (z := -3) h (by omega)
  have r1 := Rel_ref (z := -1) h (by omega)
  have hPL := HR_PL h
  obtain ⟨eX, eY, eT, eN⟩ := PtR_e h.2.2.1
  have bm : ∀ u, HR B.2.2.2.1.1 S u → ∀ x y : Nat, x < 40 → y < 40 → badS B.1.1 B.1.2.1 B.2.2.2.1.1.2.2 x y = true → mayS B.1.1 B.1.2.1 B.2.2.2.1.1.2.2 x y = true := by
    intro u hu x y hx hy z
    rw [← eX, ← eY] at z ⊢
    obtain ⟨p, q, k1, k2, k3⟩ := (badS_iff hPL hu.1 hx hy).1 z
    exact (mayS_iff hu.1 hx hy).2 ⟨p, q, k1, k2, bad_flip hPL hu.1.2.2 k1 k2 k3⟩
  have mf : ∀ u, HR B.2.2.2.1.1 S u → ∀ x y : Nat, x < 40 → y < 40 → mayS B.1.1 B.1.2.1 B.2.2.2.1.1.2.2 x y = true → ∃ u', tovOk x y S ∧ HR (flT x y B.2.2.2.1.1) (rTov x y S) u' ∧ (flT x y B.2.2.2.1.1).2.1 = B.2.2.2.1.1.2.1 ∧ (rTov x y S).2.2.1.2.2.2.2.2.1 = S.2.2.1.2.2.2.2.2.1 := by
    intro u hu x y hx hy z
    rw [← eX, ← eY] at z
    obtain ⟨p, q, k1, k2, k3⟩ := (mayS_iff hu.1 hx hy).1 z
    have w := HR_flip hu k1 k2 k3.1 k3.2
    exact ⟨_, w.1, w.2, (SI_flip hu.1 k1 k2 k3.1 k3.2).2, (tov_flr hu.2 hu.1.2.2 k1 k2 k3.1 k3.2).2.2⟩
  refine ⟨fun rd => ?_, ?_⟩
  · obtain ⟨u, hu⟩ := h.2.2.2.2.1.2.2.2.2.2 rd
    intro he hb
    obtain ⟨l1, l2, _, w⟩ := ed_nat h hu he
    have my : mayS B.1.1 B.1.2.1 B.2.2.2.1.1.2.2 a.toNat b.toNat = true := by
      by_cases c2 : badS B.1.1 B.1.2.1 B.2.2.2.1.1.2.2 a.toNat b.toNat = true
      · exact bm u hu _ _ l1 l2 c2
      · rw [if_neg c2] at w
        by_cases c3 : mayS B.1.1 B.1.2.1 B.2.2.2.1.1.2.2 a.toNat b.toNat = true
        · exact c3
        · rw [if_neg c3] at w; exact (hb w).elim
    obtain ⟨_, m1, _⟩ := mf u hu _ _ l1 l2 my
    exact m1
  unfold spFlip rpFlip
  rw [fhe_eq h a b]
  by_cases c0 : (S.2.2.1.1 && !S.2.2.1.2.1) = false
  · rw [if_pos c0, if_pos c0, if_pos (by decide)]; exact ⟨rfl, r3⟩
  rw [if_neg c0, if_neg c0]
  have rd : (S.2.2.1.1 && !S.2.2.1.2.1) = true := by simpa using c0
  obtain ⟨u, hu⟩ := h.2.2.2.2.1.2.2.2.2.2 rd
  by_cases c1 : edG S.2.2.1.2.2.1 S.2.2.1.2.2.2.1 S.2.2.1.2.2.2.2.1 S.2.2.1.2.2.2.2.2.1 a b = false
  · rw [if_pos c1, if_pos c1, if_pos (by decide)]; exact ⟨rfl, r1⟩
  rw [if_neg c1, if_neg c1, if_neg (by decide)]
  obtain ⟨l1, l2, _, w⟩ := ed_nat h hu (by simpa using c1 : edG S.2.2.1.2.2.1 S.2.2.1.2.2.2.1 S.2.2.1.2.2.2.2.1 S.2.2.1.2.2.2.2.2.1 a b = true)
  by_cases c3 : mayS B.1.1 B.1.2.1 B.2.2.2.1.1.2.2 a.toNat b.toNat = false
  · have c2 : ¬ badS B.1.1 B.1.2.1 B.2.2.2.1.1.2.2 a.toNat b.toNat = true := fun z => by
      have := bm u hu _ _ l1 l2 z; rw [c3] at this; cases this
    rw [if_neg c2, c3, if_neg (by decide)] at w
    rw [if_pos c3, if_pos w]; exact ⟨rfl, r3⟩
  · have my : mayS B.1.1 B.1.2.1 B.2.2.2.1.1.2.2 a.toNat b.toNat = true := by simpa using c3
    have wn : ¬ bdO S.1.1 S.1.2.1 S.2.2.1.2.2.1 S.2.2.1.2.2.2.1 S.2.2.1.2.2.2.2.1 S.2.2.1.2.2.2.2.2.1 a.toNat b.toNat = 0 := by
      rw [w]
      by_cases c2 : badS B.1.1 B.1.2.1 B.2.2.2.1.1.2.2 a.toNat b.toNat = true
      · rw [if_pos c2]; decide
      · rw [if_neg c2, if_pos my]; decide
    rw [if_neg c3, if_neg wn]
    obtain ⟨u', m1, m2, m3, m4⟩ := mf u hu _ _ l1 l2 my
    refine ⟨rfl, ?_⟩
    obtain ⟨h1, h2, h3, h4, h5, h6, h7⟩ := h
    obtain ⟨b1, b2, b3, b4, b5, b6, b7, b8⟩ := h1
    refine ⟨⟨b1, b2, b3, b4, b5, b6, flT_b b7 l1 l2, b8⟩, rTov_b h2 l1 l2 m1, h3, h4, ⟨h5.1, h5.2.1, ?_, ?_, ?_, fun _ => ⟨u', m2⟩⟩, h6, h7⟩
    · show B.2.2.2.2.2.2.2.2 + 1 = S.2.2.1.2.2.2.2.2.2 + 1
      rw [h5.2.2.1]
    · intro z
      show (flT a.toNat b.toNat B.2.2.2.1.1).2.1 = (rTov a.toNat b.toNat S).2.2.1.2.2.2.2.2.1
      rw [m3, m4]; exact h5.2.2.2.1 z
    · intro z
      have z : S.2.2.1.1 = false := z
      rw [z] at rd; cases rd
theorem rSet_b : ∀ (n : Nat) (S : RS), RI S → stOk n S → RI (rSet n S).2 := by
  intro n
  induction n with
  | zero => intro S h _; exact h
  | succ n ih =>
    intro S h ho
    have r := rSts_b h ho.1
    unfold rSet
    by_cases z : (rSts S).1 = true
    · rw [if_pos z]; exact ih _ r (ho.2 z)
    · rw [if_neg z]; exact r
theorem call_settle {B : BS} {S : RS} (h : Rel B S) (n : Int) : ((S.2.2.1.1 && !S.2.2.1.2.1) = true → 0 ≤ n → n ≤ 10000 → stOk n.toNat S) ∧ (spSettle n B).1 = (rpSettle n S).1 ∧ Rel (spSettle n B).2 (rpSettle n S).2 := by
  have r3 := Rel_ref (z := -3) h (by omega)
  have r4 := Rel_ref (z := -4) h (by omega)
  have r6 := Rel_ref (z := -6) h (by omega)
  have hPL := HR_PL h
  obtain ⟨eX, eY, eT, eN⟩ := PtR_e h.2.2.1
  have go : (S.2.2.1.1 && !S.2.2.1.2.1) = true → ∀ k : Nat, stOk k S ∧ (stS k B).1 = (rSet k S).1 ∧ keep S (rSet k S).2 ∧ (rSet k S).2.2.2.1.2.2.2.2.2.2 = S.2.2.1.2.2.2.2.2.2 + (rSet k S).1 ∧ ∃ u, HR (stS k B).2 (rSet k S).2 u := by
    intro rd k
    obtain ⟨u, hu⟩ := h.2.2.2.2.1.2.2.2.2.2 rd
    have := set_eq k k 0 _ B.2.2.2.1.1 S u (by omega) hPL hu rfl
    rw [eX, eY, Nat.zero_add] at this
    exact this
  refine ⟨fun rd _ _ => (go rd _).1, ?_⟩
  unfold spSettle rpSettle
  rw [rdy_eq h.2.2.2.2.1]
  by_cases c0 : (S.2.2.1.1 && !S.2.2.1.2.1) = false
  · rw [if_pos c0, if_pos c0]; exact ⟨rfl, r3⟩
  rw [if_neg c0, if_neg c0]
  have rd : (S.2.2.1.1 && !S.2.2.1.2.1) = true := by simpa using c0
  by_cases c1 : n < 0
  · rw [if_pos c1, if_pos c1]; exact ⟨rfl, r4⟩
  rw [if_neg c1, if_neg c1]
  by_cases c2 : 10000 < n
  · rw [if_pos c2, if_pos c2]; exact ⟨rfl, r6⟩
  rw [if_neg c2, if_neg c2]
  obtain ⟨g1, g2, g3, g4, u, g5⟩ := go rd n.toNat
  refine ⟨by show (((stS n.toNat B).1 : Nat) : Int) = _; rw [g2], ?_⟩
  obtain ⟨h1, h2, h3, h4, h5, h6, h7⟩ := h
  obtain ⟨b1, b2, b3, b4, b5, b6, b7, b8⟩ := h1
  have hr := rSet_b n.toNat S h2 g1
  refine ⟨⟨b1, b2, b3, b4, b5, b6, (stl_b n.toNat 0 _ _ (by omega) b7 (by omega)).1, b8⟩, hr, ?_, ?_, ⟨?_, ?_, ?_, ?_, ?_, fun _ => ⟨u, g5⟩⟩, h6, ?_⟩
  · unfold PtR; rw [g3.1]; exact h3
  · intro k hk
    show B.2.2.2.2.1 k = (rSet n.toNat S).2.2.2.2.2 (k + 1)
    rw [g3.2.2.2.2.1]; exact h4 k hk
  · show B.2.2.2.2.2.2.1 = (rSet n.toNat S).2.2.2.1.1
    rw [g3.2.2.1]; exact h5.1
  · show B.2.2.2.2.2.2.2.1 = ((rSet n.toNat S).2.2.2.1.1 && (rSet n.toNat S).2.2.2.1.2.1)
    rw [g3.2.2.1, g3.2.2.2.1]; exact h5.2.1
  · show B.2.2.2.2.2.2.2.2 + (stS n.toNat B).1 = (rSet n.toNat S).2.2.2.1.2.2.2.2.2.2
    rw [g4, g2, h5.2.2.1]
  · intro _; exact (HR_row g5).1
  · intro z
    have z : (rSet n.toNat S).2.2.2.1.1 = false := z
    rw [g3.2.2.1] at z; rw [z] at rd; cases rd
  · intro z
    have z : (rSet n.toNat S).2.2.1.1 = true := z
    rw [g3.2.1] at z
    have := h7 z
    show KI _ _ _ _ _ _ (rSet n.toNat S).2
    unfold KI at *; rw [g3.2.1]; exact this
