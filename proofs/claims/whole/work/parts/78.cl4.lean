/-! edge, triangle, ring, around, pointOf, alike, bads -/
theorem hP_some {t : Nat → Nat → Nat → Prop} {Q : QB} {hh : Nat} (h : HB Q hh t) {a b : Nat} (hab : a ≠ b) : (ff (hP Q.1 Q.2.1 Q.2.2 (a : Int) (b : Int)) hh 0).isSome = true ↔ (∃ p, t a b p) ∨ ∃ p, t b a p := by
  rw [← edG_iff h]
  unfold edG
  rw [haS_f0 hh 0 (by omega), decide_eq_true (show (a : Int) ≠ (b : Int) by omega)]
  cases ff (hP Q.1 Q.2.1 Q.2.2 (a : Int) (b : Int)) hh 0 with
  | none => exact ⟨fun z => Bool.noConfusion z, fun z => absurd z (by decide)⟩
  | some c => exact ⟨fun _ => by rw [decide_eq_true (show 0 ≤ oI (-1) (some c) by show (0 : Int) ≤ (c : Int); omega)]; rfl, fun _ => rfl⟩
theorem sid_iff {X Y : Nat → Int} {vb : Nat → Bool} {M : MT} {t : Nat → Nat → Nat → Prop} (h : SI X Y vb M t) {x y : Nat} (hx : x < 40) (hy : y < 40) : sidP M.2.2 x y = true ↔ (∃ p, t x y p) ∨ ∃ p, t y x p := by
  unfold sidP
  simp only [Bool.or_eq_true, decide_eq_true_eq]
  constructor
  · intro z
    rcases z with z | z
    · exact Or.inl ⟨_, MC_pos h.1 h.2.1 hx hy z⟩
    · exact Or.inr ⟨_, MC_pos h.1 h.2.1 hy hx z⟩
  · intro z
    rcases z with ⟨p, z⟩ | ⟨p, z⟩
    · left; have := (h.1.2.1 x y p hx hy (h.1.2.2.2.1 _ _ _ z).2.2.1).2 z; omega
    · right; have := (h.1.2.1 y x p hy hx (h.1.2.2.2.1 _ _ _ z).2.2.1).2 z; omega
theorem call_edge {B : BS} {S : RS} (h : Rel B S) (a b : Int) : knOk S ∧ (spEdge a b B).1 = (rpEdge a b S).1 ∧ Rel (spEdge a b B).2 (rpEdge a b S).2 := by
  obtain ⟨k1, k2, k3, k4, t, d⟩ := Rel_both h
  obtain ⟨eX, eY, eT, eN⟩ := PtR_e h.2.2.1
  have r1 := Rel_ref (z := -1) h (by omega)
  have told40 := h.1.1.2.2.2.1
  refine ⟨k1, ?_⟩
  unfold spEdge rpEdge two
  rw [eT, eN]
  have hf : ¬ (true = false) := by decide
  cases c1 : thr B.1.2.2.1 B.1.2.2.2.2.1 a with
  | false => rw [Bool.false_and, Bool.and_false]; exact ⟨rfl, r1⟩
  | true =>
    cases c2 : thr B.1.2.2.1 B.1.2.2.2.2.1 b with
    | false => rw [Bool.and_false, Bool.and_false]; exact ⟨rfl, r1⟩
    | true =>
      rw [if_neg hf, if_neg hf]
      by_cases ab : a = b
      · rw [if_pos ab, decide_eq_false (show ¬ a ≠ b from fun z => z ab)]; exact ⟨rfl, r1⟩
      rw [if_neg ab, decide_eq_true (show a ≠ b from ab), if_neg (show ¬ ((true && (true && true)) = false) by decide)]
      have ta := thr_t c1; have tb := thr_t c2
      have i1 := sid_iff d.1 (x := a.toNat) (y := b.toNat) (by omega) (by omega)
      have i2 := hP_some d.2.1 (a := a.toNat) (b := b.toNat) (by omega)
      rw [show ((a.toNat : Nat) : Int) = a from by omega, show ((b.toNat : Nat) : Int) = b from by omega] at i2
      have i3 : sidP (sDrw B).2.2.1.1.2.2 a.toNat b.toNat = (ff (edP (rKnow S).2.1.2.2.2.2.1 (rKnow S).2.1.2.2.2.2.2.1 (rKnow S).2.1.2.2.2.2.2.2.1 a b) (rKnow S).2.1.2.2.2.2.2.2.2 0).isSome := by
        have i4 := i1.trans i2.symm
        have i4 : sidP (sDrw B).2.2.1.1.2.2 a.toNat b.toNat = true ↔ (ff (edP (rKnow S).2.1.2.2.2.2.1 (rKnow S).2.1.2.2.2.2.2.1 (rKnow S).2.1.2.2.2.2.2.2.1 a b) (rKnow S).2.1.2.2.2.2.2.2.2 0).isSome = true := i4
        exact Bool.eq_iff_iff.mpr i4
      rw [← i3]
      cases sidP (sDrw B).2.2.1.1.2.2 a.toNat b.toNat with
      | false => exact ⟨rfl, k2⟩
      | true => exact ⟨rfl, k2⟩
theorem ff_find {A : Nat → Nat} {n j k : Nat} (hs : ss A n) (hj : j < n) (e : A j = k) : ff (cdP A k) n 0 = some j := by
  refine ff_is1 (by omega) hj (decide_eq_true e) (fun q _ hq => decide_eq_false ?_)
  have := hs q j hq hj; omega
theorem call_triangle {B : BS} {S : RS} (h : Rel B S) (t w : Int) : knOk S ∧ (spTriangle t w B).1 = (rpTriangle t w S).1 ∧ Rel (spTriangle t w B).2 (rpTriangle t w S).2 := by
  obtain ⟨k1, k2, k3, k4, u, d⟩ := Rel_both h
  have r1 := Rel_ref (z := -1) k2 (by omega)
  have r2 := Rel_ref (z := -2) k2 (by omega)
  refine ⟨k1, ?_⟩
  unfold spTriangle rpTriangle
  have em := d.2.2.1
  rw [em]
  by_cases c0 : (decide (0 ≤ t) && decide (t < ((rKnow S).2.1.2.2.2.2.2.2.2 : Int))) = false
  · rw [if_pos c0, if_pos c0]; exact ⟨rfl, r1⟩
  rw [if_neg c0, if_neg c0]
  have tr : 0 ≤ t ∧ t < ((rKnow S).2.1.2.2.2.2.2.2.2 : Int) := by simpa using c0
  by_cases c1 : w < 0
  · rw [if_pos c1, if_pos c1]; exact ⟨rfl, r2⟩
  rw [if_neg c1, if_neg c1]
  by_cases c2 : 5 < w
  · rw [if_pos c2, if_pos c2]; exact ⟨rfl, r2⟩
  rw [if_neg c2, if_neg c2]
  have hi : t.toNat < (sDrw B).2.2.1.1.2.1 := by omega
  by_cases c3 : w < 3
  · rw [if_pos c3, if_pos c3]
    refine ⟨?_, k2⟩
    show ((ptT (sDrw B).2.2.1.1.1 t.toNat w.toNat : Nat) : Int) = _
    rw [Dbl_pt d hi]
  rw [if_neg c3, if_neg c3]
  -- the side
  rw [show w.toNat - 2 = (w - 3).toNat + 1 from by omega, show w.toNat - 1 = (w - 3).toNat + 2 from by omega]
  have wl : (w - 3).toNat < 3 := by omega
  have hSI := d.1
  have hHB := d.2.1
  have row := d.2.2.2
  have pt := fun v => Dbl_pt d hi v
  unfold bey
  rw [pt, pt]
  generalize hM : (sDrw B).2.2.1.1 = M at *
  generalize ht : t.toNat = i at *
  generalize hw : (w - 3).toNat = v at *
  have g := HB_at hHB (i := i) (by omega)
  have gd := hHB.2.2.2.1 _ _ _ g.1
  generalize hQ : ((rKnow S).2.1.2.2.2.2.1, (rKnow S).2.1.2.2.2.2.2.1, (rKnow S).2.1.2.2.2.2.2.2.1) = Q at *
  have ab : ∃ a b c, ptA (rKnow S).2.1.2.2.2.2.1 (rKnow S).2.1.2.2.2.2.2.1 (rKnow S).2.1.2.2.2.2.2.2.1 i ((v + 1) % 3) = a ∧ ptA (rKnow S).2.1.2.2.2.2.1 (rKnow S).2.1.2.2.2.2.2.1 (rKnow S).2.1.2.2.2.2.2.2.1 i ((v + 2) % 3) = b ∧ rt3 a b c (Q.1 i) (Q.2.1 i) (Q.2.2 i) := by
    rw [← hQ]
    have v3 : v = 0 ∨ v = 1 ∨ v = 2 := by omega
    rcases v3 with rfl | rfl | rfl
    · exact ⟨_, _, _, rfl, rfl, rt3_1 _ _ _⟩
    · exact ⟨_, _, _, rfl, rfl, rt3_2 _ _ _⟩
    · exact ⟨_, _, _, rfl, rfl, rt3_rf _ _ _⟩
  obtain ⟨a, b, c, ea, eb, rr⟩ := ab
  rw [ea, eb]
  have tabc := tRt hHB.2.2.1 g.1 rr
  have bb := hHB.2.2.2.1 _ _ _ tabc
  have only : ∀ o, o < (rKnow S).2.1.2.2.2.2.2.2.2 → o ≠ i → hP Q.1 Q.2.1 Q.2.2 (a : Int) (b : Int) o = true → ∃ q, u b a q ∧ rc Q o = cod b a q := by
    intro o ho oi hp
    have go := HB_at hHB ho
    rcases HB_P hHB ho bb.2.2.2.1 hp with r | r
    · exfalso; apply oi
      have e := hHB.2.2.2.2 _ _ _ _ (tRt hHB.2.2.1 go.1 r) tabc
      rw [e] at r
      have e1 := cod_rt (rt3_sy r) go.2.1 go.2.2; have e2 := cod_rt (rt3_sy rr) g.2.1 g.2.2
      rcases Nat.lt_trichotomy o i with z | z | z
      · have := hHB.2.1.1 o i z (by omega); unfold rc at this; omega
      · exact z
      · have := hHB.2.1.1 i o z ho; unfold rc at this; omega
    · exact ⟨_, tRt hHB.2.2.1 go.1 r, (cod_rt (rt3_sy r) go.2.1 go.2.2).symm⟩
  have eP : ∀ o, edP (rKnow S).2.1.2.2.2.2.1 (rKnow S).2.1.2.2.2.2.2.1 (rKnow S).2.1.2.2.2.2.2.2.1 (a : Int) (b : Int) o = hP Q.1 Q.2.1 Q.2.2 (a : Int) (b : Int) o := by intro o; rw [← hQ]; rfl
  by_cases hq : ∃ q, u b a q
  · obtain ⟨q, hq⟩ := hq
    have bq := hHB.2.2.2.1 _ _ _ hq
    obtain ⟨j, j1, j2, j3, j4, _, _, j5⟩ := HB_ix hHB hq
    have ji : j ≠ i := by
      intro z; subst z; unfold rt3 at j2 rr; omega
    have thq := (hSI.1.2.1 b a q bq.1 bq.2.1 bq.2.2.1).2 hq
    have cj : M.1 j = cod b a q := by
      rw [← j5, row j (by omega)]
      rw [← hQ]; rfl
    have f1 : ff (cdP M.1 (cod b a q)) (rKnow S).2.1.2.2.2.2.2.2.2 0 = some j := by
      rw [← em]; exact ff_find hSI.1.1.1 (by omega) cj
    have f2 : ff (fun o => decide (o ≠ i) && edP (rKnow S).2.1.2.2.2.2.1 (rKnow S).2.1.2.2.2.2.2.1 (rKnow S).2.1.2.2.2.2.2.2.1 (a : Int) (b : Int) o) (rKnow S).2.1.2.2.2.2.2.2.2 0 = some j := by
      refine ff_is1 (by omega) j1 ?_ (fun o _ ho => ?_)
      · show (decide (j ≠ i) && _) = true
        rw [eP, decide_eq_true ji, j4]; rfl
      · show (decide (o ≠ i) && _) = false
        rw [eP]
        by_cases oi : o = i
        · rw [decide_eq_false (show ¬ o ≠ i from fun z => z oi)]; rfl
        · cases hz : hP Q.1 Q.2.1 Q.2.2 (a : Int) (b : Int) o with
          | false => rw [Bool.and_false]
          | true =>
            exfalso
            obtain ⟨q', k1', k2'⟩ := only o (by omega) oi hz
            have := hHB.2.2.2.2 _ _ _ _ k1' hq
            rw [this] at k2'
            have := hHB.2.1.1 o j ho j1; omega
    rw [thq, if_neg (show ¬ ((q : Int) < 0) by omega), Int.toNat_natCast, f1, f2]
    refine ⟨?_, ?_⟩
    · show (if (j : Int) < 0 then ((-9 : Int), sDrw B) else ((j : Int), sDrw B)).1 = (j : Int)
      rw [if_neg (by omega)]
    · show Rel (if (j : Int) < 0 then ((-9 : Int), sDrw B) else ((j : Int), sDrw B)).2 (rKnow S)
      rw [if_neg (by omega)]; exact k2
  · have thn := (MC_neg hSI.1 hSI.2.1 (a := b) (b := a) bb.2.1 bb.1).2 (fun q z => hq ⟨q, z⟩)
    have f2 : ff (fun o => decide (o ≠ i) && edP (rKnow S).2.1.2.2.2.2.1 (rKnow S).2.1.2.2.2.2.2.1 (rKnow S).2.1.2.2.2.2.2.2.1 (a : Int) (b : Int) o) (rKnow S).2.1.2.2.2.2.2.2.2 0 = none := by
      refine ff_non (fun o _ ho => ?_)
      show (decide (o ≠ i) && _) = false
      rw [eP]
      by_cases oi : o = i
      · rw [decide_eq_false (show ¬ o ≠ i from fun z => z oi)]; rfl
      · cases hz : hP Q.1 Q.2.1 Q.2.2 (a : Int) (b : Int) o with
        | false => rw [Bool.and_false]
        | true => obtain ⟨q', k1', _⟩ := only o ho oi hz; exact (hq ⟨q', k1'⟩).elim
    rw [if_pos thn, f2]
    exact ⟨rfl, k2⟩
theorem call_ring {B : BS} {S : RS} (h : Rel B S) (t : Int) : knOk S ∧ (spRing t B).1 = (rpRing t S).1 ∧ Rel (spRing t B).2 (rpRing t S).2 := by
  obtain ⟨k1, k2, k3, k4, u, d⟩ := Rel_both h
  have r1 := Rel_ref (z := -1) k2 (by omega)
  refine ⟨k1, ?_⟩
  unfold spRing rpRing
  have em := d.2.2.1
  rw [em]
  by_cases c0 : (decide (0 ≤ t) && decide (t < ((rKnow S).2.1.2.2.2.2.2.2.2 : Int))) = false
  · rw [if_pos c0, if_pos c0]; exact ⟨rfl, r1⟩
  rw [if_neg c0, if_neg c0]
  have tr : 0 ≤ t ∧ t < ((rKnow S).2.1.2.2.2.2.2.2.2 : Int) := by simpa using c0
  refine ⟨?_, k2⟩
  have hi : t.toNat < (sDrw B).2.2.1.1.2.1 := by omega
  obtain ⟨eX, eY, eT, eN⟩ := PtR_e k2.2.2.1
  have g := HB_at d.2.1 (i := t.toNat) (by omega)
  have g1 : u ((rKnow S).2.1.2.2.2.2.1 t.toNat) ((rKnow S).2.1.2.2.2.2.2.1 t.toNat) ((rKnow S).2.1.2.2.2.2.2.2.1 t.toNat) := g.1
  have v := d.1.2.2.2.1 _ _ _ g1
  have nn := d.2.1.2.2.2.1 _ _ _ g1
  show ((cn (rgP (sDrw B).1.1 (sDrw B).1.2.1 (sDrw B).1.2.2.2.1 (ptT (sDrw B).2.2.1.1.1 t.toNat 0) (ptT (sDrw B).2.2.1.1.1 t.toNat 1) (ptT (sDrw B).2.2.1.1.1 t.toNat 2)) (sDrw B).1.2.2.2.2.2 0 : Nat) : Int) = ((3 + cn (rnP (rKnow S).1.1 (rKnow S).1.2.1 (rKnow S).1.2.2.1 (rKnow S).2.1.2.2.2.2.1 (rKnow S).2.1.2.2.2.2.2.1 (rKnow S).2.1.2.2.2.2.2.2.1 t.toNat) (rKnow S).1.2.2.2 0 : Nat) : Int)
  rw [Dbl_pt d hi, Dbl_pt d hi, Dbl_pt d hi, eX, eY, eT, eN]
  have p0 : ptA (rKnow S).2.1.2.2.2.2.1 (rKnow S).2.1.2.2.2.2.2.1 (rKnow S).2.1.2.2.2.2.2.2.1 t.toNat 0 = (rKnow S).2.1.2.2.2.2.1 t.toNat := rfl
  have p1 : ptA (rKnow S).2.1.2.2.2.2.1 (rKnow S).2.1.2.2.2.2.2.1 (rKnow S).2.1.2.2.2.2.2.2.1 t.toNat 1 = (rKnow S).2.1.2.2.2.2.2.1 t.toNat := rfl
  have p2 : ptA (rKnow S).2.1.2.2.2.2.1 (rKnow S).2.1.2.2.2.2.2.1 (rKnow S).2.1.2.2.2.2.2.2.1 t.toNat 2 = (rKnow S).2.1.2.2.2.2.2.2.1 t.toNat := rfl
  rw [p0, p1, p2]
  unfold rnP hsA
  generalize (rKnow S).2.1.2.2.2.2.1 t.toNat = a at *
  generalize (rKnow S).2.1.2.2.2.2.2.1 t.toNat = b at *
  generalize (rKnow S).2.1.2.2.2.2.2.2.1 t.toNat = c at *
  have v : vbT (sDrw B).1.2.2.1 (sDrw B).1.2.2.2.2.1 a = true ∧ vbT (sDrw B).1.2.2.1 (sDrw B).1.2.2.2.2.1 b = true ∧ vbT (sDrw B).1.2.2.1 (sDrw B).1.2.2.2.2.1 c = true ∧ 0 < le3 (sDrw B).1.1 (sDrw B).1.2.1 a b c := v
  have va := vbT_iff.1 v.1; have vb := vbT_iff.1 v.2.1; have vc := vbT_iff.1 v.2.2.1
  have nn : a < 40 ∧ b < 40 ∧ c < 40 ∧ a ≠ b ∧ b ≠ c ∧ a ≠ c := nn
  have co := cn_ord k2.2.2.1.2.1 k2.2.2.1.2.2 (fun x => decide (wi (sDrw B).1.1 (sDrw B).1.2.1 a b c x = 0))
  have co : cn (rgP (sDrw B).1.1 (sDrw B).1.2.1 (sDrw B).1.2.2.2.1 a b c) (sDrw B).1.2.2.2.2.2 0 = cn (fun x => (sDrw B).1.2.2.1 x && decide (wi (sDrw B).1.1 (sDrw B).1.2.1 a b c x = 0)) (sDrw B).1.2.2.2.2.1 0 := co
  rw [co]
  have w0 : ∀ x, wi (sDrw B).1.1 (sDrw B).1.2.1 a b c x = wsum (sDrw B).1.1 (sDrw B).1.2.1 a b c x := fun x => wi_p v.2.2.2
  have wa : wsum (sDrw B).1.1 (sDrw B).1.2.1 a b c a = 0 := by unfold wsum sq lo; grind
  have wb : wsum (sDrw B).1.1 (sDrw B).1.2.1 a b c b = 0 := by unfold wsum sq lo; grind
  have wc : wsum (sDrw B).1.1 (sDrw B).1.2.1 a b c c = 0 := by unfold wsum sq lo; grind
  have s1 := cn_rm (Q := fun x => (sDrw B).1.2.2.1 x && decide (wi (sDrw B).1.1 (sDrw B).1.2.1 a b c x = 0)) (j := a) (m := (sDrw B).1.2.2.2.2.1) (by show (_ && _) = true; rw [va.2, w0, decide_eq_true wa]; rfl) va.1
  have s2 := cn_rm (Q := fun x => ((sDrw B).1.2.2.1 x && decide (wi (sDrw B).1.1 (sDrw B).1.2.1 a b c x = 0)) && decide (x ≠ a)) (j := b) (m := (sDrw B).1.2.2.2.2.1) (by show ((_ && _) && _) = true; rw [vb.2, w0, decide_eq_true wb, decide_eq_true (show b ≠ a by omega)]; rfl) vb.1
  have s3 := cn_rm (Q := fun x => (((sDrw B).1.2.2.1 x && decide (wi (sDrw B).1.1 (sDrw B).1.2.1 a b c x = 0)) && decide (x ≠ a)) && decide (x ≠ b)) (j := c) (m := (sDrw B).1.2.2.2.2.1) (by show (((_ && _) && _) && _) = true; rw [vc.2, w0, decide_eq_true wc, decide_eq_true (show c ≠ a by omega), decide_eq_true (show c ≠ b by omega)]; rfl) vc.1
  have e : cn (fun x => ((((sDrw B).1.2.2.1 x && decide (wi (sDrw B).1.1 (sDrw B).1.2.1 a b c x = 0)) && decide (x ≠ a)) && decide (x ≠ b)) && decide (x ≠ c)) (sDrw B).1.2.2.2.2.1 0 = cn (fun x => (sDrw B).1.2.2.1 x && (!(decide ((a : Int) = (x : Int)) || (decide ((b : Int) = (x : Int)) || decide ((c : Int) = (x : Int)))) && decide (wth (sDrw B).1.1 (sDrw B).1.2.1 a b c x = 0))) (sDrw B).1.2.2.2.2.1 0 := by
    refine cn_cg (fun x _ => ?_)
    show ((((_ && decide (wi (sDrw B).1.1 (sDrw B).1.2.1 a b c x = 0)) && decide (x ≠ a)) && decide (x ≠ b)) && decide (x ≠ c)) = (_ && (!(decide ((a : Int) = (x : Int)) || (decide ((b : Int) = (x : Int)) || decide ((c : Int) = (x : Int)))) && decide (wth (sDrw B).1.1 (sDrw B).1.2.1 a b c x = 0)))
    rw [w0, show decide (wth (sDrw B).1.1 (sDrw B).1.2.1 a b c x = 0) = decide (wsum (sDrw B).1.1 (sDrw B).1.2.1 a b c x = 0) from decide_eq_decide.mpr (by unfold wth; exact sgn_zero)]
    apply Bool.eq_iff_iff.mpr
    simp only [Bool.and_eq_true, Bool.not_eq_true', Bool.or_eq_false_iff, decide_eq_true_eq, decide_eq_false_iff_not]
    constructor
    · intro ⟨⟨⟨⟨y1, y2⟩, y3⟩, y4⟩, y5⟩; exact ⟨y1, ⟨by omega, by omega, by omega⟩, y2⟩
    · intro ⟨y1, ⟨y2, y3, y4⟩, y5⟩; exact ⟨⟨⟨⟨y1, y5⟩, by omega⟩, by omega⟩, by omega⟩
  omega
