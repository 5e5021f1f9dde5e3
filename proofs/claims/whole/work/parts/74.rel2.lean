/-! class and reference side by side -/
def PtR (B : BS) (S : RS) : Prop := S.1 = (B.1.1, B.1.2.1, B.1.2.2.1, B.1.2.2.2.2.1) ∧ srd B.1.1 B.1.2.1 B.1.2.2.2.1 B.1.2.2.2.2.2 ∧ VT B.1.2.2.1 B.1.2.2.2.2.1 B.1.2.2.2.1 B.1.2.2.2.2.2
def RfR (B : BS) (S : RS) : Prop := ∀ k, k < 6 → B.2.2.2.2.1 k = S.2.2.2.2 (k + 1)
def HdR (B : BS) (S : RS) : Prop := B.2.2.2.2.2.2.1 = S.2.2.1.1 ∧ B.2.2.2.2.2.2.2.1 = (S.2.2.1.1 && S.2.2.1.2.1) ∧ B.2.2.2.2.2.2.2.2 = S.2.2.1.2.2.2.2.2.2 ∧ (S.2.2.1.1 = true → B.2.2.2.1.1.2.1 = S.2.2.1.2.2.2.2.2.1) ∧ (S.2.2.1.1 = false → B.2.2.2.1.1.2.1 = 0) ∧ ((S.2.2.1.1 && !S.2.2.1.2.1) = true → ∃ t, HR B.2.2.2.1.1 S t)
def DrR (B : BS) : Prop := B.2.2.2.2.2.1 = true → ∃ t, DI B.1.1 B.1.2.1 B.1.2.2.1 B.1.2.2.2.2.1 B.2.2.1.1 t
def KnR (B : BS) (S : RS) : Prop := S.2.1.1 = true → KI B.1.1 B.1.2.1 B.1.2.2.1 B.1.2.2.2.2.1 B.1.2.2.2.1 B.1.2.2.2.2.2 S
def Rel (B : BS) (S : RS) : Prop := BI B ∧ RI S ∧ PtR B S ∧ RfR B S ∧ HdR B S ∧ DrR B ∧ KnR B S
theorem Rel_ref {B : BS} {S : RS} {z : Int} (h : Rel B S) (hz : -6 ≤ z ∧ z ≤ -1) : Rel (sRef z B) (rRef z S) := by
  obtain ⟨h1, h2, h3, h4, h5, h6, h7⟩ := h
  refine ⟨sRef_b h1, rRef_b h2, h3, ?_, h5, h6, h7⟩
  intro k hk
  show sn B.2.2.2.2.1 (-1 - z).toNat (B.2.2.2.2.1 (-1 - z).toNat + 1) k = sn S.2.2.2.2 (-z).toNat (S.2.2.2.2 (-z).toNat + 1) (k + 1)
  have e : (-z).toNat = (-1 - z).toNat + 1 := by omega
  rw [e]
  by_cases q : k = (-1 - z).toNat
  · rw [← q, sn_eq, sn_eq, h4 k hk]
  · rw [sn_ne _ _ q, sn_ne _ _ (by omega)]; exact h4 k hk
theorem Rel_drw {B : BS} {S : RS} (h : Rel B S) : Rel (sDrw B) S ∧ (sDrw B).1 = B.1 ∧ ∃ t, DI B.1.1 B.1.2.1 B.1.2.2.1 B.1.2.2.2.2.1 (sDrw B).2.2.1.1 t := by
  obtain ⟨h1, h2, h3, h4, h5, h6, h7⟩ := h
  have hb := sDrw_b h1
  by_cases hf : B.2.2.2.2.2.1 = true
  · have e : sDrw B = B := by unfold sDrw; rw [if_pos hf]
    rw [e]; exact ⟨⟨h1, h2, h3, h4, h5, h6, h7⟩, rfl, h6 hf⟩
  · have e : sDrw B = (B.1, B.2.1, drw B.1.1 B.1.2.1 B.1.2.2.2.1 B.1.2.2.2.2.2 B.2.2.1, B.2.2.2.1, B.2.2.2.2.1, true, B.2.2.2.2.2.2) := by unfold sDrw; rw [if_neg hf]
    obtain ⟨b1, b2, b3, b4, b5, b6, b7, b8⟩ := h1
    have d := drw_DI b1.1 b1.2.1 b1.2.2.2.1 b1.2.2.2.2 b1.2.2.1 h3.2.1 h3.2.2 B.2.2.1 (loT_b b1.2.2.1 b5 b6).1 (drw_b b1.2.2.1 b5 b6).1
    rw [e] at hb ⊢
    exact ⟨⟨hb, h2, h3, h4, h5, fun _ => d, h7⟩, rfl, d⟩
theorem Rel_trc {B : BS} {S : RS} (h : Rel B S) : Rel (sTrc B) S := by
  obtain ⟨h1, h2, h3, h4, h5, h6, h7⟩ := h
  exact ⟨sTrc_b h1, h2, h3, h4, h5, h6, h7⟩
theorem Rel_know {B : BS} {S : RS} (h : Rel B S) : knOk S ∧ Rel B (rKnow S) ∧ KI B.1.1 B.1.2.1 B.1.2.2.1 B.1.2.2.2.2.1 B.1.2.2.2.1 B.1.2.2.2.2.2 (rKnow S) := by
  obtain ⟨_, _, t, hD⟩ := Rel_drw h
  obtain ⟨h1, h2, h3, h4, h5, h6, h7⟩ := h
  obtain ⟨b1, b2, b3, b4, b5, b6, b7, b8⟩ := h1
  obtain ⟨k1, k2, k3⟩ := know_KI b1.1 b1.2.1 b1.2.2.2.1 b1.2.2.2.2 b1.2.2.1 h3.2.1 h3.2.2 hD h3.1 h7
  have kk := know_keep S
  refine ⟨k1, ⟨⟨b1, b2, b3, b4, b5, b6, b7, b8⟩, rKnow_b h2 k1, ?_, ?_, ?_, h6, fun _ => k2⟩, k2⟩
  · unfold PtR; rw [kk.1]; exact h3
  · unfold RfR; rw [kk.2]; exact h4
  · unfold HdR HR vbS at *; rw [kk.1, kk.2]; exact h5
/-- points changed: drawing, knowledge and hand are old -/
theorem Rel_chg {B : BS} {S : RS} {P : PS} {q : (Nat → Int) × (Nat → Int) × (Nat → Bool) × Nat} (h : Rel B S) (hb : BI (P, B.2)) (hr : RI (q, S.2)) (hp : PtR (P, B.2) (q, S.2)) : Rel (chg (P, B.2)) (rChg (q, S.2)) := by
  obtain ⟨h1, h2, h3, h4, h5, h6, h7⟩ := h
  obtain ⟨g1, g2, g3, g4, g5, _⟩ := h5
  refine ⟨chg_b hb, rChg_b hr, hp, h4, ⟨g1, ?_, g3, g4, g5, ?_⟩, fun z => Bool.noConfusion z, fun z => Bool.noConfusion z⟩
  · show B.2.2.2.2.2.2.1 = (S.2.2.1.1 && true)
    rw [g1, Bool.and_true]
  · intro z
    have z : (S.2.2.1.1 && !true) = true := z
    rw [Bool.not_true, Bool.and_false] at z; cases z
theorem atP_none {X Y : Nat → Int} {T : Nat → Bool} {n : Nat} {x y : Int} (h : ¬ 0 ≤ oI (-1) (ff (atP X Y T x y) n 0)) : ∀ p, p < n → T p = true → ¬ (X p = x ∧ Y p = y) := by
  intro p hp tp hxy
  cases hf : ff (atP X Y T x y) n 0 with
  | some c => rw [hf] at h; simp only [oI] at h; omega
  | none =>
    have := ff_none n 0 (by omega) hf p (by omega) hp
    unfold atP at this
    rw [tp, decide_eq_true hxy.1, decide_eq_true hxy.2] at this; cases this
theorem call_point {B : BS} {S : RS} (h : Rel B S) (x y : Int) : (spPoint x y B).1 = (rpPoint x y S).1 ∧ Rel (spPoint x y B).2 (rpPoint x y S).2 := by
  have hc := h
  obtain ⟨h1, h2, h3, h4, h5, h6, h7⟩ := h
  have e1 := h3.1
  have eX : S.1.1 = B.1.1 := by rw [e1]
  have eY : S.1.2.1 = B.1.2.1 := by rw [e1]
  have eT : S.1.2.2.1 = B.1.2.2.1 := by rw [e1]
  have eN : S.1.2.2.2 = B.1.2.2.2.2.1 := by rw [e1]
  have fv : fop x y = -4 ∨ fop x y = -6 ∨ fop x y = 0 := by unfold fop; (repeat' split) <;> omega
  unfold spPoint rpPoint
  rw [eX, eY, eT, eN]
  by_cases c1 : fop x y ≠ 0
  · rw [if_pos c1, if_pos c1]; exact ⟨rfl, Rel_ref hc (by omega)⟩
  · rw [if_neg c1, if_neg c1]
    have fb : (-10000 ≤ x ∧ x ≤ 10000) ∧ (-10000 ≤ y ∧ y ≤ 10000) := by
      unfold fop at c1
      by_cases q : x < -10000 ∨ y < -10000
      · rw [if_pos q] at c1; omega
      · rw [if_neg q] at c1
        by_cases w : 10000 < x ∨ 10000 < y
        · rw [if_pos w] at c1; omega
        · omega
    have told40 := h1.1.2.2.2.1
    by_cases c2 : 40 ≤ B.1.2.2.2.2.1
    · rw [if_pos c2, if_pos (show (B.1.2.2.2.2.1 : Int) = 40 by omega)]; exact ⟨rfl, Rel_ref hc (by omega)⟩
    · rw [if_neg c2, if_neg (show ¬ (B.1.2.2.2.2.1 : Int) = 40 by omega)]
      by_cases c3 : 0 ≤ oI (-1) (ff (atP B.1.1 B.1.2.1 B.1.2.2.1 x y) B.1.2.2.2.2.1 0)
      · rw [if_pos c3, if_pos c3]; exact ⟨rfl, Rel_ref hc (by omega)⟩
      · rw [if_neg c3, if_neg c3]
        refine ⟨rfl, ?_⟩
        have no := atP_none c3
        have lt : ∀ i, i < B.1.2.2.2.2.2 → B.1.2.2.2.1 i < B.1.2.2.2.2.1 ∧ B.1.2.2.1 (B.1.2.2.2.1 i) = true := fun i hi => (h3.2.2 _).1 ⟨i, hi, rfl⟩
        have er : rTell x y S = ((sn S.1.1 S.1.2.2.2 x, sn S.1.2.1 S.1.2.2.2 y, sn S.1.2.2.1 S.1.2.2.2 true, S.1.2.2.2 + 1), S.2) := rfl
        show Rel (chg (tellP x y B.1, B.2)) (rChg (rTell x y S))
        have hr : RI (rTell x y S) := rTell_b h2 fb.1 fb.2 (by rw [eN]; omega)
        rw [er] at hr ⊢
        refine Rel_chg hc (tell_b h1 fb.1 fb.2 (by omega)) hr ⟨?_, ?_, ?_⟩
        · show (sn S.1.1 S.1.2.2.2 x, sn S.1.2.1 S.1.2.2.2 y, sn S.1.2.2.1 S.1.2.2.2 true, S.1.2.2.2 + 1) = _
          rw [eX, eY, eT, eN]; rfl
        · show srd (sn B.1.1 B.1.2.2.2.2.1 x) (sn B.1.2.1 B.1.2.2.2.2.1 y) (insO (fun q => ear (sn B.1.1 B.1.2.2.2.2.1 x) (sn B.1.2.1 B.1.2.2.2.2.1 y) B.1.2.2.2.2.1 q) B.1.2.2.2.2.1 B.1.2.2.2.2.2 B.1.2.2.2.1) (B.1.2.2.2.2.2 + 1)
          have s1 : srd (sn B.1.1 B.1.2.2.2.2.1 x) (sn B.1.2.1 B.1.2.2.2.2.1 y) B.1.2.2.2.1 B.1.2.2.2.2.2 := srd_cg h3.2.1 (fun i hi => by
            have := (lt i hi).1
            rw [sn_ne _ _ (by omega), sn_ne _ _ (by omega)]; exact ⟨rfl, rfl⟩)
          refine (srd_ins s1 (fun i hi => ?_)).1
          have l := lt i hi
          unfold dpl
          rw [sn_eq, sn_eq, sn_ne _ _ (by omega), sn_ne _ _ (by omega)]
          exact fun z => no _ l.1 l.2 ⟨z.1.symm, z.2.symm⟩
        · intro v
          have s1 : srd (sn B.1.1 B.1.2.2.2.2.1 x) (sn B.1.2.1 B.1.2.2.2.2.1 y) B.1.2.2.2.1 B.1.2.2.2.2.2 := srd_cg h3.2.1 (fun i hi => by
            have := (lt i hi).1
            rw [sn_ne _ _ (by omega), sn_ne _ _ (by omega)]; exact ⟨rfl, rfl⟩)
          have s2 := (srd_ins (p := B.1.2.2.2.2.1) s1 (fun i hi => by
            have l := lt i hi
            unfold dpl
            rw [sn_eq, sn_eq, sn_ne _ _ (by omega), sn_ne _ _ (by omega)]
            exact fun z => no _ l.1 l.2 ⟨z.1.symm, z.2.symm⟩)).2 v
          show VO (insO (fun q => ear (sn B.1.1 B.1.2.2.2.2.1 x) (sn B.1.2.1 B.1.2.2.2.2.1 y) B.1.2.2.2.2.1 q) B.1.2.2.2.2.1 B.1.2.2.2.2.2 B.1.2.2.2.1) (B.1.2.2.2.2.2 + 1) v ↔ v < B.1.2.2.2.2.1 + 1 ∧ sn B.1.2.2.1 B.1.2.2.2.2.1 true v = true
          rw [s2, h3.2.2 v]
          by_cases q : v = B.1.2.2.2.2.1
          · rw [q, sn_eq]; exact ⟨fun _ => ⟨by omega, rfl⟩, fun _ => Or.inr rfl⟩
          · rw [sn_ne _ _ q]
            exact ⟨fun z => by rcases z with z | z; exact ⟨by omega, z.2⟩; exact (q z).elim, fun z => Or.inl ⟨by omega, z.2⟩⟩
theorem take_ord {B : BS} (h3 : srd B.1.1 B.1.2.1 B.1.2.2.2.1 B.1.2.2.2.2.2) (hv : VT B.1.2.2.1 B.1.2.2.2.2.1 B.1.2.2.2.1 B.1.2.2.2.2.2) {a : Nat} (ha : a < B.1.2.2.2.2.1) (ta : B.1.2.2.1 a = true) : (tkO a B.1.2.2.2.2.2 0 0 B.1.2.2.2.1).2 = B.1.2.2.2.2.2 - 1 ∧ 0 < B.1.2.2.2.2.2 ∧ srd B.1.1 B.1.2.1 (takeP a B.1).2.2.2.1 (takeP a B.1).2.2.2.2.2 ∧ VT (takeP a B.1).2.2.1 (takeP a B.1).2.2.2.2.1 (takeP a B.1).2.2.2.1 (takeP a B.1).2.2.2.2.2 := by
  obtain ⟨t1, t2, t3, t4⟩ := srd_tk h3 ((hv a).2 ⟨ha, ta⟩)
  refine ⟨t1, t2, ?_, ?_⟩
  · show srd B.1.1 B.1.2.1 (tkO a B.1.2.2.2.2.2 0 0 B.1.2.2.2.1).1 (tkO a B.1.2.2.2.2.2 0 0 B.1.2.2.2.1).2
    rw [t1]; exact t3
  · intro v
    show VO (tkO a B.1.2.2.2.2.2 0 0 B.1.2.2.2.1).1 (tkO a B.1.2.2.2.2.2 0 0 B.1.2.2.2.1).2 v ↔ v < B.1.2.2.2.2.1 ∧ sn B.1.2.2.1 a false v = true
    rw [t1, t4 v, hv v]
    by_cases q : v = a
    · rw [q, sn_eq]; exact ⟨fun z => (z.2 rfl).elim, fun z => Bool.noConfusion z.2⟩
    · rw [sn_ne _ _ q]; exact ⟨fun z => z.1, fun z => ⟨z, q⟩⟩
theorem call_drop {B : BS} {S : RS} (h : Rel B S) (z : Int) : (spDrop z B).1 = (rpDrop z S).1 ∧ Rel (spDrop z B).2 (rpDrop z S).2 := by
  have hc := h
  obtain ⟨h1, h2, h3, h4, h5, h6, h7⟩ := h
  have e1 := h3.1
  have eT : S.1.2.2.1 = B.1.2.2.1 := by rw [e1]
  have eN : S.1.2.2.2 = B.1.2.2.2.2.1 := by rw [e1]
  unfold spDrop rpDrop
  rw [eT, eN]
  by_cases c1 : thr B.1.2.2.1 B.1.2.2.2.2.1 z = false
  · rw [if_pos c1, if_pos c1]; exact ⟨rfl, Rel_ref hc (by omega)⟩
  · rw [if_neg c1, if_neg c1]
    have ht := thr_t (by simpa using c1 : thr B.1.2.2.1 B.1.2.2.2.2.1 z = true)
    refine ⟨rfl, ?_⟩
    obtain ⟨t1, t2, t3, t4⟩ := take_ord h3.2.1 h3.2.2 (show z.toNat < B.1.2.2.2.2.1 by omega) ht.2.2
    have er : rTake z.toNat S = ((S.1.1, S.1.2.1, sn S.1.2.2.1 z.toNat false, S.1.2.2.2), S.2) := rfl
    show Rel (chg (takeP z.toNat B.1, B.2)) (rChg (rTake z.toNat S))
    have hr : RI (rTake z.toNat S) := rTake_b h2
    rw [er] at hr ⊢
    refine Rel_chg hc (take_b h1) hr ⟨?_, t3, t4⟩
    show (S.1.1, S.1.2.1, sn S.1.2.2.1 z.toNat false, S.1.2.2.2) = _
    rw [e1]; rfl
theorem call_move {B : BS} {S : RS} (h : Rel B S) (z x y : Int) : (thr B.1.2.2.1 B.1.2.2.2.2.1 z = true → (tkO z.toNat B.1.2.2.2.2.2 0 0 B.1.2.2.2.1).2 < B.1.2.2.2.2.2) ∧ (spMove z x y B).1 = (rpMove z x y S).1 ∧ Rel (spMove z x y B).2 (rpMove z x y S).2 := by
  have hc := h
  obtain ⟨h1, h2, h3, h4, h5, h6, h7⟩ := h
  have e1 := h3.1
  have eX : S.1.1 = B.1.1 := by rw [e1]
  have eY : S.1.2.1 = B.1.2.1 := by rw [e1]
  have eT : S.1.2.2.1 = B.1.2.2.1 := by rw [e1]
  have eN : S.1.2.2.2 = B.1.2.2.2.2.1 := by rw [e1]
  have fv : fop x y = -4 ∨ fop x y = -6 ∨ fop x y = 0 := by unfold fop; (repeat' split) <;> omega
  refine ⟨fun ht => ?_, ?_⟩
  · have ht := thr_t ht
    obtain ⟨t1, t2, _⟩ := take_ord h3.2.1 h3.2.2 (show z.toNat < B.1.2.2.2.2.1 by omega) ht.2.2
    omega
  unfold spMove rpMove
  rw [eX, eY, eT, eN]
  by_cases c0 : thr B.1.2.2.1 B.1.2.2.2.2.1 z = false
  · rw [if_pos c0, if_pos c0]; exact ⟨rfl, Rel_ref hc (by omega)⟩
  rw [if_neg c0, if_neg c0]
  have ht := thr_t (by simpa using c0 : thr B.1.2.2.1 B.1.2.2.2.2.1 z = true)
  by_cases c1 : fop x y ≠ 0
  · rw [if_pos c1, if_pos c1]; exact ⟨rfl, Rel_ref hc (by omega)⟩
  rw [if_neg c1, if_neg c1]
  have fb : (-10000 ≤ x ∧ x ≤ 10000) ∧ (-10000 ≤ y ∧ y ≤ 10000) := by
    unfold fop at c1
    by_cases q : x < -10000 ∨ y < -10000
    · rw [if_pos q] at c1; omega
    · rw [if_neg q] at c1
      by_cases w : 10000 < x ∨ 10000 < y
      · rw [if_pos w] at c1; omega
      · omega
  by_cases c3 : 0 ≤ oI (-1) (ff (atP B.1.1 B.1.2.1 B.1.2.2.1 x y) B.1.2.2.2.2.1 0) ∧ oI (-1) (ff (atP B.1.1 B.1.2.1 B.1.2.2.1 x y) B.1.2.2.2.2.1 0) ≠ z
  · rw [if_pos c3, if_pos c3]; exact ⟨rfl, Rel_ref hc (by omega)⟩
  rw [if_neg c3, if_neg c3]
  refine ⟨rfl, ?_⟩
  have told40 := h1.1.2.2.2.1
  have prt := h1.2.1
  generalize hA : z.toNat = a at *
  have al : a < B.1.2.2.2.2.1 := by omega
  obtain ⟨t1, t2, t3, t4⟩ := take_ord h3.2.1 h3.2.2 al ht.2.2
  have hap := srd_ap h3.2.1 (Nat.le_refl _)
  -- nobody else at the place
  have no : ∀ p, p < B.1.2.2.2.2.1 → B.1.2.2.1 p = true → p ≠ a → ¬ (B.1.1 p = x ∧ B.1.2.1 p = y) := by
    intro p hp tp pa hxy
    by_cases q : 0 ≤ oI (-1) (ff (atP B.1.1 B.1.2.1 B.1.2.2.1 x y) B.1.2.2.2.2.1 0)
    · have qz : oI (-1) (ff (atP B.1.1 B.1.2.1 B.1.2.2.1 x y) B.1.2.2.2.2.1 0) = z := by
        by_cases w : oI (-1) (ff (atP B.1.1 B.1.2.1 B.1.2.2.1 x y) B.1.2.2.2.2.1 0) = z
        · exact w
        · exact (c3 ⟨q, w⟩).elim
      cases hf : ff (atP B.1.1 B.1.2.1 B.1.2.2.1 x y) B.1.2.2.2.2.1 0 with
      | none => rw [hf] at q; simp only [oI] at q; omega
      | some c =>
        rw [hf] at qz
        have ca : c = a := by simp only [oI] at qz; omega
        have f := ff_lt B.1.2.2.2.2.1 0 (by omega) c hf
        have g := f.2.2.1
        unfold atP at g
        simp only [Bool.and_eq_true, decide_eq_true_eq] at g
        rw [ca] at g
        exact hap p a ((h3.2.2 p).2 ⟨hp, tp⟩) ((h3.2.2 a).2 ⟨al, ht.2.2⟩) pa ⟨by omega, by omega⟩
    · exact atP_none q p hp tp hxy
  have er : rPut a x y S = ((sn S.1.1 a x, sn S.1.2.1 a y, S.1.2.2.1, S.1.2.2.2), S.2) := rfl
  show Rel (chg (putP a x y (takeP a B.1), B.2)) (rChg (rPut a x y S))
  have hr : RI (rPut a x y S) := rPut_b h2 fb.1 fb.2
  rw [er] at hr ⊢
  have hb1 : BI (takeP a B.1, B.2) := take_b h1
  have pe : (takeP a B.1).2.2.2.2.2 = B.1.2.2.2.2.2 - 1 := t1
  have hb2 : BI (putP a x y (takeP a B.1), B.2) := put_b hb1 (by omega) fb.1 fb.2 (by show (takeP a B.1).2.2.2.2.2 + 1 ≤ B.1.2.2.2.2.1; omega)
  have lt : ∀ i, i < (takeP a B.1).2.2.2.2.2 → (takeP a B.1).2.2.2.1 i < B.1.2.2.2.2.1 ∧ (takeP a B.1).2.2.2.1 i ≠ a ∧ B.1.2.2.1 ((takeP a B.1).2.2.2.1 i) = true := by
    intro i hi
    have v : (takeP a B.1).2.2.2.1 i < B.1.2.2.2.2.1 ∧ sn B.1.2.2.1 a false ((takeP a B.1).2.2.2.1 i) = true := (t4 _).1 ⟨i, hi, rfl⟩
    by_cases q : (takeP a B.1).2.2.2.1 i = a
    · rw [q, sn_eq] at v; exact Bool.noConfusion v.2
    · rw [sn_ne _ _ q] at v; exact ⟨v.1, q, v.2⟩
  have s1 : srd (sn B.1.1 a x) (sn B.1.2.1 a y) (takeP a B.1).2.2.2.1 (takeP a B.1).2.2.2.2.2 := srd_cg t3 (fun i hi => by
    have := (lt i hi).2.1
    rw [sn_ne _ _ this, sn_ne _ _ this]; exact ⟨rfl, rfl⟩)
  have s2 := srd_ins (p := a) s1 (fun i hi => by
    have l := lt i hi
    unfold dpl
    rw [sn_eq, sn_eq, sn_ne _ _ l.2.1, sn_ne _ _ l.2.1]
    exact fun w => no _ l.1 l.2.2 l.2.1 ⟨w.1.symm, w.2.symm⟩)
  have eT2 : sn (sn B.1.2.2.1 a false) a true = B.1.2.2.1 := by
    funext i
    by_cases q : i = a
    · rw [q, sn_eq]; exact ht.2.2.symm
    · rw [sn_ne _ _ q, sn_ne _ _ q]
  refine Rel_chg hc hb2 hr ⟨?_, s2.1, ?_⟩
  · show (sn S.1.1 a x, sn S.1.2.1 a y, S.1.2.2.1, S.1.2.2.2) = (sn B.1.1 a x, sn B.1.2.1 a y, sn (sn B.1.2.2.1 a false) a true, B.1.2.2.2.2.1)
    rw [eT2, e1]
  · intro v
    have w := s2.2 v
    show VO _ _ v ↔ v < B.1.2.2.2.2.1 ∧ sn (sn B.1.2.2.1 a false) a true v = true
    rw [eT2]
    refine Iff.trans w ?_
    have t4v : VO (takeP a B.1).2.2.2.1 (takeP a B.1).2.2.2.2.2 v ↔ v < B.1.2.2.2.2.1 ∧ sn B.1.2.2.1 a false v = true := t4 v
    rw [t4v]
    by_cases q : v = a
    · rw [q]; exact ⟨fun _ => ⟨al, ht.2.2⟩, fun _ => Or.inr rfl⟩
    · rw [sn_ne _ _ q]; exact ⟨fun u => by rcases u with u | u; exact u; exact (q u).elim, Or.inl⟩
