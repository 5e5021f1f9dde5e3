/-! begin, count -/
theorem bgH_b {X Y : Nat → Int} {Ord : Nat → Nat} (hO : ∀ i, Ord i < 40) {p f : Nat} (hp : p < 40) : ∀ (d i : Nat) (Q : QB), f ≤ i + 1 + d → QB3 Q → QB3 (bgH X Y Ord p f i Q) := by
  intro d
  induction d with
  | zero => intro i Q h hQ; rw [bgH_end (by omega)]; exact hQ
  | succ d ih =>
    intro i Q h hQ
    rcases Nat.lt_or_ge (i + 1) f with q | q
    · rw [bgH_go q]; exact ih (i + 1) _ (by omega) (hld_b hQ (hO _) (hO _) hp)
    · rw [bgH_end q]; exact hQ
theorem rBg1_b {S : RS} (h : RI S) {f : Nat} (hf : f < 40) : RI (rBg1 S f) := by
  obtain ⟨g1, g2, g3, g4, g5, g6, g7, g8, g9, g10, g11, g12, g13, g14, g15, g16, g17⟩ := h
  have q := bgH_b (X := S.1.1) (Y := S.1.2.1) g14 (p := S.2.2.2.1.1 f) (f := f) (g14 f) f 0 (S.2.2.1.2.2.1, S.2.2.1.2.2.2.1, S.2.2.1.2.2.2.2.1) (by omega) ⟨g10, g11, g12⟩
  refine ⟨g1, g2, g3, g4, g5, g6, g7, g8, g9, q.1, q.2.1, q.2.2, by show f - 1 ≤ 120; omega, g14, ?_, g16, by show f + 1 ≤ 80; omega⟩
  refine sn_lt (fun j => ?_) _ (g14 f)
  rw [bgR_sp f 0 _ (by omega)]
  split
  · exact g14 _
  · exact g15 _
theorem bgC_b : ∀ (d i : Nat) (S : RS), RI S → bcOk d i S → RI (bgC d i S) := by
  intro d
  induction d with
  | zero => intro i S h _; exact h
  | succ d ih =>
    intro i S h ho
    exact ih (i + 1) _ (rCms_b h (h.2.2.2.2.2.2.2.2.2.2.2.2.2.1 i) ho.1.1 ho.1.2) ho.2
theorem call_begin {B : BS} {S : RS} (h : Rel B S) : knOk S ∧ bgOk S ∧ (spBegin B).1 = (rpBegin S).1 ∧ Rel (spBegin B).2 (rpBegin S).2 := by
  obtain ⟨k1, k2, k3⟩ := Rel_know h
  obtain ⟨eX, eY, eT, eN⟩ := PtR_e k2.2.2.1
  have hs := k2.2.2.1.2.1
  have hv := k2.2.2.1.2.2
  have fe := flat_eq hs hv
  have fl : (rKnow S).2.1.2.1 = decide (B.1.2.2.2.2.2 ≤ fol B.1.1 B.1.2.1 B.1.2.2.2.1 B.1.2.2.2.2.2) := by rw [k3.1, fe]
  have so := srt_eq (Q := (rKnow S).2.2.2.1.1) hs hv
  have hO := k2.1.1.2.2.1
  have hN := k2.1.1.2.2.2.2
  have hS2 := rSrt_b k2.2.1
  have go : fol B.1.1 B.1.2.1 B.1.2.2.2.1 B.1.2.2.2.2.2 < B.1.2.2.2.2.2 → ff (bgP (rSrt (rKnow S))) 40 2 = some (fol B.1.1 B.1.2.1 B.1.2.2.2.1 B.1.2.2.2.2.2) ∧ bgOk1 (rSrt (rKnow S)) ∧ ∃ t r n, CR B.1.1 B.1.2.1 B.1.2.2.2.1 B.1.2.2.2.2.2 (loT B.1.1 B.1.2.1 B.1.2.2.2.1 B.1.2.2.2.2.2 B.2.2.2.1) t r n ∧ RfI B.1.1 B.1.2.1 B.1.2.2.2.1 B.1.2.2.2.2.2 (bgC (B.1.2.2.2.2.2 - (fol B.1.1 B.1.2.1 B.1.2.2.2.1 B.1.2.2.2.2.2 + 1)) (fol B.1.1 B.1.2.1 B.1.2.2.2.1 B.1.2.2.2.2.2 + 1) (rBg1 (rSrt (rKnow S)) (fol B.1.1 B.1.2.1 B.1.2.2.2.1 B.1.2.2.2.2.2))) t r n := by
    intro hf
    have r := k2.2.1
    refine begin_both hs hN hO hf eX eY (fun i hi => ?_) ⟨r.2.2.2.2.2.2.2.2.2.1, r.2.2.2.2.2.2.2.2.2.2.1, r.2.2.2.2.2.2.2.2.2.2.2.1⟩ ?_
    · show srt (rKnow S).1.1 (rKnow S).1.2.1 (rKnow S).1.2.2.1 (rKnow S).1.2.2.2 0 0 (rKnow S).2.2.2.1.1 i = _
      rw [eX, eY, eT, eN]; exact so.2 i hi
    · show cn (rKnow S).1.2.2.1 (rKnow S).1.2.2.2 0 = _
      rw [eT, eN]; exact so.1
  refine ⟨k1, fun hf => (go (by rw [fl] at hf; simpa using hf)).2.1, ?_⟩
  unfold spBegin rpBegin
  by_cases c : B.1.2.2.2.2.2 ≤ fol B.1.1 B.1.2.1 B.1.2.2.2.1 B.1.2.2.2.2.2
  · rw [if_pos c, if_pos (by rw [fl]; exact decide_eq_true c)]
    exact ⟨rfl, Rel_ref k2 (by omega)⟩
  · rw [if_neg c, if_neg (by rw [fl, decide_eq_false c]; decide)]
    have hf : fol B.1.1 B.1.2.1 B.1.2.2.2.1 B.1.2.2.2.2.2 < B.1.2.2.2.2.2 := by omega
    obtain ⟨g1, ⟨f', g2a, g2b, g2c⟩, t, r, n, g3, g4⟩ := go hf
    have ff' : f' = fol B.1.1 B.1.2.1 B.1.2.2.2.1 B.1.2.2.2.2.2 := by rw [g1] at g2a; exact (Option.some.inj g2a).symm
    rw [g1]
    have cnN : cn (rSrt (rKnow S)).1.2.2.1 (rSrt (rKnow S)).1.2.2.2 0 = B.1.2.2.2.2.2 := by
      show cn (rKnow S).1.2.2.1 (rKnow S).1.2.2.2 0 = _
      rw [eT, eN]; exact so.1
    have eb : rBg (rSrt (rKnow S)) ((some (fol B.1.1 B.1.2.1 B.1.2.2.2.1 B.1.2.2.2.2.2)).getD 0) = rBgE (bgC (B.1.2.2.2.2.2 - (fol B.1.1 B.1.2.1 B.1.2.2.2.1 B.1.2.2.2.2.2 + 1)) (fol B.1.1 B.1.2.1 B.1.2.2.2.1 B.1.2.2.2.2.2 + 1) (rBg1 (rSrt (rKnow S)) (fol B.1.1 B.1.2.1 B.1.2.2.2.1 B.1.2.2.2.2.2))) := by
      show rBg (rSrt (rKnow S)) (fol B.1.1 B.1.2.1 B.1.2.2.2.1 B.1.2.2.2.2.2) = _
      unfold rBg; rw [cnN]
    rw [eb]
    rw [ff', cnN] at g2c
    have hri := bgC_b _ _ _ (rBg1_b hS2 (f := fol B.1.1 B.1.2.1 B.1.2.2.2.1 B.1.2.2.2.2.2) (by omega)) g2c
    have kp := bgC_keep (B.1.2.2.2.2.2 - (fol B.1.1 B.1.2.1 B.1.2.2.2.1 B.1.2.2.2.2.2 + 1)) (fol B.1.1 B.1.2.1 B.1.2.2.2.1 B.1.2.2.2.2.2 + 1) (rBg1 (rSrt (rKnow S)) (fol B.1.1 B.1.2.1 B.1.2.2.2.1 B.1.2.2.2.2.2))
    generalize bgC (B.1.2.2.2.2.2 - (fol B.1.1 B.1.2.1 B.1.2.2.2.1 B.1.2.2.2.2.2 + 1)) (fol B.1.1 B.1.2.1 B.1.2.2.2.1 B.1.2.2.2.2.2 + 1) (rBg1 (rSrt (rKnow S)) (fol B.1.1 B.1.2.1 B.1.2.2.2.1 B.1.2.2.2.2.2)) = E at *
    have u := CL_uq g3.1.1 g4.2.2.2.2.1
    refine ⟨by show (((loT _ _ _ _ _).1.2.1 : Nat) : Int) = ((E.2.2.1.2.2.2.2.2.1 : Nat) : Int); rw [u.1], ?_⟩
    obtain ⟨h1, h2, h3, h4, h5, h6, h7⟩ := k2
    obtain ⟨b1, b2, b3, b4, b5, b6, b7, b8⟩ := h1
    have lb := loT_b (X := B.1.1) (Y := B.1.2.1) hO (pres := B.1.2.2.2.2.2) b7 b8
    have k0 : E.1 = (rKnow S).1 := kp.1
    have k21 : E.2.1 = (rKnow S).2.1 := kp.2.1
    have hT := LI_TI g3.2.1.1
    rw [VO_Vb hv] at hT
    have hvb : vbS E = vbT B.1.2.2.1 B.1.2.2.2.2.1 := by
      funext x; unfold vbS vbT; rw [k0, eT, eN]
    have hHR : HR (loT B.1.1 B.1.2.1 B.1.2.2.2.1 B.1.2.2.2.2.2 B.2.2.2.1).1 (rBgE E).2 t := by
      have s : SI E.1.1 E.1.2.1 (vbS E) (loT B.1.1 B.1.2.1 B.1.2.2.2.1 B.1.2.2.2.2.2 B.2.2.2.1).1 t := by
        rw [hvb, k0, eX, eY]; exact ⟨g3.1, lb.1, hT⟩
      exact ⟨s, g4.2.2.2.1, g4.2.2.2.2.1, g3.1.2.2.1, g3.1.2.2.2.1, g3.1.2.2.2.2⟩
    refine ⟨⟨b1, b2, b3, b4, b5, b6, lb.1, lb.2⟩, hri, ?_, ?_, ⟨rfl, rfl, ?_, fun _ => u.1, fun z => Bool.noConfusion z, fun _ => ⟨t, hHR⟩⟩, h6, ?_⟩
    · have : (rBgE E).2.1 = (rKnow S).1 := k0
      unfold PtR; rw [this]; exact h3
    · intro k hk
      show B.2.2.2.2.1 k = E.2.2.2.2 (k + 1)
      rw [kp.2.2.2.2.2.2]; exact h4 k hk
    · show B.2.2.2.2.2.2.2.2 = E.2.2.1.2.2.2.2.2.2
      rw [kp.2.2.2.2.1]; exact h5.2.2.1
    · intro _
      have : (rBgE E).2.2.1 = (rKnow S).2.1 := k21
      unfold KI at *; rw [this]; exact k3
theorem call_count {B : BS} {S : RS} (h : Rel B S) (w : Int) : knOk S ∧ (spCount w B).1 = (rpCount w S).1 ∧ Rel (spCount w B).2 (rpCount w S).2 := by
  obtain ⟨k1, k2, k3⟩ := Rel_know h
  obtain ⟨eX, eY, eT, eN⟩ := PtR_e h.2.2.1
  have hs := h.2.2.1.2.1
  have hv := h.2.2.1.2.2
  have so := srt_eq (Q := fun _ => 0) hs hv
  refine ⟨k1, ?_⟩
  unfold spCount rpCount
  by_cases c : 11 ≤ w ∧ w < 17
  · rw [if_pos c, if_pos (show 10 < w ∧ w < 17 by omega)]
    refine ⟨?_, h⟩
    show (((B.2.2.2.2.1 (w - 11).toNat : Nat)) : Int) = ((S.2.2.2.2 (w - 10).toNat : Nat) : Int)
    rw [h.2.2.2.1 (w - 11).toNat (by omega), show (w - 11).toNat + 1 = (w - 10).toNat from by omega]
  rw [if_neg c, if_neg (show ¬ (10 < w ∧ w < 17) by omega)]
  by_cases c0 : w = 0
  · rw [if_pos c0, if_pos c0]; exact ⟨by show ((B.1.2.2.2.2.1 : Nat) : Int) = ((S.1.2.2.2 : Nat) : Int); rw [eN], h⟩
  rw [if_neg c0, if_neg c0]
  by_cases c1 : w = 1
  · rw [if_pos c1, if_pos c1]; exact ⟨by show ((B.1.2.2.2.2.2 : Nat) : Int) = ((cn S.1.2.2.1 S.1.2.2.2 0 : Nat) : Int); rw [eT, eN, so.1], h⟩
  rw [if_neg c1, if_neg c1]
  by_cases c2 : w = 2
  · rw [if_pos c2, if_pos c2]; exact ⟨by show b2i (decide (B.1.2.2.2.2.2 ≤ fol B.1.1 B.1.2.1 B.1.2.2.2.1 B.1.2.2.2.2.2)) = b2i (rKnow S).2.1.2.1; rw [k3.1, flat_eq hs hv], k2⟩
  rw [if_neg c2, if_neg c2]
  by_cases c3 : w = 3
  · rw [if_pos c3, if_pos c3]; exact ⟨by show b2i B.2.2.2.2.2.2.1 = b2i S.2.2.1.1; rw [h.2.2.2.2.1.1], h⟩
  rw [if_neg c3, if_neg c3]
  by_cases c4 : w = 4
  · rw [if_pos c4, if_pos c4]; exact ⟨by show b2i B.2.2.2.2.2.2.2.1 = b2i (S.2.2.1.1 && S.2.2.1.2.1); rw [h.2.2.2.2.1.2.1], h⟩
  rw [if_neg c4, if_neg c4]
  by_cases c5 : w = 5
  · rw [if_pos c5, if_pos c5]
    refine ⟨?_, h⟩
    show ((B.2.2.2.1.1.2.1 : Nat) : Int) = if S.2.2.1.1 = true then ((S.2.2.1.2.2.2.2.2.1 : Nat) : Int) else 0
    by_cases z : S.2.2.1.1 = true
    · rw [if_pos z, h.2.2.2.2.1.2.2.2.1 z]
    · rw [if_neg z, h.2.2.2.2.1.2.2.2.2.1 (by simpa using z)]; rfl
  rw [if_neg c5, if_neg c5]
  by_cases c6 : w = 6
  · rw [if_pos c6, if_pos c6]; exact ⟨by show ((B.2.2.2.2.2.2.2.2 : Nat) : Int) = ((S.2.2.1.2.2.2.2.2.2 : Nat) : Int); rw [h.2.2.2.2.1.2.2.1], h⟩
  rw [if_neg c6, if_neg c6]; exact ⟨rfl, h⟩
