/-! a point comes to the reference's hand -/
section RCM
variable {X Y : Nat → Int} {O : Nat → Nat}
def vst (c n i k : Nat) : Prop := (c ≤ k ∧ k < c + i) ∨ k + n < c + i
def nwv (X Y : Nat → Int) (t : Nat → Nat → Nat → Prop) (r : Nat → Nat) (n p c i : Nat) : Nat → Nat → Nat → Prop := nwk t r p (fun k => k < n ∧ vst c n i k ∧ le3 X Y (r k) (r (k + 1)) p < 0)
theorem cm_lay {N m : Nat} {t : Nat → Nat → Nat → Prop} {r Ro : Nat → Nat} {n s j : Nat} (h : srd X Y O N) (hm : m < N) (hO : ∀ i, O i < 40) (H : LaS X Y O m t r n) (hv : VS X Y (VO O m) r n (O m) s j) (hro : RO Ro r n) (Q : QB) (hh : Nat) (Ne : Nat → Nat) (hQ : QB3 Q) (hC : CL (rc Q) hh t) : QB3 (cmL X Y Ro n (O m) 0 (Q, hh, Ne, 0, false)).1 ∧ CL (rc (cmL X Y Ro n (O m) 0 (Q, hh, Ne, 0, false)).1) (cmL X Y Ro n (O m) 0 (Q, hh, Ne, 0, false)).2.1 (nwt X Y t r n (O m)) ∧ (cmL X Y Ro n (O m) 0 (Q, hh, Ne, 0, false)).2.2.2.1 = n - j - s + 2 ∧ RO (cmL X Y Ro n (O m) 0 (Q, hh, Ne, 0, false)).2.2.1 (nwr r n s j (O m)) (n - j - s + 2) := by
  obtain ⟨L, n3, hin, h0, m3⟩ := H
  obtain ⟨v1, v2, v3, v4, v5⟩ := hv
  obtain ⟨c, hc, hRo⟩ := hro
  obtain ⟨hR, hV, hN, hS, hE1, ⟨hn2, hrn⟩, b0, b1, b2, b3, b4, b5⟩ := L
  have h40 : ∀ x, VO O m x → x < 40 := fun x ⟨i, _, e⟩ => by rw [e]; exact hO i
  have np : ¬ VO O m (O m) := fun z => bef_ir (srd_bef h hm _ z)
  have npe : ∀ k, k < n → r k ≠ O m ∧ r (k + 1) ≠ O m := fun k hk => ⟨fun z => np (z ▸ (b0 k hk).1), fun z => np (z ▸ (b0 k hk).2.1)⟩
  generalize hp : O m = p at *
  have p40 : p < 40 := by rw [← hp]; exact hO m
  -- places
  have R0 : ∀ i, i < n → Ro i = r (if c + i < n then c + i else c + i - n) := by
    intro i hi; rw [hRo i hi]; congr 1; rw [Nat.add_comm i c]
  have R1 : ∀ i, i < n → Ro ((i + 1) % n) = r ((if c + i < n then c + i else c + i - n) + 1) := by
    intro i hi
    by_cases q : i + 1 < n
    · rw [Nat.mod_eq_of_lt q, R0 _ q]
      by_cases a : c + i < n
      · rw [if_pos a]
        by_cases b : c + (i + 1) < n
        · rw [if_pos b]; rfl
        · rw [if_neg b, show c + (i + 1) - n = 0 from by omega, show c + i + 1 = n from by omega, hrn]
      · rw [if_neg a, if_neg (by omega)]; congr 1; omega
    · rw [show i + 1 = n from by omega, Nat.mod_self, R0 0 (by omega), Nat.add_zero, if_pos hc]
      by_cases a : c + i < n
      · rw [if_pos a, show c + i + 1 = n from by omega, hrn]; congr 1; omega
      · rw [if_neg a]; congr 1; omega
  have R2 : ∀ i, i < n → Ro ((i + n - 1) % n) = r (if (if c + i < n then c + i else c + i - n) = 0 then n - 1 else (if c + i < n then c + i else c + i - n) - 1) := by
    intro i hi
    by_cases q : i = 0
    · subst q
      rw [show 0 + n - 1 = n - 1 from by omega, Nat.mod_eq_of_lt (by omega), R0 _ (by omega)]
      congr 1; (repeat' split) <;> omega
    · rw [show i + n - 1 = i - 1 + n from by omega, Nat.add_mod_right, Nat.mod_eq_of_lt (by omega), R0 _ (by omega)]
      congr 1; (repeat' split) <;> omega
  have tR : ∀ i, tRot (nwv X Y t r n p c i) := by
    intro i x y z w
    rcases w with w | ⟨k, k1, k2⟩
    · exact Or.inl (hR _ _ _ w)
    · exact Or.inr ⟨k, k1, rt3_rot k2⟩
  have tBt : ∀ i, tB (nwv X Y t r n p c i) := by
    intro i x y z w
    rcases w with w | ⟨k, k1, k2⟩
    · have v := hV _ _ _ w
      have d := le3_ne (X := X) (Y := Y) (a := x) (b := y) (c := z) (by omega)
      exact ⟨h40 _ v.1, h40 _ v.2.1, h40 _ v.2.2.1, d.1, d.2.1, d.2.2⟩
    · have a := h40 _ (b0 k k1.1).1; have b := h40 _ (b0 k k1.1).2.1; have d := npe k k1.1; have e := (b0 k k1.1).2.2
      unfold rt3 at k2; omega
  have tN0 : tot n s j = n - j - s + 2 := rfl
  rw [← tN0]
  -- the loop
  have loop : ∀ (d i : Nat) (Q : CQ), i + d = n → QB3 Q.1 → CL (rc Q.1) Q.2.1 (nwv X Y t r n p c i) → CC n s j c + Q.2.2.2.1 = CC n s j (c + i) → (∀ e, e < Q.2.2.2.1 → Q.2.2.1 e = em r n s j p (CC n s j c + e)) → (Q.2.2.2.2 = true → vst c n i (if j = 0 then 0 else n - j)) → QB3 (cmL X Y Ro n p i Q).1 ∧ CL (rc (cmL X Y Ro n p i Q).1) (cmL X Y Ro n p i Q).2.1 (nwv X Y t r n p c n) ∧ CC n s j c + (cmL X Y Ro n p i Q).2.2.2.1 = CC n s j (c + n) ∧ (∀ e, e < (cmL X Y Ro n p i Q).2.2.2.1 → (cmL X Y Ro n p i Q).2.2.1 e = em r n s j p (CC n s j c + e)) := by
    intro d
    induction d with
    | zero =>
      intro i Q hi a1 a2 a3 a4 a5
      have : i = n := by omega
      subst this
      rw [cmL_end (Nat.le_refl _)]; exact ⟨a1, a2, a3, a4⟩
    | succ d ih =>
      intro i Q hi a1 a2 a3 a4 a5
      have hin' : i < n := by omega
      have e0 := R0 i hin'; have e1 := R1 i hin'; have e2 := R2 i hin'
      have hK : (c + i = (if c + i < n then c + i else c + i - n) ∨ c + i = (if c + i < n then c + i else c + i - n) + n) ∧ (if c + i < n then c + i else c + i - n) < n := by split <;> omega
      generalize hk : (if c + i < n then c + i else c + i - n) = k at *
      have kn : k < n := hK.2
      have knv : ¬ vst c n i k := by unfold vst; omega
      have vsucc : ∀ k', k' < n → (vst c n (i + 1) k' ↔ vst c n i k' ∨ k' = k) := by intro k' hk'; unfold vst; omega
      -- what is seen
      have eo : cmO X Y Ro n p i = decide (le3 X Y (r k) (r (k + 1)) p < 0) := by
        unfold cmO; rw [e0, e1]; exact decide_eq_decide.mpr trn_lt
      have ef : cmB X Y Ro n p i = decide (le3 X Y (r (if k = 0 then n - 1 else k - 1)) (r k) p < 0) := by
        unfold cmB; rw [e0, e2]; exact decide_eq_decide.mpr trn_lt
      have ho := v1 k kn
      have hf : le3 X Y (r (if k = 0 then n - 1 else k - 1)) (r k) p < 0 ↔ (k = 0 ∧ 0 < j) ∨ (1 ≤ k ∧ (k - 1 < s ∨ n - j ≤ k - 1)) := by
        by_cases z : k = 0
        · rw [if_pos z, z, ← hrn]
          have := v1 (n - 1) (by omega)
          rw [show n - 1 + 1 = n from by omega] at this
          rw [this]; omega
        · rw [if_neg z]
          have := v1 (k - 1) (by omega)
          rw [show k - 1 + 1 = k from by omega] at this
          rw [this]; omega
      obtain ⟨bs, bs1, bs2, bs3⟩ := CC_at v2 v3 hK
      obtain ⟨s1, s2, s3, s4⟩ := C0_step (p := p) hrn v2 v3 kn ho hf
      rw [show c + i + 1 = c + (i + 1) from by omega] at bs3
      -- the hand
      have hand : QB3 (cm1 X Y (cmO X Y Ro n p i) (Ro i) (Ro ((i + 1) % n)) p Q).1 ∧ CL (rc (cm1 X Y (cmO X Y Ro n p i) (Ro i) (Ro ((i + 1) % n)) p Q).1) (cm1 X Y (cmO X Y Ro n p i) (Ro i) (Ro ((i + 1) % n)) p Q).2.1 (nwv X Y t r n p c (i + 1)) ∧ (cm1 X Y (cmO X Y Ro n p i) (Ro i) (Ro ((i + 1) % n)) p Q).2.2 = Q.2.2 := by
        unfold cm1
        rw [eo, e0, e1]
        by_cases q : le3 X Y (r k) (r (k + 1)) p < 0
        · rw [if_pos (decide_eq_true q)]
          have a40 := h40 _ (b0 k kn).1; have b40 := h40 _ (b0 k kn).2.1
          refine ⟨hld_b a1 b40 a40 p40, ?_, rfl⟩
          have pos : 0 < le3 X Y (r k) p (r (k + 1)) := by rw [le3_n]; omega
          have := CL_hld a2 a1 (tR i) (tBt i) (a := r (k + 1)) (b := r k) (c := p) b40 a40 p40 pos (Or.inl (rt3_2 _ _ _)) (by
            intro w
            rcases w with w | ⟨k', k1, k2⟩
            · exact np (hV _ _ _ w).2.1
            · have d1 := npe k' k1.1
              have : r k = r k' := by unfold rt3 at k2; omega
              have := hin _ _ kn k1.1 this
              subst this; exact knv k1.2.1)
          refine CL_cg this (fun x y z => ?_)
          constructor
          · intro w
            rcases w with (w | ⟨k', k1, k2⟩) | w
            · exact Or.inl w
            · exact Or.inr ⟨k', ⟨k1.1, (vsucc k' k1.1).2 (Or.inl k1.2.1), k1.2.2⟩, k2⟩
            · exact Or.inr ⟨k, ⟨kn, (vsucc k kn).2 (Or.inr rfl), q⟩, w⟩
          · intro w
            rcases w with w | ⟨k', ⟨k1, k2, k3⟩, k4⟩
            · exact Or.inl (Or.inl w)
            · rcases (vsucc k' k1).1 k2 with z | z
              · exact Or.inl (Or.inr ⟨k', ⟨k1, z, k3⟩, k4⟩)
              · subst z; exact Or.inr k4
        · rw [if_neg (by simpa using q)]
          refine ⟨a1, CL_cg a2 (fun x y z => ?_), rfl⟩
          constructor
          · intro w
            rcases w with w | ⟨k', k1, k2⟩
            · exact Or.inl w
            · exact Or.inr ⟨k', ⟨k1.1, (vsucc k' k1.1).2 (Or.inl k1.2.1), k1.2.2⟩, k2⟩
          · intro w
            rcases w with w | ⟨k', ⟨k1, k2, k3⟩, k4⟩
            · exact Or.inl w
            · rcases (vsucc k' k1).1 k2 with z | z
              · exact Or.inr ⟨k', ⟨k1, z, k3⟩, k4⟩
              · subst z; exact (q k3).elim
      rw [cmL_go hin' rfl]
      unfold cmS
      generalize cm1 X Y (cmO X Y Ro n p i) (Ro i) (Ro ((i + 1) % n)) p Q = Q1 at hand
      obtain ⟨g1, g2, g3⟩ := hand
      have vle : ∀ k', vst c n i k' → vst c n (i + 1) k' := by intro k'; unfold vst; omega
      rw [eo, ef, e0]
      rw [← g3] at a3 a4 a5
      by_cases q : le3 X Y (r k) (r (k + 1)) p < 0
      · by_cases qf : le3 X Y (r (if k = 0 then n - 1 else k - 1)) (r k) p < 0
        · -- out and before: nothing told
          rw [decide_eq_true q, decide_eq_true qf]
          have e3 : cm3 true true p (cm2 true true (r k) Q1) = Q1 := by
            unfold cm2; rw [if_pos ⟨rfl, rfl⟩]; unfold cm3; rw [if_neg (fun z => by cases z.2.1)]
          rw [e3]
          exact ih (i + 1) Q1 (by omega) g1 g2 (by rw [a3, bs2, bs3, s1 ⟨q, qf⟩]) a4 (fun z => vle _ (a5 z))
        · -- the first that sees p
          rw [decide_eq_true q, decide_eq_false qf]
          obtain ⟨w1, w2, w3, w4⟩ := s3 ⟨q, qf⟩
          obtain ⟨w5, w6⟩ := s2 (fun z => qf z.2)
          have pl : Q1.2.2.2.2 = false := by
            cases hpl : Q1.2.2.2.2 with
            | false => rfl
            | true => have := a5 hpl; rw [← w4] at this; exact (knv this).elim
          have e3 : cm3 true false p (cm2 true false (r k) Q1) = (Q1.1, Q1.2.1, sn (sn Q1.2.2.1 Q1.2.2.2.1 (r k)) (Q1.2.2.2.1 + 1) p, Q1.2.2.2.1 + 1 + 1, true) := by
            unfold cm2; rw [if_neg (fun z => by cases z.2)]; unfold cm3; rw [if_pos ⟨rfl, rfl, pl⟩]
          rw [e3]
          refine ih (i + 1) _ (by omega) g1 g2 (by show _ + (Q1.2.2.2.1 + 1 + 1) = _; omega) ?_ (fun _ => by rw [← w4]; exact (vsucc k kn).2 (Or.inr rfl))
          intro e he
          have he : e < Q1.2.2.2.1 + 1 + 1 := he
          show sn (sn Q1.2.2.1 Q1.2.2.2.1 (r k)) (Q1.2.2.2.1 + 1) p e = _
          by_cases z1 : e = Q1.2.2.2.1 + 1
          · subst z1; rw [sn_eq, show CC n s j c + (Q1.2.2.2.1 + 1) = bs + (C0 n s j k + 1) from by omega, em_at bs1 w2, w3]
          · rw [sn_ne _ _ z1]
            by_cases z2 : e = Q1.2.2.2.1
            · subst z2; rw [sn_eq, a3, bs2, em_at bs1 w5, w6]
            · rw [sn_ne _ _ z2]; exact a4 e (by omega)
      · -- p isn't seen from the side behind
        rw [decide_eq_false q]
        obtain ⟨w5, w6⟩ := s2 (fun z => q z.1)
        have e3 : ∀ fz : Bool, cm3 false fz p (cm2 false fz (r k) Q1) = (Q1.1, Q1.2.1, sn Q1.2.2.1 Q1.2.2.2.1 (r k), Q1.2.2.2.1 + 1, Q1.2.2.2.2) := by
          intro fz; unfold cm2; rw [if_neg (fun z => by cases z.1)]; unfold cm3; rw [if_neg (fun z => by cases z.1)]
        rw [e3]
        refine ih (i + 1) _ (by omega) g1 g2 (by have := s4 q; show _ + (Q1.2.2.2.1 + 1) = _; omega) ?_ (fun z => vle _ (a5 z))
        intro e he
        have he : e < Q1.2.2.2.1 + 1 := he
        show sn Q1.2.2.1 Q1.2.2.2.1 (r k) e = _
        by_cases z2 : e = Q1.2.2.2.1
        · subst z2; rw [sn_eq, a3, bs2, em_at bs1 w5, w6]
        · rw [sn_ne _ _ z2]; exact a4 e (by omega)
  obtain ⟨l1, l2, l3, l4⟩ := loop n 0 (Q, hh, Ne, 0, false) (by omega) hQ (CL_cg hC (fun x y z => ⟨Or.inl, fun w => by
    rcases w with w | ⟨k, ⟨k1, k2, _⟩, _⟩
    · exact w
    · unfold vst at k2; omega⟩)) rfl (fun e he => absurd he (Nat.not_lt_zero _)) (fun z => by cases z)
  have cn : CC n s j (c + n) = CC n s j c + tot n s j := by
    unfold CC; rw [if_neg (by omega), if_pos hc, show c + n - n = c from by omega]; omega
  have qn : (cmL X Y Ro n p 0 (Q, hh, Ne, 0, false)).2.2.2.1 = tot n s j := by omega
  refine ⟨l1, CL_cg l2 (fun x y z => ?_), qn, em_RO hrn v2 v3 hc (fun e he => l4 e (by omega))⟩
  constructor
  · intro w
    rcases w with w | ⟨k, ⟨k1, _, k2⟩, k3⟩
    · exact Or.inl w
    · exact Or.inr ⟨k, k1, k2, k3⟩
  · intro w
    rcases w with w | ⟨k, k1, k2, k3⟩
    · exact Or.inl w
    · exact Or.inr ⟨k, ⟨k1, by unfold vst; omega, k2⟩, k3⟩
end RCM
