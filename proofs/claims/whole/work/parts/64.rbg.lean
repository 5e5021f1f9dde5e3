/-! the reference lays the same drawing out -/
section RBG
variable {X Y : Nat → Int} {O : Nat → Nat}
def tfn (O : Nat → Nat) (lf : Bool) (a i x y z : Nat) : Prop := ∃ k, k + 1 < i ∧ rt3 x y z (if lf = true then O k else O (k + 1)) (if lf = true then O (k + 1) else O k) (O a)
theorem fan_tf {N a : Nat} (h : srd X Y O N) (ha : a < N) (ha2 : 2 ≤ a) (hl : ∀ i, i < a → le3 X Y (O 0) (O 1) (O i) = 0) (hz : le3 X Y (O 0) (O 1) (O a) ≠ 0) (x y z : Nat) : tfn O (decide (0 < le3 X Y (O 0) (O 1) (O a))) a a x y z ↔ nwt X Y (fun _ _ _ => False) (rl O a) (2 * (a - 1)) (O a) x y z := by
  have sg := fun i j h1 h2 => line_sgn h ha ha2 hl (i := i) (j := j) h1 h2
  obtain ⟨v1, _⟩ := fan_VS h ha ha2 hl hz
  by_cases q : 0 < le3 X Y (O 0) (O 1) (O a)
  · rw [decide_eq_true q]
    constructor
    · intro ⟨k, k1, k2⟩
      simp only [if_true] at k2
      refine Or.inr ⟨a - 2 - k, by omega, ?_, ?_⟩
      · rw [show rl O a (a - 2 - k) = O (k + 1) from by unfold rl; rw [if_pos (by omega)]; congr 1; omega, show rl O a (a - 2 - k + 1) = O k from by unfold rl; rw [if_pos (by omega)]; congr 1; omega]
        have := (sg k (k + 1) (by omega) k1).1 q
        rw [show le3 X Y (O (k + 1)) (O k) (O a) = -le3 X Y (O k) (O (k + 1)) (O a) from by unfold le3 lo; grind]; omega
      · rw [show rl O a (a - 2 - k) = O (k + 1) from by unfold rl; rw [if_pos (by omega)]; congr 1; omega, show rl O a (a - 2 - k + 1) = O k from by unfold rl; rw [if_pos (by omega)]; congr 1; omega]
        unfold rt3 at *; omega
    · intro w
      rcases w with w | ⟨k, k1, k2, k3⟩
      · exact w.elim
      · have kv := (v1 k k1).1 k2
        rcases rl_ad (O := O) ha2 k1 with ⟨_, i, i1, i2, i3⟩ | ⟨_, i, i1, i2, i3⟩ <;> rw [i2, i3] at k2 k3
        · exact ⟨i, i1, by simp only [if_true]; unfold rt3 at *; omega⟩
        · have := (sg i (i + 1) (by omega) i1).1 q; omega
  · have q2 : le3 X Y (O 0) (O 1) (O a) < 0 := by omega
    rw [decide_eq_false q]
    constructor
    · intro ⟨k, k1, k2⟩
      simp only [Bool.false_eq_true, if_false] at k2
      have e1 : rl O a (a - 1 + k) = O k := by
        by_cases z : k = 0
        · subst z; unfold rl; rw [if_pos (by omega)]; congr 1; omega
        · unfold rl; rw [if_neg (by omega)]; congr 1; omega
      have e2 : rl O a (a - 1 + k + 1) = O (k + 1) := by unfold rl; rw [if_neg (by omega)]; congr 1; omega
      refine Or.inr ⟨a - 1 + k, by omega, ?_, ?_⟩
      · rw [e1, e2]; exact (sg k (k + 1) (by omega) k1).2 q2
      · rw [e1, e2]; unfold rt3 at *; omega
    · intro w
      rcases w with w | ⟨k, k1, k2, k3⟩
      · exact w.elim
      · rcases rl_ad (O := O) ha2 k1 with ⟨_, i, i1, i2, i3⟩ | ⟨_, i, i1, i2, i3⟩ <;> rw [i2, i3] at k2 k3
        · have := (sg i (i + 1) (by omega) i1).2 q2
          rw [show le3 X Y (O (i + 1)) (O i) (O a) = -le3 X Y (O i) (O (i + 1)) (O a) from by unfold le3 lo; grind] at k2; omega
        · exact ⟨i, i1, by simp only [Bool.false_eq_true, if_false]; unfold rt3 at *; omega⟩
theorem bgH_fan {N a : Nat} (h : srd X Y O N) (ha : a < N) (hO : ∀ i, O i < 40) (ha2 : 2 ≤ a) (hl : ∀ i, i < a → le3 X Y (O 0) (O 1) (O i) = 0) (hz : le3 X Y (O 0) (O 1) (O a) ≠ 0) {Ord : Nat → Nat} (hOr : ∀ i, i < N → Ord i = O i) : ∀ (d i : Nat) (Q : QB), i + 1 + d = a → QB3 Q → CL (rc Q) i (tfn O (decide (0 < le3 X Y (O 0) (O 1) (O a))) a (i + 1)) → QB3 (bgH X Y Ord (O a) a i Q) ∧ CL (rc (bgH X Y Ord (O a) a i Q)) (a - 1) (tfn O (decide (0 < le3 X Y (O 0) (O 1) (O a))) a a) := by
  have sg := fun i j h1 h2 => line_sgn h ha ha2 hl (i := i) (j := j) h1 h2
  have na : ∀ k, k < a → O k ≠ O a := fun k hk => srd_ne h (by omega) ha (by omega)
  intro d
  induction d with
  | zero =>
    intro i Q hi hQ hC
    rw [bgH_end (by omega)]
    have : a = i + 1 := by omega
    subst this
    exact ⟨hQ, hC⟩
  | succ d ih =>
    intro i Q hi hQ hC
    rw [bgH_go (by omega), hOr i (by omega), hOr (i + 1) (by omega)]
    have tr : tRot (tfn O (decide (0 < le3 X Y (O 0) (O 1) (O a))) a (i + 1)) := fun x y z ⟨k, k1, k2⟩ => ⟨k, k1, rt3_rot k2⟩
    have tb : tB (tfn O (decide (0 < le3 X Y (O 0) (O 1) (O a))) a (i + 1)) := by
      intro x y z ⟨k, k1, k2⟩
      have p1 := na k (by omega); have p2 := na (k + 1) (by omega)
      have p3 : O k ≠ O (k + 1) := srd_ne h (by omega) (by omega) (by omega)
      have q1 := hO k; have q2 := hO (k + 1); have q3 := hO a
      split at k2 <;> unfold rt3 at k2 <;> omega
    have nf : ∀ x y, (x = O i ∧ y = O (i + 1)) ∨ (x = O (i + 1) ∧ y = O i) → ¬ tfn O (decide (0 < le3 X Y (O 0) (O 1) (O a))) a (i + 1) x y (O a) := by
      intro x y hxy ⟨k, k1, k2⟩
      have p1 := na k (by omega); have p2 := na (k + 1) (by omega); have p3 := na i (by omega); have p4 := na (i + 1) (by omega)
      have p5 : O k ≠ O i := srd_ne h (by omega) (by omega) (by omega)
      have p6 : O k ≠ O (i + 1) := srd_ne h (by omega) (by omega) (by omega)
      have p7 : O (k + 1) ≠ O (i + 1) := srd_ne h (by omega) (by omega) (by omega)
      split at k2 <;> unfold rt3 at k2 <;> omega
    refine ih (i + 1) _ (by omega) (hld_b hQ (hO _) (hO _) (hO _)) ?_
    by_cases q : 0 < le3 X Y (O 0) (O 1) (O a)
    · have pos := (sg i (i + 1) (by omega) (by omega)).1 q
      have := CL_hld (X := X) (Y := Y) hC hQ tr tb (a := O i) (b := O (i + 1)) (c := O a) (hO _) (hO _) (hO _) pos (Or.inl (rt3_rf _ _ _)) (nf _ _ (Or.inl ⟨rfl, rfl⟩))
      refine CL_cg this (fun x y z => ?_)
      rw [decide_eq_true q]
      unfold tfn; simp only [if_true]
      constructor
      · intro w
        rcases w with ⟨k, k1, k2⟩ | w
        · exact ⟨k, by omega, k2⟩
        · exact ⟨i, by omega, w⟩
      · intro ⟨k, k1, k2⟩
        by_cases z : k = i
        · subst z; exact Or.inr k2
        · exact Or.inl ⟨k, by omega, k2⟩
    · have neg := (sg i (i + 1) (by omega) (by omega)).2 (by omega)
      have pos : 0 < le3 X Y (O (i + 1)) (O i) (O a) := by
        rw [show le3 X Y (O (i + 1)) (O i) (O a) = -le3 X Y (O i) (O (i + 1)) (O a) from by unfold le3 lo; grind]; omega
      have := CL_hld (X := X) (Y := Y) hC hQ tr tb (a := O i) (b := O (i + 1)) (c := O a) (hO _) (hO _) (hO _) pos (Or.inr (rt3_1 _ _ _)) (nf _ _ (Or.inr ⟨rfl, rfl⟩))
      refine CL_cg this (fun x y z => ?_)
      rw [decide_eq_false q]
      unfold tfn; simp only [Bool.false_eq_true, if_false]
      constructor
      · intro w
        rcases w with ⟨k, k1, k2⟩ | w
        · exact ⟨k, by omega, k2⟩
        · exact ⟨i, by omega, w⟩
      · intro ⟨k, k1, k2⟩
        by_cases z : k = i
        · subst z; exact Or.inr k2
        · exact Or.inl ⟨k, by omega, k2⟩
theorem bgR_sp {Ord : Nat → Nat} {lf : Bool} {f : Nat} : ∀ (d i : Nat) (Ro : Nat → Nat), f ≤ i + d → ∀ j, bgR Ord lf f i Ro j = if i ≤ j ∧ j < f then Ord (if lf = true then j else f - 1 - j) else Ro j := by
  intro d
  induction d with
  | zero => intro i Ro h j; rw [bgR_end (by omega), if_neg (by omega)]
  | succ d ih =>
    intro i Ro h j
    rcases Nat.lt_or_ge i f with q | q
    · rw [bgR, if_pos q, ih (i + 1) _ (by omega) j]
      by_cases z : j = i
      · subst z; rw [if_neg (by omega), sn_eq]; exact (if_pos ⟨Nat.le_refl _, q⟩).symm
      · by_cases w : i + 1 ≤ j ∧ j < f
        · rw [if_pos w]; exact (if_pos (by omega)).symm
        · rw [if_neg w, sn_ne _ _ z]; exact (if_neg (by omega)).symm
    · rw [bgR_end q, if_neg (by omega)]
theorem cpR_sp {Ne : Nat → Nat} {q : Nat} : ∀ (d i : Nat) (Ro : Nat → Nat), q ≤ i + d → ∀ j, cpR Ne q i Ro j = if i ≤ j ∧ j < q then Ne j else Ro j := by
  intro d
  induction d with
  | zero => intro i Ro h j; rw [cpR_end (by omega), if_neg (by omega)]
  | succ d ih =>
    intro i Ro h j
    rcases Nat.lt_or_ge i q with z | z
    · rw [cpR_go z, ih (i + 1) _ (by omega) j]
      by_cases w : j = i
      · subst w; rw [if_neg (by omega), sn_eq, if_pos ⟨Nat.le_refl _, z⟩]
      · by_cases v : i + 1 ≤ j ∧ j < q
        · rw [if_pos v, if_pos (by omega)]
        · rw [if_neg v, sn_ne _ _ w, if_neg (by omega)]
    · rw [cpR_end z, if_neg (by omega)]
/-- the reference's state while it lays out -/
def RfI (X Y : Nat → Int) (O : Nat → Nat) (N : Nat) (S : RS) (t : Nat → Nat → Nat → Prop) (r : Nat → Nat) (n : Nat) : Prop := S.1.1 = X ∧ S.1.2.1 = Y ∧ (∀ k, k < N → S.2.2.2.1.1 k = O k) ∧ QB3 (S.2.2.1.2.2.1, S.2.2.1.2.2.2.1, S.2.2.1.2.2.2.2.1) ∧ CL (rc (S.2.2.1.2.2.1, S.2.2.1.2.2.2.1, S.2.2.1.2.2.2.2.1)) S.2.2.1.2.2.2.2.2.1 t ∧ RO S.2.2.2.1.2.1 r n ∧ S.2.2.2.1.2.2.2 = n
theorem RfI_step {N m : Nat} {S : RS} {t : Nat → Nat → Nat → Prop} {r : Nat → Nat} {n s j : Nat} (h : srd X Y O N) (hm : m < N) (hO : ∀ i, O i < 40) (H : LaS X Y O m t r n) (hv : VS X Y (VO O m) r n (O m) s j) (hS : RfI X Y O N S t r n) : RfI X Y O N (rCms (O m) S) (nwt X Y t r n (O m)) (nwr r n s j (O m)) (n - j - s + 2) := by
  obtain ⟨rfl, rfl, i3, i4, i5, i6, rfl⟩ := hS
  obtain ⟨c1, c2, c3, c4⟩ := cm_lay h hm hO H hv i6 _ _ S.2.2.2.1.2.2.1 i4 i5
  refine ⟨rfl, rfl, i3, c1, c2, ?_, c3⟩
  obtain ⟨c, hc, hR⟩ := c4
  refine ⟨c, hc, fun i hi => ?_⟩
  show cpR _ _ 0 _ i = _
  rw [c3, cpR_sp (S.2.2.2.1.2.2.2 - j - s + 2) 0 _ (by omega), if_pos ⟨by omega, hi⟩]
  exact hR i hi
/-- both at once -/
theorem lay_both {N : Nat} (h : srd X Y O N) (hN : N ≤ 40) (hO : ∀ i, O i < 40) : ∀ (d i : Nat) (S : RS) (R : MT × AB) (t : Nat → Nat → Nat → Prop) (r : Nat → Nat) (n : Nat), i + d = N → CR X Y O i R t r n → RfI X Y O N S t r n → bcOk d i S ∧ ∃ t' r' n', CR X Y O N (loL X Y O N i R) t' r' n' ∧ RfI X Y O N (bgC d i S) t' r' n' := by
  intro d
  induction d with
  | zero =>
    intro i S R t r n hi H1 H2
    have : i = N := by omega
    subst this
    rw [loL_end (Nat.le_refl _)]; exact ⟨trivial, t, r, n, H1, H2⟩
  | succ d ih =>
    intro i S R t r n hi H1 H2
    rw [loL_go (by omega)]
    obtain ⟨s, j, hv⟩ := LaS_vis h (by omega) H1.2.1
    have c1 := CR_step h (by omega) hN hO H1 hv
    have c2 := RfI_step h (by omega) hO H1.2.1 hv H2
    have ho := H2.2.2.1 i (by omega)
    rw [← ho] at c2
    obtain ⟨k1, k2⟩ := ih (i + 1) (rCms (S.2.2.2.1.1 i) S) _ _ _ _ (by omega) c1 (by rw [ho] at c2 ⊢; exact c2)
    have u := CL_uq H2.2.2.2.2.1 H1.1.1
    have e := H1.2.2.2
    have rn := H2.2.2.2.2.2.2
    refine ⟨⟨⟨?_, ?_⟩, k1⟩, k2⟩
    · rw [u.1, rn]; omega
    · rw [rn]; omega
theorem bgC_keep : ∀ (d i : Nat) (S : RS), (bgC d i S).1 = S.1 ∧ (bgC d i S).2.1 = S.2.1 ∧ (bgC d i S).2.2.1.1 = S.2.2.1.1 ∧ (bgC d i S).2.2.1.2.1 = S.2.2.1.2.1 ∧ (bgC d i S).2.2.1.2.2.2.2.2.2 = S.2.2.1.2.2.2.2.2.2 ∧ (bgC d i S).2.2.2.1.1 = S.2.2.2.1.1 ∧ (bgC d i S).2.2.2.2 = S.2.2.2.2 := by
  intro d
  induction d with
  | zero => intro i S; exact ⟨rfl, rfl, rfl, rfl, rfl, rfl, rfl⟩
  | succ d ih => intro i S; exact ih (i + 1) (rCms (S.2.2.2.1.1 i) S)
/-- begin(): the reference's hand is the class's -/
theorem begin_both {N : Nat} {S : RS} {R : MT × AB} (h : srd X Y O N) (hN : N ≤ 40) (hO : ∀ i, O i < 40) (hf : fol X Y O N < N) (hX : S.1.1 = X) (hY : S.1.2.1 = Y) (hOr : ∀ i, i < N → S.2.2.2.1.1 i = O i) (hQ : QB3 (S.2.2.1.2.2.1, S.2.2.1.2.2.2.1, S.2.2.1.2.2.2.2.1)) (hcn : cn S.1.2.2.1 S.1.2.2.2 0 = N) : ff (bgP S) 40 2 = some (fol X Y O N) ∧ bgOk1 S ∧ ∃ t r n, CR X Y O N (loT X Y O N R) t r n ∧ RfI X Y O N (bgC (N - (fol X Y O N + 1)) (fol X Y O N + 1) (rBg1 S (fol X Y O N))) t r n := by
  obtain ⟨a2, hz, hl⟩ := fol_sp hf
  subst hX; subst hY
  have hff : ff (bgP S) 40 2 = some (fol S.1.1 S.1.2.1 O N) := by
    rw [ff_skip (P := bgP S) (n := 40) (fol S.1.1 S.1.2.1 O N - 2) 2 (fol S.1.1 S.1.2.1 O N) (by omega) ?_, ff_hit (by omega) ?_]
    · show bgP S (fol S.1.1 S.1.2.1 O N) = true
      unfold bgP; rw [hOr 0 (by omega), hOr 1 (by omega), hOr _ hf]
      exact decide_eq_true (fun w => hz (trn_z.1 w))
    · intro i h1 h2
      unfold bgP; rw [hOr 0 (by omega), hOr 1 (by omega), hOr i (by omega)]
      exact decide_eq_false (fun w => w (trn_z.2 (hl i h2)))
  have cf := CR_fan (R := ((R.1.1, 0, fil 1600 R.1.2.2), R.2)) h hf hN hO a2 hl hz (MC_emp _ _) rfl
  -- the reference's first triangles
  have bl : bgL S (fol S.1.1 S.1.2.1 O N) = decide (0 < le3 S.1.1 S.1.2.1 (O 0) (O 1) (O (fol S.1.1 S.1.2.1 O N))) := by
    unfold bgL; rw [hOr 0 (by omega), hOr 1 (by omega), hOr _ hf]; exact decide_eq_decide.mpr trn_gt
  have b1 := bgH_fan h hf hO a2 hl hz hOr (fol S.1.1 S.1.2.1 O N - 1) 0 _ (by omega) hQ ⟨fun i j _ hj => absurd hj (Nat.not_lt_zero _), fun k => ⟨fun ⟨i, hi, _⟩ => absurd hi (Nat.not_lt_zero _), fun ⟨_, _, _, ⟨k, k1, _⟩, _⟩ => by omega⟩⟩
  have rf : RfI S.1.1 S.1.2.1 O N (rBg1 S (fol S.1.1 S.1.2.1 O N)) (nwt S.1.1 S.1.2.1 (fun _ _ _ => False) (rl O (fol S.1.1 S.1.2.1 O N)) (2 * (fol S.1.1 S.1.2.1 O N - 1)) (O (fol S.1.1 S.1.2.1 O N))) (nwr (rl O (fol S.1.1 S.1.2.1 O N)) (2 * (fol S.1.1 S.1.2.1 O N - 1)) (fanS S.1.1 S.1.2.1 O (fol S.1.1 S.1.2.1 O N)) (fol S.1.1 S.1.2.1 O N - 1 - fanS S.1.1 S.1.2.1 O (fol S.1.1 S.1.2.1 O N)) (O (fol S.1.1 S.1.2.1 O N))) (fol S.1.1 S.1.2.1 O N + 1) := by
    rw [← hOr _ hf] at b1
    refine ⟨rfl, rfl, hOr, b1.1, ?_, ?_, rfl⟩
    · refine CL_cg b1.2 (fun x y z => ?_)
      rw [hOr _ hf]
      exact fan_tf h hf a2 hl hz x y z
    · generalize hA : fol S.1.1 S.1.2.1 O N = a at *
      refine ⟨1, by omega, fun i hi => ?_⟩
      show sn (bgR S.2.2.2.1.1 (bgL S a) a 0 S.2.2.2.1.2.1) a (S.2.2.2.1.1 a) i = _
      by_cases z : i = a
      · subst z; rw [sn_eq, hOr _ hf, if_neg (by omega), show i + 1 - (i + 1) = 0 from by omega]; rfl
      · rw [sn_ne _ _ z, bgR_sp a 0 _ (by omega), if_pos ⟨by omega, by omega⟩, bl, if_pos (show i + 1 < a + 1 by omega)]
        by_cases q : 0 < le3 S.1.1 S.1.2.1 (O 0) (O 1) (O a)
        · rw [decide_eq_true q, if_pos rfl, fan_rL (by unfold fanS; rw [if_pos q]) (by omega) (by omega), hOr _ (by omega)]; rfl
        · rw [decide_eq_false q, if_neg (by decide), fan_rR (by unfold fanS; rw [if_neg q]) (by omega) (by omega), hOr _ (by omega)]; congr 1; omega
  obtain ⟨k1, t, r, n, k2, k3⟩ := lay_both h hN hO (N - (fol S.1.1 S.1.2.1 O N + 1)) (fol S.1.1 S.1.2.1 O N + 1) (rBg1 S (fol S.1.1 S.1.2.1 O N)) _ _ _ _ (by omega) cf rf
  refine ⟨hff, ⟨fol S.1.1 S.1.2.1 O N, hff, ?_, by rw [hcn]; exact k1⟩, t, r, n, ?_, k3⟩
  · intro k hk
    rw [hOr k (by omega), hOr (k + 1) (by omega), hOr _ hf]
    exact ⟨srd_ne h (by omega) (by omega) (by omega), srd_ne h (by omega) (by omega) (by omega), srd_ne h (by omega) (by omega) (by omega)⟩
  · unfold loT; rw [if_pos hf]; exact k2
end RBG
