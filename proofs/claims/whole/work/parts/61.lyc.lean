/-! laying out, by the class -/
theorem php : ∀ (m n : Nat) (f : Nat → Nat), (∀ i, i < n → f i < m) → inj f n → n ≤ m := by
  intro m
  induction m with
  | zero =>
    intro n f h _
    rcases Nat.eq_zero_or_pos n with q | q
    · omega
    · have := h 0 q; omega
  | succ m ih =>
    intro n f h hi
    by_cases hx : ∃ k, k < n ∧ f k = m
    · obtain ⟨k, k1, k2⟩ := hx
      have := ih (n - 1) (fun i => if i < k then f i else f (i + 1)) (by
        intro i hi'
        show (if i < k then f i else f (i + 1)) < m
        split
        · have a := h i (by omega)
          have : f i ≠ m := fun z => by have := hi i k (by omega) k1 (by omega); omega
          omega
        · have a := h (i + 1) (by omega)
          have : f (i + 1) ≠ m := fun z => by have := hi (i + 1) k (by omega) k1 (by omega); omega
          omega) (by
        intro a b ha hb e
        have e : (if a < k then f a else f (a + 1)) = (if b < k then f b else f (b + 1)) := e
        split at e <;> split at e
        · exact hi a b (by omega) (by omega) e
        · have := hi a (b + 1) (by omega) (by omega) e; omega
        · have := hi (a + 1) b (by omega) (by omega) e; omega
        · have := hi (a + 1) (b + 1) (by omega) (by omega) e; omega)
      omega
    · have := ih n f (fun i hi' => by
        have a := h i hi'
        have : f i ≠ m := fun z => hx ⟨i, hi', z⟩
        omega) hi
      omega
section LYC
variable {X Y : Nat → Int} {O : Nat → Nat}
def nwk (t : Nat → Nat → Nat → Prop) (r : Nat → Nat) (p : Nat) (K : Nat → Prop) (x y z : Nat) : Prop := t x y z ∨ ∃ k, K k ∧ rt3 x y z (r k) p (r (k + 1))
/-- one triangle more -/
theorem nwk_add {V : Nat → Prop} {t : Nat → Nat → Nat → Prop} {r : Nat → Nat} {n p i : Nat} {K : Nat → Prop} (L : LI X Y V t r n) (hin : inj r n) (np : ¬ V p) (h40 : ∀ x, V x → x < 40) (p40 : p < 40) {M : MT} (hM : MC M (nwk t r p K)) (hK : ∀ k, K k → k < n) (hi : i < n) (hiK : ¬ K i) (hs : M.2.1 < 80) : MC (addT (r i) p (r (i + 1)) M) (nwk t r p (fun k => K k ∨ k = i)) ∧ (addT (r i) p (r (i + 1)) M).2.1 = M.2.1 + 1 := by
  obtain ⟨hR, hV, hN, hS, hE1, ⟨hn2, hrn⟩, b0, b1, b2, b3, b4, b5⟩ := L
  have q := b0 i hi
  have npe : ∀ k, k < n → r k ≠ p ∧ r (k + 1) ≠ p := fun k hk => ⟨fun z => np (z ▸ (b0 k hk).1), fun z => np (z ▸ (b0 k hk).2.1)⟩
  have inj1 : ∀ k, K k → r k ≠ r i := fun k hk e => by have := hin _ _ (hK k hk) hi e; subst this; exact hiK hk
  have inj2 : ∀ k, K k → r (k + 1) ≠ r (i + 1) := by
    intro k hk e
    have kn := hK k hk
    have nk : k ≠ i := fun z => by subst z; exact hiK hk
    by_cases a : k + 1 = n
    · rw [a, hrn] at e; have := hin _ _ (by omega) (by omega : i + 1 < n) e; omega
    · by_cases b : i + 1 = n
      · rw [b, hrn] at e; have := hin _ _ (by omega : k + 1 < n) (by omega) e; omega
      · have := hin _ _ (by omega : k + 1 < n) (by omega) e; omega
  have n1 := npe i hi
  obtain ⟨m1, m2⟩ := MC_add hM hs (h40 _ q.1) p40 (h40 _ q.2.1) n1.1 (fun z => n1.2 z.symm) q.2.2 (by
    intro z w
    rcases w with w | ⟨k, k1, k2⟩
    · exact np (hV _ _ _ w).2.1
    · have := npe k (hK k k1); have := inj1 k k1
      unfold rt3 at k2; omega) (by
    intro z w
    rcases w with w | ⟨k, k1, k2⟩
    · exact np (hV _ _ _ w).1
    · have := npe k (hK k k1); have := inj2 k k1
      unfold rt3 at k2; omega) (by
    intro z w
    rcases w with w | ⟨k, k1, k2⟩
    · exact b3 i hi _ w
    · have := npe k (hK k k1); have := inj1 k k1
      unfold rt3 at k2; omega)
  refine ⟨MC_cg m1 ?_, m2⟩
  intro x y z
  unfold nwk
  constructor
  · intro w
    rcases w with (w | ⟨k, k1, k2⟩) | w
    · exact Or.inl w
    · exact Or.inr ⟨k, Or.inl k1, k2⟩
    · exact Or.inr ⟨i, Or.inr rfl, w⟩
  · intro w
    rcases w with w | ⟨k, k1 | k1, k2⟩
    · exact Or.inl (Or.inl w)
    · exact Or.inl (Or.inr ⟨k, k1, k2⟩)
    · subst k1; exact Or.inr k2
theorem nwk_cg {t : Nat → Nat → Nat → Prop} {r : Nat → Nat} {p : Nat} {K L : Nat → Prop} (h : ∀ k, K k ↔ L k) : nwk t r p K = nwk t r p L := by
  have : K = L := funext fun k => propext (h k)
  rw [this]
/-- the class's state while it lays out -/
def CR (X Y : Nat → Int) (O : Nat → Nat) (m : Nat) (R : MT × AB) (t : Nat → Nat → Nat → Prop) (r : Nat → Nat) (n : Nat) : Prop := MC R.1 t ∧ LaS X Y O m t r n ∧ (∀ k, k < n → R.2.1 (r k) = r (k + 1) ∧ R.2.2 (r (k + 1)) = r k) ∧ R.1.2.1 + n = 2 * m - 2
theorem CR_step {N m : Nat} {R : MT × AB} {t : Nat → Nat → Nat → Prop} {r : Nat → Nat} {n s j : Nat} (h : srd X Y O N) (hm : m < N) (hN : N ≤ 40) (hO : ∀ i, O i < 40) (H : CR X Y O m R t r n) (hv : VS X Y (VO O m) r n (O m) s j) : CR X Y O (m + 1) (lnT X Y (O (m - 1)) (O m) R) (nwt X Y t r n (O m)) (nwr r n s j (O m)) (n - j - s + 2) := by
  obtain ⟨hM, hLa, hAB, hsz⟩ := H
  have hst := LaS_step h hm hLa hv
  obtain ⟨L, n3, hin, h0, m3⟩ := hLa
  obtain ⟨v1, v2, v3, v4, v5⟩ := hv
  have h40 : ∀ x, VO O m x → x < 40 := fun x ⟨i, _, e⟩ => by rw [e]; exact hO i
  have np : ¬ VO O m (O m) := fun z => bef_ir (srd_bef h hm _ z)
  have LL := L
  obtain ⟨_, _, _, _, _, ⟨hn2, hrn⟩, b0, _⟩ := LL
  have n40 : n ≤ 40 := php 40 n r (fun i hi => h40 _ (b0 i hi).1) hin
  -- forwards
  have f1 : ∀ (d i f : Nat) (M : MT), i + d = s → d ≤ f → MC M (nwk t r (O m) (fun k => k < i)) → M.2.1 = R.1.2.1 + i → ∃ M', ln1 X Y R.2.1 (O m) f (r i) M = (r s, M') ∧ MC M' (nwk t r (O m) (fun k => k < s)) ∧ M'.2.1 = R.1.2.1 + s := by
    intro d
    induction d with
    | zero =>
      intro i f M hi hf hM hs
      have : i = s := by omega
      subst this
      refine ⟨M, ln1_stop ?_, hM, hs⟩
      right; rw [(hAB i (by omega)).1]
      rcases Int.lt_or_le (le3 X Y (r i) (r (i + 1)) (O m)) 0 with q | q
      · have := (v1 i (by omega)).1 q; omega
      · exact q
    | succ d ih =>
      intro i f M hi hf hM hs
      have e := (hAB i (by omega)).1
      rw [ln1_go (by omega) (by rw [e]; exact (v1 i (by omega)).2 (Or.inl (by omega))), e]
      obtain ⟨a1, a2⟩ := nwk_add L hin np h40 (hO m) hM (fun k hk => by omega) (i := i) (by omega) (by omega) (by omega)
      rw [nwk_cg (L := fun k => k < i + 1) (fun k => by omega)] at a1
      exact ih (i + 1) (f - 1) _ (by omega) (by omega) a1 (by omega)
  have f2 : ∀ (d i f : Nat) (M : MT), i + d = j → d ≤ f → MC M (nwk t r (O m) (fun k => k < s ∨ (n - i ≤ k ∧ k < n))) → M.2.1 = R.1.2.1 + s + i → ∃ M', ln2 X Y R.2.2 (O m) f (r (n - i)) M = (r (n - j), M') ∧ MC M' (nwk t r (O m) (fun k => k < s ∨ (n - j ≤ k ∧ k < n))) ∧ M'.2.1 = R.1.2.1 + s + j := by
    intro d
    induction d with
    | zero =>
      intro i f M hi hf hM hs
      have : i = j := by omega
      subst this
      refine ⟨M, ln2_stop ?_, hM, hs⟩
      have e := (hAB (n - i - 1) (by omega)).2
      rw [show n - i - 1 + 1 = n - i from by omega] at e
      right; rw [e]
      have w := v1 (n - i - 1) (by omega)
      rw [show n - i - 1 + 1 = n - i from by omega] at w
      rcases Int.lt_or_le (le3 X Y (r (n - i - 1)) (r (n - i)) (O m)) 0 with q | q
      · have := w.1 q; omega
      · exact q
    | succ d ih =>
      intro i f M hi hf hM hs
      have e := (hAB (n - i - 1) (by omega)).2
      rw [show n - i - 1 + 1 = n - i from by omega] at e
      have w := v1 (n - i - 1) (by omega)
      rw [show n - i - 1 + 1 = n - i from by omega] at w
      rw [ln2_go (by omega) (by rw [e]; exact w.2 (Or.inr (by omega))), e]
      obtain ⟨a1, a2⟩ := nwk_add L hin np h40 (hO m) hM (fun k hk => by omega) (i := n - i - 1) (by omega) (by omega) (by omega)
      rw [show n - i - 1 + 1 = n - i from by omega] at a1 a2
      rw [nwk_cg (L := fun k => k < s ∨ (n - (i + 1) ≤ k ∧ k < n)) (fun k => by omega)] at a1
      have := ih (i + 1) (f - 1) _ (by omega) (by omega) a1 (by omega)
      rw [show n - (i + 1) = n - i - 1 from by omega] at this
      exact this
  have z1 : MC R.1 (nwk t r (O m) (fun k => k < 0)) := MC_cg hM (fun x y z => ⟨Or.inl, fun w => by
    rcases w with w | ⟨k, k1, _⟩
    · exact w
    · omega⟩)
  obtain ⟨M1, a1, a2, a3⟩ := f1 s 0 40 R.1 (by omega) (by omega) z1 (by omega)
  rw [nwk_cg (L := fun k => k < s ∨ (n - 0 ≤ k ∧ k < n)) (fun k => by omega)] at a2
  obtain ⟨M2, c1, c2, c3⟩ := f2 j 0 40 M1 (by omega) (by omega) a2 (by omega)
  rw [Nat.sub_zero, hrn] at c1
  have el : lnT X Y (O (m - 1)) (O m) R = (M2, lnk (O m) (r s) (lnk (r (n - j)) (O m) R.2)) := by
    unfold lnT
    rw [← h0, a1]
    dsimp only
    rw [c1]
  rw [el]
  refine ⟨?_, hst, ?_, by show M2.2.1 + _ = _; omega⟩
  · refine MC_cg c2 (fun x y z => ?_)
    unfold nwk nwt
    constructor
    · intro w
      rcases w with w | ⟨k, k1, k2⟩
      · exact Or.inl w
      · exact Or.inr ⟨k, by omega, (v1 k (by omega)).2 (by omega), k2⟩
    · intro w
      rcases w with w | ⟨k, k1, k2, k3⟩
      · exact Or.inl w
      · exact Or.inr ⟨k, by have := (v1 k k1).1 k2; omega, k3⟩
  · -- the links
    have npe : ∀ k, k ≤ n → r k ≠ O m := by
      intro k hk e
      by_cases q : k = n
      · rw [q, hrn] at e; exact np (e ▸ (b0 0 (by omega)).1)
      · exact np (e ▸ (b0 k (by omega)).1)
    have rne : ∀ x y, x ≤ n → y ≤ n → x ≠ y → ¬ (x = 0 ∧ y = n) → ¬ (x = n ∧ y = 0) → r x ≠ r y := by
      intro x y hx hy hxy q1 q2 e
      by_cases a : x = n
      · rw [a, hrn] at e
        have := hin 0 y (by omega) (by omega) e; omega
      · by_cases b : y = n
        · rw [b, hrn] at e; have := hin x 0 (by omega) (by omega) e; omega
        · exact hxy (hin x y (by omega) (by omega) e)
    intro k hk
    have w1 : ∀ k, 1 ≤ k → k ≤ n - j - s + 1 → nwr r n s j (O m) k = r (s + k - 1) := by
      intro k k1 k2; unfold nwr; rw [if_neg (by omega), if_pos k2]
    show sn (sn R.2.1 (r (n - j)) (O m)) (O m) (r s) _ = _ ∧ sn (sn R.2.2 (O m) (r (n - j))) (r s) (O m) _ = _
    by_cases q : k = 0
    · subst q
      rw [show nwr r n s j (O m) 0 = O m from rfl, w1 1 (by omega) (by omega), show s + 1 - 1 = s from by omega]
      exact ⟨sn_eq _ _ _, sn_eq _ _ _⟩
    · by_cases q2 : k = n - j - s + 1
      · rw [w1 k (by omega) (by omega), show nwr r n s j (O m) (k + 1) = O m from by unfold nwr; rw [if_neg (by omega), if_neg (by omega)], show s + k - 1 = n - j from by omega]
        refine ⟨?_, ?_⟩
        · rw [sn_ne _ _ (npe _ (by omega)), sn_eq]
        · rw [sn_ne _ _ (fun z => npe s (by omega) z.symm), sn_eq]
      · rw [w1 k (by omega) (by omega), w1 (k + 1) (by omega) (by omega), show s + (k + 1) - 1 = s + k - 1 + 1 from by omega]
        have e := hAB (s + k - 1) (by omega)
        refine ⟨?_, ?_⟩
        · rw [sn_ne _ _ (npe _ (by omega)), sn_ne _ _ (rne _ _ (by omega) (by omega) (by omega) (by omega) (by omega))]; exact e.1
        · rw [sn_ne _ _ (rne _ _ (by omega) (by omega) (by omega) (by omega) (by omega)), sn_ne _ _ (npe _ (by omega))]; exact e.2
/-- the first triangles -/
theorem CR_fan {N a : Nat} {R : MT × AB} (h : srd X Y O N) (ha : a < N) (hN : N ≤ 40) (hO : ∀ i, O i < 40) (ha2 : 2 ≤ a) (hl : ∀ i, i < a → le3 X Y (O 0) (O 1) (O i) = 0) (hz : le3 X Y (O 0) (O 1) (O a) ≠ 0) (hR : MC R.1 (fun _ _ _ => False)) (hs0 : R.1.2.1 = 0) : CR X Y O (a + 1) (lfA X Y O a R) (nwt X Y (fun _ _ _ => False) (rl O a) (2 * (a - 1)) (O a)) (nwr (rl O a) (2 * (a - 1)) (fanS X Y O a) (a - 1 - fanS X Y O a) (O a)) (a + 1) := by
  have hLa := fan_LaS h ha ha2 hl hz
  have sg := fun i j h1 h2 => line_sgn h ha ha2 hl (i := i) (j := j) h1 h2
  have oi : ∀ x y, x < N → y < N → O x = O y → x = y := fun x y hx hy e => by
    by_cases q : x = y
    · exact q
    · exact (srd_ne h hx hy q e).elim
  have hlf : lfl X Y O a = decide (0 < le3 X Y (O 0) (O 1) (O a)) := by
    unfold lfl
    have := sg 0 (a - 1) (by omega) (by omega)
    by_cases q : 0 < le3 X Y (O 0) (O 1) (O a)
    · rw [decide_eq_true q, decide_eq_true (this.1 q)]
    · have := this.2 (by omega)
      rw [decide_eq_false q, decide_eq_false (by omega)]
  -- the triangles, whichever hand
  let tf : Bool → Nat → Nat → Nat → Nat → Prop := fun lf i x y z => ∃ k, k + 1 < i ∧ rt3 x y z (if lf = true then O k else O (k + 1)) (if lf = true then O (k + 1) else O k) (O a)
  have loop : ∀ (lf : Bool) (d i : Nat) (R : MT × AB), i + d = a → 1 ≤ i → MC R.1 (tf lf i) → R.1.2.1 = i - 1 → (∀ k, k + 1 < i → R.2.1 (if lf = true then O k else O (k + 1)) = (if lf = true then O (k + 1) else O k) ∧ R.2.2 (if lf = true then O (k + 1) else O k) = (if lf = true then O k else O (k + 1))) → MC (lfT O lf (O a) a i R).1 (tf lf a) ∧ (lfT O lf (O a) a i R).1.2.1 = a - 1 ∧ (∀ k, k + 1 < a → (lfT O lf (O a) a i R).2.1 (if lf = true then O k else O (k + 1)) = (if lf = true then O (k + 1) else O k) ∧ (lfT O lf (O a) a i R).2.2 (if lf = true then O (k + 1) else O k) = (if lf = true then O k else O (k + 1))) := by
    intro lf d
    induction d with
    | zero =>
      intro i R hi h1 hM hs hab
      have : i = a := by omega
      subst this
      rw [lfT_end (Nat.le_refl _)]; exact ⟨hM, hs, hab⟩
    | succ d ih =>
      intro i R hi h1 hM hs hab
      have na : ∀ k, k < a → O k ≠ O a := fun k hk => srd_ne h (by omega) ha (by omega)
      have e : lfT O lf (O a) a i R = lfT O lf (O a) a (i + 1) (addT (if lf = true then O (i - 1) else O i) (if lf = true then O i else O (i - 1)) (O a) R.1, lnk (if lf = true then O (i - 1) else O i) (if lf = true then O i else O (i - 1)) R.2) := by
        rw [lfT, if_pos (by omega)]
      rw [e]
      have ne1 : O (i - 1) ≠ O i := srd_ne h (by omega) (by omega) (by omega)
      have am := MC_add hM (by omega) (a := if lf = true then O (i - 1) else O i) (b := if lf = true then O i else O (i - 1)) (c := O a) (by split <;> exact hO _) (by split <;> exact hO _) (hO a) (by cases lf; exact ne1.symm; exact ne1) (by cases lf; exact na _ (by omega); exact na _ (by omega)) (by cases lf; exact na _ (by omega); exact na _ (by omega)) (by
        intro z ⟨k, k1, k2⟩
        have p1 := na k (by omega); have p2 := na (k + 1) (by omega); have p3 := na (i - 1) (by omega); have p4 := na i (by omega)
        have p5 : O k ≠ O i := srd_ne h (by omega) (by omega) (by omega)
        have p6 : O (k + 1) ≠ O i := srd_ne h (by omega) (by omega) (by omega)
        have p7 : O k ≠ O (i - 1) := srd_ne h (by omega) (by omega) (by omega)
        cases lf <;> simp only [Bool.false_eq_true, if_true, if_false] at k2 <;> unfold rt3 at k2 <;> omega) (by
        intro z ⟨k, k1, k2⟩
        have p1 := na k (by omega); have p2 := na (k + 1) (by omega); have p3 := na (i - 1) (by omega); have p4 := na i (by omega)
        have p5 : O k ≠ O i := srd_ne h (by omega) (by omega) (by omega)
        have p6 : O (k + 1) ≠ O i := srd_ne h (by omega) (by omega) (by omega)
        have p7 : O k ≠ O (i - 1) := srd_ne h (by omega) (by omega) (by omega)
        cases lf <;> simp only [Bool.false_eq_true, if_true, if_false] at k2 <;> unfold rt3 at k2 <;> omega) (by
        intro z ⟨k, k1, k2⟩
        have p1 := na k (by omega); have p2 := na (k + 1) (by omega); have p3 := na (i - 1) (by omega); have p4 := na i (by omega)
        have p5 : O k ≠ O i := srd_ne h (by omega) (by omega) (by omega)
        have p6 : O (k + 1) ≠ O i := srd_ne h (by omega) (by omega) (by omega)
        have p7 : O k ≠ O (i - 1) := srd_ne h (by omega) (by omega) (by omega)
        cases lf <;> simp only [Bool.false_eq_true, if_true, if_false] at k2 <;> unfold rt3 at k2 <;> omega)
      refine ih (i + 1) _ (by omega) (by omega) (MC_cg am.1 ?_) (by show (addT _ _ _ R.1).2.1 = _; rw [am.2]; omega) ?_
      · intro x y z
        constructor
        · intro w
          rcases w with ⟨k, k1, k2⟩ | w
          · exact ⟨k, by omega, k2⟩
          · refine ⟨i - 1, by omega, ?_⟩
            rw [show i - 1 + 1 = i from by omega]; exact w
        · intro ⟨k, k1, k2⟩
          by_cases q : k + 1 < i
          · exact Or.inl ⟨k, q, k2⟩
          · have : k = i - 1 := by omega
            subst this
            rw [show i - 1 + 1 = i from by omega] at k2
            exact Or.inr k2
      · intro k hk
        show sn R.2.1 _ _ _ = _ ∧ sn R.2.2 _ _ _ = _
        by_cases q : k + 1 < i
        · have o := hab k q
          have p5 : O k ≠ O i := srd_ne h (by omega) (by omega) (by omega)
          have p6 : O (k + 1) ≠ O i := srd_ne h (by omega) (by omega) (by omega)
          have p7 : O k ≠ O (i - 1) := srd_ne h (by omega) (by omega) (by omega)
          cases lf
          · simp only [Bool.false_eq_true, if_false] at o ⊢
            exact ⟨by rw [sn_ne _ _ p6]; exact o.1, by rw [sn_ne _ _ p7]; exact o.2⟩
          · simp only [if_true] at o ⊢
            exact ⟨by rw [sn_ne _ _ p7]; exact o.1, by rw [sn_ne _ _ p6]; exact o.2⟩
        · have : k = i - 1 := by omega
          subst this
          rw [show i - 1 + 1 = i from by omega]
          exact ⟨sn_eq _ _ _, sn_eq _ _ _⟩
  obtain ⟨m1, m2, m3⟩ := loop (lfl X Y O a) (a - 1) 1 R (by omega) (by omega) (MC_cg hR (fun x y z => ⟨fun w => w.elim, fun ⟨k, k1, _⟩ => by omega⟩)) (by omega) (by intro k hk; omega)
  have na : ∀ k, k < a → O k ≠ O a := fun k hk => srd_ne h (by omega) ha (by omega)
  refine ⟨?_, hLa, ?_, by show (lfT _ _ _ _ _ _).1.2.1 + _ = _; rw [m2]; omega⟩
  · -- the same triangles
    refine MC_cg m1 (fun x y z => ?_)
    obtain ⟨v1, _⟩ := fan_VS h ha ha2 hl hz
    rw [hlf]
    by_cases q : 0 < le3 X Y (O 0) (O 1) (O a)
    · rw [decide_eq_true q]
      constructor
      · intro ⟨k, k1, k2⟩
        simp only [if_true] at k2
        refine Or.inr ⟨a - 2 - k, by omega, ?_, ?_⟩
        · rw [show rl O a (a - 2 - k) = O (k + 1) from by unfold rl; rw [if_pos (by omega)]; congr 1; omega, show rl O a (a - 2 - k + 1) = O k from by unfold rl; rw [if_pos (by omega)]; congr 1; omega]
          have := (sg k (k + 1) (by omega) k1).1 q
          rw [show le3 X Y (O (k + 1)) (O k) (O a) = -le3 X Y (O k) (O (k + 1)) (O a) from by unfold le3 lo; grind]; omega
        · rw [show rl O a (a - 2 - k) = O (k + 1) from by unfold rl; rw [if_pos (by omega)]; congr 1; omega, show rl O a (a - 2 - k + 1) = O k from by unfold rl; rw [if_pos (by omega)]; congr 1; omega]
          unfold rt3 at *; omega
      · intro w
        rcases w with w | ⟨k, k1, k2, k3⟩
        · exact w.elim
        · have kv := (v1 k k1).1 k2
          rcases rl_ad (O := O) ha2 k1 with ⟨_, i, i1, i2, i3⟩ | ⟨_, i, i1, i2, i3⟩ <;> rw [i2, i3] at k2 k3
          · exact ⟨i, i1, by simp only [if_true]; unfold rt3 at *; omega⟩
          · have := (sg i (i + 1) (by omega) i1).1 q; omega
    · have q2 : le3 X Y (O 0) (O 1) (O a) < 0 := by omega
      rw [decide_eq_false q]
      constructor
      · intro ⟨k, k1, k2⟩
        simp only [Bool.false_eq_true, if_false] at k2
        have e1 : rl O a (a - 1 + k) = O k := by
          by_cases z : k = 0
          · subst z; unfold rl; rw [if_pos (by omega)]; congr 1; omega
          · unfold rl; rw [if_neg (by omega)]; congr 1; omega
        have e2 : rl O a (a - 1 + k + 1) = O (k + 1) := by unfold rl; rw [if_neg (by omega)]; congr 1; omega
        refine Or.inr ⟨a - 1 + k, by omega, ?_, ?_⟩
        · rw [e1, e2]; exact (sg k (k + 1) (by omega) k1).2 q2
        · rw [e1, e2]; unfold rt3 at *; omega
      · intro w
        rcases w with w | ⟨k, k1, k2, k3⟩
        · exact w.elim
        · rcases rl_ad (O := O) ha2 k1 with ⟨_, i, i1, i2, i3⟩ | ⟨_, i, i1, i2, i3⟩ <;> rw [i2, i3] at k2 k3
          · have := (sg i (i + 1) (by omega) i1).2 q2
            rw [show le3 X Y (O (i + 1)) (O i) (O a) = -le3 X Y (O i) (O (i + 1)) (O a) from by unfold le3 lo; grind] at k2; omega
          · exact ⟨i, i1, by simp only [Bool.false_eq_true, if_false]; unfold rt3 at *; omega⟩
  · -- the links
    intro k hk
    show sn (sn (lfT O (lfl X Y O a) (O a) a 1 R).2.1 _ (O a)) (O a) _ _ = _ ∧ sn (sn (lfT O (lfl X Y O a) (O a) a 1 R).2.2 (O a) _) _ (O a) _ = _
    generalize (lfT O (lfl X Y O a) (O a) a 1 R).2 = B at m3
    by_cases q : 0 < le3 X Y (O 0) (O 1) (O a)
    · rw [hlf, decide_eq_true q] at m3 ⊢
      simp only [if_true] at m3 ⊢
      have fs : fanS X Y O a = a - 1 := by unfold fanS; rw [if_pos q]
      by_cases k0 : k = 0
      · subst k0
        rw [show nwr (rl O a) (2 * (a - 1)) (fanS X Y O a) (a - 1 - fanS X Y O a) (O a) 0 = O a from rfl, fan_rL fs (by omega) (by omega)]
        exact ⟨sn_eq _ _ _, sn_eq _ _ _⟩
      · by_cases ka : k = a
        · subst ka
          rw [fan_rL fs (by omega) (by omega), show nwr (rl O k) (2 * (k - 1)) (fanS X Y O k) (k - 1 - fanS X Y O k) (O k) (k + 1) = O k from by unfold nwr; rw [if_neg (by omega), if_neg (by omega)]]
          refine ⟨?_, ?_⟩
          · rw [sn_ne _ _ (na _ (by omega)), sn_eq]
          · rw [sn_ne _ _ (fun z => na 0 (by omega) z.symm), sn_eq]
        · rw [fan_rL (k := k) fs (by omega) (by omega), fan_rL (k := k + 1) fs (by omega) (by omega), show k + 1 - 1 = k - 1 + 1 from by omega]
          have o := m3 (k - 1) (by omega)
          refine ⟨?_, ?_⟩
          · rw [sn_ne _ _ (na _ (by omega)), sn_ne _ _ (srd_ne h (by omega) (by omega) (by omega))]; exact o.1
          · rw [sn_ne _ _ (srd_ne h (by omega) (by omega) (by omega)), sn_ne _ _ (na _ (by omega))]; exact o.2
    · rw [hlf, decide_eq_false q] at m3 ⊢
      simp only [Bool.false_eq_true, if_false] at m3 ⊢
      have fs : fanS X Y O a = 0 := by unfold fanS; rw [if_neg q]
      by_cases k0 : k = 0
      · subst k0
        rw [show nwr (rl O a) (2 * (a - 1)) (fanS X Y O a) (a - 1 - fanS X Y O a) (O a) 0 = O a from rfl, fan_rR fs (by omega) (by omega)]
        exact ⟨sn_eq _ _ _, sn_eq _ _ _⟩
      · by_cases ka : k = a
        · subst ka
          rw [fan_rR fs (by omega) (by omega), show nwr (rl O k) (2 * (k - 1)) (fanS X Y O k) (k - 1 - fanS X Y O k) (O k) (k + 1) = O k from by unfold nwr; rw [if_neg (by omega), if_neg (by omega)], Nat.sub_self]
          refine ⟨?_, ?_⟩
          · rw [sn_ne _ _ (na _ (by omega)), sn_eq]
          · rw [sn_ne _ _ (fun z => na (k - 1) (by omega) z.symm), sn_eq]
        · rw [fan_rR (k := k) fs (by omega) (by omega), fan_rR (k := k + 1) fs (by omega) (by omega)]
          have o := m3 (a - (k + 1)) (by omega)
          rw [show a - (k + 1) + 1 = a - k from by omega] at o
          refine ⟨?_, ?_⟩
          · rw [sn_ne _ _ (na _ (by omega)), sn_ne _ _ (srd_ne h (by omega) (by omega) (by omega))]; exact o.1
          · rw [sn_ne _ _ (srd_ne h (by omega) (by omega) (by omega)), sn_ne _ _ (na _ (by omega))]; exact o.2
theorem CR_loop {N : Nat} (h : srd X Y O N) (hN : N ≤ 40) (hO : ∀ i, O i < 40) : ∀ (d i : Nat) (R : MT × AB) (t : Nat → Nat → Nat → Prop) (r : Nat → Nat) (n : Nat), i + d = N → CR X Y O i R t r n → ∃ t' r' n', CR X Y O N (loL X Y O N i R) t' r' n' := by
  intro d
  induction d with
  | zero =>
    intro i R t r n hi H
    have : i = N := by omega
    subst this
    rw [loL_end (Nat.le_refl _)]; exact ⟨t, r, n, H⟩
  | succ d ih =>
    intro i R t r n hi H
    rw [loL_go (by omega)]
    obtain ⟨s, j, hv⟩ := LaS_vis h (by omega) H.2.1
    exact ih (i + 1) _ _ _ _ (by omega) (CR_step h (by omega) hN hO H hv)
theorem fol_sp {N : Nat} (hf : fol X Y O N < N) : 2 ≤ fol X Y O N ∧ le3 X Y (O 0) (O 1) (O (fol X Y O N)) ≠ 0 ∧ ∀ i, i < fol X Y O N → le3 X Y (O 0) (O 1) (O i) = 0 := by
  unfold fol at *
  cases hq : ff (offP X Y O) N 2 with
  | none => rw [hq] at hf; exact absurd hf (Nat.lt_irrefl _)
  | some a =>
    have := ff_lt N 2 (by omega) a hq
    refine ⟨this.1, by have := this.2.2.1; unfold offP at this; simpa using this, ?_⟩
    intro i hi
    have hi : i < a := hi
    by_cases q : 2 ≤ i
    · have := this.2.2.2 i q hi; unfold offP at this; simpa using this
    · have : i = 0 ∨ i = 1 := by omega
      rcases this with rfl | rfl
      · exact le3_ab _ _
      · exact le3_bb _ _
theorem MC_emp (A : Nat → Nat) (Th : Nat → Int) : MC (A, 0, fil 1600 Th) (fun _ _ _ => False) := by
  refine ⟨⟨fun i j _ hj => absurd hj (Nat.not_lt_zero _), fun k => ⟨fun ⟨i, hi, _⟩ => absurd hi (Nat.not_lt_zero _), fun ⟨_, _, _, z, _⟩ => z.elim⟩⟩, ?_, fun _ _ _ z => z, fun _ _ _ z => z.elim, fun _ _ _ _ z => z.elim⟩
  intro a b c ha hb hc
  show fil 1600 Th (a * 40 + b) = (c : Int) ↔ False
  unfold fil
  rw [if_pos (by omega)]
  exact ⟨fun z => by omega, fun z => z.elim⟩
/-- the class lays a drawing out -/
theorem lay_c {N : Nat} {R : MT × AB} (h : srd X Y O N) (hN : N ≤ 40) (hO : ∀ i, O i < 40) (hf : fol X Y O N < N) : ∃ t r n, CR X Y O N (loT X Y O N R) t r n := by
  obtain ⟨a2, hz, hl⟩ := fol_sp hf
  unfold loT
  rw [if_pos hf]
  have := CR_fan (R := ((R.1.1, 0, fil 1600 R.1.2.2), R.2)) h hf hN hO a2 hl hz (MC_emp _ _) rfl
  exact CR_loop h hN hO (N - (fol X Y O N + 1)) (fol X Y O N + 1) _ _ _ _ (by omega) this
end LYC
