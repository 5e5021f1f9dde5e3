/-! which sides of a border see a point behind all: those next to the last one, on both hands -/
theorem leastN {P : Nat → Prop} (h : ∃ k, P k) : ∃ k, P k ∧ ∀ j, j < k → ¬ P j := by
  obtain ⟨k, hk⟩ := h
  induction k using Nat.strongRecOn with
  | ind k ih =>
    by_cases q : ∃ j, j < k ∧ P j
    · obtain ⟨j, j1, j2⟩ := q; exact ih j j1 j2
    · exact ⟨k, hk, fun j hj pj => q ⟨j, hj, pj⟩⟩
def inj (r : Nat → Nat) (n : Nat) : Prop := ∀ a b, a < n → b < n → r a = r b → a = b
def VS (X Y : Nat → Int) (V : Nat → Prop) (r : Nat → Nat) (n p s j : Nat) : Prop := (∀ k, k < n → (le3 X Y (r k) (r (k + 1)) p < 0 ↔ k < s ∨ n - j ≤ k)) ∧ 1 ≤ s + j ∧ s + j < n ∧ (∀ x, V x → 0 ≤ le3 X Y p (r s) x) ∧ (∀ x, V x → 0 ≤ le3 X Y (r (n - j)) p x)
section VIS
variable {X Y : Nat → Int} {V : Nat → Prop} {t : Nat → Nat → Nat → Prop}
/-- no spike: two sides of the border in one direction -/
theorem spike (hap : apart X Y V) {w x y : Nat} (vw : V w) (vx : V x) (vy : V y) (n1 : w ≠ x) (n2 : x ≠ y) (n3 : w ≠ y) (hd : sdir X Y x w y) (c1 : ¬ btw X Y w x y) (c2 : ¬ btw X Y x y w) : False := by
  rcases tri_col hap vx vw vy n1.symm n2.symm n3.symm with q | q | q
  · exact c1 q.symm
  · unfold sdir at hd; unfold odir at q
    rcases hd with ⟨a1, a2⟩ | ⟨a1, a2⟩ <;> rcases q with ⟨b1, b2⟩ | ⟨b1, b2⟩
    · exact bef_as a2 b2
    · exact bef_as a1 b1
    · exact bef_as a1 b1
    · exact bef_as a2 b2
  · apply c2
    rcases q with ⟨b1, b2⟩ | ⟨b1, b2⟩
    · exact Or.inr ⟨b2, b1⟩
    · exact Or.inl ⟨b1, b2⟩
theorem vis_ex (hap : apart X Y V) {r : Nat → Nat} {n p : Nat} (h : LI X Y V t r n) (hn3 : 3 ≤ n) (hin : inj r n) (hL : ∀ x, V x → x ≠ r 0 → bef X Y x (r 0)) (hp : ∀ x, V x → bef X Y x p) : ∃ s j, VS X Y V r n p s j := by
  obtain ⟨hR, hV, hN, hS, hE1, ⟨hn2, hrn⟩, b0, b1, b2, b3, b4, b5⟩ := h
  -- neighbours two apart are different
  have ne2 : ∀ k, 1 ≤ k → k < n → r (k - 1) ≠ r (k + 1) := by
    intro k k1 k2 e
    by_cases q : k + 1 = n
    · rw [q, hrn] at e; have := hin _ _ (by omega) (by omega) e; omega
    · have := hin _ _ (by omega) (by omega) e; omega
  have neL : r (n - 1) ≠ r 1 := fun e => by have := hin _ _ (by omega) (by omega) e; omega
  have di : ∀ k, k < n → bef X Y (r (k + 1)) (r k) ∨ bef X Y (r k) (r (k + 1)) := fun k hk => bef_V hap (b0 k hk).2.1 (b0 k hk).1 (b0 k hk).2.2.symm
  have up : ∀ k, 1 ≤ k → k < n → bef X Y (r (k + 1)) (r k) → bef X Y (r k) (r (k - 1)) := by
    intro k k1 k2 hd
    have e1 : k - 1 + 1 = k := by omega
    have a0 := b0 (k - 1) (by omega); rw [e1] at a0
    have c1 := b1 (k - 1) (by omega); rw [e1] at c1
    have c2 := b2 (k - 1) (by omega); rw [e1] at c2
    have nL : r k ≠ r 0 := fun e => by have := hin _ _ k2 (by omega) e; omega
    have hl := hL _ (b0 k k2).1 nL
    rcases bef_V hap a0.2.1 a0.1 a0.2.2.symm with q | q
    · exact q
    · exfalso
      have v0 := (b0 0 (by omega)).1
      have f1 := c1 (r 0) v0
      have f2 := b1 k k2 (r 0) v0
      have f3 := c1 (r (k + 1)) (b0 k k2).2.1
      have g1 : lxp (X (r k) - X (r (k - 1))) (Y (r k) - Y (r (k - 1))) := q
      have g2 : lxp (X (r 0) - X (r k)) (Y (r 0) - Y (r k)) := hl
      have g3 : lxp (X (r k) - X (r (k + 1))) (Y (r k) - Y (r (k + 1))) := hd
      have t1 := cr_tr (lxp_lx0 g1) g2 (lxp_lx0 g3) (by rw [le3_cr2] at f1; exact f1) (by rw [le3_cr] at f2; unfold cr at *; grind)
      have t2 : le3 X Y (r (k - 1)) (r k) (r (k + 1)) = -cr (X (r k) - X (r (k - 1))) (Y (r k) - Y (r (k - 1))) (X (r k) - X (r (k + 1))) (Y (r k) - Y (r (k + 1))) := by unfold le3 lo cr; grind
      have z : le3 X Y (r (k - 1)) (r k) (r (k + 1)) = 0 := by omega
      refine spike hap a0.1 a0.2.1 (b0 k k2).2.1 a0.2.2 (b0 k k2).2.2 (ne2 k k1 k2) (Or.inr ⟨q, hd⟩) (c2 _ (b0 k k2).2.1 z) (b2 k k2 _ a0.1 ?_)
      rw [show le3 X Y (r k) (r (k + 1)) (r (k - 1)) = le3 X Y (r (k - 1)) (r k) (r (k + 1)) from by unfold le3 lo; grind]; exact z
  have vdn : ∀ k, 1 ≤ k → k < n → bef X Y (r (k + 1)) (r k) → le3 X Y (r k) (r (k + 1)) p < 0 → le3 X Y (r (k - 1)) (r k) p < 0 := by
    intro k k1 k2 hd hv
    have hd1 := up k k1 k2 hd
    have e1 : k - 1 + 1 = k := by omega
    have c1 := b1 (k - 1) (by omega) (r (k + 1)) (b0 k k2).2.1; rw [e1] at c1
    have g1 : lxp (X (r (k - 1)) - X (r k)) (Y (r (k - 1)) - Y (r k)) := hd1
    have g2 : lxp (X (r k) - X (r (k + 1))) (Y (r k) - Y (r (k + 1))) := hd
    have g3 : lxp (X p - X (r k)) (Y p - Y (r k)) := hp _ (b0 k k2).1
    have t := cr_tr2 g1 g2 (lxp_lx0 g3) (by rw [le3_cr2] at c1; unfold cr at *; grind) (by rw [le3_cr] at hv; unfold cr at *; grind)
    rw [le3_cr2]; unfold cr at *; grind
  have vup : ∀ k, k + 1 < n → bef X Y (r k) (r (k + 1)) → le3 X Y (r k) (r (k + 1)) p < 0 → bef X Y (r (k + 1)) (r (k + 1 + 1)) ∧ le3 X Y (r (k + 1)) (r (k + 1 + 1)) p < 0 := by
    intro k k1 hd hv
    have hd2 : bef X Y (r (k + 1)) (r (k + 1 + 1)) := by
      rcases di (k + 1) k1 with q | q
      · have := up (k + 1) (by omega) k1 q
        rw [show k + 1 - 1 = k from by omega] at this
        exact (bef_as hd this).elim
      · exact q
    have c1 := b1 k (by omega) (r (k + 1 + 1)) (b0 (k + 1) k1).2.1
    have g1 : lxp (X (r (k + 1)) - X (r k)) (Y (r (k + 1)) - Y (r k)) := hd
    have g2 : lxp (X (r (k + 1 + 1)) - X (r (k + 1))) (Y (r (k + 1 + 1)) - Y (r (k + 1))) := hd2
    have g3 : lxp (X p - X (r (k + 1))) (Y p - Y (r (k + 1))) := hp _ (b0 k (by omega)).2.1
    have t := cr_tr1 (lxp_lx0 g3) g1 g2 (by rw [le3_cr2] at hv; rw [cr_sw]; omega) (by rw [le3_cr2] at c1; exact c1)
    refine ⟨hd2, ?_⟩
    rw [le3_cr, cr_sw]; omega
  have nb : ∀ k, 1 ≤ k → k < n → bef X Y (r k) (r (k - 1)) → bef X Y (r k) (r (k + 1)) → le3 X Y (r (k - 1)) (r k) p < 0 → le3 X Y (r k) (r (k + 1)) p < 0 → False := by
    intro k k1 k2 hd1 hd2 v1 v2
    have e1 : k - 1 + 1 = k := by omega
    have c1 := b1 (k - 1) (by omega) (r (k + 1)) (b0 k k2).2.1; rw [e1] at c1
    have g1 : lxp (X (r (k - 1)) - X (r k)) (Y (r (k - 1)) - Y (r k)) := hd1
    have g2 : lxp (X p - X (r k)) (Y p - Y (r k)) := hp _ (b0 k k2).1
    have g3 : lxp (X (r (k + 1)) - X (r k)) (Y (r (k + 1)) - Y (r k)) := hd2
    have t := cr_tr1 (lxp_lx0 g1) g2 g3 (by rw [le3_cr2] at v1; unfold cr at *; grind) (by rw [le3_cr] at v2; rw [cr_sw]; omega)
    rw [le3_cr2] at c1; unfold cr at *; grind
  have d0 : bef X Y (r (0 + 1)) (r 0) := hL _ (b0 0 (by omega)).2.1 (b0 0 (by omega)).2.2.symm
  have dn : bef X Y (r (n - 1)) (r (n - 1 + 1)) := by
    rw [show n - 1 + 1 = n from by omega, hrn]
    exact hL _ (b0 (n - 1) (by omega)).1 (fun e => by have := hin _ _ (by omega) (by omega) e; omega)
  have some : le3 X Y (r 0) (r (0 + 1)) p < 0 ∨ le3 X Y (r (n - 1)) (r (n - 1 + 1)) p < 0 := by
    rcases Int.lt_or_le (le3 X Y (r 0) (r (0 + 1)) p) 0 with q | q
    · exact Or.inl q
    rcases Int.lt_or_le (le3 X Y (r (n - 1)) (r (n - 1 + 1)) p) 0 with q2 | q2
    · exact Or.inr q2
    exfalso
    have e1 : n - 1 + 1 = n := by omega
    have a0 := b0 (n - 1) (by omega); rw [e1, hrn] at a0
    have c1 := b1 (n - 1) (by omega) (r (0 + 1)) (b0 0 (by omega)).2.1; rw [e1, hrn] at c1
    have c2 := b2 (n - 1) (by omega) (r (0 + 1)) (b0 0 (by omega)).2.1; rw [e1, hrn] at c2
    rw [e1, hrn] at dn q2
    have g1 : lxp (X (r 0) - X (r (n - 1))) (Y (r 0) - Y (r (n - 1))) := dn
    have g2 : lxp (X p - X (r 0)) (Y p - Y (r 0)) := hp _ (b0 0 (by omega)).1
    have g3 : lxp (X (r 0) - X (r (0 + 1))) (Y (r 0) - Y (r (0 + 1))) := d0
    have t := cr_tr (lxp_lx0 g1) g2 (lxp_lx0 g3) (by rw [le3_cr2] at q2; exact q2) (by rw [le3_cr] at q; unfold cr at *; grind)
    have t2 : le3 X Y (r (n - 1)) (r 0) (r (0 + 1)) = -cr (X (r 0) - X (r (n - 1))) (Y (r 0) - Y (r (n - 1))) (X (r 0) - X (r (0 + 1))) (Y (r 0) - Y (r (0 + 1))) := by unfold le3 lo cr; grind
    have z : le3 X Y (r (n - 1)) (r 0) (r (0 + 1)) = 0 := by omega
    refine spike hap a0.1 a0.2.1 (b0 0 (by omega)).2.1 a0.2.2 (b0 0 (by omega)).2.2 neL (Or.inr ⟨dn, d0⟩) (c2 z) (b2 0 (by omega) _ a0.1 ?_)
    rw [show le3 X Y (r 0) (r (0 + 1)) (r (n - 1)) = le3 X Y (r (n - 1)) (r 0) (r (0 + 1)) from by unfold le3 lo; grind]; exact z
  -- the first side that goes up
  obtain ⟨m, m1, m2⟩ := leastN (P := fun k => k < n ∧ bef X Y (r k) (r (k + 1))) ⟨n - 1, by omega, dn⟩
  have mpos : 1 ≤ m := by
    rcases Nat.eq_zero_or_pos m with q | q
    · subst q; exact (bef_as d0 m1.2).elim
    · exact q
  have dec : ∀ k, k < m → bef X Y (r (k + 1)) (r k) := by
    intro k hk
    rcases di k (by omega) with q | q
    · exact q
    · exact (m2 k hk ⟨by omega, q⟩).elim
  have inc : ∀ i k, k = m + i → k < n → bef X Y (r k) (r (k + 1)) := by
    intro i
    induction i with
    | zero => intro k hk h2; rw [hk]; exact m1.2
    | succ i ih =>
      intro k hk h2
      rcases di k h2 with q | q
      · have a := up k (by omega) h2 q
        have b := ih (k - 1) (by omega) (by omega)
        rw [show k - 1 + 1 = k from by omega] at b
        exact (bef_as a b).elim
      · exact q
  obtain ⟨s, s1, s2⟩ := leastN (P := fun k => k = m ∨ ¬ le3 X Y (r k) (r (k + 1)) p < 0) ⟨m, Or.inl rfl⟩
  have sm : s ≤ m := by
    rcases Nat.lt_or_ge m s with q | q
    · exact (s2 m q (Or.inl rfl)).elim
    · exact q
  have sv : ∀ k, k < s → le3 X Y (r k) (r (k + 1)) p < 0 := by
    intro k hk
    rcases Int.lt_or_le (le3 X Y (r k) (r (k + 1)) p) 0 with q | q
    · exact q
    · exact (s2 k hk (Or.inr (by omega))).elim
  have snv : ∀ i k, k = s + i → k < m → ¬ le3 X Y (r k) (r (k + 1)) p < 0 := by
    intro i
    induction i with
    | zero =>
      intro k hk h2 h3
      rcases s1 with q | q
      · omega
      · rw [hk] at h3; exact q h3
    | succ i ih =>
      intro k hk h2 h3
      have := vdn k (by omega) (by omega) (dec k h2) h3
      apply ih (k - 1) (by omega) (by omega)
      rw [show k - 1 + 1 = k from by omega]; exact this
  obtain ⟨e, e1, e2⟩ := leastN (P := fun k => m ≤ k ∧ (k = n ∨ (k < n ∧ le3 X Y (r k) (r (k + 1)) p < 0))) ⟨n, by omega, Or.inl rfl⟩
  have en : e ≤ n := by omega
  have ev : ∀ i k, k = e + i → k < n → le3 X Y (r k) (r (k + 1)) p < 0 := by
    intro i
    induction i with
    | zero =>
      intro k hk h2
      rcases e1.2 with q | q
      · omega
      · rw [hk]; exact q.2
    | succ i ih =>
      intro k hk h2
      have a := ih (k - 1) (by omega) (by omega)
      have b := vup (k - 1) (by omega) (inc (k - 1 - m) (k - 1) (by omega) (by omega)) a
      rw [show k - 1 + 1 = k from by omega] at b
      exact b.2
  have env : ∀ k, m ≤ k → k < e → ¬ le3 X Y (r k) (r (k + 1)) p < 0 := fun k k1 k2 k3 => e2 k k2 ⟨k1, Or.inr ⟨by omega, k3⟩⟩
  have hvis : ∀ k, k < n → (le3 X Y (r k) (r (k + 1)) p < 0 ↔ k < s ∨ e ≤ k) := by
    intro k hk
    constructor
    · intro hv
      rcases Nat.lt_or_ge k s with q | q
      · exact Or.inl q
      rcases Nat.lt_or_ge k e with w | w
      · exfalso
        rcases Nat.lt_or_ge k m with u | u
        · exact snv (k - s) k (by omega) u hv
        · exact env k u w hv
      · exact Or.inr w
    · intro hv
      rcases hv with q | q
      · exact sv k q
      · exact ev (k - e) k (by omega) hk
  have se : s < e := by
    rcases Nat.lt_or_ge s e with q | q
    · exact q
    exfalso
    have q1 : s = m := by omega
    have q2 : e = m := by omega
    have a := sv (m - 1) (by omega)
    have b := ev 0 m (by omega) m1.1
    rw [show m - 1 + 1 = m from by omega] at a
    have d := dec (m - 1) (by omega)
    rw [show m - 1 + 1 = m from by omega] at d
    exact nb m mpos m1.1 d m1.2 a b
  have ne : n - (n - e) = e := by omega
  refine ⟨s, n - e, ?_, ?_, by omega, ?_, ?_⟩
  · intro k hk; rw [ne]; exact hvis k hk
  · rcases some with q | q
    · have := (hvis 0 (by omega)).1 q; omega
    · have := (hvis (n - 1) (by omega)).1 q; omega
  · -- where p goes on
    have key : ∀ w v y, V w → V v → V y → w ≠ v → v ≠ y → w ≠ y → (∀ x, V x → 0 ≤ le3 X Y w v x) → (∀ x, V x → 0 ≤ le3 X Y v y x) → (le3 X Y w v y = 0 → ¬ btw X Y w v y) → (le3 X Y v y w = 0 → ¬ btw X Y v y w) → le3 X Y w v p < 0 → 0 ≤ le3 X Y v y p → ∀ x, V x → 0 ≤ le3 X Y p v x := by
      intro w v y vw vv vy n1 n2 n3 c1 c2 d1 d2 p1 p2 x vx
      have i : le3 X Y w v y * le3 X Y p v x = le3 X Y w v x * le3 X Y v y p - le3 X Y w v p * le3 X Y v y x := by unfold le3 lo; grind
      have z := c1 y vy
      rcases Int.lt_or_le 0 (le3 X Y w v y) with q | q
      · have q1 := Int.mul_nonneg (c1 x vx) p2
        have q2 := Int.mul_nonpos_of_nonpos_of_nonneg (Int.le_of_lt p1) (c2 x vx)
        exact ge_nn q (by omega)
      · exfalso
        have f1 : le3 X Y v w y = -le3 X Y w v y := by unfold le3 lo; grind
        have f2 : le3 X Y v w p = -le3 X Y w v p := by unfold le3 lo; grind
        have f3 : le3 X Y v y w = le3 X Y w v y := by unfold le3 lo; grind
        rcases bef_V hap vv vw n1.symm with a | a <;> rcases bef_V hap vv vy n2 with b | b
        · exact spike hap vw vv vy n1 n2 n3 (Or.inl ⟨a, b⟩) (d1 (by omega)) (d2 (by omega))
        · have := (col_o (Or.inl ⟨a, b⟩) (by omega) p).1 (by omega); omega
        · have := (col_o (Or.inr ⟨a, b⟩) (by omega) p).1 (by omega); omega
        · exact spike hap vw vv vy n1 n2 n3 (Or.inr ⟨a, b⟩) (d1 (by omega)) (d2 (by omega))
    have hk2 : 0 ≤ le3 X Y (r s) (r (s + 1)) p := by
      rcases Int.lt_or_le (le3 X Y (r s) (r (s + 1)) p) 0 with q | q
      · have := (hvis s (by omega)).1 q; omega
      · exact q
    by_cases q : s = 0
    · have a1 := b0 (n - 1) (by omega); have a2 := b1 (n - 1) (by omega); have a3 := b2 (n - 1) (by omega)
      have a4 := (hvis (n - 1) (by omega)).2 (Or.inr (by rcases some with z | z; have := (hvis 0 (by omega)).1 z; omega; have := (hvis (n - 1) (by omega)).1 z; omega))
      rw [show n - 1 + 1 = n from by omega, hrn] at a1 a2 a3 a4
      rw [q] at hk2 ⊢
      exact key _ _ _ a1.1 a1.2.1 (b0 0 (by omega)).2.1 a1.2.2 (b0 0 (by omega)).2.2 neL a2 (b1 0 (by omega)) (a3 _ (b0 0 (by omega)).2.1) (b2 0 (by omega) _ a1.1) a4 hk2
    · have a1 := b0 (s - 1) (by omega); have a2 := b1 (s - 1) (by omega); have a3 := b2 (s - 1) (by omega)
      have a4 := sv (s - 1) (by omega)
      rw [show s - 1 + 1 = s from by omega] at a1 a2 a3 a4
      exact key _ _ _ a1.1 a1.2.1 (b0 s (by omega)).2.1 a1.2.2 (b0 s (by omega)).2.2 (ne2 s (by omega) (by omega)) a2 (b1 s (by omega)) (a3 _ (b0 s (by omega)).2.1) (b2 s (by omega) _ a1.1) a4 hk2
  · -- where p comes from
    rw [ne]
    have key : ∀ w v y, V w → V v → V y → w ≠ v → v ≠ y → w ≠ y → (∀ x, V x → 0 ≤ le3 X Y w v x) → (∀ x, V x → 0 ≤ le3 X Y v y x) → (le3 X Y w v y = 0 → ¬ btw X Y w v y) → (le3 X Y v y w = 0 → ¬ btw X Y v y w) → 0 ≤ le3 X Y w v p → le3 X Y v y p < 0 → ∀ x, V x → 0 ≤ le3 X Y v p x := by
      intro w v y vw vv vy n1 n2 n3 c1 c2 d1 d2 p1 p2 x vx
      have i : le3 X Y w v y * le3 X Y v p x = le3 X Y w v p * le3 X Y v y x - le3 X Y v y p * le3 X Y w v x := by unfold le3 lo; grind
      have z := c1 y vy
      rcases Int.lt_or_le 0 (le3 X Y w v y) with q | q
      · have q1 := Int.mul_nonneg p1 (c2 x vx)
        have q2 := Int.mul_nonpos_of_nonpos_of_nonneg (Int.le_of_lt p2) (c1 x vx)
        exact ge_nn q (by omega)
      · exfalso
        have f1 : le3 X Y v y w = le3 X Y w v y := by unfold le3 lo; grind
        have f2 : le3 X Y v w p = -le3 X Y w v p := by unfold le3 lo; grind
        rcases bef_V hap vv vw n1.symm with a | a <;> rcases bef_V hap vv vy n2 with b | b
        · exact spike hap vw vv vy n1 n2 n3 (Or.inl ⟨a, b⟩) (d1 (by omega)) (d2 (by omega))
        · have := (col_o (Or.inr ⟨b, a⟩) (show le3 X Y v y w = 0 by omega) p).2 p2; omega
        · have := (col_o (Or.inl ⟨b, a⟩) (show le3 X Y v y w = 0 by omega) p).2 p2; omega
        · exact spike hap vw vv vy n1 n2 n3 (Or.inr ⟨a, b⟩) (d1 (by omega)) (d2 (by omega))
    have a1 := b0 (e - 1) (by omega); have a2 := b1 (e - 1) (by omega); have a3 := b2 (e - 1) (by omega)
    have a4 : 0 ≤ le3 X Y (r (e - 1)) (r (e - 1 + 1)) p := by
      rcases Int.lt_or_le (le3 X Y (r (e - 1)) (r (e - 1 + 1)) p) 0 with q | q
      · have := (hvis (e - 1) (by omega)).1 q; omega
      · exact q
    rw [show e - 1 + 1 = e from by omega] at a1 a2 a3 a4
    by_cases q : e = n
    · have a5 := (hvis 0 (by omega)).2 (Or.inl (by rcases some with z | z; have := (hvis 0 (by omega)).1 z; omega; have := (hvis (n - 1) (by omega)).1 z; omega))
      rw [q] at a1 a2 a3 a4 ⊢
      rw [hrn] at a1 a2 a3 a4 ⊢
      exact key _ _ _ a1.1 a1.2.1 (b0 0 (by omega)).2.1 a1.2.2 (b0 0 (by omega)).2.2 neL a2 (b1 0 (by omega)) (a3 _ (b0 0 (by omega)).2.1) (b2 0 (by omega) _ a1.1) a4 a5
    · have a5 := ev 0 e (by omega) (by omega)
      exact key _ _ _ a1.1 a1.2.1 (b0 e (by omega)).2.1 a1.2.2 (b0 e (by omega)).2.2 (ne2 e (by omega) (by omega)) a2 (b1 e (by omega)) (a3 _ (b0 e (by omega)).2.1) (b2 e (by omega) _ a1.1) a4 a5
theorem nwr_inj {r : Nat → Nat} {n s j p : Nat} (hin : inj r n) (hrn : r n = r 0) (hn : ∀ k, k ≤ n → r k ≠ p) (h1 : 1 ≤ s + j) (h2 : s + j < n) : inj (nwr r n s j p) (n - j - s + 2) := by
  intro a b ha hb e
  unfold nwr at e
  have r0 : ∀ x y, x ≤ n → y ≤ n → r x = r y → x ≠ y → (x = 0 ∧ y = n) ∨ (x = n ∧ y = 0) := by
    intro x y hx hy hxy hne
    by_cases q1 : x = n
    · by_cases q2 : y = n
      · omega
      · rw [q1, hrn] at hxy; have := hin _ _ (by omega) (by omega) hxy; omega
    · by_cases q2 : y = n
      · rw [q2, hrn] at hxy; have := hin _ _ (by omega) (by omega) hxy; omega
      · have := hin _ _ (by omega) (by omega) hxy; omega
  by_cases a0 : a = 0
  · by_cases c0 : b = 0
    · omega
    · rw [if_pos a0, if_neg c0, if_pos (by omega)] at e
      exact (hn _ (by omega) e.symm).elim
  · by_cases c0 : b = 0
    · rw [if_neg a0, if_pos (by omega), if_pos c0] at e
      exact (hn _ (by omega) e).elim
    · rw [if_neg a0, if_pos (by omega), if_neg c0, if_pos (by omega)] at e
      by_cases q : a = b
      · exact q
      · have := r0 _ _ (by omega) (by omega) e (by omega); omega
end VIS
