/-! a drawing without a bad side is the one whose planes lie below all points -/
theorem mxq {P : Nat → Prop} {nu de : Nat → Int} (hd : ∀ k, P k → 0 < de k) : ∀ N : Nat, (∃ k, k < N ∧ P k) → ∃ k, k < N ∧ P k ∧ ∀ j, j < N → P j → nu j * de k ≤ nu k * de j := by
  intro N
  induction N with
  | zero => intro ⟨k, h, _⟩; omega
  | succ N ih =>
    intro hx
    by_cases h1 : ∃ k, k < N ∧ P k
    · obtain ⟨k, k1, k2, k3⟩ := ih h1
      by_cases h2 : P N
      · rcases Int.lt_or_le (nu k * de N) (nu N * de k) with q | q
        · refine ⟨N, by omega, h2, fun j hj pj => ?_⟩
          by_cases hjn : j = N
          · subst hjn; exact Int.le_refl _
          · have m := k3 j (by omega) pj
            have d1 := hd k k2; have d2 := hd N h2; have d3 := hd j pj
            have m1 := Int.mul_le_mul_of_nonneg_right m (Int.le_of_lt d2)
            have m2 := Int.mul_lt_mul_of_pos_right q d3
            have e1 : nu j * de k * de N = de k * (nu j * de N) := by grind
            have e2 : nu k * de j * de N = nu k * de N * de j := by grind
            have e3 : nu N * de k * de j = de k * (nu N * de j) := by grind
            rcases Int.lt_or_le (nu N * de j) (nu j * de N) with w | w
            · have := Int.mul_lt_mul_of_pos_left w d1; omega
            · exact w
        · refine ⟨k, by omega, k2, fun j hj pj => ?_⟩
          by_cases hjn : j = N
          · subst hjn; exact q
          · exact k3 j (by omega) pj
      · refine ⟨k, by omega, k2, fun j hj pj => k3 j ?_ pj⟩
        rcases Nat.lt_or_ge j N with w | w
        · exact w
        · have : j = N := by omega
          subst this; exact (h2 pj).elim
    · obtain ⟨k, k1, k2⟩ := hx
      have : k = N := by
        rcases Nat.lt_or_ge k N with w | w
        · exact (h1 ⟨k, w, k2⟩).elim
        · omega
      subst this
      refine ⟨k, by omega, k2, fun j hj pj => ?_⟩
      rcases Nat.lt_or_ge j k with w | w
      · exact (h1 ⟨j, w, pj⟩).elim
      · have : j = k := by omega
        subst this; exact Int.le_refl _
section DEL
variable {X Y h : Nat → Int} {V : Nat → Prop} {t : Nat → Nat → Nat → Prop}
theorem mxt (hV : tVA X Y V t) (h40 : ∀ a, V a → a < 40) (hx : ∃ a b c, t a b c) (nu : Nat → Nat → Nat → Int) : ∃ a b c, t a b c ∧ ∀ d e f, t d e f → nu d e f * le3 X Y a b c ≤ nu a b c * le3 X Y d e f := by
  have de : ∀ a b c, a < 40 → b < 40 → c < 40 → (a * 1600 + b * 40 + c) / 1600 = a ∧ (a * 1600 + b * 40 + c) / 40 % 40 = b ∧ (a * 1600 + b * 40 + c) % 40 = c := by intro a b c _ _ _; omega
  obtain ⟨a, b, c, ht⟩ := hx
  have z := hV _ _ _ ht
  have d := de a b c (h40 _ z.1) (h40 _ z.2.1) (h40 _ z.2.2.1)
  have l1 := h40 _ z.1; have l2 := h40 _ z.2.1; have l3 := h40 _ z.2.2.1
  obtain ⟨k, k1, k2, k3⟩ := mxq (P := fun k => t (k / 1600) (k / 40 % 40) (k % 40)) (nu := fun k => nu (k / 1600) (k / 40 % 40) (k % 40)) (de := fun k => le3 X Y (k / 1600) (k / 40 % 40) (k % 40)) (fun k hk => (hV _ _ _ hk).2.2.2) 64000 ⟨a * 1600 + b * 40 + c, by omega, by show t _ _ _; rw [d.1, d.2.1, d.2.2]; exact ht⟩
  refine ⟨_, _, _, k2, fun d e f hf => ?_⟩
  have z := hV _ _ _ hf
  have l1 := h40 _ z.1; have l2 := h40 _ z.2.1; have l3 := h40 _ z.2.2.1
  have q := de d e f l1 l2 l3
  have := k3 (d * 1600 + e * 40 + f) (by omega) (by show t _ _ _; rw [q.1, q.2.1, q.2.2]; exact hf)
  simp only [q.1, q.2.1, q.2.2] at this
  exact this
/-- no side is bad -/
def tL (X Y h : Nat → Int) (t : Nat → Nat → Nat → Prop) : Prop := ∀ a b p q, t a b p → t b a q → cnf X Y h a b p q ≤ 0
def tG (X Y h : Nat → Int) (V : Nat → Prop) : Prop := ∀ a b c d, V a → V b → V c → V d → le3 X Y a b c ≠ 0 → a ≠ d → b ≠ d → c ≠ d → cnf X Y h a b c d ≠ 0
theorem mx3 (hT : TI X Y V t) (hG : tG X Y h V) (hL : tL X Y h t) (h40 : ∀ a, V a → a < 40) (hx : ∃ a b c, t a b c) {x y z : Nat} (vx : V x) (vy : V y) (vz : V z) : ∃ a b c, t a b c ∧ 0 ≤ le3 X Y a b x + le3 X Y a b y + le3 X Y a b z ∧ 0 ≤ le3 X Y b c x + le3 X Y b c y + le3 X Y b c z ∧ 0 ≤ le3 X Y c a x + le3 X Y c a y + le3 X Y c a z ∧ ∀ d e f, t d e f → (cnf X Y h d e f x + cnf X Y h d e f y + cnf X Y h d e f z) * le3 X Y a b c ≤ (cnf X Y h a b c x + cnf X Y h a b c y + cnf X Y h a b c z) * le3 X Y d e f := by
  obtain ⟨hR, hV, hN, hS, hE1, hE2⟩ := hT
  obtain ⟨a, b, c, ht, hm⟩ := mxt hV h40 hx (fun d e f => cnf X Y h d e f x + cnf X Y h d e f y + cnf X Y h d e f z)
  have side : ∀ a b c, t a b c → (∀ d e f, t d e f → (cnf X Y h d e f x + cnf X Y h d e f y + cnf X Y h d e f z) * le3 X Y a b c ≤ (cnf X Y h a b c x + cnf X Y h a b c y + cnf X Y h a b c z) * le3 X Y d e f) → 0 ≤ le3 X Y a b x + le3 X Y a b y + le3 X Y a b z := by
    intro a b c ht hm
    rcases Int.lt_or_le (le3 X Y a b x + le3 X Y a b y + le3 X Y a b z) 0 with q | q
    · exfalso
      by_cases hq : ∃ q, t b a q
      · obtain ⟨w, hw⟩ := hq
        have m := hm _ _ _ hw
        have k := hL _ _ _ _ ht hw
        have va := hV _ _ _ ht; have vw := hV _ _ _ hw
        obtain ⟨n1, n2, n3⟩ := le3_ne (X := X) (Y := Y) (a := a) (b := b) (c := c) (by omega)
        obtain ⟨_, n5, n4⟩ := le3_ne (X := X) (Y := Y) (a := b) (b := a) (c := w) (by omega)
        have n6 : c ≠ w := by
          intro z; subst z
          rw [show le3 X Y b a c = -le3 X Y a b c from by unfold le3 lo; grind] at vw; omega
        have kn := hG _ _ _ _ va.1 va.2.1 va.2.2.1 vw.2.2.1 (by omega) n5 n4 n6
        have i1 := cnf_nb (X := X) (Y := Y) (h := h) a b c w x
        have i2 := cnf_nb (X := X) (Y := Y) (h := h) a b c w y
        have i3 := cnf_nb (X := X) (Y := Y) (h := h) a b c w z
        have m2 := Int.mul_pos_of_neg_of_neg (show cnf X Y h a b c w < 0 by omega) q
        simp only [Int.mul_add, Int.add_mul] at m m2
        have c1 := Int.mul_comm (cnf X Y h b a w x) (le3 X Y a b c)
        have c2 := Int.mul_comm (cnf X Y h b a w y) (le3 X Y a b c)
        have c3 := Int.mul_comm (cnf X Y h b a w z) (le3 X Y a b c)
        have c4 := Int.mul_comm (cnf X Y h a b c x) (le3 X Y b a w)
        have c5 := Int.mul_comm (cnf X Y h a b c y) (le3 X Y b a w)
        have c6 := Int.mul_comm (cnf X Y h a b c z) (le3 X Y b a w)
        omega
      · have hn : ∀ q, ¬ t b a q := fun q z => hq ⟨q, z⟩
        have r1 := hE2 _ _ _ ht hn x vx; have r2 := hE2 _ _ _ ht hn y vy; have r3 := hE2 _ _ _ ht hn z vz
        omega
    · exact q
  have e1 : le3 X Y b c a = le3 X Y a b c := by unfold le3 lo; grind
  have e2 : le3 X Y c a b = le3 X Y a b c := by unfold le3 lo; grind
  have s1 := side a b c ht hm
  have s2 := side b c a (hR _ _ _ ht) (by intro d e f hf; rw [e1, cnf_rot a b c x, cnf_rot a b c y, cnf_rot a b c z]; exact hm d e f hf)
  have s3 := side c a b (hR _ _ _ (hR _ _ _ ht)) (by intro d e f hf; rw [e2, ← cnf_rot c a b x, ← cnf_rot c a b y, ← cnf_rot c a b z]; exact hm d e f hf)
  exact ⟨a, b, c, ht, s1, s2, s3, hm⟩
theorem del_glo (hT : TI X Y V t) (hG : tG X Y h V) (hL : tL X Y h t) (h40 : ∀ a, V a → a < 40) (hx : ∃ a b c, t a b c) {d e f r : Nat} (hd : t d e f) (hr : V r) : cnf X Y h d e f r ≤ 0 := by
  obtain ⟨a, b, c, ht, s1, s2, s3, hm⟩ := mx3 hT hG hL h40 hx hr hr hr
  obtain ⟨hR, hV, hN, hS, hE1, hE2⟩ := hT
  have z : cnf X Y h a b c r = 0 := by
    rcases hE1 _ _ _ r ht hr (by omega) (by omega) (by omega) with q | q | q
    · subst q; exact cnf_a _ _ _
    · subst q; exact cnf_b _ _ _
    · subst q; exact cnf_c _ _ _
  have m := hm _ _ _ hd
  rw [z] at m
  simp only [Int.add_zero, Int.zero_mul, Int.add_mul] at m
  have A := (hV _ _ _ ht).2.2.2
  exact ge_np A (by rw [Int.mul_comm]; omega)
theorem del_uni (hT : TI X Y V t) (hG : tG X Y h V) (hL : tL X Y h t) (h40 : ∀ a, V a → a < 40) (hx : ∃ a b c, t a b c) {a b c : Nat} (va : V a) (vb : V b) (vc : V c) (hA : 0 < le3 X Y a b c) (he : ∀ d, V d → cnf X Y h a b c d ≤ 0) : t a b c := by
  obtain ⟨u, v, w, ht, s1, s2, s3, hm⟩ := mx3 hT hG hL h40 hx va vb vc
  have g := fun r hr => del_glo hT hG hL h40 hx ht (r := r) hr
  obtain ⟨hR, hV, hN, hS, hE1, hE2⟩ := hT
  have vv := hV _ _ _ ht
  have i := cnf_id3 (X := X) (Y := Y) (h := h) a b c u v w
  have m1 := Int.mul_nonpos_of_nonneg_of_nonpos s2 (he u vv.1)
  have m2 := Int.mul_nonpos_of_nonneg_of_nonpos s3 (he v vv.2.1)
  have m3 := Int.mul_nonpos_of_nonneg_of_nonpos s1 (he w vv.2.2.1)
  have ga := g a va; have gb := g b vb; have gc := g c vc
  have m4 := ge_nn hA (b := cnf X Y h u v w a + cnf X Y h u v w b + cnf X Y h u v w c) (by omega)
  have mem : ∀ r, V r → cnf X Y h u v w r = 0 → r = u ∨ r = v ∨ r = w := by
    intro r vr z
    by_cases q1 : u = r
    · exact Or.inl q1.symm
    by_cases q2 : v = r
    · exact Or.inr (Or.inl q2.symm)
    by_cases q3 : w = r
    · exact Or.inr (Or.inr q3.symm)
    exact (hG _ _ _ _ vv.1 vv.2.1 vv.2.2.1 vr (by omega) q1 q2 q3 z).elim
  obtain ⟨n1, n2, n3⟩ := le3_ne (X := X) (Y := Y) (a := a) (b := b) (c := c) (by omega)
  have ht2 := hR _ _ _ ht; have ht3 := hR _ _ _ ht2
  have o1 : le3 X Y u w v = -le3 X Y u v w := by unfold le3 lo; grind
  have o2 : le3 X Y v u w = -le3 X Y u v w := by unfold le3 lo; grind
  have o3 : le3 X Y w v u = -le3 X Y u v w := by unfold le3 lo; grind
  rcases mem a va (by omega) with rfl | rfl | rfl <;> rcases mem b vb (by omega) with rfl | rfl | rfl <;> rcases mem c vc (by omega) with rfl | rfl | rfl <;> first | exact ht | exact ht2 | exact ht3 | omega
end DEL
