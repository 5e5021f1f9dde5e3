/-! the plane: turns, half planes, triangles (X, Y any ints) -/
theorem ge_pos {a b : Int} (ha : 0 < a) (h : 0 < a * b) : 0 < b := by
  rcases Int.lt_or_le 0 b with q | q
  · exact q
  · have := Int.mul_nonpos_of_nonneg_of_nonpos (Int.le_of_lt ha) q; omega
theorem ge_nn {a b : Int} (ha : 0 < a) (h : 0 ≤ a * b) : 0 ≤ b := by
  rcases Int.lt_or_le b 0 with q | q
  · have := Int.mul_neg_of_pos_of_neg ha q; omega
  · exact q
theorem ge_np {a b : Int} (ha : 0 < a) (h : a * b ≤ 0) : b ≤ 0 := by
  rcases Int.lt_or_le 0 b with q | q
  · have := Int.mul_pos ha q; omega
  · exact q
theorem ge_ng {a b : Int} (ha : 0 < a) (h : a * b < 0) : b < 0 := by
  rcases Int.lt_or_le b 0 with q | q
  · exact q
  · have := Int.mul_nonneg (Int.le_of_lt ha) q; omega
theorem ge_z {a b : Int} (ha : 0 < a) (h : a * b = 0) : b = 0 := by
  have h1 := ge_nn (b := b) ha (by omega); have h2 := ge_np (b := b) ha (by omega); omega
def cr (a b c d : Int) : Int := a * d - b * c
def lxp (a b : Int) : Prop := 0 < a ∨ (a = 0 ∧ 0 < b)
def lx0 (a b : Int) : Prop := 0 < a ∨ (a = 0 ∧ 0 ≤ b)
theorem lxp_lx0 {a b : Int} (h : lxp a b) : lx0 a b := by unfold lxp at h; unfold lx0; omega
theorem cr_id (a b c d e f g h : Int) : cr a b c d * cr e f g h = cr a b e f * cr c d g h - cr a b g h * cr c d e f := by unfold cr; grind
theorem cr_sw (a b c d : Int) : cr c d a b = -cr a b c d := by unfold cr; grind
/-- a, b, c in one half plane, b behind a, c behind b -/
theorem cr_tr {a b c d e f : Int} (ha : lx0 a b) (hb : lxp c d) (hc : lx0 e f) (h1 : 0 ≤ cr a b c d) (h2 : 0 ≤ cr c d e f) : 0 ≤ cr a b e f := by
  have i1 : c * cr a b e f = a * cr c d e f + e * cr a b c d := by unfold cr; grind
  have i2 : d * cr a b e f = b * cr c d e f + f * cr a b c d := by unfold cr; grind
  have a0 : 0 ≤ a := by unfold lx0 at ha; omega
  have e0 : 0 ≤ e := by unfold lx0 at hc; omega
  rcases hb with hb | ⟨hb, hd⟩
  · have p1 := Int.mul_nonneg a0 h2; have p2 := Int.mul_nonneg e0 h1
    exact ge_nn hb (by omega)
  · subst hb
    have q1 : cr a b 0 d = d * a := by unfold cr; grind
    have q2 : cr 0 d e f = -(d * e) := by unfold cr; grind
    have q3 := ge_np hd (b := e) (by omega)
    have q4 : e = 0 := by omega
    subst q4
    have q5 : 0 ≤ f := by unfold lx0 at hc; omega
    have := Int.mul_nonneg a0 q5
    unfold cr; omega
theorem cr_tr1 {a b c d e f : Int} (ha : lx0 a b) (hb : lxp c d) (hc : lxp e f) (h1 : 0 < cr a b c d) (h2 : 0 ≤ cr c d e f) : 0 < cr a b e f := by
  have i1 : c * cr a b e f = a * cr c d e f + e * cr a b c d := by unfold cr; grind
  have i2 : d * cr a b e f = b * cr c d e f + f * cr a b c d := by unfold cr; grind
  have a0 : 0 ≤ a := by unfold lx0 at ha; omega
  have e0 : 0 ≤ e := by unfold lxp at hc; omega
  rcases hb with hb | ⟨hb, hd⟩
  · have p1 := Int.mul_nonneg a0 h2
    rcases hc with hc | ⟨hc, hf⟩
    · have p2 := Int.mul_pos hc h1
      exact ge_pos hb (by omega)
    · subst hc
      have q : cr c d 0 f = c * f := by unfold cr; grind
      have q2 := Int.mul_pos hb hf
      rcases Int.lt_or_le 0 a with z | z
      · have := Int.mul_pos z (show 0 < cr c d 0 f by omega)
        exact ge_pos hb (by omega)
      · have z0 : a = 0 := by omega
        subst z0
        have b0 : 0 ≤ b := by unfold lx0 at ha; omega
        have q3 : cr 0 b c d = -(b * c) := by unfold cr; grind
        have := Int.mul_nonneg b0 (Int.le_of_lt hb)
        omega
  · subst hb
    have q1 : cr a b 0 d = d * a := by unfold cr; grind
    have q2 : cr 0 d e f = -(d * e) := by unfold cr; grind
    have q3 := ge_np hd (b := e) (by omega)
    have q4 : e = 0 := by omega
    subst q4
    have q5 : 0 < f := by unfold lxp at hc; omega
    have q6 := ge_pos hd (b := a) (by omega)
    have := Int.mul_pos q6 q5
    unfold cr; omega
theorem cr_tr2 {a b c d e f : Int} (ha : lxp a b) (hb : lxp c d) (hc : lx0 e f) (h1 : 0 ≤ cr a b c d) (h2 : 0 < cr c d e f) : 0 < cr a b e f := by
  have h3 := cr_tr1 (a := e) (b := -f) (c := c) (d := -d) (e := a) (f := -b)
  have a0 : 0 ≤ a := by unfold lxp at ha; omega
  have e0 : 0 ≤ e := by unfold lx0 at hc; omega
  have i1 : c * cr a b e f = a * cr c d e f + e * cr a b c d := by unfold cr; grind
  rcases hb with hb | ⟨hb, hd⟩
  · have p2 := Int.mul_nonneg e0 h1
    rcases ha with ha | ⟨ha, hf⟩
    · have p1 := Int.mul_pos ha h2
      exact ge_pos hb (by omega)
    · subst ha
      have q : cr 0 b c d = -(b * c) := by unfold cr; grind
      have := Int.mul_pos hf hb
      omega
  · subst hb
    have q2 : cr 0 d e f = -(d * e) := by unfold cr; grind
    have := ge_ng hd (b := e) (by omega)
    omega
section GEO
variable {X Y : Nat → Int}
theorem le3_cr (u a b : Nat) : le3 X Y u a b = cr (X a - X u) (Y a - Y u) (X b - X u) (Y b - Y u) := by unfold le3 lo cr; grind
theorem le3_cr2 (a u b : Nat) : le3 X Y a u b = cr (X u - X a) (Y u - Y a) (X b - X u) (Y b - Y u) := by unfold le3 lo cr; grind
theorem le3_sw (a b c : Nat) : le3 X Y b a c = -le3 X Y a b c := by unfold le3 lo; grind
theorem le3_rot2 (a b c : Nat) : le3 X Y c a b = le3 X Y a b c := by unfold le3 lo; grind
theorem le3_aa (a b : Nat) : le3 X Y a a b = 0 := by unfold le3 lo; grind
theorem le3_ab (a b : Nat) : le3 X Y a b a = 0 := by unfold le3 lo; grind
theorem le3_bb (a b : Nat) : le3 X Y a b b = 0 := by unfold le3 lo; grind
theorem le3_sum (a b c r : Nat) : le3 X Y a b r + le3 X Y b c r + le3 X Y c a r = le3 X Y a b c := by unfold le3 lo; grind
/-- any straight measure at r, by the triangle a, b, c -/
theorem le3_in (a b c r u v : Nat) : le3 X Y a b c * le3 X Y u v r = le3 X Y b c r * le3 X Y u v a + le3 X Y c a r * le3 X Y u v b + le3 X Y a b r * le3 X Y u v c := by unfold le3 lo; grind
theorem le3_ne {a b c : Nat} (h : le3 X Y a b c ≠ 0) : a ≠ b ∧ b ≠ c ∧ a ≠ c := by
  refine ⟨?_, ?_, ?_⟩ <;> (intro z; subst z; apply h; unfold le3 lo; grind)
/-- a before b by x, then y -/
def bef (X Y : Nat → Int) (a b : Nat) : Prop := lxp (X b - X a) (Y b - Y a)
theorem ear_bef {a b : Nat} : ear X Y a b = true ↔ bef X Y a b := by
  unfold ear bef lxp
  simp only [Bool.or_eq_true, Bool.and_eq_true, decide_eq_true_eq]
  omega
theorem bef_tr {a b c : Nat} (h1 : bef X Y a b) (h2 : bef X Y b c) : bef X Y a c := by unfold bef lxp at *; omega
theorem bef_ir {a : Nat} : ¬ bef X Y a a := by unfold bef lxp; omega
theorem bef_as {a b : Nat} (h1 : bef X Y a b) : ¬ bef X Y b a := by unfold bef lxp at *; omega
theorem bef_tot {a b : Nat} (h : ¬ (X a = X b ∧ Y a = Y b)) : bef X Y a b ∨ bef X Y b a := by unfold bef lxp; omega
/-- a point within a closed triangle of points before p is before p -/
theorem bef_tri {a b c r p : Nat} (h : 0 < le3 X Y a b c) (h1 : 0 ≤ le3 X Y a b r) (h2 : 0 ≤ le3 X Y b c r) (h3 : 0 ≤ le3 X Y c a r) (ha : bef X Y a p) (hb : bef X Y b p) (hc : bef X Y c p) : bef X Y r p := by
  have i1 : le3 X Y a b c * (X p - X r) = le3 X Y b c r * (X p - X a) + le3 X Y c a r * (X p - X b) + le3 X Y a b r * (X p - X c) := by unfold le3 lo; grind
  have i2 : le3 X Y a b c * (Y p - Y r) = le3 X Y b c r * (Y p - Y a) + le3 X Y c a r * (Y p - Y b) + le3 X Y a b r * (Y p - Y c) := by unfold le3 lo; grind
  have i3 := le3_sum (X := X) (Y := Y) a b c r
  have a0 : 0 ≤ X p - X a := by unfold bef lxp at ha; omega
  have b0 : 0 ≤ X p - X b := by unfold bef lxp at hb; omega
  have c0 : 0 ≤ X p - X c := by unfold bef lxp at hc; omega
  have m1 := Int.mul_nonneg h2 a0
  have m2 := Int.mul_nonneg h3 b0
  have m3 := Int.mul_nonneg h1 c0
  have x0 := ge_nn h (b := X p - X r) (by omega)
  rcases Int.lt_or_le 0 (X p - X r) with q | q
  · exact Or.inl q
  · refine Or.inr ⟨by omega, ge_pos h ?_⟩
    have xe : X p - X r = 0 := by omega
    rw [xe, Int.mul_zero] at i1
    have n1 : 0 ≤ le3 X Y b c r * (Y p - Y a) := by
      rcases Int.lt_or_le 0 (X p - X a) with z | z
      · rw [ge_z z (b := le3 X Y b c r) (by rw [Int.mul_comm]; omega), Int.zero_mul]; omega
      · exact Int.mul_nonneg h2 (by unfold bef lxp at ha; omega)
    have n2 : 0 ≤ le3 X Y c a r * (Y p - Y b) := by
      rcases Int.lt_or_le 0 (X p - X b) with z | z
      · rw [ge_z z (b := le3 X Y c a r) (by rw [Int.mul_comm]; omega), Int.zero_mul]; omega
      · exact Int.mul_nonneg h3 (by unfold bef lxp at hb; omega)
    have n3 : 0 ≤ le3 X Y a b r * (Y p - Y c) := by
      rcases Int.lt_or_le 0 (X p - X c) with z | z
      · rw [ge_z z (b := le3 X Y a b r) (by rw [Int.mul_comm]; omega), Int.zero_mul]; omega
      · exact Int.mul_nonneg h1 (by unfold bef lxp at hc; omega)
    have hz : ∀ (u : Int) (q : Nat), 0 ≤ u → bef X Y q p → u * (X p - X q) = 0 → u * (Y p - Y q) = 0 → u = 0 := by
      intro u q hu hq e1 e2
      rcases hq with z | ⟨_, z⟩
      · exact ge_z z (by rw [Int.mul_comm]; exact e1)
      · exact ge_z z (by rw [Int.mul_comm]; exact e2)
    rcases Int.lt_or_le 0 (le3 X Y a b c * (Y p - Y r)) with w | w
    · exact w
    · have y1 := hz _ a h2 ha (by omega) (by omega)
      have y2 := hz _ b h3 hb (by omega) (by omega)
      have y3 := hz _ c h1 hc (by omega) (by omega)
      omega
end GEO
