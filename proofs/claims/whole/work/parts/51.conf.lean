/-! heights, and a point below the plane of a triangle -/
def cnf (X Y h : Nat → Int) (a b c d : Nat) : Int := h a * le3 X Y b c d + h b * le3 X Y c a d + h c * le3 X Y a b d - h d * le3 X Y a b c
section CONF
variable {X Y h : Nat → Int}
theorem cnf_rot (a b c d : Nat) : cnf X Y h b c a d = cnf X Y h a b c d := by unfold cnf le3 lo; grind
theorem cnf_sw (a b c d : Nat) : cnf X Y h b a c d = -cnf X Y h a b c d := by unfold cnf le3 lo; grind
theorem cnf_sd (a b c d : Nat) : cnf X Y h a b d c = -cnf X Y h a b c d := by unfold cnf le3 lo; grind
theorem cnf_da (a b c d : Nat) : cnf X Y h d b c a = -cnf X Y h a b c d := by unfold cnf le3 lo; grind
theorem cnf_a (a b c : Nat) : cnf X Y h a b c a = 0 := by unfold cnf le3 lo; grind
theorem cnf_b (a b c : Nat) : cnf X Y h a b c b = 0 := by unfold cnf le3 lo; grind
theorem cnf_c (a b c : Nat) : cnf X Y h a b c c = 0 := by unfold cnf le3 lo; grind
/-- two triangles on both sides of u, v: their planes at x -/
theorem cnf_nb (u v w q x : Nat) : le3 X Y u v w * cnf X Y h v u q x - le3 X Y v u q * cnf X Y h u v w x = cnf X Y h u v w q * le3 X Y u v x := by unfold cnf le3 lo; grind
/-- two triangles on one side of u, v -/
theorem cnf_sm (u v w q x : Nat) : le3 X Y u v q * cnf X Y h u v w x - le3 X Y u v w * cnf X Y h u v q x = cnf X Y h u v w q * le3 X Y u v x := by unfold cnf le3 lo; grind
theorem cnf_id (a b c u v w : Nat) : le3 X Y v w a * cnf X Y h a b c u + le3 X Y w u a * cnf X Y h a b c v + le3 X Y u v a * cnf X Y h a b c w + le3 X Y a b c * cnf X Y h u v w a = 0 := by
  have e1 := le3_in (X := X) (Y := Y) u v w a b c
  have e2 := le3_in (X := X) (Y := Y) u v w a c a
  have e3 := le3_in (X := X) (Y := Y) u v w a a b
  have e4 : le3 X Y b c a = le3 X Y a b c := by unfold le3 lo; grind
  have e5 : le3 X Y c a a = 0 := by unfold le3 lo; grind
  have e6 : le3 X Y a b a = 0 := by unfold le3 lo; grind
  rw [e4] at e1; rw [e5] at e2; rw [e6] at e3
  unfold cnf
  generalize le3 X Y u v w = d1 at *
  generalize le3 X Y a b c = d2 at *
  generalize le3 X Y v w a = d3 at *
  generalize le3 X Y w u a = d4 at *
  generalize le3 X Y u v a = d5 at *
  generalize le3 X Y b c u = d6 at *
  generalize le3 X Y b c v = d7 at *
  generalize le3 X Y b c w = d8 at *
  generalize le3 X Y c a u = d9 at *
  generalize le3 X Y c a v = d10 at *
  generalize le3 X Y c a w = d11 at *
  generalize le3 X Y a b u = d12 at *
  generalize le3 X Y a b v = d13 at *
  generalize le3 X Y a b w = d14 at *
  generalize h a = ha at *
  generalize h b = hb at *
  generalize h c = hc at *
  generalize h u = hu at *
  generalize h v = hv at *
  generalize h w = hw at *
  grind
theorem cnf_id3 (a b c u v w : Nat) : (le3 X Y v w a + le3 X Y v w b + le3 X Y v w c) * cnf X Y h a b c u + (le3 X Y w u a + le3 X Y w u b + le3 X Y w u c) * cnf X Y h a b c v + (le3 X Y u v a + le3 X Y u v b + le3 X Y u v c) * cnf X Y h a b c w + le3 X Y a b c * (cnf X Y h u v w a + cnf X Y h u v w b + cnf X Y h u v w c) = 0 := by
  have e1 := cnf_id (X := X) (Y := Y) (h := h) a b c u v w
  have e2 := cnf_id (X := X) (Y := Y) (h := h) b c a u v w
  have e3 := cnf_id (X := X) (Y := Y) (h := h) c a b u v w
  rw [cnf_rot a b c u, cnf_rot a b c v, cnf_rot a b c w] at e2
  rw [← cnf_rot c a b u, ← cnf_rot c a b v, ← cnf_rot c a b w] at e3
  rw [show le3 X Y b c a = le3 X Y a b c from by unfold le3 lo; grind] at e2
  rw [show le3 X Y c a b = le3 X Y a b c from by unfold le3 lo; grind] at e3
  generalize le3 X Y a b c = d at *
  generalize cnf X Y h a b c u = c1 at *
  generalize cnf X Y h a b c v = c2 at *
  generalize cnf X Y h a b c w = c3 at *
  generalize cnf X Y h u v w a = c4 at *
  generalize cnf X Y h u v w b = c5 at *
  generalize cnf X Y h u v w c = c6 at *
  grind
/-- every point of V lies below each plane of others around it -/
def cvx (X Y h : Nat → Int) (V : Nat → Prop) : Prop := ∀ a b c d, V a → V b → V c → V d → 0 < le3 X Y a b c → 0 ≤ le3 X Y a b d → 0 ≤ le3 X Y b c d → 0 ≤ le3 X Y c a d → d ≠ a → d ≠ b → d ≠ c → 0 < cnf X Y h a b c d
/-- a point in the cone across from a -/
theorem cnf_opp {V : Nat → Prop} (hc : cvx X Y h V) {a b c r : Nat} (ha : V a) (hb : V b) (hcc : V c) (hr : V r) (ht : 0 < le3 X Y a b c) (h1 : le3 X Y a b r ≤ 0) (h2 : le3 X Y c a r ≤ 0) (hne : r ≠ a) : cnf X Y h a b c r < 0 := by
  have s := le3_sum (X := X) (Y := Y) a b c r
  have e1 : le3 X Y r b c = le3 X Y b c r := by unfold le3 lo; grind
  have e2 : le3 X Y r b a = -le3 X Y a b r := by unfold le3 lo; grind
  have e3 : le3 X Y c r a = -le3 X Y c a r := by unfold le3 lo; grind
  have e4 : le3 X Y b c a = le3 X Y a b c := by unfold le3 lo; grind
  have n := le3_ne (X := X) (Y := Y) (a := a) (b := b) (c := c) (by omega)
  have := hc r b c a hr hb hcc ha (by omega) (by omega) (by omega) (by omega) (fun z => hne z.symm) n.1 n.2.2
  have e5 := cnf_da (X := X) (Y := Y) (h := h) a b c r
  omega
/-- a bad side may be flipped -/
theorem bad_may {V : Nat → Prop} (hc : cvx X Y h V) {a b p q : Nat} (ha : V a) (hb : V b) (hp : V p) (hq : V q) (h1 : 0 < le3 X Y a b p) (h2 : le3 X Y a b q < 0) (hk : 0 < cnf X Y h a b p q) : 0 < le3 X Y p a q ∧ 0 < le3 X Y b p q := by
  have n := le3_ne (X := X) (Y := Y) (a := a) (b := b) (c := q) (by omega)
  constructor
  · rcases Int.lt_or_le 0 (le3 X Y p a q) with z | z
    · exact z
    · have := cnf_opp hc ha hb hp hq h1 (by omega) z (fun y => n.2.2 y.symm); omega
  · rcases Int.lt_or_le 0 (le3 X Y b p q) with z | z
    · exact z
    · have e : le3 X Y b p a = le3 X Y a b p := by unfold le3 lo; grind
      have := cnf_opp hc hb hp ha hq (by omega) z (by omega) (fun y => n.2.1 y.symm)
      rw [cnf_rot] at this; omega
/-- a flip of a bad side: how many of the planes lie above r -/
def above (X Y h : Nat → Int) (a b c r : Nat) : Nat := if 0 < cnf X Y h a b c r then 1 else 0
theorem flip_r {V : Nat → Prop} (hc : cvx X Y h V) {a b p q r : Nat} (ha : V a) (hb : V b) (hp : V p) (hq : V q) (hr : V r) (h1 : 0 < le3 X Y a b p) (h2 : 0 < le3 X Y b a q) (h3 : 0 < le3 X Y a q p) (h4 : 0 < le3 X Y b p q) (hk : 0 < cnf X Y h a b p q) : above X Y h a q p r + above X Y h b p q r ≤ above X Y h a b p r + above X Y h b a q r := by
  have k2 : cnf X Y h b a q p = cnf X Y h a b p q := by unfold cnf le3 lo; grind
  -- t and s on one side of p, a; t and s' of b, p; t' and s of a, q; t' and s' of q, b
  have i1 : le3 X Y a q p * cnf X Y h a b p r - le3 X Y a b p * cnf X Y h a q p r = cnf X Y h a b p q * le3 X Y p a r := by unfold cnf le3 lo; grind
  have i2 : le3 X Y b p q * cnf X Y h a b p r - le3 X Y a b p * cnf X Y h b p q r = cnf X Y h a b p q * le3 X Y b p r := by unfold cnf le3 lo; grind
  have i3 : le3 X Y a q p * cnf X Y h b a q r - le3 X Y b a q * cnf X Y h a q p r = cnf X Y h a b p q * le3 X Y a q r := by unfold cnf le3 lo; grind
  have i4 : le3 X Y b p q * cnf X Y h b a q r - le3 X Y b a q * cnf X Y h b p q r = cnf X Y h a b p q * le3 X Y q b r := by unfold cnf le3 lo; grind
  have L : ∀ {A B C D K L : Int}, 0 < A → 0 < C → 0 < D → 0 < K → A * B - C * D = K * L → 0 ≤ L → 0 < B := by
    intro A B C D K L hA hC hD hK e hL
    have m1 := Int.mul_pos hC hD
    have m2 := Int.mul_nonneg (Int.le_of_lt hK) hL
    exact ge_pos hA (by omega)
  have r1 : le3 X Y q p r = -le3 X Y p q r := by unfold le3 lo; grind
  have e1 : le3 X Y q p a = le3 X Y a q p := by unfold le3 lo; grind
  have e2 : le3 X Y p a q = le3 X Y a q p := by unfold le3 lo; grind
  have e3 : le3 X Y p q b = le3 X Y b p q := by unfold le3 lo; grind
  have e4 : le3 X Y q b p = le3 X Y b p q := by unfold le3 lo; grind
  by_cases hra : r = a
  · subst hra
    have z1 : cnf X Y h r q p r = 0 := cnf_a _ _ _
    have z2 : cnf X Y h b p q r = -cnf X Y h r b p q := by unfold cnf le3 lo; grind
    unfold above; rw [if_neg (by omega), if_neg (by omega)]; omega
  by_cases hrb : r = b
  · subst hrb
    have z1 : cnf X Y h r p q r = 0 := cnf_a _ _ _
    have z2 : cnf X Y h a q p r = -cnf X Y h a r p q := by unfold cnf le3 lo; grind
    unfold above; rw [if_neg (by omega), if_neg (by omega)]; omega
  by_cases hrp : r = p
  · subst hrp
    have z1 : cnf X Y h a q r r = 0 := cnf_c _ _ _
    have z2 : cnf X Y h b r q r = 0 := cnf_b _ _ _
    unfold above; rw [if_neg (by omega), if_neg (by omega)]; omega
  by_cases hrq : r = q
  · subst hrq
    have z1 : cnf X Y h a r p r = 0 := cnf_b _ _ _
    have z2 : cnf X Y h b p r r = 0 := cnf_c _ _ _
    unfold above; rw [if_neg (by omega), if_neg (by omega)]; omega
  -- the cones
  have oa := fun x y => cnf_opp hc ha hq hp hr h3 x y hra
  have op := fun x y => cnf_opp hc hp ha hq hr (by omega) x y hrp
  have oq := fun x y => cnf_opp hc hq hp ha hr (by omega) x y hrq
  have ob' := fun x y => cnf_opp hc hb hp hq hr h4 x y hrb
  have op' := fun x y => cnf_opp hc hp hq hb hr (by omega) x y hrp
  have oq' := fun x y => cnf_opp hc hq hb hp hr (by omega) x y hrq
  rw [show cnf X Y h p a q r = cnf X Y h a q p r from by unfold cnf le3 lo; grind] at op
  rw [show cnf X Y h q p a r = cnf X Y h a q p r from by unfold cnf le3 lo; grind] at oq
  rw [show cnf X Y h p q b r = cnf X Y h b p q r from by unfold cnf le3 lo; grind] at op'
  rw [show cnf X Y h q b p r = cnf X Y h b p q r from by unfold cnf le3 lo; grind] at oq'
  by_cases c1 : 0 < cnf X Y h a q p r
  · by_cases c2 : 0 < cnf X Y h b p q r
    · have t1 : 0 < cnf X Y h a b p r := by
        rcases Int.lt_or_le (le3 X Y p a r) 0 with z | z
        · rcases Int.lt_or_le (le3 X Y b p r) 0 with y | y
          · exfalso
            rcases Int.lt_or_le 0 (le3 X Y p q r) with w | w
            · have := op (by omega) (by omega); omega
            · have := op' (by omega) (by omega); omega
          · exact L h4 h1 c2 hk i2 y
        · exact L h3 h1 c1 hk i1 z
      have t2 : 0 < cnf X Y h b a q r := by
        rcases Int.lt_or_le (le3 X Y a q r) 0 with z | z
        · rcases Int.lt_or_le (le3 X Y q b r) 0 with y | y
          · exfalso
            rcases Int.lt_or_le 0 (le3 X Y p q r) with w | w
            · have := oq (by omega) (by omega); omega
            · have := oq' (by omega) (by omega); omega
          · exact L h4 h2 c2 hk i4 y
        · exact L h3 h2 c1 hk i3 z
      unfold above; rw [if_pos c1, if_pos c2, if_pos t1, if_pos t2]; omega
    · have t : 0 < cnf X Y h a b p r ∨ 0 < cnf X Y h b a q r := by
        rcases Int.lt_or_le (le3 X Y p a r) 0 with z | z
        · rcases Int.lt_or_le (le3 X Y a q r) 0 with y | y
          · have := oa (by omega) (by omega); omega
          · exact Or.inr (L h3 h2 c1 hk i3 y)
        · exact Or.inl (L h3 h1 c1 hk i1 z)
      unfold above; rw [if_pos c1, if_neg c2]
      rcases t with t | t <;> rw [if_pos t] <;> omega
  · by_cases c2 : 0 < cnf X Y h b p q r
    · have t : 0 < cnf X Y h a b p r ∨ 0 < cnf X Y h b a q r := by
        rcases Int.lt_or_le (le3 X Y b p r) 0 with z | z
        · rcases Int.lt_or_le (le3 X Y q b r) 0 with y | y
          · have := ob' (by omega) (by omega); omega
          · exact Or.inr (L h4 h2 c2 hk i4 y)
        · exact Or.inl (L h4 h1 c2 hk i2 z)
      unfold above; rw [if_neg c1, if_pos c2]
      rcases t with t | t <;> rw [if_pos t] <;> omega
    · unfold above; rw [if_neg c1, if_neg c2]; omega
theorem flip_q {a b p q : Nat} (hk : 0 < cnf X Y h a b p q) : above X Y h a q p q + above X Y h b p q q < above X Y h a b p q + above X Y h b a q q := by
  have z1 : cnf X Y h a q p q = 0 := cnf_b _ _ _
  have z2 : cnf X Y h b p q q = 0 := cnf_c _ _ _
  unfold above; rw [if_neg (by omega), if_neg (by omega), if_pos hk]; omega
end CONF
