/-! a drawing of triangles: t a b c says that a, b, c, against the clock, is one of them -/
def rt3 (x y z a b c : Nat) : Prop := (x = a ∧ y = b ∧ z = c) ∨ (x = b ∧ y = c ∧ z = a) ∨ (x = c ∧ y = a ∧ z = b)
theorem rt3_rot {x y z a b c : Nat} (h : rt3 x y z a b c) : rt3 y z x a b c := by unfold rt3 at *; omega
theorem rt3_rf (a b c : Nat) : rt3 a b c a b c := Or.inl ⟨rfl, rfl, rfl⟩
theorem rt3_1 (a b c : Nat) : rt3 b c a a b c := Or.inr (Or.inl ⟨rfl, rfl, rfl⟩)
theorem rt3_2 (a b c : Nat) : rt3 c a b a b c := Or.inr (Or.inr ⟨rfl, rfl, rfl⟩)
def tRot (t : Nat → Nat → Nat → Prop) : Prop := ∀ a b c, t a b c → t b c a
def tVA (X Y : Nat → Int) (V : Nat → Prop) (t : Nat → Nat → Nat → Prop) : Prop := ∀ a b c, t a b c → V a ∧ V b ∧ V c ∧ 0 < le3 X Y a b c
def tN (t : Nat → Nat → Nat → Prop) : Prop := ∀ a b c d, t a b c → t a b d → c = d
def tS (X Y : Nat → Int) (t : Nat → Nat → Nat → Prop) : Prop := ∀ v b c d e, t v b c → t v d e → 0 ≤ le3 X Y v b d → 0 < le3 X Y v d c → d = b
def tE1 (X Y : Nat → Int) (V : Nat → Prop) (t : Nat → Nat → Nat → Prop) : Prop := ∀ a b c r, t a b c → V r → 0 ≤ le3 X Y a b r → 0 ≤ le3 X Y b c r → 0 ≤ le3 X Y c a r → r = a ∨ r = b ∨ r = c
def tE2 (X Y : Nat → Int) (V : Nat → Prop) (t : Nat → Nat → Nat → Prop) : Prop := ∀ a b c, t a b c → (∀ q, ¬ t b a q) → ∀ r, V r → 0 ≤ le3 X Y a b r
def TI (X Y : Nat → Int) (V : Nat → Prop) (t : Nat → Nat → Nat → Prop) : Prop := tRot t ∧ tVA X Y V t ∧ tN t ∧ tS X Y t ∧ tE1 X Y V t ∧ tE2 X Y V t
section TRI
variable {X Y : Nat → Int} {V : Nat → Prop} {t : Nat → Nat → Nat → Prop}
theorem le3_4 (v b c d e : Nat) : le3 X Y v b c * le3 X Y v d e = le3 X Y v b d * le3 X Y v c e - le3 X Y v b e * le3 X Y v c d := by unfold le3 lo; grind
theorem le3_n (v a b : Nat) : le3 X Y v b a = -le3 X Y v a b := by unfold le3 lo; grind
/-- b ≤ d < e ≤ c around v -/
theorem sec1 {v b c d e : Nat} (h1 : 0 ≤ le3 X Y v b d) (h2 : 0 < le3 X Y v d e) (h3 : 0 ≤ le3 X Y v e c) (h4 : 0 < le3 X Y v b c) (h5 : 0 < le3 X Y v b e) : 0 < le3 X Y v d c := by
  have i := le3_4 (X := X) (Y := Y) v b c d e
  rw [le3_n v e c, le3_n v d c] at i
  simp only [Int.mul_neg] at i
  have m1 := Int.mul_pos h4 h2
  have m2 := Int.mul_nonneg h1 h3
  exact ge_pos h5 (by omega)
/-- the ends of sectors, too -/
theorem tS2 (hR : tRot t) (hV : tVA X Y V t) (hN : tN t) (hS : tS X Y t) {v b c d e : Nat} (h1 : t v b c) (h2 : t v d e) (h3 : 0 < le3 X Y v b e) (h4 : 0 ≤ le3 X Y v e c) : e = c := by
  have a1 := (hV _ _ _ h1).2.2.2; have a2 := (hV _ _ _ h2).2.2.2
  rcases Int.lt_or_le (le3 X Y v b d) 0 with q | q
  · have := hS v d e b c h2 h1 (by rw [le3_n]; omega) h3
    subst this; rw [show le3 X Y v b b = 0 from by unfold le3 lo; grind] at q; omega
  · have := hS v b c d e h1 h2 q (sec1 q a2 h4 a1 h3)
    subst this; exact hN _ _ _ _ h2 h1
/-- an edge flipped -/
def flr (t : Nat → Nat → Nat → Prop) (a b p q : Nat) (x y z : Nat) : Prop := (t x y z ∧ ¬ rt3 x y z a b p ∧ ¬ rt3 x y z b a q) ∨ rt3 x y z a q p ∨ rt3 x y z b p q
theorem flr_TI (h : TI X Y V t) {a b p q : Nat} (h1 : t a b p) (h2 : t b a q) (hp : 0 < le3 X Y p a q) (hb : 0 < le3 X Y b p q) : TI X Y V (flr t a b p q) := by
  obtain ⟨hR, hV, hN, hS, hE1, hE2⟩ := h
  have S2 := fun v b c d e z1 z2 z3 z4 => tS2 (v := v) (b := b) (c := c) (d := d) (e := e) hR hV hN hS z1 z2 z3 z4
  have vp := hV _ _ _ h1; have vq := hV _ _ _ h2
  have h1b := hR _ _ _ h1; have h1c := hR _ _ _ h1b
  have h2b := hR _ _ _ h2; have h2c := hR _ _ _ h2b
  -- h1 : a b p, h1b : b p a, h1c : p a b; h2 : b a q, h2b : a q b, h2c : q b a
  obtain ⟨n1, n2, n3⟩ := le3_ne (X := X) (Y := Y) (a := a) (b := b) (c := p) (by omega)
  obtain ⟨_, n5, n4⟩ := le3_ne (X := X) (Y := Y) (a := b) (b := a) (c := q) (by omega)
  obtain ⟨_, n6, n7⟩ := le3_ne (X := X) (Y := Y) (a := p) (b := a) (c := q) (by omega)
  have e1 : le3 X Y a q p = le3 X Y p a q := by unfold le3 lo; grind
  have e2 : le3 X Y q p a = le3 X Y p a q := by unfold le3 lo; grind
  have e3 : le3 X Y p q b = le3 X Y b p q := by unfold le3 lo; grind
  have e4 : le3 X Y q b p = le3 X Y b p q := by unfold le3 lo; grind
  have e5 : le3 X Y p a b = le3 X Y a b p := by unfold le3 lo; grind
  have e6 : le3 X Y b p a = le3 X Y a b p := by unfold le3 lo; grind
  have e7 : le3 X Y q b a = le3 X Y b a q := by unfold le3 lo; grind
  have e8 : le3 X Y a q b = le3 X Y b a q := by unfold le3 lo; grind
  have e9 : le3 X Y a b q = -le3 X Y b a q := by unfold le3 lo; grind
  -- no triangle on p, q before
  have k1 : ∀ z, ¬ t q p z := fun z hz => n4 (S2 p a b z q h1c (hR _ _ _ hz) hp (by omega)).symm
  have k2 : ∀ z, ¬ t p q z := fun z hz => n5 (hS p a b q z h1c hz (by omega) (by omega)).symm
  refine ⟨?_, ?_, ?_, ?_, ?_, ?_⟩
  · intro x y z hz
    rcases hz with ⟨z1, z2, z3⟩ | z | z
    · exact Or.inl ⟨hR _ _ _ z1, fun w => z2 (rt3_rot (rt3_rot w)), fun w => z3 (rt3_rot (rt3_rot w))⟩
    · exact Or.inr (Or.inl (rt3_rot z))
    · exact Or.inr (Or.inr (rt3_rot z))
  · intro x y z hz
    rcases hz with ⟨z1, _, _⟩ | z | z
    · exact hV _ _ _ z1
    · rcases z with ⟨rfl, rfl, rfl⟩ | ⟨rfl, rfl, rfl⟩ | ⟨rfl, rfl, rfl⟩
      · exact ⟨vp.1, vq.2.2.1, vp.2.2.1, by omega⟩
      · exact ⟨vq.2.2.1, vp.2.2.1, vp.1, by omega⟩
      · exact ⟨vp.2.2.1, vp.1, vq.2.2.1, by omega⟩
    · rcases z with ⟨rfl, rfl, rfl⟩ | ⟨rfl, rfl, rfl⟩ | ⟨rfl, rfl, rfl⟩
      · exact ⟨vq.1, vp.2.2.1, vq.2.2.1, by omega⟩
      · exact ⟨vp.2.2.1, vq.2.2.1, vq.1, by omega⟩
      · exact ⟨vq.2.2.1, vq.1, vp.2.2.1, by omega⟩
  · -- N
    have old : ∀ x y z w, t x y z → ¬ rt3 x y z a b p → ¬ rt3 x y z b a q → (rt3 x y w a q p ∨ rt3 x y w b p q) → False := by
      intro x y z w z1 z2 z3 hw
      rcases hw with hw | hw
      · rcases hw with ⟨rfl, rfl, rfl⟩ | ⟨rfl, rfl, rfl⟩ | ⟨rfl, rfl, rfl⟩
        · have := hN _ _ _ _ z1 h2b; subst this; exact z3 (rt3_1 _ _ _)
        · exact k1 _ z1
        · have := hN _ _ _ _ z1 h1c; subst this; exact z2 (rt3_2 _ _ _)
      · rcases hw with ⟨rfl, rfl, rfl⟩ | ⟨rfl, rfl, rfl⟩ | ⟨rfl, rfl, rfl⟩
        · have := hN _ _ _ _ z1 h1b; subst this; exact z2 (rt3_1 _ _ _)
        · exact k2 _ z1
        · have := hN _ _ _ _ z1 h2c; subst this; exact z3 (rt3_2 _ _ _)
    intro x y z w hz hw
    rcases hz with ⟨z1, z2, z3⟩ | hz
    · rcases hw with ⟨w1, w2, w3⟩ | hw
      · exact hN _ _ _ _ z1 w1
      · exact (old _ _ _ _ z1 z2 z3 hw).elim
    · rcases hw with ⟨w1, w2, w3⟩ | hw
      · exact (old _ _ _ _ w1 w2 w3 hz).elim
      · unfold rt3 at hz hw; omega
  · -- sectors
    have merge : ∀ v l m r d e, t v l m → t v m r → 0 < le3 X Y v l m → t v d e → d ≠ m → 0 ≤ le3 X Y v l d → 0 < le3 X Y v d r → d = l := by
      intro v l m r d e q1 q2 _ q3 nd q4 q5
      rcases Int.lt_or_le 0 (le3 X Y v d m) with z | z
      · exact hS _ _ _ _ _ q1 q3 q4 z
      · exact (nd (hS _ _ _ _ _ q2 q3 (by rw [le3_n]; omega) q5)).elim
    have split1 : ∀ v l m r d e, t v l r → 0 < le3 X Y v l m → 0 < le3 X Y v m r → t v d e → 0 ≤ le3 X Y v l d → 0 < le3 X Y v d m → d = l := by
      intro v l m r d e q1 q2 q3 q4 q5 q6
      exact hS _ _ _ _ _ q1 q4 q5 (sec1 q5 q6 (by omega) (hV _ _ _ q1).2.2.2 q2)
    have split2 : ∀ v l m r d e, t v l r → 0 < le3 X Y v l m → 0 < le3 X Y v m r → t v d e → 0 ≤ le3 X Y v m d → 0 < le3 X Y v d r → False := by
      intro v l m r d e q1 q2 q3 q4 q5 q6
      have i := le3_4 (X := X) (Y := Y) v l r m d
      rw [le3_n v d r, le3_n v m r] at i
      simp only [Int.mul_neg] at i
      have m1 := Int.mul_nonneg (Int.le_of_lt (hV _ _ _ q1).2.2.2) q5
      have m2 := Int.mul_pos q2 q6
      have q7 : 0 < le3 X Y v l d := ge_pos q3 (by rw [Int.mul_comm]; omega)
      have := hS _ _ _ _ _ q1 q4 (by omega) q6
      subst this
      rw [show le3 X Y v d d = 0 from by unfold le3 lo; grind] at q7; omega
    have split3 : ∀ v l m r d e, t v l r → 0 < le3 X Y v l m → 0 < le3 X Y v m r → t v d e → 0 ≤ le3 X Y v d m → 0 < le3 X Y v m e → d = l := by
      intro v l m r d e q1 q2 q3 q4 q5 q6
      have a1 := (hV _ _ _ q1).2.2.2; have a2 := (hV _ _ _ q4).2.2.2
      rcases Int.lt_or_le (le3 X Y v l d) 0 with z | z
      · have i := le3_4 (X := X) (Y := Y) v d e l m
        rw [le3_n v m e, le3_n v l e] at i
        simp only [Int.mul_neg] at i
        have m1 := Int.mul_pos a2 q2
        have m2 := Int.mul_pos (show 0 < le3 X Y v d l by rw [le3_n]; omega) q6
        have m3 : 0 < le3 X Y v d m * le3 X Y v l e := by omega
        have q7 : 0 < le3 X Y v d m := by
          rcases Int.lt_or_le 0 (le3 X Y v d m) with y | y
          · exact y
          · have : le3 X Y v d m = 0 := by omega
            rw [this, Int.zero_mul] at m3; omega
        have := hS _ _ _ _ _ q4 q1 (by rw [le3_n]; omega) (ge_pos q7 m3)
        exact this.symm
      · have i := le3_4 (X := X) (Y := Y) v l r d m
        rw [le3_n v m r, le3_n v d r] at i
        simp only [Int.mul_neg] at i
        have m1 := Int.mul_nonneg (Int.le_of_lt a1) q5
        have m2 := Int.mul_nonneg z (Int.le_of_lt q3)
        have m3 : 0 ≤ le3 X Y v d r := ge_nn q2 (by omega)
        rcases Int.lt_or_le 0 (le3 X Y v d r) with y | y
        · exact hS _ _ _ _ _ q1 q4 z y
        · exfalso
          have y0 : le3 X Y v d r = 0 := by omega
          rw [y0, Int.mul_zero] at i
          have z1 : le3 X Y v d m = 0 := ge_z a1 (by omega)
          have z2 : le3 X Y v l d = 0 := ge_z q3 (by rw [Int.mul_comm]; omega)
          have j := le3_4 (X := X) (Y := Y) v l m d e
          rw [z2, le3_n v d m, z1] at j
          have := Int.mul_pos q2 a2
          simp only [Int.zero_mul, Int.mul_neg, Int.mul_zero] at j
          omega
    -- no old triangle left that begins with the flipped sides
    have f1 : ∀ e, t a b e → ¬ rt3 a b e a b p → False := fun e z w => w (by have := hN _ _ _ _ z h1; subst this; exact rt3_rf _ _ _)
    have f2 : ∀ e, t b a e → ¬ rt3 b a e b a q → False := fun e z w => w (by have := hN _ _ _ _ z h2; subst this; exact rt3_rf _ _ _)
    have f3 : ∀ e, t p a e → ¬ rt3 p a e a b p → False := fun e z w => w (by have := hN _ _ _ _ z h1c; subst this; exact rt3_2 _ _ _)
    have f4 : ∀ e, t q b e → ¬ rt3 q b e b a q → False := fun e z w => w (by have := hN _ _ _ _ z h2c; subst this; exact rt3_2 _ _ _)
    intro v l r d e hz hw g1 g2
    rcases hz with ⟨z1, z2, z3⟩ | hz
    · rcases hw with ⟨w1, w2, w3⟩ | hw
      · exact hS _ _ _ _ _ z1 w1 g1 g2
      · rcases hw with hw | hw
        · rcases hw with ⟨rfl, rfl, rfl⟩ | ⟨rfl, rfl, rfl⟩ | ⟨rfl, rfl, rfl⟩
          · exact hS _ _ _ _ _ z1 h2b g1 g2
          · -- v = q, start p, in the sector b, a
            have := split3 v b d e l r h2c (by omega) (by omega) z1 g1 g2
            subst this; exact (f4 _ z1 z3).elim
          · exact hS _ _ _ _ _ z1 h1c g1 g2
        · rcases hw with ⟨rfl, rfl, rfl⟩ | ⟨rfl, rfl, rfl⟩ | ⟨rfl, rfl, rfl⟩
          · exact hS _ _ _ _ _ z1 h1b g1 g2
          · have := split3 v a d e l r h1c (by omega) (by omega) z1 g1 g2
            subst this; exact (f3 _ z1 z2).elim
          · exact hS _ _ _ _ _ z1 h2c g1 g2
    · rcases hw with ⟨w1, w2, w3⟩ | hw
      · rcases hz with hz | hz
        · rcases hz with ⟨rfl, rfl, rfl⟩ | ⟨rfl, rfl, rfl⟩ | ⟨rfl, rfl, rfl⟩
          · exact merge v l b r d e h2b h1 (by omega) w1 (fun z => by subst z; exact f1 _ w1 w2) g1 g2
          · exact (split2 v b l r d e h2c (by omega) (by omega) w1 g1 g2).elim
          · exact split1 v l r b d e h1c (by omega) (by omega) w1 g1 g2
        · rcases hz with ⟨rfl, rfl, rfl⟩ | ⟨rfl, rfl, rfl⟩ | ⟨rfl, rfl, rfl⟩
          · exact merge v l a r d e h1b h2 (by omega) w1 (fun z => by subst z; exact f2 _ w1 w3) g1 g2
          · exact (split2 v a l r d e h1c (by omega) (by omega) w1 g1 g2).elim
          · exact split1 v l r a d e h2c (by omega) (by omega) w1 g1 g2
      · -- both new
        have z0 : ∀ x y, le3 X Y x y y = 0 := fun x y => by unfold le3 lo; grind
        rcases hz with hz | hz
        · rcases hz with ⟨rfl, rfl, rfl⟩ | ⟨rfl, rfl, rfl⟩ | ⟨rfl, rfl, rfl⟩
          · rcases hw with hw | hw <;> unfold rt3 at hw <;> omega
          · rcases hw with hw | hw
            · unfold rt3 at hw; omega
            · rcases hw with ⟨w0, w1, w2⟩ | ⟨w0, w1, w2⟩ | ⟨w0, w1, w2⟩
              · omega
              · omega
              · exfalso; rw [w1, le3_n] at g1; omega
          · rcases hw with hw | hw
            · unfold rt3 at hw; omega
            · rcases hw with ⟨w0, w1, w2⟩ | ⟨w0, w1, w2⟩ | ⟨w0, w1, w2⟩
              · omega
              · exfalso; rw [w1, z0] at g2; omega
              · omega
        · rcases hz with ⟨rfl, rfl, rfl⟩ | ⟨rfl, rfl, rfl⟩ | ⟨rfl, rfl, rfl⟩
          · rcases hw with hw | hw <;> unfold rt3 at hw <;> omega
          · rcases hw with hw | hw
            · rcases hw with ⟨w0, w1, w2⟩ | ⟨w0, w1, w2⟩ | ⟨w0, w1, w2⟩
              · omega
              · omega
              · exfalso; rw [w1, le3_n] at g1; omega
            · unfold rt3 at hw; omega
          · rcases hw with hw | hw
            · rcases hw with ⟨w0, w1, w2⟩ | ⟨w0, w1, w2⟩ | ⟨w0, w1, w2⟩
              · omega
              · exfalso; rw [w1, z0] at g2; omega
              · omega
            · unfold rt3 at hw; omega
  · -- E1
    have cov : ∀ a b p q r, t a b p → t b a q → V r → 0 < le3 X Y p a q → 0 < le3 X Y b p q → 0 ≤ le3 X Y a q r → 0 ≤ le3 X Y q p r → 0 ≤ le3 X Y p a r → r = a ∨ r = q ∨ r = p := by
      intro a b p q r q1 q2 vr q3 q4 g1 g2 g3
      have A1 := (hV _ _ _ q1).2.2.2; have A2 := (hV _ _ _ q2).2.2.2
      have i1 : le3 X Y p a q * le3 X Y b p r = le3 X Y q p r * le3 X Y a b p + le3 X Y p a r * le3 X Y b p q := by unfold le3 lo; grind
      have i2 : le3 X Y p a q * le3 X Y q b r = le3 X Y q p r * le3 X Y b a q + le3 X Y a q r * le3 X Y b p q := by unfold le3 lo; grind
      have m1 := Int.mul_nonneg g2 (Int.le_of_lt A1); have m2 := Int.mul_nonneg g3 (Int.le_of_lt q4)
      have m3 := Int.mul_nonneg g2 (Int.le_of_lt A2); have m4 := Int.mul_nonneg g1 (Int.le_of_lt q4)
      have s1 := ge_nn q3 (b := le3 X Y b p r) (by omega)
      have s2 := ge_nn q3 (b := le3 X Y q b r) (by omega)
      have hb0 : r = b → False := by
        intro z; subst z
        rw [show le3 X Y q p r = -le3 X Y r p q from by unfold le3 lo; grind] at g2; omega
      rcases Int.le_total 0 (le3 X Y a b r) with z | z
      · rcases hE1 _ _ _ r q1 vr z s1 g3 with w | w | w
        · exact Or.inl w
        · exact (hb0 w).elim
        · exact Or.inr (Or.inr w)
      · rcases hE1 _ _ _ r q2 vr (by rw [show le3 X Y b a r = -le3 X Y a b r from by unfold le3 lo; grind]; omega) g1 s2 with w | w | w
        · exact (hb0 w).elim
        · exact Or.inl w
        · exact Or.inr (Or.inl w)
    have c1 := fun r => cov a b p q r h1 h2
    have c2 := fun r => cov b a q p r h2 h1
    intro x y z r hz vr g1 g2 g3
    rcases hz with ⟨z1, _, _⟩ | hz | hz
    · exact hE1 _ _ _ r z1 vr g1 g2 g3
    · rcases hz with ⟨rfl, rfl, rfl⟩ | ⟨rfl, rfl, rfl⟩ | ⟨rfl, rfl, rfl⟩
      · exact c1 r vr hp hb g1 g2 g3
      · rcases c1 r vr hp hb g3 g1 g2 with w | w | w
        · exact Or.inr (Or.inr w)
        · exact Or.inl w
        · exact Or.inr (Or.inl w)
      · rcases c1 r vr hp hb g2 g3 g1 with w | w | w
        · exact Or.inr (Or.inl w)
        · exact Or.inr (Or.inr w)
        · exact Or.inl w
    · rcases hz with ⟨rfl, rfl, rfl⟩ | ⟨rfl, rfl, rfl⟩ | ⟨rfl, rfl, rfl⟩
      · rcases c2 r vr (by omega) (by omega) g1 g2 g3 with w | w | w
        · exact Or.inl w
        · exact Or.inr (Or.inl w)
        · exact Or.inr (Or.inr w)
      · rcases c2 r vr (by omega) (by omega) g3 g1 g2 with w | w | w
        · exact Or.inr (Or.inr w)
        · exact Or.inl w
        · exact Or.inr (Or.inl w)
      · rcases c2 r vr (by omega) (by omega) g2 g3 g1 with w | w | w
        · exact Or.inr (Or.inl w)
        · exact Or.inr (Or.inr w)
        · exact Or.inl w
  · -- E2
    intro x y z hz hno r vr
    -- the reverse of x, y has no old triangle that stays; nor one that goes
    have no1 : ∀ w, t y x w → rt3 y x w a b p ∨ rt3 y x w b a q := by
      intro w hw
      by_cases q1 : rt3 y x w a b p
      · exact Or.inl q1
      · by_cases q2 : rt3 y x w b a q
        · exact Or.inr q2
        · exact (hno w (Or.inl ⟨hw, q1, q2⟩)).elim
    have nn : ∀ w, ¬ rt3 y x w a q p ∧ ¬ rt3 y x w b p q := fun w => ⟨fun z => hno w (Or.inr (Or.inl z)), fun z => hno w (Or.inr (Or.inr z))⟩
    have base : ∀ w, t x y w → 0 ≤ le3 X Y x y r := by
      intro w hw
      by_cases hex : ∃ u, t y x u
      · obtain ⟨u, hu⟩ := hex
        rcases no1 u hu with q1 | q1
        · rcases q1 with ⟨rfl, rfl, rfl⟩ | ⟨rfl, rfl, rfl⟩ | ⟨rfl, rfl, rfl⟩
          · -- y = a, x = b: the flipped side itself; z is its triangle
            exfalso
            rcases hz with ⟨z1, z2, z3⟩ | hz
            · have := hN _ _ _ _ z1 h2; subst this; exact z3 (rt3_rf _ _ _)
            · unfold rt3 at hz; omega
          · exact ((nn q).2 (rt3_rf _ _ _)).elim
          · exact ((nn q).1 (rt3_2 _ _ _)).elim
        · rcases q1 with ⟨rfl, rfl, rfl⟩ | ⟨rfl, rfl, rfl⟩ | ⟨rfl, rfl, rfl⟩
          · exfalso
            rcases hz with ⟨z1, z2, z3⟩ | hz
            · have := hN _ _ _ _ z1 h1; subst this; exact z2 (rt3_rf _ _ _)
            · unfold rt3 at hz; omega
          · exact ((nn p).1 (rt3_rf _ _ _)).elim
          · exact ((nn p).2 (rt3_2 _ _ _)).elim
      · exact hE2 _ _ _ hw (fun u hu => hex ⟨u, hu⟩) r vr
    rcases hz with ⟨z1, _, _⟩ | hz | hz
    · exact base _ z1
    · rcases hz with ⟨rfl, rfl, rfl⟩ | ⟨rfl, rfl, rfl⟩ | ⟨rfl, rfl, rfl⟩
      · exact base _ h2b
      · exact ((nn b).2 (rt3_1 _ _ _)).elim
      · exact base _ h1c
    · rcases hz with ⟨rfl, rfl, rfl⟩ | ⟨rfl, rfl, rfl⟩ | ⟨rfl, rfl, rfl⟩
      · exact base _ h1b
      · exact ((nn a).1 (rt3_1 _ _ _)).elim
      · exact base _ h2c
end TRI
