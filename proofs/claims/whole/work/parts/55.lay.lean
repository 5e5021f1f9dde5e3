/-! laying out: a point behind all comes to a drawing with its border -/
theorem cr_par {a b c d e f : Int} (h1 : lxp a b) (h2 : lxp c d) (h : cr a b c d = 0) (h3 : 0 < cr e f a b) : 0 < cr e f c d := by
  have i1 : a * cr e f c d = e * cr a b c d + c * cr e f a b := by unfold cr; grind
  have i2 : b * cr e f c d = f * cr a b c d + d * cr e f a b := by unfold cr; grind
  rw [h, Int.mul_zero] at i1 i2
  rcases h1 with q | ⟨q, q2⟩
  · have c0 : 0 < c := by
      rcases h2 with w | ⟨w, w2⟩
      · exact w
      · subst w
        have := Int.mul_pos q w2
        unfold cr at h; omega
    have := Int.mul_pos c0 h3
    exact ge_pos q (by omega)
  · subst q
    have c0 : c = 0 := ge_z q2 (by unfold cr at h; omega)
    have d0 : 0 < d := by unfold lxp at h2; omega
    have := Int.mul_pos d0 h3
    exact ge_pos q2 (by omega)
def btw (X Y : Nat → Int) (u v x : Nat) : Prop := (bef X Y u x ∧ bef X Y x v) ∨ (bef X Y v x ∧ bef X Y x u)
def sdir (X Y : Nat → Int) (u x y : Nat) : Prop := (bef X Y u x ∧ bef X Y u y) ∨ (bef X Y x u ∧ bef X Y y u)
def odir (X Y : Nat → Int) (u x y : Nat) : Prop := (bef X Y u x ∧ bef X Y y u) ∨ (bef X Y x u ∧ bef X Y u y)
section LAY
variable {X Y : Nat → Int} {V : Nat → Prop} {t : Nat → Nat → Nat → Prop}
theorem bef_n {a b : Nat} (h : bef X Y a b) : lxp (-(X a - X b)) (-(Y a - Y b)) := by unfold bef lxp at *; omega
theorem cr_n1 (a b c d : Int) : cr (-a) (-b) c d = -cr a b c d := by unfold cr; grind
theorem cr_n2 (a b c d : Int) : cr a b (-c) (-d) = -cr a b c d := by unfold cr; grind
theorem col_s {u x y : Nat} (hs : sdir X Y u x y) (h0 : le3 X Y u x y = 0) (w : Nat) : (0 < le3 X Y u x w → 0 < le3 X Y u y w) ∧ (le3 X Y u x w < 0 → le3 X Y u y w < 0) := by
  have key : ∀ e f, 0 < cr e f (X x - X u) (Y x - Y u) → 0 < cr e f (X y - X u) (Y y - Y u) := by
    intro e f h
    rw [le3_cr] at h0
    rcases hs with ⟨a, b⟩ | ⟨a, b⟩
    · exact cr_par a b h0 h
    · have := cr_par (e := -e) (f := -f) (bef_n a) (bef_n b) (by rw [cr_n1, cr_n2]; omega) (by rw [cr_n1, cr_n2]; omega)
      rw [cr_n1, cr_n2] at this; omega
  rw [le3_cr, le3_cr, cr_sw (X w - X u), cr_sw (X w - X u)]
  constructor
  · intro h
    have := key (-(X w - X u)) (-(Y w - Y u)) (by rw [cr_n1]; omega)
    rw [cr_n1] at this; omega
  · intro h
    have := key (X w - X u) (Y w - Y u) (by omega)
    omega
theorem col_o {u x y : Nat} (hs : odir X Y u x y) (h0 : le3 X Y u x y = 0) (w : Nat) : (0 < le3 X Y u x w → le3 X Y u y w < 0) ∧ (le3 X Y u x w < 0 → 0 < le3 X Y u y w) := by
  have key : ∀ e f, 0 < cr e f (X x - X u) (Y x - Y u) → cr e f (X y - X u) (Y y - Y u) < 0 := by
    intro e f h
    rw [le3_cr] at h0
    rcases hs with ⟨a, b⟩ | ⟨a, b⟩
    · have := cr_par a (bef_n b) (by rw [cr_n2]; omega) h
      rw [cr_n2] at this; omega
    · have := cr_par (e := -e) (f := -f) (bef_n a) b (by rw [cr_n1]; omega) (by rw [cr_n1, cr_n2]; omega)
      rw [cr_n1] at this; omega
  rw [le3_cr, le3_cr, cr_sw (X w - X u), cr_sw (X w - X u)]
  constructor
  · intro h
    have := key (-(X w - X u)) (-(Y w - Y u)) (by rw [cr_n1]; omega)
    rw [cr_n1] at this; omega
  · intro h
    have := key (X w - X u) (Y w - Y u) (by omega)
    omega
theorem bef_V (hap : apart X Y V) {a b : Nat} (ha : V a) (hb : V b) (h : a ≠ b) : bef X Y a b ∨ bef X Y b a := bef_tot (hap a b ha hb h)
/-- x on the line through u and v, no end of it: between, beyond u, beyond v -/
theorem tri_col (hap : apart X Y V) {u v x : Nat} (hu : V u) (hv : V v) (hx : V x) (n1 : u ≠ v) (n2 : x ≠ u) (n3 : x ≠ v) : btw X Y u v x ∨ odir X Y u v x ∨ odir X Y v u x := by
  rcases bef_V hap hu hv n1 with a | a <;> rcases bef_V hap hx hu n2 with b | b <;> rcases bef_V hap hx hv n3 with c | c
  · exact Or.inr (Or.inl (Or.inl ⟨a, b⟩))
  · exact Or.inr (Or.inl (Or.inl ⟨a, b⟩))
  · exact Or.inl (Or.inl ⟨b, c⟩)
  · exact Or.inr (Or.inr (Or.inr ⟨a, c⟩))
  · exact Or.inr (Or.inr (Or.inl ⟨a, c⟩))
  · exact Or.inl (Or.inr ⟨c, b⟩)
  · exact Or.inr (Or.inl (Or.inr ⟨a, b⟩))
  · exact Or.inr (Or.inl (Or.inr ⟨a, b⟩))
theorem uq (hap : apart X Y V) {v x y p : Nat} (hv : V v) (hx : V x) (hy : V y) (nx : x ≠ v) (ny : y ≠ v) (h0 : le3 X Y v x y = 0) (hs : (0 < le3 X Y v x p ∧ 0 < le3 X Y v y p) ∨ (le3 X Y v x p < 0 ∧ le3 X Y v y p < 0)) (n1 : ¬ btw X Y v x y) (n2 : ¬ btw X Y v y x) : x = y := by
  by_cases hxy : x = y
  · exact hxy
  exfalso
  rcases tri_col hap hv hx hy nx.symm ny (fun z => hxy z.symm) with q | q | q
  · exact n1 q
  · have := col_o q h0 p; omega
  · apply n2
    unfold btw; unfold odir at q
    rcases q with ⟨a, b⟩ | ⟨a, b⟩
    · exact Or.inr ⟨b, a⟩
    · exact Or.inl ⟨a, b⟩
def bB0 (V : Nat → Prop) (r : Nat → Nat) (n : Nat) : Prop := ∀ k, k < n → V (r k) ∧ V (r (k + 1)) ∧ r k ≠ r (k + 1)
def bB1 (X Y : Nat → Int) (V : Nat → Prop) (r : Nat → Nat) (n : Nat) : Prop := ∀ k, k < n → ∀ x, V x → 0 ≤ le3 X Y (r k) (r (k + 1)) x
def bB2 (X Y : Nat → Int) (V : Nat → Prop) (r : Nat → Nat) (n : Nat) : Prop := ∀ k, k < n → ∀ x, V x → le3 X Y (r k) (r (k + 1)) x = 0 → ¬ btw X Y (r k) (r (k + 1)) x
def bB3 (t : Nat → Nat → Nat → Prop) (r : Nat → Nat) (n : Nat) : Prop := ∀ k, k < n → ∀ w, ¬ t (r (k + 1)) (r k) w
def bB4 (t : Nat → Nat → Nat → Prop) (r : Nat → Nat) (n : Nat) : Prop := ∀ u v w, t u v w → (∃ q, t v u q) ∨ ∃ k, k < n ∧ u = r k ∧ v = r (k + 1)
def bB5 (t : Nat → Nat → Nat → Prop) (r : Nat → Nat) (n : Nat) : Prop := ∀ k, k < n → (∃ w, t (r k) (r (k + 1)) w) ∨ ∃ m, m < n ∧ r m = r (k + 1) ∧ r (m + 1) = r k
/-- a drawing t of the points V with its border r 0, r 1 .. r n = r 0 -/
def LI (X Y : Nat → Int) (V : Nat → Prop) (t : Nat → Nat → Nat → Prop) (r : Nat → Nat) (n : Nat) : Prop := tRot t ∧ tVA X Y V t ∧ tN t ∧ tS X Y t ∧ tE1 X Y V t ∧ (2 ≤ n ∧ r n = r 0) ∧ bB0 V r n ∧ bB1 X Y V r n ∧ bB2 X Y V r n ∧ bB3 t r n ∧ bB4 t r n ∧ bB5 t r n
theorem LI_TI {r : Nat → Nat} {n : Nat} (h : LI X Y V t r n) : TI X Y V t := by
  obtain ⟨h1, h2, h3, h4, h5, _, _, b1, _, _, b4, _⟩ := h
  refine ⟨h1, h2, h3, h4, h5, ?_⟩
  intro a b c ht hno x vx
  rcases b4 _ _ _ ht with ⟨q, hq⟩ | ⟨k, k1, rfl, rfl⟩
  · exact (hno q hq).elim
  · exact b1 k k1 x vx
/-- what comes -/
def nwt (X Y : Nat → Int) (t : Nat → Nat → Nat → Prop) (r : Nat → Nat) (n p : Nat) (x y z : Nat) : Prop := t x y z ∨ ∃ k, k < n ∧ le3 X Y (r k) (r (k + 1)) p < 0 ∧ rt3 x y z (r k) p (r (k + 1))
def nwr (r : Nat → Nat) (n s j p : Nat) (k : Nat) : Nat := if k = 0 then p else if k ≤ n - j - s + 1 then r (s + k - 1) else p
set_option maxHeartbeats 4000000 in
theorem lay_step (hap : apart X Y V) {r : Nat → Nat} {n s j p : Nat} (h : LI X Y V t r n) (hp : ∀ x, V x → bef X Y x p) (hvis : ∀ k, k < n → (le3 X Y (r k) (r (k + 1)) p < 0 ↔ k < s ∨ n - j ≤ k)) (hs1 : 1 ≤ s + j) (hs2 : s + j < n) (hE : ∀ x, V x → 0 ≤ le3 X Y p (r s) x) (hSt : ∀ x, V x → 0 ≤ le3 X Y (r (n - j)) p x) : LI X Y (fun x => V x ∨ x = p) (nwt X Y t r n p) (nwr r n s j p) (n - j - s + 2) := by
  obtain ⟨hR, hV, hN, hS, hE1, ⟨hn2, hrn⟩, b0, b1, b2, b3, b4, b5⟩ := h
  have np : ¬ V p := fun z => bef_ir (hp p z)
  have npe : ∀ x, V x → x ≠ p := fun x z w => np (w ▸ z)
  -- outgoing and incoming sides that see p
  have out1 : ∀ k m, k < n → m < n → le3 X Y (r k) (r (k + 1)) p < 0 → le3 X Y (r m) (r (m + 1)) p < 0 → r k = r m → r (k + 1) = r (m + 1) := by
    intro k m hk hm vk vm e
    have a1 := b1 k hk (r (m + 1)) (b0 m hm).2.1
    have a2 := b1 m hm (r (k + 1)) (b0 k hk).2.1
    rw [← e] at a2 vm
    rw [le3_n] at a2
    refine uq hap (v := r k) (p := p) (b0 k hk).1 (b0 k hk).2.1 (b0 m hm).2.1 (b0 k hk).2.2.symm (by rw [e]; exact (b0 m hm).2.2.symm) (by omega) (Or.inr ⟨vk, vm⟩) (b2 k hk _ (b0 m hm).2.1 (by omega)) ?_
    have := b2 m hm (r (k + 1)) (b0 k hk).2.1
    rw [← e, le3_n] at this
    exact this (by omega)
  have in1 : ∀ k m, k < n → m < n → le3 X Y (r k) (r (k + 1)) p < 0 → le3 X Y (r m) (r (m + 1)) p < 0 → r (k + 1) = r (m + 1) → r k = r m := by
    intro k m hk hm vk vm e
    have a1 := b1 k hk (r m) (b0 m hm).1
    have a2 := b1 m hm (r k) (b0 k hk).1
    rw [← e] at a2 vm
    have f1 : le3 X Y (r (k + 1)) (r k) (r m) = -le3 X Y (r k) (r (k + 1)) (r m) := by unfold le3 lo; grind
    have f2 : le3 X Y (r m) (r (k + 1)) (r k) = le3 X Y (r (k + 1)) (r k) (r m) := by unfold le3 lo; grind
    have f3 : le3 X Y (r (k + 1)) (r k) p = -le3 X Y (r k) (r (k + 1)) p := by unfold le3 lo; grind
    have f4 : le3 X Y (r (k + 1)) (r m) p = -le3 X Y (r m) (r (k + 1)) p := by unfold le3 lo; grind
    have sw : ∀ a b c, btw X Y a b c → btw X Y b a c := fun a b c z => z.symm
    refine uq hap (v := r (k + 1)) (p := p) (b0 k hk).2.1 (b0 k hk).1 (b0 m hm).1 (b0 k hk).2.2 (by rw [e]; exact (b0 m hm).2.2) (by omega) (Or.inl ⟨by omega, by omega⟩) (fun z => b2 k hk _ (b0 m hm).1 (by omega) (sw _ _ _ z)) ?_
    have := b2 m hm (r k) (b0 k hk).1
    rw [← e] at this
    exact fun z => this (by omega) (sw _ _ _ z)
  -- the two sides that stay next to p
  have inE : ∃ k, k < n ∧ le3 X Y (r k) (r (k + 1)) p < 0 ∧ r (k + 1) = r s := by
    by_cases q : s = 0
    · refine ⟨n - 1, by omega, (hvis _ (by omega)).2 (Or.inr (by omega)), ?_⟩
      rw [show n - 1 + 1 = n from by omega, hrn, q]
    · exact ⟨s - 1, by omega, (hvis _ (by omega)).2 (Or.inl (by omega)), by rw [show s - 1 + 1 = s from by omega]⟩
  have outS : ∃ k, k < n ∧ le3 X Y (r k) (r (k + 1)) p < 0 ∧ r k = r (n - j) := by
    by_cases q : j = 0
    · exact ⟨0, by omega, (hvis _ (by omega)).2 (Or.inl (by omega)), by rw [q, Nat.sub_zero, hrn]⟩
    · exact ⟨n - j, by omega, (hvis _ (by omega)).2 (Or.inr (by omega)), rfl⟩
  have vS : V (r s) := by obtain ⟨k, k1, _, k3⟩ := inE; rw [← k3]; exact (b0 k k1).2.1
  have vT : V (r (n - j)) := by obtain ⟨k, k1, _, k3⟩ := outS; rw [← k3]; exact (b0 k k1).1
  have z0 : ∀ x y, le3 X Y x y y = 0 := fun x y => by unfold le3 lo; grind
  have zr : ∀ x y z, le3 X Y y z x = le3 X Y x y z := fun x y z => by unfold le3 lo; grind
  have zs : ∀ x y z, le3 X Y y x z = -le3 X Y x y z := fun x y z => by unfold le3 lo; grind
  -- the new list
  have w0 : nwr r n s j p 0 = p := rfl
  have w1 : ∀ k, 1 ≤ k → k ≤ n - j - s + 1 → nwr r n s j p k = r (s + k - 1) := by
    intro k k1 k2; unfold nwr; rw [if_neg (by omega), if_pos k2]
  have w2 : nwr r n s j p (n - j - s + 2) = p := by unfold nwr; rw [if_neg (by omega), if_neg (by omega)]
  -- a side of the new list: the first, the last, or an old one that doesn't see p
  have wc : ∀ k, k < n - j - s + 2 → (nwr r n s j p k = p ∧ nwr r n s j p (k + 1) = r s) ∨ (nwr r n s j p k = r (n - j) ∧ nwr r n s j p (k + 1) = p) ∨ ∃ m, m < n ∧ 0 ≤ le3 X Y (r m) (r (m + 1)) p ∧ nwr r n s j p k = r m ∧ nwr r n s j p (k + 1) = r (m + 1) := by
    intro k hk
    by_cases q : k = 0
    · subst q; exact Or.inl ⟨w0, by rw [w1 1 (by omega) (by omega)]; rfl⟩
    by_cases q2 : k = n - j - s + 1
    · subst q2; exact Or.inr (Or.inl ⟨by rw [w1 _ (by omega) (by omega)]; congr 1; omega, w2⟩)
    refine Or.inr (Or.inr ⟨s + k - 1, by omega, ?_, w1 k (by omega) (by omega), ?_⟩)
    · have := hvis (s + k - 1) (by omega)
      rcases Int.lt_or_le (le3 X Y (r (s + k - 1)) (r (s + k - 1 + 1)) p) 0 with w | w
      · have := this.1 w; omega
      · exact w
    · rw [w1 (k + 1) (by omega) (by omega)]; congr 1; omega
  have wi : ∀ m, m < n → 0 ≤ le3 X Y (r m) (r (m + 1)) p → ∃ k, k < n - j - s + 2 ∧ r m = nwr r n s j p k ∧ r (m + 1) = nwr r n s j p (k + 1) := by
    intro m hm hz
    have := hvis m hm
    have nz : ¬ (m < s ∨ n - j ≤ m) := fun z => by have := this.2 z; omega
    refine ⟨m + 1 - s, by omega, ?_, ?_⟩
    · rw [w1 _ (by omega) (by omega)]; congr 1; omega
    · rw [w1 _ (by omega) (by omega)]; congr 1; omega
  have wS : ∃ k, k < n - j - s + 2 ∧ p = nwr r n s j p k ∧ r s = nwr r n s j p (k + 1) := ⟨0, by omega, w0.symm, by rw [w1 1 (by omega) (by omega)]; rfl⟩
  have wT : ∃ k, k < n - j - s + 2 ∧ r (n - j) = nwr r n s j p k ∧ p = nwr r n s j p (k + 1) := ⟨n - j - s + 1, by omega, by rw [w1 _ (by omega) (by omega)]; congr 1; omega, w2.symm⟩
  refine ⟨?_, ?_, ?_, ?_, ?_, ⟨by omega, by rw [w2, w0]⟩, ?_, ?_, ?_, ?_, ?_, ?_⟩
  · -- rotation
    intro x y z hz
    rcases hz with hz | ⟨k, k1, k2, k3⟩
    · exact Or.inl (hR _ _ _ hz)
    · exact Or.inr ⟨k, k1, k2, rt3_rot k3⟩
  · -- areas
    intro x y z hz
    rcases hz with hz | ⟨k, k1, k2, k3⟩
    · have := hV _ _ _ hz; exact ⟨Or.inl this.1, Or.inl this.2.1, Or.inl this.2.2.1, this.2.2.2⟩
    · have q := b0 k k1
      have e1 : le3 X Y (r k) p (r (k + 1)) = -le3 X Y (r k) (r (k + 1)) p := by unfold le3 lo; grind
      rcases k3 with ⟨rfl, rfl, rfl⟩ | ⟨rfl, rfl, rfl⟩ | ⟨rfl, rfl, rfl⟩
      · exact ⟨Or.inl q.1, Or.inr rfl, Or.inl q.2.1, by omega⟩
      · exact ⟨Or.inr rfl, Or.inl q.2.1, Or.inl q.1, by rw [zr (r k)]; omega⟩
      · exact ⟨Or.inl q.2.1, Or.inl q.1, Or.inr rfl, by rw [← zr (r (k + 1))]; omega⟩
  · -- one triangle a side
    have on : ∀ x y z k w, t x y z → k < n → rt3 x y w (r k) p (r (k + 1)) → False := by
      intro x y z k w h1 hk h2
      have va := hV _ _ _ h1
      rcases h2 with ⟨rfl, rfl, rfl⟩ | ⟨rfl, rfl, rfl⟩ | ⟨rfl, rfl, rfl⟩
      · exact np va.2.1
      · exact np va.1
      · exact b3 k hk _ h1
    intro x y z w hz hw
    rcases hz with hz | ⟨k, k1, k2, k3⟩ <;> rcases hw with hw | ⟨m, m1, m2, m3⟩
    · exact hN _ _ _ _ hz hw
    · exact (on _ _ _ _ _ hz m1 m3).elim
    · exact (on _ _ _ _ _ hw k1 k3).elim
    · have q1 := npe _ (b0 k k1).1; have q2 := npe _ (b0 k k1).2.1; have q3 := npe _ (b0 m m1).1; have q4 := npe _ (b0 m m1).2.1
      rcases k3 with ⟨x1, x2, x3⟩ | ⟨x1, x2, x3⟩ | ⟨x1, x2, x3⟩ <;> rcases m3 with ⟨y1, y2, y3⟩ | ⟨y1, y2, y3⟩ | ⟨y1, y2, y3⟩ <;> (try (exfalso; omega))
      · rw [x3, y3]; exact out1 k m k1 m1 k2 m2 (by rw [← x1, y1])
      · rw [x3, y3]; exact in1 k m k1 m1 k2 m2 (by rw [← x2, y2])
      · rw [x3, y3]
  · -- sectors
    intro v b c d e hz hw g1 g2
    rcases hz with hz | ⟨k, k1, k2, k3⟩ <;> rcases hw with hw | ⟨m, m1, m2, m3⟩
    · exact hS _ _ _ _ _ hz hw g1 g2
    · exfalso
      have va := hV _ _ _ hz
      rcases m3 with ⟨rfl, rfl, rfl⟩ | ⟨rfl, rfl, rfl⟩ | ⟨rfl, rfl, rfl⟩
      · have i := le3_4 (X := X) (Y := Y) (r m) b c (r (m + 1)) d
        have c1 := b1 m m1 b va.2.1; have c2 := b1 m m1 c va.2.2.1
        rw [le3_n (r m) (r (m + 1)) b, le3_n (r m) d c, le3_n (r m) (r (m + 1)) c] at i
        simp only [Int.mul_neg, Int.neg_mul] at i
        have p1 := Int.mul_nonneg c1 (Int.le_of_lt g2)
        have p2 := Int.mul_nonneg g1 c2
        have p3 := Int.mul_neg_of_pos_of_neg va.2.2.2 m2
        omega
      · exact np va.1
      · have c2 := b1 m m1 c va.2.2.1
        rw [zs] at c2; omega
    · have va := hV _ _ _ hw
      rcases k3 with ⟨rfl, rfl, rfl⟩ | ⟨rfl, rfl, rfl⟩ | ⟨rfl, rfl, rfl⟩
      · exfalso
        have c2 := b1 k k1 d va.2.1
        rw [le3_n] at c2; omega
      · exact (np va.1).elim
      · have c1 := b1 k k1 d va.2.1
        have f1 := zs (r k) (r (k + 1)) d
        have e0 : le3 X Y (r (k + 1)) d (r k) = 0 := by rw [le3_n]; omega
        have nd : d ≠ r (k + 1) := fun z => by rw [z, show le3 X Y (r (k + 1)) (r (k + 1)) c = 0 from by unfold le3 lo; grind] at g2; omega
        refine uq hap (v := r (k + 1)) (p := c) (b0 k k1).2.1 va.2.1 (b0 k k1).1 nd (b0 k k1).2.2 e0 (Or.inl ⟨g2, by rw [zs]; omega⟩) ?_ (fun z => b2 k k1 d va.2.1 (by omega) z.symm)
        intro hb
        -- r k between v and d: within the triangle v, d, e
        have q1 : sdir X Y (r (k + 1)) d (r k) := by
          rcases hb with ⟨a1, a2⟩ | ⟨a1, a2⟩
          · exact Or.inl ⟨bef_tr a1 a2, a1⟩
          · exact Or.inr ⟨bef_tr a1 a2, a2⟩
        have q2 : sdir X Y d (r (k + 1)) (r k) := by
          rcases hb with ⟨a1, a2⟩ | ⟨a1, a2⟩
          · exact Or.inr ⟨bef_tr a1 a2, a2⟩
          · exact Or.inl ⟨bef_tr a1 a2, a1⟩
        have q3 := (col_s q1 e0 e).1 va.2.2.2
        have q4 := (col_s q2 (by rw [zs]; omega) e).2 (by rw [zs]; have := va.2.2.2; omega)
        rcases hE1 _ _ _ (r k) hw (b0 k k1).1 (by omega) (by rw [le3_n]; omega) (by rw [← zr e]; omega) with z | z | z
        · exact (b0 k k1).2.2 z
        · rcases hb with ⟨a1, a2⟩ | ⟨a1, a2⟩
          · rw [z] at a2; exact bef_ir a2
          · rw [z] at a1; exact bef_ir a1
        · rw [z] at e0; have := va.2.2.2; omega
    · have q1 := npe _ (b0 k k1).1; have q2 := npe _ (b0 k k1).2.1; have q3 := npe _ (b0 m m1).1; have q4 := npe _ (b0 m m1).2.1
      rcases k3 with ⟨x1, x2, x3⟩ | ⟨x1, x2, x3⟩ | ⟨x1, x2, x3⟩ <;> rcases m3 with ⟨y1, y2, y3⟩ | ⟨y1, y2, y3⟩ | ⟨y1, y2, y3⟩ <;> (try (exfalso; omega)) <;> (try omega)
      · exfalso
        rw [← y1, x1] at m2
        rw [x1, x2, y2] at g1
        rw [zr (r m)] at g1; omega
      · -- around p
        by_cases hv : r (m + 1) = r (k + 1)
        · omega
        exfalso
        rw [x1, x2, y2] at g1; rw [x1, y2, x3] at g2
        have nu : r (m + 1) ≠ r k := fun z => by rw [z, z0] at g2; omega
        have c0 := b1 k k1 (r (m + 1)) (b0 m m1).2.1
        rcases Int.lt_or_le 0 (le3 X Y (r k) (r (k + 1)) (r (m + 1))) with w | w
        · have i := le3_in (X := X) (Y := Y) p (r (k + 1)) (r k) (r (m + 1)) (r m) (r (m + 1))
          rw [z0, Int.mul_zero, zs (r k) (r (k + 1)), ← zr (r k) p (r (m + 1))] at i
          have c1 := b1 m m1 (r k) (b0 k k1).1; have c2 := b1 m m1 (r (k + 1)) (b0 k k1).2.1
          have p1 := Int.mul_neg_of_pos_of_neg w m2
          have p2 := Int.mul_nonneg (Int.le_of_lt g2) c2
          have p3 := Int.mul_nonneg g1 c1
          simp only [Int.neg_mul] at i
          omega
        · rcases tri_col hap (b0 k k1).1 (b0 k k1).2.1 (b0 m m1).2.1 (b0 k k1).2.2 nu hv with q | q | q
          · exact b2 k k1 _ (b0 m m1).2.1 (by omega) q
          · have := (col_o q (by omega) p).2 k2
            rw [zr p, le3_n] at this; omega
          · have := (col_o q (by rw [zs]; omega) p).1 (by rw [zs]; omega)
            rw [zr p] at this; omega
      · exfalso
        rw [y2, x3, z0] at g2; omega
      · rw [y2, x2]; exact (in1 k m k1 m1 k2 m2 (by rw [← x1, y1])).symm
  · -- nothing within
    intro x y z w hz hw g1 g2 g3
    rcases hz with hz | ⟨k, k1, k2, k3⟩
    · rcases hw with hw | hw
      · exact hE1 _ _ _ w hz hw g1 g2 g3
      · subst hw
        have va := hV _ _ _ hz
        exact (bef_ir (bef_tri va.2.2.2 g1 g2 g3 (hp _ va.1) (hp _ va.2.1) (hp _ va.2.2.1))).elim
    · have key : 0 ≤ le3 X Y (r k) p w → 0 ≤ le3 X Y p (r (k + 1)) w → 0 ≤ le3 X Y (r (k + 1)) (r k) w → w = r k ∨ w = p ∨ w = r (k + 1) := by
        intro g1 g2 g3
        rcases hw with hw | hw
        · by_cases n1 : w = r k
          · exact Or.inl n1
          by_cases n2 : w = r (k + 1)
          · exact Or.inr (Or.inr n2)
          exfalso
          have c0 := b1 k k1 w hw
          rw [zs] at g3
          rcases tri_col hap (b0 k k1).1 (b0 k k1).2.1 hw (b0 k k1).2.2 n1 n2 with q | q | q
          · exact b2 k k1 _ hw (by omega) q
          · have := (col_o q (by omega) p).2 k2
            rw [le3_n] at this; omega
          · have := (col_o q (by rw [zs]; omega) p).1 (by rw [zs]; omega)
            rw [zr p] at this; omega
        · exact Or.inr (Or.inl hw)
      rcases k3 with ⟨rfl, rfl, rfl⟩ | ⟨rfl, rfl, rfl⟩ | ⟨rfl, rfl, rfl⟩
      · exact key g1 g2 g3
      · have := key g3 g1 g2; omega
      · have := key g2 g3 g1; omega
  · -- the border's points
    intro k hk
    rcases wc k hk with ⟨a1, a2⟩ | ⟨a1, a2⟩ | ⟨m, m1, m2, a1, a2⟩
    · rw [a1, a2]; exact ⟨Or.inr rfl, Or.inl vS, (npe _ vS).symm⟩
    · rw [a1, a2]; exact ⟨Or.inl vT, Or.inr rfl, npe _ vT⟩
    · rw [a1, a2]; exact ⟨Or.inl (b0 m m1).1, Or.inl (b0 m m1).2.1, (b0 m m1).2.2⟩
  · -- all to the left
    intro k hk x hx
    rcases wc k hk with ⟨a1, a2⟩ | ⟨a1, a2⟩ | ⟨m, m1, m2, a1, a2⟩ <;> rw [a1, a2]
    · rcases hx with hx | hx
      · exact hE x hx
      · rw [hx, le3_ab]; exact Int.le_refl _
    · rcases hx with hx | hx
      · exact hSt x hx
      · rw [hx, z0]; exact Int.le_refl _
    · rcases hx with hx | hx
      · exact b1 m m1 x hx
      · rw [hx]; exact m2
  · -- nothing between
    intro k hk x hx h0 hb
    rcases wc k hk with ⟨a1, a2⟩ | ⟨a1, a2⟩ | ⟨m, m1, m2, a1, a2⟩ <;> rw [a1, a2] at h0 hb
    · have hx : V x := by
        rcases hx with hx | hx
        · exact hx
        · rw [hx] at hb; rcases hb with ⟨z1, z2⟩ | ⟨z1, z2⟩
          · exact (bef_ir z1).elim
          · exact (bef_ir z2).elim
      obtain ⟨m, m1, m2, m3⟩ := inE
      have sx : sdir X Y (r s) p x := by
        rcases hb with ⟨z1, z2⟩ | ⟨z1, z2⟩
        · exact (bef_as (hp _ hx) z1).elim
        · exact Or.inl ⟨hp _ vS, z1⟩
      have := (col_s sx (by rw [zs]; omega) (r m)).2 (by rw [← m3, zr (r m)]; exact m2)
      have c := b1 m m1 x hx
      rw [m3, ← zr (r m)] at c; omega
    · have hx : V x := by
        rcases hx with hx | hx
        · exact hx
        · rw [hx] at hb; rcases hb with ⟨z1, z2⟩ | ⟨z1, z2⟩
          · exact (bef_ir z2).elim
          · exact (bef_ir z1).elim
      obtain ⟨m, m1, m2, m3⟩ := outS
      have sx : sdir X Y (r (n - j)) p x := by
        rcases hb with ⟨z1, z2⟩ | ⟨z1, z2⟩
        · exact Or.inl ⟨hp _ vT, z1⟩
        · exact (bef_as (hp _ hx) z1).elim
      have := (col_s sx h0 (r (m + 1))).1 (by rw [← m3, le3_n]; omega)
      have c := b1 m m1 x hx
      rw [m3, le3_n] at c; omega
    · rcases hx with hx | hx
      · exact b2 m m1 x hx h0 hb
      · rw [hx] at hb
        rcases hb with ⟨z1, z2⟩ | ⟨z1, z2⟩
        · exact bef_as (hp _ (b0 m m1).2.1) z2
        · exact bef_as (hp _ (b0 m m1).1) z2
  · -- none on the outside
    intro k hk w hw
    rcases wc k hk with ⟨a1, a2⟩ | ⟨a1, a2⟩ | ⟨m, m1, m2, a1, a2⟩ <;> rw [a1, a2] at hw
    · rcases hw with hw | ⟨i, i1, i2, i3⟩
      · exact np (hV _ _ _ hw).2.1
      · have q1 := npe _ (b0 i i1).1; have q2 := npe _ (b0 i i1).2.1
        rcases i3 with ⟨y1, y2, y3⟩ | ⟨y1, y2, y3⟩ | ⟨y1, y2, y3⟩ <;> (try omega)
        have := hE (r (i + 1)) (b0 i i1).2.1
        rw [y1, ← zr p] at this; omega
    · rcases hw with hw | ⟨i, i1, i2, i3⟩
      · exact np (hV _ _ _ hw).1
      · have q1 := npe _ (b0 i i1).1; have q2 := npe _ (b0 i i1).2.1
        rcases i3 with ⟨y1, y2, y3⟩ | ⟨y1, y2, y3⟩ | ⟨y1, y2, y3⟩ <;> (try omega)
        have := hSt (r i) (b0 i i1).1
        rw [y2] at this
        rw [zr (r i)] at this; omega
    · rcases hw with hw | ⟨i, i1, i2, i3⟩
      · exact b3 m m1 w hw
      · have q1 := npe _ (b0 m m1).1; have q2 := npe _ (b0 m m1).2.1
        rcases i3 with ⟨y1, y2, y3⟩ | ⟨y1, y2, y3⟩ | ⟨y1, y2, y3⟩ <;> (try omega)
        rw [← y1, ← y2] at i2; omega
  · -- each side has its other side, or is of the border
    intro u v w hz
    rcases hz with hz | ⟨k, k1, k2, k3⟩
    · rcases b4 _ _ _ hz with ⟨q, hq⟩ | ⟨k, k1, k2, k3⟩
      · exact Or.inl ⟨q, Or.inl hq⟩
      · rcases Int.lt_or_le (le3 X Y (r k) (r (k + 1)) p) 0 with z | z
        · exact Or.inl ⟨p, Or.inr ⟨k, k1, z, by rw [k2, k3]; exact rt3_2 _ _ _⟩⟩
        · right; rw [k2, k3]; exact wi k k1 z
    · rcases k3 with ⟨rfl, rfl, rfl⟩ | ⟨rfl, rfl, rfl⟩ | ⟨rfl, rfl, rfl⟩
      · -- r k, p
        have hk := (hvis k k1).1 k2
        by_cases c1 : 1 ≤ k ∧ (k - 1 < s ∨ n - j ≤ k - 1)
        · left
          refine ⟨r (k - 1), Or.inr ⟨k - 1, by omega, (hvis _ (by omega)).2 c1.2, ?_⟩⟩
          rw [show k - 1 + 1 = k from by omega]; exact rt3_1 _ _ _
        · by_cases c2 : k = n - j
          · right; rw [c2]; exact wT
          · have c3 : k = 0 := by omega
            subst c3
            by_cases c4 : j = 0
            · right; rw [show r 0 = r (n - j) from by rw [c4, Nat.sub_zero, hrn]]; exact wT
            · left
              refine ⟨r (n - 1), Or.inr ⟨n - 1, by omega, (hvis _ (by omega)).2 (Or.inr (by omega)), ?_⟩⟩
              rw [show n - 1 + 1 = n from by omega, hrn]; exact rt3_1 _ _ _
      · -- p, r (k + 1)
        have hk := (hvis k k1).1 k2
        by_cases c1 : k + 1 < n ∧ (k + 1 < s ∨ n - j ≤ k + 1)
        · left
          exact ⟨r (k + 1 + 1), Or.inr ⟨k + 1, c1.1, (hvis _ c1.1).2 c1.2, rt3_rf _ _ _⟩⟩
        · by_cases c2 : k + 1 = s
          · right; rw [c2]; exact wS
          · have c3 : k + 1 = n := by omega
            rw [c3, hrn]
            by_cases c4 : s = 0
            · right; rw [show (0 : Nat) = s from c4.symm]; exact wS
            · left
              exact ⟨r (0 + 1), Or.inr ⟨0, by omega, (hvis _ (by omega)).2 (Or.inl (by omega)), rt3_rf _ _ _⟩⟩
      · -- r (k + 1), r k
        rcases b5 k k1 with ⟨q, hq⟩ | ⟨m, m1, m2, m3⟩
        · exact Or.inl ⟨q, Or.inl hq⟩
        · right; rw [← m2, ← m3]
          refine wi m m1 ?_
          rw [m2, m3, zs]; omega
  · -- inner sides
    intro k hk
    rcases wc k hk with ⟨a1, a2⟩ | ⟨a1, a2⟩ | ⟨m, m1, m2, a1, a2⟩ <;> rw [a1, a2]
    · left
      obtain ⟨i, i1, i2, i3⟩ := inE
      exact ⟨r i, Or.inr ⟨i, i1, i2, by rw [← i3]; exact rt3_1 _ _ _⟩⟩
    · left
      obtain ⟨i, i1, i2, i3⟩ := outS
      exact ⟨r (i + 1), Or.inr ⟨i, i1, i2, by rw [← i3]; exact rt3_rf _ _ _⟩⟩
    · rcases b5 m m1 with ⟨q, hq⟩ | ⟨i, i1, i2, i3⟩
      · exact Or.inl ⟨q, Or.inl hq⟩
      · rcases Int.lt_or_le (le3 X Y (r i) (r (i + 1)) p) 0 with z | z
        · exact Or.inl ⟨p, Or.inr ⟨i, i1, z, by rw [← i2, ← i3]; exact rt3_2 _ _ _⟩⟩
        · right
          obtain ⟨k', y1, y2, y3⟩ := wi i i1 z
          exact ⟨k', y1, by rw [← y2, i2], by rw [← y3, i3]⟩
end LAY
