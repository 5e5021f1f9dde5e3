/-! the hull's chains -/
theorem popC_sp {X Y : Nat → Int} {K : Nat → Nat} {p kept : Nat} (hk : 1 ≤ kept) : ∀ n, kept ≤ n → kept ≤ popC X Y K p kept n ∧ popC X Y K p kept n ≤ n ∧ (popC X Y K p kept n < n → le3 X Y (K (popC X Y K p kept n - 1)) (K (popC X Y K p kept n)) p ≤ 0) ∧ (popC X Y K p kept n = kept ∨ 0 < le3 X Y (K (popC X Y K p kept n - 2)) (K (popC X Y K p kept n - 1)) p) := by
  intro n
  induction n with
  | zero => intro h; omega
  | succ n ih =>
    intro h
    by_cases c : kept < n + 1 ∧ le3 X Y (K (n - 1)) (K n) p ≤ 0
    · have e : popC X Y K p kept (n + 1) = popC X Y K p kept n := by rw [popC, if_pos ⟨c.1, by omega, c.2⟩]
      obtain ⟨a1, a2, a3, a4⟩ := ih (by omega)
      rw [e]
      refine ⟨a1, by omega, fun _ => ?_, a4⟩
      by_cases q : popC X Y K p kept n < n
      · exact a3 q
      · rw [show popC X Y K p kept n = n from by omega]; exact c.2
    · have e : popC X Y K p kept (n + 1) = n + 1 := by rw [popC, if_neg (fun z => c ⟨z.1, z.2.2⟩)]
      rw [e]
      refine ⟨h, Nat.le_refl _, fun z => by omega, ?_⟩
      by_cases q : kept = n + 1
      · exact Or.inl q.symm
      · right
        rw [show n + 1 - 2 = n - 1 from by omega, show n + 1 - 1 = n from by omega]
        rcases Int.lt_or_le 0 (le3 X Y (K (n - 1)) (K n) p) with z | z
        · exact z
        · exact (c ⟨by omega, z⟩).elim
/-- a chain from place b on: it rises, it turns left, all of V lies to its left, on its sides only between -/
def CH (X Y : Nat → Int) (V : Nat → Prop) (K : Nat → Nat) (b z : Nat) : Prop := b < z ∧ (∀ k, b ≤ k → k < z → V (K k)) ∧ (∀ k, b ≤ k → k + 1 < z → bef X Y (K k) (K (k + 1))) ∧ (∀ k, b ≤ k → k + 1 < z → ∀ x, V x → 0 ≤ le3 X Y (K k) (K (k + 1)) x ∧ (le3 X Y (K k) (K (k + 1)) x = 0 → ¬ bef X Y x (K k) ∧ ¬ bef X Y (K (k + 1)) x)) ∧ (∀ k, b ≤ k → k + 2 < z → 0 < le3 X Y (K k) (K (k + 1)) (K (k + 2))) ∧ (∀ x, V x → x = K b ∨ bef X Y (K b) x) ∧ (∀ x, V x → x = K (z - 1) ∨ bef X Y x (K (z - 1)))
theorem CH_add {X Y : Nat → Int} {V : Nat → Prop} {K : Nat → Nat} {b z p : Nat} (h : CH X Y V K b z) (hp : ∀ x, V x → bef X Y x p) (hz : z < 80) : CH X Y (fun x => V x ∨ x = p) (addC X Y p (b + 1) (K, z)).1 b (addC X Y p (b + 1) (K, z)).2 ∧ (addC X Y p (b + 1) (K, z)).2 ≤ z + 1 ∧ (∀ k, k ≤ b → (addC X Y p (b + 1) (K, z)).1 k = K k) := by
  obtain ⟨c1, c2, c3, c4, c5, c6, c7⟩ := h
  obtain ⟨q1, q2, q3, q4⟩ := popC_sp (X := X) (Y := Y) (K := K) (p := p) (kept := b + 1) (by omega) z (by omega)
  have e : addC X Y p (b + 1) (K, z) = (sn K (popC X Y K p (b + 1) z) p, popC X Y K p (b + 1) z + 1) := by
    unfold addC; rw [if_pos (by show popC X Y K p (b + 1) z < 80; omega)]
  rw [e]
  generalize popC X Y K p (b + 1) z = q at *
  have z0 : ∀ x y, le3 X Y x y y = 0 := fun x y => by unfold le3 lo; grind
  have hu : V (K (q - 1)) := c2 _ (by omega) (by omega)
  have K1 : ∀ k, k < q → sn K q p k = K k := fun k hk => sn_ne _ _ (by omega)
  have Kq : sn K q p q = p := sn_eq _ _ _
  -- p is left of the sides that stay
  have left : ∀ (d k : Nat), k + 2 + d = q → b ≤ k → 0 < le3 X Y (K k) (K (k + 1)) p := by
    intro d
    induction d with
    | zero =>
      intro k hk hb
      rcases q4 with w | w
      · omega
      · rw [show q - 2 = k from by omega, show q - 1 = k + 1 from by omega] at w; exact w
    | succ d ih =>
      intro k hk hb
      have a := ih (k + 1) (by omega) (by omega)
      have s := c5 k hb (by omega)
      have g1 : lxp (X (K (k + 1)) - X (K k)) (Y (K (k + 1)) - Y (K k)) := c3 k hb (by omega)
      have g2 : lxp (X (K (k + 2)) - X (K (k + 1))) (Y (K (k + 2)) - Y (K (k + 1))) := c3 (k + 1) (by omega) (by omega)
      have g3 : lxp (X p - X (K (k + 1))) (Y p - Y (K (k + 1))) := hp _ (c2 _ (by omega) (by omega))
      rw [le3_cr2] at s ⊢
      rw [le3_cr] at a
      exact cr_tr1 (lxp_lx0 g1) g2 g3 s (Int.le_of_lt a)
  -- the new side
  have new : ∀ x, V x → 0 ≤ le3 X Y (K (q - 1)) p x := by
    intro x vx
    by_cases hpr : b + 1 < q
    · have w1 := left 0 (q - 2) (by omega) (by omega)
      rw [show q - 2 + 1 = q - 1 from by omega] at w1
      have l1 := (c4 (q - 2) (by omega) (by omega) x vx).1
      rw [show q - 2 + 1 = q - 1 from by omega] at l1
      by_cases hnx : q < z
      · have w2 := q3 hnx
        have l2 := (c4 (q - 1) (by omega) (by omega) x vx).1
        rw [show q - 1 + 1 = q from by omega] at l2
        have s := c5 (q - 2) (by omega) (by omega)
        rw [show q - 2 + 1 = q - 1 from by omega, show q - 2 + 2 = q from by omega] at s
        have i : le3 X Y (K (q - 2)) (K (q - 1)) (K q) * le3 X Y (K (q - 1)) p x = le3 X Y (K (q - 2)) (K (q - 1)) p * le3 X Y (K (q - 1)) (K q) x - le3 X Y (K (q - 1)) (K q) p * le3 X Y (K (q - 2)) (K (q - 1)) x := by unfold le3 lo; grind
        have m1 := Int.mul_nonneg (Int.le_of_lt w1) l2
        have m2 := Int.mul_nonpos_of_nonpos_of_nonneg w2 l1
        exact ge_nn s (by omega)
      · -- the last one of all
        have ql : q = z := by omega
        rcases c7 x vx with hx | hx
        · rw [hx, ql]; rw [le3_ab]; exact Int.le_refl _
        · rw [← ql] at hx
          have g1 : lxp (X (K (q - 1)) - X x) (Y (K (q - 1)) - Y x) := hx
          have g2 : lxp (X (K (q - 1)) - X (K (q - 2))) (Y (K (q - 1)) - Y (K (q - 2))) := by
            have := c3 (q - 2) (by omega) (by omega); rw [show q - 2 + 1 = q - 1 from by omega] at this; exact this
          have g3 : lxp (X p - X (K (q - 1))) (Y p - Y (K (q - 1))) := hp _ hu
          have t := cr_tr (lxp_lx0 g1) g2 (lxp_lx0 g3) (by
            have : le3 X Y (K (q - 2)) (K (q - 1)) x = cr (X (K (q - 1)) - X x) (Y (K (q - 1)) - Y x) (X (K (q - 1)) - X (K (q - 2))) (Y (K (q - 1)) - Y (K (q - 2))) := by unfold le3 lo cr; grind
            omega) (by rw [le3_cr2] at w1; exact Int.le_of_lt w1)
          have : le3 X Y (K (q - 1)) p x = cr (X (K (q - 1)) - X x) (Y (K (q - 1)) - Y x) (X p - X (K (q - 1))) (Y p - Y (K (q - 1))) := by unfold le3 lo cr; grind
          omega
    · have qb : q - 1 = b := by omega
      rcases c6 x vx with hx | hx
      · rw [hx, qb, le3_ab]; exact Int.le_refl _
      · rw [← qb] at hx
        by_cases hnx : q < z
        · have w2 := q3 hnx
          have l2 := (c4 (q - 1) (by omega) (by omega) x vx).1
          rw [show q - 1 + 1 = q from by omega] at l2
          have g1 : lxp (X p - X (K (q - 1))) (Y p - Y (K (q - 1))) := hp _ hu
          have g2 : lxp (X (K q) - X (K (q - 1))) (Y (K q) - Y (K (q - 1))) := by
            have := c3 (q - 1) (by omega) (by omega); rw [show q - 1 + 1 = q from by omega] at this; exact this
          have g3 : lxp (X x - X (K (q - 1))) (Y x - Y (K (q - 1))) := hx
          rw [le3_cr] at w2 l2 ⊢
          exact cr_tr (lxp_lx0 g1) g2 (lxp_lx0 g3) (by rw [cr_sw]; omega) l2
        · rcases c7 x vx with hy | hy
          · rw [hy, show z - 1 = q - 1 from by omega, le3_ab]; exact Int.le_refl _
          · rw [show z - 1 = q - 1 from by omega] at hy; exact (bef_as hx hy).elim
  have newl : ∀ x, V x → le3 X Y (K (q - 1)) p x = 0 → ¬ bef X Y x (K (q - 1)) := by
    intro x vx e0 hx
    by_cases hpr : b + 1 < q
    · have w1 := left 0 (q - 2) (by omega) (by omega)
      rw [show q - 2 + 1 = q - 1 from by omega] at w1
      have l1 := (c4 (q - 2) (by omega) (by omega) x vx).1
      rw [show q - 2 + 1 = q - 1 from by omega] at l1
      have := (col_o (Or.inl ⟨hp _ hu, hx⟩) e0 (K (q - 2))).1 (by rw [show le3 X Y (K (q - 1)) p (K (q - 2)) = le3 X Y (K (q - 2)) (K (q - 1)) p from by unfold le3 lo; grind]; exact w1)
      rw [show le3 X Y (K (q - 1)) x (K (q - 2)) = le3 X Y (K (q - 2)) (K (q - 1)) x from by unfold le3 lo; grind] at this
      omega
    · rw [show q - 1 = b from by omega] at hx
      rcases c6 x vx with hy | hy
      · rw [hy] at hx; exact bef_ir hx
      · exact bef_as hx hy
  refine ⟨⟨by show b < q + 1; omega, ?_, ?_, ?_, ?_, ?_, ?_⟩, by show q + 1 ≤ z + 1; omega, fun k hk => K1 k (by omega)⟩
  · intro k k1 k2
    have k2 : k < q + 1 := k2
    by_cases w : k = q
    · rw [w]; exact Or.inr Kq
    · show V (sn K q p k) ∨ _
      rw [K1 k (by omega)]; exact Or.inl (c2 k k1 (by omega))
  · intro k k1 k2
    have k2 : k + 1 < q + 1 := k2
    show bef X Y (sn K q p k) (sn K q p (k + 1))
    by_cases w : k + 1 = q
    · rw [w, Kq, K1 k (by omega)]; exact hp _ (c2 k k1 (by omega))
    · rw [K1 k (by omega), K1 (k + 1) (by omega)]; exact c3 k k1 (by omega)
  · intro k k1 k2 x hx
    have k2 : k + 1 < q + 1 := k2
    show 0 ≤ le3 X Y (sn K q p k) (sn K q p (k + 1)) x ∧ (le3 X Y (sn K q p k) (sn K q p (k + 1)) x = 0 → ¬ bef X Y x (sn K q p k) ∧ ¬ bef X Y (sn K q p (k + 1)) x)
    by_cases w : k + 1 = q
    · rw [w, Kq, K1 k (by omega), show k = q - 1 from by omega]
      rcases hx with hx | hx
      · exact ⟨new x hx, fun e0 => ⟨newl x hx e0, fun z => bef_as z (hp x hx)⟩⟩
      · rw [hx, z0]; exact ⟨Int.le_refl _, fun _ => ⟨fun z => bef_as z (hp _ hu), bef_ir⟩⟩
    · rw [K1 k (by omega), K1 (k + 1) (by omega)]
      rcases hx with hx | hx
      · exact c4 k k1 (by omega) x hx
      · have := left (q - 2 - k) k (by omega) k1
        rw [hx]; exact ⟨by omega, fun e0 => by omega⟩
  · intro k k1 k2
    have k2 : k + 2 < q + 1 := k2
    show 0 < le3 X Y (sn K q p k) (sn K q p (k + 1)) (sn K q p (k + 2))
    rw [K1 k (by omega), K1 (k + 1) (by omega)]
    by_cases w : k + 2 = q
    · rw [w, Kq]; exact left 0 k (by omega) k1
    · rw [K1 (k + 2) (by omega)]; exact c5 k k1 (by omega)
  · intro x hx
    show x = sn K q p b ∨ bef X Y (sn K q p b) x
    rw [K1 b (by omega)]
    rcases hx with hx | hx
    · exact c6 x hx
    · rw [hx]; exact Or.inr (hp _ (c2 b (Nat.le_refl _) c1))
  · intro x hx
    show x = sn K q p (q + 1 - 1) ∨ bef X Y x (sn K q p (q + 1 - 1))
    rw [show q + 1 - 1 = q from by omega, Kq]
    rcases hx with hx | hx
    · exact Or.inr (hp x hx)
    · exact Or.inl hx
section CHN
variable {X Y : Nat → Int} {O : Nat → Nat}
theorem CH_cg {V W : Nat → Prop} {K : Nat → Nat} {b z : Nat} (h : CH X Y V K b z) (e : ∀ x, V x ↔ W x) : CH X Y W K b z := by
  have : V = W := funext fun x => propext (e x)
  rw [← this]; exact h
/-- the way there -/
theorem fw_CH {N : Nat} (h : srd X Y O N) (hN : N ≤ 40) : ∀ (d i : Nat) (S : (Nat → Nat) × Nat), i + d = N → 1 ≤ i → CH X Y (VO O i) S.1 0 S.2 → S.2 ≤ i → CH X Y (VO O N) (fwC X Y O N i S).1 0 (fwC X Y O N i S).2 ∧ (fwC X Y O N i S).2 ≤ N := by
  intro d
  induction d with
  | zero =>
    intro i S hi _ hC hs
    have : i = N := by omega
    subst this
    rw [fwC_end (Nat.le_refl _)]; exact ⟨hC, hs⟩
  | succ d ih =>
    intro i S hi h1 hC hs
    rw [fwC_go (by omega)]
    obtain ⟨a1, a2, _⟩ := CH_add hC (srd_bef h (by omega)) (by omega)
    have : (fun x => VO O i x ∨ x = O i) = VO O (i + 1) := VO_s O i
    rw [this] at a1
    have a2' : (addC X Y (O i) 1 S).2 ≤ S.2 + 1 := a2
    exact ih (i + 1) _ (by omega) (by omega) a1 (by omega)
theorem fw_all {N : Nat} (h : srd X Y O N) (hN : N ≤ 40) (h1 : 1 ≤ N) (K : Nat → Nat) : CH X Y (VO O N) (fwC X Y O N 0 (K, 0)).1 0 (fwC X Y O N 0 (K, 0)).2 ∧ (fwC X Y O N 0 (K, 0)).2 ≤ N := by
  rw [fwC_go (by omega)]
  have e : addC X Y (O 0) 1 (K, 0) = (sn K 0 (O 0), 1) := by
    unfold addC; rw [show popC X Y K (O 0) 1 0 = 0 from rfl]; rfl
  rw [e]
  refine fw_CH h hN (N - 1) 1 _ (by omega) (by omega) ⟨by show 0 < 1; omega, ?_, ?_, ?_, ?_, ?_, ?_⟩ (by show 1 ≤ 1; omega)
  · intro k _ k2
    have k2 : k < 1 := k2
    have : k = 0 := by omega
    subst this; exact ⟨0, by omega, sn_eq K 0 (O 0)⟩
  · intro k _ k2; have k2 : k + 1 < 1 := k2; omega
  · intro k _ k2; have k2 : k + 1 < 1 := k2; omega
  · intro k _ k2; have k2 : k + 2 < 1 := k2; omega
  · intro x ⟨i, i1, i2⟩
    left; rw [i2, show i = 0 from by omega]; exact (sn_eq K 0 (O 0)).symm
  · intro x ⟨i, i1, i2⟩
    left; rw [i2, show i = 0 from by omega]; exact (sn_eq K 0 (O 0)).symm
/-- turned half around -/
def nX (X : Nat → Int) (i : Nat) : Int := -X i
theorem le3_nX (a b c : Nat) : le3 (nX X) (nX Y) a b c = le3 X Y a b c := by unfold le3 lo nX; grind
theorem bef_nX {a b : Nat} : bef (nX X) (nX Y) a b ↔ bef X Y b a := by unfold bef lxp nX; omega
theorem popC_nX {K : Nat → Nat} {p kept : Nat} : ∀ n, popC (nX X) (nX Y) K p kept n = popC X Y K p kept n := by
  intro n
  induction n with
  | zero => rfl
  | succ n ih => rw [popC, popC, le3_nX, ih]
theorem addC_nX {p kept : Nat} {S : (Nat → Nat) × Nat} : addC (nX X) (nX Y) p kept S = addC X Y p kept S := by unfold addC; rw [popC_nX]
def VR' (O : Nat → Nat) (i N x : Nat) : Prop := ∃ k, i ≤ k ∧ k < N ∧ x = O k
/-- the way back -/
theorem bw_CH {N w : Nat} (h : srd X Y O N) (hw : 1 ≤ w) : ∀ (i : Nat) (S : (Nat → Nat) × Nat), i < N → CH (nX X) (nX Y) (VR' O i N) S.1 (w - 1) S.2 → S.2 + i < 80 → CH (nX X) (nX Y) (VR' O 0 N) (bwC X Y O w i S).1 (w - 1) (bwC X Y O w i S).2 ∧ (bwC X Y O w i S).2 ≤ S.2 + i ∧ ∀ k, k < w → (bwC X Y O w i S).1 k = S.1 k := by
  intro i
  induction i with
  | zero => intro S _ hC _; exact ⟨hC, by show S.2 ≤ S.2 + 0; omega, fun k _ => rfl⟩
  | succ i ih =>
    intro S hi hC hs
    have hp : ∀ x, VR' O (i + 1) N x → bef (nX X) (nX Y) x (O i) := by
      intro x ⟨k, k1, k2, k3⟩
      rw [k3]; exact bef_nX.2 (h i k (by omega) k2)
    obtain ⟨a1, a2, a3⟩ := CH_add hC hp (by omega)
    rw [show w - 1 + 1 = w from by omega, addC_nX] at a1 a2 a3
    have e : ∀ x, (VR' O (i + 1) N x ∨ x = O i) ↔ VR' O i N x := by
      intro x
      constructor
      · intro q; rcases q with ⟨k, k1, k2, k3⟩ | q
        · exact ⟨k, by omega, k2, k3⟩
        · exact ⟨i, Nat.le_refl _, by omega, q⟩
      · intro ⟨k, k1, k2, k3⟩
        by_cases z : k = i
        · subst z; exact Or.inr k3
        · exact Or.inl ⟨k, by omega, k2, k3⟩
    obtain ⟨b1, b2, b3⟩ := ih (addC X Y (O i) w S) (by omega) (CH_cg a1 e) (by have : (addC X Y (O i) w S).2 ≤ S.2 + 1 := a2; omega)
    refine ⟨b1, ?_, fun k hk => ?_⟩
    · have : (addC X Y (O i) w S).2 ≤ S.2 + 1 := a2
      show (bwC X Y O w i (addC X Y (O i) w S)).2 ≤ _
      omega
    · show (bwC X Y O w i (addC X Y (O i) w S)).1 k = _
      rw [b3 k hk]
      exact a3 k (by omega)
/-- the hull, corner by corner: c 0 .. c (m - 1), c m = c 0; the way there up to w - 1 -/
def HL (X Y : Nat → Int) (V : Nat → Prop) (c : Nat → Nat) (m w : Nat) : Prop := 2 ≤ m ∧ c m = c 0 ∧ 2 ≤ w ∧ w ≤ m ∧ (∀ k, k ≤ m → V (c k)) ∧ (∀ k, k < m → ∀ x, V x → 0 ≤ le3 X Y (c k) (c (k + 1)) x ∧ (le3 X Y (c k) (c (k + 1)) x = 0 → x = c k ∨ x = c (k + 1) ∨ btw X Y (c k) (c (k + 1)) x)) ∧ (∀ k, k + 1 < w → bef X Y (c k) (c (k + 1))) ∧ (∀ k, w - 1 ≤ k → k < m → bef X Y (c (k + 1)) (c k)) ∧ (∀ k, k + 2 < w → 0 < le3 X Y (c k) (c (k + 1)) (c (k + 2))) ∧ (∀ k, w - 1 ≤ k → k + 2 ≤ m → 0 < le3 X Y (c k) (c (k + 1)) (c (k + 2)))
theorem hull_HL {N : Nat} (h : srd X Y O N) (hN : N ≤ 40) (h2 : 2 ≤ N) (K : Nat → Nat) : ∃ w, HL X Y (VO O N) (trC X Y O N K).1 (trC X Y O N K).2 w ∧ (trC X Y O N K).1 0 = O 0 ∧ (trC X Y O N K).1 (w - 1) = O (N - 1) := by
  obtain ⟨f1, f2⟩ := fw_all h hN (by omega) K
  unfold trC
  generalize hF : fwC X Y O N 0 (K, 0) = F at *
  have hap := srd_ap h (Nat.le_refl N)
  -- ends of the way there
  have fz : 0 < F.2 := f1.1
  have e0 : F.1 0 = O 0 := by
    rcases f1.2.2.2.2.2.1 (O 0) ⟨0, by omega, rfl⟩ with q | q
    · exact q.symm
    · obtain ⟨i, i1, i2⟩ := f1.2.1 0 (Nat.le_refl _) fz
      rw [i2] at q ⊢
      rcases Nat.eq_zero_or_pos i with z | z
      · rw [z]
      · exact (bef_as (h 0 i z i1) q).elim
  have eN : F.1 (F.2 - 1) = O (N - 1) := by
    rcases f1.2.2.2.2.2.2 (O (N - 1)) ⟨N - 1, by omega, rfl⟩ with q | q
    · exact q.symm
    · obtain ⟨i, i1, i2⟩ := f1.2.1 (F.2 - 1) (by omega) (by omega)
      rw [i2] at q ⊢
      rcases Nat.lt_or_ge i (N - 1) with z | z
      · exact (bef_as (h i (N - 1) z (by omega)) q).elim
      · rw [show i = N - 1 from by omega]
  have w2 : 2 ≤ F.2 := by
    rcases Nat.lt_or_ge F.2 2 with z | z
    · rw [show F.2 - 1 = 0 from by omega, e0] at eN
      exact (srd_ne h (by omega) (by omega) (by omega) eN).elim
    · exact z
  have start : CH (nX X) (nX Y) (VR' O (N - 1) N) F.1 (F.2 - 1) F.2 := by
    refine ⟨by omega, ?_, ?_, ?_, ?_, ?_, ?_⟩
    · intro k k1 k2; exact ⟨N - 1, Nat.le_refl _, by omega, by rw [show k = F.2 - 1 from by omega]; exact eN⟩
    · intro k k1 k2; omega
    · intro k k1 k2; omega
    · intro k k1 k2; omega
    · intro x ⟨k, k1, k2, k3⟩; left; rw [k3, eN, show k = N - 1 from by omega]
    · intro x ⟨k, k1, k2, k3⟩; left; rw [k3, eN, show k = N - 1 from by omega]
  obtain ⟨b1, b2, b3⟩ := bw_CH h (w := F.2) (by omega) (N - 1) F (by omega) start (by omega)
  generalize hB : bwC X Y O F.2 (N - 1) F = B at *
  have eq : ∀ x, VR' O 0 N x ↔ VO O N x := fun x => ⟨fun ⟨k, _, k2, k3⟩ => ⟨k, k2, k3⟩, fun ⟨k, k2, k3⟩ => ⟨k, by omega, k2, k3⟩⟩
  have g1 := CH_cg b1 eq
  have bz : F.2 - 1 < B.2 := b1.1
  have c0 : B.1 0 = O 0 := by rw [b3 0 (by omega)]; exact e0
  have cw : B.1 (F.2 - 1) = O (N - 1) := by rw [b3 _ (by omega)]; exact eN
  have cz : B.1 (B.2 - 1) = O 0 := by
    rcases g1.2.2.2.2.2.2 (O 0) ⟨0, by omega, rfl⟩ with q | q
    · exact q.symm
    · obtain ⟨i, i1, i2⟩ := g1.2.1 (B.2 - 1) (by omega) (by omega)
      rw [i2] at q ⊢
      rcases Nat.eq_zero_or_pos i with z | z
      · rw [z]
      · exact (bef_as (h 0 i z i1) (bef_nX.1 q)).elim
  have z1 : F.2 < B.2 := by
    rcases Nat.lt_or_ge F.2 B.2 with z | z
    · exact z
    · rw [show B.2 - 1 = F.2 - 1 from by omega, cw] at cz
      exact (srd_ne h (by omega) (by omega) (by omega) cz).elim
  have hcut : cut1 B.2 = B.2 - 1 := cut1_pos (by omega)
  refine ⟨F.2, ⟨by show 2 ≤ cut1 B.2; omega, by show B.1 (cut1 B.2) = B.1 0; rw [hcut, cz, c0], w2, by show F.2 ≤ cut1 B.2; omega, ?_, ?_, ?_, ?_, ?_, ?_⟩, c0, cw⟩
  · intro k hk
    have hk : k ≤ cut1 B.2 := hk
    by_cases q : k < F.2
    · show VO O N (B.1 k); rw [b3 k q]; exact f1.2.1 k (Nat.zero_le _) q
    · exact g1.2.1 k (by omega) (by omega)
  · intro k hk x vx
    have hk : k < cut1 B.2 := hk
    show 0 ≤ le3 X Y (B.1 k) (B.1 (k + 1)) x ∧ (le3 X Y (B.1 k) (B.1 (k + 1)) x = 0 → x = B.1 k ∨ x = B.1 (k + 1) ∨ btw X Y (B.1 k) (B.1 (k + 1)) x)
    by_cases q : k + 1 < F.2
    · have a := f1.2.2.2.1 k (Nat.zero_le _) q x vx
      have v1 := f1.2.1 k (Nat.zero_le _) (by omega); have v2 := f1.2.1 (k + 1) (Nat.zero_le _) q
      rw [b3 k (by omega), b3 (k + 1) q]
      refine ⟨a.1, fun e => ?_⟩
      by_cases n1 : x = F.1 k
      · exact Or.inl n1
      by_cases n2 : x = F.1 (k + 1)
      · exact Or.inr (Or.inl n2)
      right; right; left
      have a2 := a.2 e
      rcases bef_V hap vx v1 n1 with z | z
      · exact (a2.1 z).elim
      · rcases bef_V hap vx v2 n2 with y | y
        · exact ⟨z, y⟩
        · exact (a2.2 y).elim
    · have a := g1.2.2.2.1 k (by omega) (by omega) x vx
      rw [le3_nX] at a
      have v1 := g1.2.1 k (by omega) (by omega); have v2 := g1.2.1 (k + 1) (by omega) (by omega)
      refine ⟨a.1, fun e => ?_⟩
      by_cases n1 : x = B.1 k
      · exact Or.inl n1
      by_cases n2 : x = B.1 (k + 1)
      · exact Or.inr (Or.inl n2)
      right; right; right
      have a2 := a.2 e
      rcases bef_V hap vx v1 n1 with z | z
      · rcases bef_V hap vx v2 n2 with y | y
        · exact (a2.2 (bef_nX.2 y)).elim
        · exact ⟨y, z⟩
      · exact (a2.1 (bef_nX.2 z)).elim
  · intro k hk
    show bef X Y (B.1 k) (B.1 (k + 1))
    rw [b3 k (by omega), b3 (k + 1) hk]; exact f1.2.2.1 k (Nat.zero_le _) hk
  · intro k k1 hk
    have hk : k < cut1 B.2 := hk
    exact bef_nX.1 (g1.2.2.1 k k1 (by omega))
  · intro k hk
    show 0 < le3 X Y (B.1 k) (B.1 (k + 1)) (B.1 (k + 2))
    rw [b3 k (by omega), b3 (k + 1) (by omega), b3 (k + 2) hk]; exact f1.2.2.2.2.1 k (Nat.zero_le _) hk
  · intro k k1 hk
    have hk : k + 2 ≤ cut1 B.2 := hk
    have := g1.2.2.2.2.1 k k1 (by omega)
    rw [le3_nX] at this; exact this
end CHN
