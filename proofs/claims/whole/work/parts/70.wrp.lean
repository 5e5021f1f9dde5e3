/-! the hull by wrapping is the hull by chains -/
section WRP
variable {X Y : Nat → Int} {T : Nat → Bool} {pn : Nat}
theorem par_dot {a b c d : Int} (h1 : lxp a b) (h2 : lxp c d) (h : cr a b c d = 0) : 0 < a * c + b * d := by
  have sq2 : ∀ z : Int, 0 ≤ z * z := fun z => by
    rcases Int.le_total 0 z with q | q
    · exact Int.mul_nonneg q q
    · exact Int.mul_nonneg_of_nonpos_of_nonpos q q
  rcases h1 with q | ⟨q, q2⟩
  · have c0 : 0 < c := by
      rcases h2 with w | ⟨w, w2⟩
      · exact w
      · subst w
        have := Int.mul_pos q w2
        unfold cr at h; omega
    have i : a * (a * c + b * d) = c * (a * a + b * b) := by unfold cr at h; grind
    have := Int.mul_pos q q
    have := sq2 b
    have := Int.mul_pos c0 (show 0 < a * a + b * b by omega)
    exact ge_pos q (by omega)
  · subst q
    have c0 : c = 0 := ge_z q2 (by unfold cr at h; omega)
    have d0 : 0 < d := by unfold lxp at h2; omega
    have := Int.mul_pos q2 d0
    omega
/-- between: nearer -/
theorem btw_sq {u v x : Nat} (hb : btw X Y u v x) (h0 : le3 X Y u v x = 0) : sq X Y x (X u) (Y u) < sq X Y v (X u) (Y u) := by
  have key : ∀ e1 e2 f1 f2 : Int, lxp e1 e2 → lxp f1 f2 → cr e1 e2 f1 f2 = 0 → e1 * e1 + e2 * e2 < (e1 + f1) * (e1 + f1) + (e2 + f2) * (e2 + f2) := by
    intro e1 e2 f1 f2 h1 h2 h3
    have d := par_dot h1 h2 h3
    have p := sq_pos (x := f1) (y := f2) (fun z => by unfold lxp at h2; omega)
    have i : (e1 + f1) * (e1 + f1) + (e2 + f2) * (e2 + f2) = (e1 * e1 + e2 * e2) + (f1 * f1 + f2 * f2) + (e1 * f1 + e2 * f2) + (e1 * f1 + e2 * f2) := by grind
    omega
  rcases hb with ⟨a, b⟩ | ⟨a, b⟩
  · have := key (X x - X u) (Y x - Y u) (X v - X x) (Y v - Y x) a b (by unfold le3 lo at h0; unfold cr; grind)
    unfold sq
    rw [show X x - X u + (X v - X x) = X v - X u from by omega, show Y x - Y u + (Y v - Y x) = Y v - Y u from by omega] at this
    exact this
  · have := key (X u - X x) (Y u - Y x) (X x - X v) (Y x - Y v) b a (by unfold le3 lo at h0; unfold cr; grind)
    unfold sq
    rw [show X u - X x + (X x - X v) = X u - X v from by omega, show Y u - Y x + (Y x - Y v) = Y u - Y v from by omega] at this
    have i1 : (X x - X u) * (X x - X u) + (Y x - Y u) * (Y x - Y u) = (X u - X x) * (X u - X x) + (Y u - Y x) * (Y u - Y x) := by grind
    have i2 : (X v - X u) * (X v - X u) + (Y v - Y u) * (Y v - Y u) = (X u - X v) * (X u - X v) + (Y u - Y v) * (Y u - Y v) := by grind
    omega
/-- the next corner -/
theorem nxc_is {p q : Nat} (hq : q < pn) (hTq : T q = true) (hqp : q ≠ p) (H : ∀ x, x < pn → T x = true → x ≠ p → x ≠ q → (0 < le3 X Y p q x ∨ (le3 X Y p q x = 0 ∧ sq X Y x (X p) (Y p) < sq X Y q (X p) (Y p)))) : nxc X Y T pn p = (q : Int) := by
  have loop : ∀ (d i : Nat) (best : Int), i + d = pn → (i ≤ q → best = -1 ∨ ∃ x : Nat, best = (x : Int) ∧ x < pn ∧ T x = true ∧ x ≠ p ∧ x ≠ q) → (q < i → best = (q : Int)) → ncS X Y T pn p i best = (q : Int) := by
    intro d
    induction d with
    | zero => intro i best hi _ h2; rw [ncS_end (by omega)]; exact h2 (by omega)
    | succ d ih =>
      intro i best hi h1 h2
      rcases Nat.lt_trichotomy i q with z | z | z
      · cases hc : (T i && (decide (i ≠ p) && (decide (best < 0) || (decide (trn X Y p best.toNat i < 0) || (decide (trn X Y p best.toNat i = 0) && decide (sq X Y best.toNat (X p) (Y p) < sq X Y i (X p) (Y p))))))) with
        | true =>
          rw [ncS_hit (by omega) hc]
          simp only [Bool.and_eq_true, decide_eq_true_eq] at hc
          exact ih (i + 1) _ (by omega) (fun _ => Or.inr ⟨i, rfl, by omega, hc.1, hc.2.1, by omega⟩) (by omega)
        | false =>
          rw [ncS_no (by omega) hc]
          exact ih (i + 1) _ (by omega) (fun _ => h1 (by omega)) (by omega)
      · subst z
        have hc : (T i && (decide (i ≠ p) && (decide (best < 0) || (decide (trn X Y p best.toNat i < 0) || (decide (trn X Y p best.toNat i = 0) && decide (sq X Y best.toNat (X p) (Y p) < sq X Y i (X p) (Y p))))))) = true := by
          rw [hTq, decide_eq_true hqp]
          rcases h1 (Nat.le_refl _) with w | ⟨x, w, x1, x2, x3, x4⟩
          · rw [decide_eq_true (show best < 0 by omega)]; rfl
          · rw [w, Int.toNat_natCast]
            have f : le3 X Y p x i = -le3 X Y p i x := le3_n _ _ _
            rcases H x x1 x2 x3 x4 with y | ⟨y1, y2⟩
            · rw [decide_eq_true (trn_lt.2 (show le3 X Y p x i < 0 by omega))]; simp
            · rw [decide_eq_true (trn_z.2 (show le3 X Y p x i = 0 by omega)), decide_eq_true y2]; simp
        rw [ncS_hit (by omega) hc]
        exact ih (i + 1) _ (by omega) (by omega) (fun _ => rfl)
      · have hb := h2 z
        have hc : (T i && (decide (i ≠ p) && (decide (best < 0) || (decide (trn X Y p best.toNat i < 0) || (decide (trn X Y p best.toNat i = 0) && decide (sq X Y best.toNat (X p) (Y p) < sq X Y i (X p) (Y p))))))) = false := by
          cases hT : T i with
          | false => rfl
          | true =>
            by_cases ip : i = p
            · rw [decide_eq_false (show ¬ i ≠ p from fun w => w ip)]; rfl
            · rw [hb, Int.toNat_natCast, decide_eq_false (show ¬ ((q : Int) < 0) by omega)]
              rcases H i (by omega) hT ip (by omega) with y | ⟨y1, y2⟩
              · rw [decide_eq_false (p := trn X Y p q i < 0) (fun w => by have := trn_lt.1 w; omega), decide_eq_false (p := trn X Y p q i = 0) (fun w => by have := trn_z.1 w; omega)]; simp
              · rw [decide_eq_false (p := trn X Y p q i < 0) (fun w => by have := trn_lt.1 w; omega), decide_eq_false (p := sq X Y q (X p) (Y p) < sq X Y i (X p) (Y p)) (by omega)]; simp
        rw [ncS_no (by omega) hc]
        exact ih (i + 1) _ (by omega) (by omega) (fun _ => hb)
  exact loop pn 0 (-1) (by omega) (fun _ => Or.inl rfl) (by omega)
theorem HL_up {V : Nat → Prop} {c : Nat → Nat} {m w : Nat} (h : HL X Y V c m w) : ∀ (d a : Nat), a + 1 + d < w → bef X Y (c a) (c (a + 1 + d)) := by
  intro d
  induction d with
  | zero => intro a ha; exact h.2.2.2.2.2.2.1 a ha
  | succ d ih => intro a ha; exact bef_tr (ih a (by omega)) (h.2.2.2.2.2.2.1 (a + 1 + d) ha)
theorem HL_dn {V : Nat → Prop} {c : Nat → Nat} {m w : Nat} (h : HL X Y V c m w) : ∀ (d a : Nat), w - 1 ≤ a → a + 1 + d ≤ m → bef X Y (c (a + 1 + d)) (c a) := by
  intro d
  induction d with
  | zero => intro a h1 ha; exact h.2.2.2.2.2.2.2.1 a h1 (by omega)
  | succ d ih => intro a h1 ha; exact bef_tr (h.2.2.2.2.2.2.2.1 (a + 1 + d) (by omega) (by omega)) (ih a h1 (by omega))
theorem HL_inj {V : Nat → Prop} {c : Nat → Nat} {m w : Nat} (h : HL X Y V c m w) : inj c m := by
  have lt : ∀ a b, a < b → b < m → c a ≠ c b := by
    intro a b hab hb e
    by_cases h1 : b < w
    · have := HL_up h (b - a - 1) a (by omega)
      rw [show a + 1 + (b - a - 1) = b from by omega, e] at this; exact bef_ir this
    · by_cases h2 : w - 1 ≤ a
      · have := HL_dn h (b - a - 1) a h2 (by omega)
        rw [show a + 1 + (b - a - 1) = b from by omega, e] at this; exact bef_ir this
      · rcases Nat.eq_zero_or_pos a with z | z
        · have := HL_dn h (m - b - 1) b (by omega) (by omega)
          rw [show b + 1 + (m - b - 1) = m from by omega, h.2.1, ← e, z] at this; exact bef_ir this
        · obtain ⟨_, hm0, _, _, hV, hs, hu, hd, hsu, hsd⟩ := h
          have s1 := hsu (a - 1) (by omega)
          rw [show a - 1 + 1 = a from by omega, show a - 1 + 2 = a + 1 from by omega] at s1
          have s2 := hsd (b - 1) (by omega) (by omega)
          rw [show b - 1 + 1 = b from by omega, show b - 1 + 2 = b + 1 from by omega, ← e] at s2
          have u1 := hu (a - 1) (by omega); rw [show a - 1 + 1 = a from by omega] at u1
          have u2 := hu a (by omega)
          have d1 := hd (b - 1) (by omega) (by omega); rw [show b - 1 + 1 = b from by omega, ← e] at d1
          have d2 := hd b (by omega) (by omega); rw [← e] at d2
          have l1 := (hs (a - 1) (by omega) (c (b + 1)) (hV _ (by omega))).1
          rw [show a - 1 + 1 = a from by omega] at l1
          have l2 := (hs a (by omega) (c (b - 1)) (hV _ (by omega))).1
          have g1 : lxp (X (c a) - X (c (b + 1))) (Y (c a) - Y (c (b + 1))) := d2
          have g2 : lxp (X (c a) - X (c (a - 1))) (Y (c a) - Y (c (a - 1))) := u1
          have g3 : lxp (X (c (a + 1)) - X (c a)) (Y (c (a + 1)) - Y (c a)) := u2
          have g4 : lxp (X (c (b - 1)) - X (c a)) (Y (c (b - 1)) - Y (c a)) := d1
          have k1 : le3 X Y (c (a - 1)) (c a) (c (b + 1)) = cr (X (c a) - X (c (b + 1))) (Y (c a) - Y (c (b + 1))) (X (c a) - X (c (a - 1))) (Y (c a) - Y (c (a - 1))) := by unfold le3 lo cr; grind
          have k2 : le3 X Y (c (b - 1)) (c a) (c (b + 1)) = -cr (X (c a) - X (c (b + 1))) (Y (c a) - Y (c (b + 1))) (X (c (b - 1)) - X (c a)) (Y (c (b - 1)) - Y (c a)) := by unfold le3 lo cr; grind
          rw [le3_cr2] at s1
          rw [le3_cr] at l2
          have t1 := cr_tr2 g1 g2 (lxp_lx0 g3) (by omega) s1
          have t2 := cr_tr1 (lxp_lx0 g1) g3 g4 t1 l2
          omega
  intro a b ha hb e
  rcases Nat.lt_trichotomy a b with q | q | q
  · exact (lt a b q hb e).elim
  · exact q
  · exact (lt b a q ha e.symm).elim
/-- wrapping goes round -/
theorem hlw_is {nx : Nat → Int} {c : Nat → Nat} {m : Nat} (hin : inj c m) (hm : c m = c 0) (hnx : ∀ k, k < m → nx (c k) = (c (k + 1) : Int)) : ∀ (d k fuel : Nat) (Q : QH), k + d = m → 1 ≤ k → d < fuel → Q.2 = k → (∀ j, j < k → Q.1 j = c j) → ∃ R, hlw nx (c 0) fuel (c k : Int) Q = some R ∧ R.2 = m ∧ ∀ j, j < m → R.1 j = c j := by
  intro d
  induction d with
  | zero =>
    intro k fuel Q hk k1 hf hQ hj
    have : k = m := by omega
    subst this
    obtain ⟨f, rfl⟩ : ∃ f, fuel = f + 1 := ⟨fuel - 1, by omega⟩
    exact ⟨Q, by rw [hlw, if_pos (by rw [hm])], hQ, hj⟩
  | succ d ih =>
    intro k fuel Q hk k1 hf hQ hj
    obtain ⟨f, rfl⟩ : ∃ f, fuel = f + 1 := ⟨fuel - 1, by omega⟩
    have ne : c k ≠ c 0 := fun e => by have := hin _ _ (by omega) (by omega) e; omega
    rw [hlw, if_neg (by omega), if_neg (by omega), Int.toNat_natCast, hnx k (by omega)]
    refine ih (k + 1) f _ (by omega) (by omega) (by omega) (by show Q.2 + 1 = k + 1; omega) ?_
    intro j hj'
    show sn Q.1 Q.2 (c k) j = c j
    by_cases z : j = k
    · rw [z, hQ, sn_eq]
    · rw [sn_ne _ _ (by omega)]; exact hj j (by omega)
/-- first and last -/
def flI (X Y : Nat → Int) (T : Nat → Bool) (i : Nat) (f l : Int) : Prop := ((f = -1 ∧ l = -1 ∧ ∀ x, x < i → T x = false) ∨ ∃ a b : Nat, f = (a : Int) ∧ l = (b : Int) ∧ a < i ∧ b < i ∧ T a = true ∧ T b = true ∧ (∀ x, x < i → T x = true → ¬ bef X Y x a) ∧ ∀ x, x < i → T x = true → ¬ bef X Y b x)
theorem fla_I : ∀ (d i : Nat) (f l : Int), i + d = pn → flI X Y T i f l → flI X Y T pn (fla X Y T pn i f l).1 (fla X Y T pn i f l).2 := by
  intro d
  induction d with
  | zero =>
    intro i f l hi h
    rw [fla_end (by omega)]
    have : i = pn := by omega
    subst this; exact h
  | succ d ih =>
    intro i f l hi h
    cases hT : T i with
    | false =>
      rw [fla_no (by omega) hT]
      refine ih (i + 1) f l (by omega) ?_
      rcases h with ⟨h1, h2, h3⟩ | ⟨a, b, h1, h2, h3, h4, h5, h6, h7, h8⟩
      · left; refine ⟨h1, h2, fun x hx => ?_⟩
        by_cases z : x = i
        · rw [z]; exact hT
        · exact h3 x (by omega)
      · right; refine ⟨a, b, h1, h2, by omega, by omega, h5, h6, fun x hx tx => ?_, fun x hx tx => ?_⟩
        · by_cases z : x = i
          · rw [z, hT] at tx; cases tx
          · exact h7 x (by omega) tx
        · by_cases z : x = i
          · rw [z, hT] at tx; cases tx
          · exact h8 x (by omega) tx
    | true =>
      rw [fla_go (by omega) hT rfl rfl]
      refine ih (i + 1) _ _ (by omega) ?_
      rcases h with ⟨h1, h2, h3⟩ | ⟨a, b, h1, h2, h3, h4, h5, h6, h7, h8⟩
      · right
        rw [if_pos (Or.inl (by omega)), if_pos (Or.inl (by omega))]
        have on : ∀ x, x < i + 1 → T x = true → x = i := fun x hx tx => by
          by_cases z : x = i
          · exact z
          · rw [h3 x (by omega)] at tx; cases tx
        exact ⟨i, i, rfl, rfl, by omega, by omega, hT, hT, fun x hx tx => by rw [on x hx tx]; exact bef_ir, fun x hx tx => by rw [on x hx tx]; exact bef_ir⟩
      · right
        rw [h1, h2, Int.toNat_natCast, Int.toNat_natCast]
        have fa : ∃ a' : Nat, (if (a : Int) < 0 ∨ ear X Y i a = true then (i : Int) else (a : Int)) = (a' : Int) ∧ a' < i + 1 ∧ T a' = true ∧ ∀ x, x < i + 1 → T x = true → ¬ bef X Y x a' := by
          by_cases q : ear X Y i a = true
          · rw [if_pos (Or.inr q)]
            refine ⟨i, rfl, by omega, hT, fun x hx tx w => ?_⟩
            by_cases z : x = i
            · rw [z] at w; exact bef_ir w
            · exact h7 x (by omega) tx (bef_tr w (ear_bef.1 q))
          · rw [if_neg (by intro w; rcases w with w | w; omega; exact q w)]
            refine ⟨a, rfl, by omega, h5, fun x hx tx w => ?_⟩
            by_cases z : x = i
            · rw [z] at w; exact q (ear_bef.2 w)
            · exact h7 x (by omega) tx w
        have lb : ∃ b' : Nat, (if (b : Int) < 0 ∨ ear X Y b i = true then (i : Int) else (b : Int)) = (b' : Int) ∧ b' < i + 1 ∧ T b' = true ∧ ∀ x, x < i + 1 → T x = true → ¬ bef X Y b' x := by
          by_cases q : ear X Y b i = true
          · rw [if_pos (Or.inr q)]
            refine ⟨i, rfl, by omega, hT, fun x hx tx w => ?_⟩
            by_cases z : x = i
            · rw [z] at w; exact bef_ir w
            · exact h8 x (by omega) tx (bef_tr (ear_bef.1 q) w)
          · rw [if_neg (by intro w; rcases w with w | w; omega; exact q w)]
            refine ⟨b, rfl, by omega, h6, fun x hx tx w => ?_⟩
            by_cases z : x = i
            · rw [z] at w; exact q (ear_bef.2 w)
            · exact h8 x (by omega) tx w
        obtain ⟨a', a1, a2, a3, a4⟩ := fa
        obtain ⟨b', b1, b2, b3, b4⟩ := lb
        exact ⟨a', b', a1, b1, a2, b2, a3, b3, a4, b4⟩
theorem ff_some {P : Nat → Bool} {n i : Nat} : (ff P n i).isSome = true ↔ ∃ q, i ≤ q ∧ q < n ∧ P q = true := by
  cases hf : ff P n i with
  | none =>
    constructor
    · intro z; cases z
    · intro ⟨q, q1, q2, q3⟩
      have := ff_none n i (by omega) hf q q1 q2
      rw [this] at q3; cases q3
  | some c =>
    have := ff_lt n i (by omega) c hf
    exact ⟨fun _ => ⟨c, this.1, this.2.1, this.2.2.1⟩, fun _ => rfl⟩
theorem nf1_iff : nf1 X Y T pn 0 = true ↔ ∃ a b c, a < b ∧ b < c ∧ c < pn ∧ T a = true ∧ T b = true ∧ T c = true ∧ le3 X Y a b c ≠ 0 := by
  unfold nf1 nf2 nf3
  rw [ff_some]
  constructor
  · intro ⟨a, _, a2, a3⟩
    obtain ⟨b, b1, b2, b3⟩ := ff_some.1 a3
    obtain ⟨c, c1, c2, c3⟩ := ff_some.1 b3
    unfold f3P at c3
    simp only [Bool.and_eq_true, decide_eq_true_eq] at c3
    exact ⟨a, b, c, by omega, by omega, c2, c3.1, c3.2.1, c3.2.2.1, fun z => c3.2.2.2 (trn_z.2 z)⟩
  · intro ⟨a, b, c, h1, h2, h3, t1, t2, t3, h4⟩
    refine ⟨a, by omega, by omega, ff_some.2 ⟨b, by omega, by omega, ff_some.2 ⟨c, by omega, h3, ?_⟩⟩⟩
    unfold f3P
    rw [t1, t2, t3, decide_eq_true (show trn X Y a b c ≠ 0 from fun z => h4 (trn_z.1 z))]; rfl
variable {O : Nat → Nat}
/-- V is the first N of the order, and those below pn that are there -/
def VT (T : Nat → Bool) (pn : Nat) (O : Nat → Nat) (N : Nat) : Prop := ∀ x, VO O N x ↔ x < pn ∧ T x = true
theorem flat_eq {N : Nat} (h : srd X Y O N) (hv : VT T pn O N) : (!(nf1 X Y T pn 0)) = decide (N ≤ fol X Y O N) := by
  by_cases hf : fol X Y O N < N
  · obtain ⟨a2, hz, hl⟩ := fol_sp hf
    rw [decide_eq_false (by omega)]
    have : nf1 X Y T pn 0 = true := by
      rw [nf1_iff]
      generalize fol X Y O N = f at *
      have n1 : O 0 ≠ O 1 := srd_ne h (by omega) (by omega) (by omega)
      have n2 : O 0 ≠ O f := srd_ne h (by omega) (by omega) (by omega)
      have n3 : O 1 ≠ O f := srd_ne h (by omega) (by omega) (by omega)
      have v1 := (hv (O 0)).1 ⟨0, by omega, rfl⟩
      have v2 := (hv (O 1)).1 ⟨1, by omega, rfl⟩
      have v3 := (hv (O f)).1 ⟨f, hf, rfl⟩
      generalize O 0 = x at *
      generalize O 1 = y at *
      generalize O f = z at *
      have s1 : le3 X Y y x z = -le3 X Y x y z := by unfold le3 lo; grind
      have s2 : le3 X Y x z y = -le3 X Y x y z := by unfold le3 lo; grind
      have s3 : le3 X Y z y x = -le3 X Y x y z := by unfold le3 lo; grind
      have s4 : le3 X Y y z x = le3 X Y x y z := by unfold le3 lo; grind
      have s5 : le3 X Y z x y = le3 X Y x y z := by unfold le3 lo; grind
      by_cases c1 : x < y
      · by_cases c2 : y < z
        · exact ⟨x, y, z, c1, c2, v3.1, v1.2, v2.2, v3.2, hz⟩
        · by_cases c3 : x < z
          · exact ⟨x, z, y, c3, by omega, v2.1, v1.2, v3.2, v2.2, by omega⟩
          · exact ⟨z, x, y, by omega, c1, v2.1, v3.2, v1.2, v2.2, by omega⟩
      · by_cases c2 : x < z
        · exact ⟨y, x, z, by omega, c2, v3.1, v2.2, v1.2, v3.2, by omega⟩
        · by_cases c3 : y < z
          · exact ⟨y, z, x, c3, by omega, v1.1, v2.2, v3.2, v1.2, by omega⟩
          · exact ⟨z, y, x, by omega, by omega, v1.1, v3.2, v2.2, v1.2, by omega⟩
    rw [this]; rfl
  · rw [decide_eq_true (by omega)]
    cases hn : nf1 X Y T pn 0 with
    | false => rfl
    | true =>
      exfalso
      obtain ⟨a, b, c, h1, h2, h3, t1, t2, t3, h4⟩ := nf1_iff.1 hn
      obtain ⟨i, i1, i2⟩ := (hv a).2 ⟨by omega, t1⟩
      obtain ⟨j, j1, j2⟩ := (hv b).2 ⟨by omega, t2⟩
      obtain ⟨k, k1, k2⟩ := (hv c).2 ⟨h3, t3⟩
      have N2 : 2 ≤ N := by
        rcases Nat.lt_or_ge N 2 with z | z
        · have : i = j := by omega
          subst this; omega
        · exact z
      have hl : ∀ i, i < N → le3 X Y (O 0) (O 1) (O i) = 0 := by
        intro i hi
        by_cases q : 2 ≤ i
        · unfold fol at hf
          cases hq : ff (offP X Y O) N 2 with
          | some a => rw [hq] at hf; have := ff_lt N 2 (by omega) a hq; exact absurd this.2.1 hf
          | none => have := ff_none N 2 (by omega) hq i q hi; unfold offP at this; simpa using this
        · have : i = 0 ∨ i = 1 := by omega
          rcases this with rfl | rfl
          · exact le3_ab _ _
          · exact le3_bb _ _
      apply h4
      rw [i2, j2, k2]
      exact line_all h (Nat.le_refl _) N2 hl i1 j1 k1
theorem fla_ends {N : Nat} (h : srd X Y O N) (hv : VT T pn O N) : fla X Y T pn 0 (-1) (-1) = if N = 0 then (-1, -1) else ((O 0 : Int), (O (N - 1) : Int)) := by
  have f := fla_I (X := X) (Y := Y) (T := T) (pn := pn) pn 0 (-1) (-1) (by omega) (Or.inl ⟨rfl, rfl, fun x hx => by omega⟩)
  by_cases n0 : N = 0
  · rw [if_pos n0]
    rcases f with ⟨f1, f2, _⟩ | ⟨a, b, _, _, a3, _, a5, _⟩
    · exact Prod.ext f1 f2
    · obtain ⟨i, i1, _⟩ := (hv a).2 ⟨a3, a5⟩; omega
  · rw [if_neg n0]
    have v0 := (hv (O 0)).1 ⟨0, by omega, rfl⟩
    have vN := (hv (O (N - 1))).1 ⟨N - 1, by omega, rfl⟩
    rcases f with ⟨_, _, f3⟩ | ⟨a, b, a1, a2, a3, a4, a5, a6, a7, a8⟩
    · rw [f3 _ v0.1] at v0; cases v0.2
    · obtain ⟨i, i1, i2⟩ := (hv a).2 ⟨a3, a5⟩
      obtain ⟨j, j1, j2⟩ := (hv b).2 ⟨a4, a6⟩
      have ia : i = 0 := by
        rcases Nat.eq_zero_or_pos i with z | z
        · exact z
        · exact (a7 _ v0.1 v0.2 (by rw [i2]; exact h 0 i z i1)).elim
      have jb : j = N - 1 := by
        rcases Nat.lt_or_ge j (N - 1) with z | z
        · exact (a8 _ vN.1 vN.2 (by rw [j2]; exact h j (N - 1) z (by omega))).elim
        · omega
      rw [ia] at i2; rw [jb] at j2
      exact Prod.ext (by rw [a1, i2]) (by rw [a2, j2])
/-- the class's hull is the reference's -/
theorem hull_eq {N : Nat} (h : srd X Y O N) (hN : N ≤ 40) (hO : ∀ i, O i < 40) (hv : VT T pn O N) (K Hu : Nat → Nat) : hulOk X Y T pn (!(nf1 X Y T pn 0)) Hu ∧ (hulQ X Y T pn (!(nf1 X Y T pn 0)) Hu).2 = (trC X Y O N K).2 ∧ (∀ k, k < (trC X Y O N K).2 → (hulQ X Y T pn (!(nf1 X Y T pn 0)) Hu).1 k = (trC X Y O N K).1 k) ∧ inj (trC X Y O N K).1 (trC X Y O N K).2 := by
  have hfl := fla_ends h hv
  rw [flat_eq h hv]
  by_cases n0 : N = 0
  · rw [if_pos n0] at hfl
    have e : (trC X Y O N K).2 = 0 := by
      unfold trC; rw [n0, fwC_end (Nat.le_refl _)]; rfl
    refine ⟨fun z => by rw [hfl] at z; exact absurd z (by decide), ?_, fun k hk => by omega, fun a b ha => by omega⟩
    unfold hulQ; rw [hfl, if_pos (by decide), e]
  · rw [if_neg n0] at hfl
    by_cases n1 : N = 1
    · have e : trC X Y O N K = (sn K 0 (O 0), 1) := by
        subst n1
        unfold trC
        rw [fwC_go (by omega), fwC_end (Nat.le_refl _)]
        have e1 : addC X Y (O 0) 1 (K, 0) = (sn K 0 (O 0), 1) := by
          unfold addC; rw [show popC X Y K (O 0) 1 0 = 0 from rfl]; rfl
        rw [e1]; rfl
      have fl1 : decide (N ≤ fol X Y O N) = true := by
        refine decide_eq_true ?_
        unfold fol; rw [ff_end (by omega), n1]; exact Nat.le_refl _
      rw [fl1, e]
      have q : hulQ X Y T pn true Hu = (sn (sn Hu 0 (O 0)) 1 (O 0), 1) := by
        unfold hulQ
        rw [hfl, n1]
        rw [if_neg (by show ¬ ((O 0 : Int) < 0); omega), if_pos rfl]
        show (sn (sn Hu 0 ((O 0 : Int).toNat)) 1 ((O (1 - 1) : Int).toNat), if (O 0 : Int) = (O (1 - 1) : Int) then 1 else 2) = _
        rw [if_pos (by rw [show 1 - 1 = 0 from rfl]), show 1 - 1 = 0 from rfl, Int.toNat_natCast]
      rw [q]
      refine ⟨fun _ z => Bool.noConfusion z, rfl, fun k hk => ?_, fun a b ha hb _ => ?_⟩
      rotate_left
      · have ha : a < 1 := ha
        have hb : b < 1 := hb
        omega
      have hk : k < 1 := hk
      show sn (sn Hu 0 (O 0)) 1 (O 0) k = sn K 0 (O 0) k
      rw [show k = 0 from by omega, sn_ne _ _ (by omega), sn_eq, sn_eq]
    · obtain ⟨w, hH, c0, cw⟩ := hull_HL h hN (by omega) K
      have hin := HL_inj hH
      generalize hC : (trC X Y O N K).1 = c at *
      generalize hM : (trC X Y O N K).2 = m at *
      have hne : (O 0 : Int) ≠ (O (N - 1) : Int) := fun z => srd_ne h (i := 0) (j := N - 1) (by omega) (by omega) (by omega) (by omega)
      by_cases hf : N ≤ fol X Y O N
      · -- flat
        rw [decide_eq_true hf]
        have hl : ∀ i, i < N → le3 X Y (O 0) (O 1) (O i) = 0 := by
          intro i hi
          by_cases q : 2 ≤ i
          · unfold fol at hf
            cases hq : ff (offP X Y O) N 2 with
            | some a => rw [hq] at hf; have := ff_lt N 2 (by omega) a hq; exact absurd this.2.1 (by have : N ≤ a := hf; omega)
            | none => have := ff_none N 2 (by omega) hq i q hi; unfold offP at this; simpa using this
          · have : i = 0 ∨ i = 1 := by omega
            rcases this with rfl | rfl
            · exact le3_ab _ _
            · exact le3_bb _ _
        have lin : ∀ a b d, VO O N a → VO O N b → VO O N d → le3 X Y a b d = 0 := by
          intro a b d ⟨i, i1, i2⟩ ⟨j, j1, j2⟩ ⟨k, k1, k2⟩
          rw [i2, j2, k2]; exact line_all h (Nat.le_refl _) (by omega) hl i1 j1 k1
        have hV := hH.2.2.2.2.1
        have w2 : w = 2 := by
          have := hH.2.2.1
          rcases Nat.lt_or_ge 2 w with z | z
          · have s := hH.2.2.2.2.2.2.2.2.1 0 (by omega)
            have wm := hH.2.2.2.1
            rw [lin _ _ _ (hV _ (by omega)) (hV _ (by omega)) (hV _ (by omega))] at s; omega
          · omega
        have m2 : m = 2 := by
          have := hH.1
          rcases Nat.lt_or_ge 2 m with z | z
          · have s := hH.2.2.2.2.2.2.2.2.2 1 (by omega) (by omega)
            rw [lin _ _ _ (hV _ (by omega)) (hV _ (by omega)) (hV _ (by omega))] at s; omega
          · omega
        have q : hulQ X Y T pn true Hu = (sn (sn Hu 0 (O 0)) 1 (O (N - 1)), 2) := by
          unfold hulQ
          rw [hfl]
          rw [if_neg (by show ¬ ((O 0 : Int) < 0); omega), if_pos rfl]
          show (sn (sn Hu 0 ((O 0 : Int).toNat)) 1 ((O (N - 1) : Int).toNat), if (O 0 : Int) = (O (N - 1) : Int) then 1 else 2) = _
          rw [if_neg hne, Int.toNat_natCast, Int.toNat_natCast]
        rw [q]
        refine ⟨fun _ z => Bool.noConfusion z, m2.symm, fun k hk => ?_, hin⟩
        show sn (sn Hu 0 (O 0)) 1 (O (N - 1)) k = c k
        rw [m2] at hk
        by_cases z : k = 0
        · rw [z, sn_ne _ _ (by omega), sn_eq, c0]
        · rw [show k = 1 from by omega, sn_eq, ← cw, w2]
      · rw [decide_eq_false hf]
        have nx : ∀ k, k < m → nxc X Y T pn (c k) = (c (k + 1) : Int) := by
          intro k hk
          have hV := hH.2.2.2.2.1
          have v1 := (hv _).1 (hV k (by omega)); have v2 := (hv _).1 (hV (k + 1) (by omega))
          have ne : c (k + 1) ≠ c k := by
            intro e
            by_cases q : k + 1 < w
            · have := hH.2.2.2.2.2.2.1 k q; rw [e] at this; exact bef_ir this
            · have := hH.2.2.2.2.2.2.2.1 k (by omega) hk; rw [e] at this; exact bef_ir this
          refine nxc_is v2.1 v2.2 ne ?_
          intro x x1 x2 x3 x4
          obtain ⟨a1, a2⟩ := hH.2.2.2.2.2.1 k hk x ((hv x).2 ⟨x1, x2⟩)
          rcases Int.lt_or_le 0 (le3 X Y (c k) (c (k + 1)) x) with z | z
          · exact Or.inl z
          · right
            have e0 : le3 X Y (c k) (c (k + 1)) x = 0 := by omega
            rcases a2 e0 with y | y | y
            · exact (x3 y).elim
            · exact (x4 y).elim
            · exact ⟨e0, btw_sq y e0⟩
        have m40 : m ≤ 40 := php 40 m c (fun i hi => by
          obtain ⟨j, _, e⟩ := hH.2.2.2.2.1 i (by omega); rw [e]; exact hO j) hin
        obtain ⟨R, r1, r2, r3⟩ := hlw_is hin hH.2.1 nx (m - 1) 1 40 (sn Hu 0 (c 0), 1) (by have := hH.1; omega) (by omega) (by omega) rfl (fun j hj => by rw [show j = 0 from by omega]; exact sn_eq Hu 0 (c 0))
        have r1' : hlw (nxc X Y T pn) (fla X Y T pn 0 (-1) (-1)).1.toNat 40 (nxc X Y T pn (fla X Y T pn 0 (-1) (-1)).1.toNat) (sn Hu 0 (fla X Y T pn 0 (-1) (-1)).1.toNat, 1) = some R := by
          rw [hfl]
          show hlw (nxc X Y T pn) (O 0 : Int).toNat 40 (nxc X Y T pn (O 0 : Int).toNat) (sn Hu 0 (O 0 : Int).toNat, 1) = some R
          rw [Int.toNat_natCast, ← c0, nx 0 (by have := hH.1; omega)]; exact r1
        have q : hulQ X Y T pn false Hu = R := by
          unfold hulQ
          rw [r1', hfl, if_neg (by show ¬ ((O 0 : Int) < 0); omega), if_neg (by decide)]; rfl
        rw [q]
        refine ⟨fun _ _ => by rw [r1']; rfl, r2, r3, hin⟩
end WRP
