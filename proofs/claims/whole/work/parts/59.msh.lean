/-! the class's mesh holds a drawing -/
def MC (M : MT) (t : Nat → Nat → Nat → Prop) : Prop := CL M.1 M.2.1 t ∧ (∀ a b c : Nat, a < 40 → b < 40 → c < 40 → (M.2.2 (a * 40 + b) = (c : Int) ↔ t a b c)) ∧ tRot t ∧ tB t ∧ tN t
theorem MC_cg {M : MT} {t u : Nat → Nat → Nat → Prop} (h : MC M t) (he : ∀ x y z, t x y z ↔ u x y z) : MC M u := by
  have : t = u := funext fun x => funext fun y => funext fun z => propext (he x y z)
  rw [← this]; exact h
theorem MC_neg {M : MT} {t : Nat → Nat → Nat → Prop} (h : MC M t) (hb : MB3 M) {a b : Nat} (ha : a < 40) (hb4 : b < 40) : M.2.2 (a * 40 + b) < 0 ↔ ∀ c, ¬ t a b c := by
  have r := hb.2.2 (a * 40 + b)
  constructor
  · intro q c hc
    have := (h.2.1 a b c ha hb4 (h.2.2.2.1 _ _ _ hc).2.2.1).2 hc
    omega
  · intro q
    rcases Int.lt_or_le (M.2.2 (a * 40 + b)) 0 with w | w
    · exact w
    · exact (q (M.2.2 (a * 40 + b)).toNat ((h.2.1 a b _ ha hb4 (by omega)).1 (by omega))).elim
theorem MC_pos {M : MT} {t : Nat → Nat → Nat → Prop} (h : MC M t) (hb : MB3 M) {a b : Nat} (ha : a < 40) (hb4 : b < 40) (hp : 0 ≤ M.2.2 (a * 40 + b)) : t a b (M.2.2 (a * 40 + b)).toNat := by
  have r := hb.2.2 (a * 40 + b)
  exact (h.2.1 a b _ ha hb4 (by omega)).1 (by omega)
theorem sn3_at {Th : Nat → Int} {a b c : Nat} {u v w : Int} {x y : Nat} (ha : a < 40) (hb : b < 40) (hc : c < 40) (hx : x < 40) (hy : y < 40) (n1 : a ≠ b) (n2 : b ≠ c) (n3 : a ≠ c) : sn (sn (sn Th (a * 40 + b) u) (b * 40 + c) v) (c * 40 + a) w (x * 40 + y) = if x = a ∧ y = b then u else if x = b ∧ y = c then v else if x = c ∧ y = a then w else Th (x * 40 + y) := by
  by_cases h3 : x = c ∧ y = a
  · obtain ⟨rfl, rfl⟩ := h3
    rw [sn_eq, if_neg (by omega), if_neg (by omega), if_pos ⟨rfl, rfl⟩]
  · rw [sn_ne _ _ (by omega)]
    by_cases h2 : x = b ∧ y = c
    · obtain ⟨rfl, rfl⟩ := h2
      rw [sn_eq, if_neg (by omega), if_pos ⟨rfl, rfl⟩]
    · rw [sn_ne _ _ (by omega)]
      by_cases h1 : x = a ∧ y = b
      · obtain ⟨rfl, rfl⟩ := h1
        rw [sn_eq, if_pos ⟨rfl, rfl⟩]
      · rw [sn_ne _ _ (by omega), if_neg h1, if_neg h2, if_neg h3]
theorem MC_add {M : MT} {t : Nat → Nat → Nat → Prop} (h : MC M t) (hs : M.2.1 < 80) {a b c : Nat} (ha : a < 40) (hb : b < 40) (hc : c < 40) (n1 : a ≠ b) (n2 : b ≠ c) (n3 : a ≠ c) (f1 : ∀ z, ¬ t a b z) (f2 : ∀ z, ¬ t b c z) (f3 : ∀ z, ¬ t c a z) : MC (addT a b c M) (fun x y z => t x y z ∨ rt3 x y z a b c) ∧ (addT a b c M).2.1 = M.2.1 + 1 := by
  obtain ⟨hC, hT, hR, hB, hN⟩ := h
  unfold addT; rw [if_pos hs]
  refine ⟨⟨CL_add hC hR hB ha hb hc n1 n2 n3 (f1 c), ?_, ?_, ?_, ?_⟩, rfl⟩
  · intro x y z hx hy hz
    show sn (sn (sn M.2.2 (a * 40 + b) (c : Int)) (b * 40 + c) (a : Int)) (c * 40 + a) (b : Int) (x * 40 + y) = (z : Int) ↔ _
    rw [sn3_at ha hb hc hx hy n1 n2 n3]
    by_cases h1 : x = a ∧ y = b
    · obtain ⟨rfl, rfl⟩ := h1
      rw [if_pos ⟨rfl, rfl⟩]
      constructor
      · intro e; right; unfold rt3; omega
      · intro e
        rcases e with e | e
        · exact (f1 z e).elim
        · unfold rt3 at e; omega
    · rw [if_neg h1]
      by_cases h2 : x = b ∧ y = c
      · obtain ⟨rfl, rfl⟩ := h2
        rw [if_pos ⟨rfl, rfl⟩]
        constructor
        · intro e; right; unfold rt3; omega
        · intro e
          rcases e with e | e
          · exact (f2 z e).elim
          · unfold rt3 at e; omega
      · rw [if_neg h2]
        by_cases h3 : x = c ∧ y = a
        · obtain ⟨rfl, rfl⟩ := h3
          rw [if_pos ⟨rfl, rfl⟩]
          constructor
          · intro e; right; unfold rt3; omega
          · intro e
            rcases e with e | e
            · exact (f3 z e).elim
            · unfold rt3 at e; omega
        · rw [if_neg h3, hT x y z hx hy hz]
          constructor
          · exact Or.inl
          · intro e
            rcases e with e | e
            · exact e
            · unfold rt3 at e; omega
  · intro x y z e
    rcases e with e | e
    · exact Or.inl (hR _ _ _ e)
    · exact Or.inr (rt3_rot e)
  · intro x y z e
    rcases e with e | e
    · exact hB _ _ _ e
    · unfold rt3 at e; omega
  · intro x y z w e g
    rcases e with e | e <;> rcases g with g | g
    · exact hN _ _ _ _ e g
    · exfalso; rcases g with ⟨rfl, rfl, rfl⟩ | ⟨rfl, rfl, rfl⟩ | ⟨rfl, rfl, rfl⟩
      · exact f1 _ e
      · exact f2 _ e
      · exact f3 _ e
    · exfalso; rcases e with ⟨rfl, rfl, rfl⟩ | ⟨rfl, rfl, rfl⟩ | ⟨rfl, rfl, rfl⟩
      · exact f1 _ g
      · exact f2 _ g
      · exact f3 _ g
    · unfold rt3 at e g; omega
theorem MC_rem {M : MT} {t : Nat → Nat → Nat → Prop} (h : MC M t) {a b c : Nat} (ht : t a b c) : MC (remT a b c M) (fun x y z => t x y z ∧ ¬ rt3 x y z a b c) ∧ (remT a b c M).2.1 = M.2.1 - 1 ∧ 0 < M.2.1 := by
  obtain ⟨hC, hT, hR, hB, hN⟩ := h
  obtain ⟨ha, hb, hc, n1, n2, n3⟩ := hB _ _ _ ht
  obtain ⟨i, i1, i2⟩ := (CL_cod hC hR hB ha hb hc n1 n2 n3).2 ht
  cases hf : ff (cdP M.1 (cod a b c)) M.2.1 0 with
  | none =>
    have := ff_none M.2.1 0 (by omega) hf i (by omega) i1
    unfold cdP at this; rw [decide_eq_true i2] at this; cases this
  | some j =>
    have q := ff_lt M.2.1 0 (by omega) j hf
    have qj : M.1 j = cod a b c := by have := q.2.2.1; unfold cdP at this; simpa using this
    rw [remT_some hf]
    refine ⟨⟨CL_rem hC hR hB q.2.1 qj ht, ?_, ?_, ?_, ?_⟩, rfl, by omega⟩
    · intro x y z hx hy hz
      show sn (sn (sn M.2.2 (a * 40 + b) (-1)) (b * 40 + c) (-1)) (c * 40 + a) (-1) (x * 40 + y) = (z : Int) ↔ _
      rw [sn3_at ha hb hc hx hy n1 n2 n3]
      have no : ∀ w, t x y w → rt3 x y w a b c → (-1 = (z : Int) ↔ t x y z ∧ ¬ rt3 x y z a b c) := by
        intro w g1 g2
        constructor
        · intro e; omega
        · intro ⟨e1, e2⟩; have := hN _ _ _ _ e1 g1; subst this; exact (e2 g2).elim
      by_cases h1 : x = a ∧ y = b
      · obtain ⟨rfl, rfl⟩ := h1
        rw [if_pos ⟨rfl, rfl⟩]; exact no c ht (rt3_rf _ _ _)
      · rw [if_neg h1]
        by_cases h2 : x = b ∧ y = c
        · obtain ⟨rfl, rfl⟩ := h2
          rw [if_pos ⟨rfl, rfl⟩]; exact no a (hR _ _ _ ht) (rt3_1 _ _ _)
        · rw [if_neg h2]
          by_cases h3 : x = c ∧ y = a
          · obtain ⟨rfl, rfl⟩ := h3
            rw [if_pos ⟨rfl, rfl⟩]; exact no b (hR _ _ _ (hR _ _ _ ht)) (rt3_2 _ _ _)
          · rw [if_neg h3, hT x y z hx hy hz]
            constructor
            · exact fun e => ⟨e, fun w => by unfold rt3 at w; omega⟩
            · exact fun e => e.1
    · intro x y z e; exact ⟨hR _ _ _ e.1, fun w => e.2 (rt3_rot (rt3_rot w))⟩
    · intro x y z e; exact hB _ _ _ e.1
    · intro x y z w e g; exact hN _ _ _ _ e.1 g.1
section MSH
variable {X Y : Nat → Int} {V : Nat → Prop} {t : Nat → Nat → Nat → Prop}
/-- no triangle on p, q before the flip -/
theorem flr_free (h : TI X Y V t) {a b p q : Nat} (h1 : t a b p) (h2 : t b a q) (hp : 0 < le3 X Y p a q) (hb : 0 < le3 X Y b p q) : (∀ z, ¬ t q p z) ∧ (∀ z, ¬ t p q z) := by
  obtain ⟨hR, hV, hN, hS, hE1, hE2⟩ := h
  have h1c := hR _ _ _ (hR _ _ _ h1)
  have vq := hV _ _ _ h2
  obtain ⟨_, n5, n4⟩ := le3_ne (X := X) (Y := Y) (a := b) (b := a) (c := q) (by omega)
  have e3 : le3 X Y p q b = le3 X Y b p q := by unfold le3 lo; grind
  exact ⟨fun z hz => n4 (tS2 hR hV hN hS h1c (hR _ _ _ hz) hp (by omega)).symm, fun z hz => n5 (hS p a b q z h1c hz (by omega) (by omega)).symm⟩
theorem MC_flip {M : MT} (h : MC M t) (hb3 : MB3 M) (hT : TI X Y V t) {a b p q : Nat} (h1 : t a b p) (h2 : t b a q) (hp : 0 < le3 X Y p a q) (hb : 0 < le3 X Y b p q) : MC (flT a b M) (flr t a b p q) ∧ (flT a b M).2.1 = M.2.1 := by
  obtain ⟨k1, k2⟩ := flr_free hT h1 h2 hp hb
  have hh := h
  obtain ⟨hC, hTh, hR, hB, hN⟩ := hh
  have hVA := hT.2.1
  obtain ⟨a4, b4, p4, n1, n2, n3⟩ := hB _ _ _ h1
  obtain ⟨_, _, q4, _, n5, n4⟩ := hB _ _ _ h2
  have n6 : p ≠ q := fun z => by
    subst z
    have v1 := (hVA _ _ _ h1).2.2.2; have v2 := (hVA _ _ _ h2).2.2.2
    rw [show le3 X Y b a p = -le3 X Y a b p from by unfold le3 lo; grind] at v2; omega
  have t1 := (hTh a b p a4 b4 p4).2 h1
  have t2 := (hTh b a q b4 a4 q4).2 h2
  have e : flT a b M = addT b p q (addT a q p (remT b a q (remT a b p M))) := by
    unfold flT
    rw [if_neg (by omega), t1, t2]; rfl
  rw [e]
  obtain ⟨m1, s1, z1⟩ := MC_rem h h1
  have h2' : t b a q ∧ ¬ rt3 b a q a b p := ⟨h2, fun w => by unfold rt3 at w; omega⟩
  obtain ⟨m2, s2, z2⟩ := MC_rem m1 h2'
  have sz := hb3.2.1
  have h1b := hR _ _ _ h1; have h1c := hR _ _ _ h1b
  have h2b := hR _ _ _ h2; have h2c := hR _ _ _ h2b
  obtain ⟨m3, s3⟩ := MC_add m2 (by omega) (a := a) (b := q) (c := p) a4 q4 p4 n5 (fun z => n6 z.symm) n3 (by
    intro z ⟨⟨w1, w2⟩, w3⟩; have := hN _ _ _ _ w1 h2b; subst this; exact w3 (rt3_1 _ _ _)) (by
    intro z ⟨⟨w1, w2⟩, w3⟩; exact k1 _ w1) (by
    intro z ⟨⟨w1, w2⟩, w3⟩; have := hN _ _ _ _ w1 h1c; subst this; exact w2 (rt3_2 _ _ _))
  obtain ⟨m4, s4⟩ := MC_add m3 (by omega) (a := b) (b := p) (c := q) b4 p4 q4 n2 n6 n4 (by
    intro z w; rcases w with ⟨⟨w1, w2⟩, w3⟩ | w
    · have := hN _ _ _ _ w1 h1b; subst this; exact w2 (rt3_1 _ _ _)
    · unfold rt3 at w; omega) (by
    intro z w; rcases w with ⟨⟨w1, w2⟩, w3⟩ | w
    · exact k2 _ w1
    · unfold rt3 at w; omega) (by
    intro z w; rcases w with ⟨⟨w1, w2⟩, w3⟩ | w
    · have := hN _ _ _ _ w1 h2c; subst this; exact w3 (rt3_2 _ _ _)
    · unfold rt3 at w; omega)
  refine ⟨MC_cg m4 ?_, by omega⟩
  intro x y z
  unfold flr
  constructor
  · intro w
    rcases w with (⟨⟨w1, w2⟩, w3⟩ | w) | w
    · exact Or.inl ⟨w1, w2, w3⟩
    · exact Or.inr (Or.inl w)
    · exact Or.inr (Or.inr w)
  · intro w
    rcases w with ⟨w1, w2, w3⟩ | w | w
    · exact Or.inl (Or.inl ⟨⟨w1, w2⟩, w3⟩)
    · exact Or.inl (Or.inr w)
    · exact Or.inr w
end MSH
