/-! the drawing: the settled mesh's rows are the reference's -/
def rcA (Q : QA) (i : Nat) : Nat := cd3 (Q.1 i) (Q.2.1 i) (Q.2.2.1 i)
/-- the reference's rows hold what is good of all that come before the code k -/
def ftI (G : Nat → Nat → Nat → Prop) (k : Nat) (Q : QA) : Prop := ss (rcA Q) Q.2.2.2 ∧ ∀ x, mem (rcA Q) Q.2.2.2 x ↔ ∃ a b c, G a b c ∧ x = cd3 a b c ∧ cd3 a b c < k
theorem rcA_ad (a b c : Nat) (Q : QA) : rcA (adA a b c Q) = sn (rcA Q) Q.2.2.2 (cd3 a b c) := by
  funext k
  unfold rcA adA sn
  by_cases h : k = Q.2.2.2
  · simp only [if_pos h]
  · simp only [if_neg h]
theorem ftI_skip {G : Nat → Nat → Nat → Prop} {k k' : Nat} {Q : QA} (h : ftI G k Q) (hk : k ≤ k') (hn : ∀ a b c, G a b c → ¬ (k ≤ cd3 a b c ∧ cd3 a b c < k')) : ftI G k' Q := by
  refine ⟨h.1, fun x => (h.2 x).trans ⟨?_, ?_⟩⟩
  · intro ⟨a, b, c, g1, g2, g3⟩; exact ⟨a, b, c, g1, g2, by omega⟩
  · intro ⟨a, b, c, g1, g2, g3⟩; have := hn a b c g1; exact ⟨a, b, c, g1, g2, by omega⟩
theorem ftI_add {G : Nat → Nat → Nat → Prop} {a b c : Nat} {Q : QA} (h : ftI G (cd3 a b c) Q) (hg : G a b c) : ftI G (cd3 a b c + 1) (adA a b c Q) := by
  have hlt : ∀ i, i < Q.2.2.2 → rcA Q i < cd3 a b c := by
    intro i hi
    obtain ⟨x, y, z, _, e, l⟩ := (h.2 (rcA Q i)).1 ⟨i, hi, rfl⟩
    omega
  constructor
  · intro i j hij hj
    rw [rcA_ad]
    have hj : j < Q.2.2.2 + 1 := hj
    by_cases q : j = Q.2.2.2
    · subst q; rw [sn_eq, sn_ne _ _ (by omega)]; exact hlt i hij
    · rw [sn_ne _ _ q, sn_ne _ _ (by omega)]; exact h.1 i j hij (by omega)
  · intro x
    rw [rcA_ad]
    constructor
    · intro ⟨i, i1, i2⟩
      have i1 : i < Q.2.2.2 + 1 := i1
      by_cases q : i = Q.2.2.2
      · subst q; rw [sn_eq] at i2; exact ⟨a, b, c, hg, i2.symm, by omega⟩
      · rw [sn_ne _ _ q] at i2
        obtain ⟨x', y, z, g1, e, l⟩ := (h.2 x).1 ⟨i, by omega, i2⟩
        exact ⟨x', y, z, g1, e, by omega⟩
    · intro ⟨x', y, z, g1, e, l⟩
      by_cases q : cd3 x' y z < cd3 a b c
      · obtain ⟨i, i1, i2⟩ := (h.2 x).2 ⟨x', y, z, g1, e, q⟩
        exact ⟨i, by show i < Q.2.2.2 + 1; omega, by rw [sn_ne _ _ (by omega)]; exact i2⟩
      · exact ⟨Q.2.2.2, by show Q.2.2.2 < Q.2.2.2 + 1; omega, by rw [sn_eq]; omega⟩
section DRW
variable {X Y : Nat → Int} {T : Nat → Bool} {pn : Nat} {G : Nat → Nat → Nat → Prop}
theorem ft3_I (hpn : pn ≤ 40) (hG : ∀ a b c, G a b c → a < b ∧ a < c ∧ b < pn ∧ c < pn) {a b : Nat} (hb : b < pn) (hf : ∀ c, c < pn → a < c → (ftP X Y T pn a b c = true ↔ G a b c)) : ∀ (d c : Nat) (Q : QA), c + d = pn → a < c → ftI G (cd3 a b c) Q → ftI G (cd3 a b pn) (ft3 X Y T pn a b c Q) := by
  intro d
  induction d with
  | zero =>
    intro c Q hc _ h
    rw [ft3_end (by omega)]
    have : c = pn := by omega
    subst this; exact h
  | succ d ih =>
    intro c Q hc hac h
    have e : cd3 a b c + 1 = cd3 a b (c + 1) := by unfold cd3; omega
    cases hp : ftP X Y T pn a b c with
    | true =>
      rw [ft3_in (by omega) hp]
      refine ih (c + 1) _ (by omega) (by omega) ?_
      rw [← e]; exact ftI_add h ((hf c (by omega) hac).1 hp)
    | false =>
      rw [ft3_no (by omega) hp]
      refine ih (c + 1) _ (by omega) (by omega) (ftI_skip h (by omega) ?_)
      intro x y z g1 g2
      have l := hG _ _ _ g1
      have : x = a ∧ y = b ∧ z = c := by unfold cd3 at g2; omega
      obtain ⟨rfl, rfl, rfl⟩ := this
      rw [(hf z (by omega) hac).2 g1] at hp; cases hp
theorem ft2_I (hpn : pn ≤ 40) (hG : ∀ a b c, G a b c → a < b ∧ a < c ∧ b < pn ∧ c < pn) {a : Nat} (hf : ∀ b c, b < pn → a < b → c < pn → a < c → (ftP X Y T pn a b c = true ↔ G a b c)) : ∀ (d b : Nat) (Q : QA), b + d = pn → a < b → ftI G (cd3 a b (a + 1)) Q → ftI G (cd3 a pn (a + 1)) (ft2 X Y T pn a b Q) := by
  intro d
  induction d with
  | zero =>
    intro b Q hb _ h
    rw [ft2_end (by omega)]
    have : b = pn := by omega
    subst this; exact h
  | succ d ih =>
    intro b Q hb hab h
    rw [ft2_go (by omega)]
    refine ih (b + 1) _ (by omega) (by omega) ?_
    have := ft3_I (X := X) (Y := Y) (T := T) hpn hG (a := a) (b := b) (by omega) (fun c h1 h2 => hf b c (by omega) hab h1 h2) (pn - (a + 1)) (a + 1) Q (by omega) (by omega) h
    refine ftI_skip this (by unfold cd3; omega) ?_
    intro x y z g1 g2
    have l := hG _ _ _ g1
    unfold cd3 at g2; omega
theorem ft1_I (hpn : pn ≤ 40) (hG : ∀ a b c, G a b c → a < b ∧ a < c ∧ b < pn ∧ c < pn) (hf : ∀ a b c, a < pn → b < pn → a < b → c < pn → a < c → (ftP X Y T pn a b c = true ↔ G a b c)) : ∀ (d a : Nat) (Q : QA), a + d = pn → ftI G (cd3 a (a + 1) (a + 1)) Q → ftI G (cd3 pn (pn + 1) (pn + 1)) (ft1 X Y T pn a Q) := by
  intro d
  induction d with
  | zero =>
    intro a Q ha h
    rw [ft1_end (by omega)]
    have : a = pn := by omega
    subst this; exact h
  | succ d ih =>
    intro a Q ha h
    rw [ft1_go (by omega)]
    refine ih (a + 1) _ (by omega) ?_
    have := ft2_I (X := X) (Y := Y) (T := T) hpn hG (a := a) (fun b c h1 h2 h3 h4 => hf a b c (by omega) h1 h2 h3 h4) (pn - (a + 1)) (a + 1) Q (by omega) (by omega) h
    refine ftI_skip this (by unfold cd3; omega) ?_
    intro x y z g1 g2
    have l := hG _ _ _ g1
    unfold cd3 at g2; omega
theorem ft1_CL (hpn : pn ≤ 40) {t : Nat → Nat → Nat → Prop} (hf : ∀ a b c, a < b → a < c → (t a b c ↔ b < pn ∧ c < pn ∧ ftP X Y T pn a b c = true)) (A1 A2 A3 : Nat → Nat) : CL (rcA (ft1 X Y T pn 0 (A1, A2, A3, 0))) (ft1 X Y T pn 0 (A1, A2, A3, 0)).2.2.2 t := by
  have h := ft1_I (X := X) (Y := Y) (T := T) (G := fun a b c => a < b ∧ a < c ∧ t a b c) hpn (fun a b c g => ⟨g.1, g.2.1, ((hf a b c g.1 g.2.1).1 g.2.2).1, ((hf a b c g.1 g.2.1).1 g.2.2).2.1⟩) (fun a b c h1 h2 h3 h4 h5 => ⟨fun z => ⟨h3, h5, (hf a b c h3 h5).2 ⟨h2, h4, z⟩⟩, fun z => ((hf a b c h3 h5).1 z.2.2).2.2⟩) pn 0 (A1, A2, A3, 0) (by omega) ⟨fun i j _ hj => absurd hj (Nat.not_lt_zero _), fun x => ⟨fun ⟨i, hi, _⟩ => absurd hi (Nat.not_lt_zero _), fun ⟨a, b, c, g1, _, g3⟩ => by unfold cd3 at g3; omega⟩⟩
  refine ⟨h.1, fun k => (h.2 k).trans ⟨?_, ?_⟩⟩
  · intro ⟨a, b, c, g1, g2, _⟩; exact ⟨a, b, c, g1.2.2, g1.1, g1.2.1, g2⟩
  · intro ⟨a, b, c, g1, g2, g3, g4⟩
    have l := (hf a b c g2 g3).1 g1
    exact ⟨a, b, c, ⟨g2, g3, g1⟩, g4, by unfold cd3; omega⟩
/-- settled: t says just the triangles that are to be drawn -/
theorem set_drn {vb : Nat → Bool} (hP : PL X Y vb) {M : MT} {t : Nat → Nat → Nat → Prop} (h : SI X Y vb M t) (hx : ∃ a b c, t a b c) (hn : ¬ fb X Y M.2.2 0 < 1600) (hv : ∀ x, vb x = true ↔ x < pn ∧ T x = true) (a b c : Nat) (hab : a < b) (hac : a < c) : t a b c ↔ b < pn ∧ c < pn ∧ ftP X Y T pn a b c = true := by
  have hT := h.2.2
  have hG := PL_G hP
  have nob := fb_none hn
  have hL : tL X Y (hgt X Y) t := by
    intro a b p q h1 h2
    have bb := h.1.2.2.2.1 _ _ _ h1
    rcases Int.lt_or_le 0 (cnf X Y (hgt X Y) a b p q) with z | z
    · exfalso
      rcases Nat.lt_or_gt_of_ne bb.2.2.2.1 with w | w
      · have := nob (a * 40 + b) (by omega)
        unfold fbP at this
        rw [show (a * 40 + b) / 40 = a from by omega, show (a * 40 + b) % 40 = b from by omega, decide_eq_true w, (badS_iff hP h bb.1 bb.2.1).2 ⟨p, q, h1, h2, z⟩] at this
        cases this
      · have := nob (b * 40 + a) (by omega)
        unfold fbP at this
        rw [show (b * 40 + a) / 40 = b from by omega, show (b * 40 + a) % 40 = a from by omega, decide_eq_true w, (badS_iff hP h bb.2.1 bb.1).2 ⟨q, p, h2, h1, by rw [show cnf X Y (hgt X Y) b a q p = cnf X Y (hgt X Y) a b p q from by unfold cnf le3 lo; grind]; exact z⟩] at this
        cases this
    · exact z
  have h40 := hP.2.2.2
  have drn_i : vb a = true → vb b = true → vb c = true → 0 < le3 X Y a b c → (drn X Y T pn a b c = true ↔ ∀ d, vb d = true → cnf X Y (hgt X Y) a b c d ≤ 0) := by
    intro va vbb vc hA
    have pt : ∀ d, vb d = true → d ≠ a → d ≠ b → d ≠ c → ((0 < wth X Y a b c d ∨ (wth X Y a b c d = 0 ∧ (d < a ∨ trn X Y b c d < 0))) ↔ 0 < cnf X Y (hgt X Y) a b c d) := by
      intro d vd n1 n2 n3
      rw [← drn_cnf hP.1 hP.2.1 hP.2.2.1 h40 va vbb vc vd hab hac n1 n2 n3 hA]
      unfold wth; rw [sgn_pos, sgn_zero, trn_lt]
    unfold drn
    constructor
    · intro q d vd
      have hvd := (hv d).1 vd
      by_cases n1 : d = a
      · rw [n1, cnf_a]; exact Int.le_refl _
      by_cases n2 : d = b
      · rw [n2, cnf_b]; exact Int.le_refl _
      by_cases n3 : d = c
      · rw [n3, cnf_c]; exact Int.le_refl _
      rcases Int.lt_or_le 0 (cnf X Y (hgt X Y) a b c d) with z | z
      · exfalso
        have w := (pt d vd n1 n2 n3).2 z
        cases hff : ff (ndP X Y T a b c) pn 0 with
        | some e => rw [hff] at q; cases q
        | none =>
          have := ff_none pn 0 (by omega) hff d (by omega) hvd.1
          unfold ndP at this
          rw [hvd.2, decide_eq_true n1, decide_eq_true n2, decide_eq_true n3] at this
          rcases w with w | ⟨w1, w2⟩
          · rw [decide_eq_true w] at this; cases this
          · rw [decide_eq_true w1] at this
            rcases w2 with w2 | w2
            · rw [decide_eq_true w2] at this; simp at this
            · rw [decide_eq_true w2] at this; simp at this
      · exact z
    · intro q
      cases hff : ff (ndP X Y T a b c) pn 0 with
      | none => rfl
      | some e =>
        exfalso
        have f := ff_lt pn 0 (by omega) e hff
        have g := f.2.2.1
        unfold ndP at g
        simp only [Bool.and_eq_true, Bool.or_eq_true, decide_eq_true_eq] at g
        obtain ⟨g1, g2, g3, g4, g5⟩ := g
        have vd : vb e = true := (hv e).2 ⟨f.2.1, g1⟩
        have := (pt e vd g2 g3 g4).1 g5
        have := q e vd; omega
  constructor
  · intro ht
    have v := hT.2.1 _ _ _ ht
    have va := (hv a).1 v.1; have vbb := (hv b).1 v.2.1; have vc := (hv c).1 v.2.2.1
    have nn := h.1.2.2.2.1 _ _ _ ht
    refine ⟨vbb.1, vc.1, ?_⟩
    unfold ftP
    rw [decide_eq_true nn.2.2.2.2.1, va.2, vbb.2, vc.2, decide_eq_true (trn_gt.2 v.2.2.2), (drn_i v.1 v.2.1 v.2.2.1 v.2.2.2).2 (fun d vd => del_glo hT hG hL h40 hx ht vd)]
    rfl
  · intro ⟨hb, hc, hp⟩
    unfold ftP at hp
    simp only [Bool.and_eq_true, decide_eq_true_eq] at hp
    obtain ⟨_, p2, p3, p4, p5, p6⟩ := hp
    have va := (hv a).2 ⟨by omega, p2⟩; have vbb := (hv b).2 ⟨hb, p3⟩; have vc := (hv c).2 ⟨hc, p4⟩
    have hA := trn_gt.1 p5
    exact del_uni hT hG hL h40 hx va vbb vc hA ((drn_i va vbb vc hA).1 p6)
end DRW
