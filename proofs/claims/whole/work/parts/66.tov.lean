/-! the reference's flip -/
section TOV
variable {X Y : Nat → Int} {vb : Nat → Bool} {t : Nat → Nat → Nat → Prop}
theorem tov_eq {S : RS} {a b i j : Nat} (z1 : haS S.2.2.1.2.2.1 S.2.2.1.2.2.2.1 S.2.2.1.2.2.2.2.1 S.2.2.1.2.2.2.2.2.1 (a : Int) (b : Int) 0 0 = (i : Int)) (z2 : haS S.2.2.1.2.2.1 S.2.2.1.2.2.2.1 S.2.2.1.2.2.2.2.1 S.2.2.1.2.2.2.2.2.1 (a : Int) (b : Int) 1 0 = (j : Int)) {u v : Nat} (hu : thd S.2.2.1.2.2.1 S.2.2.1.2.2.2.1 S.2.2.1.2.2.2.2.1 i a b = u) (hv : thd S.2.2.1.2.2.1 S.2.2.1.2.2.2.1 S.2.2.1.2.2.2.2.1 j a b = v) : ((rTov a b S).2.2.1.2.2.1, (rTov a b S).2.2.1.2.2.2.1, (rTov a b S).2.2.1.2.2.2.2.1) = hldQ S.1.1 S.1.2.1 u v b (S.2.2.1.2.2.2.2.2.1 - 1 - 1 + 1) (hldQ S.1.1 S.1.2.1 u v a (S.2.2.1.2.2.2.2.2.1 - 1 - 1) (shB (S.2.2.1.2.2.2.2.2.1 - 1 - 1) i (shB (S.2.2.1.2.2.2.2.2.1 - 1) j (S.2.2.1.2.2.1, S.2.2.1.2.2.2.1, S.2.2.1.2.2.2.2.1)))) ∧ (rTov a b S).2.2.1.2.2.2.2.2.1 = S.2.2.1.2.2.2.2.2.1 - 1 - 1 + 1 + 1 ∧ tvP a b S = u ∧ tvQ a b S = v := by
  unfold rTov rTov0 tvP tvQ
  rw [z1, z2, Int.toNat_natCast, Int.toNat_natCast, hu, hv]
  exact ⟨rfl, rfl, rfl, rfl⟩
/-- the rows, when two triangles go and two come -/
theorem row_flr {Q : QB} {hh : Nat} (hB : HB Q hh t) (hT : TI X Y (Vb vb) t) {a b p q i j u v : Nat} (h1 : t a b p) (h2 : t b a q) (hp : 0 < le3 X Y p a q) (hb : 0 < le3 X Y b p q) (ij : i < j) (jh : j < hh) (e3 : (u = p ∧ v = q ∧ rc Q i = cod a b p ∧ rc Q j = cod b a q) ∨ (u = q ∧ v = p ∧ rc Q i = cod b a q ∧ rc Q j = cod a b p)) : HB (hldQ X Y u v b (hh - 1 - 1 + 1) (hldQ X Y u v a (hh - 1 - 1) (shB (hh - 1 - 1) i (shB (hh - 1) j Q)))) hh (flr t a b p q) := by
  have hTf := flr_TI hT h1 h2 hp hb
  have hpq := pq_ne hT h1 h2
  obtain ⟨q3, q2, hR, hBt, hN⟩ := hB
  obtain ⟨a4, b4, p4, n1, n2, n3⟩ := hBt _ _ _ h1
  obtain ⟨_, _, q4, _, n5, n4⟩ := hBt _ _ _ h2
  have h1b := hR _ _ _ h1
  have h2b := hR _ _ _ h2
  have tr : ∀ x y z, tRot (fun u v w => t u v w ∧ ¬ rt3 u v w x y z) := fun x y z u v w k => ⟨hR _ _ _ k.1, fun m => k.2 (rt3_rot (rt3_rot m))⟩
  have tb : ∀ x y z, tB (fun u v w => t u v w ∧ ¬ rt3 u v w x y z) := fun x y z u v w k => hBt _ _ _ k.1
  have na : ¬ rt3 a b p b a q := fun m => by unfold rt3 at m; omega
  have nb : ¬ rt3 b a q a b p := fun m => by unfold rt3 at m; omega
  have ai : shC (hh - 1) j (rc Q) i = rc Q i := (shC_sp (n := hh - 1) hh j (rc Q) (by omega)).1 i ij
  have two : CL (rc (shB (hh - 1 - 1) i (shB (hh - 1) j Q))) (hh - 1 - 1) (fun x y z => (t x y z ∧ ¬ rt3 x y z a b p) ∧ ¬ rt3 x y z b a q) := by
    rw [rc_sh hh i _ (by omega), rc_sh hh j _ (by omega)]
    rcases e3 with ⟨_, _, c1, c2⟩ | ⟨_, _, c1, c2⟩
    · have r1 := CL_rem q2 hR hBt jh c2 h2
      have r2 := CL_rem (i := i) r1 (tr _ _ _) (tb _ _ _) (by omega) (by rw [ai, c1]) ⟨h1, na⟩
      exact CL_cg r2 (fun x y z => ⟨fun w => ⟨⟨w.1.1, w.2⟩, w.1.2⟩, fun w => ⟨⟨w.1.1, w.2⟩, w.1.2⟩⟩)
    · have r1 := CL_rem q2 hR hBt jh c2 h1
      exact CL_rem (i := i) r1 (tr _ _ _) (tb _ _ _) (by omega) (by rw [ai, c1]) ⟨h2, nb⟩
  have q3' : QB3 (shB (hh - 1 - 1) i (shB (hh - 1) j Q)) := shB_b hh i _ (by omega) (shB_b hh j _ (by omega) q3)
  generalize shB (hh - 1 - 1) i (shB (hh - 1) j Q) = Q2 at *
  have pp : (u = p ∧ v = q) ∨ (u = q ∧ v = p) := by
    rcases e3 with ⟨c1, c2, _⟩ | ⟨c1, c2, _⟩
    · exact Or.inl ⟨c1, c2⟩
    · exact Or.inr ⟨c1, c2⟩
  clear e3 ai
  have u4 : u < 40 := by rcases pp with ⟨rfl, _⟩ | ⟨rfl, _⟩ <;> assumption
  have v4 : v < 40 := by rcases pp with ⟨_, rfl⟩ | ⟨_, rfl⟩ <;> assumption
  have tr2 : tRot (fun x y z => (t x y z ∧ ¬ rt3 x y z a b p) ∧ ¬ rt3 x y z b a q) := fun x y z k => ⟨⟨hR _ _ _ k.1.1, fun m => k.1.2 (rt3_rot (rt3_rot m))⟩, fun m => k.2 (rt3_rot (rt3_rot m))⟩
  have tb2 : tB (fun x y z => (t x y z ∧ ¬ rt3 x y z a b p) ∧ ¬ rt3 x y z b a q) := fun x y z k => hBt _ _ _ k.1.1
  have o1 : le3 X Y a q p = le3 X Y p a q := by unfold le3 lo; grind
  have A1 := CL_hld (X := X) (Y := Y) two q3' tr2 tb2 (a := u) (b := v) (c := a) (x := a) (y := q) (z := p) u4 v4 a4 (by rw [o1]; exact hp) (by
    rcases pp with ⟨rfl, rfl⟩ | ⟨rfl, rfl⟩
    · exact Or.inr (rt3_2 _ _ _)
    · exact Or.inl (rt3_1 _ _ _)) (fun w => n2 (hN _ _ _ _ h2b w.1.1))
  have q3a : QB3 (hldQ X Y u v a (hh - 1 - 1) Q2) := hld_b q3' u4 v4 a4
  generalize hldQ X Y u v a (hh - 1 - 1) Q2 = Q3 at *
  have tr3 : tRot (fun x y z => ((t x y z ∧ ¬ rt3 x y z a b p) ∧ ¬ rt3 x y z b a q) ∨ rt3 x y z a q p) := fun x y z k => by
    rcases k with k | k
    · exact Or.inl (tr2 _ _ _ k)
    · exact Or.inr (rt3_rot k)
  have tb3 : tB (fun x y z => ((t x y z ∧ ¬ rt3 x y z a b p) ∧ ¬ rt3 x y z b a q) ∨ rt3 x y z a q p) := fun x y z k => by
    rcases k with k | k
    · exact tb2 _ _ _ k
    · rcases k with ⟨rfl, rfl, rfl⟩ | ⟨rfl, rfl, rfl⟩ | ⟨rfl, rfl, rfl⟩
      · exact ⟨a4, q4, p4, n5, fun z => hpq z.symm, n3⟩
      · exact ⟨q4, p4, a4, fun z => hpq z.symm, fun z => n3 z.symm, fun z => n5 z.symm⟩
      · exact ⟨p4, a4, q4, fun z => n3 z.symm, n5, hpq⟩
  have A2 := CL_hld (X := X) (Y := Y) A1 q3a tr3 tb3 (a := u) (b := v) (c := b) (x := b) (y := p) (z := q) u4 v4 b4 hb (by
    rcases pp with ⟨rfl, rfl⟩ | ⟨rfl, rfl⟩
    · exact Or.inl (rt3_1 _ _ _)
    · exact Or.inr (rt3_2 _ _ _)) (fun w => by
    rcases w with w | w
    · exact n5 (hN _ _ _ _ h1b w.1.1)
    · rcases w with ⟨w1, _, _⟩ | ⟨w1, _, _⟩ | ⟨w1, _, _⟩
      · exact n1 w1.symm
      · exact n4 w1
      · exact n2 w1)
  rw [show hh - 1 - 1 + 1 + 1 = hh from by omega] at A2
  refine ⟨hld_b q3a u4 v4 b4, CL_cg A2 (fun x y z => ?_), hTf.1, ?_, hTf.2.2.1⟩
  · unfold flr
    constructor
    · intro w
      rcases w with (w | w) | w
      · exact Or.inl ⟨w.1.1, w.1.2, w.2⟩
      · exact Or.inr (Or.inl w)
      · exact Or.inr (Or.inr w)
    · intro w
      rcases w with w | w | w
      · exact Or.inl (Or.inl ⟨⟨w.1, w.2.1⟩, w.2.2⟩)
      · exact Or.inl (Or.inr w)
      · exact Or.inr w
  · intro x y z w
    rcases w with w | w | w
    · exact hBt _ _ _ w.1
    · exact tb3 _ _ _ (Or.inr w)
    · rcases w with ⟨rfl, rfl, rfl⟩ | ⟨rfl, rfl, rfl⟩ | ⟨rfl, rfl, rfl⟩
      · exact ⟨b4, p4, q4, n2, hpq, n4⟩
      · exact ⟨p4, q4, b4, hpq, fun z => n4 z.symm, fun z => n2 z.symm⟩
      · exact ⟨q4, b4, p4, fun z => n4 z.symm, n2, fun z => hpq z.symm⟩
theorem tov_flr {S : RS} (hB : HB (S.2.2.1.2.2.1, S.2.2.1.2.2.2.1, S.2.2.1.2.2.2.2.1) S.2.2.1.2.2.2.2.2.1 t) (hT : TI S.1.1 S.1.2.1 (Vb vb) t) {a b p q : Nat} (h1 : t a b p) (h2 : t b a q) (hp : 0 < le3 S.1.1 S.1.2.1 p a q) (hb : 0 < le3 S.1.1 S.1.2.1 b p q) : tovOk a b S ∧ HB ((rTov a b S).2.2.1.2.2.1, (rTov a b S).2.2.1.2.2.2.1, (rTov a b S).2.2.1.2.2.2.2.1) (rTov a b S).2.2.1.2.2.2.2.2.1 (flr t a b p q) ∧ (rTov a b S).2.2.1.2.2.2.2.2.1 = S.2.2.1.2.2.2.2.2.1 := by
  have hpq := pq_ne hT h1 h2
  obtain ⟨i, j, ij, jh, e1, e2, e3⟩ := hand2 hB h1 h2 hpq
  have bb1 := hB.2.2.2.1 _ _ _ h1; have bb2 := hB.2.2.2.1 _ _ _ h2
  obtain ⟨w1, w2, w3, w4⟩ := tov_eq (S := S) (a := a) (b := b) e1 e2 rfl rfl
  have e3' : (thd S.2.2.1.2.2.1 S.2.2.1.2.2.2.1 S.2.2.1.2.2.2.2.1 i a b = p ∧ thd S.2.2.1.2.2.1 S.2.2.1.2.2.2.1 S.2.2.1.2.2.2.2.1 j a b = q) ∨ (thd S.2.2.1.2.2.1 S.2.2.1.2.2.2.1 S.2.2.1.2.2.2.2.1 i a b = q ∧ thd S.2.2.1.2.2.1 S.2.2.1.2.2.2.1 S.2.2.1.2.2.2.2.1 j a b = p) := by
    rcases e3 with ⟨c1, c2, _⟩ | ⟨c1, c2, _⟩
    · exact Or.inl ⟨c1, c2⟩
    · exact Or.inr ⟨c1, c2⟩
  refine ⟨⟨by rw [e1]; omega, by rw [e1, e2]; omega, ?_⟩, ?_, by omega⟩
  · rw [w3, w4]
    rcases e3' with ⟨c1, c2⟩ | ⟨c1, c2⟩
    · rw [c1, c2]; exact ⟨hpq, fun z => bb1.2.2.2.2.2 z.symm, fun z => bb1.2.2.2.2.1 z.symm, fun z => bb2.2.2.2.2.1 z.symm, fun z => bb2.2.2.2.2.2 z.symm⟩
    · rw [c1, c2]; exact ⟨fun z => hpq z.symm, fun z => bb2.2.2.2.2.1 z.symm, fun z => bb2.2.2.2.2.2 z.symm, fun z => bb1.2.2.2.2.2 z.symm, fun z => bb1.2.2.2.2.1 z.symm⟩
  · rw [w1, w2, show S.2.2.1.2.2.2.2.2.1 - 1 - 1 + 1 + 1 = S.2.2.1.2.2.2.2.2.1 from by omega]
    exact row_flr hB hT h1 h2 hp hb ij jh e3
end TOV
