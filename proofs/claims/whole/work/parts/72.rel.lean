/-! the drawing of the class and what the reference knows -/
def vbT (T : Nat → Bool) (pn x : Nat) : Bool := decide (x < pn) && T x
theorem vbT_iff {T : Nat → Bool} {pn x : Nat} : vbT T pn x = true ↔ x < pn ∧ T x = true := by
  unfold vbT; simp only [Bool.and_eq_true, decide_eq_true_eq]
/-- what is to be drawn -/
def DD (X Y : Nat → Int) (T : Nat → Bool) (pn : Nat) (a b c : Nat) : Prop := nf1 X Y T pn 0 = true ∧ b < pn ∧ c < pn ∧ ftP X Y T pn a b c = true
/-- M is the drawing -/
def DI (X Y : Nat → Int) (T : Nat → Bool) (pn : Nat) (M : MT) (t : Nat → Nat → Nat → Prop) : Prop := SI X Y (vbT T pn) M t ∧ CL M.1 M.2.1 (DD X Y T pn)
section REL1
variable {X Y : Nat → Int} {T : Nat → Bool} {pn N : Nat} {O : Nat → Nat}
theorem PL_of (hX : ∀ i, -10000 ≤ X i ∧ X i ≤ 10000) (hY : ∀ i, -10000 ≤ Y i ∧ Y i ≤ 10000) (hp : pn ≤ 40) (h : srd X Y O N) (hv : VT T pn O N) : PL X Y (vbT T pn) := by
  refine ⟨hX, hY, ?_, fun a ha => by have := vbT_iff.1 ha; omega⟩
  intro a b va vb ne
  exact srd_ap h (Nat.le_refl N) a b ((hv a).2 (vbT_iff.1 va)) ((hv b).2 (vbT_iff.1 vb)) ne
theorem VO_Vb (hv : VT T pn O N) : VO O N = Vb (vbT T pn) := funext fun x => propext ((hv x).trans vbT_iff.symm)
theorem CL_cd {A : Nat → Nat} {n : Nat} {t u : Nat → Nat → Nat → Prop} (h : CL A n t) (he : ∀ x y z, x < y → x < z → (t x y z ↔ u x y z)) : CL A n u := by
  refine ⟨h.1, fun k => (h.2 k).trans ⟨?_, ?_⟩⟩
  · intro ⟨a, b, c, g1, g2, g3, g4⟩; exact ⟨a, b, c, (he a b c g2 g3).1 g1, g2, g3, g4⟩
  · intro ⟨a, b, c, g1, g2, g3, g4⟩; exact ⟨a, b, c, (he a b c g2 g3).2 g1, g2, g3, g4⟩
theorem CR_nonempty {m n : Nat} {R : MT × AB} {t : Nat → Nat → Nat → Prop} {r : Nat → Nat} (h : CR X Y O m R t r n) : ∃ a b c, t a b c := by
  obtain ⟨_, ⟨L, n3, hin, _, _⟩, _, _⟩ := h
  obtain ⟨_, _, _, _, _, ⟨_, hrn⟩, b0, b1, b2, _, _, b5⟩ := L
  rcases b5 0 (by omega) with ⟨w, hw⟩ | ⟨m, m1, m2, m3⟩
  · exact ⟨_, _, _, hw⟩
  · exfalso
    by_cases q : 0 + 1 = n
    · omega
    · have e1 := hin _ _ m1 (by omega) m2
      subst e1
      by_cases z : 0 + 1 + 1 = n
      · omega
      · have := hin _ _ (by omega) (by omega) m3; omega
/-- the class draws -/
theorem drw_DI (hX : ∀ i, -10000 ≤ X i ∧ X i ≤ 10000) (hY : ∀ i, -10000 ≤ Y i ∧ Y i ≤ 10000) (hp : pn ≤ 40) (hN : N ≤ 40) (hO : ∀ i, O i < 40) (h : srd X Y O N) (hv : VT T pn O N) (R : MT × AB) (hB : MB3 (loT X Y O N R).1) (hB2 : MB3 (drw X Y O N R).1) : ∃ t, DI X Y T pn (drw X Y O N R).1 t := by
  have hP := PL_of hX hY hp h hv
  have fe := flat_eq h hv
  by_cases hf : fol X Y O N < N
  · rw [decide_eq_false (by omega)] at fe
    have hn : nf1 X Y T pn 0 = true := by simpa using fe
    obtain ⟨t, r, n, hC⟩ := lay_c (R := R) h hN hO hf
    have hT := LI_TI hC.2.1.1
    rw [VO_Vb hv] at hT
    have hS : SI X Y (vbT T pn) (loT X Y O N R).1 t := ⟨hC.1, hB, hT⟩
    have hph := Phi_le (X := X) (Y := Y) (vb := vbT T pn) (loT X Y O N R).1
    have hsz := hC.2.2.2
    obtain ⟨u, u1, u2, u3⟩ := stl_done hP 10000 10000 0 (fb X Y (loT X Y O N R).1.2.2 0) (loT X Y O N R).1 t (by omega) (by omega) hS rfl
    have ne := CR_nonempty hC
    -- there still is a triangle: the number of them is kept
    have un : ∃ a b c, u a b c := by
      obtain ⟨a, b, c, ht⟩ := ne
      have pos : 0 < (loT X Y O N R).1.2.1 := by
        have bb := hC.1.2.2.2.1 _ _ _ ht
        obtain ⟨i, i1, _⟩ := (CL_cod hC.1.1 hC.1.2.2.1 hC.1.2.2.2.1 bb.1 bb.2.1 bb.2.2.1 bb.2.2.2.1 bb.2.2.2.2.1 bb.2.2.2.2.2).2 ht
        omega
      obtain ⟨x, y, z, g, _⟩ := (u1.1.1.2 _).1 ⟨0, by omega, rfl⟩
      exact ⟨x, y, z, g⟩
    refine ⟨u, u1, CL_cd u1.1.1 (fun a b c h1 h2 => ?_)⟩
    rw [set_drn hP u1 un u3 (fun x => vbT_iff) a b c h1 h2]
    unfold DD; rw [hn]
    exact ⟨fun z => ⟨rfl, z⟩, fun z => z.2⟩
  · rw [decide_eq_true (by omega)] at fe
    have hn : nf1 X Y T pn 0 = false := by simpa using fe
    have e : loT X Y O N R = ((R.1.1, 0, fil 1600 R.1.2.2), R.2) := by unfold loT; rw [if_neg hf]
    have mc : MC (loT X Y O N R).1 (fun _ _ _ => False) := by rw [e]; exact MC_emp _ _
    have ti : TI X Y (Vb (vbT T pn)) (fun _ _ _ => False) := ⟨fun _ _ _ z => z, fun _ _ _ z => z.elim, fun _ _ _ _ z => z.elim, fun _ _ _ _ _ z => z.elim, fun _ _ _ _ z => z.elim, fun _ _ _ z => z.elim⟩
    have hS : SI X Y (vbT T pn) (loT X Y O N R).1 (fun _ _ _ => False) := ⟨mc, hB, ti⟩
    have nb : ¬ fb X Y (loT X Y O N R).1.2.2 0 < 1600 := by
      intro z
      have := (fb_sp z).1
      unfold fbP at this
      simp only [Bool.and_eq_true, decide_eq_true_eq] at this
      obtain ⟨p, q, h1, _⟩ := (badS_iff hP hS (by omega) (by omega)).1 this.2
      exact h1
    have es : drw X Y O N R = ((loT X Y O N R).1, (loT X Y O N R).2) := by
      unfold drw; rw [stl_end (by omega)]
    refine ⟨fun _ _ _ => False, by rw [es]; exact hS, ?_⟩
    rw [es]
    refine CL_cd mc.1 (fun a b c _ _ => ⟨fun z => z.elim, fun z => ?_⟩)
    unfold DD at z; rw [hn] at z; cases z.1
/-- what know() leaves -/
def KI (X Y : Nat → Int) (T : Nat → Bool) (pn : Nat) (O : Nat → Nat) (N : Nat) (S : RS) : Prop := S.2.1.2.1 = (!(nf1 X Y T pn 0)) ∧ (∀ K, (trC X Y O N K).2 = S.2.1.2.2.2.1 ∧ ∀ k, k < S.2.1.2.2.2.1 → S.2.1.2.2.1 k = (trC X Y O N K).1 k) ∧ CL (rcA (S.2.1.2.2.2.2.1, S.2.1.2.2.2.2.2.1, S.2.1.2.2.2.2.2.2.1, S.2.1.2.2.2.2.2.2.2)) S.2.1.2.2.2.2.2.2.2 (DD X Y T pn)
theorem know_KI (hX : ∀ i, -10000 ≤ X i ∧ X i ≤ 10000) (hY : ∀ i, -10000 ≤ Y i ∧ Y i ≤ 10000) (hp : pn ≤ 40) (hN : N ≤ 40) (hO : ∀ i, O i < 40) (h : srd X Y O N) (hv : VT T pn O N) {M : MT} {t : Nat → Nat → Nat → Prop} (hD : DI X Y T pn M t) {S : RS} (e1 : S.1 = (X, Y, T, pn)) (hk : S.2.1.1 = true → KI X Y T pn O N S) : knOk S ∧ KI X Y T pn O N (rKnow S) ∧ (rKnow S).2.1.1 = true := by
  obtain ⟨⟨X0, Y0, T0, p0⟩, ⟨kn, fl, Hu, hn, A1, A2, A3, mn⟩, S3⟩ := S
  have e1 : (X0, Y0, T0, p0) = (X, Y, T, pn) := e1
  obtain ⟨rfl, rfl, rfl, rfl⟩ : X0 = X ∧ Y0 = Y ∧ T0 = T ∧ p0 = pn := by
    simp only [Prod.mk.injEq] at e1; exact e1
  have hh := fun K => hull_eq h hN hO hv K Hu
  have cl : nf1 X0 Y0 T0 p0 0 = true → CL (rcA (ft1 X0 Y0 T0 p0 0 (A1, A2, A3, 0))) (ft1 X0 Y0 T0 p0 0 (A1, A2, A3, 0)).2.2.2 (DD X0 Y0 T0 p0) := by
    intro hn1
    refine ft1_CL hp (fun a b c h1 h2 => ?_) A1 A2 A3
    unfold DD; rw [hn1]; exact ⟨fun z => z.2, fun z => ⟨rfl, z⟩⟩
  have cap : nf1 X0 Y0 T0 p0 0 = true → (ft1 X0 Y0 T0 p0 0 (A1, A2, A3, 0)).2.2.2 ≤ 120 := by
    intro hn1
    have u := CL_uq (cl hn1) hD.2
    have b : M.2.1 ≤ 80 := hD.1.2.1.2.1
    omega
  refine ⟨fun _ => ⟨(hh Hu).1, fun hz => cap (by simpa using hz)⟩, ?_, ?_⟩
  · unfold rKnow
    by_cases hkn : kn = true
    · rw [if_pos hkn]; exact hk hkn
    · rw [if_neg hkn]
      by_cases hfl : (!(nf1 X0 Y0 T0 p0 0)) = true
      · rw [if_pos hfl]
        refine ⟨rfl, fun K => ?_, ?_⟩
        · obtain ⟨_, q2, q3, _⟩ := hh K
          exact ⟨q2.symm, fun k hk => q3 k (by rw [← q2]; exact hk)⟩
        · have hn1 : nf1 X0 Y0 T0 p0 0 = false := by simpa using hfl
          refine ⟨fun i j _ hj => absurd hj (Nat.not_lt_zero _), fun k => ⟨fun ⟨i, hi, _⟩ => absurd hi (Nat.not_lt_zero _), fun ⟨_, _, _, z, _⟩ => ?_⟩⟩
          unfold DD at z; rw [hn1] at z; cases z.1
      · rw [if_neg hfl]
        have hn1 : nf1 X0 Y0 T0 p0 0 = true := by simpa using hfl
        refine ⟨rfl, fun K => ?_, cl hn1⟩
        obtain ⟨_, q2, q3, _⟩ := hh K
        exact ⟨q2.symm, fun k hk => q3 k (by rw [← q2]; exact hk)⟩
  · unfold rKnow
    by_cases hkn : kn = true
    · rw [if_pos hkn]; exact hkn
    · rw [if_neg hkn]; split <;> rfl
theorem know_keep (S : RS) : (rKnow S).1 = S.1 ∧ (rKnow S).2.2 = S.2.2 := by
  unfold rKnow
  split
  · exact ⟨rfl, rfl⟩
  · split <;> exact ⟨rfl, rfl⟩
end REL1
