/-! settling: both flip the same edges -/
section SETT
variable {X Y : Nat → Int} {vb : Nat → Bool} {t : Nat → Nat → Nat → Prop}
def vbS (S : RS) (x : Nat) : Bool := decide (x < S.1.2.2.2) && S.1.2.2.1 x
/-- the class's hand M and the reference's in S hold t -/
def HR (M : MT) (S : RS) (t : Nat → Nat → Nat → Prop) : Prop := SI S.1.1 S.1.2.1 (vbS S) M t ∧ HB (S.2.2.1.2.2.1, S.2.2.1.2.2.2.1, S.2.2.1.2.2.2.2.1) S.2.2.1.2.2.2.2.2.1 t
theorem HR_flip {M : MT} {S : RS} (h : HR M S t) {a b p q : Nat} (h1 : t a b p) (h2 : t b a q) (hp : 0 < le3 S.1.1 S.1.2.1 p a q) (hb : 0 < le3 S.1.1 S.1.2.1 b p q) : tovOk a b S ∧ HR (flT a b M) (rTov a b S) (flr t a b p q) := by
  obtain ⟨g1, g2, _⟩ := tov_flr h.2 h.1.2.2 h1 h2 hp hb
  exact ⟨g1, (SI_flip h.1 h1 h2 hp hb).1, g2⟩
theorem stP_iff {M : MT} {S : RS} (hP : PL S.1.1 S.1.2.1 (vbS S)) (h : HR M S t) {a b : Nat} : stP S a b = true ↔ a < 40 ∧ b < 40 ∧ badS S.1.1 S.1.2.1 M.2.2 a b = true := by
  have hT := h.1.2.2
  have hB := h.1.1.2.2.2.1
  have eg := edG_iff h.2 (a := a) (b := b)
  unfold stP
  simp only [Bool.and_eq_true, decide_eq_true_eq]
  constructor
  · intro ⟨_, _, g3, g4⟩
    have ex : a < 40 ∧ b < 40 ∧ a ≠ b := by
      rcases eg.1 g3 with ⟨p, hp⟩ | ⟨p, hp⟩
      · have := hB _ _ _ hp; exact ⟨this.1, this.2.1, this.2.2.2.1⟩
      · have := hB _ _ _ hp; exact ⟨this.2.1, this.1, fun z => this.2.2.2.1 z.symm⟩
    refine ⟨ex.1, ex.2.1, ?_⟩
    have bw := bdO_w hP h.1 h.2 ex.1 ex.2.1 ex.2.2
    have g4' : bdO S.1.1 S.1.2.1 S.2.2.1.2.2.1 S.2.2.1.2.2.2.1 S.2.2.1.2.2.2.2.1 S.2.2.1.2.2.2.2.2.1 a b = 2 := g4
    have bw' : (2 : Int) = if badS S.1.1 S.1.2.1 M.2.2 a b = true then 2 else if mayS S.1.1 S.1.2.1 M.2.2 a b = true then 1 else 0 := g4'.symm.trans bw
    by_cases z : badS S.1.1 S.1.2.1 M.2.2 a b = true
    · exact z
    · rw [if_neg z] at bw'; split at bw' <;> omega
  · intro ⟨ha, hb, hbad⟩
    obtain ⟨p, q, h1, h2, h3⟩ := (badS_iff hP h.1 ha hb).1 hbad
    have v1 := hT.2.1 _ _ _ h1
    have va : vbS S a = true := v1.1
    have vbb : vbS S b = true := v1.2.1
    have ab := (hB _ _ _ h1).2.2.2.1
    unfold vbS at va vbb
    simp only [Bool.and_eq_true, decide_eq_true_eq] at va vbb
    refine ⟨va.2, vbb.2, eg.2 (Or.inl ⟨p, h1⟩), ?_⟩
    have bw := bdO_w hP h.1 h.2 ha hb ab
    rw [if_pos hbad] at bw; exact bw
theorem rS1_hit {S : RS} {a b : Nat} (hb : b < S.1.2.2.2) (hab : a < b) (hst : stP S a b = true) (n2 : ∀ b', a < b' → b' < b → stP S a b' = false) : ∀ (d a0 : Nat), a0 + d = a → (∀ a' b', a0 ≤ a' → a' < a → a' < b' → b' < S.1.2.2.2 → stP S a' b' = false) → rS1 S a0 = (true, rTov a b S) := by
  intro d
  induction d with
  | zero =>
    intro a0 h0 _
    have : a0 = a := by omega
    subst this
    rw [rS1_go (by omega)]
    unfold rS2
    rw [ff_is1 (c := b) (by omega) hb hst (fun q h1 h2 => n2 q (by omega) h2)]
  | succ d ih =>
    intro a0 h0 hno
    rw [rS1_go (by omega)]
    unfold rS2
    rw [ff_non (fun q h1 h2 => hno a0 q (Nat.le_refl _) (by omega) (by omega) h2)]
    exact ih (a0 + 1) (by omega) (fun a' b' g1 g2 g3 g4 => hno a' b' (by omega) g2 g3 g4)
theorem rS1_none {S : RS} : ∀ (d a0 : Nat), S.1.2.2.2 ≤ a0 + d → (∀ a' b', a0 ≤ a' → a' < b' → b' < S.1.2.2.2 → stP S a' b' = false) → rS1 S a0 = (false, S) := by
  intro d
  induction d with
  | zero => intro a0 h0 _; exact rS1_end (by omega)
  | succ d ih =>
    intro a0 h0 hno
    rcases Nat.lt_or_ge a0 S.1.2.2.2 with q | q
    · rw [rS1_go q]
      unfold rS2
      rw [ff_non (fun z h1 h2 => hno a0 z (Nat.le_refl _) (by omega) h2)]
      exact ih (a0 + 1) (by omega) (fun a' b' g1 g2 g3 => hno a' b' (by omega) g2 g3)
    · exact rS1_end q
theorem sts_ok {M : MT} {S : RS} (hP : PL S.1.1 S.1.2.1 (vbS S)) (h : HR M S t) : sOk S := by
  intro a b hst
  obtain ⟨ha, hb, hbad⟩ := (stP_iff hP h).1 hst
  obtain ⟨p, q, h1, h2, h3⟩ := (badS_iff hP h.1 ha hb).1 hbad
  obtain ⟨m1, m2⟩ := bad_flip hP h.1.2.2 h1 h2 h3
  exact (HR_flip h h1 h2 m1 m2).1
theorem sts_eq {M : MT} {S : RS} (hP : PL S.1.1 S.1.2.1 (vbS S)) (h : HR M S t) {s : Nat} (hs : s = fb S.1.1 S.1.2.1 M.2.2 0) : (s < 1600 → rSts S = (true, rTov (s / 40) (s % 40) S)) ∧ (¬ s < 1600 → rSts S = (false, S)) := by
  have lt : ∀ a b, stP S a b = true → a < 40 ∧ b < 40 := fun a b z => ⟨((stP_iff hP h).1 z).1, ((stP_iff hP h).1 z).2.1⟩
  have fbp : ∀ a b, a < b → stP S a b = true → fbP S.1.1 S.1.2.1 M.2.2 (a * 40 + b) = true := by
    intro a b hab z
    obtain ⟨ha, hb, hbad⟩ := (stP_iff hP h).1 z
    unfold fbP
    rw [show (a * 40 + b) / 40 = a from by omega, show (a * 40 + b) % 40 = b from by omega, decide_eq_true hab, hbad]; rfl
  constructor
  · intro h16
    rw [hs] at h16
    obtain ⟨f1, f2⟩ := fb_sp h16
    rw [← hs] at f1 f2 h16
    have g : s / 40 < s % 40 ∧ badS S.1.1 S.1.2.1 M.2.2 (s / 40) (s % 40) = true := by unfold fbP at f1; simpa using f1
    have st : stP S (s / 40) (s % 40) = true := (stP_iff hP h).2 ⟨by omega, by omega, g.2⟩
    obtain ⟨p, q, h1, h2, h3⟩ := (badS_iff hP h.1 (by omega) (by omega)).1 g.2
    have vbb : vbS S (s % 40) = true := (h.1.2.2.2.1 _ _ _ h1).2.1
    have bl : s % 40 < S.1.2.2.2 := by unfold vbS at vbb; simp only [Bool.and_eq_true, decide_eq_true_eq] at vbb; exact vbb.1
    refine rS1_hit bl g.1 st ?_ (s / 40) 0 (by omega) ?_
    · intro b' g1 g2
      cases z : stP S (s / 40) b' with
      | false => rfl
      | true =>
        have l := lt _ _ z
        have := f2 (s / 40 * 40 + b') (by omega)
        rw [fbp _ _ g1 z] at this; cases this
    · intro a' b' _ g1 g2 _
      cases z : stP S a' b' with
      | false => rfl
      | true =>
        have l := lt _ _ z
        have := f2 (a' * 40 + b') (by omega)
        rw [fbp _ _ g2 z] at this; cases this
  · intro h16
    rw [hs] at h16
    have f := fb_none h16
    refine rS1_none S.1.2.2.2 0 (by omega) ?_
    intro a' b' _ g2 _
    cases z : stP S a' b' with
    | false => rfl
    | true =>
      have l := lt _ _ z
      have := f (a' * 40 + b') (by omega)
      rw [fbp _ _ g2 z] at this; cases this
/-- what settling keeps -/
def keep (S S' : RS) : Prop := S'.1 = S.1 ∧ S'.2.1 = S.2.1 ∧ S'.2.2.1.1 = S.2.2.1.1 ∧ S'.2.2.1.2.1 = S.2.2.1.2.1 ∧ S'.2.2.2 = S.2.2.2 ∧ S'.2.2.1.2.2.2.2.2.1 = S.2.2.1.2.2.2.2.2.1
theorem tov_keep {a b : Nat} {S : RS} (h : (rTov a b S).2.2.1.2.2.2.2.2.1 = S.2.2.1.2.2.2.2.2.1) : keep S (rTov a b S) := ⟨rfl, rfl, rfl, rfl, rfl, h⟩
theorem keep_tr {S S' S'' : RS} (h1 : keep S S') (h2 : keep S' S'') : keep S S'' := ⟨h2.1.trans h1.1, h2.2.1.trans h1.2.1, h2.2.2.1.trans h1.2.2.1, h2.2.2.2.1.trans h1.2.2.2.1, h2.2.2.2.2.1.trans h1.2.2.2.2.1, h2.2.2.2.2.2.trans h1.2.2.2.2.2⟩
theorem set_eq : ∀ (n n0 fl side : Nat) (M : MT) (S : RS) (t : Nat → Nat → Nat → Prop), fl + n = n0 → PL S.1.1 S.1.2.1 (vbS S) → HR M S t → side = fb S.1.1 S.1.2.1 M.2.2 0 → stOk n S ∧ (stl S.1.1 S.1.2.1 n0 fl side M).1 = fl + (rSet n S).1 ∧ keep S (rSet n S).2 ∧ (rSet n S).2.2.2.1.2.2.2.2.2.2 = S.2.2.1.2.2.2.2.2.2 + (rSet n S).1 ∧ ∃ u, HR (stl S.1.1 S.1.2.1 n0 fl side M).2 (rSet n S).2 u := by
  intro n
  induction n with
  | zero =>
    intro n0 fl side M S t hn hP h hs
    rw [stl_end (by omega)]
    exact ⟨trivial, rfl, ⟨rfl, rfl, rfl, rfl, rfl, rfl⟩, rfl, t, h⟩
  | succ n ih =>
    intro n0 fl side M S t hn hP h hs
    have sq := sts_eq hP h hs
    by_cases z : side < 1600
    · have e := sq.1 z
      obtain ⟨p, q, h1, h2, h3, _, h5⟩ := fb_lst hP h.1 hs z
      obtain ⟨m1, m2⟩ := bad_flip hP h.1.2.2 h1 h2 h3
      have hf := (HR_flip h h1 h2 m1 m2).2
      have k1 := tov_keep (tov_flr h.2 h.1.2.2 h1 h2 m1 m2).2.2
      have pl : PL (rTov (side / 40) (side % 40) S).1.1 (rTov (side / 40) (side % 40) S).1.2.1 (vbS (rTov (side / 40) (side % 40) S)) := hP
      obtain ⟨i1, i2, i3, i4, u, i5⟩ := ih n0 (fl + 1) _ _ (rTov (side / 40) (side % 40) S) _ (by omega) pl hf h5
      have e2 : rSet (n + 1) S = ((rSet n (rTov (side / 40) (side % 40) S)).1 + 1, (rSet n (rTov (side / 40) (side % 40) S)).2) := by
        rw [rSet, e]; rfl
      have sg : stl S.1.1 S.1.2.1 n0 fl side M = stl S.1.1 S.1.2.1 n0 (fl + 1) (fb S.1.1 S.1.2.1 (flT (side / 40) (side % 40) M).2.2 (lst M.2.2 (side / 40) (side % 40) * 40)) (flT (side / 40) (side % 40) M) := stl_go ⟨by omega, z⟩
      rw [sg, e2]
      refine ⟨⟨sts_ok hP h, fun _ => by rw [e]; exact i1⟩, ?_, keep_tr k1 i3, ?_, u, i5⟩
      · show _ = fl + ((rSet n _).1 + 1)
        have : (stl S.1.1 S.1.2.1 n0 (fl + 1) (fb S.1.1 S.1.2.1 (flT (side / 40) (side % 40) M).2.2 (lst M.2.2 (side / 40) (side % 40) * 40)) (flT (side / 40) (side % 40) M)).1 = fl + 1 + (rSet n (rTov (side / 40) (side % 40) S)).1 := i2
        omega
      · show (rSet n _).2.2.2.1.2.2.2.2.2.2 = _ + ((rSet n _).1 + 1)
        have : (rTov (side / 40) (side % 40) S).2.2.1.2.2.2.2.2.2 = S.2.2.1.2.2.2.2.2.2 + 1 := rfl
        omega
    · have e := sq.2 z
      have e2 : rSet (n + 1) S = (0, S) := by rw [rSet, e]; rfl
      rw [stl_end (by omega), e2]
      exact ⟨⟨sts_ok hP h, fun w => by rw [e] at w; cases w⟩, rfl, ⟨rfl, rfl, rfl, rfl, rfl, rfl⟩, rfl, t, h⟩
end SETT
