/-! around, pointOf, alike, bads -/
theorem late_upp {X Y : Nat → Int} {p q : Nat} (h : dpl X Y p q) : late X Y p q = !upp X Y p q := by
  unfold late upp
  unfold dpl at h
  apply Bool.eq_iff_iff.mpr
  simp only [Bool.or_eq_true, Bool.and_eq_true, Bool.not_eq_true', Bool.or_eq_false_iff, Bool.and_eq_false_iff, decide_eq_true_eq, decide_eq_false_iff_not]
  omega
theorem eara_bfr {X Y : Nat → Int} {p q r : Nat} (h1 : dpl X Y p q) (h2 : dpl X Y p r) : eara X Y p q r = bfr X Y p q r := by
  unfold eara bfr
  rw [late_upp h1, late_upp h2]
  have e1 : decide (0 < trn X Y p q r) = decide (0 < le3 X Y p q r) := decide_eq_decide.mpr trn_gt
  by_cases c : upp X Y p q = upp X Y p r
  · rw [if_pos (by rw [c]), if_pos c]
    by_cases z : le3 X Y p q r = 0
    · rw [if_pos z, if_pos (trn_z.2 z)]
    · rw [if_neg z, if_neg (fun w => z (trn_z.1 w)), e1]
  · rw [if_neg (fun z => c (by cases h : upp X Y p q <;> cases h' : upp X Y p r <;> simp_all)), if_neg c, Bool.not_not]
theorem call_around {B : BS} {S : RS} (h : Rel B S) (p i : Int) : (spAround p i B).1 = (rpAround p i S).1 ∧ Rel (spAround p i B).2 (rpAround p i S).2 := by
  obtain ⟨eX, eY, eT, eN⟩ := PtR_e h.2.2.1
  have r1 := Rel_ref (z := -1) h (by omega)
  have hs := h.2.2.1.2.1
  have hv := h.2.2.1.2.2
  have hap := srd_ap hs (Nat.le_refl _)
  unfold spAround rpAround
  rw [eX, eY, eT, eN]
  by_cases c0 : thr B.1.2.2.1 B.1.2.2.2.2.1 p = false
  · rw [if_pos c0, if_pos c0]; exact ⟨rfl, r1⟩
  rw [if_neg c0, if_neg c0]
  refine ⟨?_, h⟩
  have tp := thr_t (by simpa using c0 : thr B.1.2.2.1 B.1.2.2.2.2.1 p = true)
  show oI (-9) (ff (arP B.1.1 B.1.2.1 B.1.2.2.1 B.1.2.2.2.1 B.1.2.2.2.2.1 B.1.2.2.2.2.2 p.toNat i) B.1.2.2.2.2.1 0) = oI (-9) (ff (aoP B.1.1 B.1.2.1 B.1.2.2.1 B.1.2.2.2.2.1 p.toNat i) B.1.2.2.2.2.1 0)
  congr 1
  refine ff_cg0 rfl (fun q hq => ?_)
  unfold arP aoP
  have th : thr B.1.2.2.1 B.1.2.2.2.2.1 (q : Int) = B.1.2.2.1 q := by unfold thr; rw [decide_eq_true (by omega), decide_eq_true (by omega), Int.toNat_natCast]; rfl
  rw [th]
  cases hT : B.1.2.2.1 q with
  | false => rw [Bool.false_and, Bool.false_and, Bool.and_false]
  | true =>
    by_cases qp : q = p.toNat
    · rw [decide_eq_false (show ¬ q ≠ p.toNat from fun z => z qp)]; rfl
    · rw [decide_eq_true (show q ≠ p.toNat from qp), Bool.true_and, Bool.true_and, Bool.true_and]
      have co := cn_ord hs hv (fun r => decide (r ≠ p.toNat) && (decide (r ≠ q) && eara B.1.1 B.1.2.1 p.toNat r q))
      have co : cn (raP B.1.1 B.1.2.1 B.1.2.2.2.1 p.toNat q) B.1.2.2.2.2.2 0 = cn (fun d => B.1.2.2.1 d && (decide (d ≠ p.toNat) && (decide (d ≠ q) && eara B.1.1 B.1.2.1 p.toNat d q))) B.1.2.2.2.2.1 0 := co
      have ce : cn (fun d => B.1.2.2.1 d && (decide (d ≠ p.toNat) && (decide (d ≠ q) && eara B.1.1 B.1.2.1 p.toNat d q))) B.1.2.2.2.2.1 0 = cn (abP B.1.1 B.1.2.1 B.1.2.2.1 p.toNat q) B.1.2.2.2.2.1 0 := by
        refine cn_cg (fun d hd => ?_)
        unfold abP
        cases hd2 : B.1.2.2.1 d with
        | false => rfl
        | true =>
          by_cases dp : d = p.toNat
          · rw [decide_eq_false (show ¬ d ≠ p.toNat from fun z => z dp)]; rfl
          · have vp := (hv p.toNat).2 ⟨by omega, tp.2.2⟩
            rw [eara_bfr (hap _ _ vp ((hv d).2 ⟨hd, hd2⟩) (fun z => dp z.symm)) (hap _ _ vp ((hv q).2 ⟨hq, hT⟩) (fun z => qp z.symm))]
      rw [co, ce, Bool.true_and]
theorem cn_one {P : Nat → Bool} {n : Nat} (hu : ∀ i j, i < n → j < n → P i = true → P j = true → i = j) : cn P n 0 = if (ff P n 0).isSome = true then 1 else 0 := by
  cases hf : ff P n 0 with
  | none =>
    rw [cn_zero (fun i hi => ff_none n 0 (by omega) hf i (by omega) hi)]; rfl
  | some c =>
    have f := ff_lt n 0 (by omega) c hf
    have r := cn_rm f.2.2.1 f.2.1
    rw [cn_zero (P := fun i => P i && decide (i ≠ c)) (fun i hi => by
      show (P i && decide (i ≠ c)) = false
      by_cases z : i = c
      · rw [decide_eq_false (show ¬ i ≠ c from fun w => w z), Bool.and_false]
      · cases hp : P i with
        | false => rfl
        | true => exact (z (hu i c hi f.2.1 hp f.2.2.1)).elim)] at r
    show cn P n 0 = 1
    omega
theorem call_pointOf {B : BS} {S : RS} (h : Rel B S) (p w : Int) : knOk S ∧ (spPointOf p w B).1 = (rpPointOf p w S).1 ∧ Rel (spPointOf p w B).2 (rpPointOf p w S).2 := by
  obtain ⟨k1, k2, k3, k4, u, d⟩ := Rel_both h
  obtain ⟨_, m2, m3⟩ := Rel_know h
  obtain ⟨eX, eY, eT, eN⟩ := PtR_e h.2.2.1
  obtain ⟨fX, fY, _, _⟩ := PtR_e m2.2.2.1
  have r1 := Rel_ref (z := -1) h (by omega)
  have told40 := h.1.1.2.2.2.1
  refine ⟨k1, ?_⟩
  unfold spPointOf rpPointOf
  rw [eT, eN]
  by_cases c0 : thr B.1.2.2.1 B.1.2.2.2.2.1 p = false
  · rw [if_pos c0, if_pos c0]; exact ⟨rfl, r1⟩
  rw [if_neg c0, if_neg c0]
  have tp := thr_t (by simpa using c0 : thr B.1.2.2.1 B.1.2.2.2.2.1 p = true)
  by_cases w0 : w = 0
  · rw [if_pos w0, if_pos w0]; exact ⟨by show B.1.1 p.toNat = (rKnow S).1.1 p.toNat; rw [fX], m2⟩
  rw [if_neg w0, if_neg w0]
  by_cases w1 : w = 1
  · rw [if_pos w1, if_pos w1]; exact ⟨by show B.1.2.1 p.toNat = (rKnow S).1.2.1 p.toNat; rw [fY], m2⟩
  rw [if_neg w1, if_neg w1]
  by_cases w2 : w = 2
  · rw [if_pos w2, if_pos w2]
    refine ⟨?_, k2⟩
    show ((cn (triP (sDrw B).2.2.1.1.2.2 p.toNat) 40 0 : Nat) : Int) = ((cn (fun t => hsA (rKnow S).2.1.2.2.2.2.1 (rKnow S).2.1.2.2.2.2.2.1 (rKnow S).2.1.2.2.2.2.2.2.1 t (p.toNat : Int)) (rKnow S).2.1.2.2.2.2.2.2.2 0 : Nat) : Int)
    have hSI := d.1
    have hHB := d.2.1
    generalize hM : (sDrw B).2.2.1.1 = M at *
    generalize hp : p.toNat = x at *
    have x40 : x < 40 := by omega
    have hmn : ∃ mn, (rKnow S).2.1.2.2.2.2.2.2.2 = mn := ⟨_, rfl⟩
    obtain ⟨mn, hmn⟩ := hmn
    rw [hmn] at hHB ⊢
    have hQ : ∃ Q : QB, Q = ((rKnow S).2.1.2.2.2.2.1, (rKnow S).2.1.2.2.2.2.2.1, (rKnow S).2.1.2.2.2.2.2.2.1) := ⟨_, rfl⟩
    obtain ⟨Q, hQ⟩ := hQ
    rw [← hQ] at hHB
    have eP : (fun t => hsA (rKnow S).2.1.2.2.2.2.1 (rKnow S).2.1.2.2.2.2.2.1 (rKnow S).2.1.2.2.2.2.2.2.1 t (x : Int)) = fun t => hsA Q.1 Q.2.1 Q.2.2 t (x : Int) := by rw [hQ]
    rw [eP]
    let f : Nat → Nat := fun i => if Q.1 i = x then Q.2.1 i else if Q.2.1 i = x then Q.2.2 i else Q.1 i
    have fs : ∀ i, i < mn → hsA Q.1 Q.2.1 Q.2.2 i (x : Int) = true → ∃ c, rt3 x (f i) c (Q.1 i) (Q.2.1 i) (Q.2.2 i) := by
      intro i hi hp
      have g := hHB.2.2.2.1 _ _ _ (HB_at hHB hi).1
      unfold hsA at hp
      simp only [Bool.or_eq_true, decide_eq_true_eq] at hp
      show ∃ c, rt3 x (if Q.1 i = x then Q.2.1 i else if Q.2.1 i = x then Q.2.2 i else Q.1 i) c _ _ _
      by_cases a : Q.1 i = x
      · rw [if_pos a]; exact ⟨Q.2.2 i, Or.inl ⟨a.symm, rfl, rfl⟩⟩
      · rw [if_neg a]
        by_cases b : Q.2.1 i = x
        · rw [if_pos b]; exact ⟨Q.1 i, Or.inr (Or.inl ⟨b.symm, rfl, rfl⟩)⟩
        · rw [if_neg b]; exact ⟨Q.2.1 i, Or.inr (Or.inr ⟨by omega, rfl, rfl⟩)⟩
    have tri : ∀ q, q < 40 → (triP M.2.2 x q = true ↔ ∃ c, u x q c) := by
      intro q hq
      unfold triP; rw [decide_eq_true_eq]
      constructor
      · intro z; exact ⟨_, MC_pos hSI.1 hSI.2.1 x40 hq z⟩
      · intro ⟨c, z⟩; have := (hSI.1.2.1 x q c x40 hq (hSI.1.2.2.2.1 _ _ _ z).2.2.1).2 z; omega
    have ex : ∀ q, ∃ i, q < 40 → triP M.2.2 x q = true → i < mn ∧ hsA Q.1 Q.2.1 Q.2.2 i (x : Int) = true ∧ f i = q := by
      intro q
      by_cases z : q < 40 ∧ triP M.2.2 x q = true
      · obtain ⟨c, hc⟩ := (tri q z.1).1 z.2
        obtain ⟨i, i1, i2, i3, _⟩ := HB_ix hHB hc
        refine ⟨i, fun _ _ => ⟨i1, ?_, ?_⟩⟩
        · unfold hP at i3; simp only [Bool.and_eq_true] at i3; exact i3.1
        · have g := hHB.2.2.2.1 _ _ _ (HB_at hHB i1).1
          show (if Q.1 i = x then Q.2.1 i else if Q.2.1 i = x then Q.2.2 i else Q.1 i) = q
          unfold rt3 at i2
          (repeat' split) <;> omega
      · exact ⟨0, fun a b => (z ⟨a, b⟩).elim⟩
    have hg : ∃ gg : Nat → Nat, ∀ q, q < 40 → triP M.2.2 x q = true → gg q < mn ∧ hsA Q.1 Q.2.1 Q.2.2 (gg q) (x : Int) = true ∧ f (gg q) = q := ⟨fun q => (ex q).choose, fun q => (ex q).choose_spec⟩
    obtain ⟨gg, hg⟩ := hg
    have := cnt_eq (P := fun t => hsA Q.1 Q.2.1 Q.2.2 t (x : Int)) (Q := triP M.2.2 x) (n := mn) (m := 40) f (fun i hi hp => by
      obtain ⟨c, rr⟩ := fs i hi hp
      have tt := tRt hHB.2.2.1 (HB_at hHB hi).1 rr
      have bb := hHB.2.2.2.1 _ _ _ tt
      exact ⟨bb.2.1, (tri _ bb.2.1).2 ⟨c, tt⟩⟩) (fun i j hi hj pi pj e => by
      obtain ⟨c1, rr1⟩ := fs i hi pi
      obtain ⟨c2, rr2⟩ := fs j hj pj
      have t1 := tRt hHB.2.2.1 (HB_at hHB hi).1 rr1
      have t2 := tRt hHB.2.2.1 (HB_at hHB hj).1 rr2
      rw [e] at t1 rr1
      have ec := hHB.2.2.2.2 _ _ _ _ t1 t2
      rw [ec] at rr1
      have g1 := HB_at hHB hi; have g2 := HB_at hHB hj
      have e1 := cod_rt (rt3_sy rr1) g1.2.1 g1.2.2; have e2 := cod_rt (rt3_sy rr2) g2.2.1 g2.2.2
      rcases Nat.lt_trichotomy i j with z | z | z
      · have := hHB.2.1.1 i j z hj; unfold rc at this; omega
      · exact z
      · have := hHB.2.1.1 j i z hi; unfold rc at this; omega) gg (fun q hq tq => hg q hq tq)
    rw [this]
  rw [if_neg w2, if_neg w2]
  by_cases w3 : w = 3
  · rw [if_pos w3, if_pos w3]
    refine ⟨?_, Rel_trc m2⟩
    have e : (sTrc B).2.1.2 = (rKnow S).2.1.2.2.2.1 := (m3.2.1 B.2.1.1).1
    have e2 : ∀ k, k < (rKnow S).2.1.2.2.2.1 → (rKnow S).2.1.2.2.1 k = (sTrc B).2.1.1 k := (m3.2.1 B.2.1.1).2
    obtain ⟨_, _, _, hin⟩ := hull_eq h.2.2.1.2.1 h.1.1.2.2.2.2 h.1.1.2.2.1 h.2.2.1.2.2 B.2.1.1 (fun _ => 0)
    have hin : inj (sTrc B).2.1.1 (sTrc B).2.1.2 := hin
    show b2i (ff (fun j => decide ((sTrc B).2.1.1 j = p.toNat)) (sTrc B).2.1.2 0).isSome = ((cn (fun k => decide ((rKnow S).2.1.2.2.1 k = p.toNat)) (rKnow S).2.1.2.2.2.1 0 : Nat) : Int)
    have ce : cn (fun k => decide ((rKnow S).2.1.2.2.1 k = p.toNat)) (rKnow S).2.1.2.2.2.1 0 = cn (fun k => decide ((sTrc B).2.1.1 k = p.toNat)) (rKnow S).2.1.2.2.2.1 0 := cn_cg (fun k hk => by rw [e2 k hk])
    rw [ce, ← e, cn_one (fun i j hi hj pi pj => hin i j hi hj (by rw [of_decide_eq_true pi, of_decide_eq_true pj]))]
    cases (ff (fun j => decide ((sTrc B).2.1.1 j = p.toNat)) (sTrc B).2.1.2 0).isSome <;> rfl
  rw [if_neg w3, if_neg w3]
  exact ⟨rfl, Rel_ref m2 (by omega)⟩
theorem ak1_sm {A1 A2 A3 B1 B2 B3 : Nat → Nat} {hh mn : Nat} : ∀ (d t k : Nat), t + d = hh → ak1 A1 A2 A3 B1 B2 B3 hh mn t k + sm (fun t => cn (akP A1 A2 A3 B1 B2 B3 t) mn 0) t = k + sm (fun t => cn (akP A1 A2 A3 B1 B2 B3 t) mn 0) hh := by
  intro d
  induction d with
  | zero => intro t k h; rw [ak1_end (by omega), show t = hh from by omega]
  | succ d ih =>
    intro t k h
    rw [ak1_go (by omega)]
    have a := ih (t + 1) (k + cn (akP A1 A2 A3 B1 B2 B3 t) mn 0) (by omega)
    have e : sm (fun t => cn (akP A1 A2 A3 B1 B2 B3 t) mn 0) (t + 1) = sm (fun t => cn (akP A1 A2 A3 B1 B2 B3 t) mn 0) t + cn (akP A1 A2 A3 B1 B2 B3 t) mn 0 := rfl
    omega
theorem call_alike {B : BS} {S : RS} (h : Rel B S) : knOk S ∧ (spAlike B).1 = (rpAlike S).1 ∧ Rel (spAlike B).2 (rpAlike S).2 := by
  obtain ⟨k1, k2, k3, k4, u, d⟩ := Rel_both h
  have r3 := Rel_ref (z := -3) h (by omega)
  refine ⟨k1, ?_⟩
  unfold spAlike rpAlike
  rw [rdy_eq h.2.2.2.2.1]
  by_cases c0 : (S.2.2.1.1 && !S.2.2.1.2.1) = false
  · rw [if_pos c0, if_pos c0]; exact ⟨rfl, r3⟩
  rw [if_neg c0, if_neg c0]
  refine ⟨?_, k2⟩
  have rd : (S.2.2.1.1 && !S.2.2.1.2.1) = true := by simpa using c0
  obtain ⟨v, hv⟩ := k2.2.2.2.2.1.2.2.2.2.2 (by rw [(know_keep S).2]; exact rd)
  obtain ⟨e1, e2⟩ := HR_row hv
  show ((cn (alP (sDrw B).2.2.1.1.1 (sDrw B).2.2.1.1.2.1 (sDrw B).2.2.2.1.1.1) (sDrw B).2.2.2.1.1.2.1 0 : Nat) : Int) = ((ak1 (rKnow S).2.1.2.2.2.2.1 (rKnow S).2.1.2.2.2.2.2.1 (rKnow S).2.1.2.2.2.2.2.2.1 (rKnow S).2.2.1.2.2.1 (rKnow S).2.2.1.2.2.2.1 (rKnow S).2.2.1.2.2.2.2.1 (rKnow S).2.2.1.2.2.2.2.2.1 (rKnow S).2.1.2.2.2.2.2.2.2 0 0 : Nat) : Int)
  have a := ak1_sm (A1 := (rKnow S).2.1.2.2.2.2.1) (A2 := (rKnow S).2.1.2.2.2.2.2.1) (A3 := (rKnow S).2.1.2.2.2.2.2.2.1) (B1 := (rKnow S).2.2.1.2.2.1) (B2 := (rKnow S).2.2.1.2.2.2.1) (B3 := (rKnow S).2.2.1.2.2.2.2.1) (hh := (rKnow S).2.2.1.2.2.2.2.2.1) (mn := (rKnow S).2.1.2.2.2.2.2.2.2) (rKnow S).2.2.1.2.2.2.2.2.1 0 0 (by omega)
  have z0 : sm (fun t => cn (akP (rKnow S).2.1.2.2.2.2.1 (rKnow S).2.1.2.2.2.2.2.1 (rKnow S).2.1.2.2.2.2.2.2.1 (rKnow S).2.2.1.2.2.1 (rKnow S).2.2.1.2.2.2.1 (rKnow S).2.2.1.2.2.2.2.1 t) (rKnow S).2.1.2.2.2.2.2.2.2 0) 0 = 0 := rfl
  have b : cn (alP (sDrw B).2.2.1.1.1 (sDrw B).2.2.1.1.2.1 (sDrw B).2.2.2.1.1.1) (sDrw B).2.2.2.1.1.2.1 0 = sm (fun t => cn (akP (rKnow S).2.1.2.2.2.2.1 (rKnow S).2.1.2.2.2.2.2.1 (rKnow S).2.1.2.2.2.2.2.2.1 (rKnow S).2.2.1.2.2.1 (rKnow S).2.2.1.2.2.2.1 (rKnow S).2.2.1.2.2.2.2.1 t) (rKnow S).2.1.2.2.2.2.2.2.2 0) (rKnow S).2.2.1.2.2.2.2.2.1 := by
    rw [cn_sm, e1]
    refine sm_cg _ (fun t ht => ?_)
    show b01 _ t = cn (akP _ _ _ _ _ _ t) _ 0
    have em := d.2.2.1
    have row := d.2.2.2
    have qA := d.2.1.1
    have qB := hv.2.1
    have eq : ∀ o, o < (rKnow S).2.1.2.2.2.2.2.2.2 → akP (rKnow S).2.1.2.2.2.2.1 (rKnow S).2.1.2.2.2.2.2.1 (rKnow S).2.1.2.2.2.2.2.2.1 (rKnow S).2.2.1.2.2.1 (rKnow S).2.2.1.2.2.2.1 (rKnow S).2.2.1.2.2.2.2.1 t o = cdP (sDrw B).2.2.1.1.1 ((sDrw B).2.2.2.1.1.1 t) o := by
      intro o ho
      unfold akP cdP
      rw [row o (by omega), e2 t (by omega)]
      have x1 := qA.2.1 o; have x2 := qA.2.2 o; have x3 := qB.2.1 t; have x4 := qB.2.2 t
      apply Bool.eq_iff_iff.mpr
      simp only [Bool.and_eq_true, decide_eq_true_eq]
      constructor
      · intro ⟨y1, y2, y3⟩; rw [y1, y2, y3]
      · intro y
        have := cd3_inj x1 x2 x3 x4 y
        exact ⟨this.1.symm, this.2.1.symm, this.2.2.symm⟩
    rw [cn_cg eq, ← em, cn_one (fun i j hi hj pi pj => by
      have pi := of_decide_eq_true pi; have pj := of_decide_eq_true pj
      rcases Nat.lt_trichotomy i j with z | z | z
      · have := d.1.1.1.1 i j z hj; omega
      · exact z
      · have := d.1.1.1.1 j i z hi; omega)]
    unfold b01 alP
    cases ff (cdP (sDrw B).2.2.1.1.1 ((sDrw B).2.2.2.1.1.1 t)) (sDrw B).2.2.1.1.2.1 0 with
    | none => rfl
    | some c => rw [if_pos (by exact decide_eq_true (show (0 : Int) ≤ (c : Int) by omega))]; rfl
  rw [b]
  omega
theorem sm_grid (f : Nat → Nat) : ∀ n, sm f (n * 40) = sm (fun a => sm (fun b => f (a * 40 + b)) 40) n := by
  have add : ∀ (k n : Nat), sm f (n + k) = sm f n + sm (fun b => f (n + b)) k := by
    intro k
    induction k with
    | zero => intro n; rfl
    | succ k ih => intro n; show sm f (n + k) + f (n + k) = sm f n + (sm (fun b => f (n + b)) k + f (n + k)); rw [ih n]; omega
  intro n
  induction n with
  | zero => rfl
  | succ n ih =>
    rw [show (n + 1) * 40 = n * 40 + 40 from by omega, add, ih]; rfl
theorem cn_from {P : Nat → Bool} {n : Nat} : ∀ (d i : Nat), i + d = n → cn P n i = cn (fun b => decide (i ≤ b) && P b) n 0 := by
  have key : ∀ (d i k : Nat), k + d = n → i ≤ n → cn (fun b => decide (i ≤ b) && P b) n k = if k ≤ i then cn P n i else cn P n k := by
    intro d
    induction d with
    | zero =>
      intro i k hk hi
      rw [cn_end (by omega)]
      split
      · rw [cn_end (by omega)]
      · rw [cn_end (by omega)]
    | succ d ih =>
      intro i k hk hi
      by_cases z : i ≤ k
      · have e := ih i (k + 1) (by omega) hi
        rw [if_neg (by omega)] at e
        have tgt : (if k ≤ i then cn P n i else cn P n k) = cn P n k := by
          by_cases w : k ≤ i
          · rw [if_pos w, show i = k from by omega]
          · rw [if_neg w]
        rw [tgt]
        cases hp : P k with
        | true => rw [cn_hit (by omega) (by show (decide (i ≤ k) && P k) = true; rw [decide_eq_true z, hp]; rfl), e, cn_hit (P := P) (by omega) hp]
        | false => rw [cn_go (by omega) (by show (decide (i ≤ k) && P k) = false; rw [hp, Bool.and_false]), e, cn_go (P := P) (by omega) hp]
      · have e := ih i (k + 1) (by omega) hi
        rw [cn_go (by omega) (by show (decide (i ≤ k) && P k) = false; rw [decide_eq_false z]; rfl), e, if_pos (by omega), if_pos (by omega)]
  intro d i hi
  have := key n i 0 (by omega) (by omega)
  rw [if_pos (by omega)] at this
  exact this.symm
theorem bs1_sm {X Y : Nat → Int} {B1 B2 B3 : Nat → Nat} {hh pn : Nat} : ∀ (d a k : Nat), a + d = pn → bs1 X Y B1 B2 B3 hh pn a k + sm (fun a => cn (bsP X Y B1 B2 B3 hh a) pn (a + 1)) a = k + sm (fun a => cn (bsP X Y B1 B2 B3 hh a) pn (a + 1)) pn := by
  intro d
  induction d with
  | zero => intro a k h; rw [bs1_end (by omega), show a = pn from by omega]
  | succ d ih =>
    intro a k h
    rw [bs1_go (by omega)]
    have e := ih (a + 1) (k + cn (bsP X Y B1 B2 B3 hh a) pn (a + 1)) (by omega)
    have e2 : sm (fun a => cn (bsP X Y B1 B2 B3 hh a) pn (a + 1)) (a + 1) = sm (fun a => cn (bsP X Y B1 B2 B3 hh a) pn (a + 1)) a + cn (bsP X Y B1 B2 B3 hh a) pn (a + 1) := rfl
    omega
theorem sm_ext {f : Nat → Nat} {n : Nat} : ∀ (d m : Nat), m = n + d → (∀ i, n ≤ i → i < m → f i = 0) → sm f m = sm f n := by
  intro d
  induction d with
  | zero => intro m h _; rw [h]; rfl
  | succ d ih =>
    intro m h hz
    obtain ⟨m', rfl⟩ : ∃ m', m = m' + 1 := ⟨m - 1, by omega⟩
    show sm f m' + f m' = sm f n
    rw [hz m' (by omega) (by omega), ih m' (by omega) (fun i h1 h2 => hz i h1 (by omega))]; rfl
theorem call_bads {B : BS} {S : RS} (h : Rel B S) : (spBads B).1 = (rpBads S).1 ∧ Rel (spBads B).2 (rpBads S).2 := by
  have r3 := Rel_ref (z := -3) h (by omega)
  have hPL := HR_PL h
  obtain ⟨eX, eY, eT, eN⟩ := PtR_e h.2.2.1
  have told40 := h.1.1.2.2.2.1
  unfold spBads rpBads
  rw [rdy_eq h.2.2.2.2.1]
  by_cases c0 : (S.2.2.1.1 && !S.2.2.1.2.1) = false
  · rw [if_pos c0, if_pos c0]; exact ⟨rfl, r3⟩
  rw [if_neg c0, if_neg c0]
  refine ⟨?_, h⟩
  obtain ⟨u, hu⟩ := h.2.2.2.2.1.2.2.2.2.2 (by simpa using c0)
  show ((cn (fbP B.1.1 B.1.2.1 B.2.2.2.1.1.2.2) 1600 0 : Nat) : Int) = ((bs1 S.1.1 S.1.2.1 S.2.2.1.2.2.1 S.2.2.1.2.2.2.1 S.2.2.1.2.2.2.2.1 S.2.2.1.2.2.2.2.2.1 S.1.2.2.2 0 0 : Nat) : Int)
  have a := bs1_sm (X := S.1.1) (Y := S.1.2.1) (B1 := S.2.2.1.2.2.1) (B2 := S.2.2.1.2.2.2.1) (B3 := S.2.2.1.2.2.2.2.1) (hh := S.2.2.1.2.2.2.2.2.1) (pn := S.1.2.2.2) S.1.2.2.2 0 0 (by omega)
  have z0 : sm (fun a => cn (bsP S.1.1 S.1.2.1 S.2.2.1.2.2.1 S.2.2.1.2.2.2.1 S.2.2.1.2.2.2.2.1 S.2.2.1.2.2.2.2.2.1 a) S.1.2.2.2 (a + 1)) 0 = 0 := rfl
  -- an edge is counted by both
  have one : ∀ x y, x < y → x < 40 → y < 40 → (bsP S.1.1 S.1.2.1 S.2.2.1.2.2.1 S.2.2.1.2.2.2.1 S.2.2.1.2.2.2.2.1 S.2.2.1.2.2.2.2.2.1 x y = true ↔ badS S.1.1 S.1.2.1 B.2.2.2.1.1.2.2 x y = true) := by
    intro x y hxy hx hy
    have bw := bdO_w hPL hu.1 hu.2 hx hy (by omega)
    have bw : bdO S.1.1 S.1.2.1 S.2.2.1.2.2.1 S.2.2.1.2.2.2.1 S.2.2.1.2.2.2.2.1 S.2.2.1.2.2.2.2.2.1 x y = _ := bw
    unfold bsP
    rw [Bool.and_eq_true, decide_eq_true_eq, bw]
    constructor
    · intro ⟨_, z⟩
      by_cases w : badS S.1.1 S.1.2.1 B.2.2.2.1.1.2.2 x y = true
      · exact w
      · rw [if_neg w] at z; split at z <;> omega
    · intro w
      obtain ⟨p, q, k1, _⟩ := (badS_iff hPL hu.1 hx hy).1 w
      exact ⟨(edG_iff hu.2).2 (Or.inl ⟨p, k1⟩), by rw [if_pos w]; omega⟩
  have inV : ∀ x y, x < 40 → y < 40 → badS S.1.1 S.1.2.1 B.2.2.2.1.1.2.2 x y = true → x < S.1.2.2.2 ∧ y < S.1.2.2.2 := by
    intro x y hx hy w
    obtain ⟨p, q, k1, _⟩ := (badS_iff hPL hu.1 hx hy).1 w
    have v := hu.1.2.2.2.1 _ _ _ k1
    have v1 : vbS S x = true := v.1
    have v2 : vbS S y = true := v.2.1
    unfold vbS at v1 v2
    simp only [Bool.and_eq_true, decide_eq_true_eq] at v1 v2
    exact ⟨v1.1, v2.1⟩
  have fbv : ∀ x y, y < 40 → fbP S.1.1 S.1.2.1 B.2.2.2.1.1.2.2 (x * 40 + y) = (decide (x < y) && badS S.1.1 S.1.2.1 B.2.2.2.1.1.2.2 x y) := by
    intro x y hy
    unfold fbP; rw [show (x * 40 + y) / 40 = x from by omega, show (x * 40 + y) % 40 = y from by omega]
  have main : cn (fbP B.1.1 B.1.2.1 B.2.2.2.1.1.2.2) 1600 0 = sm (fun a => cn (bsP S.1.1 S.1.2.1 S.2.2.1.2.2.1 S.2.2.1.2.2.2.1 S.2.2.1.2.2.2.2.1 S.2.2.1.2.2.2.2.2.1 a) S.1.2.2.2 (a + 1)) S.1.2.2.2 := by
    rw [← eX, ← eY, cn_sm, show (1600 : Nat) = 40 * 40 from rfl, sm_grid]
    rw [sm_ext (n := S.1.2.2.2) (40 - S.1.2.2.2) 40 (by omega) ?_]
    · refine sm_cg _ (fun x hx => ?_)
      show sm (fun b => b01 (fbP S.1.1 S.1.2.1 B.2.2.2.1.1.2.2) (x * 40 + b)) 40 = _
      rw [cn_from (S.1.2.2.2 - (x + 1)) (x + 1) (by omega), cn_sm]
      rw [sm_ext (n := S.1.2.2.2) (40 - S.1.2.2.2) 40 (by omega) ?_]
      · refine sm_cg _ (fun y hy => ?_)
        unfold b01
        rw [fbv x y (by omega)]
        show (if (decide (x < y) && badS S.1.1 S.1.2.1 B.2.2.2.1.1.2.2 x y) = true then 1 else 0) = if (decide (x + 1 ≤ y) && _) = true then 1 else 0
        by_cases xy : x < y
        · rw [decide_eq_true xy, decide_eq_true (show x + 1 ≤ y by omega), Bool.true_and, Bool.true_and]
          have o := one x y xy (by omega) (by omega)
          by_cases w : badS S.1.1 S.1.2.1 B.2.2.2.1.1.2.2 x y = true
          · rw [if_pos w, if_pos (o.2 w)]
          · rw [if_neg w, if_neg (fun z => w (o.1 z))]
        · rw [decide_eq_false xy, decide_eq_false (show ¬ x + 1 ≤ y by omega), Bool.false_and, Bool.false_and]
      · intro y h1 h2
        unfold b01; rw [fbv x y h2]
        cases w : badS S.1.1 S.1.2.1 B.2.2.2.1.1.2.2 x y with
        | false => rw [Bool.and_false]; rfl
        | true => have := inV x y (by omega) h2 w; omega
    · intro x h1 h2
      show sm (fun b => b01 (fbP S.1.1 S.1.2.1 B.2.2.2.1.1.2.2) (x * 40 + b)) 40 = 0
      rw [sm_cg (g := fun _ => 0) 40 (fun y hy => ?_), sm_c]
      unfold b01; rw [fbv x y hy]
      cases w : badS S.1.1 S.1.2.1 B.2.2.2.1.1.2.2 x y with
      | false => rw [Bool.and_false]; rfl
      | true => have := inV x y h2 hy w; omega
  rw [main]; omega
