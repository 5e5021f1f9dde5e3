/-! counting -/
def b01 (P : Nat → Bool) (i : Nat) : Nat := if P i = true then 1 else 0
theorem cn_sm (P : Nat → Bool) (n : Nat) : cn P n 0 = sm (b01 P) n := by
  have key : ∀ (d i : Nat), i + d = n → sm (b01 P) i + cn P n i = sm (b01 P) n := by
    intro d
    induction d with
    | zero => intro i hi; rw [cn_end (by omega), show i = n from by omega]; rfl
    | succ d ih =>
      intro i hi
      have a := ih (i + 1) (by omega)
      have e : sm (b01 P) (i + 1) = sm (b01 P) i + b01 P i := rfl
      cases hp : P i with
      | true => rw [cn_hit (by omega) hp]; have : b01 P i = 1 := by unfold b01; rw [if_pos hp]
                omega
      | false => rw [cn_go (by omega) hp]; have : b01 P i = 0 := by unfold b01; rw [hp]; rfl
                 omega
  have := key n 0 (by omega)
  have z : sm (b01 P) 0 = 0 := rfl
  omega
theorem sm_rm {Q : Nat → Bool} {j : Nat} (hq : Q j = true) : ∀ m, j < m → sm (b01 (fun i => Q i && decide (i ≠ j))) m + 1 = sm (b01 Q) m := by
  have below : ∀ m, m ≤ j → sm (b01 (fun i => Q i && decide (i ≠ j))) m = sm (b01 Q) m := by
    intro m hm
    refine sm_cg m (fun i hi => ?_)
    show (if (Q i && decide (i ≠ j)) = true then 1 else 0) = if Q i = true then 1 else 0
    rw [decide_eq_true (show i ≠ j by omega), Bool.and_true]
  intro m
  induction m with
  | zero => intro h; omega
  | succ m ih =>
    intro hm
    show sm (b01 (fun i => Q i && decide (i ≠ j))) m + b01 (fun i => Q i && decide (i ≠ j)) m + 1 = sm (b01 Q) m + b01 Q m
    by_cases z : m = j
    · rw [below m (by omega)]
      have e1 : b01 (fun i => Q i && decide (i ≠ j)) m = 0 := by
        show (if (Q m && decide (m ≠ j)) = true then 1 else 0) = 0
        rw [decide_eq_false (show ¬ m ≠ j from fun w => w z), Bool.and_false]; rfl
      have e2 : b01 Q m = 1 := by unfold b01; rw [z, if_pos hq]
      omega
    · have := ih (by omega)
      have e1 : b01 (fun i => Q i && decide (i ≠ j)) m = b01 Q m := by
        show (if (Q m && decide (m ≠ j)) = true then 1 else 0) = if Q m = true then 1 else 0
        rw [decide_eq_true (show m ≠ j from z), Bool.and_true]
      omega
theorem cnt_le {P : Nat → Bool} {f : Nat → Nat} : ∀ (n m : Nat) (Q : Nat → Bool), (∀ i, i < n → P i = true → f i < m ∧ Q (f i) = true) → (∀ i j, i < n → j < n → P i = true → P j = true → f i = f j → i = j) → sm (b01 P) n ≤ sm (b01 Q) m := by
  intro n
  induction n with
  | zero => intro m Q _ _; exact Nat.zero_le _
  | succ n ih =>
    intro m Q h1 h2
    show sm (b01 P) n + b01 P n ≤ _
    cases hp : P n with
    | false =>
      have e : b01 P n = 0 := by unfold b01; rw [hp]; rfl
      have := ih m Q (fun i hi => h1 i (by omega)) (fun i j hi hj => h2 i j (by omega) (by omega))
      omega
    | true =>
      have e : b01 P n = 1 := by unfold b01; rw [if_pos hp]
      obtain ⟨a1, a2⟩ := h1 n (by omega) hp
      have := ih m (fun i => Q i && decide (i ≠ f n)) (fun i hi pi => by
        have b := h1 i (by omega) pi
        refine ⟨b.1, ?_⟩
        show (Q (f i) && decide (f i ≠ f n)) = true
        rw [b.2, decide_eq_true (show f i ≠ f n from fun z => by have := h2 i n (by omega) (by omega) pi hp z; omega)]; rfl) (fun i j hi hj => h2 i j (by omega) (by omega))
      have r := sm_rm a2 m a1
      omega
theorem cnt_eq {P Q : Nat → Bool} {n m : Nat} (f : Nat → Nat) (h1 : ∀ i, i < n → P i = true → f i < m ∧ Q (f i) = true) (h2 : ∀ i j, i < n → j < n → P i = true → P j = true → f i = f j → i = j) (g : Nat → Nat) (h3 : ∀ j, j < m → Q j = true → g j < n ∧ P (g j) = true ∧ f (g j) = j) : cn P n 0 = cn Q m 0 := by
  rw [cn_sm, cn_sm]
  have a := cnt_le n m Q h1 h2
  have b := cnt_le (P := Q) (f := g) m n P (fun j hj qj => ⟨(h3 j hj qj).1, (h3 j hj qj).2.1⟩) (fun i j hi hj qi qj e => by
    have x := (h3 i hi qi).2.2; have y := (h3 j hj qj).2.2
    rw [← x, ← y, e])
  omega
theorem cn_cg {P Q : Nat → Bool} {n : Nat} (h : ∀ i, i < n → P i = Q i) : cn P n 0 = cn Q n 0 := by
  rw [cn_sm, cn_sm]
  exact sm_cg n (fun i hi => by unfold b01; rw [h i hi])
theorem cn_rm {Q : Nat → Bool} {j m : Nat} (hq : Q j = true) (hj : j < m) : cn (fun i => Q i && decide (i ≠ j)) m 0 + 1 = cn Q m 0 := by
  rw [cn_sm, cn_sm]; exact sm_rm hq m hj
theorem cn_zero {P : Nat → Bool} {n : Nat} (h : ∀ i, i < n → P i = false) : cn P n 0 = 0 := by
  rw [cn_cg (Q := fun _ => false) h, cn_sm]
  have : ∀ n, sm (b01 (fun _ => false)) n = 0 := by
    intro n
    induction n with
    | zero => rfl
    | succ n ih => show sm (b01 (fun _ => false)) n + 0 = 0; omega
  exact this n
theorem ff_cg {P Q : Nat → Bool} {n : Nat} : ∀ (d i : Nat), i + d = n → (∀ k, i ≤ k → k < n → P k = Q k) → ff P n i = ff Q n i := by
  intro d
  induction d with
  | zero => intro i hi _; rw [ff_end (by omega), ff_end (by omega)]
  | succ d ih =>
    intro i hi h
    have e := h i (Nat.le_refl _) (by omega)
    cases hp : P i with
    | true => rw [ff_hit (by omega) hp, ff_hit (by omega) (by rw [← e]; exact hp)]
    | false => rw [ff_go (by omega) hp, ff_go (P := Q) (i := i) (by omega) (by rw [← e]; exact hp)]; exact ih (i + 1) (by omega) (fun k h1 h2 => h k (by omega) h2)
theorem ff_cg0 {P Q : Nat → Bool} {n m : Nat} (hn : n = m) (h : ∀ k, k < n → P k = Q k) : ff P n 0 = ff Q m 0 := by
  subst hn; exact ff_cg n 0 (by omega) (fun k _ hk => h k hk)
section CNT
variable {X Y : Nat → Int} {T : Nat → Bool} {pn N : Nat} {O : Nat → Nat}
/-- over the order, or over the numbers -/
theorem cn_ord (h : srd X Y O N) (hv : VT T pn O N) (P : Nat → Bool) : cn (fun i => P (O i)) N 0 = cn (fun d => T d && P d) pn 0 := by
  have ex : ∀ d, ∃ i, d < pn → T d = true → i < N ∧ d = O i := by
    intro d
    by_cases z : d < pn ∧ T d = true
    · obtain ⟨i, i1, i2⟩ := (hv d).2 z; exact ⟨i, fun _ _ => ⟨i1, i2⟩⟩
    · exact ⟨0, fun a b => (z ⟨a, b⟩).elim⟩
  have hg : ∃ g : Nat → Nat, ∀ d, d < pn → T d = true → g d < N ∧ d = O (g d) := ⟨fun d => (ex d).choose, fun d => (ex d).choose_spec⟩
  obtain ⟨g, hg⟩ := hg
  refine cnt_eq O (fun i hi pi => ?_) (fun i j hi hj _ _ e => ?_) g (fun d hd qd => ?_)
  · have v := (hv (O i)).1 ⟨i, hi, rfl⟩
    exact ⟨v.1, by show (T (O i) && P (O i)) = true; rw [v.2]; exact pi⟩
  · by_cases z : i = j
    · exact z
    · exact (srd_ne h hi hj z e).elim
  · have qd : (T d && P d) = true := qd
    simp only [Bool.and_eq_true] at qd
    have w := hg d hd qd.1
    exact ⟨w.1, by show P (O (g d)) = true; rw [← w.2]; exact qd.2, w.2.symm⟩
/-- decoding a code -/
theorem dec3 {a b c : Nat} (hb : b < 40) (hc : c < 40) : cd3 a b c / 1600 = a ∧ cd3 a b c / 40 % 40 = b ∧ cd3 a b c % 40 = c := by unfold cd3; omega
end CNT
