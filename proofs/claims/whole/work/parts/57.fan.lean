/-! the order's first points on a line, the first one off it, then one after the other -/
def VO (O : Nat → Nat) (m x : Nat) : Prop := ∃ i, i < m ∧ x = O i
def srd (X Y : Nat → Int) (O : Nat → Nat) (N : Nat) : Prop := ∀ i j, i < j → j < N → bef X Y (O i) (O j)
theorem VO_s (O : Nat → Nat) (m : Nat) : (fun x => VO O m x ∨ x = O m) = VO O (m + 1) := funext fun x => propext ⟨fun h => by
  rcases h with ⟨i, i1, i2⟩ | h
  · exact ⟨i, by omega, i2⟩
  · exact ⟨m, by omega, h⟩, fun ⟨i, i1, i2⟩ => by
  by_cases q : i = m
  · subst q; exact Or.inr i2
  · exact Or.inl ⟨i, by omega, i2⟩⟩
section FAN
variable {X Y : Nat → Int} {O : Nat → Nat}
theorem srd_ap {N m : Nat} (h : srd X Y O N) (hm : m ≤ N) : apart X Y (VO O m) := by
  intro a b ⟨i, i1, i2⟩ ⟨j, j1, j2⟩ hab hz
  subst i2; subst j2
  rcases Nat.lt_trichotomy i j with q | q | q
  · have := h i j q (by omega); unfold bef lxp at this; omega
  · subst q; exact hab rfl
  · have := h j i q (by omega); unfold bef lxp at this; omega
theorem srd_ne {N i j : Nat} (h : srd X Y O N) (hi : i < N) (hj : j < N) (hij : i ≠ j) : O i ≠ O j := by
  intro e
  rcases Nat.lt_or_gt_of_ne hij with q | q
  · have := h i j q hj; rw [e] at this; exact bef_ir this
  · have := h j i q hi; rw [e] at this; exact bef_ir this
theorem srd_bef {N m : Nat} (h : srd X Y O N) (hm : m < N) : ∀ x, VO O m x → bef X Y x (O m) := by
  intro x ⟨i, i1, i2⟩; subst i2; exact h i m i1 hm
/-- all on one line -/
theorem line_all {N a : Nat} (h : srd X Y O N) (ha : a ≤ N) (ha2 : 2 ≤ a) (hl : ∀ i, i < a → le3 X Y (O 0) (O 1) (O i) = 0) {i j k : Nat} (hi : i < a) (hj : j < a) (hk : k < a) : le3 X Y (O i) (O j) (O k) = 0 := by
  have two : ∀ i j, i < a → j < a → 0 ≤ le3 X Y (O 0) (O i) (O j) := by
    intro i j hi hj
    have l0 : ∀ i, i < a → lx0 (X (O i) - X (O 0)) (Y (O i) - Y (O 0)) := by
      intro i hi
      rcases Nat.eq_zero_or_pos i with q | q
      · subst q; exact Or.inr ⟨by omega, by omega⟩
      · exact lxp_lx0 (h 0 i q (by omega))
    have z1 := hl i hi; have z2 := hl j hj
    rw [le3_cr] at z1 z2 ⊢
    exact cr_tr (l0 i hi) (h 0 1 (by omega) (by omega)) (l0 j hj) (by rw [cr_sw]; omega) (by omega)
  have zero : ∀ i j, i < a → j < a → le3 X Y (O 0) (O i) (O j) = 0 := by
    intro i j hi hj
    have a1 := two i j hi hj; have a2 := two j i hj hi
    rw [le3_n] at a2; omega
  have s := le3_sum (X := X) (Y := Y) (O i) (O j) (O k) (O 0)
  have e1 : le3 X Y (O i) (O j) (O 0) = le3 X Y (O 0) (O i) (O j) := by unfold le3 lo; grind
  have e2 : le3 X Y (O j) (O k) (O 0) = le3 X Y (O 0) (O j) (O k) := by unfold le3 lo; grind
  have e3 : le3 X Y (O k) (O i) (O 0) = le3 X Y (O 0) (O k) (O i) := by unfold le3 lo; grind
  rw [e1, e2, e3, zero i j hi hj, zero j k hj hk, zero k i hk hi] at s
  omega
/-- the line there and back -/
def rl (O : Nat → Nat) (a k : Nat) : Nat := if k < a then O (a - 1 - k) else O (k - a + 1)
theorem rl_sym {a k : Nat} (ha : 2 ≤ a) (hk : k ≤ 2 * (a - 1)) : rl O a (2 * (a - 1) - k) = rl O a k := by
  unfold rl
  split <;> split <;> (congr 1; omega)
theorem rl_ad {a k : Nat} (ha : 2 ≤ a) (hk : k < 2 * (a - 1)) : (k < a - 1 ∧ ∃ i, i + 1 < a ∧ rl O a k = O (i + 1) ∧ rl O a (k + 1) = O i) ∨ (a - 1 ≤ k ∧ ∃ i, i + 1 < a ∧ rl O a k = O i ∧ rl O a (k + 1) = O (i + 1)) := by
  rcases Nat.lt_or_ge k (a - 1) with q | q
  · refine Or.inl ⟨q, a - 2 - k, by omega, ?_, ?_⟩
    · unfold rl; rw [if_pos (by omega)]; congr 1; omega
    · unfold rl; rw [if_pos (by omega)]; congr 1; omega
  · refine Or.inr ⟨q, k + 1 - a, by omega, ?_, ?_⟩
    · by_cases z : k = a - 1
      · unfold rl; rw [if_pos (by omega)]; congr 1; omega
      · unfold rl; rw [if_neg (by omega)]; (try (congr 1; omega))
    · unfold rl; rw [if_neg (by omega)]
theorem line_LI {N a : Nat} (h : srd X Y O N) (ha : a ≤ N) (ha2 : 2 ≤ a) (hl : ∀ i, i < a → le3 X Y (O 0) (O 1) (O i) = 0) : LI X Y (VO O a) (fun _ _ _ => False) (rl O a) (2 * (a - 1)) := by
  have lin := fun i j k hi hj hk => line_all h ha ha2 hl (i := i) (j := j) (k := k) hi hj hk
  have bt : ∀ i j, i + 1 < a → j < a → bef X Y (O i) (O j) → bef X Y (O j) (O (i + 1)) → False := by
    intro i j hi hj b1 b2
    rcases Nat.lt_trichotomy j i with q | q | q
    · exact bef_as b1 (h j i q (by omega))
    · subst q; exact bef_ir b1
    · rcases Nat.lt_trichotomy j (i + 1) with w | w | w
      · omega
      · subst w; exact bef_ir b2
      · exact bef_as b2 (h _ _ w (by omega))
  refine ⟨fun _ _ _ z => z, fun _ _ _ z => z.elim, fun _ _ _ _ z => z.elim, fun _ _ _ _ _ z => z.elim, fun _ _ _ _ z => z.elim, ⟨by omega, ?_⟩, ?_, ?_, ?_, fun _ _ _ z => z, fun _ _ _ z => z.elim, ?_⟩
  · have := rl_sym (O := O) (k := 0) ha2 (by omega); rw [Nat.sub_zero] at this; exact this
  · intro k hk
    rcases rl_ad (O := O) ha2 hk with ⟨_, i, i1, i2, i3⟩ | ⟨_, i, i1, i2, i3⟩ <;> rw [i2, i3]
    · exact ⟨⟨i + 1, by omega, rfl⟩, ⟨i, by omega, rfl⟩, srd_ne h (by omega) (by omega) (by omega)⟩
    · exact ⟨⟨i, by omega, rfl⟩, ⟨i + 1, by omega, rfl⟩, srd_ne h (by omega) (by omega) (by omega)⟩
  · intro k hk x ⟨m, m1, m2⟩
    subst m2
    rcases rl_ad (O := O) ha2 hk with ⟨_, i, i1, i2, i3⟩ | ⟨_, i, i1, i2, i3⟩ <;> rw [i2, i3, lin _ _ _ (by omega) (by omega) m1] <;> exact Int.le_refl _
  · intro k hk x ⟨m, m1, m2⟩ _ hb
    subst m2
    rcases rl_ad (O := O) ha2 hk with ⟨_, i, i1, i2, i3⟩ | ⟨_, i, i1, i2, i3⟩ <;> rw [i2, i3] at hb
    · rcases hb with ⟨z1, z2⟩ | ⟨z1, z2⟩
      · exact bef_as (bef_tr z1 z2) (h i (i + 1) (by omega) (by omega))
      · exact bt i m i1 m1 z1 z2
    · rcases hb with ⟨z1, z2⟩ | ⟨z1, z2⟩
      · exact bt i m i1 m1 z1 z2
      · exact bef_as (bef_tr z1 z2) (h i (i + 1) (by omega) (by omega))
  · intro k hk
    refine Or.inr ⟨2 * (a - 1) - (k + 1), by omega, rl_sym ha2 (by omega), ?_⟩
    rw [show 2 * (a - 1) - (k + 1) + 1 = 2 * (a - 1) - k from by omega]
    exact rl_sym ha2 (by omega)
/-- all sides of the line see the next point alike -/
theorem line_sgn {N a : Nat} (h : srd X Y O N) (ha : a < N) (ha2 : 2 ≤ a) (hl : ∀ i, i < a → le3 X Y (O 0) (O 1) (O i) = 0) {i j : Nat} (hij : i < j) (hj : j < a) : (0 < le3 X Y (O 0) (O 1) (O a) → 0 < le3 X Y (O i) (O j) (O a)) ∧ (le3 X Y (O 0) (O 1) (O a) < 0 → le3 X Y (O i) (O j) (O a) < 0) := by
  have lin := fun i j k hi hj hk => line_all h (Nat.le_of_lt ha) ha2 hl (i := i) (j := j) (k := k) hi hj hk
  have s1 := col_s (u := O 0) (x := O 1) (y := O j) (Or.inl ⟨h 0 1 (by omega) (by omega), h 0 j (by omega) (by omega)⟩) (lin _ _ _ (by omega) (by omega) hj) (O a)
  have f : ∀ x y, le3 X Y y x (O a) = -le3 X Y x y (O a) := fun x y => by unfold le3 lo; grind
  rcases Nat.eq_zero_or_pos i with q | q
  · subst q; exact s1
  · have s2 := col_s (u := O j) (x := O 0) (y := O i) (Or.inr ⟨h 0 j (by omega) (by omega), h i j hij (by omega)⟩) (lin _ _ _ hj (by omega) (by omega)) (O a)
    rw [f (O 0) (O j), f (O i) (O j)] at s2
    constructor
    · intro z; have := s1.1 z; have := s2.2 (by omega); omega
    · intro z; have := s1.2 z; have := s2.1 (by omega); omega
def fanS (X Y : Nat → Int) (O : Nat → Nat) (a : Nat) : Nat := if 0 < le3 X Y (O 0) (O 1) (O a) then a - 1 else 0
theorem fan_VS {N a : Nat} (h : srd X Y O N) (ha : a < N) (ha2 : 2 ≤ a) (hl : ∀ i, i < a → le3 X Y (O 0) (O 1) (O i) = 0) (hz : le3 X Y (O 0) (O 1) (O a) ≠ 0) : VS X Y (VO O a) (rl O a) (2 * (a - 1)) (O a) (fanS X Y O a) (a - 1 - fanS X Y O a) := by
  have sg := fun i j h1 h2 => line_sgn h ha ha2 hl (i := i) (j := j) h1 h2
  have f : ∀ x y, le3 X Y y x (O a) = -le3 X Y x y (O a) := fun x y => by unfold le3 lo; grind
  have g : ∀ x y z, le3 X Y y z x = le3 X Y x y z := fun x y z => by unfold le3 lo; grind
  have r0 : rl O a 0 = O (a - 1) := by unfold rl; rw [if_pos (by omega)]; rfl
  have r1 : rl O a (a - 1) = O 0 := by unfold rl; rw [if_pos (by omega)]; congr 1; omega
  have r2 : rl O a (2 * (a - 1)) = O (a - 1) := by
    have := rl_sym (O := O) (k := 0) ha2 (by omega); rw [Nat.sub_zero] at this; rw [this, r0]
  unfold fanS
  rcases Int.lt_or_le 0 (le3 X Y (O 0) (O 1) (O a)) with q | q
  · rw [if_pos q]
    rw [show a - 1 - (a - 1) = 0 from by omega]
    refine ⟨?_, by omega, by omega, ?_, ?_⟩
    · intro k hk
      rcases rl_ad (O := O) ha2 hk with ⟨k1, i, i1, i2, i3⟩ | ⟨k1, i, i1, i2, i3⟩ <;> rw [i2, i3]
      · have := (sg i (i + 1) (by omega) i1).1 q; rw [f]; omega
      · have := (sg i (i + 1) (by omega) i1).1 q; omega
    · intro x ⟨m, m1, m2⟩
      subst m2; rw [r1]
      rcases Nat.eq_zero_or_pos m with w | w
      · subst w; rw [le3_bb]; exact Int.le_refl _
      · have := (sg 0 m w m1).1 q; rw [← g (O a)]; omega
    · intro x ⟨m, m1, m2⟩
      subst m2; rw [Nat.sub_zero, r2]
      rcases Nat.lt_or_ge m (a - 1) with w | w
      · have := (sg m (a - 1) w (by omega)).1 q; rw [g (O m)]; omega
      · rw [show m = a - 1 from by omega, le3_ab]; exact Int.le_refl _
  · have q2 : le3 X Y (O 0) (O 1) (O a) < 0 := by omega
    rw [if_neg (by omega)]
    rw [show a - 1 - 0 = a - 1 from by omega]
    refine ⟨?_, by omega, by omega, ?_, ?_⟩
    · intro k hk
      rcases rl_ad (O := O) ha2 hk with ⟨k1, i, i1, i2, i3⟩ | ⟨k1, i, i1, i2, i3⟩ <;> rw [i2, i3]
      · have := (sg i (i + 1) (by omega) i1).2 q2; rw [f]; omega
      · have := (sg i (i + 1) (by omega) i1).2 q2; omega
    · intro x ⟨m, m1, m2⟩
      subst m2; rw [r0]
      rcases Nat.lt_or_ge m (a - 1) with w | w
      · have := (sg m (a - 1) w (by omega)).2 q2; rw [← g (O a), f]; omega
      · rw [show m = a - 1 from by omega, le3_bb]; exact Int.le_refl _
    · intro x ⟨m, m1, m2⟩
      subst m2
      rw [show 2 * (a - 1) - (a - 1) = a - 1 from by omega, r1]
      rcases Nat.eq_zero_or_pos m with w | w
      · subst w; rw [le3_ab]; exact Int.le_refl _
      · have := (sg 0 m w m1).2 q2; rw [g (O m), f]; omega
/-- the state of laying out, m points laid: drawing, border from the last one on -/
def LaS (X Y : Nat → Int) (O : Nat → Nat) (m : Nat) (t : Nat → Nat → Nat → Prop) (r : Nat → Nat) (n : Nat) : Prop := LI X Y (VO O m) t r n ∧ 3 ≤ n ∧ inj r n ∧ r 0 = O (m - 1) ∧ 3 ≤ m
theorem fan_rL {a k : Nat} (hs : fanS X Y O a = a - 1) (k1 : 1 ≤ k) (k2 : k ≤ a) : nwr (rl O a) (2 * (a - 1)) (fanS X Y O a) (a - 1 - fanS X Y O a) (O a) k = O (k - 1) := by
  unfold nwr
  rw [if_neg (by omega)]
  by_cases q : k ≤ 2 * (a - 1) - (a - 1 - fanS X Y O a) - fanS X Y O a + 1
  · rw [if_pos q, hs]
    unfold rl
    split <;> (congr 1; omega)
  · omega
theorem fan_rR {a k : Nat} (hs : fanS X Y O a = 0) (k1 : 1 ≤ k) (k2 : k ≤ a) : nwr (rl O a) (2 * (a - 1)) (fanS X Y O a) (a - 1 - fanS X Y O a) (O a) k = O (a - k) := by
  unfold nwr
  rw [if_neg (by omega)]
  by_cases q : k ≤ 2 * (a - 1) - (a - 1 - fanS X Y O a) - fanS X Y O a + 1
  · rw [if_pos q, hs]
    unfold rl
    rw [if_pos (by omega)]; congr 1; omega
  · omega
theorem fan_LaS {N a : Nat} (h : srd X Y O N) (ha : a < N) (ha2 : 2 ≤ a) (hl : ∀ i, i < a → le3 X Y (O 0) (O 1) (O i) = 0) (hz : le3 X Y (O 0) (O 1) (O a) ≠ 0) : LaS X Y O (a + 1) (nwt X Y (fun _ _ _ => False) (rl O a) (2 * (a - 1)) (O a)) (nwr (rl O a) (2 * (a - 1)) (fanS X Y O a) (a - 1 - fanS X Y O a) (O a)) (a + 1) := by
  obtain ⟨v1, v2, v3, v4, v5⟩ := fan_VS h ha ha2 hl hz
  have L := line_LI h (Nat.le_of_lt ha) ha2 hl
  have := lay_step (srd_ap h (Nat.le_of_lt ha)) L (srd_bef h ha) v1 v2 v3 v4 v5
  rw [VO_s] at this
  have hS : fanS X Y O a = a - 1 ∨ fanS X Y O a = 0 := by unfold fanS; split <;> omega
  rw [show 2 * (a - 1) - (a - 1 - fanS X Y O a) - fanS X Y O a + 2 = a + 1 from by omega] at this
  refine ⟨this, by omega, ?_, by show nwr _ _ _ _ _ 0 = _; rfl, by omega⟩
  intro x y hx hy e
  have np : ∀ i, i < a → O i ≠ O a := fun i hi => srd_ne h (by omega) ha (by omega)
  rcases hS with q | q
  · by_cases x0 : x = 0 <;> by_cases y0 : y = 0
    · omega
    · rw [x0, fan_rL (k := y) q (by omega) (by omega)] at e; exact (np _ (by omega) e.symm).elim
    · rw [y0, fan_rL (k := x) q (by omega) (by omega)] at e; exact (np _ (by omega) e).elim
    · rw [fan_rL (k := x) q (by omega) (by omega), fan_rL (k := y) q (by omega) (by omega)] at e
      by_cases z : x = y
      · exact z
      · exact (srd_ne h (by omega) (by omega) (by omega) e).elim
  · by_cases x0 : x = 0 <;> by_cases y0 : y = 0
    · omega
    · rw [x0, fan_rR (k := y) q (by omega) (by omega)] at e; exact (np _ (by omega) e.symm).elim
    · rw [y0, fan_rR (k := x) q (by omega) (by omega)] at e; exact (np _ (by omega) e).elim
    · rw [fan_rR (k := x) q (by omega) (by omega), fan_rR (k := y) q (by omega) (by omega)] at e
      by_cases z : x = y
      · exact z
      · exact (srd_ne h (by omega) (by omega) (by omega) e).elim
theorem LaS_vis {N m : Nat} {t : Nat → Nat → Nat → Prop} {r : Nat → Nat} {n : Nat} (h : srd X Y O N) (hm : m < N) (H : LaS X Y O m t r n) : ∃ s j, VS X Y (VO O m) r n (O m) s j := by
  obtain ⟨L, n3, hin, h0, m3⟩ := H
  refine vis_ex (srd_ap h (Nat.le_of_lt hm)) L n3 hin ?_ (srd_bef h hm)
  intro x ⟨i, i1, i2⟩ hne
  subst i2
  rw [h0] at hne ⊢
  rcases Nat.lt_or_ge i (m - 1) with q | q
  · exact h i (m - 1) q (by omega)
  · exact (hne (by rw [show i = m - 1 from by omega])).elim
theorem LaS_step {N m : Nat} {t : Nat → Nat → Nat → Prop} {r : Nat → Nat} {n s j : Nat} (h : srd X Y O N) (hm : m < N) (H : LaS X Y O m t r n) (hv : VS X Y (VO O m) r n (O m) s j) : LaS X Y O (m + 1) (nwt X Y t r n (O m)) (nwr r n s j (O m)) (n - j - s + 2) := by
  obtain ⟨L, n3, hin, h0, m3⟩ := H
  obtain ⟨v1, v2, v3, v4, v5⟩ := hv
  have := lay_step (srd_ap h (Nat.le_of_lt hm)) L (srd_bef h hm) v1 v2 v3 v4 v5
  rw [VO_s] at this
  obtain ⟨_, _, _, _, _, ⟨_, hrn⟩, b0, _⟩ := L
  refine ⟨this, by omega, nwr_inj hin hrn ?_ v2 v3, rfl, by omega⟩
  intro k hk e
  have hv : VO O m (r k) := by
    by_cases q : k = n
    · rw [q, hrn]; exact (b0 0 (by omega)).1
    · exact (b0 k (by omega)).1
  have := srd_bef h hm _ hv
  rw [e] at this; exact bef_ir this
end FAN
