/-! settling the class's mesh -/
section STL
variable {X Y : Nat → Int} {vb : Nat → Bool} {t : Nat → Nat → Nat → Prop}
def Vb (vb : Nat → Bool) (x : Nat) : Prop := vb x = true
/-- bounds of the plane, points apart, below 40 -/
def PL (X Y : Nat → Int) (vb : Nat → Bool) : Prop := (∀ i, -10000 ≤ X i ∧ X i ≤ 10000) ∧ (∀ i, -10000 ≤ Y i ∧ Y i ≤ 10000) ∧ apart X Y (Vb vb) ∧ ∀ a, vb a = true → a < 40
def SI (X Y : Nat → Int) (vb : Nat → Bool) (M : MT) (t : Nat → Nat → Nat → Prop) : Prop := MC M t ∧ MB3 M ∧ TI X Y (Vb vb) t
theorem PL_G (h : PL X Y vb) : tG X Y (hgt X Y) (Vb vb) := fun a b c d va vbb vc vd ht n1 n2 n3 => cnf_gen h.1 h.2.1 h.2.2.1 (h.2.2.2 a va) (h.2.2.2 b vbb) (h.2.2.2 c vc) (h.2.2.2 d vd) va vbb vc vd n1 n2 n3 ht
theorem PL_C (h : PL X Y vb) : cvx X Y (hgt X Y) (Vb vb) := cvx_h h.1 h.2.1 h.2.2.1 h.2.2.2
theorem wi_p {a b c d : Nat} (h : 0 < le3 X Y a b c) : wi X Y a b c d = wsum X Y a b c d := by
  unfold wi; rw [if_neg (by unfold le3 at h; omega)]
theorem nb_lt (hT : TI X Y (Vb vb) t) {a b p q : Nat} (h1 : t a b p) (h2 : t b a q) : le3 X Y a b q < 0 := by
  have := (hT.2.1 _ _ _ h2).2.2.2
  rw [show le3 X Y b a q = -le3 X Y a b q from by unfold le3 lo; grind] at this; omega
theorem badS_iff (hP : PL X Y vb) {M : MT} (h : SI X Y vb M t) {a b : Nat} (ha : a < 40) (hb : b < 40) : badS X Y M.2.2 a b = true ↔ ∃ p q, t a b p ∧ t b a q ∧ 0 < cnf X Y (hgt X Y) a b p q := by
  obtain ⟨hM, hB, hT⟩ := h
  have test : ∀ p q, t a b p → t b a q → ((0 < wi X Y a b p q ∨ (wi X Y a b p q = 0 ∧ min p q < min a b)) ↔ 0 < cnf X Y (hgt X Y) a b p q) := by
    intro p q h1 h2
    have v1 := hT.2.1 _ _ _ h1; have v2 := hT.2.1 _ _ _ h2
    rw [wi_p v1.2.2.2]
    exact bad_cnf hP.1 hP.2.1 hP.2.2.1 hP.2.2.2 v1.1 v1.2.1 v1.2.2.1 v2.2.2.1 v1.2.2.2 (nb_lt hT h1 h2)
  unfold badS
  simp only [Bool.and_eq_true, Bool.or_eq_true, decide_eq_true_eq]
  constructor
  · intro ⟨q1, q2, q3⟩
    have h1 := MC_pos hM hB ha hb q1; have h2 := MC_pos hM hB hb ha q2
    exact ⟨_, _, h1, h2, (test _ _ h1 h2).1 q3⟩
  · intro ⟨p, q, h1, h2, h3⟩
    have b1 := hM.2.2.2.1 _ _ _ h1; have b2 := hM.2.2.2.1 _ _ _ h2
    have e1 := (hM.2.1 a b p ha hb b1.2.2.1).2 h1
    have e2 := (hM.2.1 b a q hb ha b2.2.2.1).2 h2
    rw [e1, e2]
    refine ⟨by omega, by omega, ?_⟩
    exact (test p q h1 h2).2 h3
theorem mayS_iff {M : MT} (h : SI X Y vb M t) {a b : Nat} (ha : a < 40) (hb : b < 40) : mayS X Y M.2.2 a b = true ↔ ∃ p q, t a b p ∧ t b a q ∧ 0 < le3 X Y p a q ∧ 0 < le3 X Y b p q := by
  obtain ⟨hM, hB, hT⟩ := h
  have test : ∀ p q, t a b p → t b a q → (((0 < le3 X Y a b p ∧ le3 X Y a b q < 0 ∨ le3 X Y a b p < 0 ∧ 0 < le3 X Y a b q) ∧ (0 < le3 X Y p q a ∧ le3 X Y p q b < 0 ∨ le3 X Y p q a < 0 ∧ 0 < le3 X Y p q b)) ↔ 0 < le3 X Y p a q ∧ 0 < le3 X Y b p q) := by
    intro p q h1 h2
    have v1 := (hT.2.1 _ _ _ h1).2.2.2
    have v2 := nb_lt hT h1 h2
    have s := le3_sum (X := X) (Y := Y) a b p q
    have e1 : le3 X Y p q a = -le3 X Y p a q := by unfold le3 lo; grind
    have e2 : le3 X Y p q b = le3 X Y b p q := by unfold le3 lo; grind
    rw [e1, e2]; omega
  unfold mayS parted
  simp only [Bool.and_eq_true, Bool.or_eq_true, decide_eq_true_eq]
  constructor
  · intro ⟨q1, q2, q3⟩
    have h1 := MC_pos hM hB ha hb q1; have h2 := MC_pos hM hB hb ha q2
    exact ⟨_, _, h1, h2, (test _ _ h1 h2).1 q3⟩
  · intro ⟨p, q, h1, h2, h3⟩
    have b1 := hM.2.2.2.1 _ _ _ h1; have b2 := hM.2.2.2.1 _ _ _ h2
    have e1 := (hM.2.1 a b p ha hb b1.2.2.1).2 h1
    have e2 := (hM.2.1 b a q hb ha b2.2.2.1).2 h2
    rw [e1, e2]
    exact ⟨by omega, by omega, (test p q h1 h2).2 h3⟩
theorem bad_flip (hP : PL X Y vb) (hT : TI X Y (Vb vb) t) {a b p q : Nat} (h1 : t a b p) (h2 : t b a q) (hk : 0 < cnf X Y (hgt X Y) a b p q) : 0 < le3 X Y p a q ∧ 0 < le3 X Y b p q := by
  have v1 := hT.2.1 _ _ _ h1; have v2 := hT.2.1 _ _ _ h2
  exact bad_may (PL_C hP) v1.1 v1.2.1 v1.2.2.1 v2.2.2.1 v1.2.2.2 (nb_lt hT h1 h2) hk
theorem SI_flip {M : MT} (h : SI X Y vb M t) {a b p q : Nat} (h1 : t a b p) (h2 : t b a q) (hp : 0 < le3 X Y p a q) (hb : 0 < le3 X Y b p q) : SI X Y vb (flT a b M) (flr t a b p q) ∧ (flT a b M).2.1 = M.2.1 := by
  obtain ⟨hM, hB, hT⟩ := h
  have b1 := hM.2.2.2.1 _ _ _ h1
  obtain ⟨m1, m2⟩ := MC_flip hM hB hT h1 h2 hp hb
  exact ⟨⟨m1, flT_b hB b1.1 b1.2.1, flr_TI hT h1 h2 hp hb⟩, m2⟩
theorem ff_skip {P : Nat → Bool} {n : Nat} : ∀ (d j i : Nat), i = j + d → (∀ s, j ≤ s → s < i → P s = false) → ff P n j = ff P n i := by
  intro d
  induction d with
  | zero => intro j i h _; rw [h]; rfl
  | succ d ih =>
    intro j i h hp
    rcases Nat.lt_or_ge j n with q | q
    · rw [ff_go q (hp j (Nat.le_refl _) (by omega))]; exact ih (j + 1) i (by omega) (fun s h1 h2 => hp s (by omega) h2)
    · rw [ff_end q, ff_end (by omega)]
theorem fb_sp {Th : Nat → Int} (h : fb X Y Th 0 < 1600) : fbP X Y Th (fb X Y Th 0) = true ∧ ∀ s, s < fb X Y Th 0 → fbP X Y Th s = false := by
  unfold fb at *
  cases hf : ff (fbP X Y Th) 1600 0 with
  | none => rw [hf] at h; exact absurd h (by decide)
  | some i =>
    have := ff_lt 1600 0 (by omega) i hf
    exact ⟨this.2.2.1, fun s hs => this.2.2.2 s (by omega) hs⟩
theorem fb_none {Th : Nat → Int} (h : ¬ fb X Y Th 0 < 1600) : ∀ s, s < 1600 → fbP X Y Th s = false := by
  unfold fb at *
  cases hf : ff (fbP X Y Th) 1600 0 with
  | none => exact fun s hs => ff_none 1600 0 (by omega) hf s (by omega) hs
  | some i => rw [hf] at h; have := ff_lt 1600 0 (by omega) i hf; exact absurd this.2.1 h
/-- after a flip none is bad before the least of the four -/
theorem fb_lst (hP : PL X Y vb) {M : MT} (h : SI X Y vb M t) {s : Nat} (hs : s = fb X Y M.2.2 0) (h16 : s < 1600) : ∃ p q, t (s / 40) (s % 40) p ∧ t (s % 40) (s / 40) q ∧ 0 < cnf X Y (hgt X Y) (s / 40) (s % 40) p q ∧ s / 40 < s % 40 ∧ fb X Y (flT (s / 40) (s % 40) M).2.2 (lst M.2.2 (s / 40) (s % 40) * 40) = fb X Y (flT (s / 40) (s % 40) M).2.2 0 := by
  rw [hs] at h16 ⊢
  obtain ⟨f1, f2⟩ := fb_sp h16
  generalize fb X Y M.2.2 0 = s at *
  have ha : s / 40 < 40 := by omega
  have hb : s % 40 < 40 := by omega
  have g : s / 40 < s % 40 ∧ badS X Y M.2.2 (s / 40) (s % 40) = true := by unfold fbP at f1; simpa using f1
  obtain ⟨p, q, h1, h2, h3⟩ := (badS_iff hP h ha hb).1 g.2
  refine ⟨p, q, h1, h2, h3, g.1, ?_⟩
  obtain ⟨m1, m2⟩ := bad_flip hP h.2.2 h1 h2 h3
  have h' := (SI_flip h h1 h2 m1 m2).1
  have b1 := h.1.2.2.2.1 _ _ _ h1; have b2 := h.1.2.2.2.1 _ _ _ h2
  have e1 := (h.1.2.1 _ _ p ha hb b1.2.2.1).2 h1
  have e2 := (h.1.2.1 _ _ q hb ha b2.2.2.1).2 h2
  have el : lst M.2.2 (s / 40) (s % 40) = min (s / 40) (min p q) := by unfold lst; rw [e1, e2]; omega
  unfold fb
  rw [ff_skip (n := 1600) (lst M.2.2 (s / 40) (s % 40) * 40) 0 (lst M.2.2 (s / 40) (s % 40) * 40) (by omega) ?_]
  intro z _ hz
  rw [el] at hz
  have old := f2 z (by omega)
  cases hn : fbP X Y (flT (s / 40) (s % 40) M).2.2 z with
  | false => rfl
  | true =>
    exfalso
    have g2 : z / 40 < z % 40 ∧ badS X Y (flT (s / 40) (s % 40) M).2.2 (z / 40) (z % 40) = true := by unfold fbP at hn; simpa using hn
    obtain ⟨p', q', k1, k2, k3⟩ := (badS_iff hP h' (by omega) (by omega)).1 g2.2
    have l1 : z / 40 < s / 40 ∧ z / 40 < p ∧ z / 40 < q := by omega
    have w1 : t (z / 40) (z % 40) p' := by
      rcases k1 with k | k | k
      · exact k.1
      · unfold rt3 at k; omega
      · unfold rt3 at k; omega
    have w2 : t (z % 40) (z / 40) q' := by
      rcases k2 with k | k | k
      · exact k.1
      · unfold rt3 at k; omega
      · unfold rt3 at k; omega
    have : fbP X Y M.2.2 z = true := by
      unfold fbP; rw [decide_eq_true g2.1, (badS_iff hP h (by omega) (by omega)).2 ⟨p', q', w1, w2, k3⟩]; rfl
    rw [this] at old; cases old
/-! how many points lie below the planes -/
def sm (f : Nat → Nat) : Nat → Nat
  | 0 => 0
  | n + 1 => sm f n + f n
theorem sm_le {f g : Nat → Nat} : ∀ n, (∀ i, i < n → f i ≤ g i) → sm f n ≤ sm g n := by
  intro n
  induction n with
  | zero => intro _; exact Nat.le_refl _
  | succ n ih => intro h; have := ih (fun i hi => h i (by omega)); have := h n (by omega); show sm f n + f n ≤ sm g n + g n; omega
theorem sm_lt {f g : Nat → Nat} {k : Nat} : ∀ n, (∀ i, i < n → f i ≤ g i) → k < n → f k < g k → sm f n < sm g n := by
  intro n
  induction n with
  | zero => intro _ h; omega
  | succ n ih =>
    intro h hk hlt
    show sm f n + f n < sm g n + g n
    have a := h n (by omega)
    by_cases q : k = n
    · subst q; have := sm_le k (fun i hi => h i (by omega)); omega
    · have := ih (fun i hi => h i (by omega)) (by omega) hlt; omega
theorem sm_add (f g : Nat → Nat) : ∀ n, sm (fun i => f i + g i) n = sm f n + sm g n := by
  intro n
  induction n with
  | zero => rfl
  | succ n ih => show sm (fun i => f i + g i) n + (f n + g n) = sm f n + f n + (sm g n + g n); omega
theorem sm_c (c : Nat) : ∀ n, sm (fun _ => c) n = n * c := by
  intro n
  induction n with
  | zero => simp [sm]
  | succ n ih => show sm (fun _ => c) n + c = (n + 1) * c; rw [ih, Nat.succ_mul]
theorem sm_cg {f g : Nat → Nat} : ∀ n, (∀ i, i < n → f i = g i) → sm f n = sm g n := by
  intro n
  induction n with
  | zero => intro _; rfl
  | succ n ih => intro h; show sm f n + f n = sm g n + g n; rw [ih (fun i hi => h i (by omega)), h n (by omega)]
theorem sm_ins (f : Nat → Nat) (E : Nat → Bool) (p : Nat) : ∀ (n : Nat) (A : Nat → Nat), sm (fun i => f (insO E p n A i)) (n + 1) = sm (fun i => f (A i)) n + f p := by
  intro n
  induction n with
  | zero => intro A; show 0 + f (sn A 0 p 0) = 0 + f p; rw [sn_eq]
  | succ n ih =>
    intro A
    show sm (fun i => f (insO E p (n + 1) A i)) (n + 1) + f (insO E p (n + 1) A (n + 1)) = sm (fun i => f (A i)) n + f (A n) + f p
    by_cases hE : E (A n) = true
    · have e : insO E p (n + 1) A = insO E p n (sn A (n + 1) (A n)) := by rw [insO, if_pos hE]
      obtain ⟨c, _, _, _, _, c5, _⟩ := insO_sp E p n (sn A (n + 1) (A n))
      rw [e, ih, c5 (n + 1) (by omega), sn_eq, sm_cg n (f := fun i => f (sn A (n + 1) (A n) i)) (g := fun i => f (A i)) (fun i hi => by rw [sn_ne _ _ (by omega)])]
      omega
    · have e : insO E p (n + 1) A = sn A (n + 1) p := by rw [insO, if_neg hE]
      rw [e, sn_eq, sm_cg (n + 1) (f := fun i => f (sn A (n + 1) p i)) (g := fun i => f (A i)) (fun i hi => by rw [sn_ne _ _ (by omega)])]
      rfl
theorem sm_sh (f : Nat → Nat) {n : Nat} : ∀ (k i : Nat) (A : Nat → Nat), n = i + k → sm (fun j => f (shC n i A j)) n + f (A i) = sm (fun j => f (A j)) (n + 1) := by
  intro k
  induction k with
  | zero => intro i A h; rw [shC_end (by omega), h]; rfl
  | succ k ih =>
    intro i A h
    rw [shC_go (by omega)]
    have a := ih (i + 1) (sn A i (A (i + 1))) (by omega)
    rw [sn_ne _ _ (by omega)] at a
    -- swap: the row with A i put at i + 1 in mind
    have b : ∀ m, i < m → sm (fun j => f (sn A i (A (i + 1)) j)) m + f (A i) = sm (fun j => f (A j)) m + f (A (i + 1)) := by
      intro m
      induction m with
      | zero => intro h; omega
      | succ m ihm =>
        intro hm
        show sm (fun j => f (sn A i (A (i + 1)) j)) m + f (sn A i (A (i + 1)) m) + f (A i) = sm (fun j => f (A j)) m + f (A m) + f (A (i + 1))
        by_cases q : m = i
        · subst q
          rw [sn_eq, sm_cg m (f := fun j => f (sn A m (A (m + 1)) j)) (g := fun j => f (A j)) (fun j hj => by rw [sn_ne _ _ (by omega)])]
          omega
        · rw [sn_ne _ _ q]; have := ihm (by omega); omega
    have c := b (n + 1) (by omega)
    omega
def phi (X Y : Nat → Int) (vb : Nat → Bool) (a b c : Nat) : Nat := sm (fun r => if vb r = true then above X Y (hgt X Y) a b c r else 0) 40
def phc (X Y : Nat → Int) (vb : Nat → Bool) (k : Nat) : Nat := phi X Y vb (k / 1600) (k / 40 % 40) (k % 40)
def Phi (X Y : Nat → Int) (vb : Nat → Bool) (M : MT) : Nat := sm (fun i => phc X Y vb (M.1 i)) M.2.1
theorem phi_rot (a b c : Nat) : phi X Y vb b c a = phi X Y vb a b c := by
  unfold phi above
  refine sm_cg 40 (fun r _ => ?_)
  rw [cnf_rot]
theorem phi_le (a b c : Nat) : phi X Y vb a b c ≤ 40 := by
  have := sm_le (f := fun r => if vb r = true then above X Y (hgt X Y) a b c r else 0) (g := fun _ => 1) 40 (fun r _ => by
    show (if vb r = true then above X Y (hgt X Y) a b c r else 0) ≤ 1
    unfold above; split <;> (try split) <;> omega)
  rw [sm_c] at this; exact this
theorem Phi_le (M : MT) : Phi X Y vb M ≤ 40 * M.2.1 := by
  have := sm_le (f := fun i => phc X Y vb (M.1 i)) (g := fun _ => 40) M.2.1 (fun i _ => phi_le _ _ _)
  rw [sm_c] at this; unfold Phi; omega
theorem phc_cod {a b c : Nat} (ha : a < 40) (hb : b < 40) (hc : c < 40) (n1 : a ≠ b) (n2 : b ≠ c) (n3 : a ≠ c) : phc X Y vb (cod a b c) = phi X Y vb a b c := by
  obtain ⟨x, y, z, r, q1, q2, e⟩ := cod_sp n1 n2 n3
  have xyz : x < 40 ∧ y < 40 ∧ z < 40 := by unfold rt3 at r; omega
  unfold phc; rw [e]
  rw [show cd3 x y z / 1600 = x from by unfold cd3; omega, show cd3 x y z / 40 % 40 = y from by unfold cd3; omega, show cd3 x y z % 40 = z from by unfold cd3; omega]
  rcases r with ⟨rfl, rfl, rfl⟩ | ⟨rfl, rfl, rfl⟩ | ⟨rfl, rfl, rfl⟩
  · rfl
  · exact phi_rot _ _ _
  · exact (phi_rot _ _ _).symm
theorem Phi_add {M : MT} {a b c : Nat} (hs : M.2.1 < 80) (ha : a < 40) (hb : b < 40) (hc : c < 40) (n1 : a ≠ b) (n2 : b ≠ c) (n3 : a ≠ c) : Phi X Y vb (addT a b c M) = Phi X Y vb M + phi X Y vb a b c := by
  unfold addT; rw [if_pos hs]
  unfold Phi
  show sm (fun i => phc X Y vb (insO _ _ M.2.1 M.1 i)) (M.2.1 + 1) = _
  rw [sm_ins (phc X Y vb), phc_cod ha hb hc n1 n2 n3]
theorem Phi_rem {M : MT} (h : MC M t) {a b c : Nat} (ht : t a b c) : Phi X Y vb (remT a b c M) + phi X Y vb a b c = Phi X Y vb M := by
  obtain ⟨hC, hT, hR, hB, hN⟩ := h
  obtain ⟨ha, hb, hc, n1, n2, n3⟩ := hB _ _ _ ht
  obtain ⟨i, i1, i2⟩ := (CL_cod hC hR hB ha hb hc n1 n2 n3).2 ht
  cases hf : ff (cdP M.1 (cod a b c)) M.2.1 0 with
  | none =>
    have := ff_none M.2.1 0 (by omega) hf i (by omega) i1
    unfold cdP at this; rw [decide_eq_true i2] at this; cases this
  | some j =>
    have q := ff_lt M.2.1 0 (by omega) j hf
    have qj : M.1 j = cod a b c := by have := q.2.2.1; unfold cdP at this; simpa using this
    rw [remT_some hf]
    unfold Phi
    show sm (fun i => phc X Y vb (shC (M.2.1 - 1) j M.1 i)) (M.2.1 - 1) + _ = _
    have := sm_sh (phc X Y vb) (n := M.2.1 - 1) (M.2.1 - 1 - j) j M.1 (by omega)
    rw [qj, phc_cod ha hb hc n1 n2 n3, show M.2.1 - 1 + 1 = M.2.1 from by omega] at this
    exact this
theorem Phi_flip (hP : PL X Y vb) {M : MT} (h : SI X Y vb M t) {a b p q : Nat} (h1 : t a b p) (h2 : t b a q) (hk : 0 < cnf X Y (hgt X Y) a b p q) : Phi X Y vb (flT a b M) < Phi X Y vb M := by
  obtain ⟨hM, hB, hT⟩ := h
  obtain ⟨hp, hb⟩ := bad_flip hP hT h1 h2 hk
  have v1 := hT.2.1 _ _ _ h1; have v2 := hT.2.1 _ _ _ h2
  obtain ⟨a4, b4, p4, n1, n2, n3⟩ := hM.2.2.2.1 _ _ _ h1
  obtain ⟨_, _, q4, _, n5, n4⟩ := hM.2.2.2.1 _ _ _ h2
  have n6 : p ≠ q := fun z => by
    subst z; have := v2.2.2.2
    rw [show le3 X Y b a p = -le3 X Y a b p from by unfold le3 lo; grind] at this; have := v1.2.2.2; omega
  have t1 := (hM.2.1 a b p a4 b4 p4).2 h1
  have t2 := (hM.2.1 b a q b4 a4 q4).2 h2
  have e : flT a b M = addT b p q (addT a q p (remT b a q (remT a b p M))) := by
    unfold flT
    rw [if_neg (by omega), t1, t2]; rfl
  obtain ⟨m1, s1, z1⟩ := MC_rem hM h1
  have h2' : t b a q ∧ ¬ rt3 b a q a b p := ⟨h2, fun w => by unfold rt3 at w; omega⟩
  obtain ⟨m2, s2, z2⟩ := MC_rem m1 h2'
  have sz := hB.2.1
  have f1 := Phi_rem (X := X) (Y := Y) (vb := vb) hM h1
  have f2 := Phi_rem (X := X) (Y := Y) (vb := vb) m1 h2'
  have f3 := Phi_add (X := X) (Y := Y) (vb := vb) (M := remT b a q (remT a b p M)) (by omega) a4 q4 p4 n5 (fun z => n6 z.symm) n3
  have s3 : (addT a q p (remT b a q (remT a b p M))).2.1 = (remT b a q (remT a b p M)).2.1 + 1 := by unfold addT; rw [if_pos (by omega)]
  have f4 := Phi_add (X := X) (Y := Y) (vb := vb) (M := addT a q p (remT b a q (remT a b p M))) (by omega) b4 p4 q4 n2 n6 n4
  have g : phi X Y vb a q p + phi X Y vb b p q < phi X Y vb a b p + phi X Y vb b a q := by
    unfold phi
    rw [← sm_add, ← sm_add]
    have e1 : le3 X Y a q p = le3 X Y p a q := by unfold le3 lo; grind
    refine sm_lt (k := q) 40 (fun r _ => ?_) q4 ?_
    · by_cases hr : vb r = true
      · simp only [if_pos hr]
        exact flip_r (PL_C hP) v1.1 v1.2.1 v1.2.2.1 v2.2.2.1 hr v1.2.2.2 v2.2.2.2 (by omega) hb hk
      · simp only [if_neg hr]; omega
    · have hq : vb q = true := v2.2.2.1
      simp only [if_pos hq]
      exact flip_q hk
  rw [e]; omega
/-- settled -/
theorem stl_done (hP : PL X Y vb) : ∀ (k most fl side : Nat) (M : MT) (t : Nat → Nat → Nat → Prop), Phi X Y vb M ≤ k → fl + k ≤ most → SI X Y vb M t → side = fb X Y M.2.2 0 → ∃ u, SI X Y vb (stl X Y most fl side M).2 u ∧ (stl X Y most fl side M).2.2.1 = M.2.1 ∧ ¬ fb X Y (stl X Y most fl side M).2.2.2 0 < 1600 := by
  intro k
  induction k with
  | zero =>
    intro most fl side M t hk hm h hs
    have : ¬ side < 1600 := by
      intro z
      obtain ⟨p, q, h1, h2, h3, _, _⟩ := fb_lst hP h hs z
      have := Phi_flip hP h h1 h2 h3; omega
    rw [stl_end (by omega)]
    exact ⟨t, h, rfl, by rw [← hs]; exact this⟩
  | succ k ih =>
    intro most fl side M t hk hm h hs
    by_cases z : side < 1600
    · rw [stl_go ⟨by omega, z⟩]
      obtain ⟨p, q, h1, h2, h3, _, h5⟩ := fb_lst hP h hs z
      have d := Phi_flip hP h h1 h2 h3
      obtain ⟨m1, m2⟩ := bad_flip hP h.2.2 h1 h2 h3
      obtain ⟨s1, s2⟩ := SI_flip h h1 h2 m1 m2
      obtain ⟨u, u1, u2, u3⟩ := ih most (fl + 1) _ _ _ (by omega) (by omega) s1 h5
      exact ⟨u, u1, by rw [u2, s2], u3⟩
    · rw [stl_end (by omega)]
      exact ⟨t, h, rfl, by rw [← hs]; exact z⟩
end STL
