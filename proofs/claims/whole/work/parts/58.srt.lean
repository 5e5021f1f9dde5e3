/-! rows that rise: putting in, taking out, and that the members say all -/
def ss (A : Nat → Nat) (n : Nat) : Prop := ∀ i j, i < j → j < n → A i < A j
def mem (A : Nat → Nat) (n k : Nat) : Prop := ∃ i, i < n ∧ A i = k
theorem ss_uq {A B : Nat → Nat} {n m : Nat} (ha : ss A n) (hb : ss B m) (h : ∀ k, mem A n k ↔ mem B m k) : n = m ∧ ∀ i, i < n → A i = B i := by
  have key : ∀ (A B : Nat → Nat) (n m : Nat), ss A n → ss B m → (∀ k, mem A n k ↔ mem B m k) → ∀ i, i < n → i < m ∧ A i = B i := by
    intro A B n m ha hb h i
    induction i using Nat.strongRecOn with
    | ind i ih =>
      intro hi
      obtain ⟨j, j1, j2⟩ := (h (A i)).1 ⟨i, hi, rfl⟩
      rcases Nat.lt_trichotomy j i with q | q | q
      · have := ih j q (by omega); have := ha j i q hi; omega
      · subst q; exact ⟨j1, j2.symm⟩
      · obtain ⟨l, l1, l2⟩ := (h (B i)).2 ⟨i, by omega, rfl⟩
        have b1 := hb i j q j1
        have li : l < i := by
          rcases Nat.lt_trichotomy l i with w | w | w
          · exact w
          · subst w; omega
          · have := ha i l w l1; omega
        have c := ih l li l1
        have := hb l i li (by omega)
        omega
  have k1 := key A B n m ha hb h
  have k2 := key B A m n hb ha (fun k => (h k).symm)
  refine ⟨?_, fun i hi => (k1 i hi).2⟩
  rcases Nat.lt_trichotomy n m with q | q | q
  · have := (k2 n q).1; omega
  · exact q
  · have := (k1 m q).1; omega
theorem sn_eq {α : Type} (F : Nat → α) (k : Nat) (z : α) : sn F k z k = z := if_pos rfl
theorem sn_ne {α : Type} (F : Nat → α) {k i : Nat} (z : α) (h : i ≠ k) : sn F k z i = F i := if_neg h
theorem insO_sp (E : Nat → Bool) (p : Nat) : ∀ (n : Nat) (O : Nat → Nat), ∃ c, c ≤ n ∧ (∀ j, j < c → insO E p n O j = O j) ∧ insO E p n O c = p ∧ (∀ j, c < j → j ≤ n → insO E p n O j = O (j - 1)) ∧ (∀ j, n < j → insO E p n O j = O j) ∧ (∀ j, c ≤ j → j < n → E (O j) = true) ∧ (c = 0 ∨ E (O (c - 1)) = false) := by
  intro n
  induction n with
  | zero => intro O; exact ⟨0, by omega, by omega, sn_eq _ _ _, by omega, fun j hj => sn_ne _ _ (by omega), by omega, Or.inl rfl⟩
  | succ n ih =>
    intro O
    by_cases hE : E (O n) = true
    · obtain ⟨c, c1, c2, c3, c4, c5, c6, c7⟩ := ih (sn O (n + 1) (O n))
      have e : insO E p (n + 1) O = insO E p n (sn O (n + 1) (O n)) := by rw [insO, if_pos hE]
      rw [e]
      refine ⟨c, by omega, ?_, c3, ?_, ?_, ?_, ?_⟩
      · intro j hj; rw [c2 j hj, sn_ne _ _ (by omega)]
      · intro j h1 h2
        by_cases q : j = n + 1
        · subst q; rw [c5 _ (by omega), sn_eq]; rfl
        · rw [c4 j h1 (by omega), sn_ne _ _ (by omega)]
      · intro j hj; rw [c5 j (by omega), sn_ne _ _ (by omega)]
      · intro j h1 h2
        by_cases q : j = n
        · subst q; exact hE
        · have := c6 j h1 (by omega); rw [sn_ne _ _ (by omega)] at this; exact this
      · rcases c7 with q | q
        · exact Or.inl q
        · by_cases z : c = 0
          · exact Or.inl z
          · rw [sn_ne _ _ (by omega)] at q; exact Or.inr q
    · have e : insO E p (n + 1) O = sn O (n + 1) p := by rw [insO, if_neg hE]
      rw [e]
      refine ⟨n + 1, Nat.le_refl _, fun j hj => sn_ne _ _ (by omega), sn_eq _ _ _, by omega, fun j hj => sn_ne _ _ (by omega), by omega, Or.inr ?_⟩
      rw [show n + 1 - 1 = n from by omega]; simpa using hE
theorem ins_ss {A : Nat → Nat} {n k : Nat} (h : ss A n) (hk : ¬ mem A n k) : ss (insO (fun q => decide (k < q)) k n A) (n + 1) ∧ ∀ x, mem (insO (fun q => decide (k < q)) k n A) (n + 1) x ↔ mem A n x ∨ x = k := by
  obtain ⟨c, c1, c2, c3, c4, c5, c6, c7⟩ := insO_sp (fun q => decide (k < q)) k n A
  generalize insO (fun q => decide (k < q)) k n A = B at *
  have hi : ∀ j, c ≤ j → j < n → k < A j := fun j h1 h2 => by simpa using c6 j h1 h2
  have lo : ∀ j, j < c → A j < k := by
    intro j hj
    have h0 : A (c - 1) < k := by
      rcases c7 with q | q
      · omega
      · have q : ¬ k < A (c - 1) := by simpa using q
        have : A (c - 1) ≠ k := fun z => hk ⟨c - 1, by omega, z⟩
        omega
    by_cases w : j = c - 1
    · rw [w]; exact h0
    · have := h j (c - 1) (by omega) (by omega); omega
  constructor
  · intro i j hij hj
    rcases Nat.lt_trichotomy i c with q | q | q
    · rw [c2 i q]
      rcases Nat.lt_trichotomy j c with w | w | w
      · rw [c2 j w]; exact h i j hij (by omega)
      · rw [w, c3]; exact lo i q
      · rw [c4 j w (by omega)]
        have a1 := lo i q; have a2 := hi (j - 1) (by omega) (by omega); omega
    · rw [q, c3, c4 j (by omega) (by omega)]; exact hi _ (by omega) (by omega)
    · rw [c4 i q (by omega), c4 j (by omega) (by omega)]; exact h _ _ (by omega) (by omega)
  · intro x
    constructor
    · intro ⟨i, i1, i2⟩
      rcases Nat.lt_trichotomy i c with q | q | q
      · rw [c2 i q] at i2; exact Or.inl ⟨i, by omega, i2⟩
      · rw [q, c3] at i2; exact Or.inr i2.symm
      · rw [c4 i q (by omega)] at i2; exact Or.inl ⟨i - 1, by omega, i2⟩
    · intro hx
      rcases hx with ⟨i, i1, i2⟩ | hx
      · rcases Nat.lt_or_ge i c with q | q
        · exact ⟨i, by omega, by rw [c2 i q]; exact i2⟩
        · exact ⟨i + 1, by omega, by rw [c4 (i + 1) (by omega) (by omega)]; exact i2⟩
      · exact ⟨c, by omega, by rw [c3]; exact hx.symm⟩
theorem shC_sp {n : Nat} : ∀ (k i : Nat) (A : Nat → Nat), n ≤ i + k → (∀ j, j < i → shC n i A j = A j) ∧ (∀ j, i ≤ j → j < n → shC n i A j = A (j + 1)) ∧ (∀ j, i ≤ j → n ≤ j → shC n i A j = A j) := by
  intro k
  induction k with
  | zero => intro i A h; rw [shC_end (by omega)]; exact ⟨fun _ _ => rfl, by omega, fun _ _ _ => rfl⟩
  | succ k ih =>
    intro i A h
    rcases Nat.lt_or_ge i n with q | q
    · obtain ⟨a1, a2, a3⟩ := ih (i + 1) (sn A i (A (i + 1))) (by omega)
      rw [shC_go q]
      refine ⟨?_, ?_, ?_⟩
      · intro j hj; rw [a1 j (by omega), sn_ne _ _ (by omega)]
      · intro j h1 h2
        by_cases w : j = i
        · subst w; rw [a1 j (by omega), sn_eq]
        · rw [a2 j (by omega) h2, sn_ne _ _ (by omega)]
      · intro j h1 h2; rw [a3 j (by omega) h2, sn_ne _ _ (by omega)]
    · rw [shC_end q]; exact ⟨fun _ _ => rfl, by omega, fun _ _ _ => rfl⟩
theorem rem_ss {A : Nat → Nat} {n t : Nat} (h : ss A n) (ht : t < n) : ss (shC (n - 1) t A) (n - 1) ∧ ∀ x, mem (shC (n - 1) t A) (n - 1) x ↔ mem A n x ∧ x ≠ A t := by
  obtain ⟨a1, a2, a3⟩ := shC_sp (n := n - 1) n t A (by omega)
  generalize shC (n - 1) t A = B at *
  constructor
  · intro i j hij hj
    rcases Nat.lt_or_ge i t with q | q <;> rcases Nat.lt_or_ge j t with w | w
    · rw [a1 i q, a1 j w]; exact h i j hij (by omega)
    · rw [a1 i q, a2 j w hj]; exact h _ _ (by omega) (by omega)
    · omega
    · rw [a2 i q (by omega), a2 j w hj]; exact h _ _ (by omega) (by omega)
  · intro x
    constructor
    · intro ⟨i, i1, i2⟩
      rcases Nat.lt_or_ge i t with q | q
      · rw [a1 i q] at i2
        exact ⟨⟨i, by omega, i2⟩, fun z => by have := h i t q ht; omega⟩
      · rw [a2 i q i1] at i2
        exact ⟨⟨i + 1, by omega, i2⟩, fun z => by have := h t (i + 1) (by omega) (by omega); omega⟩
    · intro ⟨⟨i, i1, i2⟩, hx⟩
      rcases Nat.lt_trichotomy i t with q | q | q
      · exact ⟨i, by omega, by rw [a1 i q]; exact i2⟩
      · subst q; exact (hx i2.symm).elim
      · exact ⟨i - 1, by omega, by rw [a2 (i - 1) (by omega) (by omega), show i - 1 + 1 = i from by omega]; exact i2⟩
/-! codes of triangles -/
def cd3 (a b c : Nat) : Nat := a * 1600 + b * 40 + c
theorem cd3_inj {a b c x y z : Nat} (hb : b < 40) (hc : c < 40) (hy : y < 40) (hz : z < 40) (h : cd3 a b c = cd3 x y z) : a = x ∧ b = y ∧ c = z := by unfold cd3 at h; omega
theorem cod_sp {a b c : Nat} (n1 : a ≠ b) (n2 : b ≠ c) (n3 : a ≠ c) : ∃ x y z, rt3 x y z a b c ∧ x < y ∧ x < z ∧ cod a b c = cd3 x y z := by
  unfold cod cd3
  by_cases h1 : a < b ∧ a < c
  · exact ⟨a, b, c, rt3_rf _ _ _, h1.1, h1.2, by rw [if_pos h1]⟩
  · by_cases h2 : b < c
    · exact ⟨b, c, a, rt3_1 _ _ _, h2, by omega, by rw [if_neg h1, if_pos h2]⟩
    · exact ⟨c, a, b, rt3_2 _ _ _, by omega, by omega, by rw [if_neg h1, if_neg h2]⟩
theorem cod_rt {a b c x y z : Nat} (h : rt3 x y z a b c) (h1 : x < y) (h2 : x < z) : cod a b c = cd3 x y z := by
  unfold cod cd3
  rcases h with ⟨rfl, rfl, rfl⟩ | ⟨rfl, rfl, rfl⟩ | ⟨rfl, rfl, rfl⟩
  · rw [if_pos ⟨h1, h2⟩]
  · rw [if_neg (by omega), if_pos (by omega)]
  · rw [if_neg (by omega), if_neg (by omega)]
theorem rt3_sy {a b c x y z : Nat} (h : rt3 x y z a b c) : rt3 a b c x y z := by unfold rt3 at *; omega
theorem rt3_tr {a b c x y z u v w : Nat} (h : rt3 x y z a b c) (g : rt3 a b c u v w) : rt3 x y z u v w := by unfold rt3 at *; omega
/-- a rising row of codes that says just the triangles of t -/
def CL (A : Nat → Nat) (n : Nat) (t : Nat → Nat → Nat → Prop) : Prop := ss A n ∧ ∀ k, mem A n k ↔ ∃ a b c, t a b c ∧ a < b ∧ a < c ∧ k = cd3 a b c
def tB (t : Nat → Nat → Nat → Prop) : Prop := ∀ a b c, t a b c → a < 40 ∧ b < 40 ∧ c < 40 ∧ a ≠ b ∧ b ≠ c ∧ a ≠ c
theorem CL_uq {A B : Nat → Nat} {n m : Nat} {t : Nat → Nat → Nat → Prop} (h1 : CL A n t) (h2 : CL B m t) : n = m ∧ ∀ i, i < n → A i = B i := ss_uq h1.1 h2.1 (fun k => (h1.2 k).trans (h2.2 k).symm)
theorem tRt {t : Nat → Nat → Nat → Prop} (hR : tRot t) {a b c x y z : Nat} (h : t a b c) (g : rt3 x y z a b c) : t x y z := by
  rcases g with ⟨rfl, rfl, rfl⟩ | ⟨rfl, rfl, rfl⟩ | ⟨rfl, rfl, rfl⟩
  · exact h
  · exact hR _ _ _ h
  · exact hR _ _ _ (hR _ _ _ h)
theorem CL_cod {A : Nat → Nat} {n : Nat} {t : Nat → Nat → Nat → Prop} (h : CL A n t) (hR : tRot t) (hB : tB t) {a b c : Nat} (ha : a < 40) (hb : b < 40) (hc : c < 40) (n1 : a ≠ b) (n2 : b ≠ c) (n3 : a ≠ c) : mem A n (cod a b c) ↔ t a b c := by
  obtain ⟨x, y, z, r, q1, q2, e⟩ := cod_sp n1 n2 n3
  rw [h.2]
  constructor
  · intro ⟨u, v, w, g1, g2, g3, g4⟩
    rw [e] at g4
    have bb := hB _ _ _ g1
    have xyz : y < 40 ∧ z < 40 := by unfold rt3 at r; omega
    obtain ⟨rfl, rfl, rfl⟩ := cd3_inj xyz.1 xyz.2 bb.2.1 bb.2.2.1 g4
    exact tRt hR g1 (rt3_sy r)
  · intro g
    exact ⟨x, y, z, tRt hR g r, q1, q2, e⟩
theorem CL_add {A : Nat → Nat} {n : Nat} {t : Nat → Nat → Nat → Prop} (h : CL A n t) (hR : tRot t) (hB : tB t) {a b c : Nat} (ha : a < 40) (hb : b < 40) (hc : c < 40) (n1 : a ≠ b) (n2 : b ≠ c) (n3 : a ≠ c) (hf : ¬ t a b c) : CL (insO (fun q => decide (cod a b c < q)) (cod a b c) n A) (n + 1) (fun x y z => t x y z ∨ rt3 x y z a b c) := by
  have nm : ¬ mem A n (cod a b c) := fun z => hf ((CL_cod h hR hB ha hb hc n1 n2 n3).1 z)
  have s := ins_ss h.1 nm
  refine ⟨s.1, fun k => ?_⟩
  rw [s.2, h.2]
  constructor
  · intro q
    rcases q with ⟨u, v, w, g1, g2, g3, g4⟩ | q
    · exact ⟨u, v, w, Or.inl g1, g2, g3, g4⟩
    · obtain ⟨x, y, z, r, q1, q2, e⟩ := cod_sp n1 n2 n3
      exact ⟨x, y, z, Or.inr r, q1, q2, by rw [q, e]⟩
  · intro ⟨u, v, w, g1, g2, g3, g4⟩
    rcases g1 with g1 | g1
    · exact Or.inl ⟨u, v, w, g1, g2, g3, g4⟩
    · exact Or.inr (by rw [g4, cod_rt g1 g2 g3])
theorem CL_rem {A : Nat → Nat} {n : Nat} {t : Nat → Nat → Nat → Prop} (h : CL A n t) (hR : tRot t) (hB : tB t) {a b c i : Nat} (hi : i < n) (he : A i = cod a b c) (ht : t a b c) : CL (shC (n - 1) i A) (n - 1) (fun x y z => t x y z ∧ ¬ rt3 x y z a b c) := by
  have bb := hB _ _ _ ht
  have s := rem_ss h.1 hi
  refine ⟨s.1, fun k => ?_⟩
  rw [s.2, h.2, he]
  constructor
  · intro ⟨⟨u, v, w, g1, g2, g3, g4⟩, hne⟩
    exact ⟨u, v, w, ⟨g1, fun z => hne (by rw [g4, cod_rt z g2 g3])⟩, g2, g3, g4⟩
  · intro ⟨u, v, w, ⟨g1, g5⟩, g2, g3, g4⟩
    refine ⟨⟨u, v, w, g1, g2, g3, g4⟩, fun z => g5 ?_⟩
    obtain ⟨x, y, z', r, q1, q2, e⟩ := cod_sp bb.2.2.2.1 bb.2.2.2.2.1 bb.2.2.2.2.2
    rw [g4, e] at z
    have b2 := hB _ _ _ g1
    have xyz : y < 40 ∧ z' < 40 := by unfold rt3 at r; omega
    obtain ⟨rfl, rfl, rfl⟩ := cd3_inj b2.2.1 b2.2.2.1 xyz.1 xyz.2 z
    exact r
