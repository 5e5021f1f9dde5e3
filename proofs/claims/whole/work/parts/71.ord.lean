/-! the order of the points -/
section ORD
variable {X Y : Nat → Int}
theorem srd_uq {A B : Nat → Nat} {n m : Nat} (ha : srd X Y A n) (hb : srd X Y B m) (h : ∀ k, VO A n k ↔ VO B m k) : n = m ∧ ∀ i, i < n → A i = B i := by
  have key : ∀ (A B : Nat → Nat) (n m : Nat), srd X Y A n → srd X Y B m → (∀ k, VO A n k ↔ VO B m k) → ∀ i, i < n → i < m ∧ A i = B i := by
    intro A B n m ha hb h i
    induction i using Nat.strongRecOn with
    | ind i ih =>
      intro hi
      obtain ⟨j, j1, j2⟩ := (h (A i)).1 ⟨i, hi, rfl⟩
      rcases Nat.lt_trichotomy j i with q | q | q
      · have e := ih j q (by omega); have := ha j i q hi
        rw [j2, e.2] at this; exact (bef_ir this).elim
      · subst q; exact ⟨j1, j2⟩
      · obtain ⟨l, l1, l2⟩ := (h (B i)).2 ⟨i, by omega, rfl⟩
        have b1 := hb i j q j1
        rw [← j2, l2] at b1
        have li : l < i := by
          rcases Nat.lt_trichotomy l i with w | w | w
          · exact w
          · subst w; exact (bef_ir b1).elim
          · exact (bef_as (ha i l w l1) b1).elim
        have c := ih l li l1
        have := hb l i li (by omega)
        rw [← c.2, l2] at this; exact (bef_ir this).elim
  have k1 := key A B n m ha hb h
  have k2 := key B A m n hb ha (fun k => (h k).symm)
  refine ⟨?_, fun i hi => (k1 i hi).2⟩
  rcases Nat.lt_trichotomy n m with q | q | q
  · have := (k2 n q).1; omega
  · exact q
  · have := (k1 m q).1; omega
theorem srd_ins {O : Nat → Nat} {n p : Nat} (h : srd X Y O n) (hp : ∀ i, i < n → dpl X Y p (O i)) : srd X Y (insO (fun q => ear X Y p q) p n O) (n + 1) ∧ ∀ x, VO (insO (fun q => ear X Y p q) p n O) (n + 1) x ↔ VO O n x ∨ x = p := by
  obtain ⟨c, c1, c2, c3, c4, c5, c6, c7⟩ := insO_sp (fun q => ear X Y p q) p n O
  generalize insO (fun q => ear X Y p q) p n O = B at *
  have hi : ∀ j, c ≤ j → j < n → bef X Y p (O j) := fun j h1 h2 => ear_bef.1 (c6 j h1 h2)
  have lo : ∀ j, j < c → bef X Y (O j) p := by
    intro j hj
    have h0 : bef X Y (O (c - 1)) p := by
      rcases c7 with q | q
      · omega
      · have q : ear X Y p (O (c - 1)) = false := q
        rcases bef_tot (hp (c - 1) (by omega)) with w | w
        · rw [ear_bef.2 w] at q; cases q
        · exact w
    by_cases w : j = c - 1
    · rw [w]; exact h0
    · exact bef_tr (h j (c - 1) (by omega) (by omega)) h0
  constructor
  · intro i j hij hj
    rcases Nat.lt_trichotomy i c with q | q | q
    · rw [c2 i q]
      rcases Nat.lt_trichotomy j c with w | w | w
      · rw [c2 j w]; exact h i j hij (by omega)
      · rw [w, c3]; exact lo i q
      · rw [c4 j w (by omega)]
        exact bef_tr (lo i q) (hi (j - 1) (by omega) (by omega))
    · rw [q, c3, c4 j (by omega) (by omega)]; exact hi _ (by omega) (by omega)
    · rw [c4 i q (by omega), c4 j (by omega) (by omega)]; exact h _ _ (by omega) (by omega)
  · intro x
    constructor
    · intro ⟨i, i1, i2⟩
      rcases Nat.lt_trichotomy i c with q | q | q
      · rw [c2 i q] at i2; exact Or.inl ⟨i, by omega, i2⟩
      · rw [q, c3] at i2; exact Or.inr i2
      · rw [c4 i q (by omega)] at i2; exact Or.inl ⟨i - 1, by omega, i2⟩
    · intro hx
      rcases hx with ⟨i, i1, i2⟩ | hx
      · rcases Nat.lt_or_ge i c with q | q
        · exact ⟨i, by omega, by rw [c2 i q]; exact i2⟩
        · exact ⟨i + 1, by omega, by rw [c4 (i + 1) (by omega) (by omega)]; exact i2⟩
      · exact ⟨c, by omega, by rw [c3]; exact hx⟩
theorem tk2 {a n : Nat} : ∀ (d i : Nat) (O : Nat → Nat), i + d = n → 1 ≤ i → (∀ j, i ≤ j → j < n → O j ≠ a) → (tkO a n i (i - 1) O).2 = n - 1 ∧ (∀ j, j < i - 1 → (tkO a n i (i - 1) O).1 j = O j) ∧ (∀ j, i - 1 ≤ j → j < n - 1 → (tkO a n i (i - 1) O).1 j = O (j + 1)) := by
  intro d
  induction d with
  | zero =>
    intro i O hi h1 _
    rw [tkO_end (by omega)]
    exact ⟨by show i - 1 = n - 1; omega, fun _ _ => rfl, fun j _ _ => by omega⟩
  | succ d ih =>
    intro i O hi h1 ho
    rw [tkO_keep (by omega) (ho i (Nat.le_refl _) (by omega))]
    have := ih (i + 1) (sn O (i - 1) (O i)) (by omega) (by omega) (fun j h1 h2 => by rw [sn_ne _ _ (by omega)]; exact ho j (by omega) h2)
    rw [show i + 1 - 1 = i - 1 + 1 from by omega] at this
    refine ⟨this.1, fun j hj => ?_, fun j h1 h2 => ?_⟩
    · rw [this.2.1 j (by omega), sn_ne _ _ (by omega)]
    · by_cases z : j = i - 1
      · rw [this.2.1 j (by omega), z, sn_eq, show i - 1 + 1 = i from by omega]
      · rw [this.2.2 j (by omega) h2, sn_ne _ _ (by omega)]
theorem sn_self {α : Type} (F : Nat → α) (k : Nat) : sn F k (F k) = F := by
  funext i
  by_cases h : i = k
  · rw [h, sn_eq]
  · rw [sn_ne _ _ h]
theorem tk1 {a n c : Nat} {O : Nat → Nat} (hc : c < n) (hO : O c = a) (hn : ∀ j, j < c → O j ≠ a) : ∀ (d i : Nat), i + d = c → tkO a n i i O = tkO a n (c + 1) c O := by
  intro d
  induction d with
  | zero =>
    intro i hi
    have : i = c := by omega
    subst this; exact tkO_out hc hO
  | succ d ih =>
    intro i hi
    rw [tkO_keep (by omega) (hn i (by omega)), sn_self]
    exact ih (i + 1) (by omega)
theorem srd_tk {O : Nat → Nat} {n a : Nat} (h : srd X Y O n) (ha : VO O n a) : (tkO a n 0 0 O).2 = n - 1 ∧ 0 < n ∧ srd X Y (tkO a n 0 0 O).1 (n - 1) ∧ ∀ x, VO (tkO a n 0 0 O).1 (n - 1) x ↔ VO O n x ∧ x ≠ a := by
  obtain ⟨c, c1, c2⟩ := ha
  have hn : ∀ j, j < n → j ≠ c → O j ≠ a := fun j hj hne e => srd_ne h hj c1 hne (by rw [e, c2])
  have e := tk1 (n := n) (c := c) c1 c2.symm (fun j hj => hn j (by omega) (by omega)) c 0 (by omega)
  obtain ⟨t1, t2, t3⟩ := tk2 (a := a) (n := n) (n - (c + 1)) (c + 1) O (by omega) (by omega) (fun j h1 h2 => hn j h2 (by omega))
  rw [show c + 1 - 1 = c from by omega] at t1 t2 t3
  rw [e]
  generalize (tkO a n (c + 1) c O) = B at *
  refine ⟨t1, by omega, ?_, ?_⟩
  · intro i j hij hj
    rcases Nat.lt_or_ge i c with q | q <;> rcases Nat.lt_or_ge j c with w | w
    · rw [t2 i q, t2 j w]; exact h i j hij (by omega)
    · rw [t2 i q, t3 j w hj]; exact h _ _ (by omega) (by omega)
    · omega
    · rw [t3 i q (by omega), t3 j w hj]; exact h _ _ (by omega) (by omega)
  · intro x
    constructor
    · intro ⟨i, i1, i2⟩
      rcases Nat.lt_or_ge i c with q | q
      · rw [t2 i q] at i2
        exact ⟨⟨i, by omega, i2⟩, by rw [i2]; exact hn i (by omega) (by omega)⟩
      · rw [t3 i q i1] at i2
        exact ⟨⟨i + 1, by omega, i2⟩, by rw [i2]; exact hn (i + 1) (by omega) (by omega)⟩
    · intro ⟨⟨i, i1, i2⟩, hx⟩
      rcases Nat.lt_trichotomy i c with q | q | q
      · exact ⟨i, by omega, by rw [t2 i q]; exact i2⟩
      · rw [q, ← c2] at i2; exact (hx i2).elim
      · exact ⟨i - 1, by omega, by rw [t3 (i - 1) (by omega) (by omega), show i - 1 + 1 = i from by omega]; exact i2⟩
theorem srd_cg {X' Y' : Nat → Int} {O : Nat → Nat} {n : Nat} (h : srd X Y O n) (hx : ∀ i, i < n → X' (O i) = X (O i) ∧ Y' (O i) = Y (O i)) : srd X' Y' O n := by
  intro i j hij hj
  have a := h i j hij hj
  have b := hx i (by omega); have c := hx j hj
  unfold bef at *; rw [b.1, b.2, c.1, c.2]; exact a
/-- the reference sorts them so -/
theorem srt_I {T : Nat → Bool} {pn : Nat} (hap : ∀ a b, a < pn → b < pn → T a = true → T b = true → a ≠ b → dpl X Y a b) : ∀ (d i n : Nat) (O : Nat → Nat), i + d = pn → srd X Y O n → (∀ x, VO O n x ↔ x < i ∧ T x = true) → srd X Y (srt X Y T pn i n O) (n + cn T pn i) ∧ VT T pn (srt X Y T pn i n O) (n + cn T pn i) := by
  intro d
  induction d with
  | zero =>
    intro i n O hi h hv
    rw [srt_end (by omega), cn_end (by omega)]
    have : i = pn := by omega
    subst this; exact ⟨h, hv⟩
  | succ d ih =>
    intro i n O hi h hv
    cases hT : T i with
    | true =>
      rw [srt_in (by omega) hT, cn_hit (by omega) hT]
      have hp : ∀ k, k < n → dpl X Y i (O k) := by
        intro k hk
        have v := (hv (O k)).1 ⟨k, hk, rfl⟩
        exact hap i (O k) (by omega) (by omega) hT v.2 (by omega)
      obtain ⟨a1, a2⟩ := srd_ins h hp
      have := ih (i + 1) (n + 1) _ (by omega) a1 (fun x => (a2 x).trans ⟨fun z => by
        rcases z with z | z
        · have := (hv x).1 z; exact ⟨by omega, this.2⟩
        · rw [z]; exact ⟨by omega, hT⟩, fun z => by
        by_cases q : x = i
        · exact Or.inr q
        · exact Or.inl ((hv x).2 ⟨by omega, z.2⟩)⟩)
      rw [show n + 1 + cn T pn (i + 1) = n + (1 + cn T pn (i + 1)) from by omega] at this
      exact this
    | false =>
      rw [srt_no (by omega) hT, cn_go (by omega) hT]
      refine ih (i + 1) n O (by omega) h (fun x => (hv x).trans ⟨fun z => ⟨by omega, z.2⟩, fun z => ?_⟩)
      by_cases q : x = i
      · rw [q, hT] at z; cases z.2
      · exact ⟨by omega, z.2⟩
theorem srt_eq {T : Nat → Bool} {pn N : Nat} {O Q : Nat → Nat} (h : srd X Y O N) (hv : VT T pn O N) : cn T pn 0 = N ∧ ∀ i, i < N → srt X Y T pn 0 0 Q i = O i := by
  have hap := srd_ap h (Nat.le_refl N)
  have := srt_I (X := X) (Y := Y) (T := T) (pn := pn) (fun a b ha hb ta tb ne => hap a b ((hv a).2 ⟨ha, ta⟩) ((hv b).2 ⟨hb, tb⟩) ne) pn 0 0 Q (by omega) (fun i j _ hj => by omega) (fun x => ⟨fun ⟨i, hi, _⟩ => by omega, fun z => by omega⟩)
  rw [Nat.zero_add] at this
  have u := srd_uq h this.1 (fun k => (hv k).trans (this.2 k).symm)
  exact ⟨u.1.symm, fun i hi => (u.2 i hi).symm⟩
end ORD
