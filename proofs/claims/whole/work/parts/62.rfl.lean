/-! laying out, by the reference -/
def rc (Q : QB) (i : Nat) : Nat := cd3 (Q.1 i) (Q.2.1 i) (Q.2.2 i)
theorem rc_put (i x y z : Nat) (Q : QB) : rc (put3 i x y z Q) = sn (rc Q) i (cd3 x y z) := by
  funext k
  unfold rc put3 sn
  by_cases h : k = i
  · simp only [if_pos h]
  · simp only [if_neg h]
theorem bhd_rc {Q : QB} (h : QB3 Q) {i x y z : Nat} (hy : y < 40) (hz : z < 40) : bhd Q.1 Q.2.1 Q.2.2 i x y z = decide (cd3 x y z < rc Q i) := by
  have b := h.2.1 i; have c := h.2.2 i
  unfold bhd rc cd3
  split
  · exact decide_eq_decide.mpr (by omega)
  · split
    · exact decide_eq_decide.mpr (by omega)
    · exact decide_eq_decide.mpr (by omega)
theorem rc_ins {x y z : Nat} (hx : x < 40) (hy : y < 40) (hz : z < 40) : ∀ (n : Nat) (Q : QB), QB3 Q → rc (insB x y z n Q) = insO (fun q => decide (cd3 x y z < q)) (cd3 x y z) n (rc Q) := by
  intro n
  induction n with
  | zero => intro Q _; exact rc_put 0 x y z Q
  | succ n ih =>
    intro Q h
    rw [insB, insO, bhd_rc h hy hz]
    split
    · rw [ih _ (put3_b h (h.1 _) (h.2.1 _) (h.2.2 _)), rc_put]; rfl
    · exact rc_put (n + 1) x y z Q
theorem rc_sh {n : Nat} : ∀ (k i : Nat) (Q : QB), n ≤ i + k → rc (shB n i Q) = shC n i (rc Q) := by
  intro k
  induction k with
  | zero => intro i Q h; rw [shB_end (by omega), shC_end (by omega)]
  | succ k ih =>
    intro i Q h
    rcases Nat.lt_or_ge i n with q | q
    · rw [shB_go q, shC_go q, ih (i + 1) _ (by omega), rc_put]; rfl
    · rw [shB_end q, shC_end q]
theorem cd3_rot3 (a b c : Nat) : cd3 (rot3 a b c).1 (rot3 a b c).2.1 (rot3 a b c).2.2 = cod a b c := by
  unfold rot3 cod cd3
  split
  · rfl
  · split <;> rfl
theorem trn_lt {X Y : Nat → Int} {a b c : Nat} : trn X Y a b c < 0 ↔ le3 X Y a b c < 0 := by
  unfold trn sgn
  split
  · omega
  · split <;> omega
theorem trn_gt {X Y : Nat → Int} {a b c : Nat} : 0 < trn X Y a b c ↔ 0 < le3 X Y a b c := by
  unfold trn sgn
  split
  · omega
  · split <;> omega
theorem trn_z {X Y : Nat → Int} {a b c : Nat} : trn X Y a b c = 0 ↔ le3 X Y a b c = 0 := by
  unfold trn sgn
  split
  · omega
  · split <;> omega
/-- a triangle is held: its code goes in -/
theorem rc_hld {X Y : Nat → Int} {a b c n : Nat} {Q : QB} (h : QB3 Q) (ha : a < 40) (hb : b < 40) (hc : c < 40) : rc (hldQ X Y a b c n Q) = if le3 X Y a b c < 0 then insO (fun q => decide (cod a c b < q)) (cod a c b) n (rc Q) else insO (fun q => decide (cod a b c < q)) (cod a b c) n (rc Q) := by
  have l := nrm_lt (X := X) (Y := Y) ha hb hc
  unfold hldQ
  rw [rc_ins l.1 l.2.1 l.2.2 n Q h]
  unfold nrm
  by_cases q : le3 X Y a b c < 0
  · rw [if_pos q, if_pos (trn_lt.2 q), cd3_rot3]
  · rw [if_neg q, if_neg (fun z => q (trn_lt.1 z)), cd3_rot3]
theorem hld_b {X Y : Nat → Int} {a b c n : Nat} {Q : QB} (h : QB3 Q) (ha : a < 40) (hb : b < 40) (hc : c < 40) : QB3 (hldQ X Y a b c n Q) := by
  have l := nrm_lt (X := X) (Y := Y) ha hb hc
  exact insB_b l.1 l.2.1 l.2.2 n Q h
theorem CL_cg {A : Nat → Nat} {n : Nat} {t u : Nat → Nat → Nat → Prop} (h : CL A n t) (he : ∀ x y z, t x y z ↔ u x y z) : CL A n u := by
  have : t = u := funext fun x => funext fun y => funext fun z => propext (he x y z)
  rw [← this]; exact h
/-- as CL_add, for a triangle told in any turn -/
theorem CL_hld {X Y : Nat → Int} {Q : QB} {n : Nat} {t : Nat → Nat → Nat → Prop} (h : CL (rc Q) n t) (hQ : QB3 Q) (hR : tRot t) (hB : tB t) {a b c x y z : Nat} (ha : a < 40) (hb : b < 40) (hc : c < 40) (hp : 0 < le3 X Y x y z) (hr : rt3 a b c x y z ∨ rt3 a c b x y z) (hf : ¬ t x y z) : CL (rc (hldQ X Y a b c n Q)) (n + 1) (fun u v w => t u v w ∨ rt3 u v w x y z) := by
  obtain ⟨n1, n2, n3⟩ := le3_ne (X := X) (Y := Y) (a := x) (b := y) (c := z) (by omega)
  rw [rc_hld hQ ha hb hc]
  have o1 : ∀ a b c, rt3 a b c x y z → le3 X Y a b c = le3 X Y x y z := by
    intro a b c r
    rcases r with ⟨rfl, rfl, rfl⟩ | ⟨rfl, rfl, rfl⟩ | ⟨rfl, rfl, rfl⟩
    · rfl
    · unfold le3 lo; grind
    · unfold le3 lo; grind
  have sw : le3 X Y a c b = -le3 X Y a b c := by unfold le3 lo; grind
  have go : ∀ a b c, a < 40 → b < 40 → c < 40 → rt3 a b c x y z → CL (insO (fun q => decide (cod a b c < q)) (cod a b c) n (rc Q)) (n + 1) (fun u v w => t u v w ∨ rt3 u v w x y z) := by
    intro a b c ha hb hc r
    have d : a ≠ b ∧ b ≠ c ∧ a ≠ c := by unfold rt3 at r; omega
    have := CL_add h hR hB ha hb hc d.1 d.2.1 d.2.2 (fun w => hf (tRt hR w (rt3_sy r)))
    refine CL_cg this (fun u v w => ?_)
    constructor
    · intro q; rcases q with q | q
      · exact Or.inl q
      · exact Or.inr (rt3_tr q r)
    · intro q; rcases q with q | q
      · exact Or.inl q
      · exact Or.inr (rt3_tr q (rt3_sy r))
  rcases hr with r | r
  · have := o1 _ _ _ r
    rw [if_neg (by omega)]
    exact go _ _ _ ha hb hc r
  · have := o1 _ _ _ r
    rw [if_pos (by omega)]
    exact go _ _ _ ha hc hb r
def tot (n s j : Nat) : Nat := n - j - s + 2
/-- how many of the new border have been told before k (k up to 2 n) -/
def C0 (n s j k : Nat) : Nat := if j = 0 then (if k = 0 then 0 else if k ≤ s then 2 else k - s + 2) else (if k ≤ s then 0 else if k ≤ n - j then k - s else tot n s j)
def CC (n s j k : Nat) : Nat := if k < n then C0 n s j k else tot n s j + C0 n s j (k - n)
/-- the new border as it is told from 0 on, again and again -/
def em0 (r : Nat → Nat) (n s j p x : Nat) : Nat := if j = 0 then (if x = 0 then r 0 else if x = 1 then p else r (s + x - 2)) else (if x < n - j - s + 1 then r (s + x) else p)
def em (r : Nat → Nat) (n s j p x : Nat) : Nat := if x < tot n s j then em0 r n s j p x else em0 r n s j p (x - tot n s j)
def RO (Ro r : Nat → Nat) (n : Nat) : Prop := ∃ c, c < n ∧ ∀ i, i < n → Ro i = r (if i + c < n then i + c else i + c - n)
theorem C0_n {n s j : Nat} (h1 : 1 ≤ s + j) (h2 : s + j < n) : C0 n s j n = tot n s j := by
  unfold C0 tot
  (repeat' split) <;> omega
theorem CC_at {n s j K k : Nat} (h1 : 1 ≤ s + j) (h2 : s + j < n) (hK : (K = k ∨ K = k + n) ∧ k < n) : ∃ b, (b = 0 ∨ b = tot n s j) ∧ CC n s j K = b + C0 n s j k ∧ CC n s j (K + 1) = b + C0 n s j (k + 1) := by
  unfold CC
  rcases hK.1 with q | q
  · refine ⟨0, Or.inl rfl, by rw [if_pos (by omega), q]; omega, ?_⟩
    by_cases z : K + 1 < n
    · rw [if_pos z, q]; omega
    · rw [if_neg z, show K + 1 - n = 0 from by omega, show k + 1 = n from by omega, C0_n h1 h2, show C0 n s j 0 = 0 from by unfold C0; (repeat' split) <;> omega]; omega
  · refine ⟨tot n s j, Or.inr rfl, by rw [if_neg (by omega), show K - n = k from by omega], by rw [if_neg (by omega), show K + 1 - n = k + 1 from by omega]⟩
theorem em_at {r : Nat → Nat} {n s j p b x : Nat} (hb : b = 0 ∨ b = tot n s j) (hx : x < tot n s j) : em r n s j p (b + x) = em0 r n s j p x := by
  unfold em
  rcases hb with q | q
  · rw [if_pos (by omega), q, Nat.zero_add]
  · rw [if_neg (by omega), q, show tot n s j + x - tot n s j = x from by omega]
theorem C0_step {r : Nat → Nat} {n s j p k : Nat} (hrn : r n = r 0) (h1 : 1 ≤ s + j) (h2 : s + j < n) (hk : k < n) {o f : Prop} (ho : o ↔ k < s ∨ n - j ≤ k) (hf : f ↔ (k = 0 ∧ 0 < j) ∨ (1 ≤ k ∧ (k - 1 < s ∨ n - j ≤ k - 1))) : (o ∧ f → C0 n s j (k + 1) = C0 n s j k) ∧ (¬ (o ∧ f) → C0 n s j k < tot n s j ∧ em0 r n s j p (C0 n s j k) = r k) ∧ (o ∧ ¬ f → C0 n s j (k + 1) = C0 n s j k + 2 ∧ C0 n s j k + 1 < tot n s j ∧ em0 r n s j p (C0 n s j k + 1) = p ∧ k = (if j = 0 then 0 else n - j)) ∧ (¬ o → C0 n s j (k + 1) = C0 n s j k + 1) := by
  rw [ho, hf]
  by_cases j0 : j = 0
  · have c0 : C0 n s j 0 = 0 := by unfold C0; rw [if_pos j0, if_pos rfl]
    have c1 : ∀ x, 1 ≤ x → x ≤ s → C0 n s j x = 2 := by intro x a b; unfold C0; rw [if_pos j0, if_neg (by omega), if_pos b]
    have c2 : ∀ x, s < x → C0 n s j x = x - s + 2 := by intro x a; unfold C0; rw [if_pos j0, if_neg (by omega), if_neg (by omega)]
    have e0 : em0 r n s j p 0 = r 0 := by unfold em0; rw [if_pos j0, if_pos rfl]
    have e1 : em0 r n s j p 1 = p := by unfold em0; rw [if_pos j0, if_neg (by omega), if_pos rfl]
    have e2 : ∀ x, 2 ≤ x → em0 r n s j p x = r (s + x - 2) := by intro x a; unfold em0; rw [if_pos j0, if_neg (by omega), if_neg (by omega)]
    rw [if_pos j0]
    unfold tot
    by_cases k0 : k = 0
    · subst k0
      rw [c0, e0, e1, c1 1 (by omega) (by omega)]
      refine ⟨fun z => by omega, fun _ => ⟨by omega, rfl⟩, fun _ => ⟨rfl, by omega, rfl, rfl⟩, fun z => by omega⟩
    · by_cases ks : k < s
      · rw [c1 k (by omega) (by omega), c1 (k + 1) (by omega) (by omega)]
        exact ⟨fun _ => rfl, fun z => by omega, fun z => by omega, fun z => by omega⟩
      · by_cases ke : k = s
        · rw [c1 k (by omega) (by omega), c2 (k + 1) (by omega), e2 2 (by omega)]
          exact ⟨fun z => by omega, fun _ => ⟨by omega, by congr 1; omega⟩, fun z => by omega, fun _ => by omega⟩
        · rw [c2 k (by omega), c2 (k + 1) (by omega), e2 _ (by omega)]
          exact ⟨fun z => by omega, fun _ => ⟨by omega, by congr 1; omega⟩, fun z => by omega, fun _ => by omega⟩
  · have c1 : ∀ x, x ≤ s → C0 n s j x = 0 := by intro x b; unfold C0; rw [if_neg j0, if_pos b]
    have c2 : ∀ x, s < x → x ≤ n - j → C0 n s j x = x - s := by intro x a b; unfold C0; rw [if_neg j0, if_neg (by omega), if_pos b]
    have c3 : ∀ x, n - j < x → C0 n s j x = n - j - s + 2 := by intro x a; unfold C0 tot; rw [if_neg j0, if_neg (by omega), if_neg (by omega)]
    have e1 : ∀ x, x < n - j - s + 1 → em0 r n s j p x = r (s + x) := by intro x a; unfold em0; rw [if_neg j0, if_pos a]
    have e2 : em0 r n s j p (n - j - s + 1) = p := by unfold em0; rw [if_neg j0, if_neg (by omega)]
    rw [if_neg j0]
    unfold tot
    by_cases ks : k < s
    · rw [c1 k (by omega), c1 (k + 1) (by omega)]
      exact ⟨fun _ => rfl, fun z => by omega, fun z => by omega, fun z => by omega⟩
    · by_cases ke : k = s
      · rw [c1 k (by omega), c2 (k + 1) (by omega) (by omega), e1 0 (by omega)]
        exact ⟨fun z => by omega, fun _ => ⟨by omega, by congr 1; omega⟩, fun z => by omega, fun _ => by omega⟩
      · by_cases kn : k < n - j
        · rw [c2 k (by omega) (by omega), c2 (k + 1) (by omega) (by omega), e1 _ (by omega)]
          exact ⟨fun z => by omega, fun _ => ⟨by omega, by congr 1; omega⟩, fun z => by omega, fun _ => by omega⟩
        · by_cases kj : k = n - j
          · rw [c2 k (by omega) (by omega), c3 (k + 1) (by omega), e1 _ (by omega), show k - s + 1 = n - j - s + 1 from by omega, e2]
            exact ⟨fun z => by omega, fun _ => ⟨by omega, by congr 1; omega⟩, fun _ => ⟨by omega, by omega, rfl, kj⟩, fun z => by omega⟩
          · rw [c3 k (by omega), c3 (k + 1) (by omega)]
            exact ⟨fun _ => rfl, fun z => by omega, fun z => by omega, fun z => by omega⟩
theorem C0_le {n s j c : Nat} (h1 : 1 ≤ s + j) (h2 : s + j < n) (hc : c < n) : C0 n s j c ≤ tot n s j := by
  unfold C0 tot
  (repeat' split) <;> omega
/-- told so, it is the new border turned -/
theorem em_RO {r F : Nat → Nat} {n s j p c : Nat} (hrn : r n = r 0) (h1 : 1 ≤ s + j) (h2 : s + j < n) (hc : c < n) (hF : ∀ e, e < tot n s j → F e = em r n s j p (CC n s j c + e)) : RO F (nwr r n s j p) (tot n s j) := by
  have cc : CC n s j c = C0 n s j c := by unfold CC; rw [if_pos hc]
  have cl := C0_le h1 h2 hc
  have w1 : ∀ k, 1 ≤ k → k ≤ n - j - s + 1 → nwr r n s j p k = r (s + k - 1) := by
    intro k k1 k2; unfold nwr; rw [if_neg (by omega), if_pos k2]
  have w0 : nwr r n s j p 0 = p := rfl
  generalize C0 n s j c = a at *
  rw [cc] at hF
  have eme : ∀ x, x < 2 * tot n s j → em r n s j p x = em0 r n s j p (if x < tot n s j then x else x - tot n s j) := by
    intro x _; unfold em; split <;> rfl
  by_cases j0 : j = 0
  · have v : ∀ x, x < tot n s j → em0 r n s j p x = nwr r n s j p (if x = 0 then tot n s j - 1 else x - 1) := by
      intro x hx
      unfold em0; rw [if_pos j0]
      unfold tot at *
      by_cases x0 : x = 0
      · rw [if_pos x0, if_pos x0, w1 _ (by omega) (by omega), show s + (n - j - s + 2 - 1) - 1 = n from by omega, hrn]
      · rw [if_neg x0, if_neg x0]
        by_cases x1 : x = 1
        · rw [if_pos x1, x1]; rfl
        · rw [if_neg x1, w1 _ (by omega) (by omega)]; congr 1; omega
    refine ⟨if a = 0 then tot n s j - 1 else a - 1, by unfold tot at *; split <;> omega, fun e he => ?_⟩
    rw [hF e he, eme _ (by omega), v _ (by split <;> omega)]
    congr 1
    unfold tot at *
    (repeat' split) <;> omega
  · have v : ∀ x, x < tot n s j → em0 r n s j p x = nwr r n s j p (if x + 1 < tot n s j then x + 1 else 0) := by
      intro x hx
      unfold em0; rw [if_neg j0]
      unfold tot at *
      by_cases x0 : x < n - j - s + 1
      · rw [if_pos x0, if_pos (by omega), w1 _ (by omega) (by omega)]; congr 1
      · rw [if_neg x0, if_neg (by omega)]; rfl
    refine ⟨if a + 1 < tot n s j then a + 1 else a + 1 - tot n s j, by unfold tot at *; split <;> omega, fun e he => ?_⟩
    rw [hF e he, eme _ (by omega), v _ (by split <;> omega)]
    congr 1
    unfold tot at *
    (repeat' split) <;> omega
