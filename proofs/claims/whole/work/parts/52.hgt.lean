/-! heights that make every four points apart: x² + y², the points lowered, the least number most -/
def eps (i : Nat) : Int := (1000000000000 : Int) ^ (39 - i)
def hgt (X Y : Nat → Int) (i : Nat) : Int := 1000000000000000000000000 * eps 0 * (X i * X i + Y i * Y i) - eps i
theorem pw12 (n : Nat) : (0 : Int) < 1000000000000 ^ n := Int.pow_pos (by decide)
theorem eps_pos (i : Nat) : 0 < eps i := Int.pow_pos (by omega)
theorem eps_dom {m j : Nat} (h : m < j) (hj : j ≤ 39) : 1000000000000 * eps j ≤ eps m := by
  have e : 39 - m = (j - m - 1) + ((39 - j) + 1) := by omega
  have p1 : (1 : Int) ≤ 1000000000000 ^ (j - m - 1) := pw12 (j - m - 1)
  have p2 : (0 : Int) ≤ 1000000000000 ^ (39 - j + 1) := Int.le_of_lt (pw12 (39 - j + 1))
  unfold eps
  rw [e, Int.pow_add]
  have m1 := Int.mul_le_mul_of_nonneg_right p1 p2
  have m2 : (1000000000000 : Int) ^ (39 - j + 1) = 1000000000000 ^ (39 - j) * 1000000000000 := Int.pow_succ _ _
  generalize (1000000000000 : Int) ^ (39 - j + 1) = z at *
  generalize (1000000000000 : Int) ^ (j - m - 1) = y at *
  generalize (1000000000000 : Int) ^ (39 - j) = x at *
  omega
theorem eps_le0 {i : Nat} (h : i ≤ 39) : eps i ≤ eps 0 := by
  rcases Nat.eq_zero_or_pos i with z | z
  · subst z; exact Int.le_refl _
  · have := eps_dom z h; have := eps_pos i; omega
theorem eps_mul {i : Nat} {c : Int} (h : -1000000000 ≤ c ∧ c ≤ 1000000000) : -(1000000000 * eps i) ≤ eps i * c ∧ eps i * c ≤ 1000000000 * eps i := by
  have p := eps_pos i
  have m1 := Int.mul_le_mul_of_nonneg_left h.1 (Int.le_of_lt p)
  have m2 := Int.mul_le_mul_of_nonneg_left h.2 (Int.le_of_lt p)
  omega
theorem dom_pos {m i j k : Nat} {cm ci cj ck : Int} (hi : m < i) (hj : m < j) (hk : m < k) (i39 : i ≤ 39) (j39 : j ≤ 39) (k39 : k ≤ 39) (hm : 0 < cm) (bi : -1000000000 ≤ ci ∧ ci ≤ 1000000000) (bj : -1000000000 ≤ cj ∧ cj ≤ 1000000000) (bk : -1000000000 ≤ ck ∧ ck ≤ 1000000000) : 0 < eps m * cm + eps i * ci + eps j * cj + eps k * ck := by
  have p := eps_pos m
  have d1 := eps_dom hi i39; have d2 := eps_dom hj j39; have d3 := eps_dom hk k39
  have e1 := eps_mul (i := i) bi; have e2 := eps_mul (i := j) bj; have e3 := eps_mul (i := k) bk
  have m1 := Int.mul_le_mul_of_nonneg_left (show 1 ≤ cm by omega) (Int.le_of_lt p)
  omega
theorem dom_neg {m i j k : Nat} {cm ci cj ck : Int} (hi : m < i) (hj : m < j) (hk : m < k) (i39 : i ≤ 39) (j39 : j ≤ 39) (k39 : k ≤ 39) (hm : cm < 0) (bi : -1000000000 ≤ ci ∧ ci ≤ 1000000000) (bj : -1000000000 ≤ cj ∧ cj ≤ 1000000000) (bk : -1000000000 ≤ ck ∧ ck ≤ 1000000000) : eps m * cm + eps i * ci + eps j * cj + eps k * ck < 0 := by
  have := dom_pos (cm := -cm) (ci := -ci) (cj := -cj) (ck := -ck) hi hj hk i39 j39 k39 (by omega) (by omega) (by omega) (by omega)
  simp only [Int.mul_neg] at this
  omega
section HGT
variable {X Y : Nat → Int}
def h0 (X Y : Nat → Int) (i : Nat) : Int := X i * X i + Y i * Y i
theorem cnf_w (a b c d : Nat) : cnf X Y (h0 X Y) a b c d = wsum X Y a b c d := by unfold cnf h0 wsum sq le3 lo; grind
def eE (X Y : Nat → Int) (a b c d : Nat) : Int := eps a * le3 X Y b c d + eps b * le3 X Y c a d + eps c * le3 X Y a b d - eps d * le3 X Y a b c
theorem cnf_h (a b c d : Nat) : cnf X Y (hgt X Y) a b c d = 1000000000000000000000000 * eps 0 * wsum X Y a b c d - eE X Y a b c d := by
  rw [← cnf_w]
  unfold cnf hgt h0 eE
  generalize eps 0 = e0
  generalize le3 X Y b c d = d1
  generalize le3 X Y c a d = d2
  generalize le3 X Y a b d = d3
  generalize le3 X Y a b c = d4
  grind
theorem wsum_rot (a b c d : Nat) : wsum X Y b c a d = wsum X Y a b c d := by unfold wsum sq lo; grind
theorem wsum_sw (a b c d : Nat) : wsum X Y b a c d = -wsum X Y a b c d := by unfold wsum sq lo; grind
theorem wsum_sd (a b c d : Nat) : wsum X Y a b d c = -wsum X Y a b c d := by unfold wsum sq lo; grind
theorem wsum_da (a b c d : Nat) : wsum X Y d b c a = -wsum X Y a b c d := by unfold wsum sq lo; grind
def dpl (X Y : Nat → Int) (a b : Nat) : Prop := ¬ (X a = X b ∧ Y a = Y b)
theorem dpl_sy {a b : Nat} (h : dpl X Y a b) : dpl X Y b a := fun z => h ⟨z.1.symm, z.2.symm⟩
theorem sq_pos {x y : Int} (h : ¬ (x = 0 ∧ y = 0)) : 0 < x * x + y * y := by
  have h1 : ∀ z : Int, 0 ≤ z * z := fun z => by
    rcases Int.le_total 0 z with q | q
    · exact Int.mul_nonneg q q
    · exact Int.mul_nonneg_of_nonpos_of_nonpos q q
  have h2 : ∀ z : Int, z ≠ 0 → 0 < z * z := fun z q => by
    rcases Int.lt_or_gt_of_ne q with w | w
    · exact Int.mul_pos_of_neg_of_neg w w
    · exact Int.mul_pos w w
  have a1 := h1 x; have a2 := h1 y
  by_cases q : x = 0
  · have := h2 y (fun z => h ⟨q, z⟩); omega
  · have := h2 x q; omega
/-- four on one circle, three of them on a line: none but equal ones -/
theorem w0_line {a b c d : Nat} (hw : wsum X Y a b c d = 0) (hl : le3 X Y b c d = 0) (h1 : dpl X Y b d) (h2 : dpl X Y c d) : le3 X Y a b c = 0 := by
  have p1 := sq_pos (x := X b - X d) (y := Y b - Y d) (fun z => h1 (by omega))
  have p2 := sq_pos (x := X c - X d) (y := Y c - Y d) (fun z => h2 (by omega))
  have e1 : ((X b - X d) * (X c - X d) + (Y b - Y d) * (Y c - Y d)) * le3 X Y a b c = 0 := by
    unfold wsum sq lo at hw; unfold le3 lo at hl ⊢
    grind
  have e2 : ((X b - X d) * (X c - X d) + (Y b - Y d) * (Y c - Y d)) * ((X b - X d) * (X c - X d) + (Y b - Y d) * (Y c - Y d)) = ((X b - X d) * (X b - X d) + (Y b - Y d) * (Y b - Y d)) * ((X c - X d) * (X c - X d) + (Y c - Y d) * (Y c - Y d)) := by
    unfold le3 lo at hl
    grind
  have p3 := Int.mul_pos p1 p2
  rcases Int.mul_eq_zero.mp e1 with z | z
  · rw [z] at e2; omega
  · exact z
theorem wsum_in {a b c d : Nat} (ht : 0 < le3 X Y a b c) (h1 : 0 ≤ le3 X Y a b d) (h2 : 0 ≤ le3 X Y b c d) (h3 : 0 ≤ le3 X Y c a d) (da : dpl X Y a d) (db : dpl X Y b d) (dc : dpl X Y c d) : 0 < wsum X Y a b c d := by
  have s := le3_sum (X := X) (Y := Y) a b c d
  have p1 : 0 < sq X Y a (X d) (Y d) := sq_pos (fun z => da (by omega))
  have p2 : 0 < sq X Y b (X d) (Y d) := sq_pos (fun z => db (by omega))
  have p3 : 0 < sq X Y c (X d) (Y d) := sq_pos (fun z => dc (by omega))
  have m1 := Int.mul_nonneg (Int.le_of_lt p1) h2
  have m2 := Int.mul_nonneg (Int.le_of_lt p2) h3
  have m3 := Int.mul_nonneg (Int.le_of_lt p3) h1
  have e : wsum X Y a b c d = sq X Y a (X d) (Y d) * le3 X Y b c d + sq X Y b (X d) (Y d) * le3 X Y c a d + sq X Y c (X d) (Y d) * le3 X Y a b d := rfl
  have hz : 0 < le3 X Y b c d ∨ 0 < le3 X Y c a d ∨ 0 < le3 X Y a b d := by omega
  rcases hz with z | z | z
  · have := Int.mul_pos p1 z; omega
  · have := Int.mul_pos p2 z; omega
  · have := Int.mul_pos p3 z; omega
def apart (X Y : Nat → Int) (V : Nat → Prop) : Prop := ∀ a b, V a → V b → a ≠ b → dpl X Y a b
theorem cvx_0 {V : Nat → Prop} (hV : apart X Y V) : cvx X Y (h0 X Y) V := by
  intro a b c d va vb vc vd ht h1 h2 h3 n1 n2 n3
  rw [cnf_w]
  exact wsum_in ht h1 h2 h3 (hV a d va vd n1.symm) (hV b d vb vd n2.symm) (hV c d vc vd n3.symm)
theorem le3_b9 (hX : ∀ i, -10000 ≤ X i ∧ X i ≤ 10000) (hY : ∀ i, -10000 ≤ Y i ∧ Y i ≤ 10000) (a b c : Nat) : -1000000000 ≤ le3 X Y a b c ∧ le3 X Y a b c ≤ 1000000000 := by
  have := lo_bd hX hY a b (hX c) (hY c)
  unfold le3; omega
theorem eE_bd (hX : ∀ i, -10000 ≤ X i ∧ X i ≤ 10000) (hY : ∀ i, -10000 ≤ Y i ∧ Y i ≤ 10000) {a b c d : Nat} (ha : a < 40) (hb : b < 40) (hc : c < 40) (hd : d < 40) : -(4000000000 * eps 0) ≤ eE X Y a b c d ∧ eE X Y a b c d ≤ 4000000000 * eps 0 := by
  have e1 := eps_mul (i := a) (le3_b9 hX hY b c d)
  have e2 := eps_mul (i := b) (le3_b9 hX hY c a d)
  have e3 := eps_mul (i := c) (le3_b9 hX hY a b d)
  have e4 := eps_mul (i := d) (le3_b9 hX hY a b c)
  have f1 := eps_le0 (i := a) (by omega); have f2 := eps_le0 (i := b) (by omega); have f3 := eps_le0 (i := c) (by omega); have f4 := eps_le0 (i := d) (by omega)
  unfold eE; omega
theorem cnf_pos (hX : ∀ i, -10000 ≤ X i ∧ X i ≤ 10000) (hY : ∀ i, -10000 ≤ Y i ∧ Y i ≤ 10000) {a b c d : Nat} (ha : a < 40) (hb : b < 40) (hc : c < 40) (hd : d < 40) (hw : 0 < wsum X Y a b c d) : 0 < cnf X Y (hgt X Y) a b c d := by
  have e := eE_bd hX hY ha hb hc hd
  have p := eps_pos 0
  rw [cnf_h]
  have m := Int.mul_le_mul_of_nonneg_left (show 1 ≤ wsum X Y a b c d by omega) (show 0 ≤ 1000000000000000000000000 * eps 0 by omega)
  omega
theorem cnf_neg (hX : ∀ i, -10000 ≤ X i ∧ X i ≤ 10000) (hY : ∀ i, -10000 ≤ Y i ∧ Y i ≤ 10000) {a b c d : Nat} (ha : a < 40) (hb : b < 40) (hc : c < 40) (hd : d < 40) (hw : wsum X Y a b c d < 0) : cnf X Y (hgt X Y) a b c d < 0 := by
  have := cnf_pos hX hY hb ha hc hd (a := b) (b := a) (by rw [wsum_sw]; omega)
  rw [cnf_sw] at this; omega
theorem cnf_zero {a b c d : Nat} (hw : wsum X Y a b c d = 0) : cnf X Y (hgt X Y) a b c d = -eE X Y a b c d := by rw [cnf_h, hw]; omega
/-- four apart on one circle, three of them not on a line: no three of them are -/
theorem w0_ne {V : Nat → Prop} (hV : apart X Y V) {a b c d : Nat} (va : V a) (vb : V b) (vc : V c) (vd : V d) (n1 : a ≠ b) (n2 : a ≠ c) (n3 : b ≠ c) (n4 : a ≠ d) (n5 : b ≠ d) (n6 : c ≠ d) (ht : le3 X Y a b c ≠ 0) (hw : wsum X Y a b c d = 0) : le3 X Y b c d ≠ 0 ∧ le3 X Y c a d ≠ 0 ∧ le3 X Y a b d ≠ 0 := by
  refine ⟨fun z => ht ?_, fun z => ht ?_, fun z => ht ?_⟩
  · exact w0_line hw z (hV b d vb vd n5) (hV c d vc vd n6)
  · have := w0_line (a := b) (b := c) (c := a) (by rw [wsum_rot]; exact hw) z (hV c d vc vd n6) (hV a d va vd n4)
    rw [le3_rot] at this; exact this
  · have := w0_line (a := c) (b := a) (c := b) (by rw [← wsum_rot]; exact hw) z (hV a d va vd n4) (hV b d vb vd n5)
    rw [← le3_rot] at this; exact this
theorem cnf_dl (hX : ∀ i, -10000 ≤ X i ∧ X i ≤ 10000) (hY : ∀ i, -10000 ≤ Y i ∧ Y i ≤ 10000) {a b c d : Nat} (ha : a < 40) (hb : b < 40) (hc : c < 40) (hw : wsum X Y a b c d = 0) (l1 : d < a) (l2 : d < b) (l3 : d < c) : (0 < le3 X Y a b c → 0 < cnf X Y (hgt X Y) a b c d) ∧ (le3 X Y a b c < 0 → cnf X Y (hgt X Y) a b c d < 0) := by
  rw [cnf_zero hw]
  have b1 := le3_b9 hX hY b c d; have b2 := le3_b9 hX hY c a d; have b3 := le3_b9 hX hY a b d
  have D1 := fun z => dom_pos (m := d) (i := a) (j := b) (k := c) (cm := le3 X Y a b c) (ci := -le3 X Y b c d) (cj := -le3 X Y c a d) (ck := -le3 X Y a b d) l1 l2 l3 (by omega) (by omega) (by omega) z (by omega) (by omega) (by omega)
  have D2 := fun z => dom_neg (m := d) (i := a) (j := b) (k := c) (cm := le3 X Y a b c) (ci := -le3 X Y b c d) (cj := -le3 X Y c a d) (ck := -le3 X Y a b d) l1 l2 l3 (by omega) (by omega) (by omega) z (by omega) (by omega) (by omega)
  simp only [Int.mul_neg] at D1 D2
  unfold eE
  constructor
  · intro z; have := D1 z; omega
  · intro z; have := D2 z; omega
theorem cnf_al (hX : ∀ i, -10000 ≤ X i ∧ X i ≤ 10000) (hY : ∀ i, -10000 ≤ Y i ∧ Y i ≤ 10000) {a b c d : Nat} (hb : b < 40) (hc : c < 40) (hd : d < 40) (hw : wsum X Y a b c d = 0) (l1 : a < b) (l2 : a < c) (l3 : a < d) : (0 < le3 X Y b c d → cnf X Y (hgt X Y) a b c d < 0) ∧ (le3 X Y b c d < 0 → 0 < cnf X Y (hgt X Y) a b c d) := by
  have e := cnf_da (X := X) (Y := Y) (h := hgt X Y) a b c d
  have z := cnf_dl hX hY (a := d) (b := b) (c := c) (d := a) hd hb hc (by rw [wsum_da]; omega) l3 l1 l2
  rw [show le3 X Y d b c = le3 X Y b c d from by unfold le3 lo; grind] at z
  constructor
  · intro q; have := z.1 q; omega
  · intro q; have := z.2 q; omega
/-- every four points are apart -/
theorem cnf_gen (hX : ∀ i, -10000 ≤ X i ∧ X i ≤ 10000) (hY : ∀ i, -10000 ≤ Y i ∧ Y i ≤ 10000) {V : Nat → Prop} (hV : apart X Y V) {a b c d : Nat} (ha : a < 40) (hb : b < 40) (hc : c < 40) (hd : d < 40) (va : V a) (vb : V b) (vc : V c) (vd : V d) (n4 : a ≠ d) (n5 : b ≠ d) (n6 : c ≠ d) (ht : le3 X Y a b c ≠ 0) : cnf X Y (hgt X Y) a b c d ≠ 0 := by
  obtain ⟨n1, n3, n2⟩ := le3_ne ht
  rcases Int.lt_trichotomy (wsum X Y a b c d) 0 with z | z | z
  · have := cnf_neg hX hY ha hb hc hd z; omega
  · have q := w0_ne hV va vb vc vd n1 n2 n3 n4 n5 n6 ht z
    by_cases ld : d < a ∧ d < b ∧ d < c
    · have := cnf_dl hX hY ha hb hc z ld.1 ld.2.1 ld.2.2; omega
    by_cases la : a < b ∧ a < c ∧ a < d
    · have := cnf_al hX hY hb hc hd z la.1 la.2.1 la.2.2; omega
    by_cases lb : b < c ∧ b < a ∧ b < d
    · have := cnf_al hX hY (a := b) (b := c) (c := a) hc ha hd (by rw [wsum_rot]; exact z) lb.1 lb.2.1 lb.2.2
      rw [cnf_rot] at this; omega
    · have := cnf_al hX hY (a := c) (b := a) (c := b) ha hb hd (by rw [← wsum_rot]; exact z) (by omega) (by omega) (by omega)
      rw [← cnf_rot] at this; omega
  · have := cnf_pos hX hY ha hb hc hd z; omega
theorem cvx_h (hX : ∀ i, -10000 ≤ X i ∧ X i ≤ 10000) (hY : ∀ i, -10000 ≤ Y i ∧ Y i ≤ 10000) {V : Nat → Prop} (hV : apart X Y V) (h40 : ∀ a, V a → a < 40) : cvx X Y (hgt X Y) V := by
  intro a b c d va vb vc vd ht h1 h2 h3 n1 n2 n3
  exact cnf_pos hX hY (h40 a va) (h40 b vb) (h40 c vc) (h40 d vd) (wsum_in ht h1 h2 h3 (hV a d va vd n1.symm) (hV b d vb vd n2.symm) (hV c d vc vd n3.symm))
/-- the rule for a bad side -/
theorem bad_cnf (hX : ∀ i, -10000 ≤ X i ∧ X i ≤ 10000) (hY : ∀ i, -10000 ≤ Y i ∧ Y i ≤ 10000) {V : Nat → Prop} (hV : apart X Y V) (h40 : ∀ a, V a → a < 40) {a b p q : Nat} (va : V a) (vb : V b) (vp : V p) (vq : V q) (h1 : 0 < le3 X Y a b p) (h2 : le3 X Y a b q < 0) : (0 < wsum X Y a b p q ∨ (wsum X Y a b p q = 0 ∧ min p q < min a b)) ↔ 0 < cnf X Y (hgt X Y) a b p q := by
  have ha := h40 a va; have hb := h40 b vb; have hp := h40 p vp; have hq := h40 q vq
  obtain ⟨n1, n3, n2⟩ := le3_ne (X := X) (Y := Y) (a := a) (b := b) (c := p) (by omega)
  obtain ⟨_, n5, n4⟩ := le3_ne (X := X) (Y := Y) (a := a) (b := b) (c := q) (by omega)
  have n6 : p ≠ q := fun z => by subst z; omega
  rcases Int.lt_trichotomy (wsum X Y a b p q) 0 with z | z | z
  · have := cnf_neg hX hY ha hb hp hq z; omega
  · have c1 : 0 < le3 X Y p a q := by
      rcases Int.lt_or_le 0 (le3 X Y p a q) with w | w
      · exact w
      · have := cnf_opp (cvx_0 hV) va vb vp vq h1 (by omega) w (fun y => n4 y.symm)
        rw [cnf_w] at this; omega
    have c2 : 0 < le3 X Y b p q := by
      rcases Int.lt_or_le 0 (le3 X Y b p q) with w | w
      · exact w
      · have := cnf_opp (cvx_0 hV) vb vp va vq (by rw [le3_rot]; exact h1) w (by omega) (fun y => n5 y.symm)
        rw [cnf_rot, cnf_w] at this; omega
    by_cases lq : q < a ∧ q < b ∧ q < p
    · have := (cnf_dl hX hY ha hb hp z lq.1 lq.2.1 lq.2.2).1 h1; omega
    by_cases lp : p < a ∧ p < b ∧ p < q
    · have := (cnf_al hX hY (a := p) (b := a) (c := b) ha hb hq (by rw [← wsum_rot]; exact z) lp.1 lp.2.1 lp.2.2).2 h2
      rw [← cnf_rot] at this; omega
    by_cases la : a < b ∧ a < p ∧ a < q
    · have := (cnf_al hX hY hb hp hq z la.1 la.2.1 la.2.2).1 c2; omega
    · have := (cnf_al hX hY (a := b) (b := p) (c := a) hp ha hq (by rw [wsum_rot]; exact z) (by omega) (by omega) (by omega)).1 c1
      rw [cnf_rot] at this; omega
  · have := cnf_pos hX hY ha hb hp hq z; omega
/-- the rule for a triangle that is not drawn -/
theorem drn_cnf (hX : ∀ i, -10000 ≤ X i ∧ X i ≤ 10000) (hY : ∀ i, -10000 ≤ Y i ∧ Y i ≤ 10000) {V : Nat → Prop} (hV : apart X Y V) (h40 : ∀ a, V a → a < 40) {a b c d : Nat} (va : V a) (vb : V b) (vc : V c) (vd : V d) (l1 : a < b) (l2 : a < c) (n4 : d ≠ a) (n5 : d ≠ b) (n6 : d ≠ c) (ht : 0 < le3 X Y a b c) : (0 < wsum X Y a b c d ∨ (wsum X Y a b c d = 0 ∧ (d < a ∨ le3 X Y b c d < 0))) ↔ 0 < cnf X Y (hgt X Y) a b c d := by
  have ha := h40 a va; have hb := h40 b vb; have hc := h40 c vc; have hd := h40 d vd
  obtain ⟨n1, n3, n2⟩ := le3_ne (X := X) (Y := Y) (a := a) (b := b) (c := c) (by omega)
  rcases Int.lt_trichotomy (wsum X Y a b c d) 0 with z | z | z
  · have := cnf_neg hX hY ha hb hc hd z; omega
  · have q := w0_ne hV va vb vc vd n1 n2 n3 n4.symm n5.symm n6.symm (by omega) z
    by_cases ld : d < a
    · have := (cnf_dl hX hY ha hb hc z ld (by omega) (by omega)).1 ht; omega
    · have := cnf_al hX hY hb hc hd z l1 l2 (by omega); omega
  · have := cnf_pos hX hY ha hb hc hd z; omega
end HGT
