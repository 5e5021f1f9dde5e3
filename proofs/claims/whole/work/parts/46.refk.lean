/-- a point comes to the hand: what comes() does -/
abbrev CQ : Type := QB × Nat × (Nat → Nat) × Nat × Bool
def cmO (X Y : Nat → Int) (Ro : Nat → Nat) (rn p k : Nat) : Bool := decide (trn X Y (Ro k) (Ro ((k + 1) % rn)) p < 0)
def cmB (X Y : Nat → Int) (Ro : Nat → Nat) (rn p k : Nat) : Bool := decide (trn X Y (Ro ((k + rn - 1) % rn)) (Ro k) p < 0)
def cm1 (X Y : Nat → Int) (o : Bool) (a b p : Nat) (Q : CQ) : CQ := if o = true then (hldQ X Y b a p Q.2.1 Q.1, Q.2.1 + 1, Q.2.2) else Q
def cm2 (o f : Bool) (a : Nat) (Q : CQ) : CQ := if o = true ∧ f = true then Q else (Q.1, Q.2.1, sn Q.2.2.1 Q.2.2.2.1 a, Q.2.2.2.1 + 1, Q.2.2.2.2)
def cm3 (o f : Bool) (p : Nat) (Q : CQ) : CQ := if o = true ∧ f = false ∧ Q.2.2.2.2 = false then (Q.1, Q.2.1, sn Q.2.2.1 Q.2.2.2.1 p, Q.2.2.2.1 + 1, true) else Q
def cmS (X Y : Nat → Int) (Ro : Nat → Nat) (rn p k : Nat) (Q : CQ) : CQ := cm3 (cmO X Y Ro rn p k) (cmB X Y Ro rn p k) p (cm2 (cmO X Y Ro rn p k) (cmB X Y Ro rn p k) (Ro k) (cm1 X Y (cmO X Y Ro rn p k) (Ro k) (Ro ((k + 1) % rn)) p Q))
def cmL (X Y : Nat → Int) (Ro : Nat → Nat) (rn p k : Nat) (Q : CQ) : CQ := if k < rn then cmL X Y Ro rn p (k + 1) (cmS X Y Ro rn p k Q) else Q
termination_by rn - k
theorem cmL_end {X Y : Nat → Int} {Ro : Nat → Nat} {rn p k : Nat} {Q : CQ} (h : rn ≤ k) : cmL X Y Ro rn p k Q = Q := by rw [cmL, if_neg (by omega)]
theorem cmL_go {X Y : Nat → Int} {Ro : Nat → Nat} {rn p k : Nat} {Q R : CQ} (h : k < rn) (hR : cmS X Y Ro rn p k Q = R) : cmL X Y Ro rn p k Q = cmL X Y Ro rn p (k + 1) R := by rw [cmL, if_pos h, hR]
def cmI (rn k : Nat) (Q : CQ) : Prop := QB3 Q.1 ∧ Q.2.1 + rn ≤ 120 + k ∧ (∀ i, Q.2.2.1 i < 40) ∧ Q.2.2.2.1 ≤ k + 1 ∧ (Q.2.2.2.2 = false → Q.2.2.2.1 ≤ k)
theorem cmS_b {X Y : Nat → Int} {Ro : Nat → Nat} {rn p k : Nat} {Q : CQ} (hR : ∀ i, Ro i < 40) (hp : p < 40) (hk : k < rn) (h : cmI rn k Q) : cmI rn (k + 1) (cmS X Y Ro rn p k Q) := by
  obtain ⟨h1, h2, h3, h4, h5⟩ := h
  have e1 : QB3 (cm1 X Y (cmO X Y Ro rn p k) (Ro k) (Ro ((k + 1) % rn)) p Q).1 ∧ (cm1 X Y (cmO X Y Ro rn p k) (Ro k) (Ro ((k + 1) % rn)) p Q).2.1 + rn ≤ 120 + (k + 1) ∧ (cm1 X Y (cmO X Y Ro rn p k) (Ro k) (Ro ((k + 1) % rn)) p Q).2.2 = Q.2.2 := by
    unfold cm1
    split
    · have q := nrm_lt (X := X) (Y := Y) (hR ((k + 1) % rn)) (hR k) hp
      exact ⟨insB_b q.1 q.2.1 q.2.2 _ _ h1, by show Q.2.1 + 1 + rn ≤ _; omega, rfl⟩
    · exact ⟨h1, by omega, rfl⟩
  unfold cmS
  generalize cm1 X Y (cmO X Y Ro rn p k) (Ro k) (Ro ((k + 1) % rn)) p Q = Q1 at e1
  obtain ⟨e1, e2, e3⟩ := e1
  rw [← e3] at h3 h4 h5
  have f : QB3 (cm2 (cmO X Y Ro rn p k) (cmB X Y Ro rn p k) (Ro k) Q1).1 ∧ (cm2 (cmO X Y Ro rn p k) (cmB X Y Ro rn p k) (Ro k) Q1).2.1 + rn ≤ 120 + (k + 1) ∧ (∀ i, (cm2 (cmO X Y Ro rn p k) (cmB X Y Ro rn p k) (Ro k) Q1).2.2.1 i < 40) ∧ (cm2 (cmO X Y Ro rn p k) (cmB X Y Ro rn p k) (Ro k) Q1).2.2.2.1 ≤ k + 2 ∧ ((cm2 (cmO X Y Ro rn p k) (cmB X Y Ro rn p k) (Ro k) Q1).2.2.2.2 = false → (cm2 (cmO X Y Ro rn p k) (cmB X Y Ro rn p k) (Ro k) Q1).2.2.2.1 ≤ k + 1) := by
    unfold cm2
    split
    · exact ⟨e1, e2, h3, by omega, fun z => by have := h5 z; omega⟩
    · exact ⟨e1, e2, sn_lt h3 _ (hR k), by show Q1.2.2.2.1 + 1 ≤ _; omega, fun z => by have := h5 z; show Q1.2.2.2.1 + 1 ≤ _; omega⟩
  generalize cm2 (cmO X Y Ro rn p k) (cmB X Y Ro rn p k) (Ro k) Q1 = Q2 at f
  obtain ⟨f1, f2, f3, f4, f5⟩ := f
  unfold cm3
  split
  · rename_i z
    exact ⟨f1, f2, sn_lt f3 _ hp, by have := f5 z.2.2; show Q2.2.2.2.1 + 1 ≤ _; omega, fun z => by cases z⟩
  · exact ⟨f1, f2, f3, f4, f5⟩
theorem cmL_b {X Y : Nat → Int} {Ro : Nat → Nat} {rn p : Nat} (hR : ∀ i, Ro i < 40) (hp : p < 40) : ∀ (n k : Nat) (Q : CQ), rn ≤ k + n → k ≤ rn → cmI rn k Q → cmI rn rn (cmL X Y Ro rn p k Q) := by
  intro n
  induction n with
  | zero => intro k Q h1 h2 h; rw [cmL_end (by omega)]; have : k = rn := by omega
            subst this; exact h
  | succ n ih =>
    intro k Q h1 h2 h
    rcases Nat.lt_or_ge k rn with q | q
    · rw [cmL_go q rfl]; exact ih (k + 1) _ (by omega) (by omega) (cmS_b hR hp q h)
    · rw [cmL_end q]; have : k = rn := by omega
      subst this; exact h
def cpR (Ne : Nat → Nat) (q i : Nat) (Ro : Nat → Nat) : Nat → Nat := if i < q then cpR Ne q (i + 1) (sn Ro i (Ne i)) else Ro
termination_by q - i
theorem cpR_end {Ne : Nat → Nat} {q i : Nat} {Ro : Nat → Nat} (h : q ≤ i) : cpR Ne q i Ro = Ro := by rw [cpR, if_neg (by omega)]
theorem cpR_go {Ne : Nat → Nat} {q i : Nat} {Ro : Nat → Nat} (h : i < q) : cpR Ne q i Ro = cpR Ne q (i + 1) (sn Ro i (Ne i)) := by rw [cpR, if_pos h]
theorem cpR_b {Ne : Nat → Nat} {q : Nat} (hN : ∀ i, Ne i < 40) : ∀ (k i : Nat) (Ro : Nat → Nat), q ≤ i + k → (∀ j, Ro j < 40) → ∀ j, cpR Ne q i Ro j < 40 := by
  intro k
  induction k with
  | zero => intro i Ro h hR; rw [cpR_end (by omega)]; exact hR
  | succ k ih =>
    intro i Ro h hR
    rcases Nat.lt_or_ge i q with z | z
    · rw [cpR_go z]; exact ih (i + 1) _ (by omega) (sn_lt hR _ (hN i))
    · rw [cpR_end z]; exact hR
theorem trn_ne {X Y : Nat → Int} {a b c : Nat} (h : trn X Y a b c ≠ 0) : b ≠ a ∧ a ≠ c ∧ b ≠ c := by
  refine ⟨?_, ?_, ?_⟩ <;> (intro z; subst z; apply h; unfold trn; rw [show le3 X Y _ _ _ = 0 from by unfold le3 lo; grind]; rfl)
def rCms (p : Nat) (S : RS) : RS := ((S.1.1, S.1.2.1, S.1.2.2.1, S.1.2.2.2), (S.2.1.1, S.2.1.2.1, S.2.1.2.2.1, S.2.1.2.2.2.1, S.2.1.2.2.2.2.1, S.2.1.2.2.2.2.2.1, S.2.1.2.2.2.2.2.2.1, S.2.1.2.2.2.2.2.2.2), (S.2.2.1.1, S.2.2.1.2.1, (cmL S.1.1 S.1.2.1 S.2.2.2.1.2.1 S.2.2.2.1.2.2.2 p 0 ((S.2.2.1.2.2.1, S.2.2.1.2.2.2.1, S.2.2.1.2.2.2.2.1), S.2.2.1.2.2.2.2.2.1, S.2.2.2.1.2.2.1, 0, false)).1.1, (cmL S.1.1 S.1.2.1 S.2.2.2.1.2.1 S.2.2.2.1.2.2.2 p 0 ((S.2.2.1.2.2.1, S.2.2.1.2.2.2.1, S.2.2.1.2.2.2.2.1), S.2.2.1.2.2.2.2.2.1, S.2.2.2.1.2.2.1, 0, false)).1.2.1, (cmL S.1.1 S.1.2.1 S.2.2.2.1.2.1 S.2.2.2.1.2.2.2 p 0 ((S.2.2.1.2.2.1, S.2.2.1.2.2.2.1, S.2.2.1.2.2.2.2.1), S.2.2.1.2.2.2.2.2.1, S.2.2.2.1.2.2.1, 0, false)).1.2.2, (cmL S.1.1 S.1.2.1 S.2.2.2.1.2.1 S.2.2.2.1.2.2.2 p 0 ((S.2.2.1.2.2.1, S.2.2.1.2.2.2.1, S.2.2.1.2.2.2.2.1), S.2.2.1.2.2.2.2.2.1, S.2.2.2.1.2.2.1, 0, false)).2.1, S.2.2.1.2.2.2.2.2.2), (S.2.2.2.1.1, cpR (cmL S.1.1 S.1.2.1 S.2.2.2.1.2.1 S.2.2.2.1.2.2.2 p 0 ((S.2.2.1.2.2.1, S.2.2.1.2.2.2.1, S.2.2.1.2.2.2.2.1), S.2.2.1.2.2.2.2.2.1, S.2.2.2.1.2.2.1, 0, false)).2.2.1 (cmL S.1.1 S.1.2.1 S.2.2.2.1.2.1 S.2.2.2.1.2.2.2 p 0 ((S.2.2.1.2.2.1, S.2.2.1.2.2.2.1, S.2.2.1.2.2.2.2.1), S.2.2.1.2.2.2.2.2.1, S.2.2.2.1.2.2.1, 0, false)).2.2.2.1 0 S.2.2.2.1.2.1, (cmL S.1.1 S.1.2.1 S.2.2.2.1.2.1 S.2.2.2.1.2.2.2 p 0 ((S.2.2.1.2.2.1, S.2.2.1.2.2.2.1, S.2.2.1.2.2.2.2.1), S.2.2.1.2.2.2.2.2.1, S.2.2.2.1.2.2.1, 0, false)).2.2.1, (cmL S.1.1 S.1.2.1 S.2.2.2.1.2.1 S.2.2.2.1.2.2.2 p 0 ((S.2.2.1.2.2.1, S.2.2.1.2.2.2.1, S.2.2.1.2.2.2.2.1), S.2.2.1.2.2.2.2.2.1, S.2.2.2.1.2.2.1, 0, false)).2.2.2.1), S.2.2.2.2)
theorem rCms_b {p : Nat} {S : RS} (h : RI S) (hp : p < 40) (h1 : S.2.2.1.2.2.2.2.2.1 + S.2.2.2.1.2.2.2 ≤ 120) (h2 : S.2.2.2.1.2.2.2 ≤ 78) : RI (rCms p S) := by
  obtain ⟨g1, g2, g3, g4, g5, g6, g7, g8, g9, g10, g11, g12, g13, g14, g15, g16, g17⟩ := h
  have q := cmL_b (X := S.1.1) (Y := S.1.2.1) (rn := S.2.2.2.1.2.2.2) g15 hp S.2.2.2.1.2.2.2 0 ((S.2.2.1.2.2.1, S.2.2.1.2.2.2.1, S.2.2.1.2.2.2.2.1), S.2.2.1.2.2.2.2.2.1, S.2.2.2.1.2.2.1, 0, false) (by omega) (by omega) ⟨⟨g10, g11, g12⟩, by show S.2.2.1.2.2.2.2.2.1 + _ ≤ _; omega, g16, by show 0 ≤ 1; omega, fun _ => Nat.le_refl 0⟩
  exact ⟨g1, g2, g3, g4, g5, g6, g7, g8, g9, q.1.1, q.1.2.1, q.1.2.2, by have := q.2.1; show (cmL S.1.1 S.1.2.1 S.2.2.2.1.2.1 S.2.2.2.1.2.2.2 p 0 ((S.2.2.1.2.2.1, S.2.2.1.2.2.2.1, S.2.2.1.2.2.2.2.1), S.2.2.1.2.2.2.2.2.1, S.2.2.2.1.2.2.1, 0, false)).2.1 ≤ 120; omega, g14, cpR_b q.2.2.1 (cmL S.1.1 S.1.2.1 S.2.2.2.1.2.1 S.2.2.2.1.2.2.2 p 0 ((S.2.2.1.2.2.1, S.2.2.1.2.2.2.1, S.2.2.1.2.2.2.2.1), S.2.2.1.2.2.2.2.2.1, S.2.2.2.1.2.2.1, 0, false)).2.2.2.1 0 _ (by omega) g15, q.2.2.1, by have := q.2.2.2.1; show (cmL S.1.1 S.1.2.1 S.2.2.2.1.2.1 S.2.2.2.1.2.2.2 p 0 ((S.2.2.1.2.2.1, S.2.2.1.2.2.2.1, S.2.2.1.2.2.2.2.1), S.2.2.1.2.2.2.2.2.1, S.2.2.2.1.2.2.1, 0, false)).2.2.2.1 ≤ 80; omega⟩
section REFK
variable {l : Launch} {D : va_G} {cI cZ : ClassId} {qq r0 rx ry rt rh ra rb rc sa sb sc so sr sw : Nat} {Px Py : Nat → Int} {Mt : Nat → Bool} {pn : Nat} {kn fl : Bool} {Hu : Nat → Nat} {hn : Nat} {A1 A2 A3 : Nat → Nat} {mn : Nat} {hd sd : Bool} {B1 B2 B3 : Nat → Nat} {hh fp : Nat} {Or Ro Ne : Nat → Nat} {rn : Nat} {Mr : Nat → Nat}
set_option maxRecDepth 20000 in
theorem lp_X4_comes_170 {p : Program} {e : Env} {s : State} {m : MethodId} {args : Array Value} {below : List Frame} {meth : Method} {c : Code} {WC : va_W} {pp q : Nat} {pl : Bool} (C : CallFix p m c cX4_comes 10 s args TB RX4) (hlk : meth.locks = false) (hr : meth.sig.returnType = none) (hK : va_K D vwCl (tyz cI cZ) s) (hRI : RI ((Px, Py, Mt, pn), (kn, fl, Hu, hn, A1, A2, A3, mn), (hd, sd, B1, B2, B3, hh, fp), (Or, Ro, Ne, rn), Mr)) (hq : q ≤ 79) :
    ∀ (n : Nat) (i : Nat) (Ro : Nat → Nat), q < i + n → i ≤ q → (∀ i, Ro i < 40) → ∀ (Rf : Nat → Nat), Rf = cpR Ne q i Ro → ∀ (H : Heap) (locs : List Loc), va_P D vwCl [(qq, .inr (4, [.ref r0, .ref rx, .ref ry, .ref rt, .int (J ((pn : Nat) : Int)), .int (J (b2i (kn))), .int (J (b2i (fl))), .ref rh, .ref ra, .ref rb, .ref rc, .int (J ((hn : Nat) : Int)), .int (J ((mn : Nat) : Int)), .int (J (b2i (hd))), .int (J (b2i (sd))), .ref sa, .ref sb, .ref sc, .int (J ((hh : Nat) : Int)), .int (J ((fp : Nat) : Int)), .ref so, .ref sr, .ref sw, .int (J ((rn : Nat) : Int))])), (r0, .inl (cI, 7, .inl (fun z9 => J ((Mr z9 : Nat) : Int)))), (rx, .inl (cI, 40, .inl (fun z9 => J (Px z9)))), (ry, .inl (cI, 40, .inl (fun z9 => J (Py z9)))), (rt, .inl (cZ, 40, .inl (fun z9 => J (b2i (Mt z9))))), (rh, .inl (cI, 41, .inl (fun z9 => J ((Hu z9 : Nat) : Int)))), (ra, .inl (cI, 120, .inl (fun z9 => J ((A1 z9 : Nat) : Int)))), (rb, .inl (cI, 120, .inl (fun z9 => J ((A2 z9 : Nat) : Int)))), (rc, .inl (cI, 120, .inl (fun z9 => J ((A3 z9 : Nat) : Int)))), (sa, .inl (cI, 120, .inl (fun z9 => J ((B1 z9 : Nat) : Int)))), (sb, .inl (cI, 120, .inl (fun z9 => J ((B2 z9 : Nat) : Int)))), (sc, .inl (cI, 120, .inl (fun z9 => J ((B3 z9 : Nat) : Int)))), (so, .inl (cI, 40, .inl (fun z9 => J ((Or z9 : Nat) : Int)))), (sr, .inl (cI, 80, .inl (fun z9 => J ((Ro z9 : Nat) : Int)))), (sw, .inl (cI, 80, .inl (fun z9 => J ((Ne z9 : Nat) : Int))))] H → va_D (inW WC) [(qq, .inr (4, [.ref r0, .ref rx, .ref ry, .ref rt, .int (J ((pn : Nat) : Int)), .int (J (b2i (kn))), .int (J (b2i (fl))), .ref rh, .ref ra, .ref rb, .ref rc, .int (J ((hn : Nat) : Int)), .int (J ((mn : Nat) : Int)), .int (J (b2i (hd))), .int (J (b2i (sd))), .ref sa, .ref sb, .ref sc, .int (J ((hh : Nat) : Int)), .int (J ((fp : Nat) : Int)), .ref so, .ref sr, .ref sw, .int (J ((rn : Nat) : Int))])), (r0, .inl (cI, 7, .inl (fun z9 => J ((Mr z9 : Nat) : Int)))), (rx, .inl (cI, 40, .inl (fun z9 => J (Px z9)))), (ry, .inl (cI, 40, .inl (fun z9 => J (Py z9)))), (rt, .inl (cZ, 40, .inl (fun z9 => J (b2i (Mt z9))))), (rh, .inl (cI, 41, .inl (fun z9 => J ((Hu z9 : Nat) : Int)))), (ra, .inl (cI, 120, .inl (fun z9 => J ((A1 z9 : Nat) : Int)))), (rb, .inl (cI, 120, .inl (fun z9 => J ((A2 z9 : Nat) : Int)))), (rc, .inl (cI, 120, .inl (fun z9 => J ((A3 z9 : Nat) : Int)))), (sa, .inl (cI, 120, .inl (fun z9 => J ((B1 z9 : Nat) : Int)))), (sb, .inl (cI, 120, .inl (fun z9 => J ((B2 z9 : Nat) : Int)))), (sc, .inl (cI, 120, .inl (fun z9 => J ((B3 z9 : Nat) : Int)))), (so, .inl (cI, 40, .inl (fun z9 => J ((Or z9 : Nat) : Int)))), (sr, .inl (cI, 80, .inl (fun z9 => J ((Ro z9 : Nat) : Int)))), (sw, .inl (cI, 80, .inl (fun z9 => J ((Ne z9 : Nat) : Int))))] → va_S (inW WC) s.heap H locs → ∀ ls : Array Slot, lv_has ls 10 [(0, .ref qq), (1, .int (J ((pp : Nat) : Int))), (2, .int (J ((q : Nat) : Int))), (3, .int (J (b2i (pl)))), (4, .int (J ((i : Nat) : Int)))] → W p l e { frames := 7, cells := 0, slots := 0, locals := 165 } s m args below meth c H locs 0 0 (MQ below (QW D WC (wRS cI cZ qq r0 rx ry rt rh ra rb rc sa sb sc so sr sw ((Px, Py, Mt, pn), (kn, fl, Hu, hn, A1, A2, A3, mn), (hd, sd, B1, B2, B3, hh, fp), (Or, Rf, Ne, q), Mr)) none) args s 0 0 (inW WC)) (F0 m 170 ls []) := by
  have hX : ∀ i, -10000 ≤ Px i ∧ Px i ≤ 10000 := hRI.1
  have hY : ∀ i, -10000 ≤ Py i ∧ Py i ≤ 10000 := hRI.2.1
  have hpn : pn ≤ 40 := hRI.2.2.1
  have hHu : ∀ i, Hu i < 40 := hRI.2.2.2.1
  have hhn : hn ≤ 41 := hRI.2.2.2.2.1
  have hA1 : ∀ i, A1 i < 40 := hRI.2.2.2.2.2.1
  have hA2 : ∀ i, A2 i < 40 := hRI.2.2.2.2.2.2.1
  have hA3 : ∀ i, A3 i < 40 := hRI.2.2.2.2.2.2.2.1
  have hmn : mn ≤ 120 := hRI.2.2.2.2.2.2.2.2.1
  have hB1 : ∀ i, B1 i < 40 := hRI.2.2.2.2.2.2.2.2.2.1
  have hB2 : ∀ i, B2 i < 40 := hRI.2.2.2.2.2.2.2.2.2.2.1
  have hB3 : ∀ i, B3 i < 40 := hRI.2.2.2.2.2.2.2.2.2.2.2.1
  have hhh : hh ≤ 120 := hRI.2.2.2.2.2.2.2.2.2.2.2.2.1
  have hOr : ∀ i, Or i < 40 := hRI.2.2.2.2.2.2.2.2.2.2.2.2.2.1
  have hNe : ∀ i, Ne i < 40 := hRI.2.2.2.2.2.2.2.2.2.2.2.2.2.2.2.1
  have hrn : rn ≤ 80 := hRI.2.2.2.2.2.2.2.2.2.2.2.2.2.2.2.2
  intro n
  induction n with
  | zero => intro i Ro hi0 hi1 hRo; omega
  | succ n ih =>
    intro i Ro hi0 hi1 hRo Rf hRf H locs hP hD hS ls hl
    refine lv_iload C.1 C.2.1 dX4_comes_170 (lv_at hl 4 rfl) ?_
    refine lv_iload_n C.1 C.2.1 dX4_comes_172 rfl (lv_at hl 2 rfl) ?_
    refine jv_icmp_ge (tgt := 196) C dX4_comes_173 (by decide) (by omega) (fun h1 => ?_) (fun h1 => ?_)
    · refine lv_aload_n C.1 C.2.1 dX4_comes_196 rfl (lv_at hl 0 rfl) ?_
      refine lv_iload_n C.1 C.2.1 dX4_comes_197 rfl (lv_at hl 2 rfl) ?_
      refine jv_put C fw_X4_192 fp_X4 hK hP hD hS 0 rfl rfl rfl rfl (Nat.le_of_ble_eq_true rfl) dX4_comes_198 (fun H locs hP hD hS => ?_)
      have hP : va_P D vwCl [(qq, .inr (4, [.ref r0, .ref rx, .ref ry, .ref rt, .int (J ((pn : Nat) : Int)), .int (J (b2i (kn))), .int (J (b2i (fl))), .ref rh, .ref ra, .ref rb, .ref rc, .int (J ((hn : Nat) : Int)), .int (J ((mn : Nat) : Int)), .int (J (b2i (hd))), .int (J (b2i (sd))), .ref sa, .ref sb, .ref sc, .int (J ((hh : Nat) : Int)), .int (J ((fp : Nat) : Int)), .ref so, .ref sr, .ref sw, .int (J ((q : Nat) : Int))])), (r0, .inl (cI, 7, .inl (fun z9 => J ((Mr z9 : Nat) : Int)))), (rx, .inl (cI, 40, .inl (fun z9 => J (Px z9)))), (ry, .inl (cI, 40, .inl (fun z9 => J (Py z9)))), (rt, .inl (cZ, 40, .inl (fun z9 => J (b2i (Mt z9))))), (rh, .inl (cI, 41, .inl (fun z9 => J ((Hu z9 : Nat) : Int)))), (ra, .inl (cI, 120, .inl (fun z9 => J ((A1 z9 : Nat) : Int)))), (rb, .inl (cI, 120, .inl (fun z9 => J ((A2 z9 : Nat) : Int)))), (rc, .inl (cI, 120, .inl (fun z9 => J ((A3 z9 : Nat) : Int)))), (sa, .inl (cI, 120, .inl (fun z9 => J ((B1 z9 : Nat) : Int)))), (sb, .inl (cI, 120, .inl (fun z9 => J ((B2 z9 : Nat) : Int)))), (sc, .inl (cI, 120, .inl (fun z9 => J ((B3 z9 : Nat) : Int)))), (so, .inl (cI, 40, .inl (fun z9 => J ((Or z9 : Nat) : Int)))), (sr, .inl (cI, 80, .inl (fun z9 => J ((Ro z9 : Nat) : Int)))), (sw, .inl (cI, 80, .inl (fun z9 => J ((Ne z9 : Nat) : Int))))] H := hP
      have hD : va_D _ [(qq, .inr (4, [.ref r0, .ref rx, .ref ry, .ref rt, .int (J ((pn : Nat) : Int)), .int (J (b2i (kn))), .int (J (b2i (fl))), .ref rh, .ref ra, .ref rb, .ref rc, .int (J ((hn : Nat) : Int)), .int (J ((mn : Nat) : Int)), .int (J (b2i (hd))), .int (J (b2i (sd))), .ref sa, .ref sb, .ref sc, .int (J ((hh : Nat) : Int)), .int (J ((fp : Nat) : Int)), .ref so, .ref sr, .ref sw, .int (J ((q : Nat) : Int))])), (r0, .inl (cI, 7, .inl (fun z9 => J ((Mr z9 : Nat) : Int)))), (rx, .inl (cI, 40, .inl (fun z9 => J (Px z9)))), (ry, .inl (cI, 40, .inl (fun z9 => J (Py z9)))), (rt, .inl (cZ, 40, .inl (fun z9 => J (b2i (Mt z9))))), (rh, .inl (cI, 41, .inl (fun z9 => J ((Hu z9 : Nat) : Int)))), (ra, .inl (cI, 120, .inl (fun z9 => J ((A1 z9 : Nat) : Int)))), (rb, .inl (cI, 120, .inl (fun z9 => J ((A2 z9 : Nat) : Int)))), (rc, .inl (cI, 120, .inl (fun z9 => J ((A3 z9 : Nat) : Int)))), (sa, .inl (cI, 120, .inl (fun z9 => J ((B1 z9 : Nat) : Int)))), (sb, .inl (cI, 120, .inl (fun z9 => J ((B2 z9 : Nat) : Int)))), (sc, .inl (cI, 120, .inl (fun z9 => J ((B3 z9 : Nat) : Int)))), (so, .inl (cI, 40, .inl (fun z9 => J ((Or z9 : Nat) : Int)))), (sr, .inl (cI, 80, .inl (fun z9 => J ((Ro z9 : Nat) : Int)))), (sw, .inl (cI, 80, .inl (fun z9 => J ((Ne z9 : Nat) : Int))))] := hD
      exact jw_vret C hlk hr dX4_comes_201 (by rw [hRf, cpR_end (by omega)]; exact hP) hS
    · refine lv_aload_n C.1 C.2.1 dX4_comes_176 rfl (lv_at hl 0 rfl) ?_
      refine jv_get C fw_X4_47 hK hP 0 rfl rfl dX4_comes_177 ?_
      refine lv_iload C.1 C.2.1 dX4_comes_180 (lv_at hl 4 rfl) ?_
      refine lv_aload_n C.1 C.2.1 dX4_comes_182 rfl (lv_at hl 0 rfl) ?_
      refine jv_get C fw_X4_50 hK hP 0 rfl rfl dX4_comes_183 ?_
      refine lv_iload C.1 C.2.1 dX4_comes_186 (lv_at hl 4 rfl) ?_
      refine jv_iald C hK hP 14 0 rfl rfl (i) (by omega) (by omega) (by decide) dX4_comes_188 ?_
      have f2 := hNe i
      refine jv_iast (G := fun z9 => (((sn Ro i (Ne i)) z9 : Nat) : Int)) C hK hP hD hS 13 0 rfl rfl (i) (by omega) (by omega) (by decide) (sn_nat Ro i (Ne i)) dX4_comes_189 (fun H locs hP hD hS => ?_)
      have hP : va_P D vwCl [(qq, .inr (4, [.ref r0, .ref rx, .ref ry, .ref rt, .int (J ((pn : Nat) : Int)), .int (J (b2i (kn))), .int (J (b2i (fl))), .ref rh, .ref ra, .ref rb, .ref rc, .int (J ((hn : Nat) : Int)), .int (J ((mn : Nat) : Int)), .int (J (b2i (hd))), .int (J (b2i (sd))), .ref sa, .ref sb, .ref sc, .int (J ((hh : Nat) : Int)), .int (J ((fp : Nat) : Int)), .ref so, .ref sr, .ref sw, .int (J ((rn : Nat) : Int))])), (r0, .inl (cI, 7, .inl (fun z9 => J ((Mr z9 : Nat) : Int)))), (rx, .inl (cI, 40, .inl (fun z9 => J (Px z9)))), (ry, .inl (cI, 40, .inl (fun z9 => J (Py z9)))), (rt, .inl (cZ, 40, .inl (fun z9 => J (b2i (Mt z9))))), (rh, .inl (cI, 41, .inl (fun z9 => J ((Hu z9 : Nat) : Int)))), (ra, .inl (cI, 120, .inl (fun z9 => J ((A1 z9 : Nat) : Int)))), (rb, .inl (cI, 120, .inl (fun z9 => J ((A2 z9 : Nat) : Int)))), (rc, .inl (cI, 120, .inl (fun z9 => J ((A3 z9 : Nat) : Int)))), (sa, .inl (cI, 120, .inl (fun z9 => J ((B1 z9 : Nat) : Int)))), (sb, .inl (cI, 120, .inl (fun z9 => J ((B2 z9 : Nat) : Int)))), (sc, .inl (cI, 120, .inl (fun z9 => J ((B3 z9 : Nat) : Int)))), (so, .inl (cI, 40, .inl (fun z9 => J ((Or z9 : Nat) : Int)))), (sr, .inl (cI, 80, .inl (fun z9 => J (((sn Ro i (Ne i)) z9 : Nat) : Int)))), (sw, .inl (cI, 80, .inl (fun z9 => J ((Ne z9 : Nat) : Int))))] H := hP
      have hD : va_D _ [(qq, .inr (4, [.ref r0, .ref rx, .ref ry, .ref rt, .int (J ((pn : Nat) : Int)), .int (J (b2i (kn))), .int (J (b2i (fl))), .ref rh, .ref ra, .ref rb, .ref rc, .int (J ((hn : Nat) : Int)), .int (J ((mn : Nat) : Int)), .int (J (b2i (hd))), .int (J (b2i (sd))), .ref sa, .ref sb, .ref sc, .int (J ((hh : Nat) : Int)), .int (J ((fp : Nat) : Int)), .ref so, .ref sr, .ref sw, .int (J ((rn : Nat) : Int))])), (r0, .inl (cI, 7, .inl (fun z9 => J ((Mr z9 : Nat) : Int)))), (rx, .inl (cI, 40, .inl (fun z9 => J (Px z9)))), (ry, .inl (cI, 40, .inl (fun z9 => J (Py z9)))), (rt, .inl (cZ, 40, .inl (fun z9 => J (b2i (Mt z9))))), (rh, .inl (cI, 41, .inl (fun z9 => J ((Hu z9 : Nat) : Int)))), (ra, .inl (cI, 120, .inl (fun z9 => J ((A1 z9 : Nat) : Int)))), (rb, .inl (cI, 120, .inl (fun z9 => J ((A2 z9 : Nat) : Int)))), (rc, .inl (cI, 120, .inl (fun z9 => J ((A3 z9 : Nat) : Int)))), (sa, .inl (cI, 120, .inl (fun z9 => J ((B1 z9 : Nat) : Int)))), (sb, .inl (cI, 120, .inl (fun z9 => J ((B2 z9 : Nat) : Int)))), (sc, .inl (cI, 120, .inl (fun z9 => J ((B3 z9 : Nat) : Int)))), (so, .inl (cI, 40, .inl (fun z9 => J ((Or z9 : Nat) : Int)))), (sr, .inl (cI, 80, .inl (fun z9 => J (((sn Ro i (Ne i)) z9 : Nat) : Int)))), (sw, .inl (cI, 80, .inl (fun z9 => J ((Ne z9 : Nat) : Int))))] := hD
      have hRo := sn_lt hRo i (z := Ne i) (by omega)
      refine lv_iinc (v := J (((i + 1 : Nat) : Int))) (lv' := [(4, .int (J ((i + 1 : Nat) : Int))), (0, .ref qq), (1, .int (J ((pp : Nat) : Int))), (2, .int (J ((q : Nat) : Int))), (3, .int (J (b2i (pl))))]) C.1 C.2.1 dX4_comes_190 hl (k := 4) rfl (by rw [show Int32.ofInt 1 = J 1 from rfl, J_add]; exact congrArg J (by omega)) (by decide) rfl (fun ls hl => ?_)
      refine lv_goto (tgt := 170) C.1 C.2.1 dX4_comes_193 (by decide) ?_
      exact ih (i + 1) (sn Ro i (Ne i)) (by omega) (by omega) hRo Rf (by rw [hRf, cpR_go (by omega)]) H locs hP hD hS ls (lv_sub hl [1, 2, 3, 4, 0] rfl)
set_option maxRecDepth 20000 in
theorem lp_X4_comes_7 {p : Program} {e : Env} {s : State} {m : MethodId} {args : Array Value} {below : List Frame} {meth : Method} {c : Code} {WC : va_W} {pp : Nat} (C : CallFix p m c cX4_comes 10 s args TB RX4) (hlk : meth.locks = false) (hr : meth.sig.returnType = none) (hK : va_K D vwCl (tyz cI cZ) s) (hRI : RI ((Px, Py, Mt, pn), (kn, fl, Hu, hn, A1, A2, A3, mn), (hd, sd, B1, B2, B3, hh, fp), (Or, Ro, Ne, rn), Mr)) (hpp : pp < 40) (hr78 : rn ≤ 78) :
    ∀ (n : Nat) (i : Nat) (B1 B2 B3 : Nat → Nat) (hh : Nat) (Ne : Nat → Nat) (q : Nat) (pl : Bool), rn < i + n → i ≤ rn → (∀ i, B1 i < 40) → (∀ i, B2 i < 40) → (∀ i, B3 i < 40) → (∀ i, Ne i < 40) → hh + rn ≤ 120 + i → q ≤ i + 1 → (pl = false → q ≤ i) → ∀ (Rf : CQ), Rf = cmL Px Py Ro rn pp i ((B1, B2, B3), hh, Ne, q, pl) → ∀ (H : Heap) (locs : List Loc), va_P D vwCl [(qq, .inr (4, [.ref r0, .ref rx, .ref ry, .ref rt, .int (J ((pn : Nat) : Int)), .int (J (b2i (kn))), .int (J (b2i (fl))), .ref rh, .ref ra, .ref rb, .ref rc, .int (J ((hn : Nat) : Int)), .int (J ((mn : Nat) : Int)), .int (J (b2i (hd))), .int (J (b2i (sd))), .ref sa, .ref sb, .ref sc, .int (J ((hh : Nat) : Int)), .int (J ((fp : Nat) : Int)), .ref so, .ref sr, .ref sw, .int (J ((rn : Nat) : Int))])), (r0, .inl (cI, 7, .inl (fun z9 => J ((Mr z9 : Nat) : Int)))), (rx, .inl (cI, 40, .inl (fun z9 => J (Px z9)))), (ry, .inl (cI, 40, .inl (fun z9 => J (Py z9)))), (rt, .inl (cZ, 40, .inl (fun z9 => J (b2i (Mt z9))))), (rh, .inl (cI, 41, .inl (fun z9 => J ((Hu z9 : Nat) : Int)))), (ra, .inl (cI, 120, .inl (fun z9 => J ((A1 z9 : Nat) : Int)))), (rb, .inl (cI, 120, .inl (fun z9 => J ((A2 z9 : Nat) : Int)))), (rc, .inl (cI, 120, .inl (fun z9 => J ((A3 z9 : Nat) : Int)))), (sa, .inl (cI, 120, .inl (fun z9 => J ((B1 z9 : Nat) : Int)))), (sb, .inl (cI, 120, .inl (fun z9 => J ((B2 z9 : Nat) : Int)))), (sc, .inl (cI, 120, .inl (fun z9 => J ((B3 z9 : Nat) : Int)))), (so, .inl (cI, 40, .inl (fun z9 => J ((Or z9 : Nat) : Int)))), (sr, .inl (cI, 80, .inl (fun z9 => J ((Ro z9 : Nat) : Int)))), (sw, .inl (cI, 80, .inl (fun z9 => J ((Ne z9 : Nat) : Int))))] H → va_D (inW WC) [(qq, .inr (4, [.ref r0, .ref rx, .ref ry, .ref rt, .int (J ((pn : Nat) : Int)), .int (J (b2i (kn))), .int (J (b2i (fl))), .ref rh, .ref ra, .ref rb, .ref rc, .int (J ((hn : Nat) : Int)), .int (J ((mn : Nat) : Int)), .int (J (b2i (hd))), .int (J (b2i (sd))), .ref sa, .ref sb, .ref sc, .int (J ((hh : Nat) : Int)), .int (J ((fp : Nat) : Int)), .ref so, .ref sr, .ref sw, .int (J ((rn : Nat) : Int))])), (r0, .inl (cI, 7, .inl (fun z9 => J ((Mr z9 : Nat) : Int)))), (rx, .inl (cI, 40, .inl (fun z9 => J (Px z9)))), (ry, .inl (cI, 40, .inl (fun z9 => J (Py z9)))), (rt, .inl (cZ, 40, .inl (fun z9 => J (b2i (Mt z9))))), (rh, .inl (cI, 41, .inl (fun z9 => J ((Hu z9 : Nat) : Int)))), (ra, .inl (cI, 120, .inl (fun z9 => J ((A1 z9 : Nat) : Int)))), (rb, .inl (cI, 120, .inl (fun z9 => J ((A2 z9 : Nat) : Int)))), (rc, .inl (cI, 120, .inl (fun z9 => J ((A3 z9 : Nat) : Int)))), (sa, .inl (cI, 120, .inl (fun z9 => J ((B1 z9 : Nat) : Int)))), (sb, .inl (cI, 120, .inl (fun z9 => J ((B2 z9 : Nat) : Int)))), (sc, .inl (cI, 120, .inl (fun z9 => J ((B3 z9 : Nat) : Int)))), (so, .inl (cI, 40, .inl (fun z9 => J ((Or z9 : Nat) : Int)))), (sr, .inl (cI, 80, .inl (fun z9 => J ((Ro z9 : Nat) : Int)))), (sw, .inl (cI, 80, .inl (fun z9 => J ((Ne z9 : Nat) : Int))))] → va_S (inW WC) s.heap H locs → ∀ ls : Array Slot, lv_has ls 10 [(0, .ref qq), (1, .int (J ((pp : Nat) : Int))), (2, .int (J ((q : Nat) : Int))), (3, .int (J (b2i (pl)))), (4, .int (J ((i : Nat) : Int)))] → W p l e { frames := 7, cells := 0, slots := 0, locals := 165 } s m args below meth c H locs 0 0 (MQ below (QW D WC (wRS cI cZ qq r0 rx ry rt rh ra rb rc sa sb sc so sr sw ((Px, Py, Mt, pn), (kn, fl, Hu, hn, A1, A2, A3, mn), (hd, sd, Rf.1.1, Rf.1.2.1, Rf.1.2.2, Rf.2.1, fp), (Or, (cpR Rf.2.2.1 Rf.2.2.2.1 0 Ro), Rf.2.2.1, Rf.2.2.2.1), Mr)) none) args s 0 0 (inW WC)) (F0 m 7 ls []) := by
  have hX : ∀ i, -10000 ≤ Px i ∧ Px i ≤ 10000 := hRI.1
  have hY : ∀ i, -10000 ≤ Py i ∧ Py i ≤ 10000 := hRI.2.1
  have hpn : pn ≤ 40 := hRI.2.2.1
  have hHu : ∀ i, Hu i < 40 := hRI.2.2.2.1
  have hhn : hn ≤ 41 := hRI.2.2.2.2.1
  have hA1 : ∀ i, A1 i < 40 := hRI.2.2.2.2.2.1
  have hA2 : ∀ i, A2 i < 40 := hRI.2.2.2.2.2.2.1
  have hA3 : ∀ i, A3 i < 40 := hRI.2.2.2.2.2.2.2.1
  have hmn : mn ≤ 120 := hRI.2.2.2.2.2.2.2.2.1
  have hOr : ∀ i, Or i < 40 := hRI.2.2.2.2.2.2.2.2.2.2.2.2.2.1
  have hRo : ∀ i, Ro i < 40 := hRI.2.2.2.2.2.2.2.2.2.2.2.2.2.2.1
  have hrn : rn ≤ 80 := hRI.2.2.2.2.2.2.2.2.2.2.2.2.2.2.2.2
  intro n
  induction n with
  | zero => intro i B1 B2 B3 hh Ne q pl hi0 hi1 hB1 hB2 hB3 hNe hi6 hi7 hi8; omega
  | succ n ih =>
    intro i B1 B2 B3 hh Ne q pl hi0 hi1 hB1 hB2 hB3 hNe hi6 hi7 hi8 Rf hRf H locs hP hD hS ls hl
    have hRI : RI ((Px, Py, Mt, pn), (kn, fl, Hu, hn, A1, A2, A3, mn), (hd, sd, B1, B2, B3, hh, fp), (Or, Ro, Ne, rn), Mr) := ⟨hX, hY, hpn, hHu, hhn, hA1, hA2, hA3, hmn, hB1, hB2, hB3, by show hh ≤ 120; omega, hOr, hRo, hNe, hrn⟩
    refine lv_iload C.1 C.2.1 dX4_comes_7 (lv_at hl 4 rfl) ?_
    refine lv_aload_n C.1 C.2.1 dX4_comes_9 rfl (lv_at hl 0 rfl) ?_
    refine jv_get C fw_X4_192 hK hP 0 rfl rfl dX4_comes_10 ?_
    refine jv_icmp_ge (tgt := 167) C dX4_comes_13 (by decide) (by omega) (fun h1 => ?_) (fun h1 => ?_)
    · refine jv_iconst C dX4_comes_167 ?_
      refine lv_istore (lv' := [(4, .int (J 0)), (0, .ref qq), (1, .int (J ((pp : Nat) : Int))), (2, .int (J ((q : Nat) : Int))), (3, .int (J (b2i (pl))))]) C.1 C.2.1 dX4_comes_168 hl (by decide) rfl (fun ls hl => ?_)
      have hFe : Rf = ((B1, B2, B3), hh, Ne, q, pl) := by rw [hRf, cmL_end (by omega)]
      subst hFe
      exact lp_X4_comes_170 (q := q) C hlk hr hK hRI (by omega) (q + 1) 0 Ro (by omega) (by omega) hRo _ rfl H locs hP hD hS ls (lv_sub hl [1, 2, 3, 4, 0] rfl)
    · have hm1 : (i + 1) % rn < rn := Nat.mod_lt _ (by omega)
      have hm2 : (i + rn - 1) % rn < rn := Nat.mod_lt _ (by omega)
      refine lv_aload_n C.1 C.2.1 dX4_comes_16 rfl (lv_at hl 0 rfl) ?_
      refine jv_get C fw_X4_47 hK hP 0 rfl rfl dX4_comes_17 ?_
      refine lv_iload C.1 C.2.1 dX4_comes_20 (lv_at hl 4 rfl) ?_
      refine jv_iald C hK hP 13 0 rfl rfl (i) (by omega) (by omega) (by decide) dX4_comes_22 ?_
      have f2 := hRo i
      refine lv_istore (lv' := [(5, .int (J ((Ro i : Nat) : Int))), (0, .ref qq), (1, .int (J ((pp : Nat) : Int))), (2, .int (J ((q : Nat) : Int))), (3, .int (J (b2i (pl)))), (4, .int (J ((i : Nat) : Int)))]) C.1 C.2.1 dX4_comes_23 hl (by decide) rfl (fun ls hl => ?_)
      refine lv_aload_n C.1 C.2.1 dX4_comes_25 rfl (lv_at hl 1 rfl) ?_
      refine jv_get C fw_X4_47 hK hP 0 rfl rfl dX4_comes_26 ?_
      refine lv_iload C.1 C.2.1 dX4_comes_29 (lv_at hl 5 rfl) ?_
      refine jv_iconst C dX4_comes_31 ?_
      refine jv_iadd (z := ((i + 1 : Nat) : Int)) C dX4_comes_32 (by omega) ?_
      refine lv_aload_n C.1 C.2.1 dX4_comes_33 rfl (lv_at hl 1 rfl) ?_
      refine jv_get C fw_X4_192 hK hP 0 rfl rfl dX4_comes_34 ?_
      refine jv_irem (a := i + 1) (b := rn) C dX4_comes_37 (by omega) (by omega) (by omega) ?_
      refine jv_iald C hK hP 13 0 rfl rfl ((i + 1) % rn) (by omega) (by omega) (by decide) dX4_comes_38 ?_
      have f3 := hRo ((i + 1) % rn)
      refine lv_istore (lv' := [(6, .int (J ((Ro ((i + 1) % rn) : Nat) : Int))), (5, .int (J ((Ro i : Nat) : Int))), (0, .ref qq), (1, .int (J ((pp : Nat) : Int))), (2, .int (J ((q : Nat) : Int))), (3, .int (J (b2i (pl)))), (4, .int (J ((i : Nat) : Int)))]) C.1 C.2.1 dX4_comes_39 hl (by decide) rfl (fun ls hl => ?_)
      refine lv_aload_n C.1 C.2.1 dX4_comes_41 rfl (lv_at hl 2 rfl) ?_
      refine jv_get C fw_X4_47 hK hP 0 rfl rfl dX4_comes_42 ?_
      refine lv_iload C.1 C.2.1 dX4_comes_45 (lv_at hl 6 rfl) ?_
      refine lv_aload_n C.1 C.2.1 dX4_comes_47 rfl (lv_at hl 2 rfl) ?_
      refine jv_get C fw_X4_192 hK hP 0 rfl rfl dX4_comes_48 ?_
      refine jv_iadd (z := ((i + rn : Nat) : Int)) C dX4_comes_51 (by omega) ?_
      refine jv_iconst C dX4_comes_52 ?_
      refine jv_isub (z := (((i + rn) - 1 : Nat) : Int)) C dX4_comes_53 (by omega) ?_
      refine lv_aload_n C.1 C.2.1 dX4_comes_54 rfl (lv_at hl 2 rfl) ?_
      refine jv_get C fw_X4_192 hK hP 0 rfl rfl dX4_comes_55 ?_
      refine jv_irem (a := (i + rn) - 1) (b := rn) C dX4_comes_58 (by omega) (by omega) (by omega) ?_
      refine jv_iald C hK hP 13 0 rfl rfl (((i + rn) - 1) % rn) (by omega) (by omega) (by decide) dX4_comes_59 ?_
      have f4 := hRo (((i + rn) - 1) % rn)
      refine lv_istore (lv' := [(7, .int (J ((Ro (((i + rn) - 1) % rn) : Nat) : Int))), (6, .int (J ((Ro ((i + 1) % rn) : Nat) : Int))), (5, .int (J ((Ro i : Nat) : Int))), (0, .ref qq), (1, .int (J ((pp : Nat) : Int))), (2, .int (J ((q : Nat) : Int))), (3, .int (J (b2i (pl)))), (4, .int (J ((i : Nat) : Int)))]) C.1 C.2.1 dX4_comes_60 hl (by decide) rfl (fun ls hl => ?_)
      refine lv_aload_n C.1 C.2.1 dX4_comes_62 rfl (lv_at hl 3 rfl) ?_
      refine lv_iload C.1 C.2.1 dX4_comes_63 (lv_at hl 2 rfl) ?_
      refine lv_iload C.1 C.2.1 dX4_comes_65 (lv_at hl 1 rfl) ?_
      refine lv_iload_n C.1 C.2.1 dX4_comes_67 rfl (lv_at hl 4 rfl) ?_
      refine jv_rdV (ni := 3) (ci := 4) (q0 := 0) C [.int (J ((Ro i : Nat) : Int)), .int (J ((Ro ((i + 1) % rn) : Nat) : Int)), .int (J ((pp : Nat) : Int))] [] (c_X4_turns (Px := Px) (Py := Py) (Mt := Mt) (pn := pn) (kn := kn) (fl := fl) (Hu := Hu) (hn := hn) (A1 := A1) (A2 := A2) (A3 := A3) (mn := mn) (hd := hd) (sd := sd) (B1 := B1) (B2 := B2) (B3 := B3) (hh := hh) (fp := fp) (Or := Or) (Ro := Ro) (Ne := Ne) (rn := rn) (Mr := Mr) hRI (a := Ro i) (b := Ro ((i + 1) % rn)) (k := pp) (by omega) (by omega) (by omega)) gv_X4_95 (by decide +kernel) (by decide) hK (hP) rfl rfl rfl hl.1 (by simp [Value.category]) dX4_comes_68 (by decide) ?_ rfl
      show W _ _ _ _ _ _ _ _ _ _ _ _ _ _ _ (F0 m 71 ls [.int (J (trn Px Py (Ro i) (Ro ((i + 1) % rn)) pp))])
      have f5 := trn_R Px Py (Ro i) (Ro ((i + 1) % rn)) pp
      refine jv_if_ge (tgt := 78) C dX4_comes_71 (by decide) (by omega) (fun h6 => ?_) (fun h6 => ?_)
      · refine jv_iconst C dX4_comes_78 ?_
        refine lv_istore (lv' := [(8, .int (J 0)), (7, .int (J ((Ro (((i + rn) - 1) % rn) : Nat) : Int))), (6, .int (J ((Ro ((i + 1) % rn) : Nat) : Int))), (5, .int (J ((Ro i : Nat) : Int))), (0, .ref qq), (1, .int (J ((pp : Nat) : Int))), (2, .int (J ((q : Nat) : Int))), (3, .int (J (b2i (pl)))), (4, .int (J ((i : Nat) : Int)))]) C.1 C.2.1 dX4_comes_79 hl (by decide) rfl (fun ls hl => ?_)
        refine lv_aload_n C.1 C.2.1 dX4_comes_81 rfl (lv_at hl 4 rfl) ?_
        refine lv_iload C.1 C.2.1 dX4_comes_82 (lv_at hl 1 rfl) ?_
        refine lv_iload C.1 C.2.1 dX4_comes_84 (lv_at hl 3 rfl) ?_
        refine lv_iload_n C.1 C.2.1 dX4_comes_86 rfl (lv_at hl 5 rfl) ?_
        refine jv_rdV (ni := 3) (ci := 4) (q0 := 0) C [.int (J ((Ro (((i + rn) - 1) % rn) : Nat) : Int)), .int (J ((Ro i : Nat) : Int)), .int (J ((pp : Nat) : Int))] [] (c_X4_turns (Px := Px) (Py := Py) (Mt := Mt) (pn := pn) (kn := kn) (fl := fl) (Hu := Hu) (hn := hn) (A1 := A1) (A2 := A2) (A3 := A3) (mn := mn) (hd := hd) (sd := sd) (B1 := B1) (B2 := B2) (B3 := B3) (hh := hh) (fp := fp) (Or := Or) (Ro := Ro) (Ne := Ne) (rn := rn) (Mr := Mr) hRI (a := Ro (((i + rn) - 1) % rn)) (b := Ro i) (k := pp) (by omega) (by omega) (by omega)) gv_X4_95 (by decide +kernel) (by decide) hK (hP) rfl rfl rfl hl.1 (by simp [Value.category]) dX4_comes_87 (by decide) ?_ rfl
        show W _ _ _ _ _ _ _ _ _ _ _ _ _ _ _ (F0 m 90 ls [.int (J (trn Px Py (Ro (((i + rn) - 1) % rn)) (Ro i) pp))])
        have f7 := trn_R Px Py (Ro (((i + rn) - 1) % rn)) (Ro i) pp
        refine jv_if_ge (tgt := 97) C dX4_comes_90 (by decide) (by omega) (fun h8 => ?_) (fun h8 => ?_)
        · refine jv_iconst C dX4_comes_97 ?_
          refine lv_istore (lv' := [(9, .int (J 0)), (8, .int (J 0)), (7, .int (J ((Ro (((i + rn) - 1) % rn) : Nat) : Int))), (6, .int (J ((Ro ((i + 1) % rn) : Nat) : Int))), (5, .int (J ((Ro i : Nat) : Int))), (0, .ref qq), (1, .int (J ((pp : Nat) : Int))), (2, .int (J ((q : Nat) : Int))), (3, .int (J (b2i (pl)))), (4, .int (J ((i : Nat) : Int)))]) C.1 C.2.1 dX4_comes_98 hl (by decide) rfl (fun ls hl => ?_)
          refine lv_iload C.1 C.2.1 dX4_comes_100 (lv_at hl 1 rfl) ?_
          refine jv_if_eq (tgt := 114) C dX4_comes_102 (by decide) (by omega) (fun h9 => ?_) (fun h9 => ?_)
          · refine lv_iload C.1 C.2.1 dX4_comes_114 (lv_at hl 1 rfl) ?_
            refine jv_if_eq (tgt := 124) C dX4_comes_116 (by decide) (by omega) (fun h10 => ?_) (fun h10 => ?_)
            · refine lv_aload_n C.1 C.2.1 dX4_comes_124 rfl (lv_at hl 5 rfl) ?_
              refine jv_get C fw_X4_50 hK hP 0 rfl rfl dX4_comes_125 ?_
              refine lv_iload_n C.1 C.2.1 dX4_comes_128 rfl (lv_at hl 7 rfl) ?_
              refine lv_iload C.1 C.2.1 dX4_comes_129 (lv_at hl 4 rfl) ?_
              refine jv_iast (G := fun z9 => (((sn Ne q (Ro i)) z9 : Nat) : Int)) C hK hP hD hS 14 0 rfl rfl (q) (by omega) (by omega) (by decide) (sn_nat Ne q (Ro i)) dX4_comes_131 (fun H locs hP hD hS => ?_)
              have hP : va_P D vwCl [(qq, .inr (4, [.ref r0, .ref rx, .ref ry, .ref rt, .int (J ((pn : Nat) : Int)), .int (J (b2i (kn))), .int (J (b2i (fl))), .ref rh, .ref ra, .ref rb, .ref rc, .int (J ((hn : Nat) : Int)), .int (J ((mn : Nat) : Int)), .int (J (b2i (hd))), .int (J (b2i (sd))), .ref sa, .ref sb, .ref sc, .int (J ((hh : Nat) : Int)), .int (J ((fp : Nat) : Int)), .ref so, .ref sr, .ref sw, .int (J ((rn : Nat) : Int))])), (r0, .inl (cI, 7, .inl (fun z9 => J ((Mr z9 : Nat) : Int)))), (rx, .inl (cI, 40, .inl (fun z9 => J (Px z9)))), (ry, .inl (cI, 40, .inl (fun z9 => J (Py z9)))), (rt, .inl (cZ, 40, .inl (fun z9 => J (b2i (Mt z9))))), (rh, .inl (cI, 41, .inl (fun z9 => J ((Hu z9 : Nat) : Int)))), (ra, .inl (cI, 120, .inl (fun z9 => J ((A1 z9 : Nat) : Int)))), (rb, .inl (cI, 120, .inl (fun z9 => J ((A2 z9 : Nat) : Int)))), (rc, .inl (cI, 120, .inl (fun z9 => J ((A3 z9 : Nat) : Int)))), (sa, .inl (cI, 120, .inl (fun z9 => J ((B1 z9 : Nat) : Int)))), (sb, .inl (cI, 120, .inl (fun z9 => J ((B2 z9 : Nat) : Int)))), (sc, .inl (cI, 120, .inl (fun z9 => J ((B3 z9 : Nat) : Int)))), (so, .inl (cI, 40, .inl (fun z9 => J ((Or z9 : Nat) : Int)))), (sr, .inl (cI, 80, .inl (fun z9 => J ((Ro z9 : Nat) : Int)))), (sw, .inl (cI, 80, .inl (fun z9 => J (((sn Ne q (Ro i)) z9 : Nat) : Int))))] H := hP
              have hD : va_D _ [(qq, .inr (4, [.ref r0, .ref rx, .ref ry, .ref rt, .int (J ((pn : Nat) : Int)), .int (J (b2i (kn))), .int (J (b2i (fl))), .ref rh, .ref ra, .ref rb, .ref rc, .int (J ((hn : Nat) : Int)), .int (J ((mn : Nat) : Int)), .int (J (b2i (hd))), .int (J (b2i (sd))), .ref sa, .ref sb, .ref sc, .int (J ((hh : Nat) : Int)), .int (J ((fp : Nat) : Int)), .ref so, .ref sr, .ref sw, .int (J ((rn : Nat) : Int))])), (r0, .inl (cI, 7, .inl (fun z9 => J ((Mr z9 : Nat) : Int)))), (rx, .inl (cI, 40, .inl (fun z9 => J (Px z9)))), (ry, .inl (cI, 40, .inl (fun z9 => J (Py z9)))), (rt, .inl (cZ, 40, .inl (fun z9 => J (b2i (Mt z9))))), (rh, .inl (cI, 41, .inl (fun z9 => J ((Hu z9 : Nat) : Int)))), (ra, .inl (cI, 120, .inl (fun z9 => J ((A1 z9 : Nat) : Int)))), (rb, .inl (cI, 120, .inl (fun z9 => J ((A2 z9 : Nat) : Int)))), (rc, .inl (cI, 120, .inl (fun z9 => J ((A3 z9 : Nat) : Int)))), (sa, .inl (cI, 120, .inl (fun z9 => J ((B1 z9 : Nat) : Int)))), (sb, .inl (cI, 120, .inl (fun z9 => J ((B2 z9 : Nat) : Int)))), (sc, .inl (cI, 120, .inl (fun z9 => J ((B3 z9 : Nat) : Int)))), (so, .inl (cI, 40, .inl (fun z9 => J ((Or z9 : Nat) : Int)))), (sr, .inl (cI, 80, .inl (fun z9 => J ((Ro z9 : Nat) : Int)))), (sw, .inl (cI, 80, .inl (fun z9 => J (((sn Ne q (Ro i)) z9 : Nat) : Int))))] := hD
              have hNe := sn_lt hNe q (z := Ro i) (by omega)
              refine lv_iinc (v := J (((q + 1 : Nat) : Int))) (lv' := [(2, .int (J ((q + 1 : Nat) : Int))), (9, .int (J 0)), (8, .int (J 0)), (7, .int (J ((Ro (((i + rn) - 1) % rn) : Nat) : Int))), (6, .int (J ((Ro ((i + 1) % rn) : Nat) : Int))), (5, .int (J ((Ro i : Nat) : Int))), (0, .ref qq), (1, .int (J ((pp : Nat) : Int))), (3, .int (J (b2i (pl)))), (4, .int (J ((i : Nat) : Int)))]) C.1 C.2.1 dX4_comes_132 hl (k := 7) rfl (by rw [show Int32.ofInt 1 = J 1 from rfl, J_add]; exact congrArg J (by omega)) (by decide) rfl (fun ls hl => ?_)
              refine lv_iload C.1 C.2.1 dX4_comes_135 (lv_at hl 2 rfl) ?_
              refine jv_if_eq (tgt := 161) C dX4_comes_137 (by decide) (by omega) (fun h11 => ?_) (fun h11 => ?_)
              · refine lv_iinc (v := J (((i + 1 : Nat) : Int))) (lv' := [(4, .int (J ((i + 1 : Nat) : Int))), (2, .int (J ((q + 1 : Nat) : Int))), (9, .int (J 0)), (8, .int (J 0)), (7, .int (J ((Ro (((i + rn) - 1) % rn) : Nat) : Int))), (6, .int (J ((Ro ((i + 1) % rn) : Nat) : Int))), (5, .int (J ((Ro i : Nat) : Int))), (0, .ref qq), (1, .int (J ((pp : Nat) : Int))), (3, .int (J (b2i (pl))))]) C.1 C.2.1 dX4_comes_161 hl (k := 9) rfl (by rw [show Int32.ofInt 1 = J 1 from rfl, J_add]; exact congrArg J (by omega)) (by decide) rfl (fun ls hl => ?_)
                refine lv_goto (tgt := 7) C.1 C.2.1 dX4_comes_164 (by decide) ?_
                have hst : cmS Px Py Ro rn pp i ((B1, B2, B3), hh, Ne, q, pl) = ((B1, B2, B3), hh, sn Ne q (Ro i), q + 1, pl) := by
                  unfold cmS cmO cmB
                  rw [decide_eq_false (p := trn Px Py (Ro i) (Ro ((i + 1) % rn)) pp < 0) (by omega), decide_eq_false (p := trn Px Py (Ro ((i + rn - 1) % rn)) (Ro i) pp < 0) (by omega)]
                  rw [show cm1 Px Py false (Ro i) (Ro ((i + 1) % rn)) pp ((B1, B2, B3), hh, Ne, q, pl) = ((B1, B2, B3), hh, Ne, q, pl) from rfl]
                  rfl
                exact ih (i + 1) (B1) (B2) (B3) (hh) (sn Ne q (Ro i)) (q + 1) (pl) (by omega) (by omega) hB1 hB2 hB3 hNe (by omega) (by omega) (fun z => by first | (have := hi8 z; omega) | (exact absurd z (by decide))) Rf (by rw [hRf, cmL_go (by omega) hst]) H locs hP hD hS ls (lv_sub hl [7, 8, 1, 9, 0] rfl)
              · exfalso; omega
            · exfalso; omega
          · exfalso; omega
        · refine jv_iconst C dX4_comes_93 ?_
          refine lv_goto (tgt := 98) C.1 C.2.1 dX4_comes_94 (by decide) ?_
          refine lv_istore (lv' := [(9, .int (J 1)), (8, .int (J 0)), (7, .int (J ((Ro (((i + rn) - 1) % rn) : Nat) : Int))), (6, .int (J ((Ro ((i + 1) % rn) : Nat) : Int))), (5, .int (J ((Ro i : Nat) : Int))), (0, .ref qq), (1, .int (J ((pp : Nat) : Int))), (2, .int (J ((q : Nat) : Int))), (3, .int (J (b2i (pl)))), (4, .int (J ((i : Nat) : Int)))]) C.1 C.2.1 dX4_comes_98 hl (by decide) rfl (fun ls hl => ?_)
          refine lv_iload C.1 C.2.1 dX4_comes_100 (lv_at hl 1 rfl) ?_
          refine jv_if_eq (tgt := 114) C dX4_comes_102 (by decide) (by omega) (fun h12 => ?_) (fun h12 => ?_)
          · refine lv_iload C.1 C.2.1 dX4_comes_114 (lv_at hl 1 rfl) ?_
            refine jv_if_eq (tgt := 124) C dX4_comes_116 (by decide) (by omega) (fun h13 => ?_) (fun h13 => ?_)
            · refine lv_aload_n C.1 C.2.1 dX4_comes_124 rfl (lv_at hl 5 rfl) ?_
              refine jv_get C fw_X4_50 hK hP 0 rfl rfl dX4_comes_125 ?_
              refine lv_iload_n C.1 C.2.1 dX4_comes_128 rfl (lv_at hl 7 rfl) ?_
              refine lv_iload C.1 C.2.1 dX4_comes_129 (lv_at hl 4 rfl) ?_
              refine jv_iast (G := fun z9 => (((sn Ne q (Ro i)) z9 : Nat) : Int)) C hK hP hD hS 14 0 rfl rfl (q) (by omega) (by omega) (by decide) (sn_nat Ne q (Ro i)) dX4_comes_131 (fun H locs hP hD hS => ?_)
              have hP : va_P D vwCl [(qq, .inr (4, [.ref r0, .ref rx, .ref ry, .ref rt, .int (J ((pn : Nat) : Int)), .int (J (b2i (kn))), .int (J (b2i (fl))), .ref rh, .ref ra, .ref rb, .ref rc, .int (J ((hn : Nat) : Int)), .int (J ((mn : Nat) : Int)), .int (J (b2i (hd))), .int (J (b2i (sd))), .ref sa, .ref sb, .ref sc, .int (J ((hh : Nat) : Int)), .int (J ((fp : Nat) : Int)), .ref so, .ref sr, .ref sw, .int (J ((rn : Nat) : Int))])), (r0, .inl (cI, 7, .inl (fun z9 => J ((Mr z9 : Nat) : Int)))), (rx, .inl (cI, 40, .inl (fun z9 => J (Px z9)))), (ry, .inl (cI, 40, .inl (fun z9 => J (Py z9)))), (rt, .inl (cZ, 40, .inl (fun z9 => J (b2i (Mt z9))))), (rh, .inl (cI, 41, .inl (fun z9 => J ((Hu z9 : Nat) : Int)))), (ra, .inl (cI, 120, .inl (fun z9 => J ((A1 z9 : Nat) : Int)))), (rb, .inl (cI, 120, .inl (fun z9 => J ((A2 z9 : Nat) : Int)))), (rc, .inl (cI, 120, .inl (fun z9 => J ((A3 z9 : Nat) : Int)))), (sa, .inl (cI, 120, .inl (fun z9 => J ((B1 z9 : Nat) : Int)))), (sb, .inl (cI, 120, .inl (fun z9 => J ((B2 z9 : Nat) : Int)))), (sc, .inl (cI, 120, .inl (fun z9 => J ((B3 z9 : Nat) : Int)))), (so, .inl (cI, 40, .inl (fun z9 => J ((Or z9 : Nat) : Int)))), (sr, .inl (cI, 80, .inl (fun z9 => J ((Ro z9 : Nat) : Int)))), (sw, .inl (cI, 80, .inl (fun z9 => J (((sn Ne q (Ro i)) z9 : Nat) : Int))))] H := hP
              have hD : va_D _ [(qq, .inr (4, [.ref r0, .ref rx, .ref ry, .ref rt, .int (J ((pn : Nat) : Int)), .int (J (b2i (kn))), .int (J (b2i (fl))), .ref rh, .ref ra, .ref rb, .ref rc, .int (J ((hn : Nat) : Int)), .int (J ((mn : Nat) : Int)), .int (J (b2i (hd))), .int (J (b2i (sd))), .ref sa, .ref sb, .ref sc, .int (J ((hh : Nat) : Int)), .int (J ((fp : Nat) : Int)), .ref so, .ref sr, .ref sw, .int (J ((rn : Nat) : Int))])), (r0, .inl (cI, 7, .inl (fun z9 => J ((Mr z9 : Nat) : Int)))), (rx, .inl (cI, 40, .inl (fun z9 => J (Px z9)))), (ry, .inl (cI, 40, .inl (fun z9 => J (Py z9)))), (rt, .inl (cZ, 40, .inl (fun z9 => J (b2i (Mt z9))))), (rh, .inl (cI, 41, .inl (fun z9 => J ((Hu z9 : Nat) : Int)))), (ra, .inl (cI, 120, .inl (fun z9 => J ((A1 z9 : Nat) : Int)))), (rb, .inl (cI, 120, .inl (fun z9 => J ((A2 z9 : Nat) : Int)))), (rc, .inl (cI, 120, .inl (fun z9 => J ((A3 z9 : Nat) : Int)))), (sa, .inl (cI, 120, .inl (fun z9 => J ((B1 z9 : Nat) : Int)))), (sb, .inl (cI, 120, .inl (fun z9 => J ((B2 z9 : Nat) : Int)))), (sc, .inl (cI, 120, .inl (fun z9 => J ((B3 z9 : Nat) : Int)))), (so, .inl (cI, 40, .inl (fun z9 => J ((Or z9 : Nat) : Int)))), (sr, .inl (cI, 80, .inl (fun z9 => J ((Ro z9 : Nat) : Int)))), (sw, .inl (cI, 80, .inl (fun z9 => J (((sn Ne q (Ro i)) z9 : Nat) : Int))))] := hD
              have hNe := sn_lt hNe q (z := Ro i) (by omega)
              refine lv_iinc (v := J (((q + 1 : Nat) : Int))) (lv' := [(2, .int (J ((q + 1 : Nat) : Int))), (9, .int (J 1)), (8, .int (J 0)), (7, .int (J ((Ro (((i + rn) - 1) % rn) : Nat) : Int))), (6, .int (J ((Ro ((i + 1) % rn) : Nat) : Int))), (5, .int (J ((Ro i : Nat) : Int))), (0, .ref qq), (1, .int (J ((pp : Nat) : Int))), (3, .int (J (b2i (pl)))), (4, .int (J ((i : Nat) : Int)))]) C.1 C.2.1 dX4_comes_132 hl (k := 7) rfl (by rw [show Int32.ofInt 1 = J 1 from rfl, J_add]; exact congrArg J (by omega)) (by decide) rfl (fun ls hl => ?_)
              refine lv_iload C.1 C.2.1 dX4_comes_135 (lv_at hl 2 rfl) ?_
              refine jv_if_eq (tgt := 161) C dX4_comes_137 (by decide) (by omega) (fun h14 => ?_) (fun h14 => ?_)
              · refine lv_iinc (v := J (((i + 1 : Nat) : Int))) (lv' := [(4, .int (J ((i + 1 : Nat) : Int))), (2, .int (J ((q + 1 : Nat) : Int))), (9, .int (J 1)), (8, .int (J 0)), (7, .int (J ((Ro (((i + rn) - 1) % rn) : Nat) : Int))), (6, .int (J ((Ro ((i + 1) % rn) : Nat) : Int))), (5, .int (J ((Ro i : Nat) : Int))), (0, .ref qq), (1, .int (J ((pp : Nat) : Int))), (3, .int (J (b2i (pl))))]) C.1 C.2.1 dX4_comes_161 hl (k := 9) rfl (by rw [show Int32.ofInt 1 = J 1 from rfl, J_add]; exact congrArg J (by omega)) (by decide) rfl (fun ls hl => ?_)
                refine lv_goto (tgt := 7) C.1 C.2.1 dX4_comes_164 (by decide) ?_
                have hst : cmS Px Py Ro rn pp i ((B1, B2, B3), hh, Ne, q, pl) = ((B1, B2, B3), hh, sn Ne q (Ro i), q + 1, pl) := by
                  unfold cmS cmO cmB
                  rw [decide_eq_false (p := trn Px Py (Ro i) (Ro ((i + 1) % rn)) pp < 0) (by omega), decide_eq_true (p := trn Px Py (Ro ((i + rn - 1) % rn)) (Ro i) pp < 0) (by omega)]
                  rw [show cm1 Px Py false (Ro i) (Ro ((i + 1) % rn)) pp ((B1, B2, B3), hh, Ne, q, pl) = ((B1, B2, B3), hh, Ne, q, pl) from rfl]
                  rfl
                exact ih (i + 1) (B1) (B2) (B3) (hh) (sn Ne q (Ro i)) (q + 1) (pl) (by omega) (by omega) hB1 hB2 hB3 hNe (by omega) (by omega) (fun z => by first | (have := hi8 z; omega) | (exact absurd z (by decide))) Rf (by rw [hRf, cmL_go (by omega) hst]) H locs hP hD hS ls (lv_sub hl [7, 8, 1, 9, 0] rfl)
              · exfalso; omega
            · exfalso; omega
          · exfalso; omega
      · refine jv_iconst C dX4_comes_74 ?_
        refine lv_goto (tgt := 79) C.1 C.2.1 dX4_comes_75 (by decide) ?_
        refine lv_istore (lv' := [(8, .int (J 1)), (7, .int (J ((Ro (((i + rn) - 1) % rn) : Nat) : Int))), (6, .int (J ((Ro ((i + 1) % rn) : Nat) : Int))), (5, .int (J ((Ro i : Nat) : Int))), (0, .ref qq), (1, .int (J ((pp : Nat) : Int))), (2, .int (J ((q : Nat) : Int))), (3, .int (J (b2i (pl)))), (4, .int (J ((i : Nat) : Int)))]) C.1 C.2.1 dX4_comes_79 hl (by decide) rfl (fun ls hl => ?_)
        refine lv_aload_n C.1 C.2.1 dX4_comes_81 rfl (lv_at hl 4 rfl) ?_
        refine lv_iload C.1 C.2.1 dX4_comes_82 (lv_at hl 1 rfl) ?_
        refine lv_iload C.1 C.2.1 dX4_comes_84 (lv_at hl 3 rfl) ?_
        refine lv_iload_n C.1 C.2.1 dX4_comes_86 rfl (lv_at hl 5 rfl) ?_
        refine jv_rdV (ni := 3) (ci := 4) (q0 := 0) C [.int (J ((Ro (((i + rn) - 1) % rn) : Nat) : Int)), .int (J ((Ro i : Nat) : Int)), .int (J ((pp : Nat) : Int))] [] (c_X4_turns (Px := Px) (Py := Py) (Mt := Mt) (pn := pn) (kn := kn) (fl := fl) (Hu := Hu) (hn := hn) (A1 := A1) (A2 := A2) (A3 := A3) (mn := mn) (hd := hd) (sd := sd) (B1 := B1) (B2 := B2) (B3 := B3) (hh := hh) (fp := fp) (Or := Or) (Ro := Ro) (Ne := Ne) (rn := rn) (Mr := Mr) hRI (a := Ro (((i + rn) - 1) % rn)) (b := Ro i) (k := pp) (by omega) (by omega) (by omega)) gv_X4_95 (by decide +kernel) (by decide) hK (hP) rfl rfl rfl hl.1 (by simp [Value.category]) dX4_comes_87 (by decide) ?_ rfl
        show W _ _ _ _ _ _ _ _ _ _ _ _ _ _ _ (F0 m 90 ls [.int (J (trn Px Py (Ro (((i + rn) - 1) % rn)) (Ro i) pp))])
        have f15 := trn_R Px Py (Ro (((i + rn) - 1) % rn)) (Ro i) pp
        refine jv_if_ge (tgt := 97) C dX4_comes_90 (by decide) (by omega) (fun h16 => ?_) (fun h16 => ?_)
        · refine jv_iconst C dX4_comes_97 ?_
          refine lv_istore (lv' := [(9, .int (J 0)), (8, .int (J 1)), (7, .int (J ((Ro (((i + rn) - 1) % rn) : Nat) : Int))), (6, .int (J ((Ro ((i + 1) % rn) : Nat) : Int))), (5, .int (J ((Ro i : Nat) : Int))), (0, .ref qq), (1, .int (J ((pp : Nat) : Int))), (2, .int (J ((q : Nat) : Int))), (3, .int (J (b2i (pl)))), (4, .int (J ((i : Nat) : Int)))]) C.1 C.2.1 dX4_comes_98 hl (by decide) rfl (fun ls hl => ?_)
          refine lv_iload C.1 C.2.1 dX4_comes_100 (lv_at hl 1 rfl) ?_
          refine jv_if_eq (tgt := 114) C dX4_comes_102 (by decide) (by omega) (fun h17 => ?_) (fun h17 => ?_)
          · exfalso; omega
          · refine lv_aload_n C.1 C.2.1 dX4_comes_105 rfl (lv_at hl 5 rfl) ?_
            refine lv_iload C.1 C.2.1 dX4_comes_106 (lv_at hl 3 rfl) ?_
            refine lv_iload C.1 C.2.1 dX4_comes_108 (lv_at hl 4 rfl) ?_
            refine lv_iload_n C.1 C.2.1 dX4_comes_110 rfl (lv_at hl 6 rfl) ?_
            have hne := trn_ne (X := Px) (Y := Py) (a := Ro i) (b := Ro ((i + 1) % rn)) (c := pp) (by omega)
            obtain ⟨hn1, hn2, hn3⟩ := hne
            refine jv_waV (ni := 3) (ci := 4) (q0 := 0) (wc := (wRS cI cZ qq r0 rx ry rt rh ra rb rc sa sb sc so sr sw ((Px, Py, Mt, pn), (kn, fl, Hu, hn, A1, A2, A3, mn), (hd, sd, B1, B2, B3, hh, fp), (Or, Ro, Ne, rn), Mr))) (wd := (wRS cI cZ qq r0 rx ry rt rh ra rb rc sa sb sc so sr sw (rHold (Ro ((i + 1) % rn)) (Ro i) pp ((Px, Py, Mt, pn), (kn, fl, Hu, hn, A1, A2, A3, mn), (hd, sd, B1, B2, B3, hh, fp), (Or, Ro, Ne, rn), Mr)))) C [.int (J ((Ro ((i + 1) % rn) : Nat) : Int)), .int (J ((Ro i : Nat) : Int)), .int (J ((pp : Nat) : Int))] [] (c_X4_holds (Px := Px) (Py := Py) (Mt := Mt) (pn := pn) (kn := kn) (fl := fl) (Hu := Hu) (hn := hn) (A1 := A1) (A2 := A2) (A3 := A3) (mn := mn) (hd := hd) (sd := sd) (B1 := B1) (B2 := B2) (B3 := B3) (hh := hh) (fp := fp) (Or := Or) (Ro := Ro) (Ne := Ne) (rn := rn) (Mr := Mr) (a := Ro ((i + 1) % rn)) (b := Ro i) (k := pp) hRI (by omega) (by omega) (by omega) (by omega) hn1 hn2 hn3) gv_X4_180 (by decide +kernel) (by decide) hK hP hD hS rfl rfl rfl rfl hl.1 (by simp) dX4_comes_111 (by decide) (fun H locs hP hD hS => ?_) rfl
            have hP : va_P D vwCl [(qq, .inr (4, [.ref r0, .ref rx, .ref ry, .ref rt, .int (J ((pn : Nat) : Int)), .int (J (b2i (kn))), .int (J (b2i (fl))), .ref rh, .ref ra, .ref rb, .ref rc, .int (J ((hn : Nat) : Int)), .int (J ((mn : Nat) : Int)), .int (J (b2i (hd))), .int (J (b2i (sd))), .ref sa, .ref sb, .ref sc, .int (J ((hh + 1 : Nat) : Int)), .int (J ((fp : Nat) : Int)), .ref so, .ref sr, .ref sw, .int (J ((rn : Nat) : Int))])), (r0, .inl (cI, 7, .inl (fun z9 => J ((Mr z9 : Nat) : Int)))), (rx, .inl (cI, 40, .inl (fun z9 => J (Px z9)))), (ry, .inl (cI, 40, .inl (fun z9 => J (Py z9)))), (rt, .inl (cZ, 40, .inl (fun z9 => J (b2i (Mt z9))))), (rh, .inl (cI, 41, .inl (fun z9 => J ((Hu z9 : Nat) : Int)))), (ra, .inl (cI, 120, .inl (fun z9 => J ((A1 z9 : Nat) : Int)))), (rb, .inl (cI, 120, .inl (fun z9 => J ((A2 z9 : Nat) : Int)))), (rc, .inl (cI, 120, .inl (fun z9 => J ((A3 z9 : Nat) : Int)))), (sa, .inl (cI, 120, .inl (fun z9 => J ((((hldQ Px Py (Ro ((i + 1) % rn)) (Ro i) pp hh (B1, B2, B3)).1) z9 : Nat) : Int)))), (sb, .inl (cI, 120, .inl (fun z9 => J ((((hldQ Px Py (Ro ((i + 1) % rn)) (Ro i) pp hh (B1, B2, B3)).2.1) z9 : Nat) : Int)))), (sc, .inl (cI, 120, .inl (fun z9 => J ((((hldQ Px Py (Ro ((i + 1) % rn)) (Ro i) pp hh (B1, B2, B3)).2.2) z9 : Nat) : Int)))), (so, .inl (cI, 40, .inl (fun z9 => J ((Or z9 : Nat) : Int)))), (sr, .inl (cI, 80, .inl (fun z9 => J ((Ro z9 : Nat) : Int)))), (sw, .inl (cI, 80, .inl (fun z9 => J ((Ne z9 : Nat) : Int))))] H := hP
            have hD : va_D _ [(qq, .inr (4, [.ref r0, .ref rx, .ref ry, .ref rt, .int (J ((pn : Nat) : Int)), .int (J (b2i (kn))), .int (J (b2i (fl))), .ref rh, .ref ra, .ref rb, .ref rc, .int (J ((hn : Nat) : Int)), .int (J ((mn : Nat) : Int)), .int (J (b2i (hd))), .int (J (b2i (sd))), .ref sa, .ref sb, .ref sc, .int (J ((hh + 1 : Nat) : Int)), .int (J ((fp : Nat) : Int)), .ref so, .ref sr, .ref sw, .int (J ((rn : Nat) : Int))])), (r0, .inl (cI, 7, .inl (fun z9 => J ((Mr z9 : Nat) : Int)))), (rx, .inl (cI, 40, .inl (fun z9 => J (Px z9)))), (ry, .inl (cI, 40, .inl (fun z9 => J (Py z9)))), (rt, .inl (cZ, 40, .inl (fun z9 => J (b2i (Mt z9))))), (rh, .inl (cI, 41, .inl (fun z9 => J ((Hu z9 : Nat) : Int)))), (ra, .inl (cI, 120, .inl (fun z9 => J ((A1 z9 : Nat) : Int)))), (rb, .inl (cI, 120, .inl (fun z9 => J ((A2 z9 : Nat) : Int)))), (rc, .inl (cI, 120, .inl (fun z9 => J ((A3 z9 : Nat) : Int)))), (sa, .inl (cI, 120, .inl (fun z9 => J ((((hldQ Px Py (Ro ((i + 1) % rn)) (Ro i) pp hh (B1, B2, B3)).1) z9 : Nat) : Int)))), (sb, .inl (cI, 120, .inl (fun z9 => J ((((hldQ Px Py (Ro ((i + 1) % rn)) (Ro i) pp hh (B1, B2, B3)).2.1) z9 : Nat) : Int)))), (sc, .inl (cI, 120, .inl (fun z9 => J ((((hldQ Px Py (Ro ((i + 1) % rn)) (Ro i) pp hh (B1, B2, B3)).2.2) z9 : Nat) : Int)))), (so, .inl (cI, 40, .inl (fun z9 => J ((Or z9 : Nat) : Int)))), (sr, .inl (cI, 80, .inl (fun z9 => J ((Ro z9 : Nat) : Int)))), (sw, .inl (cI, 80, .inl (fun z9 => J ((Ne z9 : Nat) : Int))))] := hD
            have hRq : RI ((Px, Py, Mt, pn), (kn, fl, Hu, hn, A1, A2, A3, mn), (hd, sd, (hldQ Px Py (Ro ((i + 1) % rn)) (Ro i) pp hh (B1, B2, B3)).1, (hldQ Px Py (Ro ((i + 1) % rn)) (Ro i) pp hh (B1, B2, B3)).2.1, (hldQ Px Py (Ro ((i + 1) % rn)) (Ro i) pp hh (B1, B2, B3)).2.2, hh + 1, fp), (Or, Ro, Ne, rn), Mr) := rHold_b (a := Ro ((i + 1) % rn)) (b := Ro i) (c := pp) hRI (by omega) (by omega) (by omega) (by show hh < 120; omega)
            have hX : ∀ z8, -10000 ≤ Px z8 ∧ Px z8 ≤ 10000 := hRq.1
            have hY : ∀ z8, -10000 ≤ Py z8 ∧ Py z8 ≤ 10000 := hRq.2.1
            have hpn : pn ≤ 40 := hRq.2.2.1
            have hHu : ∀ z8, Hu z8 < 40 := hRq.2.2.2.1
            have hhn : hn ≤ 41 := hRq.2.2.2.2.1
            have hA1 : ∀ z8, A1 z8 < 40 := hRq.2.2.2.2.2.1
            have hA2 : ∀ z8, A2 z8 < 40 := hRq.2.2.2.2.2.2.1
            have hA3 : ∀ z8, A3 z8 < 40 := hRq.2.2.2.2.2.2.2.1
            have hmn : mn ≤ 120 := hRq.2.2.2.2.2.2.2.2.1
            have hB1 : ∀ z8, ((hldQ Px Py (Ro ((i + 1) % rn)) (Ro i) pp hh (B1, B2, B3)).1) z8 < 40 := hRq.2.2.2.2.2.2.2.2.2.1
            have hB2 : ∀ z8, ((hldQ Px Py (Ro ((i + 1) % rn)) (Ro i) pp hh (B1, B2, B3)).2.1) z8 < 40 := hRq.2.2.2.2.2.2.2.2.2.2.1
            have hB3 : ∀ z8, ((hldQ Px Py (Ro ((i + 1) % rn)) (Ro i) pp hh (B1, B2, B3)).2.2) z8 < 40 := hRq.2.2.2.2.2.2.2.2.2.2.2.1
            have hhh : (hh + 1) ≤ 120 := hRq.2.2.2.2.2.2.2.2.2.2.2.2.1
            have hOr : ∀ z8, Or z8 < 40 := hRq.2.2.2.2.2.2.2.2.2.2.2.2.2.1
            have hRo : ∀ z8, Ro z8 < 40 := hRq.2.2.2.2.2.2.2.2.2.2.2.2.2.2.1
            have hNe : ∀ z8, Ne z8 < 40 := hRq.2.2.2.2.2.2.2.2.2.2.2.2.2.2.2.1
            have hrn : rn ≤ 80 := hRq.2.2.2.2.2.2.2.2.2.2.2.2.2.2.2.2
            show W _ _ _ _ _ _ _ _ _ _ _ _ _ _ _ (F0 m 114 ls [])
            refine lv_iload C.1 C.2.1 dX4_comes_114 (lv_at hl 1 rfl) ?_
            refine jv_if_eq (tgt := 124) C dX4_comes_116 (by decide) (by omega) (fun h18 => ?_) (fun h18 => ?_)
            · exfalso; omega
            · refine lv_iload C.1 C.2.1 dX4_comes_119 (lv_at hl 0 rfl) ?_
              refine jv_if_ne (tgt := 135) C dX4_comes_121 (by decide) (by omega) (fun h19 => ?_) (fun h19 => ?_)
              · exfalso; omega
              · refine lv_aload_n C.1 C.2.1 dX4_comes_124 rfl (lv_at hl 5 rfl) ?_
                refine jv_get C fw_X4_50 hK hP 0 rfl rfl dX4_comes_125 ?_
                refine lv_iload_n C.1 C.2.1 dX4_comes_128 rfl (lv_at hl 7 rfl) ?_
                refine lv_iload C.1 C.2.1 dX4_comes_129 (lv_at hl 4 rfl) ?_
                refine jv_iast (G := fun z9 => (((sn Ne q (Ro i)) z9 : Nat) : Int)) C hK hP hD hS 14 0 rfl rfl (q) (by omega) (by omega) (by decide) (sn_nat Ne q (Ro i)) dX4_comes_131 (fun H locs hP hD hS => ?_)
                have hP : va_P D vwCl [(qq, .inr (4, [.ref r0, .ref rx, .ref ry, .ref rt, .int (J ((pn : Nat) : Int)), .int (J (b2i (kn))), .int (J (b2i (fl))), .ref rh, .ref ra, .ref rb, .ref rc, .int (J ((hn : Nat) : Int)), .int (J ((mn : Nat) : Int)), .int (J (b2i (hd))), .int (J (b2i (sd))), .ref sa, .ref sb, .ref sc, .int (J ((hh + 1 : Nat) : Int)), .int (J ((fp : Nat) : Int)), .ref so, .ref sr, .ref sw, .int (J ((rn : Nat) : Int))])), (r0, .inl (cI, 7, .inl (fun z9 => J ((Mr z9 : Nat) : Int)))), (rx, .inl (cI, 40, .inl (fun z9 => J (Px z9)))), (ry, .inl (cI, 40, .inl (fun z9 => J (Py z9)))), (rt, .inl (cZ, 40, .inl (fun z9 => J (b2i (Mt z9))))), (rh, .inl (cI, 41, .inl (fun z9 => J ((Hu z9 : Nat) : Int)))), (ra, .inl (cI, 120, .inl (fun z9 => J ((A1 z9 : Nat) : Int)))), (rb, .inl (cI, 120, .inl (fun z9 => J ((A2 z9 : Nat) : Int)))), (rc, .inl (cI, 120, .inl (fun z9 => J ((A3 z9 : Nat) : Int)))), (sa, .inl (cI, 120, .inl (fun z9 => J ((((hldQ Px Py (Ro ((i + 1) % rn)) (Ro i) pp hh (B1, B2, B3)).1) z9 : Nat) : Int)))), (sb, .inl (cI, 120, .inl (fun z9 => J ((((hldQ Px Py (Ro ((i + 1) % rn)) (Ro i) pp hh (B1, B2, B3)).2.1) z9 : Nat) : Int)))), (sc, .inl (cI, 120, .inl (fun z9 => J ((((hldQ Px Py (Ro ((i + 1) % rn)) (Ro i) pp hh (B1, B2, B3)).2.2) z9 : Nat) : Int)))), (so, .inl (cI, 40, .inl (fun z9 => J ((Or z9 : Nat) : Int)))), (sr, .inl (cI, 80, .inl (fun z9 => J ((Ro z9 : Nat) : Int)))), (sw, .inl (cI, 80, .inl (fun z9 => J (((sn Ne q (Ro i)) z9 : Nat) : Int))))] H := hP
                have hD : va_D _ [(qq, .inr (4, [.ref r0, .ref rx, .ref ry, .ref rt, .int (J ((pn : Nat) : Int)), .int (J (b2i (kn))), .int (J (b2i (fl))), .ref rh, .ref ra, .ref rb, .ref rc, .int (J ((hn : Nat) : Int)), .int (J ((mn : Nat) : Int)), .int (J (b2i (hd))), .int (J (b2i (sd))), .ref sa, .ref sb, .ref sc, .int (J ((hh + 1 : Nat) : Int)), .int (J ((fp : Nat) : Int)), .ref so, .ref sr, .ref sw, .int (J ((rn : Nat) : Int))])), (r0, .inl (cI, 7, .inl (fun z9 => J ((Mr z9 : Nat) : Int)))), (rx, .inl (cI, 40, .inl (fun z9 => J (Px z9)))), (ry, .inl (cI, 40, .inl (fun z9 => J (Py z9)))), (rt, .inl (cZ, 40, .inl (fun z9 => J (b2i (Mt z9))))), (rh, .inl (cI, 41, .inl (fun z9 => J ((Hu z9 : Nat) : Int)))), (ra, .inl (cI, 120, .inl (fun z9 => J ((A1 z9 : Nat) : Int)))), (rb, .inl (cI, 120, .inl (fun z9 => J ((A2 z9 : Nat) : Int)))), (rc, .inl (cI, 120, .inl (fun z9 => J ((A3 z9 : Nat) : Int)))), (sa, .inl (cI, 120, .inl (fun z9 => J ((((hldQ Px Py (Ro ((i + 1) % rn)) (Ro i) pp hh (B1, B2, B3)).1) z9 : Nat) : Int)))), (sb, .inl (cI, 120, .inl (fun z9 => J ((((hldQ Px Py (Ro ((i + 1) % rn)) (Ro i) pp hh (B1, B2, B3)).2.1) z9 : Nat) : Int)))), (sc, .inl (cI, 120, .inl (fun z9 => J ((((hldQ Px Py (Ro ((i + 1) % rn)) (Ro i) pp hh (B1, B2, B3)).2.2) z9 : Nat) : Int)))), (so, .inl (cI, 40, .inl (fun z9 => J ((Or z9 : Nat) : Int)))), (sr, .inl (cI, 80, .inl (fun z9 => J ((Ro z9 : Nat) : Int)))), (sw, .inl (cI, 80, .inl (fun z9 => J (((sn Ne q (Ro i)) z9 : Nat) : Int))))] := hD
                have hNe := sn_lt hNe q (z := Ro i) (by omega)
                refine lv_iinc (v := J (((q + 1 : Nat) : Int))) (lv' := [(2, .int (J ((q + 1 : Nat) : Int))), (9, .int (J 0)), (8, .int (J 1)), (7, .int (J ((Ro (((i + rn) - 1) % rn) : Nat) : Int))), (6, .int (J ((Ro ((i + 1) % rn) : Nat) : Int))), (5, .int (J ((Ro i : Nat) : Int))), (0, .ref qq), (1, .int (J ((pp : Nat) : Int))), (3, .int (J (b2i (pl)))), (4, .int (J ((i : Nat) : Int)))]) C.1 C.2.1 dX4_comes_132 hl (k := 7) rfl (by rw [show Int32.ofInt 1 = J 1 from rfl, J_add]; exact congrArg J (by omega)) (by decide) rfl (fun ls hl => ?_)
                refine lv_iload C.1 C.2.1 dX4_comes_135 (lv_at hl 2 rfl) ?_
                refine jv_if_eq (tgt := 161) C dX4_comes_137 (by decide) (by omega) (fun h20 => ?_) (fun h20 => ?_)
                · exfalso; omega
                · refine lv_iload C.1 C.2.1 dX4_comes_140 (lv_at hl 1 rfl) ?_
                  refine jv_if_ne (tgt := 161) C dX4_comes_142 (by decide) (by omega) (fun h21 => ?_) (fun h21 => ?_)
                  · exfalso; omega
                  · refine lv_iload_n C.1 C.2.1 dX4_comes_145 rfl (lv_at hl 8 rfl) ?_
                    refine jv_bif_ne (tgt := 161) C dX4_comes_146 (by decide) (fun h22 => ?_) (fun h22 => ?_)
                    · refine lv_iinc (v := J (((i + 1 : Nat) : Int))) (lv' := [(4, .int (J ((i + 1 : Nat) : Int))), (2, .int (J ((q + 1 : Nat) : Int))), (9, .int (J 0)), (8, .int (J 1)), (7, .int (J ((Ro (((i + rn) - 1) % rn) : Nat) : Int))), (6, .int (J ((Ro ((i + 1) % rn) : Nat) : Int))), (5, .int (J ((Ro i : Nat) : Int))), (0, .ref qq), (1, .int (J ((pp : Nat) : Int))), (3, .int (J (b2i (pl))))]) C.1 C.2.1 dX4_comes_161 hl (k := 9) rfl (by rw [show Int32.ofInt 1 = J 1 from rfl, J_add]; exact congrArg J (by omega)) (by decide) rfl (fun ls hl => ?_)
                      refine lv_goto (tgt := 7) C.1 C.2.1 dX4_comes_164 (by decide) ?_
                      have hst : cmS Px Py Ro rn pp i ((B1, B2, B3), hh, Ne, q, pl) = (((hldQ Px Py (Ro ((i + 1) % rn)) (Ro i) pp hh (B1, B2, B3)).1, (hldQ Px Py (Ro ((i + 1) % rn)) (Ro i) pp hh (B1, B2, B3)).2.1, (hldQ Px Py (Ro ((i + 1) % rn)) (Ro i) pp hh (B1, B2, B3)).2.2), hh + 1, sn Ne q (Ro i), q + 1, pl) := by
                        unfold cmS cmO cmB
                        rw [decide_eq_true (p := trn Px Py (Ro i) (Ro ((i + 1) % rn)) pp < 0) (by omega), decide_eq_false (p := trn Px Py (Ro ((i + rn - 1) % rn)) (Ro i) pp < 0) (by omega)]
                        rw [show cm1 Px Py true (Ro i) (Ro ((i + 1) % rn)) pp ((B1, B2, B3), hh, Ne, q, pl) = (((hldQ Px Py (Ro ((i + 1) % rn)) (Ro i) pp hh (B1, B2, B3)).1, (hldQ Px Py (Ro ((i + 1) % rn)) (Ro i) pp hh (B1, B2, B3)).2.1, (hldQ Px Py (Ro ((i + 1) % rn)) (Ro i) pp hh (B1, B2, B3)).2.2), hh + 1, Ne, q, pl) from rfl]
                        rw [show cm2 true false (Ro i) (((hldQ Px Py (Ro ((i + 1) % rn)) (Ro i) pp hh (B1, B2, B3)).1, (hldQ Px Py (Ro ((i + 1) % rn)) (Ro i) pp hh (B1, B2, B3)).2.1, (hldQ Px Py (Ro ((i + 1) % rn)) (Ro i) pp hh (B1, B2, B3)).2.2), hh + 1, Ne, q, pl) = (((hldQ Px Py (Ro ((i + 1) % rn)) (Ro i) pp hh (B1, B2, B3)).1, (hldQ Px Py (Ro ((i + 1) % rn)) (Ro i) pp hh (B1, B2, B3)).2.1, (hldQ Px Py (Ro ((i + 1) % rn)) (Ro i) pp hh (B1, B2, B3)).2.2), hh + 1, sn Ne q (Ro i), q + 1, pl) from rfl]
                        unfold cm3; rw [if_neg (fun z => absurd (h22.symm.trans z.2.2) (by decide))]
                      exact ih (i + 1) ((hldQ Px Py (Ro ((i + 1) % rn)) (Ro i) pp hh (B1, B2, B3)).1) ((hldQ Px Py (Ro ((i + 1) % rn)) (Ro i) pp hh (B1, B2, B3)).2.1) ((hldQ Px Py (Ro ((i + 1) % rn)) (Ro i) pp hh (B1, B2, B3)).2.2) (hh + 1) (sn Ne q (Ro i)) (q + 1) (pl) (by omega) (by omega) hB1 hB2 hB3 hNe (by omega) (by omega) (fun z => by first | (have := hi8 z; omega) | (exact absurd z (by decide))) Rf (by rw [hRf, cmL_go (by omega) hst]) H locs hP hD hS ls (lv_sub hl [7, 8, 1, 9, 0] rfl)
                    · have hqi := hi8 h22
                      refine lv_aload_n C.1 C.2.1 dX4_comes_149 rfl (lv_at hl 6 rfl) ?_
                      refine jv_get C fw_X4_50 hK hP 0 rfl rfl dX4_comes_150 ?_
                      refine lv_iload_n C.1 C.2.1 dX4_comes_153 rfl (lv_at hl 0 rfl) ?_
                      refine lv_iload_n C.1 C.2.1 dX4_comes_154 rfl (lv_at hl 7 rfl) ?_
                      refine jv_iast (G := fun z9 => (((sn (sn Ne q (Ro i)) (q + 1) pp) z9 : Nat) : Int)) C hK hP hD hS 14 0 rfl rfl (q + 1) (by omega) (by omega) (by decide) (sn_nat (sn Ne q (Ro i)) (q + 1) pp) dX4_comes_155 (fun H locs hP hD hS => ?_)
                      have hP : va_P D vwCl [(qq, .inr (4, [.ref r0, .ref rx, .ref ry, .ref rt, .int (J ((pn : Nat) : Int)), .int (J (b2i (kn))), .int (J (b2i (fl))), .ref rh, .ref ra, .ref rb, .ref rc, .int (J ((hn : Nat) : Int)), .int (J ((mn : Nat) : Int)), .int (J (b2i (hd))), .int (J (b2i (sd))), .ref sa, .ref sb, .ref sc, .int (J ((hh + 1 : Nat) : Int)), .int (J ((fp : Nat) : Int)), .ref so, .ref sr, .ref sw, .int (J ((rn : Nat) : Int))])), (r0, .inl (cI, 7, .inl (fun z9 => J ((Mr z9 : Nat) : Int)))), (rx, .inl (cI, 40, .inl (fun z9 => J (Px z9)))), (ry, .inl (cI, 40, .inl (fun z9 => J (Py z9)))), (rt, .inl (cZ, 40, .inl (fun z9 => J (b2i (Mt z9))))), (rh, .inl (cI, 41, .inl (fun z9 => J ((Hu z9 : Nat) : Int)))), (ra, .inl (cI, 120, .inl (fun z9 => J ((A1 z9 : Nat) : Int)))), (rb, .inl (cI, 120, .inl (fun z9 => J ((A2 z9 : Nat) : Int)))), (rc, .inl (cI, 120, .inl (fun z9 => J ((A3 z9 : Nat) : Int)))), (sa, .inl (cI, 120, .inl (fun z9 => J ((((hldQ Px Py (Ro ((i + 1) % rn)) (Ro i) pp hh (B1, B2, B3)).1) z9 : Nat) : Int)))), (sb, .inl (cI, 120, .inl (fun z9 => J ((((hldQ Px Py (Ro ((i + 1) % rn)) (Ro i) pp hh (B1, B2, B3)).2.1) z9 : Nat) : Int)))), (sc, .inl (cI, 120, .inl (fun z9 => J ((((hldQ Px Py (Ro ((i + 1) % rn)) (Ro i) pp hh (B1, B2, B3)).2.2) z9 : Nat) : Int)))), (so, .inl (cI, 40, .inl (fun z9 => J ((Or z9 : Nat) : Int)))), (sr, .inl (cI, 80, .inl (fun z9 => J ((Ro z9 : Nat) : Int)))), (sw, .inl (cI, 80, .inl (fun z9 => J (((sn (sn Ne q (Ro i)) (q + 1) pp) z9 : Nat) : Int))))] H := hP
                      have hD : va_D _ [(qq, .inr (4, [.ref r0, .ref rx, .ref ry, .ref rt, .int (J ((pn : Nat) : Int)), .int (J (b2i (kn))), .int (J (b2i (fl))), .ref rh, .ref ra, .ref rb, .ref rc, .int (J ((hn : Nat) : Int)), .int (J ((mn : Nat) : Int)), .int (J (b2i (hd))), .int (J (b2i (sd))), .ref sa, .ref sb, .ref sc, .int (J ((hh + 1 : Nat) : Int)), .int (J ((fp : Nat) : Int)), .ref so, .ref sr, .ref sw, .int (J ((rn : Nat) : Int))])), (r0, .inl (cI, 7, .inl (fun z9 => J ((Mr z9 : Nat) : Int)))), (rx, .inl (cI, 40, .inl (fun z9 => J (Px z9)))), (ry, .inl (cI, 40, .inl (fun z9 => J (Py z9)))), (rt, .inl (cZ, 40, .inl (fun z9 => J (b2i (Mt z9))))), (rh, .inl (cI, 41, .inl (fun z9 => J ((Hu z9 : Nat) : Int)))), (ra, .inl (cI, 120, .inl (fun z9 => J ((A1 z9 : Nat) : Int)))), (rb, .inl (cI, 120, .inl (fun z9 => J ((A2 z9 : Nat) : Int)))), (rc, .inl (cI, 120, .inl (fun z9 => J ((A3 z9 : Nat) : Int)))), (sa, .inl (cI, 120, .inl (fun z9 => J ((((hldQ Px Py (Ro ((i + 1) % rn)) (Ro i) pp hh (B1, B2, B3)).1) z9 : Nat) : Int)))), (sb, .inl (cI, 120, .inl (fun z9 => J ((((hldQ Px Py (Ro ((i + 1) % rn)) (Ro i) pp hh (B1, B2, B3)).2.1) z9 : Nat) : Int)))), (sc, .inl (cI, 120, .inl (fun z9 => J ((((hldQ Px Py (Ro ((i + 1) % rn)) (Ro i) pp hh (B1, B2, B3)).2.2) z9 : Nat) : Int)))), (so, .inl (cI, 40, .inl (fun z9 => J ((Or z9 : Nat) : Int)))), (sr, .inl (cI, 80, .inl (fun z9 => J ((Ro z9 : Nat) : Int)))), (sw, .inl (cI, 80, .inl (fun z9 => J (((sn (sn Ne q (Ro i)) (q + 1) pp) z9 : Nat) : Int))))] := hD
                      have hNe := sn_lt hNe (q + 1) (z := pp) (by omega)
                      refine lv_iinc (v := J (((q + 2 : Nat) : Int))) (lv' := [(2, .int (J ((q + 2 : Nat) : Int))), (9, .int (J 0)), (8, .int (J 1)), (7, .int (J ((Ro (((i + rn) - 1) % rn) : Nat) : Int))), (6, .int (J ((Ro ((i + 1) % rn) : Nat) : Int))), (5, .int (J ((Ro i : Nat) : Int))), (0, .ref qq), (1, .int (J ((pp : Nat) : Int))), (3, .int (J (b2i (pl)))), (4, .int (J ((i : Nat) : Int)))]) C.1 C.2.1 dX4_comes_156 hl (k := 0) rfl (by rw [show Int32.ofInt 1 = J 1 from rfl, J_add]; exact congrArg J (by omega)) (by decide) rfl (fun ls hl => ?_)
                      refine jv_iconst C dX4_comes_159 ?_
                      refine lv_istore_n (lv' := [(3, .int (J 1)), (2, .int (J ((q + 2 : Nat) : Int))), (9, .int (J 0)), (8, .int (J 1)), (7, .int (J ((Ro (((i + rn) - 1) % rn) : Nat) : Int))), (6, .int (J ((Ro ((i + 1) % rn) : Nat) : Int))), (5, .int (J ((Ro i : Nat) : Int))), (0, .ref qq), (1, .int (J ((pp : Nat) : Int))), (4, .int (J ((i : Nat) : Int)))]) C.1 C.2.1 dX4_comes_160 rfl hl (by decide) rfl (fun ls hl => ?_)
                      refine lv_iinc (v := J (((i + 1 : Nat) : Int))) (lv' := [(4, .int (J ((i + 1 : Nat) : Int))), (3, .int (J 1)), (2, .int (J ((q + 2 : Nat) : Int))), (9, .int (J 0)), (8, .int (J 1)), (7, .int (J ((Ro (((i + rn) - 1) % rn) : Nat) : Int))), (6, .int (J ((Ro ((i + 1) % rn) : Nat) : Int))), (5, .int (J ((Ro i : Nat) : Int))), (0, .ref qq), (1, .int (J ((pp : Nat) : Int)))]) C.1 C.2.1 dX4_comes_161 hl (k := 9) rfl (by rw [show Int32.ofInt 1 = J 1 from rfl, J_add]; exact congrArg J (by omega)) (by decide) rfl (fun ls hl => ?_)
                      refine lv_goto (tgt := 7) C.1 C.2.1 dX4_comes_164 (by decide) ?_
                      have hst : cmS Px Py Ro rn pp i ((B1, B2, B3), hh, Ne, q, pl) = (((hldQ Px Py (Ro ((i + 1) % rn)) (Ro i) pp hh (B1, B2, B3)).1, (hldQ Px Py (Ro ((i + 1) % rn)) (Ro i) pp hh (B1, B2, B3)).2.1, (hldQ Px Py (Ro ((i + 1) % rn)) (Ro i) pp hh (B1, B2, B3)).2.2), hh + 1, sn (sn Ne q (Ro i)) (q + 1) pp, q + 2, true) := by
                        unfold cmS cmO cmB
                        rw [decide_eq_true (p := trn Px Py (Ro i) (Ro ((i + 1) % rn)) pp < 0) (by omega), decide_eq_false (p := trn Px Py (Ro ((i + rn - 1) % rn)) (Ro i) pp < 0) (by omega)]
                        rw [show cm1 Px Py true (Ro i) (Ro ((i + 1) % rn)) pp ((B1, B2, B3), hh, Ne, q, pl) = (((hldQ Px Py (Ro ((i + 1) % rn)) (Ro i) pp hh (B1, B2, B3)).1, (hldQ Px Py (Ro ((i + 1) % rn)) (Ro i) pp hh (B1, B2, B3)).2.1, (hldQ Px Py (Ro ((i + 1) % rn)) (Ro i) pp hh (B1, B2, B3)).2.2), hh + 1, Ne, q, pl) from rfl]
                        rw [show cm2 true false (Ro i) (((hldQ Px Py (Ro ((i + 1) % rn)) (Ro i) pp hh (B1, B2, B3)).1, (hldQ Px Py (Ro ((i + 1) % rn)) (Ro i) pp hh (B1, B2, B3)).2.1, (hldQ Px Py (Ro ((i + 1) % rn)) (Ro i) pp hh (B1, B2, B3)).2.2), hh + 1, Ne, q, pl) = (((hldQ Px Py (Ro ((i + 1) % rn)) (Ro i) pp hh (B1, B2, B3)).1, (hldQ Px Py (Ro ((i + 1) % rn)) (Ro i) pp hh (B1, B2, B3)).2.1, (hldQ Px Py (Ro ((i + 1) % rn)) (Ro i) pp hh (B1, B2, B3)).2.2), hh + 1, sn Ne q (Ro i), q + 1, pl) from rfl]
                        unfold cm3; rw [if_pos ⟨rfl, rfl, h22⟩]
                      exact ih (i + 1) ((hldQ Px Py (Ro ((i + 1) % rn)) (Ro i) pp hh (B1, B2, B3)).1) ((hldQ Px Py (Ro ((i + 1) % rn)) (Ro i) pp hh (B1, B2, B3)).2.1) ((hldQ Px Py (Ro ((i + 1) % rn)) (Ro i) pp hh (B1, B2, B3)).2.2) (hh + 1) (sn (sn Ne q (Ro i)) (q + 1) pp) (q + 2) (true) (by omega) (by omega) hB1 hB2 hB3 hNe (by omega) (by omega) (fun z => by first | (have := hi8 z; omega) | (exact absurd z (by decide))) Rf (by rw [hRf, cmL_go (by omega) hst]) H locs hP hD hS ls (lv_sub hl [8, 9, 2, 1, 0] rfl)
        · refine jv_iconst C dX4_comes_93 ?_
          refine lv_goto (tgt := 98) C.1 C.2.1 dX4_comes_94 (by decide) ?_
          refine lv_istore (lv' := [(9, .int (J 1)), (8, .int (J 1)), (7, .int (J ((Ro (((i + rn) - 1) % rn) : Nat) : Int))), (6, .int (J ((Ro ((i + 1) % rn) : Nat) : Int))), (5, .int (J ((Ro i : Nat) : Int))), (0, .ref qq), (1, .int (J ((pp : Nat) : Int))), (2, .int (J ((q : Nat) : Int))), (3, .int (J (b2i (pl)))), (4, .int (J ((i : Nat) : Int)))]) C.1 C.2.1 dX4_comes_98 hl (by decide) rfl (fun ls hl => ?_)
          refine lv_iload C.1 C.2.1 dX4_comes_100 (lv_at hl 1 rfl) ?_
          refine jv_if_eq (tgt := 114) C dX4_comes_102 (by decide) (by omega) (fun h23 => ?_) (fun h23 => ?_)
          · exfalso; omega
          · refine lv_aload_n C.1 C.2.1 dX4_comes_105 rfl (lv_at hl 5 rfl) ?_
            refine lv_iload C.1 C.2.1 dX4_comes_106 (lv_at hl 3 rfl) ?_
            refine lv_iload C.1 C.2.1 dX4_comes_108 (lv_at hl 4 rfl) ?_
            refine lv_iload_n C.1 C.2.1 dX4_comes_110 rfl (lv_at hl 6 rfl) ?_
            have hne := trn_ne (X := Px) (Y := Py) (a := Ro i) (b := Ro ((i + 1) % rn)) (c := pp) (by omega)
            obtain ⟨hn1, hn2, hn3⟩ := hne
            refine jv_waV (ni := 3) (ci := 4) (q0 := 0) (wc := (wRS cI cZ qq r0 rx ry rt rh ra rb rc sa sb sc so sr sw ((Px, Py, Mt, pn), (kn, fl, Hu, hn, A1, A2, A3, mn), (hd, sd, B1, B2, B3, hh, fp), (Or, Ro, Ne, rn), Mr))) (wd := (wRS cI cZ qq r0 rx ry rt rh ra rb rc sa sb sc so sr sw (rHold (Ro ((i + 1) % rn)) (Ro i) pp ((Px, Py, Mt, pn), (kn, fl, Hu, hn, A1, A2, A3, mn), (hd, sd, B1, B2, B3, hh, fp), (Or, Ro, Ne, rn), Mr)))) C [.int (J ((Ro ((i + 1) % rn) : Nat) : Int)), .int (J ((Ro i : Nat) : Int)), .int (J ((pp : Nat) : Int))] [] (c_X4_holds (Px := Px) (Py := Py) (Mt := Mt) (pn := pn) (kn := kn) (fl := fl) (Hu := Hu) (hn := hn) (A1 := A1) (A2 := A2) (A3 := A3) (mn := mn) (hd := hd) (sd := sd) (B1 := B1) (B2 := B2) (B3 := B3) (hh := hh) (fp := fp) (Or := Or) (Ro := Ro) (Ne := Ne) (rn := rn) (Mr := Mr) (a := Ro ((i + 1) % rn)) (b := Ro i) (k := pp) hRI (by omega) (by omega) (by omega) (by omega) hn1 hn2 hn3) gv_X4_180 (by decide +kernel) (by decide) hK hP hD hS rfl rfl rfl rfl hl.1 (by simp) dX4_comes_111 (by decide) (fun H locs hP hD hS => ?_) rfl
            have hP : va_P D vwCl [(qq, .inr (4, [.ref r0, .ref rx, .ref ry, .ref rt, .int (J ((pn : Nat) : Int)), .int (J (b2i (kn))), .int (J (b2i (fl))), .ref rh, .ref ra, .ref rb, .ref rc, .int (J ((hn : Nat) : Int)), .int (J ((mn : Nat) : Int)), .int (J (b2i (hd))), .int (J (b2i (sd))), .ref sa, .ref sb, .ref sc, .int (J ((hh + 1 : Nat) : Int)), .int (J ((fp : Nat) : Int)), .ref so, .ref sr, .ref sw, .int (J ((rn : Nat) : Int))])), (r0, .inl (cI, 7, .inl (fun z9 => J ((Mr z9 : Nat) : Int)))), (rx, .inl (cI, 40, .inl (fun z9 => J (Px z9)))), (ry, .inl (cI, 40, .inl (fun z9 => J (Py z9)))), (rt, .inl (cZ, 40, .inl (fun z9 => J (b2i (Mt z9))))), (rh, .inl (cI, 41, .inl (fun z9 => J ((Hu z9 : Nat) : Int)))), (ra, .inl (cI, 120, .inl (fun z9 => J ((A1 z9 : Nat) : Int)))), (rb, .inl (cI, 120, .inl (fun z9 => J ((A2 z9 : Nat) : Int)))), (rc, .inl (cI, 120, .inl (fun z9 => J ((A3 z9 : Nat) : Int)))), (sa, .inl (cI, 120, .inl (fun z9 => J ((((hldQ Px Py (Ro ((i + 1) % rn)) (Ro i) pp hh (B1, B2, B3)).1) z9 : Nat) : Int)))), (sb, .inl (cI, 120, .inl (fun z9 => J ((((hldQ Px Py (Ro ((i + 1) % rn)) (Ro i) pp hh (B1, B2, B3)).2.1) z9 : Nat) : Int)))), (sc, .inl (cI, 120, .inl (fun z9 => J ((((hldQ Px Py (Ro ((i + 1) % rn)) (Ro i) pp hh (B1, B2, B3)).2.2) z9 : Nat) : Int)))), (so, .inl (cI, 40, .inl (fun z9 => J ((Or z9 : Nat) : Int)))), (sr, .inl (cI, 80, .inl (fun z9 => J ((Ro z9 : Nat) : Int)))), (sw, .inl (cI, 80, .inl (fun z9 => J ((Ne z9 : Nat) : Int))))] H := hP
            have hD : va_D _ [(qq, .inr (4, [.ref r0, .ref rx, .ref ry, .ref rt, .int (J ((pn : Nat) : Int)), .int (J (b2i (kn))), .int (J (b2i (fl))), .ref rh, .ref ra, .ref rb, .ref rc, .int (J ((hn : Nat) : Int)), .int (J ((mn : Nat) : Int)), .int (J (b2i (hd))), .int (J (b2i (sd))), .ref sa, .ref sb, .ref sc, .int (J ((hh + 1 : Nat) : Int)), .int (J ((fp : Nat) : Int)), .ref so, .ref sr, .ref sw, .int (J ((rn : Nat) : Int))])), (r0, .inl (cI, 7, .inl (fun z9 => J ((Mr z9 : Nat) : Int)))), (rx, .inl (cI, 40, .inl (fun z9 => J (Px z9)))), (ry, .inl (cI, 40, .inl (fun z9 => J (Py z9)))), (rt, .inl (cZ, 40, .inl (fun z9 => J (b2i (Mt z9))))), (rh, .inl (cI, 41, .inl (fun z9 => J ((Hu z9 : Nat) : Int)))), (ra, .inl (cI, 120, .inl (fun z9 => J ((A1 z9 : Nat) : Int)))), (rb, .inl (cI, 120, .inl (fun z9 => J ((A2 z9 : Nat) : Int)))), (rc, .inl (cI, 120, .inl (fun z9 => J ((A3 z9 : Nat) : Int)))), (sa, .inl (cI, 120, .inl (fun z9 => J ((((hldQ Px Py (Ro ((i + 1) % rn)) (Ro i) pp hh (B1, B2, B3)).1) z9 : Nat) : Int)))), (sb, .inl (cI, 120, .inl (fun z9 => J ((((hldQ Px Py (Ro ((i + 1) % rn)) (Ro i) pp hh (B1, B2, B3)).2.1) z9 : Nat) : Int)))), (sc, .inl (cI, 120, .inl (fun z9 => J ((((hldQ Px Py (Ro ((i + 1) % rn)) (Ro i) pp hh (B1, B2, B3)).2.2) z9 : Nat) : Int)))), (so, .inl (cI, 40, .inl (fun z9 => J ((Or z9 : Nat) : Int)))), (sr, .inl (cI, 80, .inl (fun z9 => J ((Ro z9 : Nat) : Int)))), (sw, .inl (cI, 80, .inl (fun z9 => J ((Ne z9 : Nat) : Int))))] := hD
            have hRq : RI ((Px, Py, Mt, pn), (kn, fl, Hu, hn, A1, A2, A3, mn), (hd, sd, (hldQ Px Py (Ro ((i + 1) % rn)) (Ro i) pp hh (B1, B2, B3)).1, (hldQ Px Py (Ro ((i + 1) % rn)) (Ro i) pp hh (B1, B2, B3)).2.1, (hldQ Px Py (Ro ((i + 1) % rn)) (Ro i) pp hh (B1, B2, B3)).2.2, hh + 1, fp), (Or, Ro, Ne, rn), Mr) := rHold_b (a := Ro ((i + 1) % rn)) (b := Ro i) (c := pp) hRI (by omega) (by omega) (by omega) (by show hh < 120; omega)
            have hX : ∀ z8, -10000 ≤ Px z8 ∧ Px z8 ≤ 10000 := hRq.1
            have hY : ∀ z8, -10000 ≤ Py z8 ∧ Py z8 ≤ 10000 := hRq.2.1
            have hpn : pn ≤ 40 := hRq.2.2.1
            have hHu : ∀ z8, Hu z8 < 40 := hRq.2.2.2.1
            have hhn : hn ≤ 41 := hRq.2.2.2.2.1
            have hA1 : ∀ z8, A1 z8 < 40 := hRq.2.2.2.2.2.1
            have hA2 : ∀ z8, A2 z8 < 40 := hRq.2.2.2.2.2.2.1
            have hA3 : ∀ z8, A3 z8 < 40 := hRq.2.2.2.2.2.2.2.1
            have hmn : mn ≤ 120 := hRq.2.2.2.2.2.2.2.2.1
            have hB1 : ∀ z8, ((hldQ Px Py (Ro ((i + 1) % rn)) (Ro i) pp hh (B1, B2, B3)).1) z8 < 40 := hRq.2.2.2.2.2.2.2.2.2.1
            have hB2 : ∀ z8, ((hldQ Px Py (Ro ((i + 1) % rn)) (Ro i) pp hh (B1, B2, B3)).2.1) z8 < 40 := hRq.2.2.2.2.2.2.2.2.2.2.1
            have hB3 : ∀ z8, ((hldQ Px Py (Ro ((i + 1) % rn)) (Ro i) pp hh (B1, B2, B3)).2.2) z8 < 40 := hRq.2.2.2.2.2.2.2.2.2.2.2.1
            have hhh : (hh + 1) ≤ 120 := hRq.2.2.2.2.2.2.2.2.2.2.2.2.1
            have hOr : ∀ z8, Or z8 < 40 := hRq.2.2.2.2.2.2.2.2.2.2.2.2.2.1
            have hRo : ∀ z8, Ro z8 < 40 := hRq.2.2.2.2.2.2.2.2.2.2.2.2.2.2.1
            have hNe : ∀ z8, Ne z8 < 40 := hRq.2.2.2.2.2.2.2.2.2.2.2.2.2.2.2.1
            have hrn : rn ≤ 80 := hRq.2.2.2.2.2.2.2.2.2.2.2.2.2.2.2.2
            show W _ _ _ _ _ _ _ _ _ _ _ _ _ _ _ (F0 m 114 ls [])
            refine lv_iload C.1 C.2.1 dX4_comes_114 (lv_at hl 1 rfl) ?_
            refine jv_if_eq (tgt := 124) C dX4_comes_116 (by decide) (by omega) (fun h24 => ?_) (fun h24 => ?_)
            · exfalso; omega
            · refine lv_iload C.1 C.2.1 dX4_comes_119 (lv_at hl 0 rfl) ?_
              refine jv_if_ne (tgt := 135) C dX4_comes_121 (by decide) (by omega) (fun h25 => ?_) (fun h25 => ?_)
              · refine lv_iload C.1 C.2.1 dX4_comes_135 (lv_at hl 1 rfl) ?_
                refine jv_if_eq (tgt := 161) C dX4_comes_137 (by decide) (by omega) (fun h26 => ?_) (fun h26 => ?_)
                · exfalso; omega
                · refine lv_iload C.1 C.2.1 dX4_comes_140 (lv_at hl 0 rfl) ?_
                  refine jv_if_ne (tgt := 161) C dX4_comes_142 (by decide) (by omega) (fun h27 => ?_) (fun h27 => ?_)
                  · refine lv_iinc (v := J (((i + 1 : Nat) : Int))) (lv' := [(4, .int (J ((i + 1 : Nat) : Int))), (9, .int (J 1)), (8, .int (J 1)), (7, .int (J ((Ro (((i + rn) - 1) % rn) : Nat) : Int))), (6, .int (J ((Ro ((i + 1) % rn) : Nat) : Int))), (5, .int (J ((Ro i : Nat) : Int))), (0, .ref qq), (1, .int (J ((pp : Nat) : Int))), (2, .int (J ((q : Nat) : Int))), (3, .int (J (b2i (pl))))]) C.1 C.2.1 dX4_comes_161 hl (k := 9) rfl (by rw [show Int32.ofInt 1 = J 1 from rfl, J_add]; exact congrArg J (by omega)) (by decide) rfl (fun ls hl => ?_)
                    refine lv_goto (tgt := 7) C.1 C.2.1 dX4_comes_164 (by decide) ?_
                    have hst : cmS Px Py Ro rn pp i ((B1, B2, B3), hh, Ne, q, pl) = (((hldQ Px Py (Ro ((i + 1) % rn)) (Ro i) pp hh (B1, B2, B3)).1, (hldQ Px Py (Ro ((i + 1) % rn)) (Ro i) pp hh (B1, B2, B3)).2.1, (hldQ Px Py (Ro ((i + 1) % rn)) (Ro i) pp hh (B1, B2, B3)).2.2), hh + 1, Ne, q, pl) := by
                      unfold cmS cmO cmB
                      rw [decide_eq_true (p := trn Px Py (Ro i) (Ro ((i + 1) % rn)) pp < 0) (by omega), decide_eq_true (p := trn Px Py (Ro ((i + rn - 1) % rn)) (Ro i) pp < 0) (by omega)]
                      rw [show cm1 Px Py true (Ro i) (Ro ((i + 1) % rn)) pp ((B1, B2, B3), hh, Ne, q, pl) = (((hldQ Px Py (Ro ((i + 1) % rn)) (Ro i) pp hh (B1, B2, B3)).1, (hldQ Px Py (Ro ((i + 1) % rn)) (Ro i) pp hh (B1, B2, B3)).2.1, (hldQ Px Py (Ro ((i + 1) % rn)) (Ro i) pp hh (B1, B2, B3)).2.2), hh + 1, Ne, q, pl) from rfl]
                      rfl
                    exact ih (i + 1) ((hldQ Px Py (Ro ((i + 1) % rn)) (Ro i) pp hh (B1, B2, B3)).1) ((hldQ Px Py (Ro ((i + 1) % rn)) (Ro i) pp hh (B1, B2, B3)).2.1) ((hldQ Px Py (Ro ((i + 1) % rn)) (Ro i) pp hh (B1, B2, B3)).2.2) (hh + 1) (Ne) (q) (pl) (by omega) (by omega) hB1 hB2 hB3 hNe (by omega) (by omega) (fun z => by first | (have := hi8 z; omega) | (exact absurd z (by decide))) Rf (by rw [hRf, cmL_go (by omega) hst]) H locs hP hD hS ls (lv_sub hl [6, 7, 8, 9, 0] rfl)
                  · exfalso; omega
              · exfalso; omega
set_option maxRecDepth 20000 in
set_option maxHeartbeats 4000000 in
theorem c_X4_comes {pp : Nat} (hRI : RI ((Px, Py, Mt, pn), (kn, fl, Hu, hn, A1, A2, A3, mn), (hd, sd, B1, B2, B3, hh, fp), (Or, Ro, Ne, rn), Mr)) (hpp : pp < 40) (h1 : hh + rn ≤ 120) (hr78 : rn ≤ 78) : cW l yX4_comes cX4_comes 10 none 7 165 D (tyz cI cZ) [.ref qq, .int (J ((pp : Nat) : Int))] (wRS cI cZ qq r0 rx ry rt rh ra rb rc sa sb sc so sr sw ((Px, Py, Mt, pn), (kn, fl, Hu, hn, A1, A2, A3, mn), (hd, sd, B1, B2, B3, hh, fp), (Or, Ro, Ne, rn), Mr)) (wRS cI cZ qq r0 rx ry rt rh ra rb rc sa sb sc so sr sw (rCms pp ((Px, Py, Mt, pn), (kn, fl, Hu, hn, A1, A2, A3, mn), (hd, sd, B1, B2, B3, hh, fp), (Or, Ro, Ne, rn), Mr))) none := by
  refine cW_of (owner := RX4) rfl (by decide) (Nat.le_of_ble_eq_true rfl) ?_
  intro p e s m args below meth c ls C hlk hr hK hP hD hS hl
  have hl : lv_has ls 10 [(0, .ref qq), (1, .int (J ((pp : Nat) : Int)))] := hl
  have hP : va_P D vwCl [(qq, .inr (4, [.ref r0, .ref rx, .ref ry, .ref rt, .int (J ((pn : Nat) : Int)), .int (J (b2i (kn))), .int (J (b2i (fl))), .ref rh, .ref ra, .ref rb, .ref rc, .int (J ((hn : Nat) : Int)), .int (J ((mn : Nat) : Int)), .int (J (b2i (hd))), .int (J (b2i (sd))), .ref sa, .ref sb, .ref sc, .int (J ((hh : Nat) : Int)), .int (J ((fp : Nat) : Int)), .ref so, .ref sr, .ref sw, .int (J ((rn : Nat) : Int))])), (r0, .inl (cI, 7, .inl (fun z9 => J ((Mr z9 : Nat) : Int)))), (rx, .inl (cI, 40, .inl (fun z9 => J (Px z9)))), (ry, .inl (cI, 40, .inl (fun z9 => J (Py z9)))), (rt, .inl (cZ, 40, .inl (fun z9 => J (b2i (Mt z9))))), (rh, .inl (cI, 41, .inl (fun z9 => J ((Hu z9 : Nat) : Int)))), (ra, .inl (cI, 120, .inl (fun z9 => J ((A1 z9 : Nat) : Int)))), (rb, .inl (cI, 120, .inl (fun z9 => J ((A2 z9 : Nat) : Int)))), (rc, .inl (cI, 120, .inl (fun z9 => J ((A3 z9 : Nat) : Int)))), (sa, .inl (cI, 120, .inl (fun z9 => J ((B1 z9 : Nat) : Int)))), (sb, .inl (cI, 120, .inl (fun z9 => J ((B2 z9 : Nat) : Int)))), (sc, .inl (cI, 120, .inl (fun z9 => J ((B3 z9 : Nat) : Int)))), (so, .inl (cI, 40, .inl (fun z9 => J ((Or z9 : Nat) : Int)))), (sr, .inl (cI, 80, .inl (fun z9 => J ((Ro z9 : Nat) : Int)))), (sw, .inl (cI, 80, .inl (fun z9 => J ((Ne z9 : Nat) : Int))))] s.heap := hP
  have hD : va_D _ [(qq, .inr (4, [.ref r0, .ref rx, .ref ry, .ref rt, .int (J ((pn : Nat) : Int)), .int (J (b2i (kn))), .int (J (b2i (fl))), .ref rh, .ref ra, .ref rb, .ref rc, .int (J ((hn : Nat) : Int)), .int (J ((mn : Nat) : Int)), .int (J (b2i (hd))), .int (J (b2i (sd))), .ref sa, .ref sb, .ref sc, .int (J ((hh : Nat) : Int)), .int (J ((fp : Nat) : Int)), .ref so, .ref sr, .ref sw, .int (J ((rn : Nat) : Int))])), (r0, .inl (cI, 7, .inl (fun z9 => J ((Mr z9 : Nat) : Int)))), (rx, .inl (cI, 40, .inl (fun z9 => J (Px z9)))), (ry, .inl (cI, 40, .inl (fun z9 => J (Py z9)))), (rt, .inl (cZ, 40, .inl (fun z9 => J (b2i (Mt z9))))), (rh, .inl (cI, 41, .inl (fun z9 => J ((Hu z9 : Nat) : Int)))), (ra, .inl (cI, 120, .inl (fun z9 => J ((A1 z9 : Nat) : Int)))), (rb, .inl (cI, 120, .inl (fun z9 => J ((A2 z9 : Nat) : Int)))), (rc, .inl (cI, 120, .inl (fun z9 => J ((A3 z9 : Nat) : Int)))), (sa, .inl (cI, 120, .inl (fun z9 => J ((B1 z9 : Nat) : Int)))), (sb, .inl (cI, 120, .inl (fun z9 => J ((B2 z9 : Nat) : Int)))), (sc, .inl (cI, 120, .inl (fun z9 => J ((B3 z9 : Nat) : Int)))), (so, .inl (cI, 40, .inl (fun z9 => J ((Or z9 : Nat) : Int)))), (sr, .inl (cI, 80, .inl (fun z9 => J ((Ro z9 : Nat) : Int)))), (sw, .inl (cI, 80, .inl (fun z9 => J ((Ne z9 : Nat) : Int))))] := hD
  have hX : ∀ i, -10000 ≤ Px i ∧ Px i ≤ 10000 := hRI.1
  have hY : ∀ i, -10000 ≤ Py i ∧ Py i ≤ 10000 := hRI.2.1
  have hpn : pn ≤ 40 := hRI.2.2.1
  have hHu : ∀ i, Hu i < 40 := hRI.2.2.2.1
  have hhn : hn ≤ 41 := hRI.2.2.2.2.1
  have hA1 : ∀ i, A1 i < 40 := hRI.2.2.2.2.2.1
  have hA2 : ∀ i, A2 i < 40 := hRI.2.2.2.2.2.2.1
  have hA3 : ∀ i, A3 i < 40 := hRI.2.2.2.2.2.2.2.1
  have hmn : mn ≤ 120 := hRI.2.2.2.2.2.2.2.2.1
  have hB1 : ∀ i, B1 i < 40 := hRI.2.2.2.2.2.2.2.2.2.1
  have hB2 : ∀ i, B2 i < 40 := hRI.2.2.2.2.2.2.2.2.2.2.1
  have hB3 : ∀ i, B3 i < 40 := hRI.2.2.2.2.2.2.2.2.2.2.2.1
  have hhh : hh ≤ 120 := hRI.2.2.2.2.2.2.2.2.2.2.2.2.1
  have hOr : ∀ i, Or i < 40 := hRI.2.2.2.2.2.2.2.2.2.2.2.2.2.1
  have hRo : ∀ i, Ro i < 40 := hRI.2.2.2.2.2.2.2.2.2.2.2.2.2.2.1
  have hNe : ∀ i, Ne i < 40 := hRI.2.2.2.2.2.2.2.2.2.2.2.2.2.2.2.1
  have hrn : rn ≤ 80 := hRI.2.2.2.2.2.2.2.2.2.2.2.2.2.2.2.2
  refine jv_iconst C dX4_comes_0 ?_
  refine lv_istore_n (lv' := [(2, .int (J 0)), (0, .ref qq), (1, .int (J ((pp : Nat) : Int)))]) C.1 C.2.1 dX4_comes_1 rfl hl (by decide) rfl (fun ls hl => ?_)
  refine jv_iconst C dX4_comes_2 ?_
  refine lv_istore_n (lv' := [(3, .int (J 0)), (2, .int (J 0)), (0, .ref qq), (1, .int (J ((pp : Nat) : Int)))]) C.1 C.2.1 dX4_comes_3 rfl hl (by decide) rfl (fun ls hl => ?_)
  refine jv_iconst C dX4_comes_4 ?_
  refine lv_istore (lv' := [(4, .int (J 0)), (3, .int (J 0)), (2, .int (J 0)), (0, .ref qq), (1, .int (J ((pp : Nat) : Int)))]) C.1 C.2.1 dX4_comes_5 hl (by decide) rfl (fun ls hl => ?_)
  exact lp_X4_comes_7 C hlk hr hK hRI hpp hr78 (rn + 1) 0 B1 B2 B3 hh Ne 0 false (by omega) (by omega) hB1 hB2 hB3 hNe (by omega) (by omega) (by omega) _ rfl _ _ hP hD hS ls (lv_sub hl [3, 4, 2, 1, 0] rfl)
end REFK
