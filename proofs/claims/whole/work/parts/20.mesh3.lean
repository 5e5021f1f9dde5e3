abbrev AB : Type := (Nat → Nat) × (Nat → Nat)
def AB3 (B : AB) : Prop := (∀ i, B.1 i < 40) ∧ ∀ i, B.2 i < 40
def lnk (a b : Nat) (B : AB) : AB := (sn B.1 a b, sn B.2 b a)
theorem lnk_b {a b : Nat} {B : AB} (h : AB3 B) (ha : a < 40) (hb : b < 40) : AB3 (lnk a b B) := ⟨sn_lt h.1 _ hb, sn_lt h.2 _ ha⟩
def lfT (O : Nat → Nat) (lf : Bool) (top apex i : Nat) (R : MT × AB) : MT × AB := if i < apex then lfT O lf top apex (i + 1) (addT (if lf then O (i - 1) else O i) (if lf then O i else O (i - 1)) top R.1, lnk (if lf then O (i - 1) else O i) (if lf then O i else O (i - 1)) R.2) else R
termination_by apex - i
theorem lfT_end {O : Nat → Nat} {lf : Bool} {top apex i : Nat} {R : MT × AB} (h : apex ≤ i) : lfT O lf top apex i R = R := by rw [lfT, if_neg (by omega)]
theorem lfT_goT {O : Nat → Nat} {top apex i : Nat} {R : MT × AB} (h : i < apex) : lfT O true top apex i R = lfT O true top apex (i + 1) (addT (O (i - 1)) (O i) top R.1, lnk (O (i - 1)) (O i) R.2) := by rw [lfT, if_pos h]; rfl
theorem lfT_goF {O : Nat → Nat} {top apex i : Nat} {R : MT × AB} (h : i < apex) : lfT O false top apex i R = lfT O false top apex (i + 1) (addT (O i) (O (i - 1)) top R.1, lnk (O i) (O (i - 1)) R.2) := by rw [lfT, if_pos h]; rfl
def lfE (O : Nat → Nat) (lf : Bool) (top apex : Nat) (R : MT × AB) : MT × AB := (R.1, lnk top (if lf then O 0 else O (apex - 1)) (lnk (if lf then O (apex - 1) else O 0) top R.2))
def lfl (X Y : Nat → Int) (O : Nat → Nat) (apex : Nat) : Bool := decide (0 < le3 X Y (O 0) (O (apex - 1)) (O apex))
def lfA (X Y : Nat → Int) (O : Nat → Nat) (apex : Nat) (R : MT × AB) : MT × AB := lfE O (lfl X Y O apex) (O apex) apex (lfT O (lfl X Y O apex) (O apex) apex 1 R)
def ln1 (X Y : Nat → Int) (Af : Nat → Nat) (p : Nat) : Nat → Nat → MT → Nat × MT
  | 0, e, M => (e, M)
  | k + 1, e, M => if le3 X Y e (Af e) p < 0 then ln1 X Y Af p k (Af e) (addT e p (Af e) M) else (e, M)
theorem ln1_stop {X Y : Nat → Int} {Af : Nat → Nat} {p k e : Nat} {M : MT} (h : k = 0 ∨ 0 ≤ le3 X Y e (Af e) p) : ln1 X Y Af p k e M = (e, M) := by
  cases k with
  | zero => rfl
  | succ k => rw [ln1, if_neg (by omega)]
theorem ln1_go {X Y : Nat → Int} {Af : Nat → Nat} {p k e : Nat} {M : MT} (h0 : 0 < k) (h : le3 X Y e (Af e) p < 0) : ln1 X Y Af p k e M = ln1 X Y Af p (k - 1) (Af e) (addT e p (Af e) M) := by
  obtain ⟨j, rfl⟩ : ∃ j, k = j + 1 := ⟨k - 1, by omega⟩
  rw [ln1, if_pos h]; rfl
def ln2 (X Y : Nat → Int) (Bf : Nat → Nat) (p : Nat) : Nat → Nat → MT → Nat × MT
  | 0, e, M => (e, M)
  | k + 1, e, M => if le3 X Y (Bf e) e p < 0 then ln2 X Y Bf p k (Bf e) (addT (Bf e) p e M) else (e, M)
theorem ln2_stop {X Y : Nat → Int} {Bf : Nat → Nat} {p k e : Nat} {M : MT} (h : k = 0 ∨ 0 ≤ le3 X Y (Bf e) e p) : ln2 X Y Bf p k e M = (e, M) := by
  cases k with
  | zero => rfl
  | succ k => rw [ln2, if_neg (by omega)]
theorem ln2_go {X Y : Nat → Int} {Bf : Nat → Nat} {p k e : Nat} {M : MT} (h0 : 0 < k) (h : le3 X Y (Bf e) e p < 0) : ln2 X Y Bf p k e M = ln2 X Y Bf p (k - 1) (Bf e) (addT (Bf e) p e M) := by
  obtain ⟨j, rfl⟩ : ∃ j, k = j + 1 := ⟨k - 1, by omega⟩
  rw [ln2, if_pos h]; rfl
def lnT (X Y : Nat → Int) (a p : Nat) (R : MT × AB) : MT × AB :=
  ((ln2 X Y R.2.2 p 40 a (ln1 X Y R.2.1 p 40 a R.1).2).2, lnk p (ln1 X Y R.2.1 p 40 a R.1).1 (lnk (ln2 X Y R.2.2 p 40 a (ln1 X Y R.2.1 p 40 a R.1).2).1 p R.2))
def loL (X Y : Nat → Int) (O : Nat → Nat) (n i : Nat) (R : MT × AB) : MT × AB := if i < n then loL X Y O n (i + 1) (lnT X Y (O (i - 1)) (O i) R) else R
termination_by n - i
theorem loL_end {X Y : Nat → Int} {O : Nat → Nat} {n i : Nat} {R : MT × AB} (h : n ≤ i) : loL X Y O n i R = R := by rw [loL, if_neg (by omega)]
theorem loL_go {X Y : Nat → Int} {O : Nat → Nat} {n i : Nat} {R : MT × AB} (h : i < n) : loL X Y O n i R = loL X Y O n (i + 1) (lnT X Y (O (i - 1)) (O i) R) := by rw [loL, if_pos h]
def loT (X Y : Nat → Int) (O : Nat → Nat) (pres : Nat) (R : MT × AB) : MT × AB := if fol X Y O pres < pres then loL X Y O pres (fol X Y O pres + 1) (lfA X Y O (fol X Y O pres) ((R.1.1, 0, fil 1600 R.1.2.2), R.2)) else ((R.1.1, 0, fil 1600 R.1.2.2), R.2)
theorem lfT_b {O : Nat → Nat} (hO : ∀ i, O i < 40) {lf : Bool} {top apex : Nat} (ht : top < 40) : ∀ (k i : Nat) (R : MT × AB), apex ≤ i + k → MB3 R.1 → AB3 R.2 → MB3 (lfT O lf top apex i R).1 ∧ AB3 (lfT O lf top apex i R).2 := by
  intro k
  induction k with
  | zero => intro i R h h1 h2; rw [lfT_end (by omega)]; exact ⟨h1, h2⟩
  | succ k ih =>
    intro i R h h1 h2
    rcases Nat.lt_or_ge i apex with q | q
    · cases lf with
      | true => rw [lfT_goT q]; exact ih (i + 1) _ (by omega) (addT_b h1 (hO _) (hO _) ht) (lnk_b h2 (hO _) (hO _))
      | false => rw [lfT_goF q]; exact ih (i + 1) _ (by omega) (addT_b h1 (hO _) (hO _) ht) (lnk_b h2 (hO _) (hO _))
    · rw [lfT_end q]; exact ⟨h1, h2⟩
theorem lfA_b {X Y : Nat → Int} {O : Nat → Nat} (hO : ∀ i, O i < 40) {apex : Nat} {R : MT × AB} (h1 : MB3 R.1) (h2 : AB3 R.2) : MB3 (lfA X Y O apex R).1 ∧ AB3 (lfA X Y O apex R).2 := by
  have h := lfT_b hO (lf := lfl X Y O apex) (apex := apex) (hO apex) apex 1 R (by omega) h1 h2
  refine ⟨h.1, lnk_b (lnk_b h.2 ?_ (hO _)) (hO _) ?_⟩ <;> (split <;> exact hO _)
theorem ln1_b {X Y : Nat → Int} {Af : Nat → Nat} (hA : ∀ i, Af i < 40) {p : Nat} (hp : p < 40) : ∀ (k e : Nat) (M : MT), e < 40 → MB3 M → (ln1 X Y Af p k e M).1 < 40 ∧ MB3 (ln1 X Y Af p k e M).2 := by
  intro k
  induction k with
  | zero => intro e M he h; exact ⟨he, h⟩
  | succ k ih =>
    intro e M he h
    rw [ln1]
    split
    · exact ih _ _ (hA e) (addT_b h he hp (hA e))
    · exact ⟨he, h⟩
theorem ln2_b {X Y : Nat → Int} {Bf : Nat → Nat} (hA : ∀ i, Bf i < 40) {p : Nat} (hp : p < 40) : ∀ (k e : Nat) (M : MT), e < 40 → MB3 M → (ln2 X Y Bf p k e M).1 < 40 ∧ MB3 (ln2 X Y Bf p k e M).2 := by
  intro k
  induction k with
  | zero => intro e M he h; exact ⟨he, h⟩
  | succ k ih =>
    intro e M he h
    rw [ln2]
    split
    · exact ih _ _ (hA e) (addT_b h (hA e) hp he)
    · exact ⟨he, h⟩
theorem lnT_b {X Y : Nat → Int} {a p : Nat} {R : MT × AB} (ha : a < 40) (hp : p < 40) (h1 : MB3 R.1) (h2 : AB3 R.2) : MB3 (lnT X Y a p R).1 ∧ AB3 (lnT X Y a p R).2 := by
  have q1 := ln1_b (X := X) (Y := Y) h2.1 hp 40 a R.1 ha h1
  have q2 := ln2_b (X := X) (Y := Y) h2.2 hp 40 a _ ha q1.2
  exact ⟨q2.2, lnk_b (lnk_b h2 q2.1 hp) hp q1.1⟩
theorem loL_b {X Y : Nat → Int} {O : Nat → Nat} (hO : ∀ i, O i < 40) {n : Nat} : ∀ (k i : Nat) (R : MT × AB), n ≤ i + k → MB3 R.1 → AB3 R.2 → MB3 (loL X Y O n i R).1 ∧ AB3 (loL X Y O n i R).2 := by
  intro k
  induction k with
  | zero => intro i R h h1 h2; rw [loL_end (by omega)]; exact ⟨h1, h2⟩
  | succ k ih =>
    intro i R h h1 h2
    rcases Nat.lt_or_ge i n with q | q
    · rw [loL_go q]
      have := lnT_b (X := X) (Y := Y) (hO (i - 1)) (hO i) h1 h2
      exact ih (i + 1) _ (by omega) this.1 this.2
    · rw [loL_end q]; exact ⟨h1, h2⟩
theorem loT_b {X Y : Nat → Int} {O : Nat → Nat} (hO : ∀ i, O i < 40) {pres : Nat} {R : MT × AB} (h1 : MB3 R.1) (h2 : AB3 R.2) : MB3 (loT X Y O pres R).1 ∧ AB3 (loT X Y O pres R).2 := by
  have h0 : MB3 (R.1.1, 0, fil 1600 R.1.2.2) := ⟨h1.1, by show 0 ≤ 80; omega, fil_th _ h1.2.2⟩
  unfold loT
  split
  · have := lfA_b (X := X) (Y := Y) hO (apex := fol X Y O pres) (R := ((R.1.1, 0, fil 1600 R.1.2.2), R.2)) h0 h2
    exact loL_b hO pres _ _ (by omega) this.1 this.2
  · exact ⟨h0, h2⟩
theorem stl_b {X Y : Nat → Int} {most : Nat} : ∀ (k flips side : Nat) (M : MT), most ≤ flips + k → MB3 M → flips ≤ most → MB3 (stl X Y most flips side M).2 ∧ (stl X Y most flips side M).1 ≤ most := by
  intro k
  induction k with
  | zero => intro flips side M h hM hf; rw [stl_end (by omega)]; exact ⟨hM, hf⟩
  | succ k ih =>
    intro flips side M h hM hf
    by_cases q : flips < most ∧ side < 1600
    · rw [stl_go q]; exact ih _ _ _ (by omega) (flT_b hM (by omega) (by omega)) (by omega)
    · rw [stl_end q]; exact ⟨hM, hf⟩
section MESH3
variable {l : Launch} {D : va_G} {cI cZ : ClassId} {pp ax ay at_ ao mm mc mt ma mb : Nat} {X Y : Nat → Int} {T : Nat → Bool} {O : Nat → Nat} {told pres : Nat} {Cd : Nat → Nat} {sz : Nat} {Th : Nat → Int} {Af Bf : Nat → Nat}
set_option maxRecDepth 20000 in
theorem lp_X0_settleUpTo_8 {p : Program} {e : Env} {s : State} {m : MethodId} {args : Array Value} {below : List Frame} {meth : Method} {c : Code} {WC : va_W} {most : Nat} (C : CallFix p m c cX0_settleUpTo 7 s args TB RX0) (hlk : meth.locks = false) (hr : meth.sig.returnType = (some .int)) (hK : va_K D vwCl (tyz cI cZ) s) (hB : PB X Y O told pres) (hAf : ∀ i, Af i < 40) (hBf : ∀ i, Bf i < 40) (hmo : most ≤ 10000) :
    ∀ (n : Nat) (k sd : Nat) (Cd : Nat → Nat) (sz : Nat) (Th : Nat → Int), most < k + n → k ≤ most → sd ≤ 1600 → MB3 (Cd, sz, Th) → ∀ (Rf : Nat × MT), Rf = stl X Y most k sd (Cd, sz, Th) → ∀ (H : Heap) (locs : List Loc), va_P D vwCl [(mm, .inr (0, [.ref pp, .ref mc, .int (J ((sz : Nat) : Int)), .ref mt, .ref ma, .ref mb])), (mc, .inl (cI, 80, .inl (fun z9 => J ((Cd z9 : Nat) : Int)))), (mt, .inl (cI, 1600, .inl (fun z9 => J (Th z9)))), (ma, .inl (cI, 40, .inl (fun z9 => J ((Af z9 : Nat) : Int)))), (mb, .inl (cI, 40, .inl (fun z9 => J ((Bf z9 : Nat) : Int)))), (pp, .inr (2, [.ref ax, .ref ay, .ref at_, .ref ao, .int (J ((told : Nat) : Int)), .int (J ((pres : Nat) : Int))])), (ax, .inl (cI, 40, .inl (fun z9 => J (X z9)))), (ay, .inl (cI, 40, .inl (fun z9 => J (Y z9)))), (at_, .inl (cZ, 40, .inl (fun z9 => J (b2i (T z9))))), (ao, .inl (cI, 40, .inl (fun z9 => J ((O z9 : Nat) : Int))))] H → va_D (inW WC) [(mm, .inr (0, [.ref pp, .ref mc, .int (J ((sz : Nat) : Int)), .ref mt, .ref ma, .ref mb])), (mc, .inl (cI, 80, .inl (fun z9 => J ((Cd z9 : Nat) : Int)))), (mt, .inl (cI, 1600, .inl (fun z9 => J (Th z9)))), (ma, .inl (cI, 40, .inl (fun z9 => J ((Af z9 : Nat) : Int)))), (mb, .inl (cI, 40, .inl (fun z9 => J ((Bf z9 : Nat) : Int)))), (pp, .inr (2, [.ref ax, .ref ay, .ref at_, .ref ao, .int (J ((told : Nat) : Int)), .int (J ((pres : Nat) : Int))])), (ax, .inl (cI, 40, .inl (fun z9 => J (X z9)))), (ay, .inl (cI, 40, .inl (fun z9 => J (Y z9)))), (at_, .inl (cZ, 40, .inl (fun z9 => J (b2i (T z9))))), (ao, .inl (cI, 40, .inl (fun z9 => J ((O z9 : Nat) : Int))))] → va_S (inW WC) s.heap H locs → ∀ ls : Array Slot, lv_has ls 7 [(0, .ref mm), (1, .int (J ((most : Nat) : Int))), (2, .int (J ((k : Nat) : Int))), (3, .int (J ((sd : Nat) : Int)))] → W p l e { frames := 4, cells := 0, slots := 0, locals := 105 } s m args below meth c H locs 0 0 (MQ below (QW D WC ((wMesh cI mm mc mt ma mb pp ((Rf.2).1) ((Rf.2).2.1) ((Rf.2).2.2) Af Bf) ++ (wPts cI cZ pp ax ay at_ ao X Y T O told pres)) (some (.int (J ((Rf.1 : Nat) : Int))))) args s 0 0 (inW WC)) (F0 m 8 ls []) := by
  obtain ⟨hX, hY, hO, htd, hps⟩ := hB
  intro n
  induction n with
  | zero => intro k sd Cd sz Th hi0 hi1 hi2 hM3; omega
  | succ n ih =>
    intro k sd Cd sz Th hi0 hi1 hi2 hM3 Rf hRf H locs hP hD hS ls hl
    have hCd : ∀ i, Cd i < 64000 := hM3.1
    have hsz : sz ≤ 80 := hM3.2.1
    have hTh : ∀ i, -1 ≤ Th i ∧ Th i < 40 := hM3.2.2
    refine lv_iload_n C.1 C.2.1 dX0_settleUpTo_8 rfl (lv_at hl 2 rfl) ?_
    refine lv_iload_n C.1 C.2.1 dX0_settleUpTo_9 rfl (lv_at hl 1 rfl) ?_
    refine jv_icmp_ge (tgt := 86) C dX0_settleUpTo_10 (by decide) (by omega) (fun h1 => ?_) (fun h1 => ?_)
    · refine lv_iload_n C.1 C.2.1 dX0_settleUpTo_86 rfl (lv_at hl 2 rfl) ?_
      exact jw_iret C hlk hr dX0_settleUpTo_87 (by rw [hRf, stl_end (by omega)]) (by rw [hRf, stl_end (by omega)]; exact hP) hS
    · refine lv_iload_n C.1 C.2.1 dX0_settleUpTo_13 rfl (lv_at hl 3 rfl) ?_
      refine jv_sipush C dX0_settleUpTo_14 rfl ?_
      refine jv_icmp_ge (tgt := 86) C dX0_settleUpTo_17 (by decide) (by omega) (fun h2 => ?_) (fun h2 => ?_)
      · refine lv_iload_n C.1 C.2.1 dX0_settleUpTo_86 rfl (lv_at hl 2 rfl) ?_
        exact jw_iret C hlk hr dX0_settleUpTo_87 (by rw [hRf, stl_end (by omega)]) (by rw [hRf, stl_end (by omega)]; exact hP) hS
      · refine lv_iload_n C.1 C.2.1 dX0_settleUpTo_20 rfl (lv_at hl 3 rfl) ?_
        refine jv_bipush C dX0_settleUpTo_21 rfl ?_
        refine jv_idiv (a := sd) (b := 40) C dX0_settleUpTo_23 (by omega) (by omega) (by omega) ?_
        refine lv_istore (lv' := [(4, .int (J ((sd / 40 : Nat) : Int))), (0, .ref mm), (1, .int (J ((most : Nat) : Int))), (2, .int (J ((k : Nat) : Int))), (3, .int (J ((sd : Nat) : Int)))]) C.1 C.2.1 dX0_settleUpTo_24 hl (by decide) rfl (fun ls hl => ?_)
        refine lv_iload_n C.1 C.2.1 dX0_settleUpTo_26 rfl (lv_at hl 4 rfl) ?_
        refine jv_bipush C dX0_settleUpTo_27 rfl ?_
        refine jv_irem (a := sd) (b := 40) C dX0_settleUpTo_29 (by omega) (by omega) (by omega) ?_
        refine lv_istore (lv' := [(5, .int (J ((sd % 40 : Nat) : Int))), (4, .int (J ((sd / 40 : Nat) : Int))), (0, .ref mm), (1, .int (J ((most : Nat) : Int))), (2, .int (J ((k : Nat) : Int))), (3, .int (J ((sd : Nat) : Int)))]) C.1 C.2.1 dX0_settleUpTo_30 hl (by decide) rfl (fun ls hl => ?_)
        refine lv_iload C.1 C.2.1 dX0_settleUpTo_32 (lv_at hl 1 rfl) ?_
        refine lv_aload_n C.1 C.2.1 dX0_settleUpTo_34 rfl (lv_at hl 2 rfl) ?_
        refine lv_iload C.1 C.2.1 dX0_settleUpTo_35 (lv_at hl 1 rfl) ?_
        refine lv_iload C.1 C.2.1 dX0_settleUpTo_37 (lv_at hl 0 rfl) ?_
        refine jv_rdV (ni := 2) (ci := 0) (q0 := 0) C [.int (J ((sd / 40 : Nat) : Int)), .int (J ((sd % 40 : Nat) : Int))] [.int (J ((sd / 40 : Nat) : Int))] (c_X0_thirdOf (Cd := Cd) (sz := sz) (Th := Th) (Af := Af) (Bf := Bf) ⟨hM3.1, hM3.2.1, hM3.2.2, hAf, hBf⟩  (a := sd / 40) (b := sd % 40) (by omega) (by omega)) gv_X0_42 (by decide +kernel) (by decide) hK (hP.sub (ws' := [(mm, .inr (0, [.ref pp, .ref mc, .int (J ((sz : Nat) : Int)), .ref mt, .ref ma, .ref mb])), (mc, .inl (cI, 80, .inl (fun z9 => J ((Cd z9 : Nat) : Int)))), (mt, .inl (cI, 1600, .inl (fun z9 => J (Th z9)))), (ma, .inl (cI, 40, .inl (fun z9 => J ((Af z9 : Nat) : Int)))), (mb, .inl (cI, 40, .inl (fun z9 => J ((Bf z9 : Nat) : Int))))]) [0, 1, 2, 3, 4] rfl) rfl rfl rfl hl.1 (by simp [Value.category]) dX0_settleUpTo_39 (by decide) ?_ rfl
        show W _ _ _ _ _ _ _ _ _ _ _ _ _ _ _ (F0 m 42 ls [.int (J (Th ((sd / 40) * 40 + (sd % 40)))), .int (J ((sd / 40 : Nat) : Int))])
        have f3 := hTh ((sd / 40) * 40 + (sd % 40))
        refine lv_aload_n C.1 C.2.1 dX0_settleUpTo_42 rfl (lv_at hl 2 rfl) ?_
        refine lv_iload C.1 C.2.1 dX0_settleUpTo_43 (lv_at hl 0 rfl) ?_
        refine lv_iload C.1 C.2.1 dX0_settleUpTo_45 (lv_at hl 1 rfl) ?_
        refine jv_rdV (ni := 2) (ci := 0) (q0 := 0) C [.int (J ((sd % 40 : Nat) : Int)), .int (J ((sd / 40 : Nat) : Int))] [.int (J (Th ((sd / 40) * 40 + (sd % 40)))), .int (J ((sd / 40 : Nat) : Int))] (c_X0_thirdOf (Cd := Cd) (sz := sz) (Th := Th) (Af := Af) (Bf := Bf) ⟨hM3.1, hM3.2.1, hM3.2.2, hAf, hBf⟩  (a := sd % 40) (b := sd / 40) (by omega) (by omega)) gv_X0_42 (by decide +kernel) (by decide) hK (hP.sub (ws' := [(mm, .inr (0, [.ref pp, .ref mc, .int (J ((sz : Nat) : Int)), .ref mt, .ref ma, .ref mb])), (mc, .inl (cI, 80, .inl (fun z9 => J ((Cd z9 : Nat) : Int)))), (mt, .inl (cI, 1600, .inl (fun z9 => J (Th z9)))), (ma, .inl (cI, 40, .inl (fun z9 => J ((Af z9 : Nat) : Int)))), (mb, .inl (cI, 40, .inl (fun z9 => J ((Bf z9 : Nat) : Int))))]) [0, 1, 2, 3, 4] rfl) rfl rfl rfl hl.1 (by simp [Value.category]) dX0_settleUpTo_47 (by decide) ?_ rfl
        show W _ _ _ _ _ _ _ _ _ _ _ _ _ _ _ (F0 m 50 ls [.int (J (Th ((sd % 40) * 40 + (sd / 40)))), .int (J (Th ((sd / 40) * 40 + (sd % 40)))), .int (J ((sd / 40 : Nat) : Int))])
        have f4 := hTh ((sd % 40) * 40 + (sd / 40))
        refine jv_mmin (z := min (Th ((sd / 40) * 40 + (sd % 40))) (Th ((sd % 40) * 40 + (sd / 40)))) C mw_257 hl.1 (by omega) (rfl) (by decide) (by simp [Value.category]) dX0_settleUpTo_50 ?_
        refine jv_mmin (z := min ((sd / 40 : Nat) : Int) (min (Th ((sd / 40) * 40 + (sd % 40))) (Th ((sd % 40) * 40 + (sd / 40))))) C mw_257 hl.1 (by omega) (rfl) (by decide) (by simp [Value.category]) dX0_settleUpTo_53 ?_
        refine lv_istore (lv' := [(6, .int (J (min ((sd / 40 : Nat) : Int) (min (Th ((sd / 40) * 40 + (sd % 40))) (Th ((sd % 40) * 40 + (sd / 40))))))), (5, .int (J ((sd % 40 : Nat) : Int))), (4, .int (J ((sd / 40 : Nat) : Int))), (0, .ref mm), (1, .int (J ((most : Nat) : Int))), (2, .int (J ((k : Nat) : Int))), (3, .int (J ((sd : Nat) : Int)))]) C.1 C.2.1 dX0_settleUpTo_56 hl (by decide) rfl (fun ls hl => ?_)
        refine lv_aload_n C.1 C.2.1 dX0_settleUpTo_58 rfl (lv_at hl 3 rfl) ?_
        refine lv_iload C.1 C.2.1 dX0_settleUpTo_59 (lv_at hl 2 rfl) ?_
        refine lv_iload C.1 C.2.1 dX0_settleUpTo_61 (lv_at hl 1 rfl) ?_
        have hm5 : MB3 (flT (sd / 40) (sd % 40) (Cd, sz, Th)) := flT_b hM3 (by omega) (by omega)
        refine jv_wrV (ni := 2) (ci := 0) (q0 := 0) (wt := [(mm, .inr (0, [.ref pp, .ref mc, .int (J (((flT (sd / 40) (sd % 40) (Cd, sz, Th)).2.1 : Nat) : Int)), .ref mt, .ref ma, .ref mb])), (mc, .inl (cI, 80, .inl (fun z9 => J ((((flT (sd / 40) (sd % 40) (Cd, sz, Th)).1) z9 : Nat) : Int)))), (mt, .inl (cI, 1600, .inl (fun z9 => J (((flT (sd / 40) (sd % 40) (Cd, sz, Th)).2.2) z9)))), (ma, .inl (cI, 40, .inl (fun z9 => J ((Af z9 : Nat) : Int)))), (mb, .inl (cI, 40, .inl (fun z9 => J ((Bf z9 : Nat) : Int)))), (pp, .inr (2, [.ref ax, .ref ay, .ref at_, .ref ao, .int (J ((told : Nat) : Int)), .int (J ((pres : Nat) : Int))])), (ax, .inl (cI, 40, .inl (fun z9 => J (X z9)))), (ay, .inl (cI, 40, .inl (fun z9 => J (Y z9)))), (at_, .inl (cZ, 40, .inl (fun z9 => J (b2i (T z9))))), (ao, .inl (cI, 40, .inl (fun z9 => J ((O z9 : Nat) : Int))))]) C [.int (J ((sd / 40 : Nat) : Int)), .int (J ((sd % 40 : Nat) : Int))] [] (c_X0_flipSide (Cd := Cd) (sz := sz) (Th := Th) (Af := Af) (Bf := Bf) (a := sd / 40) (b := sd % 40) ⟨hM3.1, hM3.2.1, hM3.2.2, hAf, hBf⟩ (by omega) (by omega)) gv_X0_106 (by decide +kernel) (by decide) hK hP hD hS [0, 1, 2, 3, 4] rfl (by decide) rfl rfl rfl rfl rfl rfl hl.1 (by simp [Value.category]) dX0_settleUpTo_63 (by decide) (fun H locs hP hD hS => ?_) rfl
        show W _ _ _ _ _ _ _ _ _ _ _ _ _ _ _ (F0 m 66 ls [])
        refine lv_iinc (v := J (((k + 1 : Nat) : Int))) (lv' := [(2, .int (J ((k + 1 : Nat) : Int))), (6, .int (J (min ((sd / 40 : Nat) : Int) (min (Th ((sd / 40) * 40 + (sd % 40))) (Th ((sd % 40) * 40 + (sd / 40))))))), (5, .int (J ((sd % 40 : Nat) : Int))), (4, .int (J ((sd / 40 : Nat) : Int))), (0, .ref mm), (1, .int (J ((most : Nat) : Int))), (3, .int (J ((sd : Nat) : Int)))]) C.1 C.2.1 dX0_settleUpTo_66 hl (k := 5) rfl (by rw [show Int32.ofInt 1 = J 1 from rfl, J_add]; exact congrArg J (by omega)) (by decide) rfl (fun ls hl => ?_)
        have hls : lst Th (sd / 40) (sd % 40) < 40 := by unfold lst; omega
        refine lv_aload_n C.1 C.2.1 dX0_settleUpTo_69 rfl (lv_at hl 4 rfl) ?_
        refine lv_iload C.1 C.2.1 dX0_settleUpTo_70 (lv_at hl 1 rfl) ?_
        refine jv_iconst C dX0_settleUpTo_72 ?_
        refine jv_mmax (z := max (min ((sd / 40 : Nat) : Int) (min (Th ((sd / 40) * 40 + (sd % 40))) (Th ((sd % 40) * 40 + (sd / 40))))) 0) C mw_272 hl.1 (by omega) (rfl) (by decide) (by simp [Value.category]) dX0_settleUpTo_73 ?_
        refine jv_bipush C dX0_settleUpTo_76 rfl ?_
        refine jv_imul (z := ((lst Th (sd / 40) (sd % 40) * 40 : Nat) : Int)) C dX0_settleUpTo_78 (by unfold lst; omega) ?_
        refine jv_rdV (ni := 1) (ci := 0) (q0 := 0) C [.int (J ((lst Th (sd / 40) (sd % 40) * 40 : Nat) : Int))] [] (c_X0_firstBadSide (Cd := (flT (sd / 40) (sd % 40) (Cd, sz, Th)).1) (sz := (flT (sd / 40) (sd % 40) (Cd, sz, Th)).2.1) (Th := (flT (sd / 40) (sd % 40) (Cd, sz, Th)).2.2) (Af := Af) (Bf := Bf) ⟨hm5.1, hm5.2.1, hm5.2.2, hAf, hBf⟩ ⟨hX, hY, hO, htd, hps⟩ (k := lst Th (sd / 40) (sd % 40) * 40) (by omega)) gv_X0_103 (by decide +kernel) (by decide) hK (hP) rfl rfl rfl hl.1 (by simp [Value.category]) dX0_settleUpTo_79 (by decide) ?_ rfl
        show W _ _ _ _ _ _ _ _ _ _ _ _ _ _ _ (F0 m 82 ls [.int (J ((fb X Y ((flT (sd / 40) (sd % 40) (Cd, sz, Th)).2.2) (lst Th (sd / 40) (sd % 40) * 40) : Nat) : Int))])
        have f6 := fb_le X Y ((flT (sd / 40) (sd % 40) (Cd, sz, Th)).2.2) (lst Th (sd / 40) (sd % 40) * 40)
        refine lv_istore_n (lv' := [(3, .int (J ((fb X Y ((flT (sd / 40) (sd % 40) (Cd, sz, Th)).2.2) (lst Th (sd / 40) (sd % 40) * 40) : Nat) : Int))), (2, .int (J ((k + 1 : Nat) : Int))), (6, .int (J (min ((sd / 40 : Nat) : Int) (min (Th ((sd / 40) * 40 + (sd % 40))) (Th ((sd % 40) * 40 + (sd / 40))))))), (5, .int (J ((sd % 40 : Nat) : Int))), (4, .int (J ((sd / 40 : Nat) : Int))), (0, .ref mm), (1, .int (J ((most : Nat) : Int)))]) C.1 C.2.1 dX0_settleUpTo_82 rfl hl (by decide) rfl (fun ls hl => ?_)
        refine lv_goto (tgt := 8) C.1 C.2.1 dX0_settleUpTo_83 (by decide) ?_
        exact ih (k + 1) (fb X Y ((flT (sd / 40) (sd % 40) (Cd, sz, Th)).2.2) (lst Th (sd / 40) (sd % 40) * 40)) ((flT (sd / 40) (sd % 40) (Cd, sz, Th)).1) ((flT (sd / 40) (sd % 40) (Cd, sz, Th)).2.1) ((flT (sd / 40) (sd % 40) (Cd, sz, Th)).2.2) (by omega) (by omega) (by omega) hm5 Rf (hRf.trans (stl_go ⟨by omega, by omega⟩)) H locs hP hD hS ls (lv_sub hl [5, 6, 1, 0] rfl)
set_option maxRecDepth 20000 in
theorem c_X0_settleUpTo {most : Nat} (hM : MBd Cd sz Th Af Bf) (hB : PB X Y O told pres) (hmo : most ≤ 10000) : cW l yX0_settleUpTo cX0_settleUpTo 7 (some .int) 4 105 D (tyz cI cZ) [.ref mm, .int (J ((most : Nat) : Int))] ((wMesh cI mm mc mt ma mb pp Cd sz Th Af Bf) ++ (wPts cI cZ pp ax ay at_ ao X Y T O told pres)) ((wMesh cI mm mc mt ma mb pp (((stl X Y most 0 (fb X Y Th 0) (Cd, sz, Th)).2).1) (((stl X Y most 0 (fb X Y Th 0) (Cd, sz, Th)).2).2.1) (((stl X Y most 0 (fb X Y Th 0) (Cd, sz, Th)).2).2.2) Af Bf) ++ (wPts cI cZ pp ax ay at_ ao X Y T O told pres)) (some (.int (J (((stl X Y most 0 (fb X Y Th 0) (Cd, sz, Th)).1 : Nat) : Int)))) := by
  refine cW_of (owner := RX0) rfl (by decide) (Nat.le_of_ble_eq_true rfl) ?_
  intro p e s m args below meth c ls C hlk hr hK hP hD hS hl
  have hl : lv_has ls 7 [(0, .ref mm), (1, .int (J ((most : Nat) : Int)))] := hl
  have hP : va_P D vwCl [(mm, .inr (0, [.ref pp, .ref mc, .int (J ((sz : Nat) : Int)), .ref mt, .ref ma, .ref mb])), (mc, .inl (cI, 80, .inl (fun z9 => J ((Cd z9 : Nat) : Int)))), (mt, .inl (cI, 1600, .inl (fun z9 => J (Th z9)))), (ma, .inl (cI, 40, .inl (fun z9 => J ((Af z9 : Nat) : Int)))), (mb, .inl (cI, 40, .inl (fun z9 => J ((Bf z9 : Nat) : Int)))), (pp, .inr (2, [.ref ax, .ref ay, .ref at_, .ref ao, .int (J ((told : Nat) : Int)), .int (J ((pres : Nat) : Int))])), (ax, .inl (cI, 40, .inl (fun z9 => J (X z9)))), (ay, .inl (cI, 40, .inl (fun z9 => J (Y z9)))), (at_, .inl (cZ, 40, .inl (fun z9 => J (b2i (T z9))))), (ao, .inl (cI, 40, .inl (fun z9 => J ((O z9 : Nat) : Int))))] s.heap := hP
  have hD : va_D _ [(mm, .inr (0, [.ref pp, .ref mc, .int (J ((sz : Nat) : Int)), .ref mt, .ref ma, .ref mb])), (mc, .inl (cI, 80, .inl (fun z9 => J ((Cd z9 : Nat) : Int)))), (mt, .inl (cI, 1600, .inl (fun z9 => J (Th z9)))), (ma, .inl (cI, 40, .inl (fun z9 => J ((Af z9 : Nat) : Int)))), (mb, .inl (cI, 40, .inl (fun z9 => J ((Bf z9 : Nat) : Int)))), (pp, .inr (2, [.ref ax, .ref ay, .ref at_, .ref ao, .int (J ((told : Nat) : Int)), .int (J ((pres : Nat) : Int))])), (ax, .inl (cI, 40, .inl (fun z9 => J (X z9)))), (ay, .inl (cI, 40, .inl (fun z9 => J (Y z9)))), (at_, .inl (cZ, 40, .inl (fun z9 => J (b2i (T z9))))), (ao, .inl (cI, 40, .inl (fun z9 => J ((O z9 : Nat) : Int))))] := hD
  obtain ⟨hCd, hsz, hTh, hAf, hBf⟩ := hM
  obtain ⟨hX, hY, hO, htd, hps⟩ := hB
  refine jv_iconst C dX0_settleUpTo_0 ?_
  refine lv_istore_n (lv' := [(2, .int (J 0)), (0, .ref mm), (1, .int (J ((most : Nat) : Int)))]) C.1 C.2.1 dX0_settleUpTo_1 rfl hl (by decide) rfl (fun ls hl => ?_)
  refine lv_aload_n C.1 C.2.1 dX0_settleUpTo_2 rfl (lv_at hl 1 rfl) ?_
  refine jv_iconst C dX0_settleUpTo_3 ?_
  refine jv_rdV (ni := 1) (ci := 0) (q0 := 0) C [.int (J 0)] [] (c_X0_firstBadSide (Cd := Cd) (sz := sz) (Th := Th) (Af := Af) (Bf := Bf) ⟨hCd, hsz, hTh, hAf, hBf⟩ ⟨hX, hY, hO, htd, hps⟩ (k := 0) (by omega)) gv_X0_103 (by decide +kernel) (by decide) hK (hP) rfl rfl rfl hl.1 (by simp [Value.category]) dX0_settleUpTo_4 (by decide) ?_ rfl
  show W _ _ _ _ _ _ _ _ _ _ _ _ _ _ _ (F0 m 7 ls [.int (J ((fb X Y Th 0 : Nat) : Int))])
  have f1 := fb_le X Y Th 0
  refine lv_istore_n (lv' := [(3, .int (J ((fb X Y Th 0 : Nat) : Int))), (2, .int (J 0)), (0, .ref mm), (1, .int (J ((most : Nat) : Int)))]) C.1 C.2.1 dX0_settleUpTo_7 rfl hl (by decide) rfl (fun ls hl => ?_)
  exact lp_X0_settleUpTo_8 C hlk hr hK ⟨hX, hY, hO, htd, hps⟩ hAf hBf hmo (most + 1) 0 (fb X Y Th 0) Cd sz Th (by omega) (by omega) (by omega) ⟨hCd, hsz, hTh⟩ _ rfl _ _ hP hD hS ls (lv_sub hl [2, 3, 1, 0] rfl)
set_option maxRecDepth 20000 in
theorem c_X0_linkBorder {a b : Nat} (hM : MBd Cd sz Th Af Bf) (ha : a < 40) (hb : b < 40) : cW l yX0_linkBorder cX0_linkBorder 3 none 0 0 D (tyz cI cZ) [.ref mm, .int (J ((a : Nat) : Int)), .int (J ((b : Nat) : Int))] (wMesh cI mm mc mt ma mb pp Cd sz Th Af Bf) (wMesh cI mm mc mt ma mb pp Cd sz Th ((lnk a b (Af, Bf)).1) ((lnk a b (Af, Bf)).2)) none := by
  refine cW_of (owner := RX0) rfl (by decide) (Nat.le_of_ble_eq_true rfl) ?_
  intro p e s m args below meth c ls C hlk hr hK hP hD hS hl
  have hl : lv_has ls 3 [(0, .ref mm), (1, .int (J ((a : Nat) : Int))), (2, .int (J ((b : Nat) : Int)))] := hl
  have hP : va_P D vwCl [(mm, .inr (0, [.ref pp, .ref mc, .int (J ((sz : Nat) : Int)), .ref mt, .ref ma, .ref mb])), (mc, .inl (cI, 80, .inl (fun z9 => J ((Cd z9 : Nat) : Int)))), (mt, .inl (cI, 1600, .inl (fun z9 => J (Th z9)))), (ma, .inl (cI, 40, .inl (fun z9 => J ((Af z9 : Nat) : Int)))), (mb, .inl (cI, 40, .inl (fun z9 => J ((Bf z9 : Nat) : Int))))] s.heap := hP
  have hD : va_D _ [(mm, .inr (0, [.ref pp, .ref mc, .int (J ((sz : Nat) : Int)), .ref mt, .ref ma, .ref mb])), (mc, .inl (cI, 80, .inl (fun z9 => J ((Cd z9 : Nat) : Int)))), (mt, .inl (cI, 1600, .inl (fun z9 => J (Th z9)))), (ma, .inl (cI, 40, .inl (fun z9 => J ((Af z9 : Nat) : Int)))), (mb, .inl (cI, 40, .inl (fun z9 => J ((Bf z9 : Nat) : Int))))] := hD
  obtain ⟨hCd, hsz, hTh, hAf, hBf⟩ := hM
  refine lv_aload_n C.1 C.2.1 dX0_linkBorder_0 rfl (lv_at hl 0 rfl) ?_
  refine jv_get C fw_X0_18 hK hP 0 rfl rfl dX0_linkBorder_1 ?_
  refine lv_iload_n C.1 C.2.1 dX0_linkBorder_4 rfl (lv_at hl 1 rfl) ?_
  refine lv_iload_n C.1 C.2.1 dX0_linkBorder_5 rfl (lv_at hl 2 rfl) ?_
  refine jv_iast (G := fun z9 => (((sn Af a b) z9 : Nat) : Int)) C hK hP hD hS 3 0 rfl rfl (a) (by omega) (by omega) (by decide) (sn_nat Af a b) dX0_linkBorder_6 (fun H locs hP hD hS => ?_)
  have hP : va_P D vwCl [(mm, .inr (0, [.ref pp, .ref mc, .int (J ((sz : Nat) : Int)), .ref mt, .ref ma, .ref mb])), (mc, .inl (cI, 80, .inl (fun z9 => J ((Cd z9 : Nat) : Int)))), (mt, .inl (cI, 1600, .inl (fun z9 => J (Th z9)))), (ma, .inl (cI, 40, .inl (fun z9 => J (((sn Af a b) z9 : Nat) : Int)))), (mb, .inl (cI, 40, .inl (fun z9 => J ((Bf z9 : Nat) : Int))))] H := hP
  have hD : va_D _ [(mm, .inr (0, [.ref pp, .ref mc, .int (J ((sz : Nat) : Int)), .ref mt, .ref ma, .ref mb])), (mc, .inl (cI, 80, .inl (fun z9 => J ((Cd z9 : Nat) : Int)))), (mt, .inl (cI, 1600, .inl (fun z9 => J (Th z9)))), (ma, .inl (cI, 40, .inl (fun z9 => J (((sn Af a b) z9 : Nat) : Int)))), (mb, .inl (cI, 40, .inl (fun z9 => J ((Bf z9 : Nat) : Int))))] := hD
  have hAf := sn_lt hAf a (z := b) (by omega)
  refine lv_aload_n C.1 C.2.1 dX0_linkBorder_7 rfl (lv_at hl 0 rfl) ?_
  refine jv_get C fw_X0_21 hK hP 0 rfl rfl dX0_linkBorder_8 ?_
  refine lv_iload_n C.1 C.2.1 dX0_linkBorder_11 rfl (lv_at hl 2 rfl) ?_
  refine lv_iload_n C.1 C.2.1 dX0_linkBorder_12 rfl (lv_at hl 1 rfl) ?_
  refine jv_iast (G := fun z9 => (((sn Bf b a) z9 : Nat) : Int)) C hK hP hD hS 4 0 rfl rfl (b) (by omega) (by omega) (by decide) (sn_nat Bf b a) dX0_linkBorder_13 (fun H locs hP hD hS => ?_)
  have hP : va_P D vwCl [(mm, .inr (0, [.ref pp, .ref mc, .int (J ((sz : Nat) : Int)), .ref mt, .ref ma, .ref mb])), (mc, .inl (cI, 80, .inl (fun z9 => J ((Cd z9 : Nat) : Int)))), (mt, .inl (cI, 1600, .inl (fun z9 => J (Th z9)))), (ma, .inl (cI, 40, .inl (fun z9 => J (((sn Af a b) z9 : Nat) : Int)))), (mb, .inl (cI, 40, .inl (fun z9 => J (((sn Bf b a) z9 : Nat) : Int))))] H := hP
  have hD : va_D _ [(mm, .inr (0, [.ref pp, .ref mc, .int (J ((sz : Nat) : Int)), .ref mt, .ref ma, .ref mb])), (mc, .inl (cI, 80, .inl (fun z9 => J ((Cd z9 : Nat) : Int)))), (mt, .inl (cI, 1600, .inl (fun z9 => J (Th z9)))), (ma, .inl (cI, 40, .inl (fun z9 => J (((sn Af a b) z9 : Nat) : Int)))), (mb, .inl (cI, 40, .inl (fun z9 => J (((sn Bf b a) z9 : Nat) : Int))))] := hD
  have hBf := sn_lt hBf b (z := a) (by omega)
  exact jw_vret C hlk hr dX0_linkBorder_14 (hP) hS
set_option maxRecDepth 20000 in
theorem lp_X0_layFirst_51t {p : Program} {e : Env} {s : State} {m : MethodId} {args : Array Value} {below : List Frame} {meth : Method} {c : Code} {WC : va_W} {apex : Nat} (C : CallFix p m c cX0_layFirst 10 s args TB RX0) (hlk : meth.locks = false) (hr : meth.sig.returnType = none) (hK : va_K D vwCl (tyz cI cZ) s) (hB : PB X Y O told pres) (hap : 2 ≤ apex) (ha2 : apex < 40) :
    ∀ (n : Nat) (i : Nat) (Cd : Nat → Nat) (sz : Nat) (Th : Nat → Int) (Af Bf : Nat → Nat), apex < i + n → i ≤ apex → 1 ≤ i → MB3 (Cd, sz, Th) → AB3 (Af, Bf) → ∀ (Rf : MT × AB), Rf = lfE O true (O apex) apex (lfT O true (O apex) apex i ((Cd, sz, Th), (Af, Bf))) → ∀ (H : Heap) (locs : List Loc), va_P D vwCl [(mm, .inr (0, [.ref pp, .ref mc, .int (J ((sz : Nat) : Int)), .ref mt, .ref ma, .ref mb])), (mc, .inl (cI, 80, .inl (fun z9 => J ((Cd z9 : Nat) : Int)))), (mt, .inl (cI, 1600, .inl (fun z9 => J (Th z9)))), (ma, .inl (cI, 40, .inl (fun z9 => J ((Af z9 : Nat) : Int)))), (mb, .inl (cI, 40, .inl (fun z9 => J ((Bf z9 : Nat) : Int)))), (pp, .inr (2, [.ref ax, .ref ay, .ref at_, .ref ao, .int (J ((told : Nat) : Int)), .int (J ((pres : Nat) : Int))])), (ax, .inl (cI, 40, .inl (fun z9 => J (X z9)))), (ay, .inl (cI, 40, .inl (fun z9 => J (Y z9)))), (at_, .inl (cZ, 40, .inl (fun z9 => J (b2i (T z9))))), (ao, .inl (cI, 40, .inl (fun z9 => J ((O z9 : Nat) : Int))))] H → va_D (inW WC) [(mm, .inr (0, [.ref pp, .ref mc, .int (J ((sz : Nat) : Int)), .ref mt, .ref ma, .ref mb])), (mc, .inl (cI, 80, .inl (fun z9 => J ((Cd z9 : Nat) : Int)))), (mt, .inl (cI, 1600, .inl (fun z9 => J (Th z9)))), (ma, .inl (cI, 40, .inl (fun z9 => J ((Af z9 : Nat) : Int)))), (mb, .inl (cI, 40, .inl (fun z9 => J ((Bf z9 : Nat) : Int)))), (pp, .inr (2, [.ref ax, .ref ay, .ref at_, .ref ao, .int (J ((told : Nat) : Int)), .int (J ((pres : Nat) : Int))])), (ax, .inl (cI, 40, .inl (fun z9 => J (X z9)))), (ay, .inl (cI, 40, .inl (fun z9 => J (Y z9)))), (at_, .inl (cZ, 40, .inl (fun z9 => J (b2i (T z9))))), (ao, .inl (cI, 40, .inl (fun z9 => J ((O z9 : Nat) : Int))))] → va_S (inW WC) s.heap H locs → ∀ ls : Array Slot, lv_has ls 10 [(0, .ref mm), (1, .int (J ((apex : Nat) : Int))), (2, .ref ao), (3, .int (J ((O apex : Nat) : Int))), (4, .int (J ((O 0 : Nat) : Int))), (5, .int (J ((O (apex - 1) : Nat) : Int))), (6, .int (J (b2i (true)))), (7, .int (J ((i : Nat) : Int)))] → W p l e { frames := 2, cells := 0, slots := 0, locals := 49 } s m args below meth c H locs 0 0 (MQ below (QW D WC ((wMesh cI mm mc mt ma mb pp ((Rf.1).1) ((Rf.1).2.1) ((Rf.1).2.2) Rf.2.1 Rf.2.2) ++ (wPts cI cZ pp ax ay at_ ao X Y T O told pres)) none) args s 0 0 (inW WC)) (F0 m 51 ls []) := by
  obtain ⟨hX, hY, hO, htd, hps⟩ := hB
  have hq1 := hO apex
  have hq2 := hO 0
  have hq3 := hO (apex - 1)
  intro n
  induction n with
  | zero => intro i Cd sz Th Af Bf hi0 hi1 hi2 hM3 hA3; omega
  | succ n ih =>
    intro i Cd sz Th Af Bf hi0 hi1 hi2 hM3 hA3 Rf hRf H locs hP hD hS ls hl
    refine lv_iload C.1 C.2.1 dX0_layFirst_51 (lv_at hl 7 rfl) ?_
    refine lv_iload_n C.1 C.2.1 dX0_layFirst_53 rfl (lv_at hl 1 rfl) ?_
    refine jv_icmp_ge (tgt := 120) C dX0_layFirst_54 (by decide) (by omega) (fun h1 => ?_) (fun h1 => ?_)
    · refine lv_aload_n C.1 C.2.1 dX0_layFirst_120 rfl (lv_at hl 0 rfl) ?_
      refine lv_iload C.1 C.2.1 dX0_layFirst_121 (lv_at hl 6 rfl) ?_
      refine jv_bif_eq (tgt := 131) C dX0_layFirst_123 (by decide) (fun h2 => ?_) (fun h2 => ?_)
      · exact absurd h2 (by decide)
      · refine lv_iload C.1 C.2.1 dX0_layFirst_126 (lv_at hl 5 rfl) ?_
        refine lv_goto (tgt := 133) C.1 C.2.1 dX0_layFirst_128 (by decide) ?_
        refine lv_iload_n C.1 C.2.1 dX0_layFirst_133 rfl (lv_at hl 3 rfl) ?_
        have hb3 : AB3 (lnk (O (apex - 1)) (O apex) (Af, Bf)) := lnk_b hA3 (by omega) (by omega)
        refine jv_wrV (ni := 2) (ci := 0) (q0 := 0) (wt := [(mm, .inr (0, [.ref pp, .ref mc, .int (J ((sz : Nat) : Int)), .ref mt, .ref ma, .ref mb])), (mc, .inl (cI, 80, .inl (fun z9 => J ((Cd z9 : Nat) : Int)))), (mt, .inl (cI, 1600, .inl (fun z9 => J (Th z9)))), (ma, .inl (cI, 40, .inl (fun z9 => J ((((lnk (O (apex - 1)) (O apex) (Af, Bf)).1) z9 : Nat) : Int)))), (mb, .inl (cI, 40, .inl (fun z9 => J ((((lnk (O (apex - 1)) (O apex) (Af, Bf)).2) z9 : Nat) : Int)))), (pp, .inr (2, [.ref ax, .ref ay, .ref at_, .ref ao, .int (J ((told : Nat) : Int)), .int (J ((pres : Nat) : Int))])), (ax, .inl (cI, 40, .inl (fun z9 => J (X z9)))), (ay, .inl (cI, 40, .inl (fun z9 => J (Y z9)))), (at_, .inl (cZ, 40, .inl (fun z9 => J (b2i (T z9))))), (ao, .inl (cI, 40, .inl (fun z9 => J ((O z9 : Nat) : Int))))]) C [.int (J ((O (apex - 1) : Nat) : Int)), .int (J ((O apex : Nat) : Int))] [] (c_X0_linkBorder (Cd := Cd) (sz := sz) (Th := Th) (Af := Af) (Bf := Bf) (a := O (apex - 1)) (b := O apex) ⟨hM3.1, hM3.2.1, hM3.2.2, hA3.1, hA3.2⟩ (by omega) (by omega)) gv_X0_85 (by decide +kernel) (by decide) hK hP hD hS [0, 1, 2, 3, 4] rfl (by decide) rfl rfl rfl rfl rfl rfl hl.1 (by simp [Value.category]) dX0_layFirst_134 (by decide) (fun H locs hP hD hS => ?_) rfl
        show W _ _ _ _ _ _ _ _ _ _ _ _ _ _ _ (F0 m 137 ls [])
        refine lv_aload_n C.1 C.2.1 dX0_layFirst_137 rfl (lv_at hl 0 rfl) ?_
        refine lv_iload_n C.1 C.2.1 dX0_layFirst_138 rfl (lv_at hl 3 rfl) ?_
        refine lv_iload C.1 C.2.1 dX0_layFirst_139 (lv_at hl 6 rfl) ?_
        refine jv_bif_eq (tgt := 149) C dX0_layFirst_141 (by decide) (fun h4 => ?_) (fun h4 => ?_)
        · exact absurd h4 (by decide)
        · refine lv_iload C.1 C.2.1 dX0_layFirst_144 (lv_at hl 4 rfl) ?_
          refine lv_goto (tgt := 151) C.1 C.2.1 dX0_layFirst_146 (by decide) ?_
          have hb5 : AB3 (lnk (O apex) (O 0) (lnk (O (apex - 1)) (O apex) (Af, Bf))) := lnk_b hb3 (by omega) (by omega)
          refine jv_wrV (ni := 2) (ci := 0) (q0 := 0) (wt := [(mm, .inr (0, [.ref pp, .ref mc, .int (J ((sz : Nat) : Int)), .ref mt, .ref ma, .ref mb])), (mc, .inl (cI, 80, .inl (fun z9 => J ((Cd z9 : Nat) : Int)))), (mt, .inl (cI, 1600, .inl (fun z9 => J (Th z9)))), (ma, .inl (cI, 40, .inl (fun z9 => J ((((lnk (O apex) (O 0) (lnk (O (apex - 1)) (O apex) (Af, Bf))).1) z9 : Nat) : Int)))), (mb, .inl (cI, 40, .inl (fun z9 => J ((((lnk (O apex) (O 0) (lnk (O (apex - 1)) (O apex) (Af, Bf))).2) z9 : Nat) : Int)))), (pp, .inr (2, [.ref ax, .ref ay, .ref at_, .ref ao, .int (J ((told : Nat) : Int)), .int (J ((pres : Nat) : Int))])), (ax, .inl (cI, 40, .inl (fun z9 => J (X z9)))), (ay, .inl (cI, 40, .inl (fun z9 => J (Y z9)))), (at_, .inl (cZ, 40, .inl (fun z9 => J (b2i (T z9))))), (ao, .inl (cI, 40, .inl (fun z9 => J ((O z9 : Nat) : Int))))]) C [.int (J ((O apex : Nat) : Int)), .int (J ((O 0 : Nat) : Int))] [] (c_X0_linkBorder (Cd := Cd) (sz := sz) (Th := Th) (Af := (lnk (O (apex - 1)) (O apex) (Af, Bf)).1) (Bf := (lnk (O (apex - 1)) (O apex) (Af, Bf)).2) (a := O apex) (b := O 0) ⟨hM3.1, hM3.2.1, hM3.2.2, hb3.1, hb3.2⟩ (by omega) (by omega)) gv_X0_85 (by decide +kernel) (by decide) hK hP hD hS [0, 1, 2, 3, 4] rfl (by decide) rfl rfl rfl rfl rfl rfl hl.1 (by simp [Value.category]) dX0_layFirst_151 (by decide) (fun H locs hP hD hS => ?_) rfl
          show W _ _ _ _ _ _ _ _ _ _ _ _ _ _ _ (F0 m 154 ls [])
          exact jw_vret C hlk hr dX0_layFirst_154 (by rw [hRf, lfT_end (by omega)]; exact hP) hS
    · refine lv_iload C.1 C.2.1 dX0_layFirst_57 (lv_at hl 6 rfl) ?_
      refine jv_bif_eq (tgt := 71) C dX0_layFirst_59 (by decide) (fun h6 => ?_) (fun h6 => ?_)
      · exact absurd h6 (by decide)
      · refine lv_aload_n C.1 C.2.1 dX0_layFirst_62 rfl (lv_at hl 2 rfl) ?_
        refine lv_iload C.1 C.2.1 dX0_layFirst_63 (lv_at hl 7 rfl) ?_
        refine jv_iconst C dX0_layFirst_65 ?_
        refine jv_isub (z := ((i - 1 : Nat) : Int)) C dX0_layFirst_66 (by omega) ?_
        refine jv_iald C hK hP 9 0 rfl rfl (i - 1) (by omega) (by omega) (by decide) dX0_layFirst_67 ?_
        have f7 := hO (i - 1)
        refine lv_goto (tgt := 75) C.1 C.2.1 dX0_layFirst_68 (by decide) ?_
        refine lv_istore (lv' := [(8, .int (J ((O (i - 1) : Nat) : Int))), (0, .ref mm), (1, .int (J ((apex : Nat) : Int))), (2, .ref ao), (3, .int (J ((O apex : Nat) : Int))), (4, .int (J ((O 0 : Nat) : Int))), (5, .int (J ((O (apex - 1) : Nat) : Int))), (6, .int (J (b2i (true)))), (7, .int (J ((i : Nat) : Int)))]) C.1 C.2.1 dX0_layFirst_75 hl (by decide) rfl (fun ls hl => ?_)
        refine lv_iload C.1 C.2.1 dX0_layFirst_77 (lv_at hl 7 rfl) ?_
        refine jv_bif_eq (tgt := 89) C dX0_layFirst_79 (by decide) (fun h8 => ?_) (fun h8 => ?_)
        · exact absurd h8 (by decide)
        · refine lv_aload_n C.1 C.2.1 dX0_layFirst_82 rfl (lv_at hl 3 rfl) ?_
          refine lv_iload C.1 C.2.1 dX0_layFirst_83 (lv_at hl 8 rfl) ?_
          refine jv_iald C hK hP 9 0 rfl rfl (i) (by omega) (by omega) (by decide) dX0_layFirst_85 ?_
          have f9 := hO i
          refine lv_goto (tgt := 95) C.1 C.2.1 dX0_layFirst_86 (by decide) ?_
          refine lv_istore (lv' := [(9, .int (J ((O i : Nat) : Int))), (8, .int (J ((O (i - 1) : Nat) : Int))), (0, .ref mm), (1, .int (J ((apex : Nat) : Int))), (2, .ref ao), (3, .int (J ((O apex : Nat) : Int))), (4, .int (J ((O 0 : Nat) : Int))), (5, .int (J ((O (apex - 1) : Nat) : Int))), (6, .int (J (b2i (true)))), (7, .int (J ((i : Nat) : Int)))]) C.1 C.2.1 dX0_layFirst_95 hl (by decide) rfl (fun ls hl => ?_)
          refine lv_aload_n C.1 C.2.1 dX0_layFirst_97 rfl (lv_at hl 2 rfl) ?_
          refine lv_iload C.1 C.2.1 dX0_layFirst_98 (lv_at hl 1 rfl) ?_
          refine lv_iload C.1 C.2.1 dX0_layFirst_100 (lv_at hl 0 rfl) ?_
          refine lv_iload_n C.1 C.2.1 dX0_layFirst_102 rfl (lv_at hl 5 rfl) ?_
          have hm10 : MB3 (addT (O (i - 1)) (O i) (O apex) (Cd, sz, Th)) := addT_b hM3 (by omega) (by omega) (by omega)
          refine jv_wrV (ni := 3) (ci := 0) (q0 := 0) (wt := [(mm, .inr (0, [.ref pp, .ref mc, .int (J (((addT (O (i - 1)) (O i) (O apex) (Cd, sz, Th)).2.1 : Nat) : Int)), .ref mt, .ref ma, .ref mb])), (mc, .inl (cI, 80, .inl (fun z9 => J ((((addT (O (i - 1)) (O i) (O apex) (Cd, sz, Th)).1) z9 : Nat) : Int)))), (mt, .inl (cI, 1600, .inl (fun z9 => J (((addT (O (i - 1)) (O i) (O apex) (Cd, sz, Th)).2.2) z9)))), (ma, .inl (cI, 40, .inl (fun z9 => J ((Af z9 : Nat) : Int)))), (mb, .inl (cI, 40, .inl (fun z9 => J ((Bf z9 : Nat) : Int)))), (pp, .inr (2, [.ref ax, .ref ay, .ref at_, .ref ao, .int (J ((told : Nat) : Int)), .int (J ((pres : Nat) : Int))])), (ax, .inl (cI, 40, .inl (fun z9 => J (X z9)))), (ay, .inl (cI, 40, .inl (fun z9 => J (Y z9)))), (at_, .inl (cZ, 40, .inl (fun z9 => J (b2i (T z9))))), (ao, .inl (cI, 40, .inl (fun z9 => J ((O z9 : Nat) : Int))))]) C [.int (J ((O (i - 1) : Nat) : Int)), .int (J ((O i : Nat) : Int)), .int (J ((O apex : Nat) : Int))] [] (c_X0_addTriangle (Cd := Cd) (sz := sz) (Th := Th) (Af := Af) (Bf := Bf) (a := O (i - 1)) (b := O i) (k := O apex) ⟨hM3.1, hM3.2.1, hM3.2.2, hA3.1, hA3.2⟩ (by omega) (by omega) (by omega)) gv_X0_81 (by decide +kernel) (by decide) hK hP hD hS [0, 1, 2, 3, 4] rfl (by decide) rfl rfl rfl rfl rfl rfl hl.1 (by simp [Value.category]) dX0_layFirst_103 (by decide) (fun H locs hP hD hS => ?_) rfl
          show W _ _ _ _ _ _ _ _ _ _ _ _ _ _ _ (F0 m 106 ls [])
          refine lv_aload_n C.1 C.2.1 dX0_layFirst_106 rfl (lv_at hl 2 rfl) ?_
          refine lv_iload C.1 C.2.1 dX0_layFirst_107 (lv_at hl 1 rfl) ?_
          refine lv_iload C.1 C.2.1 dX0_layFirst_109 (lv_at hl 0 rfl) ?_
          have hb11 : AB3 (lnk (O (i - 1)) (O i) (Af, Bf)) := lnk_b hA3 (by omega) (by omega)
          refine jv_wrV (ni := 2) (ci := 0) (q0 := 0) (wt := [(mm, .inr (0, [.ref pp, .ref mc, .int (J (((addT (O (i - 1)) (O i) (O apex) (Cd, sz, Th)).2.1 : Nat) : Int)), .ref mt, .ref ma, .ref mb])), (mc, .inl (cI, 80, .inl (fun z9 => J ((((addT (O (i - 1)) (O i) (O apex) (Cd, sz, Th)).1) z9 : Nat) : Int)))), (mt, .inl (cI, 1600, .inl (fun z9 => J (((addT (O (i - 1)) (O i) (O apex) (Cd, sz, Th)).2.2) z9)))), (ma, .inl (cI, 40, .inl (fun z9 => J ((((lnk (O (i - 1)) (O i) (Af, Bf)).1) z9 : Nat) : Int)))), (mb, .inl (cI, 40, .inl (fun z9 => J ((((lnk (O (i - 1)) (O i) (Af, Bf)).2) z9 : Nat) : Int)))), (pp, .inr (2, [.ref ax, .ref ay, .ref at_, .ref ao, .int (J ((told : Nat) : Int)), .int (J ((pres : Nat) : Int))])), (ax, .inl (cI, 40, .inl (fun z9 => J (X z9)))), (ay, .inl (cI, 40, .inl (fun z9 => J (Y z9)))), (at_, .inl (cZ, 40, .inl (fun z9 => J (b2i (T z9))))), (ao, .inl (cI, 40, .inl (fun z9 => J ((O z9 : Nat) : Int))))]) C [.int (J ((O (i - 1) : Nat) : Int)), .int (J ((O i : Nat) : Int))] [] (c_X0_linkBorder (Cd := (addT (O (i - 1)) (O i) (O apex) (Cd, sz, Th)).1) (sz := (addT (O (i - 1)) (O i) (O apex) (Cd, sz, Th)).2.1) (Th := (addT (O (i - 1)) (O i) (O apex) (Cd, sz, Th)).2.2) (Af := Af) (Bf := Bf) (a := O (i - 1)) (b := O i) ⟨hm10.1, hm10.2.1, hm10.2.2, hA3.1, hA3.2⟩ (by omega) (by omega)) gv_X0_85 (by decide +kernel) (by decide) hK hP hD hS [0, 1, 2, 3, 4] rfl (by decide) rfl rfl rfl rfl rfl rfl hl.1 (by simp [Value.category]) dX0_layFirst_111 (by decide) (fun H locs hP hD hS => ?_) rfl
          show W _ _ _ _ _ _ _ _ _ _ _ _ _ _ _ (F0 m 114 ls [])
          refine lv_iinc (v := J (((i + 1 : Nat) : Int))) (lv' := [(7, .int (J ((i + 1 : Nat) : Int))), (9, .int (J ((O i : Nat) : Int))), (8, .int (J ((O (i - 1) : Nat) : Int))), (0, .ref mm), (1, .int (J ((apex : Nat) : Int))), (2, .ref ao), (3, .int (J ((O apex : Nat) : Int))), (4, .int (J ((O 0 : Nat) : Int))), (5, .int (J ((O (apex - 1) : Nat) : Int))), (6, .int (J (b2i (true))))]) C.1 C.2.1 dX0_layFirst_114 hl (k := 9) rfl (by rw [show Int32.ofInt 1 = J 1 from rfl, J_add]; exact congrArg J (by omega)) (by decide) rfl (fun ls hl => ?_)
          refine lv_goto (tgt := 51) C.1 C.2.1 dX0_layFirst_117 (by decide) ?_
          exact ih (i + 1) ((addT (O (i - 1)) (O i) (O apex) (Cd, sz, Th)).1) ((addT (O (i - 1)) (O i) (O apex) (Cd, sz, Th)).2.1) ((addT (O (i - 1)) (O i) (O apex) (Cd, sz, Th)).2.2) ((lnk (O (i - 1)) (O i) (Af, Bf)).1) ((lnk (O (i - 1)) (O i) (Af, Bf)).2) (by omega) (by omega) (by omega) hm10 hb11 Rf (hRf.trans (congrArg _ (lfT_goT (by omega)))) H locs hP hD hS ls (lv_sub hl [3, 4, 5, 6, 7, 8, 9, 0] rfl)
set_option maxRecDepth 20000 in
theorem lp_X0_layFirst_51f {p : Program} {e : Env} {s : State} {m : MethodId} {args : Array Value} {below : List Frame} {meth : Method} {c : Code} {WC : va_W} {apex : Nat} (C : CallFix p m c cX0_layFirst 10 s args TB RX0) (hlk : meth.locks = false) (hr : meth.sig.returnType = none) (hK : va_K D vwCl (tyz cI cZ) s) (hB : PB X Y O told pres) (hap : 2 ≤ apex) (ha2 : apex < 40) :
    ∀ (n : Nat) (i : Nat) (Cd : Nat → Nat) (sz : Nat) (Th : Nat → Int) (Af Bf : Nat → Nat), apex < i + n → i ≤ apex → 1 ≤ i → MB3 (Cd, sz, Th) → AB3 (Af, Bf) → ∀ (Rf : MT × AB), Rf = lfE O false (O apex) apex (lfT O false (O apex) apex i ((Cd, sz, Th), (Af, Bf))) → ∀ (H : Heap) (locs : List Loc), va_P D vwCl [(mm, .inr (0, [.ref pp, .ref mc, .int (J ((sz : Nat) : Int)), .ref mt, .ref ma, .ref mb])), (mc, .inl (cI, 80, .inl (fun z9 => J ((Cd z9 : Nat) : Int)))), (mt, .inl (cI, 1600, .inl (fun z9 => J (Th z9)))), (ma, .inl (cI, 40, .inl (fun z9 => J ((Af z9 : Nat) : Int)))), (mb, .inl (cI, 40, .inl (fun z9 => J ((Bf z9 : Nat) : Int)))), (pp, .inr (2, [.ref ax, .ref ay, .ref at_, .ref ao, .int (J ((told : Nat) : Int)), .int (J ((pres : Nat) : Int))])), (ax, .inl (cI, 40, .inl (fun z9 => J (X z9)))), (ay, .inl (cI, 40, .inl (fun z9 => J (Y z9)))), (at_, .inl (cZ, 40, .inl (fun z9 => J (b2i (T z9))))), (ao, .inl (cI, 40, .inl (fun z9 => J ((O z9 : Nat) : Int))))] H → va_D (inW WC) [(mm, .inr (0, [.ref pp, .ref mc, .int (J ((sz : Nat) : Int)), .ref mt, .ref ma, .ref mb])), (mc, .inl (cI, 80, .inl (fun z9 => J ((Cd z9 : Nat) : Int)))), (mt, .inl (cI, 1600, .inl (fun z9 => J (Th z9)))), (ma, .inl (cI, 40, .inl (fun z9 => J ((Af z9 : Nat) : Int)))), (mb, .inl (cI, 40, .inl (fun z9 => J ((Bf z9 : Nat) : Int)))), (pp, .inr (2, [.ref ax, .ref ay, .ref at_, .ref ao, .int (J ((told : Nat) : Int)), .int (J ((pres : Nat) : Int))])), (ax, .inl (cI, 40, .inl (fun z9 => J (X z9)))), (ay, .inl (cI, 40, .inl (fun z9 => J (Y z9)))), (at_, .inl (cZ, 40, .inl (fun z9 => J (b2i (T z9))))), (ao, .inl (cI, 40, .inl (fun z9 => J ((O z9 : Nat) : Int))))] → va_S (inW WC) s.heap H locs → ∀ ls : Array Slot, lv_has ls 10 [(0, .ref mm), (1, .int (J ((apex : Nat) : Int))), (2, .ref ao), (3, .int (J ((O apex : Nat) : Int))), (4, .int (J ((O 0 : Nat) : Int))), (5, .int (J ((O (apex - 1) : Nat) : Int))), (6, .int (J (b2i (false)))), (7, .int (J ((i : Nat) : Int)))] → W p l e { frames := 2, cells := 0, slots := 0, locals := 49 } s m args below meth c H locs 0 0 (MQ below (QW D WC ((wMesh cI mm mc mt ma mb pp ((Rf.1).1) ((Rf.1).2.1) ((Rf.1).2.2) Rf.2.1 Rf.2.2) ++ (wPts cI cZ pp ax ay at_ ao X Y T O told pres)) none) args s 0 0 (inW WC)) (F0 m 51 ls []) := by
  obtain ⟨hX, hY, hO, htd, hps⟩ := hB
  have hq1 := hO apex
  have hq2 := hO 0
  have hq3 := hO (apex - 1)
  intro n
  induction n with
  | zero => intro i Cd sz Th Af Bf hi0 hi1 hi2 hM3 hA3; omega
  | succ n ih =>
    intro i Cd sz Th Af Bf hi0 hi1 hi2 hM3 hA3 Rf hRf H locs hP hD hS ls hl
    refine lv_iload C.1 C.2.1 dX0_layFirst_51 (lv_at hl 7 rfl) ?_
    refine lv_iload_n C.1 C.2.1 dX0_layFirst_53 rfl (lv_at hl 1 rfl) ?_
    refine jv_icmp_ge (tgt := 120) C dX0_layFirst_54 (by decide) (by omega) (fun h1 => ?_) (fun h1 => ?_)
    · refine lv_aload_n C.1 C.2.1 dX0_layFirst_120 rfl (lv_at hl 0 rfl) ?_
      refine lv_iload C.1 C.2.1 dX0_layFirst_121 (lv_at hl 6 rfl) ?_
      refine jv_bif_eq (tgt := 131) C dX0_layFirst_123 (by decide) (fun h2 => ?_) (fun h2 => ?_)
      · refine lv_iload C.1 C.2.1 dX0_layFirst_131 (lv_at hl 4 rfl) ?_
        refine lv_iload_n C.1 C.2.1 dX0_layFirst_133 rfl (lv_at hl 3 rfl) ?_
        have hb3 : AB3 (lnk (O 0) (O apex) (Af, Bf)) := lnk_b hA3 (by omega) (by omega)
        refine jv_wrV (ni := 2) (ci := 0) (q0 := 0) (wt := [(mm, .inr (0, [.ref pp, .ref mc, .int (J ((sz : Nat) : Int)), .ref mt, .ref ma, .ref mb])), (mc, .inl (cI, 80, .inl (fun z9 => J ((Cd z9 : Nat) : Int)))), (mt, .inl (cI, 1600, .inl (fun z9 => J (Th z9)))), (ma, .inl (cI, 40, .inl (fun z9 => J ((((lnk (O 0) (O apex) (Af, Bf)).1) z9 : Nat) : Int)))), (mb, .inl (cI, 40, .inl (fun z9 => J ((((lnk (O 0) (O apex) (Af, Bf)).2) z9 : Nat) : Int)))), (pp, .inr (2, [.ref ax, .ref ay, .ref at_, .ref ao, .int (J ((told : Nat) : Int)), .int (J ((pres : Nat) : Int))])), (ax, .inl (cI, 40, .inl (fun z9 => J (X z9)))), (ay, .inl (cI, 40, .inl (fun z9 => J (Y z9)))), (at_, .inl (cZ, 40, .inl (fun z9 => J (b2i (T z9))))), (ao, .inl (cI, 40, .inl (fun z9 => J ((O z9 : Nat) : Int))))]) C [.int (J ((O 0 : Nat) : Int)), .int (J ((O apex : Nat) : Int))] [] (c_X0_linkBorder (Cd := Cd) (sz := sz) (Th := Th) (Af := Af) (Bf := Bf) (a := O 0) (b := O apex) ⟨hM3.1, hM3.2.1, hM3.2.2, hA3.1, hA3.2⟩ (by omega) (by omega)) gv_X0_85 (by decide +kernel) (by decide) hK hP hD hS [0, 1, 2, 3, 4] rfl (by decide) rfl rfl rfl rfl rfl rfl hl.1 (by simp [Value.category]) dX0_layFirst_134 (by decide) (fun H locs hP hD hS => ?_) rfl
        show W _ _ _ _ _ _ _ _ _ _ _ _ _ _ _ (F0 m 137 ls [])
        refine lv_aload_n C.1 C.2.1 dX0_layFirst_137 rfl (lv_at hl 0 rfl) ?_
        refine lv_iload_n C.1 C.2.1 dX0_layFirst_138 rfl (lv_at hl 3 rfl) ?_
        refine lv_iload C.1 C.2.1 dX0_layFirst_139 (lv_at hl 6 rfl) ?_
        refine jv_bif_eq (tgt := 149) C dX0_layFirst_141 (by decide) (fun h4 => ?_) (fun h4 => ?_)
        · refine lv_iload C.1 C.2.1 dX0_layFirst_149 (lv_at hl 5 rfl) ?_
          have hb5 : AB3 (lnk (O apex) (O (apex - 1)) (lnk (O 0) (O apex) (Af, Bf))) := lnk_b hb3 (by omega) (by omega)
          refine jv_wrV (ni := 2) (ci := 0) (q0 := 0) (wt := [(mm, .inr (0, [.ref pp, .ref mc, .int (J ((sz : Nat) : Int)), .ref mt, .ref ma, .ref mb])), (mc, .inl (cI, 80, .inl (fun z9 => J ((Cd z9 : Nat) : Int)))), (mt, .inl (cI, 1600, .inl (fun z9 => J (Th z9)))), (ma, .inl (cI, 40, .inl (fun z9 => J ((((lnk (O apex) (O (apex - 1)) (lnk (O 0) (O apex) (Af, Bf))).1) z9 : Nat) : Int)))), (mb, .inl (cI, 40, .inl (fun z9 => J ((((lnk (O apex) (O (apex - 1)) (lnk (O 0) (O apex) (Af, Bf))).2) z9 : Nat) : Int)))), (pp, .inr (2, [.ref ax, .ref ay, .ref at_, .ref ao, .int (J ((told : Nat) : Int)), .int (J ((pres : Nat) : Int))])), (ax, .inl (cI, 40, .inl (fun z9 => J (X z9)))), (ay, .inl (cI, 40, .inl (fun z9 => J (Y z9)))), (at_, .inl (cZ, 40, .inl (fun z9 => J (b2i (T z9))))), (ao, .inl (cI, 40, .inl (fun z9 => J ((O z9 : Nat) : Int))))]) C [.int (J ((O apex : Nat) : Int)), .int (J ((O (apex - 1) : Nat) : Int))] [] (c_X0_linkBorder (Cd := Cd) (sz := sz) (Th := Th) (Af := (lnk (O 0) (O apex) (Af, Bf)).1) (Bf := (lnk (O 0) (O apex) (Af, Bf)).2) (a := O apex) (b := O (apex - 1)) ⟨hM3.1, hM3.2.1, hM3.2.2, hb3.1, hb3.2⟩ (by omega) (by omega)) gv_X0_85 (by decide +kernel) (by decide) hK hP hD hS [0, 1, 2, 3, 4] rfl (by decide) rfl rfl rfl rfl rfl rfl hl.1 (by simp [Value.category]) dX0_layFirst_151 (by decide) (fun H locs hP hD hS => ?_) rfl
          show W _ _ _ _ _ _ _ _ _ _ _ _ _ _ _ (F0 m 154 ls [])
          exact jw_vret C hlk hr dX0_layFirst_154 (by rw [hRf, lfT_end (by omega)]; exact hP) hS
        · exact absurd h4 (by decide)
      · exact absurd h2 (by decide)
    · refine lv_iload C.1 C.2.1 dX0_layFirst_57 (lv_at hl 6 rfl) ?_
      refine jv_bif_eq (tgt := 71) C dX0_layFirst_59 (by decide) (fun h6 => ?_) (fun h6 => ?_)
      · refine lv_aload_n C.1 C.2.1 dX0_layFirst_71 rfl (lv_at hl 2 rfl) ?_
        refine lv_iload C.1 C.2.1 dX0_layFirst_72 (lv_at hl 7 rfl) ?_
        refine jv_iald C hK hP 9 0 rfl rfl (i) (by omega) (by omega) (by decide) dX0_layFirst_74 ?_
        have f7 := hO i
        refine lv_istore (lv' := [(8, .int (J ((O i : Nat) : Int))), (0, .ref mm), (1, .int (J ((apex : Nat) : Int))), (2, .ref ao), (3, .int (J ((O apex : Nat) : Int))), (4, .int (J ((O 0 : Nat) : Int))), (5, .int (J ((O (apex - 1) : Nat) : Int))), (6, .int (J (b2i (false)))), (7, .int (J ((i : Nat) : Int)))]) C.1 C.2.1 dX0_layFirst_75 hl (by decide) rfl (fun ls hl => ?_)
        refine lv_iload C.1 C.2.1 dX0_layFirst_77 (lv_at hl 7 rfl) ?_
        refine jv_bif_eq (tgt := 89) C dX0_layFirst_79 (by decide) (fun h8 => ?_) (fun h8 => ?_)
        · refine lv_aload_n C.1 C.2.1 dX0_layFirst_89 rfl (lv_at hl 3 rfl) ?_
          refine lv_iload C.1 C.2.1 dX0_layFirst_90 (lv_at hl 8 rfl) ?_
          refine jv_iconst C dX0_layFirst_92 ?_
          refine jv_isub (z := ((i - 1 : Nat) : Int)) C dX0_layFirst_93 (by omega) ?_
          refine jv_iald C hK hP 9 0 rfl rfl (i - 1) (by omega) (by omega) (by decide) dX0_layFirst_94 ?_
          have f9 := hO (i - 1)
          refine lv_istore (lv' := [(9, .int (J ((O (i - 1) : Nat) : Int))), (8, .int (J ((O i : Nat) : Int))), (0, .ref mm), (1, .int (J ((apex : Nat) : Int))), (2, .ref ao), (3, .int (J ((O apex : Nat) : Int))), (4, .int (J ((O 0 : Nat) : Int))), (5, .int (J ((O (apex - 1) : Nat) : Int))), (6, .int (J (b2i (false)))), (7, .int (J ((i : Nat) : Int)))]) C.1 C.2.1 dX0_layFirst_95 hl (by decide) rfl (fun ls hl => ?_)
          refine lv_aload_n C.1 C.2.1 dX0_layFirst_97 rfl (lv_at hl 2 rfl) ?_
          refine lv_iload C.1 C.2.1 dX0_layFirst_98 (lv_at hl 1 rfl) ?_
          refine lv_iload C.1 C.2.1 dX0_layFirst_100 (lv_at hl 0 rfl) ?_
          refine lv_iload_n C.1 C.2.1 dX0_layFirst_102 rfl (lv_at hl 5 rfl) ?_
          have hm10 : MB3 (addT (O i) (O (i - 1)) (O apex) (Cd, sz, Th)) := addT_b hM3 (by omega) (by omega) (by omega)
          refine jv_wrV (ni := 3) (ci := 0) (q0 := 0) (wt := [(mm, .inr (0, [.ref pp, .ref mc, .int (J (((addT (O i) (O (i - 1)) (O apex) (Cd, sz, Th)).2.1 : Nat) : Int)), .ref mt, .ref ma, .ref mb])), (mc, .inl (cI, 80, .inl (fun z9 => J ((((addT (O i) (O (i - 1)) (O apex) (Cd, sz, Th)).1) z9 : Nat) : Int)))), (mt, .inl (cI, 1600, .inl (fun z9 => J (((addT (O i) (O (i - 1)) (O apex) (Cd, sz, Th)).2.2) z9)))), (ma, .inl (cI, 40, .inl (fun z9 => J ((Af z9 : Nat) : Int)))), (mb, .inl (cI, 40, .inl (fun z9 => J ((Bf z9 : Nat) : Int)))), (pp, .inr (2, [.ref ax, .ref ay, .ref at_, .ref ao, .int (J ((told : Nat) : Int)), .int (J ((pres : Nat) : Int))])), (ax, .inl (cI, 40, .inl (fun z9 => J (X z9)))), (ay, .inl (cI, 40, .inl (fun z9 => J (Y z9)))), (at_, .inl (cZ, 40, .inl (fun z9 => J (b2i (T z9))))), (ao, .inl (cI, 40, .inl (fun z9 => J ((O z9 : Nat) : Int))))]) C [.int (J ((O i : Nat) : Int)), .int (J ((O (i - 1) : Nat) : Int)), .int (J ((O apex : Nat) : Int))] [] (c_X0_addTriangle (Cd := Cd) (sz := sz) (Th := Th) (Af := Af) (Bf := Bf) (a := O i) (b := O (i - 1)) (k := O apex) ⟨hM3.1, hM3.2.1, hM3.2.2, hA3.1, hA3.2⟩ (by omega) (by omega) (by omega)) gv_X0_81 (by decide +kernel) (by decide) hK hP hD hS [0, 1, 2, 3, 4] rfl (by decide) rfl rfl rfl rfl rfl rfl hl.1 (by simp [Value.category]) dX0_layFirst_103 (by decide) (fun H locs hP hD hS => ?_) rfl
          show W _ _ _ _ _ _ _ _ _ _ _ _ _ _ _ (F0 m 106 ls [])
          refine lv_aload_n C.1 C.2.1 dX0_layFirst_106 rfl (lv_at hl 2 rfl) ?_
          refine lv_iload C.1 C.2.1 dX0_layFirst_107 (lv_at hl 1 rfl) ?_
          refine lv_iload C.1 C.2.1 dX0_layFirst_109 (lv_at hl 0 rfl) ?_
          have hb11 : AB3 (lnk (O i) (O (i - 1)) (Af, Bf)) := lnk_b hA3 (by omega) (by omega)
          refine jv_wrV (ni := 2) (ci := 0) (q0 := 0) (wt := [(mm, .inr (0, [.ref pp, .ref mc, .int (J (((addT (O i) (O (i - 1)) (O apex) (Cd, sz, Th)).2.1 : Nat) : Int)), .ref mt, .ref ma, .ref mb])), (mc, .inl (cI, 80, .inl (fun z9 => J ((((addT (O i) (O (i - 1)) (O apex) (Cd, sz, Th)).1) z9 : Nat) : Int)))), (mt, .inl (cI, 1600, .inl (fun z9 => J (((addT (O i) (O (i - 1)) (O apex) (Cd, sz, Th)).2.2) z9)))), (ma, .inl (cI, 40, .inl (fun z9 => J ((((lnk (O i) (O (i - 1)) (Af, Bf)).1) z9 : Nat) : Int)))), (mb, .inl (cI, 40, .inl (fun z9 => J ((((lnk (O i) (O (i - 1)) (Af, Bf)).2) z9 : Nat) : Int)))), (pp, .inr (2, [.ref ax, .ref ay, .ref at_, .ref ao, .int (J ((told : Nat) : Int)), .int (J ((pres : Nat) : Int))])), (ax, .inl (cI, 40, .inl (fun z9 => J (X z9)))), (ay, .inl (cI, 40, .inl (fun z9 => J (Y z9)))), (at_, .inl (cZ, 40, .inl (fun z9 => J (b2i (T z9))))), (ao, .inl (cI, 40, .inl (fun z9 => J ((O z9 : Nat) : Int))))]) C [.int (J ((O i : Nat) : Int)), .int (J ((O (i - 1) : Nat) : Int))] [] (c_X0_linkBorder (Cd := (addT (O i) (O (i - 1)) (O apex) (Cd, sz, Th)).1) (sz := (addT (O i) (O (i - 1)) (O apex) (Cd, sz, Th)).2.1) (Th := (addT (O i) (O (i - 1)) (O apex) (Cd, sz, Th)).2.2) (Af := Af) (Bf := Bf) (a := O i) (b := O (i - 1)) ⟨hm10.1, hm10.2.1, hm10.2.2, hA3.1, hA3.2⟩ (by omega) (by omega)) gv_X0_85 (by decide +kernel) (by decide) hK hP hD hS [0, 1, 2, 3, 4] rfl (by decide) rfl rfl rfl rfl rfl rfl hl.1 (by simp [Value.category]) dX0_layFirst_111 (by decide) (fun H locs hP hD hS => ?_) rfl
          show W _ _ _ _ _ _ _ _ _ _ _ _ _ _ _ (F0 m 114 ls [])
          refine lv_iinc (v := J (((i + 1 : Nat) : Int))) (lv' := [(7, .int (J ((i + 1 : Nat) : Int))), (9, .int (J ((O (i - 1) : Nat) : Int))), (8, .int (J ((O i : Nat) : Int))), (0, .ref mm), (1, .int (J ((apex : Nat) : Int))), (2, .ref ao), (3, .int (J ((O apex : Nat) : Int))), (4, .int (J ((O 0 : Nat) : Int))), (5, .int (J ((O (apex - 1) : Nat) : Int))), (6, .int (J (b2i (false))))]) C.1 C.2.1 dX0_layFirst_114 hl (k := 9) rfl (by rw [show Int32.ofInt 1 = J 1 from rfl, J_add]; exact congrArg J (by omega)) (by decide) rfl (fun ls hl => ?_)
          refine lv_goto (tgt := 51) C.1 C.2.1 dX0_layFirst_117 (by decide) ?_
          exact ih (i + 1) ((addT (O i) (O (i - 1)) (O apex) (Cd, sz, Th)).1) ((addT (O i) (O (i - 1)) (O apex) (Cd, sz, Th)).2.1) ((addT (O i) (O (i - 1)) (O apex) (Cd, sz, Th)).2.2) ((lnk (O i) (O (i - 1)) (Af, Bf)).1) ((lnk (O i) (O (i - 1)) (Af, Bf)).2) (by omega) (by omega) (by omega) hm10 hb11 Rf (hRf.trans (congrArg _ (lfT_goF (by omega)))) H locs hP hD hS ls (lv_sub hl [3, 4, 5, 6, 7, 8, 9, 0] rfl)
        · exact absurd h8 (by decide)
      · exact absurd h6 (by decide)
set_option maxRecDepth 20000 in
theorem c_X0_layFirst {apex : Nat} (hM : MBd Cd sz Th Af Bf) (hB : PB X Y O told pres) (hap : 2 ≤ apex) (ha2 : apex < 40) : cW l yX0_layFirst cX0_layFirst 10 none 2 49 D (tyz cI cZ) [.ref mm, .int (J ((apex : Nat) : Int))] ((wMesh cI mm mc mt ma mb pp Cd sz Th Af Bf) ++ (wPts cI cZ pp ax ay at_ ao X Y T O told pres)) ((wMesh cI mm mc mt ma mb pp (((lfA X Y O apex ((Cd, sz, Th), (Af, Bf))).1).1) (((lfA X Y O apex ((Cd, sz, Th), (Af, Bf))).1).2.1) (((lfA X Y O apex ((Cd, sz, Th), (Af, Bf))).1).2.2) ((lfA X Y O apex ((Cd, sz, Th), (Af, Bf))).2.1) ((lfA X Y O apex ((Cd, sz, Th), (Af, Bf))).2.2)) ++ (wPts cI cZ pp ax ay at_ ao X Y T O told pres)) none := by
  refine cW_of (owner := RX0) rfl (by decide) (Nat.le_of_ble_eq_true rfl) ?_
  intro p e s m args below meth c ls C hlk hr hK hP hD hS hl
  have hl : lv_has ls 10 [(0, .ref mm), (1, .int (J ((apex : Nat) : Int)))] := hl
  have hP : va_P D vwCl [(mm, .inr (0, [.ref pp, .ref mc, .int (J ((sz : Nat) : Int)), .ref mt, .ref ma, .ref mb])), (mc, .inl (cI, 80, .inl (fun z9 => J ((Cd z9 : Nat) : Int)))), (mt, .inl (cI, 1600, .inl (fun z9 => J (Th z9)))), (ma, .inl (cI, 40, .inl (fun z9 => J ((Af z9 : Nat) : Int)))), (mb, .inl (cI, 40, .inl (fun z9 => J ((Bf z9 : Nat) : Int)))), (pp, .inr (2, [.ref ax, .ref ay, .ref at_, .ref ao, .int (J ((told : Nat) : Int)), .int (J ((pres : Nat) : Int))])), (ax, .inl (cI, 40, .inl (fun z9 => J (X z9)))), (ay, .inl (cI, 40, .inl (fun z9 => J (Y z9)))), (at_, .inl (cZ, 40, .inl (fun z9 => J (b2i (T z9))))), (ao, .inl (cI, 40, .inl (fun z9 => J ((O z9 : Nat) : Int))))] s.heap := hP
  have hD : va_D _ [(mm, .inr (0, [.ref pp, .ref mc, .int (J ((sz : Nat) : Int)), .ref mt, .ref ma, .ref mb])), (mc, .inl (cI, 80, .inl (fun z9 => J ((Cd z9 : Nat) : Int)))), (mt, .inl (cI, 1600, .inl (fun z9 => J (Th z9)))), (ma, .inl (cI, 40, .inl (fun z9 => J ((Af z9 : Nat) : Int)))), (mb, .inl (cI, 40, .inl (fun z9 => J ((Bf z9 : Nat) : Int)))), (pp, .inr (2, [.ref ax, .ref ay, .ref at_, .ref ao, .int (J ((told : Nat) : Int)), .int (J ((pres : Nat) : Int))])), (ax, .inl (cI, 40, .inl (fun z9 => J (X z9)))), (ay, .inl (cI, 40, .inl (fun z9 => J (Y z9)))), (at_, .inl (cZ, 40, .inl (fun z9 => J (b2i (T z9))))), (ao, .inl (cI, 40, .inl (fun z9 => J ((O z9 : Nat) : Int))))] := hD
  obtain ⟨hCd, hsz, hTh, hAf, hBf⟩ := hM
  obtain ⟨hX, hY, hO, htd, hps⟩ := hB
  refine lv_aload_n C.1 C.2.1 dX0_layFirst_0 rfl (lv_at hl 0 rfl) ?_
  refine jv_get C fw_X0_24 hK hP 0 rfl rfl dX0_layFirst_1 ?_
  refine jv_get C fw_X0_70 hK hP 5 rfl rfl dX0_layFirst_4 ?_
  refine lv_astore_n (lv' := [(2, .ref ao), (0, .ref mm), (1, .int (J ((apex : Nat) : Int)))]) C.1 C.2.1 dX0_layFirst_7 rfl hl (by decide) rfl (fun ls hl => ?_)
  refine lv_aload_n C.1 C.2.1 dX0_layFirst_8 rfl (lv_at hl 0 rfl) ?_
  refine lv_iload_n C.1 C.2.1 dX0_layFirst_9 rfl (lv_at hl 2 rfl) ?_
  refine jv_iald C hK hP 9 0 rfl rfl (apex) (by omega) (by omega) (by decide) dX0_layFirst_10 ?_
  have f1 := hO apex
  refine lv_istore_n (lv' := [(3, .int (J ((O apex : Nat) : Int))), (2, .ref ao), (0, .ref mm), (1, .int (J ((apex : Nat) : Int)))]) C.1 C.2.1 dX0_layFirst_11 rfl hl (by decide) rfl (fun ls hl => ?_)
  refine lv_aload_n C.1 C.2.1 dX0_layFirst_12 rfl (lv_at hl 1 rfl) ?_
  refine jv_iconst C dX0_layFirst_13 ?_
  refine jv_iald C hK hP 9 0 rfl rfl (0) (by omega) (by omega) (by decide) dX0_layFirst_14 ?_
  have f2 := hO 0
  refine lv_istore (lv' := [(4, .int (J ((O 0 : Nat) : Int))), (3, .int (J ((O apex : Nat) : Int))), (2, .ref ao), (0, .ref mm), (1, .int (J ((apex : Nat) : Int)))]) C.1 C.2.1 dX0_layFirst_15 hl (by decide) rfl (fun ls hl => ?_)
  refine lv_aload_n C.1 C.2.1 dX0_layFirst_17 rfl (lv_at hl 2 rfl) ?_
  refine lv_iload_n C.1 C.2.1 dX0_layFirst_18 rfl (lv_at hl 4 rfl) ?_
  refine jv_iconst C dX0_layFirst_19 ?_
  refine jv_isub (z := ((apex - 1 : Nat) : Int)) C dX0_layFirst_20 (by omega) ?_
  refine jv_iald C hK hP 9 0 rfl rfl (apex - 1) (by omega) (by omega) (by decide) dX0_layFirst_21 ?_
  have f3 := hO (apex - 1)
  refine lv_istore (lv' := [(5, .int (J ((O (apex - 1) : Nat) : Int))), (4, .int (J ((O 0 : Nat) : Int))), (3, .int (J ((O apex : Nat) : Int))), (2, .ref ao), (0, .ref mm), (1, .int (J ((apex : Nat) : Int)))]) C.1 C.2.1 dX0_layFirst_22 hl (by decide) rfl (fun ls hl => ?_)
  refine lv_aload_n C.1 C.2.1 dX0_layFirst_24 rfl (lv_at hl 4 rfl) ?_
  refine jv_get C fw_X0_24 hK hP 0 rfl rfl dX0_layFirst_25 ?_
  refine lv_iload C.1 C.2.1 dX0_layFirst_28 (lv_at hl 1 rfl) ?_
  refine lv_iload C.1 C.2.1 dX0_layFirst_30 (lv_at hl 0 rfl) ?_
  refine lv_iload_n C.1 C.2.1 dX0_layFirst_32 rfl (lv_at hl 2 rfl) ?_
  refine jv_rdV (ni := 3) (ci := 2) (q0 := 0) C [.int (J ((O 0 : Nat) : Int)), .int (J ((O (apex - 1) : Nat) : Int)), .int (J ((O apex : Nat) : Int))] [] (c_X2_leftness (X := X) (Y := Y) (T := T) (O := O) (told := told) (pres := pres) (a := O 0) (b := O (apex - 1)) (k := O apex) ⟨hX, hY, hO, by omega, by omega⟩ (by omega) (by omega) (by omega)) gv_X0_77 (by decide +kernel) (by decide) hK (hP.sub (ws' := [(pp, .inr (2, [.ref ax, .ref ay, .ref at_, .ref ao, .int (J ((told : Nat) : Int)), .int (J ((pres : Nat) : Int))])), (ax, .inl (cI, 40, .inl (fun z9 => J (X z9)))), (ay, .inl (cI, 40, .inl (fun z9 => J (Y z9)))), (at_, .inl (cZ, 40, .inl (fun z9 => J (b2i (T z9))))), (ao, .inl (cI, 40, .inl (fun z9 => J ((O z9 : Nat) : Int))))]) [5, 6, 7, 8, 9] rfl) rfl rfl rfl hl.1 (by simp [Value.category]) dX0_layFirst_33 (by decide) ?_ rfl
  show W _ _ _ _ _ _ _ _ _ _ _ _ _ _ _ (F0 m 36 ls [.long (Lg (le3 X Y (O 0) (O (apex - 1)) (O apex)))])
  have f4 := le3_bd hX hY (O 0) (O (apex - 1)) (O apex)
  refine jv_lconst (z := 0) C dX0_layFirst_36 rfl ?_
  refine jv_lcmp_le (tgt := 45) C dX0_layFirst_37 dX0_layFirst_38 (by decide) (by omega) (fun h5 => ?_) (fun h5 => ?_)
  · refine jv_iconst C dX0_layFirst_45 ?_
    refine lv_istore (lv' := [(6, .int (J 0)), (5, .int (J ((O (apex - 1) : Nat) : Int))), (4, .int (J ((O 0 : Nat) : Int))), (3, .int (J ((O apex : Nat) : Int))), (2, .ref ao), (0, .ref mm), (1, .int (J ((apex : Nat) : Int)))]) C.1 C.2.1 dX0_layFirst_46 hl (by decide) rfl (fun ls hl => ?_)
    refine jv_iconst C dX0_layFirst_48 ?_
    refine lv_istore (lv' := [(7, .int (J 1)), (6, .int (J 0)), (5, .int (J ((O (apex - 1) : Nat) : Int))), (4, .int (J ((O 0 : Nat) : Int))), (3, .int (J ((O apex : Nat) : Int))), (2, .ref ao), (0, .ref mm), (1, .int (J ((apex : Nat) : Int)))]) C.1 C.2.1 dX0_layFirst_49 hl (by decide) rfl (fun ls hl => ?_)
    exact lp_X0_layFirst_51f C hlk hr hK ⟨hX, hY, hO, htd, hps⟩ hap ha2 (apex + 1) 1 Cd sz Th Af Bf (by omega) (by omega) (by omega) ⟨hCd, hsz, hTh⟩ ⟨hAf, hBf⟩ _ (by unfold lfA; rw [show lfl X Y O apex = false from by unfold lfl; simp; omega]) _ _ hP hD hS ls (lv_sub hl [6, 7, 5, 4, 3, 2, 1, 0] rfl)
  · refine jv_iconst C dX0_layFirst_41 ?_
    refine lv_goto (tgt := 46) C.1 C.2.1 dX0_layFirst_42 (by decide) ?_
    refine lv_istore (lv' := [(6, .int (J 1)), (5, .int (J ((O (apex - 1) : Nat) : Int))), (4, .int (J ((O 0 : Nat) : Int))), (3, .int (J ((O apex : Nat) : Int))), (2, .ref ao), (0, .ref mm), (1, .int (J ((apex : Nat) : Int)))]) C.1 C.2.1 dX0_layFirst_46 hl (by decide) rfl (fun ls hl => ?_)
    refine jv_iconst C dX0_layFirst_48 ?_
    refine lv_istore (lv' := [(7, .int (J 1)), (6, .int (J 1)), (5, .int (J ((O (apex - 1) : Nat) : Int))), (4, .int (J ((O 0 : Nat) : Int))), (3, .int (J ((O apex : Nat) : Int))), (2, .ref ao), (0, .ref mm), (1, .int (J ((apex : Nat) : Int)))]) C.1 C.2.1 dX0_layFirst_49 hl (by decide) rfl (fun ls hl => ?_)
    exact lp_X0_layFirst_51t C hlk hr hK ⟨hX, hY, hO, htd, hps⟩ hap ha2 (apex + 1) 1 Cd sz Th Af Bf (by omega) (by omega) (by omega) ⟨hCd, hsz, hTh⟩ ⟨hAf, hBf⟩ _ (by unfold lfA; rw [show lfl X Y O apex = true from by unfold lfl; simp; omega]) _ _ hP hD hS ls (lv_sub hl [6, 7, 5, 4, 3, 2, 1, 0] rfl)
set_option maxRecDepth 20000 in
theorem lp_X0_layNext_63 {p : Program} {e : Env} {s : State} {m : MethodId} {args : Array Value} {below : List Frame} {meth : Method} {c : Code} {WC : va_W} {a b e1 : Nat} (C : CallFix p m c cX0_layNext 6 s args TB RX0) (hlk : meth.locks = false) (hr : meth.sig.returnType = none) (hK : va_K D vwCl (tyz cI cZ) s) (hB : PB X Y O told pres) (ha : a < 40) (hb : b < 40) (he : e1 < 40) (hA3 : AB3 (Af, Bf)) :
    ∀ (n : Nat) (i f1 : Nat) (Cd : Nat → Nat) (sz : Nat) (Th : Nat → Int), 40 < i + n → i ≤ 40 → f1 < 40 → MB3 (Cd, sz, Th) → ∀ (Rf : MT × AB), Rf = ((ln2 X Y Bf b (40 - i) f1 (Cd, sz, Th)).2, lnk b e1 (lnk (ln2 X Y Bf b (40 - i) f1 (Cd, sz, Th)).1 b (Af, Bf))) → ∀ (H : Heap) (locs : List Loc), va_P D vwCl [(mm, .inr (0, [.ref pp, .ref mc, .int (J ((sz : Nat) : Int)), .ref mt, .ref ma, .ref mb])), (mc, .inl (cI, 80, .inl (fun z9 => J ((Cd z9 : Nat) : Int)))), (mt, .inl (cI, 1600, .inl (fun z9 => J (Th z9)))), (ma, .inl (cI, 40, .inl (fun z9 => J ((Af z9 : Nat) : Int)))), (mb, .inl (cI, 40, .inl (fun z9 => J ((Bf z9 : Nat) : Int)))), (pp, .inr (2, [.ref ax, .ref ay, .ref at_, .ref ao, .int (J ((told : Nat) : Int)), .int (J ((pres : Nat) : Int))])), (ax, .inl (cI, 40, .inl (fun z9 => J (X z9)))), (ay, .inl (cI, 40, .inl (fun z9 => J (Y z9)))), (at_, .inl (cZ, 40, .inl (fun z9 => J (b2i (T z9))))), (ao, .inl (cI, 40, .inl (fun z9 => J ((O z9 : Nat) : Int))))] H → va_D (inW WC) [(mm, .inr (0, [.ref pp, .ref mc, .int (J ((sz : Nat) : Int)), .ref mt, .ref ma, .ref mb])), (mc, .inl (cI, 80, .inl (fun z9 => J ((Cd z9 : Nat) : Int)))), (mt, .inl (cI, 1600, .inl (fun z9 => J (Th z9)))), (ma, .inl (cI, 40, .inl (fun z9 => J ((Af z9 : Nat) : Int)))), (mb, .inl (cI, 40, .inl (fun z9 => J ((Bf z9 : Nat) : Int)))), (pp, .inr (2, [.ref ax, .ref ay, .ref at_, .ref ao, .int (J ((told : Nat) : Int)), .int (J ((pres : Nat) : Int))])), (ax, .inl (cI, 40, .inl (fun z9 => J (X z9)))), (ay, .inl (cI, 40, .inl (fun z9 => J (Y z9)))), (at_, .inl (cZ, 40, .inl (fun z9 => J (b2i (T z9))))), (ao, .inl (cI, 40, .inl (fun z9 => J ((O z9 : Nat) : Int))))] → va_S (inW WC) s.heap H locs → ∀ ls : Array Slot, lv_has ls 6 [(0, .ref mm), (1, .int (J ((a : Nat) : Int))), (2, .int (J ((b : Nat) : Int))), (3, .int (J ((e1 : Nat) : Int))), (4, .int (J ((f1 : Nat) : Int))), (5, .int (J ((i : Nat) : Int)))] → W p l e { frames := 2, cells := 0, slots := 0, locals := 49 } s m args below meth c H locs 0 0 (MQ below (QW D WC ((wMesh cI mm mc mt ma mb pp ((Rf.1).1) ((Rf.1).2.1) ((Rf.1).2.2) Rf.2.1 Rf.2.2) ++ (wPts cI cZ pp ax ay at_ ao X Y T O told pres)) none) args s 0 0 (inW WC)) (F0 m 63 ls []) := by
  obtain ⟨hX, hY, hO, htd, hps⟩ := hB
  obtain ⟨hAf, hBf⟩ := id hA3
  intro n
  induction n with
  | zero => intro i f1 Cd sz Th hi0 hi1 hi2 hM3; omega
  | succ n ih =>
    intro i f1 Cd sz Th hi0 hi1 hi2 hM3 Rf hRf H locs hP hD hS ls hl
    refine lv_iload C.1 C.2.1 dX0_layNext_63 (lv_at hl 5 rfl) ?_
    refine jv_bipush C dX0_layNext_65 rfl ?_
    refine jv_icmp_ge (tgt := 121) C dX0_layNext_67 (by decide) (by omega) (fun h1 => ?_) (fun h1 => ?_)
    · refine lv_aload_n C.1 C.2.1 dX0_layNext_121 rfl (lv_at hl 0 rfl) ?_
      refine lv_iload C.1 C.2.1 dX0_layNext_122 (lv_at hl 4 rfl) ?_
      refine lv_iload_n C.1 C.2.1 dX0_layNext_124 rfl (lv_at hl 2 rfl) ?_
      have hb2 : AB3 (lnk f1 b (Af, Bf)) := lnk_b hA3 (by omega) (by omega)
      refine jv_wrV (ni := 2) (ci := 0) (q0 := 0) (wt := [(mm, .inr (0, [.ref pp, .ref mc, .int (J ((sz : Nat) : Int)), .ref mt, .ref ma, .ref mb])), (mc, .inl (cI, 80, .inl (fun z9 => J ((Cd z9 : Nat) : Int)))), (mt, .inl (cI, 1600, .inl (fun z9 => J (Th z9)))), (ma, .inl (cI, 40, .inl (fun z9 => J ((((lnk f1 b (Af, Bf)).1) z9 : Nat) : Int)))), (mb, .inl (cI, 40, .inl (fun z9 => J ((((lnk f1 b (Af, Bf)).2) z9 : Nat) : Int)))), (pp, .inr (2, [.ref ax, .ref ay, .ref at_, .ref ao, .int (J ((told : Nat) : Int)), .int (J ((pres : Nat) : Int))])), (ax, .inl (cI, 40, .inl (fun z9 => J (X z9)))), (ay, .inl (cI, 40, .inl (fun z9 => J (Y z9)))), (at_, .inl (cZ, 40, .inl (fun z9 => J (b2i (T z9))))), (ao, .inl (cI, 40, .inl (fun z9 => J ((O z9 : Nat) : Int))))]) C [.int (J ((f1 : Nat) : Int)), .int (J ((b : Nat) : Int))] [] (c_X0_linkBorder (Cd := Cd) (sz := sz) (Th := Th) (Af := Af) (Bf := Bf) (a := f1) (b := b) ⟨hM3.1, hM3.2.1, hM3.2.2, hA3.1, hA3.2⟩ (by omega) (by omega)) gv_X0_85 (by decide +kernel) (by decide) hK hP hD hS [0, 1, 2, 3, 4] rfl (by decide) rfl rfl rfl rfl rfl rfl hl.1 (by simp [Value.category]) dX0_layNext_125 (by decide) (fun H locs hP hD hS => ?_) rfl
      show W _ _ _ _ _ _ _ _ _ _ _ _ _ _ _ (F0 m 128 ls [])
      refine lv_aload_n C.1 C.2.1 dX0_layNext_128 rfl (lv_at hl 0 rfl) ?_
      refine lv_iload_n C.1 C.2.1 dX0_layNext_129 rfl (lv_at hl 2 rfl) ?_
      refine lv_iload_n C.1 C.2.1 dX0_layNext_130 rfl (lv_at hl 3 rfl) ?_
      have hb3 : AB3 (lnk b e1 (lnk f1 b (Af, Bf))) := lnk_b hb2 (by omega) (by omega)
      refine jv_wrV (ni := 2) (ci := 0) (q0 := 0) (wt := [(mm, .inr (0, [.ref pp, .ref mc, .int (J ((sz : Nat) : Int)), .ref mt, .ref ma, .ref mb])), (mc, .inl (cI, 80, .inl (fun z9 => J ((Cd z9 : Nat) : Int)))), (mt, .inl (cI, 1600, .inl (fun z9 => J (Th z9)))), (ma, .inl (cI, 40, .inl (fun z9 => J ((((lnk b e1 (lnk f1 b (Af, Bf))).1) z9 : Nat) : Int)))), (mb, .inl (cI, 40, .inl (fun z9 => J ((((lnk b e1 (lnk f1 b (Af, Bf))).2) z9 : Nat) : Int)))), (pp, .inr (2, [.ref ax, .ref ay, .ref at_, .ref ao, .int (J ((told : Nat) : Int)), .int (J ((pres : Nat) : Int))])), (ax, .inl (cI, 40, .inl (fun z9 => J (X z9)))), (ay, .inl (cI, 40, .inl (fun z9 => J (Y z9)))), (at_, .inl (cZ, 40, .inl (fun z9 => J (b2i (T z9))))), (ao, .inl (cI, 40, .inl (fun z9 => J ((O z9 : Nat) : Int))))]) C [.int (J ((b : Nat) : Int)), .int (J ((e1 : Nat) : Int))] [] (c_X0_linkBorder (Cd := Cd) (sz := sz) (Th := Th) (Af := (lnk f1 b (Af, Bf)).1) (Bf := (lnk f1 b (Af, Bf)).2) (a := b) (b := e1) ⟨hM3.1, hM3.2.1, hM3.2.2, hb2.1, hb2.2⟩ (by omega) (by omega)) gv_X0_85 (by decide +kernel) (by decide) hK hP hD hS [0, 1, 2, 3, 4] rfl (by decide) rfl rfl rfl rfl rfl rfl hl.1 (by simp [Value.category]) dX0_layNext_131 (by decide) (fun H locs hP hD hS => ?_) rfl
      show W _ _ _ _ _ _ _ _ _ _ _ _ _ _ _ (F0 m 134 ls [])
      exact jw_vret C hlk hr dX0_layNext_134 (by rw [hRf, ln2_stop (by omega)]; exact hP) hS
    · refine lv_aload_n C.1 C.2.1 dX0_layNext_70 rfl (lv_at hl 0 rfl) ?_
      refine jv_get C fw_X0_24 hK hP 0 rfl rfl dX0_layNext_71 ?_
      refine lv_aload_n C.1 C.2.1 dX0_layNext_74 rfl (lv_at hl 0 rfl) ?_
      refine jv_get C fw_X0_21 hK hP 0 rfl rfl dX0_layNext_75 ?_
      refine lv_iload C.1 C.2.1 dX0_layNext_78 (lv_at hl 4 rfl) ?_
      refine jv_iald C hK hP 4 0 rfl rfl (f1) (by omega) (by omega) (by decide) dX0_layNext_80 ?_
      have f4 := hBf f1
      refine lv_iload C.1 C.2.1 dX0_layNext_81 (lv_at hl 4 rfl) ?_
      refine lv_iload_n C.1 C.2.1 dX0_layNext_83 rfl (lv_at hl 2 rfl) ?_
      refine jv_rdV (ni := 3) (ci := 2) (q0 := 0) C [.int (J ((Bf f1 : Nat) : Int)), .int (J ((f1 : Nat) : Int)), .int (J ((b : Nat) : Int))] [] (c_X2_leftness (X := X) (Y := Y) (T := T) (O := O) (told := told) (pres := pres) (a := Bf f1) (b := f1) (k := b) ⟨hX, hY, hO, by omega, by omega⟩ (by omega) (by omega) (by omega)) gv_X0_77 (by decide +kernel) (by decide) hK (hP.sub (ws' := [(pp, .inr (2, [.ref ax, .ref ay, .ref at_, .ref ao, .int (J ((told : Nat) : Int)), .int (J ((pres : Nat) : Int))])), (ax, .inl (cI, 40, .inl (fun z9 => J (X z9)))), (ay, .inl (cI, 40, .inl (fun z9 => J (Y z9)))), (at_, .inl (cZ, 40, .inl (fun z9 => J (b2i (T z9))))), (ao, .inl (cI, 40, .inl (fun z9 => J ((O z9 : Nat) : Int))))]) [5, 6, 7, 8, 9] rfl) rfl rfl rfl hl.1 (by simp [Value.category]) dX0_layNext_84 (by decide) ?_ rfl
      show W _ _ _ _ _ _ _ _ _ _ _ _ _ _ _ (F0 m 87 ls [.long (Lg (le3 X Y (Bf f1) f1 b))])
      have f5 := le3_bd hX hY (Bf f1) f1 b
      refine jv_lconst (z := 0) C dX0_layNext_87 rfl ?_
      refine jv_lcmp_ge (tgt := 121) C dX0_layNext_88 dX0_layNext_89 (by decide) (by omega) (fun h6 => ?_) (fun h6 => ?_)
      · refine lv_aload_n C.1 C.2.1 dX0_layNext_121 rfl (lv_at hl 0 rfl) ?_
        refine lv_iload C.1 C.2.1 dX0_layNext_122 (lv_at hl 4 rfl) ?_
        refine lv_iload_n C.1 C.2.1 dX0_layNext_124 rfl (lv_at hl 2 rfl) ?_
        have hb7 : AB3 (lnk f1 b (Af, Bf)) := lnk_b hA3 (by omega) (by omega)
        refine jv_wrV (ni := 2) (ci := 0) (q0 := 0) (wt := [(mm, .inr (0, [.ref pp, .ref mc, .int (J ((sz : Nat) : Int)), .ref mt, .ref ma, .ref mb])), (mc, .inl (cI, 80, .inl (fun z9 => J ((Cd z9 : Nat) : Int)))), (mt, .inl (cI, 1600, .inl (fun z9 => J (Th z9)))), (ma, .inl (cI, 40, .inl (fun z9 => J ((((lnk f1 b (Af, Bf)).1) z9 : Nat) : Int)))), (mb, .inl (cI, 40, .inl (fun z9 => J ((((lnk f1 b (Af, Bf)).2) z9 : Nat) : Int)))), (pp, .inr (2, [.ref ax, .ref ay, .ref at_, .ref ao, .int (J ((told : Nat) : Int)), .int (J ((pres : Nat) : Int))])), (ax, .inl (cI, 40, .inl (fun z9 => J (X z9)))), (ay, .inl (cI, 40, .inl (fun z9 => J (Y z9)))), (at_, .inl (cZ, 40, .inl (fun z9 => J (b2i (T z9))))), (ao, .inl (cI, 40, .inl (fun z9 => J ((O z9 : Nat) : Int))))]) C [.int (J ((f1 : Nat) : Int)), .int (J ((b : Nat) : Int))] [] (c_X0_linkBorder (Cd := Cd) (sz := sz) (Th := Th) (Af := Af) (Bf := Bf) (a := f1) (b := b) ⟨hM3.1, hM3.2.1, hM3.2.2, hA3.1, hA3.2⟩ (by omega) (by omega)) gv_X0_85 (by decide +kernel) (by decide) hK hP hD hS [0, 1, 2, 3, 4] rfl (by decide) rfl rfl rfl rfl rfl rfl hl.1 (by simp [Value.category]) dX0_layNext_125 (by decide) (fun H locs hP hD hS => ?_) rfl
        show W _ _ _ _ _ _ _ _ _ _ _ _ _ _ _ (F0 m 128 ls [])
        refine lv_aload_n C.1 C.2.1 dX0_layNext_128 rfl (lv_at hl 0 rfl) ?_
        refine lv_iload_n C.1 C.2.1 dX0_layNext_129 rfl (lv_at hl 2 rfl) ?_
        refine lv_iload_n C.1 C.2.1 dX0_layNext_130 rfl (lv_at hl 3 rfl) ?_
        have hb8 : AB3 (lnk b e1 (lnk f1 b (Af, Bf))) := lnk_b hb7 (by omega) (by omega)
        refine jv_wrV (ni := 2) (ci := 0) (q0 := 0) (wt := [(mm, .inr (0, [.ref pp, .ref mc, .int (J ((sz : Nat) : Int)), .ref mt, .ref ma, .ref mb])), (mc, .inl (cI, 80, .inl (fun z9 => J ((Cd z9 : Nat) : Int)))), (mt, .inl (cI, 1600, .inl (fun z9 => J (Th z9)))), (ma, .inl (cI, 40, .inl (fun z9 => J ((((lnk b e1 (lnk f1 b (Af, Bf))).1) z9 : Nat) : Int)))), (mb, .inl (cI, 40, .inl (fun z9 => J ((((lnk b e1 (lnk f1 b (Af, Bf))).2) z9 : Nat) : Int)))), (pp, .inr (2, [.ref ax, .ref ay, .ref at_, .ref ao, .int (J ((told : Nat) : Int)), .int (J ((pres : Nat) : Int))])), (ax, .inl (cI, 40, .inl (fun z9 => J (X z9)))), (ay, .inl (cI, 40, .inl (fun z9 => J (Y z9)))), (at_, .inl (cZ, 40, .inl (fun z9 => J (b2i (T z9))))), (ao, .inl (cI, 40, .inl (fun z9 => J ((O z9 : Nat) : Int))))]) C [.int (J ((b : Nat) : Int)), .int (J ((e1 : Nat) : Int))] [] (c_X0_linkBorder (Cd := Cd) (sz := sz) (Th := Th) (Af := (lnk f1 b (Af, Bf)).1) (Bf := (lnk f1 b (Af, Bf)).2) (a := b) (b := e1) ⟨hM3.1, hM3.2.1, hM3.2.2, hb7.1, hb7.2⟩ (by omega) (by omega)) gv_X0_85 (by decide +kernel) (by decide) hK hP hD hS [0, 1, 2, 3, 4] rfl (by decide) rfl rfl rfl rfl rfl rfl hl.1 (by simp [Value.category]) dX0_layNext_131 (by decide) (fun H locs hP hD hS => ?_) rfl
        show W _ _ _ _ _ _ _ _ _ _ _ _ _ _ _ (F0 m 134 ls [])
        exact jw_vret C hlk hr dX0_layNext_134 (by rw [hRf, ln2_stop (by omega)]; exact hP) hS
      · refine lv_aload_n C.1 C.2.1 dX0_layNext_92 rfl (lv_at hl 0 rfl) ?_
        refine lv_aload_n C.1 C.2.1 dX0_layNext_93 rfl (lv_at hl 0 rfl) ?_
        refine jv_get C fw_X0_21 hK hP 0 rfl rfl dX0_layNext_94 ?_
        refine lv_iload C.1 C.2.1 dX0_layNext_97 (lv_at hl 4 rfl) ?_
        refine jv_iald C hK hP 4 0 rfl rfl (f1) (by omega) (by omega) (by decide) dX0_layNext_99 ?_
        have f9 := hBf f1
        refine lv_iload_n C.1 C.2.1 dX0_layNext_100 rfl (lv_at hl 2 rfl) ?_
        refine lv_iload C.1 C.2.1 dX0_layNext_101 (lv_at hl 4 rfl) ?_
        have hm10 : MB3 (addT (Bf f1) b f1 (Cd, sz, Th)) := addT_b hM3 (by omega) (by omega) (by omega)
        refine jv_wrV (ni := 3) (ci := 0) (q0 := 0) (wt := [(mm, .inr (0, [.ref pp, .ref mc, .int (J (((addT (Bf f1) b f1 (Cd, sz, Th)).2.1 : Nat) : Int)), .ref mt, .ref ma, .ref mb])), (mc, .inl (cI, 80, .inl (fun z9 => J ((((addT (Bf f1) b f1 (Cd, sz, Th)).1) z9 : Nat) : Int)))), (mt, .inl (cI, 1600, .inl (fun z9 => J (((addT (Bf f1) b f1 (Cd, sz, Th)).2.2) z9)))), (ma, .inl (cI, 40, .inl (fun z9 => J ((Af z9 : Nat) : Int)))), (mb, .inl (cI, 40, .inl (fun z9 => J ((Bf z9 : Nat) : Int)))), (pp, .inr (2, [.ref ax, .ref ay, .ref at_, .ref ao, .int (J ((told : Nat) : Int)), .int (J ((pres : Nat) : Int))])), (ax, .inl (cI, 40, .inl (fun z9 => J (X z9)))), (ay, .inl (cI, 40, .inl (fun z9 => J (Y z9)))), (at_, .inl (cZ, 40, .inl (fun z9 => J (b2i (T z9))))), (ao, .inl (cI, 40, .inl (fun z9 => J ((O z9 : Nat) : Int))))]) C [.int (J ((Bf f1 : Nat) : Int)), .int (J ((b : Nat) : Int)), .int (J ((f1 : Nat) : Int))] [] (c_X0_addTriangle (Cd := Cd) (sz := sz) (Th := Th) (Af := Af) (Bf := Bf) (a := Bf f1) (b := b) (k := f1) ⟨hM3.1, hM3.2.1, hM3.2.2, hA3.1, hA3.2⟩ (by omega) (by omega) (by omega)) gv_X0_81 (by decide +kernel) (by decide) hK hP hD hS [0, 1, 2, 3, 4] rfl (by decide) rfl rfl rfl rfl rfl rfl hl.1 (by simp [Value.category]) dX0_layNext_103 (by decide) (fun H locs hP hD hS => ?_) rfl
        show W _ _ _ _ _ _ _ _ _ _ _ _ _ _ _ (F0 m 106 ls [])
        refine lv_aload_n C.1 C.2.1 dX0_layNext_106 rfl (lv_at hl 0 rfl) ?_
        refine jv_get C fw_X0_21 hK hP 0 rfl rfl dX0_layNext_107 ?_
        refine lv_iload C.1 C.2.1 dX0_layNext_110 (lv_at hl 4 rfl) ?_
        refine jv_iald C hK hP 4 0 rfl rfl (f1) (by omega) (by omega) (by decide) dX0_layNext_112 ?_
        have f11 := hBf f1
        refine lv_istore (lv' := [(4, .int (J ((Bf f1 : Nat) : Int))), (0, .ref mm), (1, .int (J ((a : Nat) : Int))), (2, .int (J ((b : Nat) : Int))), (3, .int (J ((e1 : Nat) : Int))), (5, .int (J ((i : Nat) : Int)))]) C.1 C.2.1 dX0_layNext_113 hl (by decide) rfl (fun ls hl => ?_)
        refine lv_iinc (v := J (((i + 1 : Nat) : Int))) (lv' := [(5, .int (J ((i + 1 : Nat) : Int))), (4, .int (J ((Bf f1 : Nat) : Int))), (0, .ref mm), (1, .int (J ((a : Nat) : Int))), (2, .int (J ((b : Nat) : Int))), (3, .int (J ((e1 : Nat) : Int)))]) C.1 C.2.1 dX0_layNext_115 hl (k := 5) rfl (by rw [show Int32.ofInt 1 = J 1 from rfl, J_add]; exact congrArg J (by omega)) (by decide) rfl (fun ls hl => ?_)
        refine lv_goto (tgt := 63) C.1 C.2.1 dX0_layNext_118 (by decide) ?_
        exact ih (i + 1) (Bf f1) ((addT (Bf f1) b f1 (Cd, sz, Th)).1) ((addT (Bf f1) b f1 (Cd, sz, Th)).2.1) ((addT (Bf f1) b f1 (Cd, sz, Th)).2.2) (by omega) (by omega) (hBf f1) hm10 Rf (by rw [hRf, ln2_go (by omega) (by omega), show 40 - i - 1 = 40 - (i + 1) by omega]) H locs hP hD hS ls (lv_sub hl [2, 3, 4, 5, 1, 0] rfl)
set_option maxRecDepth 20000 in
theorem lp_X0_layNext_5 {p : Program} {e : Env} {s : State} {m : MethodId} {args : Array Value} {below : List Frame} {meth : Method} {c : Code} {WC : va_W} {a b : Nat} (C : CallFix p m c cX0_layNext 6 s args TB RX0) (hlk : meth.locks = false) (hr : meth.sig.returnType = none) (hK : va_K D vwCl (tyz cI cZ) s) (hB : PB X Y O told pres) (ha : a < 40) (hb : b < 40) (hA3 : AB3 (Af, Bf)) :
    ∀ (n : Nat) (i e1 : Nat) (Cd : Nat → Nat) (sz : Nat) (Th : Nat → Int), 40 < i + n → i ≤ 40 → e1 < 40 → MB3 (Cd, sz, Th) → ∀ (Rg : Nat × MT), Rg = ln1 X Y Af b (40 - i) e1 (Cd, sz, Th) → ∀ (Rf : MT × AB), Rf = ((ln2 X Y Bf b 40 a Rg.2).2, lnk b Rg.1 (lnk (ln2 X Y Bf b 40 a Rg.2).1 b (Af, Bf))) → ∀ (H : Heap) (locs : List Loc), va_P D vwCl [(mm, .inr (0, [.ref pp, .ref mc, .int (J ((sz : Nat) : Int)), .ref mt, .ref ma, .ref mb])), (mc, .inl (cI, 80, .inl (fun z9 => J ((Cd z9 : Nat) : Int)))), (mt, .inl (cI, 1600, .inl (fun z9 => J (Th z9)))), (ma, .inl (cI, 40, .inl (fun z9 => J ((Af z9 : Nat) : Int)))), (mb, .inl (cI, 40, .inl (fun z9 => J ((Bf z9 : Nat) : Int)))), (pp, .inr (2, [.ref ax, .ref ay, .ref at_, .ref ao, .int (J ((told : Nat) : Int)), .int (J ((pres : Nat) : Int))])), (ax, .inl (cI, 40, .inl (fun z9 => J (X z9)))), (ay, .inl (cI, 40, .inl (fun z9 => J (Y z9)))), (at_, .inl (cZ, 40, .inl (fun z9 => J (b2i (T z9))))), (ao, .inl (cI, 40, .inl (fun z9 => J ((O z9 : Nat) : Int))))] H → va_D (inW WC) [(mm, .inr (0, [.ref pp, .ref mc, .int (J ((sz : Nat) : Int)), .ref mt, .ref ma, .ref mb])), (mc, .inl (cI, 80, .inl (fun z9 => J ((Cd z9 : Nat) : Int)))), (mt, .inl (cI, 1600, .inl (fun z9 => J (Th z9)))), (ma, .inl (cI, 40, .inl (fun z9 => J ((Af z9 : Nat) : Int)))), (mb, .inl (cI, 40, .inl (fun z9 => J ((Bf z9 : Nat) : Int)))), (pp, .inr (2, [.ref ax, .ref ay, .ref at_, .ref ao, .int (J ((told : Nat) : Int)), .int (J ((pres : Nat) : Int))])), (ax, .inl (cI, 40, .inl (fun z9 => J (X z9)))), (ay, .inl (cI, 40, .inl (fun z9 => J (Y z9)))), (at_, .inl (cZ, 40, .inl (fun z9 => J (b2i (T z9))))), (ao, .inl (cI, 40, .inl (fun z9 => J ((O z9 : Nat) : Int))))] → va_S (inW WC) s.heap H locs → ∀ ls : Array Slot, lv_has ls 6 [(0, .ref mm), (1, .int (J ((a : Nat) : Int))), (2, .int (J ((b : Nat) : Int))), (3, .int (J ((e1 : Nat) : Int))), (4, .int (J ((i : Nat) : Int)))] → W p l e { frames := 2, cells := 0, slots := 0, locals := 49 } s m args below meth c H locs 0 0 (MQ below (QW D WC ((wMesh cI mm mc mt ma mb pp ((Rf.1).1) ((Rf.1).2.1) ((Rf.1).2.2) Rf.2.1 Rf.2.2) ++ (wPts cI cZ pp ax ay at_ ao X Y T O told pres)) none) args s 0 0 (inW WC)) (F0 m 5 ls []) := by
  obtain ⟨hX, hY, hO, htd, hps⟩ := hB
  obtain ⟨hAf, hBf⟩ := id hA3
  intro n
  induction n with
  | zero => intro i e1 Cd sz Th hi0 hi1 hi2 hM3; omega
  | succ n ih =>
    intro i e1 Cd sz Th hi0 hi1 hi2 hM3 Rg hRg Rf hRf H locs hP hD hS ls hl
    refine lv_iload C.1 C.2.1 dX0_layNext_5 (lv_at hl 4 rfl) ?_
    refine jv_bipush C dX0_layNext_7 rfl ?_
    refine jv_icmp_ge (tgt := 57) C dX0_layNext_9 (by decide) (by omega) (fun h1 => ?_) (fun h1 => ?_)
    · refine lv_iload_n C.1 C.2.1 dX0_layNext_57 rfl (lv_at hl 1 rfl) ?_
      refine lv_istore (lv' := [(4, .int (J ((a : Nat) : Int))), (0, .ref mm), (1, .int (J ((a : Nat) : Int))), (2, .int (J ((b : Nat) : Int))), (3, .int (J ((e1 : Nat) : Int)))]) C.1 C.2.1 dX0_layNext_58 hl (by decide) rfl (fun ls hl => ?_)
      refine jv_iconst C dX0_layNext_60 ?_
      refine lv_istore (lv' := [(5, .int (J 0)), (4, .int (J ((a : Nat) : Int))), (0, .ref mm), (1, .int (J ((a : Nat) : Int))), (2, .int (J ((b : Nat) : Int))), (3, .int (J ((e1 : Nat) : Int)))]) C.1 C.2.1 dX0_layNext_61 hl (by decide) rfl (fun ls hl => ?_)
      exact lp_X0_layNext_63 C hlk hr hK ⟨hX, hY, hO, htd, hps⟩ ha hb (by omega) hA3 41 0 a Cd sz Th (by omega) (by omega) ha hM3 Rf (by rw [hRf, hRg, ln1_stop (by omega)]) H locs hP hD hS ls (lv_sub hl [2, 3, 4, 5, 1, 0] rfl)
    · refine lv_aload_n C.1 C.2.1 dX0_layNext_12 rfl (lv_at hl 0 rfl) ?_
      refine jv_get C fw_X0_24 hK hP 0 rfl rfl dX0_layNext_13 ?_
      refine lv_iload_n C.1 C.2.1 dX0_layNext_16 rfl (lv_at hl 3 rfl) ?_
      refine lv_aload_n C.1 C.2.1 dX0_layNext_17 rfl (lv_at hl 0 rfl) ?_
      refine jv_get C fw_X0_18 hK hP 0 rfl rfl dX0_layNext_18 ?_
      refine lv_iload_n C.1 C.2.1 dX0_layNext_21 rfl (lv_at hl 3 rfl) ?_
      refine jv_iald C hK hP 3 0 rfl rfl (e1) (by omega) (by omega) (by decide) dX0_layNext_22 ?_
      have f2 := hAf e1
      refine lv_iload_n C.1 C.2.1 dX0_layNext_23 rfl (lv_at hl 2 rfl) ?_
      refine jv_rdV (ni := 3) (ci := 2) (q0 := 0) C [.int (J ((e1 : Nat) : Int)), .int (J ((Af e1 : Nat) : Int)), .int (J ((b : Nat) : Int))] [] (c_X2_leftness (X := X) (Y := Y) (T := T) (O := O) (told := told) (pres := pres) (a := e1) (b := Af e1) (k := b) ⟨hX, hY, hO, by omega, by omega⟩ (by omega) (by omega) (by omega)) gv_X0_77 (by decide +kernel) (by decide) hK (hP.sub (ws' := [(pp, .inr (2, [.ref ax, .ref ay, .ref at_, .ref ao, .int (J ((told : Nat) : Int)), .int (J ((pres : Nat) : Int))])), (ax, .inl (cI, 40, .inl (fun z9 => J (X z9)))), (ay, .inl (cI, 40, .inl (fun z9 => J (Y z9)))), (at_, .inl (cZ, 40, .inl (fun z9 => J (b2i (T z9))))), (ao, .inl (cI, 40, .inl (fun z9 => J ((O z9 : Nat) : Int))))]) [5, 6, 7, 8, 9] rfl) rfl rfl rfl hl.1 (by simp [Value.category]) dX0_layNext_24 (by decide) ?_ rfl
      show W _ _ _ _ _ _ _ _ _ _ _ _ _ _ _ (F0 m 27 ls [.long (Lg (le3 X Y e1 (Af e1) b))])
      have f3 := le3_bd hX hY e1 (Af e1) b
      refine jv_lconst (z := 0) C dX0_layNext_27 rfl ?_
      refine jv_lcmp_ge (tgt := 57) C dX0_layNext_28 dX0_layNext_29 (by decide) (by omega) (fun h4 => ?_) (fun h4 => ?_)
      · refine lv_iload_n C.1 C.2.1 dX0_layNext_57 rfl (lv_at hl 1 rfl) ?_
        refine lv_istore (lv' := [(4, .int (J ((a : Nat) : Int))), (0, .ref mm), (1, .int (J ((a : Nat) : Int))), (2, .int (J ((b : Nat) : Int))), (3, .int (J ((e1 : Nat) : Int)))]) C.1 C.2.1 dX0_layNext_58 hl (by decide) rfl (fun ls hl => ?_)
        refine jv_iconst C dX0_layNext_60 ?_
        refine lv_istore (lv' := [(5, .int (J 0)), (4, .int (J ((a : Nat) : Int))), (0, .ref mm), (1, .int (J ((a : Nat) : Int))), (2, .int (J ((b : Nat) : Int))), (3, .int (J ((e1 : Nat) : Int)))]) C.1 C.2.1 dX0_layNext_61 hl (by decide) rfl (fun ls hl => ?_)
        exact lp_X0_layNext_63 C hlk hr hK ⟨hX, hY, hO, htd, hps⟩ ha hb (by omega) hA3 41 0 a Cd sz Th (by omega) (by omega) ha hM3 Rf (by rw [hRf, hRg, ln1_stop (by omega)]) H locs hP hD hS ls (lv_sub hl [2, 3, 4, 5, 1, 0] rfl)
      · refine lv_aload_n C.1 C.2.1 dX0_layNext_32 rfl (lv_at hl 0 rfl) ?_
        refine lv_iload_n C.1 C.2.1 dX0_layNext_33 rfl (lv_at hl 3 rfl) ?_
        refine lv_iload_n C.1 C.2.1 dX0_layNext_34 rfl (lv_at hl 2 rfl) ?_
        refine lv_aload_n C.1 C.2.1 dX0_layNext_35 rfl (lv_at hl 0 rfl) ?_
        refine jv_get C fw_X0_18 hK hP 0 rfl rfl dX0_layNext_36 ?_
        refine lv_iload_n C.1 C.2.1 dX0_layNext_39 rfl (lv_at hl 3 rfl) ?_
        refine jv_iald C hK hP 3 0 rfl rfl (e1) (by omega) (by omega) (by decide) dX0_layNext_40 ?_
        have f5 := hAf e1
        have hm6 : MB3 (addT e1 b (Af e1) (Cd, sz, Th)) := addT_b hM3 (by omega) (by omega) (by omega)
        refine jv_wrV (ni := 3) (ci := 0) (q0 := 0) (wt := [(mm, .inr (0, [.ref pp, .ref mc, .int (J (((addT e1 b (Af e1) (Cd, sz, Th)).2.1 : Nat) : Int)), .ref mt, .ref ma, .ref mb])), (mc, .inl (cI, 80, .inl (fun z9 => J ((((addT e1 b (Af e1) (Cd, sz, Th)).1) z9 : Nat) : Int)))), (mt, .inl (cI, 1600, .inl (fun z9 => J (((addT e1 b (Af e1) (Cd, sz, Th)).2.2) z9)))), (ma, .inl (cI, 40, .inl (fun z9 => J ((Af z9 : Nat) : Int)))), (mb, .inl (cI, 40, .inl (fun z9 => J ((Bf z9 : Nat) : Int)))), (pp, .inr (2, [.ref ax, .ref ay, .ref at_, .ref ao, .int (J ((told : Nat) : Int)), .int (J ((pres : Nat) : Int))])), (ax, .inl (cI, 40, .inl (fun z9 => J (X z9)))), (ay, .inl (cI, 40, .inl (fun z9 => J (Y z9)))), (at_, .inl (cZ, 40, .inl (fun z9 => J (b2i (T z9))))), (ao, .inl (cI, 40, .inl (fun z9 => J ((O z9 : Nat) : Int))))]) C [.int (J ((e1 : Nat) : Int)), .int (J ((b : Nat) : Int)), .int (J ((Af e1 : Nat) : Int))] [] (c_X0_addTriangle (Cd := Cd) (sz := sz) (Th := Th) (Af := Af) (Bf := Bf) (a := e1) (b := b) (k := Af e1) ⟨hM3.1, hM3.2.1, hM3.2.2, hA3.1, hA3.2⟩ (by omega) (by omega) (by omega)) gv_X0_81 (by decide +kernel) (by decide) hK hP hD hS [0, 1, 2, 3, 4] rfl (by decide) rfl rfl rfl rfl rfl rfl hl.1 (by simp [Value.category]) dX0_layNext_41 (by decide) (fun H locs hP hD hS => ?_) rfl
        show W _ _ _ _ _ _ _ _ _ _ _ _ _ _ _ (F0 m 44 ls [])
        refine lv_aload_n C.1 C.2.1 dX0_layNext_44 rfl (lv_at hl 0 rfl) ?_
        refine jv_get C fw_X0_18 hK hP 0 rfl rfl dX0_layNext_45 ?_
        refine lv_iload_n C.1 C.2.1 dX0_layNext_48 rfl (lv_at hl 3 rfl) ?_
        refine jv_iald C hK hP 3 0 rfl rfl (e1) (by omega) (by omega) (by decide) dX0_layNext_49 ?_
        have f7 := hAf e1
        refine lv_istore_n (lv' := [(3, .int (J ((Af e1 : Nat) : Int))), (0, .ref mm), (1, .int (J ((a : Nat) : Int))), (2, .int (J ((b : Nat) : Int))), (4, .int (J ((i : Nat) : Int)))]) C.1 C.2.1 dX0_layNext_50 rfl hl (by decide) rfl (fun ls hl => ?_)
        refine lv_iinc (v := J (((i + 1 : Nat) : Int))) (lv' := [(4, .int (J ((i + 1 : Nat) : Int))), (3, .int (J ((Af e1 : Nat) : Int))), (0, .ref mm), (1, .int (J ((a : Nat) : Int))), (2, .int (J ((b : Nat) : Int)))]) C.1 C.2.1 dX0_layNext_51 hl (k := 4) rfl (by rw [show Int32.ofInt 1 = J 1 from rfl, J_add]; exact congrArg J (by omega)) (by decide) rfl (fun ls hl => ?_)
        refine lv_goto (tgt := 5) C.1 C.2.1 dX0_layNext_54 (by decide) ?_
        exact ih (i + 1) (Af e1) ((addT e1 b (Af e1) (Cd, sz, Th)).1) ((addT e1 b (Af e1) (Cd, sz, Th)).2.1) ((addT e1 b (Af e1) (Cd, sz, Th)).2.2) (by omega) (by omega) (hAf e1) hm6 Rg (by rw [hRg, ln1_go (by omega) (by omega), show 40 - i - 1 = 40 - (i + 1) by omega]) Rf hRf H locs hP hD hS ls (lv_sub hl [2, 3, 4, 1, 0] rfl)
set_option maxRecDepth 20000 in
theorem c_X0_layNext {a b : Nat} (hM : MBd Cd sz Th Af Bf) (hB : PB X Y O told pres) (ha : a < 40) (hb : b < 40) : cW l yX0_layNext cX0_layNext 6 none 2 49 D (tyz cI cZ) [.ref mm, .int (J ((a : Nat) : Int)), .int (J ((b : Nat) : Int))] ((wMesh cI mm mc mt ma mb pp Cd sz Th Af Bf) ++ (wPts cI cZ pp ax ay at_ ao X Y T O told pres)) ((wMesh cI mm mc mt ma mb pp (((lnT X Y a b ((Cd, sz, Th), (Af, Bf))).1).1) (((lnT X Y a b ((Cd, sz, Th), (Af, Bf))).1).2.1) (((lnT X Y a b ((Cd, sz, Th), (Af, Bf))).1).2.2) ((lnT X Y a b ((Cd, sz, Th), (Af, Bf))).2.1) ((lnT X Y a b ((Cd, sz, Th), (Af, Bf))).2.2)) ++ (wPts cI cZ pp ax ay at_ ao X Y T O told pres)) none := by
  refine cW_of (owner := RX0) rfl (by decide) (Nat.le_of_ble_eq_true rfl) ?_
  intro p e s m args below meth c ls C hlk hr hK hP hD hS hl
  have hl : lv_has ls 6 [(0, .ref mm), (1, .int (J ((a : Nat) : Int))), (2, .int (J ((b : Nat) : Int)))] := hl
  have hP : va_P D vwCl [(mm, .inr (0, [.ref pp, .ref mc, .int (J ((sz : Nat) : Int)), .ref mt, .ref ma, .ref mb])), (mc, .inl (cI, 80, .inl (fun z9 => J ((Cd z9 : Nat) : Int)))), (mt, .inl (cI, 1600, .inl (fun z9 => J (Th z9)))), (ma, .inl (cI, 40, .inl (fun z9 => J ((Af z9 : Nat) : Int)))), (mb, .inl (cI, 40, .inl (fun z9 => J ((Bf z9 : Nat) : Int)))), (pp, .inr (2, [.ref ax, .ref ay, .ref at_, .ref ao, .int (J ((told : Nat) : Int)), .int (J ((pres : Nat) : Int))])), (ax, .inl (cI, 40, .inl (fun z9 => J (X z9)))), (ay, .inl (cI, 40, .inl (fun z9 => J (Y z9)))), (at_, .inl (cZ, 40, .inl (fun z9 => J (b2i (T z9))))), (ao, .inl (cI, 40, .inl (fun z9 => J ((O z9 : Nat) : Int))))] s.heap := hP
  have hD : va_D _ [(mm, .inr (0, [.ref pp, .ref mc, .int (J ((sz : Nat) : Int)), .ref mt, .ref ma, .ref mb])), (mc, .inl (cI, 80, .inl (fun z9 => J ((Cd z9 : Nat) : Int)))), (mt, .inl (cI, 1600, .inl (fun z9 => J (Th z9)))), (ma, .inl (cI, 40, .inl (fun z9 => J ((Af z9 : Nat) : Int)))), (mb, .inl (cI, 40, .inl (fun z9 => J ((Bf z9 : Nat) : Int)))), (pp, .inr (2, [.ref ax, .ref ay, .ref at_, .ref ao, .int (J ((told : Nat) : Int)), .int (J ((pres : Nat) : Int))])), (ax, .inl (cI, 40, .inl (fun z9 => J (X z9)))), (ay, .inl (cI, 40, .inl (fun z9 => J (Y z9)))), (at_, .inl (cZ, 40, .inl (fun z9 => J (b2i (T z9))))), (ao, .inl (cI, 40, .inl (fun z9 => J ((O z9 : Nat) : Int))))] := hD
  obtain ⟨hCd, hsz, hTh, hAf, hBf⟩ := hM
  obtain ⟨hX, hY, hO, htd, hps⟩ := hB
  refine lv_iload_n C.1 C.2.1 dX0_layNext_0 rfl (lv_at hl 1 rfl) ?_
  refine lv_istore_n (lv' := [(3, .int (J ((a : Nat) : Int))), (0, .ref mm), (1, .int (J ((a : Nat) : Int))), (2, .int (J ((b : Nat) : Int)))]) C.1 C.2.1 dX0_layNext_1 rfl hl (by decide) rfl (fun ls hl => ?_)
  refine jv_iconst C dX0_layNext_2 ?_
  refine lv_istore (lv' := [(4, .int (J 0)), (3, .int (J ((a : Nat) : Int))), (0, .ref mm), (1, .int (J ((a : Nat) : Int))), (2, .int (J ((b : Nat) : Int)))]) C.1 C.2.1 dX0_layNext_3 hl (by decide) rfl (fun ls hl => ?_)
  exact lp_X0_layNext_5 C hlk hr hK ⟨hX, hY, hO, htd, hps⟩ ha hb ⟨hAf, hBf⟩ 41 0 a Cd sz Th (by omega) (by omega) ha ⟨hCd, hsz, hTh⟩ _ rfl _ rfl _ _ hP hD hS ls (lv_sub hl [2, 3, 4, 1, 0] rfl)
end MESH3
