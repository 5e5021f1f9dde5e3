/-! numbers: every int is J z, every long is Lg z, for an Int z; the machine's arithmetic is that of Int -/
def J (z : Int) : Int32 := Int32.ofInt z
def Lg (z : Int) : Int64 := Int64.ofInt z
def b2i (b : Bool) : Int := if b then 1 else 0
theorem J_add (a b : Int) : J a + J b = J (a + b) := (Int32.ofInt_add a b).symm
theorem J_sub (a b : Int) : J a - J b = J (a - b) := (Int32.ofInt_sub a b).symm
theorem J_mul (a b : Int) : J a * J b = J (a * b) := (Int32.ofInt_mul a b).symm
theorem J_neg (a : Int) : -J a = J (-a) := (Int32.ofInt_neg a).symm
theorem L_add (a b : Int) : Lg a + Lg b = Lg (a + b) := (Int64.ofInt_add a b).symm
theorem L_sub (a b : Int) : Lg a - Lg b = Lg (a - b) := (Int64.ofInt_sub a b).symm
theorem L_mul (a b : Int) : Lg a * Lg b = Lg (a * b) := (Int64.ofInt_mul a b).symm
theorem L_neg (a : Int) : -Lg a = Lg (-a) := (Int64.ofInt_neg a).symm
abbrev R3 (a : Int) : Prop := -2147483648 ≤ a ∧ a < 2147483648
abbrev R6 (a : Int) : Prop := -9223372036854775808 ≤ a ∧ a < 9223372036854775808
theorem J_toInt {a : Int} (h : R3 a) : (J a).toInt = a := Int32.toInt_ofInt_of_le (by have := h.1; omega) (by have := h.2; omega)
theorem Lg_toInt {a : Int} (h : R6 a) : (Lg a).toInt = a := Int64.toInt_ofInt_of_le (by have := h.1; omega) (by have := h.2; omega)
theorem J_lt {a b : Int} (ha : R3 a) (hb : R3 b) : J a < J b ↔ a < b := by rw [Int32.lt_iff_toInt_lt, J_toInt ha, J_toInt hb]
theorem J_le {a b : Int} (ha : R3 a) (hb : R3 b) : J a ≤ J b ↔ a ≤ b := by rw [Int32.le_iff_toInt_le, J_toInt ha, J_toInt hb]
theorem J_eq {a b : Int} (ha : R3 a) (hb : R3 b) : J a = J b ↔ a = b := by rw [← Int32.toInt_inj, J_toInt ha, J_toInt hb]
theorem L_lt {a b : Int} (ha : R6 a) (hb : R6 b) : Lg a < Lg b ↔ a < b := by rw [Int64.lt_iff_toInt_lt, Lg_toInt ha, Lg_toInt hb]
theorem L_le {a b : Int} (ha : R6 a) (hb : R6 b) : Lg a ≤ Lg b ↔ a ≤ b := by rw [Int64.le_iff_toInt_le, Lg_toInt ha, Lg_toInt hb]
theorem L_eq {a b : Int} (ha : R6 a) (hb : R6 b) : Lg a = Lg b ↔ a = b := by rw [← Int64.toInt_inj, Lg_toInt ha, Lg_toInt hb]
theorem J_0 : J 0 = 0 := rfl
theorem R3_0 : R3 0 := by decide
theorem J_nI (k : Nat) : J (k : Int) = nI k := Int32.ofInt_eq_ofNat
theorem J_clamp {k : Nat} (h : k < 2147483648) : (J (k : Int)).toNatClampNeg = k := by rw [J_nI]; exact nI_clamp h
theorem J_in {k n : Nat} (h : k < n) (hn : n < 2147483648) : vp_in (J (k : Int)) n := by rw [J_nI]; exact vp_in_nI h hn
theorem J_i2l {a : Int} (h : R3 a) : (J a).toInt64 = Lg a := by
  rw [← Int64.toInt_inj, Int32.toInt_toInt64, J_toInt h, Lg_toInt ⟨by have := h.1; omega, by have := h.2; omega⟩]
theorem J_div {a b : Nat} (ha : a < 2147483648) (h0 : 0 < b) (hb : b < 2147483648) : J (a : Int) / J (b : Int) = J ((a / b : Nat) : Int) := by
  rw [J_nI, J_nI, J_nI]; exact pk_div ha h0 hb
theorem J_rem {a b : Nat} (ha : a < 2147483648) (h0 : 0 < b) (hb : b < 2147483648) : J (a : Int) - J (a : Int) / J (b : Int) * J (b : Int) = J ((a % b : Nat) : Int) := by
  rw [J_nI, J_nI, J_nI]; exact pk_rem ha h0 hb
theorem J_ne0 {b : Nat} (h0 : 0 < b) (hb : b < 2147483648) : ¬ J (b : Int) = 0 := by rw [J_nI]; exact nI_ne0 h0 hb
theorem b2i_R (b : Bool) : R3 (b2i b) := by cases b <;> decide
theorem J_b2i_0 {b : Bool} : J (b2i b) = 0 ↔ b = false := by cases b <;> decide
theorem upd_J (F : Nat → Int) (k : Nat) (z : Int) : upd (fun i => J (F i)) k (J z) = fun i => J (if i = k then z else F i) := by
  funext i
  by_cases h : i = k <;> simp [upd, h]
theorem lgc_lt {a b : Int} (ha : R6 a) (hb : R6 b) : lg_cmp (Lg a) (Lg b) < 0 ↔ a < b := by
  have h1 := L_lt hb ha
  have h2 := L_eq ha hb
  unfold lg_cmp
  by_cases h : b < a
  · rw [if_pos (h1.mpr h)]
    exact ⟨fun q => absurd q (by decide), fun q => by omega⟩
  · rw [if_neg (fun q => h (h1.mp q))]
    by_cases h3 : a = b
    · rw [if_pos (h2.mpr h3)]
      exact ⟨fun q => absurd q (by decide), fun q => by omega⟩
    · rw [if_neg (fun q => h3 (h2.mp q))]
      exact ⟨fun _ => by omega, fun _ => by decide⟩
theorem lgc_gt {a b : Int} (ha : R6 a) (hb : R6 b) : 0 < lg_cmp (Lg a) (Lg b) ↔ b < a := by
  have h1 := L_lt hb ha
  have h2 := L_eq ha hb
  unfold lg_cmp
  by_cases h : b < a
  · rw [if_pos (h1.mpr h)]
    exact ⟨fun _ => h, fun _ => by decide⟩
  · rw [if_neg (fun q => h (h1.mp q))]
    by_cases h3 : a = b
    · rw [if_pos (h2.mpr h3)]
      exact ⟨fun q => absurd q (by decide), fun q => by omega⟩
    · rw [if_neg (fun q => h3 (h2.mp q))]
      exact ⟨fun q => absurd q (by decide), fun _ => by omega⟩
theorem lgc_eq {a b : Int} (ha : R6 a) (hb : R6 b) : lg_cmp (Lg a) (Lg b) = 0 ↔ a = b := by
  have h1 := L_lt hb ha
  have h2 := L_eq ha hb
  unfold lg_cmp
  by_cases h : b < a
  · rw [if_pos (h1.mpr h)]
    exact ⟨fun q => absurd q (by decide), fun q => by omega⟩
  · rw [if_neg (fun q => h (h1.mp q))]
    by_cases h3 : a = b
    · rw [if_pos (h2.mpr h3)]
      exact ⟨fun _ => h3, fun _ => rfl⟩
    · rw [if_neg (fun q => h3 (h2.mp q))]
      exact ⟨fun q => absurd q (by decide), fun q => absurd q h3⟩
theorem i32_nle {x y : Int32} : ¬ x ≤ y ↔ y < x := by rw [Int32.le_iff_toInt_le, Int32.lt_iff_toInt_lt]; omega
section JV
variable {p : Program} {l : Launch} {e : Env} {R : Room} {s : State} {m : MethodId} {args : Array Value} {below : List Frame} {meth : Method} {c : Code} {H : Heap} {locs : List Loc} {cells slots : Nat} {Q : State → Prop}
variable {cc : ByteArray} {pc nL : Nat} {ls : Array Slot} {rest : List Value} {own : String} {D : va_G} {A : Nat → Prop} {tys : List (ClassId × FieldType)} {ws : va_W} {H0 : Heap}
theorem jv_iconst (C : CallFix p m c cc nL s args TB own) {n : Int} (d : decode cc pc = .ok (.iconst n, 1)) (k : W p l e R s m args below meth c H locs cells slots Q (F0 m (pc + 1) ls (.int (J n) :: rest))) : W p l e R s m args below meth c H locs cells slots Q (F0 m pc ls rest) := lv_iconst C.1 C.2.1 d rfl k
theorem jv_bipush (C : CallFix p m c cc nL s args TB own) {n : Int} (d : decode cc pc = .ok (.bipush n, 2)) (hv : (Int8.ofInt n).toInt32 = J n) (k : W p l e R s m args below meth c H locs cells slots Q (F0 m (pc + 2) ls (.int (J n) :: rest))) : W p l e R s m args below meth c H locs cells slots Q (F0 m pc ls rest) := lv_bipush C.1 C.2.1 d hv k
theorem jv_sipush (C : CallFix p m c cc nL s args TB own) {n : Int} (d : decode cc pc = .ok (.sipush n, 3)) (hv : (Int16.ofInt n).toInt32 = J n) (k : W p l e R s m args below meth c H locs cells slots Q (F0 m (pc + 3) ls (.int (J n) :: rest))) : W p l e R s m args below meth c H locs cells slots Q (F0 m pc ls rest) := lv_sipush C.1 C.2.1 d hv k
theorem jv_lconst (C : CallFix p m c cc nL s args TB own) {n : Fin 2} {z : Int} (d : decode cc pc = .ok (.lconst n, 1)) (hv : Int64.ofNat (n : Nat) = Lg z) (k : W p l e R s m args below meth c H locs cells slots Q (F0 m (pc + 1) ls (.long (Lg z) :: rest))) : W p l e R s m args below meth c H locs cells slots Q (F0 m pc ls rest) := lv_lconst C.1 C.2.1 d hv k
theorem jv_iadd (C : CallFix p m c cc nL s args TB own) {a b z : Int} (d : decode cc pc = .ok (.iadd, 1)) (h : a + b = z) (k : W p l e R s m args below meth c H locs cells slots Q (F0 m (pc + 1) ls (.int (J z) :: rest))) : W p l e R s m args below meth c H locs cells slots Q (F0 m pc ls (.int (J b) :: .int (J a) :: rest)) := by
  refine lv_iadd C.1 C.2.1 d ?_
  rw [J_add, h]; exact k
theorem jv_isub (C : CallFix p m c cc nL s args TB own) {a b z : Int} (d : decode cc pc = .ok (.isub, 1)) (h : a - b = z) (k : W p l e R s m args below meth c H locs cells slots Q (F0 m (pc + 1) ls (.int (J z) :: rest))) : W p l e R s m args below meth c H locs cells slots Q (F0 m pc ls (.int (J b) :: .int (J a) :: rest)) := by
  refine lv_isub C.1 C.2.1 d ?_
  rw [J_sub, h]; exact k
theorem jv_imul (C : CallFix p m c cc nL s args TB own) {a b z : Int} (d : decode cc pc = .ok (.imul, 1)) (h : a * b = z) (k : W p l e R s m args below meth c H locs cells slots Q (F0 m (pc + 1) ls (.int (J z) :: rest))) : W p l e R s m args below meth c H locs cells slots Q (F0 m pc ls (.int (J b) :: .int (J a) :: rest)) := by
  refine lv_imul C.1 C.2.1 d ?_
  rw [J_mul, h]; exact k
theorem jv_ineg (C : CallFix p m c cc nL s args TB own) {a z : Int} (d : decode cc pc = .ok (.ineg, 1)) (h : -a = z) (k : W p l e R s m args below meth c H locs cells slots Q (F0 m (pc + 1) ls (.int (J z) :: rest))) : W p l e R s m args below meth c H locs cells slots Q (F0 m pc ls (.int (J a) :: rest)) := by
  refine lv_ineg C.1 C.2.1 d ?_
  rw [J_neg, h]; exact k
theorem jv_idiv (C : CallFix p m c cc nL s args TB own) {x y : Int} {a b : Nat} (d : decode cc pc = .ok (.idiv, 1)) (hx : x = (a : Int)) (hy : y = (b : Int)) (h : a < 2147483648 ∧ 0 < b ∧ b < 2147483648) (k : W p l e R s m args below meth c H locs cells slots Q (F0 m (pc + 1) ls (.int (J ((a / b : Nat) : Int)) :: rest))) : W p l e R s m args below meth c H locs cells slots Q (F0 m pc ls (.int (J y) :: .int (J x) :: rest)) := by
  subst hx; subst hy
  refine lv_idiv C.1 C.2.1 d (J_ne0 h.2.1 h.2.2) ?_
  rw [J_div h.1 h.2.1 h.2.2]; exact k
theorem jv_irem (C : CallFix p m c cc nL s args TB own) {x y : Int} {a b : Nat} (d : decode cc pc = .ok (.irem, 1)) (hx : x = (a : Int)) (hy : y = (b : Int)) (h : a < 2147483648 ∧ 0 < b ∧ b < 2147483648) (k : W p l e R s m args below meth c H locs cells slots Q (F0 m (pc + 1) ls (.int (J ((a % b : Nat) : Int)) :: rest))) : W p l e R s m args below meth c H locs cells slots Q (F0 m pc ls (.int (J y) :: .int (J x) :: rest)) := by
  subst hx; subst hy
  refine lv_irem C.1 C.2.1 d (J_ne0 h.2.1 h.2.2) ?_
  rw [J_rem h.1 h.2.1 h.2.2]; exact k
theorem jv_ladd (C : CallFix p m c cc nL s args TB own) {a b z : Int} (d : decode cc pc = .ok (.ladd, 1)) (h : a + b = z) (k : W p l e R s m args below meth c H locs cells slots Q (F0 m (pc + 1) ls (.long (Lg z) :: rest))) : W p l e R s m args below meth c H locs cells slots Q (F0 m pc ls (.long (Lg b) :: .long (Lg a) :: rest)) := by
  refine lv_ladd C.1 C.2.1 d ?_
  rw [L_add, h]; exact k
theorem jv_lsub (C : CallFix p m c cc nL s args TB own) {a b z : Int} (d : decode cc pc = .ok (.lsub, 1)) (h : a - b = z) (k : W p l e R s m args below meth c H locs cells slots Q (F0 m (pc + 1) ls (.long (Lg z) :: rest))) : W p l e R s m args below meth c H locs cells slots Q (F0 m pc ls (.long (Lg b) :: .long (Lg a) :: rest)) := by
  refine lv_lsub C.1 C.2.1 d ?_
  rw [L_sub, h]; exact k
theorem jv_lmul (C : CallFix p m c cc nL s args TB own) {a b z : Int} (d : decode cc pc = .ok (.lmul, 1)) (h : a * b = z) (k : W p l e R s m args below meth c H locs cells slots Q (F0 m (pc + 1) ls (.long (Lg z) :: rest))) : W p l e R s m args below meth c H locs cells slots Q (F0 m pc ls (.long (Lg b) :: .long (Lg a) :: rest)) := by
  refine lv_lmul C.1 C.2.1 d ?_
  rw [L_mul, h]; exact k
theorem jv_lneg (C : CallFix p m c cc nL s args TB own) {a z : Int} (d : decode cc pc = .ok (.lneg, 1)) (h : -a = z) (k : W p l e R s m args below meth c H locs cells slots Q (F0 m (pc + 1) ls (.long (Lg z) :: rest))) : W p l e R s m args below meth c H locs cells slots Q (F0 m pc ls (.long (Lg a) :: rest)) := by
  refine lv_lneg C.1 C.2.1 d ?_
  rw [L_neg, h]; exact k
theorem jv_i2l (C : CallFix p m c cc nL s args TB own) {a : Int} (d : decode cc pc = .ok (.i2l, 1)) (h : R3 a) (k : W p l e R s m args below meth c H locs cells slots Q (F0 m (pc + 1) ls (.long (Lg a) :: rest))) : W p l e R s m args below meth c H locs cells slots Q (F0 m pc ls (.int (J a) :: rest)) := lv_i2l C.1 C.2.1 d (J_i2l h) k
theorem jv_icmp_lt (C : CallFix p m c cc nL s args TB own) {a b : Int} {off : Int} {tgt : Nat} (d : decode cc pc = .ok (.if_icmp .lt off, 3)) (ht : (pc : Int) + off = (tgt : Int)) (h : R3 a ∧ R3 b) (kt : a < b → W p l e R s m args below meth c H locs cells slots Q (F0 m tgt ls rest)) (kf : b ≤ a → W p l e R s m args below meth c H locs cells slots Q (F0 m (pc + 3) ls rest)) : W p l e R s m args below meth c H locs cells slots Q (F0 m pc ls (.int (J b) :: .int (J a) :: rest)) := lv_icmp_lt C.1 C.2.1 d ht (fun q => kt ((J_lt h.1 h.2).mp q)) (fun q => kf (Int.not_lt.mp fun z => q ((J_lt h.1 h.2).mpr z)))
theorem jv_if_lt (C : CallFix p m c cc nL s args TB own) {a : Int} {off : Int} {tgt : Nat} (d : decode cc pc = .ok (.ifCond .lt off, 3)) (ht : (pc : Int) + off = (tgt : Int)) (h : R3 a) (kt : a < 0 → W p l e R s m args below meth c H locs cells slots Q (F0 m tgt ls rest)) (kf : 0 ≤ a → W p l e R s m args below meth c H locs cells slots Q (F0 m (pc + 3) ls rest)) : W p l e R s m args below meth c H locs cells slots Q (F0 m pc ls (.int (J a) :: rest)) := lv_if_lt C.1 C.2.1 d ht (fun q => kt ((J_lt h R3_0).mp q)) (fun q => kf (Int.not_lt.mp fun z => q ((J_lt h R3_0).mpr z)))
theorem jv_lcmp_lt (C : CallFix p m c cc nL s args TB own) {a b : Int} {off : Int} {tgt : Nat} (d : decode cc pc = .ok (.lcmp, 1)) (d2 : decode cc (pc + 1) = .ok (.ifCond .lt off, 3)) (ht : ((pc + 1 : Nat) : Int) + off = (tgt : Int)) (h : R6 a ∧ R6 b) (kt : a < b → W p l e R s m args below meth c H locs cells slots Q (F0 m tgt ls rest)) (kf : b ≤ a → W p l e R s m args below meth c H locs cells slots Q (F0 m (pc + 1 + 3) ls rest)) : W p l e R s m args below meth c H locs cells slots Q (F0 m pc ls (.long (Lg b) :: .long (Lg a) :: rest)) := W.lcmp C.1 C.2.1 d (lv_if_lt C.1 C.2.1 d2 ht (fun q => kt ((lgc_lt h.1 h.2).mp q)) (fun q => kf (Int.not_lt.mp fun z => q ((lgc_lt h.1 h.2).mpr z))))
theorem jv_icmp_ge (C : CallFix p m c cc nL s args TB own) {a b : Int} {off : Int} {tgt : Nat} (d : decode cc pc = .ok (.if_icmp .ge off, 3)) (ht : (pc : Int) + off = (tgt : Int)) (h : R3 a ∧ R3 b) (kt : b ≤ a → W p l e R s m args below meth c H locs cells slots Q (F0 m tgt ls rest)) (kf : a < b → W p l e R s m args below meth c H locs cells slots Q (F0 m (pc + 3) ls rest)) : W p l e R s m args below meth c H locs cells slots Q (F0 m pc ls (.int (J b) :: .int (J a) :: rest)) := lv_icmp_ge C.1 C.2.1 d ht (fun q => kt ((J_le h.2 h.1).mp q)) (fun q => kf (Int.not_le.mp fun z => q ((J_le h.2 h.1).mpr z)))
theorem jv_if_ge (C : CallFix p m c cc nL s args TB own) {a : Int} {off : Int} {tgt : Nat} (d : decode cc pc = .ok (.ifCond .ge off, 3)) (ht : (pc : Int) + off = (tgt : Int)) (h : R3 a) (kt : 0 ≤ a → W p l e R s m args below meth c H locs cells slots Q (F0 m tgt ls rest)) (kf : a < 0 → W p l e R s m args below meth c H locs cells slots Q (F0 m (pc + 3) ls rest)) : W p l e R s m args below meth c H locs cells slots Q (F0 m pc ls (.int (J a) :: rest)) := lv_if_ge C.1 C.2.1 d ht (fun q => kt ((J_le R3_0 h).mp q)) (fun q => kf (Int.not_le.mp fun z => q ((J_le R3_0 h).mpr z)))
theorem jv_lcmp_ge (C : CallFix p m c cc nL s args TB own) {a b : Int} {off : Int} {tgt : Nat} (d : decode cc pc = .ok (.lcmp, 1)) (d2 : decode cc (pc + 1) = .ok (.ifCond .ge off, 3)) (ht : ((pc + 1 : Nat) : Int) + off = (tgt : Int)) (h : R6 a ∧ R6 b) (kt : b ≤ a → W p l e R s m args below meth c H locs cells slots Q (F0 m tgt ls rest)) (kf : a < b → W p l e R s m args below meth c H locs cells slots Q (F0 m (pc + 1 + 3) ls rest)) : W p l e R s m args below meth c H locs cells slots Q (F0 m pc ls (.long (Lg b) :: .long (Lg a) :: rest)) := W.lcmp C.1 C.2.1 d (lv_if_ge C.1 C.2.1 d2 ht (fun q => kt (Int.not_lt.mp fun z => absurd ((lgc_lt h.1 h.2).mpr z) (fun w => i32_nle.mpr w q))) (fun q => kf ((lgc_lt h.1 h.2).mp (i32_nle.mp q))))
theorem jv_icmp_gt (C : CallFix p m c cc nL s args TB own) {a b : Int} {off : Int} {tgt : Nat} (d : decode cc pc = .ok (.if_icmp .gt off, 3)) (ht : (pc : Int) + off = (tgt : Int)) (h : R3 a ∧ R3 b) (kt : b < a → W p l e R s m args below meth c H locs cells slots Q (F0 m tgt ls rest)) (kf : a ≤ b → W p l e R s m args below meth c H locs cells slots Q (F0 m (pc + 3) ls rest)) : W p l e R s m args below meth c H locs cells slots Q (F0 m pc ls (.int (J b) :: .int (J a) :: rest)) := lv_icmp_gt C.1 C.2.1 d ht (fun q => kt ((J_lt h.2 h.1).mp q)) (fun q => kf (Int.not_lt.mp fun z => q ((J_lt h.2 h.1).mpr z)))
theorem jv_if_gt (C : CallFix p m c cc nL s args TB own) {a : Int} {off : Int} {tgt : Nat} (d : decode cc pc = .ok (.ifCond .gt off, 3)) (ht : (pc : Int) + off = (tgt : Int)) (h : R3 a) (kt : 0 < a → W p l e R s m args below meth c H locs cells slots Q (F0 m tgt ls rest)) (kf : a ≤ 0 → W p l e R s m args below meth c H locs cells slots Q (F0 m (pc + 3) ls rest)) : W p l e R s m args below meth c H locs cells slots Q (F0 m pc ls (.int (J a) :: rest)) := lv_if_gt C.1 C.2.1 d ht (fun q => kt ((J_lt R3_0 h).mp q)) (fun q => kf (Int.not_lt.mp fun z => q ((J_lt R3_0 h).mpr z)))
theorem jv_lcmp_gt (C : CallFix p m c cc nL s args TB own) {a b : Int} {off : Int} {tgt : Nat} (d : decode cc pc = .ok (.lcmp, 1)) (d2 : decode cc (pc + 1) = .ok (.ifCond .gt off, 3)) (ht : ((pc + 1 : Nat) : Int) + off = (tgt : Int)) (h : R6 a ∧ R6 b) (kt : b < a → W p l e R s m args below meth c H locs cells slots Q (F0 m tgt ls rest)) (kf : a ≤ b → W p l e R s m args below meth c H locs cells slots Q (F0 m (pc + 1 + 3) ls rest)) : W p l e R s m args below meth c H locs cells slots Q (F0 m pc ls (.long (Lg b) :: .long (Lg a) :: rest)) := W.lcmp C.1 C.2.1 d (lv_if_gt C.1 C.2.1 d2 ht (fun q => kt ((lgc_gt h.1 h.2).mp q)) (fun q => kf (Int.not_lt.mp fun z => q ((lgc_gt h.1 h.2).mpr z))))
theorem jv_icmp_le (C : CallFix p m c cc nL s args TB own) {a b : Int} {off : Int} {tgt : Nat} (d : decode cc pc = .ok (.if_icmp .le off, 3)) (ht : (pc : Int) + off = (tgt : Int)) (h : R3 a ∧ R3 b) (kt : a ≤ b → W p l e R s m args below meth c H locs cells slots Q (F0 m tgt ls rest)) (kf : b < a → W p l e R s m args below meth c H locs cells slots Q (F0 m (pc + 3) ls rest)) : W p l e R s m args below meth c H locs cells slots Q (F0 m pc ls (.int (J b) :: .int (J a) :: rest)) := lv_icmp_le C.1 C.2.1 d ht (fun q => kt ((J_le h.1 h.2).mp q)) (fun q => kf (Int.not_le.mp fun z => q ((J_le h.1 h.2).mpr z)))
theorem jv_if_le (C : CallFix p m c cc nL s args TB own) {a : Int} {off : Int} {tgt : Nat} (d : decode cc pc = .ok (.ifCond .le off, 3)) (ht : (pc : Int) + off = (tgt : Int)) (h : R3 a) (kt : a ≤ 0 → W p l e R s m args below meth c H locs cells slots Q (F0 m tgt ls rest)) (kf : 0 < a → W p l e R s m args below meth c H locs cells slots Q (F0 m (pc + 3) ls rest)) : W p l e R s m args below meth c H locs cells slots Q (F0 m pc ls (.int (J a) :: rest)) := lv_if_le C.1 C.2.1 d ht (fun q => kt ((J_le h R3_0).mp q)) (fun q => kf (Int.not_le.mp fun z => q ((J_le h R3_0).mpr z)))
theorem jv_lcmp_le (C : CallFix p m c cc nL s args TB own) {a b : Int} {off : Int} {tgt : Nat} (d : decode cc pc = .ok (.lcmp, 1)) (d2 : decode cc (pc + 1) = .ok (.ifCond .le off, 3)) (ht : ((pc + 1 : Nat) : Int) + off = (tgt : Int)) (h : R6 a ∧ R6 b) (kt : a ≤ b → W p l e R s m args below meth c H locs cells slots Q (F0 m tgt ls rest)) (kf : b < a → W p l e R s m args below meth c H locs cells slots Q (F0 m (pc + 1 + 3) ls rest)) : W p l e R s m args below meth c H locs cells slots Q (F0 m pc ls (.long (Lg b) :: .long (Lg a) :: rest)) := W.lcmp C.1 C.2.1 d (lv_if_le C.1 C.2.1 d2 ht (fun q => kt (Int.not_lt.mp fun z => absurd ((lgc_gt h.1 h.2).mpr z) (fun w => i32_nle.mpr w q))) (fun q => kf ((lgc_gt h.1 h.2).mp (i32_nle.mp q))))
theorem jv_icmp_eq (C : CallFix p m c cc nL s args TB own) {a b : Int} {off : Int} {tgt : Nat} (d : decode cc pc = .ok (.if_icmp .eq off, 3)) (ht : (pc : Int) + off = (tgt : Int)) (h : R3 a ∧ R3 b) (kt : a = b → W p l e R s m args below meth c H locs cells slots Q (F0 m tgt ls rest)) (kf : a ≠ b → W p l e R s m args below meth c H locs cells slots Q (F0 m (pc + 3) ls rest)) : W p l e R s m args below meth c H locs cells slots Q (F0 m pc ls (.int (J b) :: .int (J a) :: rest)) := lv_icmp_eq C.1 C.2.1 d ht (fun q => kt ((J_eq h.1 h.2).mp q)) (fun q => kf (fun z => q ((J_eq h.1 h.2).mpr z)))
theorem jv_if_eq (C : CallFix p m c cc nL s args TB own) {a : Int} {off : Int} {tgt : Nat} (d : decode cc pc = .ok (.ifCond .eq off, 3)) (ht : (pc : Int) + off = (tgt : Int)) (h : R3 a) (kt : a = 0 → W p l e R s m args below meth c H locs cells slots Q (F0 m tgt ls rest)) (kf : a ≠ 0 → W p l e R s m args below meth c H locs cells slots Q (F0 m (pc + 3) ls rest)) : W p l e R s m args below meth c H locs cells slots Q (F0 m pc ls (.int (J a) :: rest)) := lv_if_eq C.1 C.2.1 d ht (fun q => kt ((J_eq h R3_0).mp q)) (fun q => kf (fun z => q ((J_eq h R3_0).mpr z)))
theorem jv_lcmp_eq (C : CallFix p m c cc nL s args TB own) {a b : Int} {off : Int} {tgt : Nat} (d : decode cc pc = .ok (.lcmp, 1)) (d2 : decode cc (pc + 1) = .ok (.ifCond .eq off, 3)) (ht : ((pc + 1 : Nat) : Int) + off = (tgt : Int)) (h : R6 a ∧ R6 b) (kt : a = b → W p l e R s m args below meth c H locs cells slots Q (F0 m tgt ls rest)) (kf : a ≠ b → W p l e R s m args below meth c H locs cells slots Q (F0 m (pc + 1 + 3) ls rest)) : W p l e R s m args below meth c H locs cells slots Q (F0 m pc ls (.long (Lg b) :: .long (Lg a) :: rest)) := W.lcmp C.1 C.2.1 d (lv_if_eq C.1 C.2.1 d2 ht (fun q => kt ((lgc_eq h.1 h.2).mp q)) (fun q => kf (fun z => q ((lgc_eq h.1 h.2).mpr z))))
theorem jv_icmp_ne (C : CallFix p m c cc nL s args TB own) {a b : Int} {off : Int} {tgt : Nat} (d : decode cc pc = .ok (.if_icmp .ne off, 3)) (ht : (pc : Int) + off = (tgt : Int)) (h : R3 a ∧ R3 b) (kt : a ≠ b → W p l e R s m args below meth c H locs cells slots Q (F0 m tgt ls rest)) (kf : a = b → W p l e R s m args below meth c H locs cells slots Q (F0 m (pc + 3) ls rest)) : W p l e R s m args below meth c H locs cells slots Q (F0 m pc ls (.int (J b) :: .int (J a) :: rest)) := lv_icmp_ne C.1 C.2.1 d ht (fun q => kt (fun z => q ((J_eq h.1 h.2).mpr z))) (fun q => kf ((J_eq h.1 h.2).mp q))
theorem jv_if_ne (C : CallFix p m c cc nL s args TB own) {a : Int} {off : Int} {tgt : Nat} (d : decode cc pc = .ok (.ifCond .ne off, 3)) (ht : (pc : Int) + off = (tgt : Int)) (h : R3 a) (kt : a ≠ 0 → W p l e R s m args below meth c H locs cells slots Q (F0 m tgt ls rest)) (kf : a = 0 → W p l e R s m args below meth c H locs cells slots Q (F0 m (pc + 3) ls rest)) : W p l e R s m args below meth c H locs cells slots Q (F0 m pc ls (.int (J a) :: rest)) := lv_if_ne C.1 C.2.1 d ht (fun q => kt (fun z => q ((J_eq h R3_0).mpr z))) (fun q => kf ((J_eq h R3_0).mp q))
theorem jv_lcmp_ne (C : CallFix p m c cc nL s args TB own) {a b : Int} {off : Int} {tgt : Nat} (d : decode cc pc = .ok (.lcmp, 1)) (d2 : decode cc (pc + 1) = .ok (.ifCond .ne off, 3)) (ht : ((pc + 1 : Nat) : Int) + off = (tgt : Int)) (h : R6 a ∧ R6 b) (kt : a ≠ b → W p l e R s m args below meth c H locs cells slots Q (F0 m tgt ls rest)) (kf : a = b → W p l e R s m args below meth c H locs cells slots Q (F0 m (pc + 1 + 3) ls rest)) : W p l e R s m args below meth c H locs cells slots Q (F0 m pc ls (.long (Lg b) :: .long (Lg a) :: rest)) := W.lcmp C.1 C.2.1 d (lv_if_ne C.1 C.2.1 d2 ht (fun q => kt (fun z => q ((lgc_eq h.1 h.2).mpr z))) (fun q => kf ((lgc_eq h.1 h.2).mp q)))
theorem jv_bif_eq (C : CallFix p m c cc nL s args TB own) {b : Bool} {off : Int} {tgt : Nat} (d : decode cc pc = .ok (.ifCond .eq off, 3)) (ht : (pc : Int) + off = (tgt : Int)) (kt : b = false → W p l e R s m args below meth c H locs cells slots Q (F0 m tgt ls rest)) (kf : b = true → W p l e R s m args below meth c H locs cells slots Q (F0 m (pc + 3) ls rest)) : W p l e R s m args below meth c H locs cells slots Q (F0 m pc ls (.int (J (b2i b)) :: rest)) := lv_if_eq C.1 C.2.1 d ht (fun q => kt (J_b2i_0.mp q)) (fun q => kf (by cases b with | true => rfl | false => exact absurd rfl q))
theorem jv_bif_ne (C : CallFix p m c cc nL s args TB own) {b : Bool} {off : Int} {tgt : Nat} (d : decode cc pc = .ok (.ifCond .ne off, 3)) (ht : (pc : Int) + off = (tgt : Int)) (kt : b = true → W p l e R s m args below meth c H locs cells slots Q (F0 m tgt ls rest)) (kf : b = false → W p l e R s m args below meth c H locs cells slots Q (F0 m (pc + 3) ls rest)) : W p l e R s m args below meth c H locs cells slots Q (F0 m pc ls (.int (J (b2i b)) :: rest)) := lv_if_ne C.1 C.2.1 d ht (fun q => kt (by cases b with | true => rfl | false => exact absurd rfl q)) (fun q => kf (by cases b with | false => rfl | true => exact absurd q (by decide)))
end JV
