/-! a drawing's writing methods -/
theorem good_W {n : Nat} {y : MethodName} {cc : ByteArray} {ret : Option FieldType} (h5 : Cond.code y cc n ret ∈ TB) : GoodIn TB (WS y cc n ret) := by
  intro w hw
  have hm : w ∈ TB := by
    rcases List.mem_cons.mp hw with rfl | h <;> assumption
  exact ⟨hm, good_of_word (TB_good hm)⟩
theorem jv_wrS {p : Program} {l : Launch} {e : Env} {R : Room} {s : State} {m : MethodId} {args : Array Value} {below : List Frame} {meth : Method} {c : Code} {H : Heap} {locs : List Loc} {cells slots : Nat} {Q : State → Prop} {cc : ByteArray} {pc nL : Nat} {ls : Array Slot} {own : String} {D : va_G} {A : Nat → Prop} {tys : List (ClassId × FieldType)} {ws : va_W} {H0 : Heap} (C : CallFix p m c cc nL s args TB own) {y : MethodName} {cy : ByteArray} {n fr lo idx ni : Nat} {ret : Option FieldType} {wc wd : va_W} {rv : Option Value} (As : List Value) (rest : List Value) (hM : cW l y cy n ret fr lo D tys As wc wd rv) (g : GoodIn TB (WS y cy n ret)) (hini : Cond.initialized y.cls ∈ TB) (hli : Cond.methodLink own idx y ∈ TB) (hsta : Cond.static y ∈ TB)
    (hd : y.cls ≠ "java/lang/invoke/MethodHandle" ∧ y.cls ≠ "java/lang/invoke/VarHandle" ∧ (parseMethodDescriptor y.desc).map (fun d => d.parameters.length) = some ni) (hR : fr + 1 ≤ R.frames ∧ 8 + (n + 11) + lo ≤ R.locals)
    (hK : va_K D vwCl tys s) (hP : va_P D vwCl ws H) (hD : va_D A ws) (hS : va_S A H0 H locs) (is : List Nat) (hC : is.map (fun i => ws[i]?) = wc.map some) (hnd : va_nd is = true) (hlen : is.length = wd.length) {wt : va_W} (hws : wput ws is wd = wt) (hsa : wt.map (·.1) = ws.map (·.1)) (hn : As.length = ni) (hls : ls.size = nL) (hro : (rest.map fun v => v.category).sum ≤ 8) (hdg : decode cc pc = .ok (.invokestatic idx, 3)) (hcs : cells ≤ R.cells ∧ slots ≤ R.slots)
    (kk : ∀ (H1 : Heap) (locs1 : List Loc), va_P D vwCl wt H1 → va_D A wt → va_S A H0 H1 locs1 → W p l e R s m args below meth c H1 locs1 cells slots Q (F0 m (pc + 3) ls (rv.toList ++ rest))) {st0 : List Value} (hst : st0 = As.reverse ++ rest) : W p l e R s m args below meth c H locs cells slots Q (F0 m pc ls st0) := by
  have hPc : va_P D vwCl wc H := fun k q hq => by
    obtain ⟨i, -, hi⟩ := va_at_places hP hC k q hq
    exact hP i q hi
  exact wr_of (va_runS (As := As) (rest := rest) C hM ⟨callB_of ni C.2.2.2.2 g rfl rfl rfl (C.2.2.2.2 _ hini) (C.2.2.2.2 _ hli) hd hR, C.2.2.2.2 _ hsta⟩ ⟨PW_blind, fun U hU hW => ⟨rfl, by rw [hU]; exact hPc, va_K.moved hW.alike hK, (hD.sub is hnd hC).weaken (fun _ _ _ _ => trivial)⟩⟩ rfl hn hls hst (lv_room hro) hdg hcs) hP hD hS hC hlen hws hsa kk
theorem sn_th {F : Nat → Int} (h : ∀ i, -1 ≤ F i ∧ F i < 40) (k : Nat) {z : Int} (hz : -1 ≤ z ∧ z < 40) : ∀ i, -1 ≤ sn F k z i ∧ sn F k z i < 40 := by
  intro i
  unfold sn
  split
  · exact hz
  · exact h i
def fil (n : Nat) (F : Nat → Int) : Nat → Int := fun i => if i < n then -1 else F i
theorem fil_0 (F : Nat → Int) : fil 0 F = F := by funext i; simp [fil]
theorem fil_s (n : Nat) (F : Nat → Int) : sn (fil n F) n (-1) = fil (n + 1) F := by
  funext i
  unfold sn fil
  by_cases h : i = n
  · simp [h]
  · by_cases h2 : i < n
    · simp [h2, show i < n + 1 by omega]
    · simp [h, h2, show ¬ i < n + 1 by omega]
theorem fil_th {F : Nat → Int} (n : Nat) (h : ∀ i, -1 ≤ F i ∧ F i < 40) : ∀ i, -1 ≤ fil n F i ∧ fil n F i < 40 := by
  intro i
  unfold fil
  split
  · omega
  · exact h i
def st3 (Th : Nat → Int) (a b c : Nat) (d : Bool) : Nat → Int := sn (sn (sn Th (a * 40 + b) (if d then (c : Int) else -1)) (b * 40 + c) (if d then (a : Int) else -1)) (c * 40 + a) (if d then (b : Int) else -1)
theorem st3_th {Th : Nat → Int} (h : ∀ i, -1 ≤ Th i ∧ Th i < 40) {a b c : Nat} (ha : a < 40) (hb : b < 40) (hc : c < 40) (d : Bool) : ∀ i, -1 ≤ st3 Th a b c d i ∧ st3 Th a b c d i < 40 := by
  refine sn_th (sn_th (sn_th h _ ?_) _ ?_) _ ?_ <;> (split <;> omega)
theorem insO_lt {E : Nat → Bool} {p N : Nat} (hp : p < N) : ∀ (n : Nat) (O : Nat → Nat), (∀ i, O i < N) → ∀ i, insO E p n O i < N := by
  intro n
  induction n with
  | zero => intro O h; exact sn_lt h _ hp
  | succ n ih =>
    intro O h
    rw [insO]
    split
    · exact ih _ (sn_lt h _ (h n))
    · exact sn_lt h _ hp
abbrev MT : Type := (Nat → Nat) × Nat × (Nat → Int)
def MB3 (M : MT) : Prop := (∀ i, M.1 i < 64000) ∧ M.2.1 ≤ 80 ∧ ∀ i, -1 ≤ M.2.2 i ∧ M.2.2 i < 40
def addT (a b c : Nat) (M : MT) : MT := if M.2.1 < 80 then (insO (fun q => decide (cod a b c < q)) (cod a b c) M.2.1 M.1, M.2.1 + 1, st3 M.2.2 a b c true) else M
theorem addT_b {a b c : Nat} {M : MT} (h : MB3 M) (ha : a < 40) (hb : b < 40) (hc : c < 40) : MB3 (addT a b c M) := by
  unfold addT
  split
  · exact ⟨insO_lt (cod_lt ha hb hc) _ _ h.1, by show M.2.1 + 1 ≤ 80; omega, st3_th h.2.2 ha hb hc true⟩
  · exact h
def shC (n i : Nat) (Cd : Nat → Nat) : Nat → Nat := if i < n then shC n (i + 1) (sn Cd i (Cd (i + 1))) else Cd
termination_by n - i
theorem shC_end {n i : Nat} {Cd : Nat → Nat} (h : n ≤ i) : shC n i Cd = Cd := by rw [shC, if_neg (by omega)]
theorem shC_go {n i : Nat} {Cd : Nat → Nat} (h : i < n) : shC n i Cd = shC n (i + 1) (sn Cd i (Cd (i + 1))) := by rw [shC, if_pos h]
theorem shC_lt {n N : Nat} : ∀ (k i : Nat) (Cd : Nat → Nat), n ≤ i + k → (∀ j, Cd j < N) → ∀ j, shC n i Cd j < N := by
  intro k
  induction k with
  | zero => intro i Cd h hC; rw [shC_end (by omega)]; exact hC
  | succ k ih =>
    intro i Cd h hC
    rcases Nat.lt_or_ge i n with q | q
    · rw [shC_go q]; exact ih (i + 1) _ (by omega) (sn_lt hC _ (hC _))
    · rw [shC_end q]; exact hC
def remT (a b c : Nat) (M : MT) : MT := match ff (cdP M.1 (cod a b c)) M.2.1 0 with
  | none => M
  | some t => (shC (M.2.1 - 1) t M.1, M.2.1 - 1, st3 M.2.2 a b c false)
theorem remT_none {a b c : Nat} {M : MT} (h : ff (cdP M.1 (cod a b c)) M.2.1 0 = none) : remT a b c M = M := by unfold remT; rw [h]
theorem remT_some {a b c t : Nat} {M : MT} (h : ff (cdP M.1 (cod a b c)) M.2.1 0 = some t) : remT a b c M = (shC (M.2.1 - 1) t M.1, M.2.1 - 1, st3 M.2.2 a b c false) := by unfold remT; rw [h]
theorem remT_b {a b c : Nat} {M : MT} (h : MB3 M) (ha : a < 40) (hb : b < 40) (hc : c < 40) : MB3 (remT a b c M) := by
  cases hf : ff (cdP M.1 (cod a b c)) M.2.1 0 with
  | none => rw [remT_none hf]; exact h
  | some t =>
    rw [remT_some hf]
    exact ⟨shC_lt M.2.1 t _ (by omega) h.1, by have := h.2.1; show M.2.1 - 1 ≤ 80; omega, st3_th h.2.2 ha hb hc false⟩
theorem oI_neg {o : Option Nat} (h : oI (-1) o < 0) : o = none := by
  cases o with
  | none => rfl
  | some k => simp only [oI] at h; omega
theorem oI_pos {o : Option Nat} (h : 0 ≤ oI (-1) o) : ∃ k, o = some k := by
  cases o with
  | none => simp only [oI] at h; omega
  | some k => exact ⟨k, rfl⟩
def flT (a b : Nat) (M : MT) : MT := if M.2.2 (a * 40 + b) < 0 ∨ M.2.2 (b * 40 + a) < 0 then M else
  addT b (M.2.2 (a * 40 + b)).toNat (M.2.2 (b * 40 + a)).toNat (addT a (M.2.2 (b * 40 + a)).toNat (M.2.2 (a * 40 + b)).toNat (remT b a (M.2.2 (b * 40 + a)).toNat (remT a b (M.2.2 (a * 40 + b)).toNat M)))
theorem flT_b {a b : Nat} {M : MT} (h : MB3 M) (ha : a < 40) (hb : b < 40) : MB3 (flT a b M) := by
  have h1 := h.2.2 (a * 40 + b)
  have h2 := h.2.2 (b * 40 + a)
  unfold flT
  split
  · exact h
  · exact addT_b (addT_b (remT_b (remT_b h ha hb (by omega)) hb ha (by omega)) ha (by omega) (by omega)) hb (by omega) (by omega)
def lst (Th : Nat → Int) (a b : Nat) : Nat := (max (min (a : Int) (min (Th (a * 40 + b)) (Th (b * 40 + a)))) 0).toNat
def stl (X Y : Nat → Int) (most flips side : Nat) (M : MT) : Nat × MT := if flips < most ∧ side < 1600 then stl X Y most (flips + 1) (fb X Y (flT (side / 40) (side % 40) M).2.2 (lst M.2.2 (side / 40) (side % 40) * 40)) (flT (side / 40) (side % 40) M) else (flips, M)
termination_by most - flips
theorem stl_end {X Y : Nat → Int} {most flips side : Nat} {M : MT} (h : ¬ (flips < most ∧ side < 1600)) : stl X Y most flips side M = (flips, M) := by rw [stl, if_neg h]
theorem stl_go {X Y : Nat → Int} {most flips side : Nat} {M : MT} (h : flips < most ∧ side < 1600) : stl X Y most flips side M = stl X Y most (flips + 1) (fb X Y (flT (side / 40) (side % 40) M).2.2 (lst M.2.2 (side / 40) (side % 40) * 40)) (flT (side / 40) (side % 40) M) := by rw [stl, if_pos h]
section MESH2
variable {l : Launch} {D : va_G} {cI cZ : ClassId} {pp ax ay at_ ao mm mc mt ma mb : Nat} {X Y : Nat → Int} {T : Nat → Bool} {O : Nat → Nat} {told pres : Nat} {Cd : Nat → Nat} {sz : Nat} {Th : Nat → Int} {Af Bf : Nat → Nat}
set_option maxRecDepth 20000 in
theorem lp_J7_fill_5 {p : Program} {e : Env} {s : State} {m : MethodId} {args : Array Value} {below : List Frame} {meth : Method} {c : Code} {WC : va_W} (C : CallFix p m c cJ7_fill_53178 4 s args TB RJ7) (hlk : meth.locks = false) (hr : meth.sig.returnType = none) (hK : va_K D vwCl (tyz cI cZ) s)  :
    ∀ (n : Nat) (i : Nat), 1600 < i + n → i ≤ 1600 →  ∀ (H : Heap) (locs : List Loc), va_P D vwCl [(mt, .inl (cI, 1600, .inl (fun z9 => J ((fil i Th) z9))))] H → va_D (inW WC) [(mt, .inl (cI, 1600, .inl (fun z9 => J ((fil i Th) z9))))] → va_S (inW WC) s.heap H locs → ∀ ls : Array Slot, lv_has ls 4 [(0, .ref mt), (1, .int (J (-1))), (2, .int (J ((i : Nat) : Int))), (3, .int (J 1600))] → W p l e { frames := 0, cells := 0, slots := 0, locals := 0 } s m args below meth c H locs 0 0 (MQ below (QW D WC [(mt, .inl (cI, 1600, .inl (fun i => J ((fil 1600 Th) i))))] none) args s 0 0 (inW WC)) (F0 m 5 ls []) := by
  intro n
  induction n with
  | zero => intro i hi0 hi1; omega
  | succ n ih =>
    intro i hi0 hi1  H locs hP hD hS ls hl
    refine lv_iload_n C.1 C.2.1 dJ7_fill_53178_5 rfl (lv_at hl 2 rfl) ?_
    refine lv_iload_n C.1 C.2.1 dJ7_fill_53178_6 rfl (lv_at hl 3 rfl) ?_
    refine jv_icmp_ge (tgt := 20) C dJ7_fill_53178_7 (by decide) (by omega) (fun h1 => ?_) (fun h1 => ?_)
    · exact jw_vret C hlk hr dJ7_fill_53178_20 (by rw [show fil 1600 Th = fil i Th from congrArg (fun z => fil z Th) (by omega)]; exact hP) hS
    · refine lv_aload_n C.1 C.2.1 dJ7_fill_53178_10 rfl (lv_at hl 0 rfl) ?_
      refine lv_iload_n C.1 C.2.1 dJ7_fill_53178_11 rfl (lv_at hl 2 rfl) ?_
      refine lv_iload_n C.1 C.2.1 dJ7_fill_53178_12 rfl (lv_at hl 1 rfl) ?_
      refine jv_iast (G := sn (fil i Th) i (-1)) C hK hP hD hS 0 0 rfl rfl (i) (by omega) (by omega) (by decide) (fun _ => rfl) dJ7_fill_53178_13 (fun H locs hP hD hS => ?_)
      have hP : va_P D vwCl [(mt, .inl (cI, 1600, .inl (fun z9 => J ((sn (fil i Th) i (-1)) z9))))] H := hP
      have hD : va_D _ [(mt, .inl (cI, 1600, .inl (fun z9 => J ((sn (fil i Th) i (-1)) z9))))] := hD
      rw [fil_s] at hP hD
      refine lv_iinc (v := J (((i + 1 : Nat) : Int))) (lv' := [(2, .int (J ((i + 1 : Nat) : Int))), (0, .ref mt), (1, .int (J (-1))), (3, .int (J 1600))]) C.1 C.2.1 dJ7_fill_53178_14 hl (k := 2) rfl (by rw [show Int32.ofInt 1 = J 1 from rfl, J_add]; exact congrArg J (by omega)) (by decide) rfl (fun ls hl => ?_)
      refine lv_goto (tgt := 5) C.1 C.2.1 dJ7_fill_53178_17 (by decide) ?_
      exact ih (i + 1) (by omega) (by omega) H locs hP hD hS ls (lv_sub hl [1, 2, 0, 3] rfl)
set_option maxRecDepth 20000 in
theorem c_J7_fill    : cW l yJ7_fill_53178 cJ7_fill_53178 4 none 0 0 D (tyz cI cZ) [.ref mt, .int (J (-1))] [(mt, .inl (cI, 1600, .inl (fun i => J (Th i))))] [(mt, .inl (cI, 1600, .inl (fun i => J ((fil 1600 Th) i))))] none := by
  refine cW_of (owner := RJ7) rfl (by decide) (Nat.le_of_ble_eq_true rfl) ?_
  intro p e s m args below meth c ls C hlk hr hK hP hD hS hl
  have hl : lv_has ls 4 [(0, .ref mt), (1, .int (J (-1)))] := hl
  have hP : va_P D vwCl [(mt, .inl (cI, 1600, .inl (fun z9 => J (Th z9))))] s.heap := hP
  have hD : va_D _ [(mt, .inl (cI, 1600, .inl (fun z9 => J (Th z9))))] := hD
  refine jv_iconst C dJ7_fill_53178_0 ?_
  refine lv_istore_n (lv' := [(2, .int (J 0)), (0, .ref mt), (1, .int (J (-1)))]) C.1 C.2.1 dJ7_fill_53178_1 rfl hl (by decide) rfl (fun ls hl => ?_)
  refine lv_aload_n C.1 C.2.1 dJ7_fill_53178_2 rfl (lv_at hl 1 rfl) ?_
  refine va_alen (v := J 1600) C.1 C.2.1 hK hP 0 0 rfl rfl rfl dJ7_fill_53178_3 ?_
  refine lv_istore_n (lv' := [(3, .int (J 1600)), (2, .int (J 0)), (0, .ref mt), (1, .int (J (-1)))]) C.1 C.2.1 dJ7_fill_53178_4 rfl hl (by decide) rfl (fun ls hl => ?_)
  exact lp_J7_fill_5 C hlk hr hK 1601 0 (by omega) (by omega) s.heap [] (by rw [fil_0]; exact hP) (by rw [fil_0]; exact hD) hS ls (lv_sub hl [2, 3, 1, 0] rfl)
set_option maxRecDepth 20000 in
theorem c_X0_setThirds {a b k : Nat} {d : Bool} (hM : MBd Cd sz Th Af Bf) (ha : a < 40) (hb : b < 40) (hk : k < 40) : cW l yX0_setThirds cX0_setThirds 5 none 0 0 D (tyz cI cZ) [.ref mm, .int (J ((a : Nat) : Int)), .int (J ((b : Nat) : Int)), .int (J ((k : Nat) : Int)), .int (J (b2i (d)))] (wMesh cI mm mc mt ma mb pp Cd sz Th Af Bf) (wMesh cI mm mc mt ma mb pp Cd sz (st3 Th a b k d) Af Bf) none := by
  refine cW_of (owner := RX0) rfl (by decide) (Nat.le_of_ble_eq_true rfl) ?_
  intro p e s m args below meth c ls C hlk hr hK hP hD hS hl
  have hl : lv_has ls 5 [(0, .ref mm), (1, .int (J ((a : Nat) : Int))), (2, .int (J ((b : Nat) : Int))), (3, .int (J ((k : Nat) : Int))), (4, .int (J (b2i (d))))] := hl
  have hP : va_P D vwCl [(mm, .inr (0, [.ref pp, .ref mc, .int (J ((sz : Nat) : Int)), .ref mt, .ref ma, .ref mb])), (mc, .inl (cI, 80, .inl (fun z9 => J ((Cd z9 : Nat) : Int)))), (mt, .inl (cI, 1600, .inl (fun z9 => J (Th z9)))), (ma, .inl (cI, 40, .inl (fun z9 => J ((Af z9 : Nat) : Int)))), (mb, .inl (cI, 40, .inl (fun z9 => J ((Bf z9 : Nat) : Int))))] s.heap := hP
  have hD : va_D _ [(mm, .inr (0, [.ref pp, .ref mc, .int (J ((sz : Nat) : Int)), .ref mt, .ref ma, .ref mb])), (mc, .inl (cI, 80, .inl (fun z9 => J ((Cd z9 : Nat) : Int)))), (mt, .inl (cI, 1600, .inl (fun z9 => J (Th z9)))), (ma, .inl (cI, 40, .inl (fun z9 => J ((Af z9 : Nat) : Int)))), (mb, .inl (cI, 40, .inl (fun z9 => J ((Bf z9 : Nat) : Int))))] := hD
  obtain ⟨hCd, hsz, hTh, hAf, hBf⟩ := hM
  refine lv_aload_n C.1 C.2.1 dX0_setThirds_0 rfl (lv_at hl 0 rfl) ?_
  refine jv_get C fw_X0_15 hK hP 0 rfl rfl dX0_setThirds_1 ?_
  refine lv_iload_n C.1 C.2.1 dX0_setThirds_4 rfl (lv_at hl 1 rfl) ?_
  refine jv_bipush C dX0_setThirds_5 rfl ?_
  refine jv_imul (z := ((a * 40 : Nat) : Int)) C dX0_setThirds_7 (by omega) ?_
  refine lv_iload_n C.1 C.2.1 dX0_setThirds_8 rfl (lv_at hl 2 rfl) ?_
  refine jv_iadd (z := (((a * 40) + b : Nat) : Int)) C dX0_setThirds_9 (by omega) ?_
  refine lv_iload C.1 C.2.1 dX0_setThirds_10 (lv_at hl 4 rfl) ?_
  refine jv_bif_eq (tgt := 19) C dX0_setThirds_12 (by decide) (fun h1 => ?_) (fun h1 => ?_)
  · refine jv_iconst C dX0_setThirds_19 ?_
    refine jv_iast (G := sn Th ((a * 40) + b) (-1)) C hK hP hD hS 2 0 rfl rfl ((a * 40) + b) (by omega) (by omega) (by decide) (fun _ => rfl) dX0_setThirds_20 (fun H locs hP hD hS => ?_)
    have hP : va_P D vwCl [(mm, .inr (0, [.ref pp, .ref mc, .int (J ((sz : Nat) : Int)), .ref mt, .ref ma, .ref mb])), (mc, .inl (cI, 80, .inl (fun z9 => J ((Cd z9 : Nat) : Int)))), (mt, .inl (cI, 1600, .inl (fun z9 => J ((sn Th ((a * 40) + b) (-1)) z9)))), (ma, .inl (cI, 40, .inl (fun z9 => J ((Af z9 : Nat) : Int)))), (mb, .inl (cI, 40, .inl (fun z9 => J ((Bf z9 : Nat) : Int))))] H := hP
    have hD : va_D _ [(mm, .inr (0, [.ref pp, .ref mc, .int (J ((sz : Nat) : Int)), .ref mt, .ref ma, .ref mb])), (mc, .inl (cI, 80, .inl (fun z9 => J ((Cd z9 : Nat) : Int)))), (mt, .inl (cI, 1600, .inl (fun z9 => J ((sn Th ((a * 40) + b) (-1)) z9)))), (ma, .inl (cI, 40, .inl (fun z9 => J ((Af z9 : Nat) : Int)))), (mb, .inl (cI, 40, .inl (fun z9 => J ((Bf z9 : Nat) : Int))))] := hD
    have hTh := sn_th hTh ((a * 40) + b) (z := (-1)) (by omega)
    refine lv_aload_n C.1 C.2.1 dX0_setThirds_21 rfl (lv_at hl 0 rfl) ?_
    refine jv_get C fw_X0_15 hK hP 0 rfl rfl dX0_setThirds_22 ?_
    refine lv_iload_n C.1 C.2.1 dX0_setThirds_25 rfl (lv_at hl 2 rfl) ?_
    refine jv_bipush C dX0_setThirds_26 rfl ?_
    refine jv_imul (z := ((b * 40 : Nat) : Int)) C dX0_setThirds_28 (by omega) ?_
    refine lv_iload_n C.1 C.2.1 dX0_setThirds_29 rfl (lv_at hl 3 rfl) ?_
    refine jv_iadd (z := (((b * 40) + k : Nat) : Int)) C dX0_setThirds_30 (by omega) ?_
    refine lv_iload C.1 C.2.1 dX0_setThirds_31 (lv_at hl 4 rfl) ?_
    refine jv_bif_eq (tgt := 40) C dX0_setThirds_33 (by decide) (fun h2 => ?_) (fun h2 => ?_)
    · refine jv_iconst C dX0_setThirds_40 ?_
      refine jv_iast (G := sn (sn Th ((a * 40) + b) (-1)) ((b * 40) + k) (-1)) C hK hP hD hS 2 0 rfl rfl ((b * 40) + k) (by omega) (by omega) (by decide) (fun _ => rfl) dX0_setThirds_41 (fun H locs hP hD hS => ?_)
      have hP : va_P D vwCl [(mm, .inr (0, [.ref pp, .ref mc, .int (J ((sz : Nat) : Int)), .ref mt, .ref ma, .ref mb])), (mc, .inl (cI, 80, .inl (fun z9 => J ((Cd z9 : Nat) : Int)))), (mt, .inl (cI, 1600, .inl (fun z9 => J ((sn (sn Th ((a * 40) + b) (-1)) ((b * 40) + k) (-1)) z9)))), (ma, .inl (cI, 40, .inl (fun z9 => J ((Af z9 : Nat) : Int)))), (mb, .inl (cI, 40, .inl (fun z9 => J ((Bf z9 : Nat) : Int))))] H := hP
      have hD : va_D _ [(mm, .inr (0, [.ref pp, .ref mc, .int (J ((sz : Nat) : Int)), .ref mt, .ref ma, .ref mb])), (mc, .inl (cI, 80, .inl (fun z9 => J ((Cd z9 : Nat) : Int)))), (mt, .inl (cI, 1600, .inl (fun z9 => J ((sn (sn Th ((a * 40) + b) (-1)) ((b * 40) + k) (-1)) z9)))), (ma, .inl (cI, 40, .inl (fun z9 => J ((Af z9 : Nat) : Int)))), (mb, .inl (cI, 40, .inl (fun z9 => J ((Bf z9 : Nat) : Int))))] := hD
      have hTh := sn_th hTh ((b * 40) + k) (z := (-1)) (by omega)
      refine lv_aload_n C.1 C.2.1 dX0_setThirds_42 rfl (lv_at hl 0 rfl) ?_
      refine jv_get C fw_X0_15 hK hP 0 rfl rfl dX0_setThirds_43 ?_
      refine lv_iload_n C.1 C.2.1 dX0_setThirds_46 rfl (lv_at hl 3 rfl) ?_
      refine jv_bipush C dX0_setThirds_47 rfl ?_
      refine jv_imul (z := ((k * 40 : Nat) : Int)) C dX0_setThirds_49 (by omega) ?_
      refine lv_iload_n C.1 C.2.1 dX0_setThirds_50 rfl (lv_at hl 1 rfl) ?_
      refine jv_iadd (z := (((k * 40) + a : Nat) : Int)) C dX0_setThirds_51 (by omega) ?_
      refine lv_iload C.1 C.2.1 dX0_setThirds_52 (lv_at hl 4 rfl) ?_
      refine jv_bif_eq (tgt := 61) C dX0_setThirds_54 (by decide) (fun h3 => ?_) (fun h3 => ?_)
      · refine jv_iconst C dX0_setThirds_61 ?_
        refine jv_iast (G := sn (sn (sn Th ((a * 40) + b) (-1)) ((b * 40) + k) (-1)) ((k * 40) + a) (-1)) C hK hP hD hS 2 0 rfl rfl ((k * 40) + a) (by omega) (by omega) (by decide) (fun _ => rfl) dX0_setThirds_62 (fun H locs hP hD hS => ?_)
        have hP : va_P D vwCl [(mm, .inr (0, [.ref pp, .ref mc, .int (J ((sz : Nat) : Int)), .ref mt, .ref ma, .ref mb])), (mc, .inl (cI, 80, .inl (fun z9 => J ((Cd z9 : Nat) : Int)))), (mt, .inl (cI, 1600, .inl (fun z9 => J ((sn (sn (sn Th ((a * 40) + b) (-1)) ((b * 40) + k) (-1)) ((k * 40) + a) (-1)) z9)))), (ma, .inl (cI, 40, .inl (fun z9 => J ((Af z9 : Nat) : Int)))), (mb, .inl (cI, 40, .inl (fun z9 => J ((Bf z9 : Nat) : Int))))] H := hP
        have hD : va_D _ [(mm, .inr (0, [.ref pp, .ref mc, .int (J ((sz : Nat) : Int)), .ref mt, .ref ma, .ref mb])), (mc, .inl (cI, 80, .inl (fun z9 => J ((Cd z9 : Nat) : Int)))), (mt, .inl (cI, 1600, .inl (fun z9 => J ((sn (sn (sn Th ((a * 40) + b) (-1)) ((b * 40) + k) (-1)) ((k * 40) + a) (-1)) z9)))), (ma, .inl (cI, 40, .inl (fun z9 => J ((Af z9 : Nat) : Int)))), (mb, .inl (cI, 40, .inl (fun z9 => J ((Bf z9 : Nat) : Int))))] := hD
        have hTh := sn_th hTh ((k * 40) + a) (z := (-1)) (by omega)
        exact jw_vret C hlk hr dX0_setThirds_63 (by rw [h1]; exact hP) hS
      · exact absurd (h1.symm.trans h3) (by decide)
    · exact absurd (h1.symm.trans h2) (by decide)
  · refine lv_iload_n C.1 C.2.1 dX0_setThirds_15 rfl (lv_at hl 3 rfl) ?_
    refine lv_goto (tgt := 20) C.1 C.2.1 dX0_setThirds_16 (by decide) ?_
    refine jv_iast (G := sn Th ((a * 40) + b) ((k : Nat) : Int)) C hK hP hD hS 2 0 rfl rfl ((a * 40) + b) (by omega) (by omega) (by decide) (fun _ => rfl) dX0_setThirds_20 (fun H locs hP hD hS => ?_)
    have hP : va_P D vwCl [(mm, .inr (0, [.ref pp, .ref mc, .int (J ((sz : Nat) : Int)), .ref mt, .ref ma, .ref mb])), (mc, .inl (cI, 80, .inl (fun z9 => J ((Cd z9 : Nat) : Int)))), (mt, .inl (cI, 1600, .inl (fun z9 => J ((sn Th ((a * 40) + b) ((k : Nat) : Int)) z9)))), (ma, .inl (cI, 40, .inl (fun z9 => J ((Af z9 : Nat) : Int)))), (mb, .inl (cI, 40, .inl (fun z9 => J ((Bf z9 : Nat) : Int))))] H := hP
    have hD : va_D _ [(mm, .inr (0, [.ref pp, .ref mc, .int (J ((sz : Nat) : Int)), .ref mt, .ref ma, .ref mb])), (mc, .inl (cI, 80, .inl (fun z9 => J ((Cd z9 : Nat) : Int)))), (mt, .inl (cI, 1600, .inl (fun z9 => J ((sn Th ((a * 40) + b) ((k : Nat) : Int)) z9)))), (ma, .inl (cI, 40, .inl (fun z9 => J ((Af z9 : Nat) : Int)))), (mb, .inl (cI, 40, .inl (fun z9 => J ((Bf z9 : Nat) : Int))))] := hD
    have hTh := sn_th hTh ((a * 40) + b) (z := ((k : Nat) : Int)) (by omega)
    refine lv_aload_n C.1 C.2.1 dX0_setThirds_21 rfl (lv_at hl 0 rfl) ?_
    refine jv_get C fw_X0_15 hK hP 0 rfl rfl dX0_setThirds_22 ?_
    refine lv_iload_n C.1 C.2.1 dX0_setThirds_25 rfl (lv_at hl 2 rfl) ?_
    refine jv_bipush C dX0_setThirds_26 rfl ?_
    refine jv_imul (z := ((b * 40 : Nat) : Int)) C dX0_setThirds_28 (by omega) ?_
    refine lv_iload_n C.1 C.2.1 dX0_setThirds_29 rfl (lv_at hl 3 rfl) ?_
    refine jv_iadd (z := (((b * 40) + k : Nat) : Int)) C dX0_setThirds_30 (by omega) ?_
    refine lv_iload C.1 C.2.1 dX0_setThirds_31 (lv_at hl 4 rfl) ?_
    refine jv_bif_eq (tgt := 40) C dX0_setThirds_33 (by decide) (fun h4 => ?_) (fun h4 => ?_)
    · exact absurd (h1.symm.trans h4) (by decide)
    · refine lv_iload_n C.1 C.2.1 dX0_setThirds_36 rfl (lv_at hl 1 rfl) ?_
      refine lv_goto (tgt := 41) C.1 C.2.1 dX0_setThirds_37 (by decide) ?_
      refine jv_iast (G := sn (sn Th ((a * 40) + b) ((k : Nat) : Int)) ((b * 40) + k) ((a : Nat) : Int)) C hK hP hD hS 2 0 rfl rfl ((b * 40) + k) (by omega) (by omega) (by decide) (fun _ => rfl) dX0_setThirds_41 (fun H locs hP hD hS => ?_)
      have hP : va_P D vwCl [(mm, .inr (0, [.ref pp, .ref mc, .int (J ((sz : Nat) : Int)), .ref mt, .ref ma, .ref mb])), (mc, .inl (cI, 80, .inl (fun z9 => J ((Cd z9 : Nat) : Int)))), (mt, .inl (cI, 1600, .inl (fun z9 => J ((sn (sn Th ((a * 40) + b) ((k : Nat) : Int)) ((b * 40) + k) ((a : Nat) : Int)) z9)))), (ma, .inl (cI, 40, .inl (fun z9 => J ((Af z9 : Nat) : Int)))), (mb, .inl (cI, 40, .inl (fun z9 => J ((Bf z9 : Nat) : Int))))] H := hP
      have hD : va_D _ [(mm, .inr (0, [.ref pp, .ref mc, .int (J ((sz : Nat) : Int)), .ref mt, .ref ma, .ref mb])), (mc, .inl (cI, 80, .inl (fun z9 => J ((Cd z9 : Nat) : Int)))), (mt, .inl (cI, 1600, .inl (fun z9 => J ((sn (sn Th ((a * 40) + b) ((k : Nat) : Int)) ((b * 40) + k) ((a : Nat) : Int)) z9)))), (ma, .inl (cI, 40, .inl (fun z9 => J ((Af z9 : Nat) : Int)))), (mb, .inl (cI, 40, .inl (fun z9 => J ((Bf z9 : Nat) : Int))))] := hD
      have hTh := sn_th hTh ((b * 40) + k) (z := ((a : Nat) : Int)) (by omega)
      refine lv_aload_n C.1 C.2.1 dX0_setThirds_42 rfl (lv_at hl 0 rfl) ?_
      refine jv_get C fw_X0_15 hK hP 0 rfl rfl dX0_setThirds_43 ?_
      refine lv_iload_n C.1 C.2.1 dX0_setThirds_46 rfl (lv_at hl 3 rfl) ?_
      refine jv_bipush C dX0_setThirds_47 rfl ?_
      refine jv_imul (z := ((k * 40 : Nat) : Int)) C dX0_setThirds_49 (by omega) ?_
      refine lv_iload_n C.1 C.2.1 dX0_setThirds_50 rfl (lv_at hl 1 rfl) ?_
      refine jv_iadd (z := (((k * 40) + a : Nat) : Int)) C dX0_setThirds_51 (by omega) ?_
      refine lv_iload C.1 C.2.1 dX0_setThirds_52 (lv_at hl 4 rfl) ?_
      refine jv_bif_eq (tgt := 61) C dX0_setThirds_54 (by decide) (fun h5 => ?_) (fun h5 => ?_)
      · exact absurd (h1.symm.trans h5) (by decide)
      · refine lv_iload_n C.1 C.2.1 dX0_setThirds_57 rfl (lv_at hl 2 rfl) ?_
        refine lv_goto (tgt := 62) C.1 C.2.1 dX0_setThirds_58 (by decide) ?_
        refine jv_iast (G := sn (sn (sn Th ((a * 40) + b) ((k : Nat) : Int)) ((b * 40) + k) ((a : Nat) : Int)) ((k * 40) + a) ((b : Nat) : Int)) C hK hP hD hS 2 0 rfl rfl ((k * 40) + a) (by omega) (by omega) (by decide) (fun _ => rfl) dX0_setThirds_62 (fun H locs hP hD hS => ?_)
        have hP : va_P D vwCl [(mm, .inr (0, [.ref pp, .ref mc, .int (J ((sz : Nat) : Int)), .ref mt, .ref ma, .ref mb])), (mc, .inl (cI, 80, .inl (fun z9 => J ((Cd z9 : Nat) : Int)))), (mt, .inl (cI, 1600, .inl (fun z9 => J ((sn (sn (sn Th ((a * 40) + b) ((k : Nat) : Int)) ((b * 40) + k) ((a : Nat) : Int)) ((k * 40) + a) ((b : Nat) : Int)) z9)))), (ma, .inl (cI, 40, .inl (fun z9 => J ((Af z9 : Nat) : Int)))), (mb, .inl (cI, 40, .inl (fun z9 => J ((Bf z9 : Nat) : Int))))] H := hP
        have hD : va_D _ [(mm, .inr (0, [.ref pp, .ref mc, .int (J ((sz : Nat) : Int)), .ref mt, .ref ma, .ref mb])), (mc, .inl (cI, 80, .inl (fun z9 => J ((Cd z9 : Nat) : Int)))), (mt, .inl (cI, 1600, .inl (fun z9 => J ((sn (sn (sn Th ((a * 40) + b) ((k : Nat) : Int)) ((b * 40) + k) ((a : Nat) : Int)) ((k * 40) + a) ((b : Nat) : Int)) z9)))), (ma, .inl (cI, 40, .inl (fun z9 => J ((Af z9 : Nat) : Int)))), (mb, .inl (cI, 40, .inl (fun z9 => J ((Bf z9 : Nat) : Int))))] := hD
        have hTh := sn_th hTh ((k * 40) + a) (z := ((b : Nat) : Int)) (by omega)
        exact jw_vret C hlk hr dX0_setThirds_63 (by rw [h1]; exact hP) hS
set_option maxRecDepth 20000 in
theorem lp_X0_addTriangle_27 {p : Program} {e : Env} {s : State} {m : MethodId} {args : Array Value} {below : List Frame} {meth : Method} {c : Code} {WC : va_W} {a b k : Nat} (C : CallFix p m c cX0_addTriangle 6 s args TB RX0) (hlk : meth.locks = false) (hr : meth.sig.returnType = none) (hK : va_K D vwCl (tyz cI cZ) s) (hTh : ∀ i, -1 ≤ Th i ∧ Th i < 40) (hAf : ∀ i, Af i < 40) (hBf : ∀ i, Bf i < 40) (hs : sz < 80) (ha : a < 40) (hb : b < 40) (hk : k < 40) :
    ∀ (n : Nat) (i : Nat) (Cd : Nat → Nat), i < n → i ≤ sz → (∀ i, Cd i < 64000) → ∀ (Cf : Nat → Nat), Cf = insO (fun q => decide (cod a b k < q)) (cod a b k) i Cd → ∀ (H : Heap) (locs : List Loc), va_P D vwCl [(mm, .inr (0, [.ref pp, .ref mc, .int (J ((sz : Nat) : Int)), .ref mt, .ref ma, .ref mb])), (mc, .inl (cI, 80, .inl (fun z9 => J ((Cd z9 : Nat) : Int)))), (mt, .inl (cI, 1600, .inl (fun z9 => J (Th z9)))), (ma, .inl (cI, 40, .inl (fun z9 => J ((Af z9 : Nat) : Int)))), (mb, .inl (cI, 40, .inl (fun z9 => J ((Bf z9 : Nat) : Int))))] H → va_D (inW WC) [(mm, .inr (0, [.ref pp, .ref mc, .int (J ((sz : Nat) : Int)), .ref mt, .ref ma, .ref mb])), (mc, .inl (cI, 80, .inl (fun z9 => J ((Cd z9 : Nat) : Int)))), (mt, .inl (cI, 1600, .inl (fun z9 => J (Th z9)))), (ma, .inl (cI, 40, .inl (fun z9 => J ((Af z9 : Nat) : Int)))), (mb, .inl (cI, 40, .inl (fun z9 => J ((Bf z9 : Nat) : Int))))] → va_S (inW WC) s.heap H locs → ∀ ls : Array Slot, lv_has ls 6 [(0, .ref mm), (1, .int (J ((a : Nat) : Int))), (2, .int (J ((b : Nat) : Int))), (3, .int (J ((k : Nat) : Int))), (4, .int (J ((cod a b k : Nat) : Int))), (5, .int (J ((i : Nat) : Int)))] → W p l e { frames := 1, cells := 0, slots := 0, locals := 24 } s m args below meth c H locs 0 0 (MQ below (QW D WC (wMesh cI mm mc mt ma mb pp Cf (sz + 1) (st3 Th a b k true) Af Bf) none) args s 0 0 (inW WC)) (F0 m 27 ls []) := by
  have hco := cod_lt ha hb hk
  intro n
  induction n with
  | zero => intro i Cd hi0 hi1 hCd; omega
  | succ n ih =>
    intro i Cd hi0 hi1 hCd Cf hCf H locs hP hD hS ls hl
    refine lv_iload C.1 C.2.1 dX0_addTriangle_27 (lv_at hl 5 rfl) ?_
    refine jv_if_le (tgt := 68) C dX0_addTriangle_29 (by decide) (by omega) (fun h1 => ?_) (fun h1 => ?_)
    · refine lv_aload_n C.1 C.2.1 dX0_addTriangle_68 rfl (lv_at hl 0 rfl) ?_
      refine jv_get C fw_X0_9 hK hP 0 rfl rfl dX0_addTriangle_69 ?_
      refine lv_iload C.1 C.2.1 dX0_addTriangle_72 (lv_at hl 5 rfl) ?_
      refine lv_iload C.1 C.2.1 dX0_addTriangle_74 (lv_at hl 4 rfl) ?_
      refine jv_iast (G := fun z9 => (((sn Cd i (cod a b k)) z9 : Nat) : Int)) C hK hP hD hS 1 0 rfl rfl (i) (by omega) (by omega) (by decide) (sn_nat Cd i (cod a b k)) dX0_addTriangle_76 (fun H locs hP hD hS => ?_)
      have hP : va_P D vwCl [(mm, .inr (0, [.ref pp, .ref mc, .int (J ((sz : Nat) : Int)), .ref mt, .ref ma, .ref mb])), (mc, .inl (cI, 80, .inl (fun z9 => J (((sn Cd i (cod a b k)) z9 : Nat) : Int)))), (mt, .inl (cI, 1600, .inl (fun z9 => J (Th z9)))), (ma, .inl (cI, 40, .inl (fun z9 => J ((Af z9 : Nat) : Int)))), (mb, .inl (cI, 40, .inl (fun z9 => J ((Bf z9 : Nat) : Int))))] H := hP
      have hD : va_D _ [(mm, .inr (0, [.ref pp, .ref mc, .int (J ((sz : Nat) : Int)), .ref mt, .ref ma, .ref mb])), (mc, .inl (cI, 80, .inl (fun z9 => J (((sn Cd i (cod a b k)) z9 : Nat) : Int)))), (mt, .inl (cI, 1600, .inl (fun z9 => J (Th z9)))), (ma, .inl (cI, 40, .inl (fun z9 => J ((Af z9 : Nat) : Int)))), (mb, .inl (cI, 40, .inl (fun z9 => J ((Bf z9 : Nat) : Int))))] := hD
      have hCd := sn_lt hCd i (z := cod a b k) (by omega)
      refine lv_aload_n C.1 C.2.1 dX0_addTriangle_77 rfl (lv_at hl 0 rfl) ?_
      refine lv_dup C.1 C.2.1 dX0_addTriangle_78 rfl ?_
      refine jv_get C fw_X0_34 hK hP 0 rfl rfl dX0_addTriangle_79 ?_
      refine jv_iconst C dX0_addTriangle_82 ?_
      refine jv_iadd (z := ((sz + 1 : Nat) : Int)) C dX0_addTriangle_83 (by omega) ?_
      refine jv_put C fw_X0_34 fp_X0 hK hP hD hS 0 rfl rfl rfl rfl (Nat.le_of_ble_eq_true rfl) dX0_addTriangle_84 (fun H locs hP hD hS => ?_)
      have hP : va_P D vwCl [(mm, .inr (0, [.ref pp, .ref mc, .int (J ((sz + 1 : Nat) : Int)), .ref mt, .ref ma, .ref mb])), (mc, .inl (cI, 80, .inl (fun z9 => J (((sn Cd i (cod a b k)) z9 : Nat) : Int)))), (mt, .inl (cI, 1600, .inl (fun z9 => J (Th z9)))), (ma, .inl (cI, 40, .inl (fun z9 => J ((Af z9 : Nat) : Int)))), (mb, .inl (cI, 40, .inl (fun z9 => J ((Bf z9 : Nat) : Int))))] H := hP
      have hD : va_D _ [(mm, .inr (0, [.ref pp, .ref mc, .int (J ((sz + 1 : Nat) : Int)), .ref mt, .ref ma, .ref mb])), (mc, .inl (cI, 80, .inl (fun z9 => J (((sn Cd i (cod a b k)) z9 : Nat) : Int)))), (mt, .inl (cI, 1600, .inl (fun z9 => J (Th z9)))), (ma, .inl (cI, 40, .inl (fun z9 => J ((Af z9 : Nat) : Int)))), (mb, .inl (cI, 40, .inl (fun z9 => J ((Bf z9 : Nat) : Int))))] := hD
      refine lv_aload_n C.1 C.2.1 dX0_addTriangle_87 rfl (lv_at hl 0 rfl) ?_
      refine lv_iload_n C.1 C.2.1 dX0_addTriangle_88 rfl (lv_at hl 1 rfl) ?_
      refine lv_iload_n C.1 C.2.1 dX0_addTriangle_89 rfl (lv_at hl 2 rfl) ?_
      refine lv_iload_n C.1 C.2.1 dX0_addTriangle_90 rfl (lv_at hl 3 rfl) ?_
      refine jv_iconst C dX0_addTriangle_91 ?_
      refine jv_wrV (ni := 4) (ci := 0) (q0 := 0) (wt := [(mm, .inr (0, [.ref pp, .ref mc, .int (J ((sz + 1 : Nat) : Int)), .ref mt, .ref ma, .ref mb])), (mc, .inl (cI, 80, .inl (fun z9 => J (((sn Cd i (cod a b k)) z9 : Nat) : Int)))), (mt, .inl (cI, 1600, .inl (fun z9 => J ((st3 Th a b k true) z9)))), (ma, .inl (cI, 40, .inl (fun z9 => J ((Af z9 : Nat) : Int)))), (mb, .inl (cI, 40, .inl (fun z9 => J ((Bf z9 : Nat) : Int))))]) C [.int (J ((a : Nat) : Int)), .int (J ((b : Nat) : Int)), .int (J ((k : Nat) : Int)), .int (J (b2i (true)))] [] (c_X0_setThirds (Cd := sn Cd i (cod a b k)) (sz := sz + 1) (Th := Th) (Af := Af) (Bf := Bf) (a := a) (b := b) (k := k) (d := true) ⟨hCd, by omega, hTh, hAf, hBf⟩ (by omega) (by omega) (by omega)) gv_X0_116 (by decide +kernel) (by decide) hK hP hD hS [0, 1, 2, 3, 4] rfl (by decide) rfl rfl rfl rfl rfl rfl hl.1 (by simp [Value.category]) dX0_addTriangle_92 (by decide) (fun H locs hP hD hS => ?_) rfl
      show W _ _ _ _ _ _ _ _ _ _ _ _ _ _ _ (F0 m 95 ls [])
      exact jw_vret C hlk hr dX0_addTriangle_95 (by rw [hCf]; (first | rw [insO_0 (by omega)] | rw [insO_stop (by omega) (by simp; omega)]); exact hP) hS
    · refine lv_aload_n C.1 C.2.1 dX0_addTriangle_32 rfl (lv_at hl 0 rfl) ?_
      refine jv_get C fw_X0_9 hK hP 0 rfl rfl dX0_addTriangle_33 ?_
      refine lv_iload C.1 C.2.1 dX0_addTriangle_36 (lv_at hl 5 rfl) ?_
      refine jv_iconst C dX0_addTriangle_38 ?_
      refine jv_isub (z := ((i - 1 : Nat) : Int)) C dX0_addTriangle_39 (by omega) ?_
      refine jv_iald C hK hP 1 0 rfl rfl (i - 1) (by omega) (by omega) (by decide) dX0_addTriangle_40 ?_
      have f2 := hCd (i - 1)
      refine lv_iload C.1 C.2.1 dX0_addTriangle_41 (lv_at hl 4 rfl) ?_
      refine jv_icmp_le (tgt := 68) C dX0_addTriangle_43 (by decide) (by omega) (fun h3 => ?_) (fun h3 => ?_)
      · refine lv_aload_n C.1 C.2.1 dX0_addTriangle_68 rfl (lv_at hl 0 rfl) ?_
        refine jv_get C fw_X0_9 hK hP 0 rfl rfl dX0_addTriangle_69 ?_
        refine lv_iload C.1 C.2.1 dX0_addTriangle_72 (lv_at hl 5 rfl) ?_
        refine lv_iload C.1 C.2.1 dX0_addTriangle_74 (lv_at hl 4 rfl) ?_
        refine jv_iast (G := fun z9 => (((sn Cd i (cod a b k)) z9 : Nat) : Int)) C hK hP hD hS 1 0 rfl rfl (i) (by omega) (by omega) (by decide) (sn_nat Cd i (cod a b k)) dX0_addTriangle_76 (fun H locs hP hD hS => ?_)
        have hP : va_P D vwCl [(mm, .inr (0, [.ref pp, .ref mc, .int (J ((sz : Nat) : Int)), .ref mt, .ref ma, .ref mb])), (mc, .inl (cI, 80, .inl (fun z9 => J (((sn Cd i (cod a b k)) z9 : Nat) : Int)))), (mt, .inl (cI, 1600, .inl (fun z9 => J (Th z9)))), (ma, .inl (cI, 40, .inl (fun z9 => J ((Af z9 : Nat) : Int)))), (mb, .inl (cI, 40, .inl (fun z9 => J ((Bf z9 : Nat) : Int))))] H := hP
        have hD : va_D _ [(mm, .inr (0, [.ref pp, .ref mc, .int (J ((sz : Nat) : Int)), .ref mt, .ref ma, .ref mb])), (mc, .inl (cI, 80, .inl (fun z9 => J (((sn Cd i (cod a b k)) z9 : Nat) : Int)))), (mt, .inl (cI, 1600, .inl (fun z9 => J (Th z9)))), (ma, .inl (cI, 40, .inl (fun z9 => J ((Af z9 : Nat) : Int)))), (mb, .inl (cI, 40, .inl (fun z9 => J ((Bf z9 : Nat) : Int))))] := hD
        have hCd := sn_lt hCd i (z := cod a b k) (by omega)
        refine lv_aload_n C.1 C.2.1 dX0_addTriangle_77 rfl (lv_at hl 0 rfl) ?_
        refine lv_dup C.1 C.2.1 dX0_addTriangle_78 rfl ?_
        refine jv_get C fw_X0_34 hK hP 0 rfl rfl dX0_addTriangle_79 ?_
        refine jv_iconst C dX0_addTriangle_82 ?_
        refine jv_iadd (z := ((sz + 1 : Nat) : Int)) C dX0_addTriangle_83 (by omega) ?_
        refine jv_put C fw_X0_34 fp_X0 hK hP hD hS 0 rfl rfl rfl rfl (Nat.le_of_ble_eq_true rfl) dX0_addTriangle_84 (fun H locs hP hD hS => ?_)
        have hP : va_P D vwCl [(mm, .inr (0, [.ref pp, .ref mc, .int (J ((sz + 1 : Nat) : Int)), .ref mt, .ref ma, .ref mb])), (mc, .inl (cI, 80, .inl (fun z9 => J (((sn Cd i (cod a b k)) z9 : Nat) : Int)))), (mt, .inl (cI, 1600, .inl (fun z9 => J (Th z9)))), (ma, .inl (cI, 40, .inl (fun z9 => J ((Af z9 : Nat) : Int)))), (mb, .inl (cI, 40, .inl (fun z9 => J ((Bf z9 : Nat) : Int))))] H := hP
        have hD : va_D _ [(mm, .inr (0, [.ref pp, .ref mc, .int (J ((sz + 1 : Nat) : Int)), .ref mt, .ref ma, .ref mb])), (mc, .inl (cI, 80, .inl (fun z9 => J (((sn Cd i (cod a b k)) z9 : Nat) : Int)))), (mt, .inl (cI, 1600, .inl (fun z9 => J (Th z9)))), (ma, .inl (cI, 40, .inl (fun z9 => J ((Af z9 : Nat) : Int)))), (mb, .inl (cI, 40, .inl (fun z9 => J ((Bf z9 : Nat) : Int))))] := hD
        refine lv_aload_n C.1 C.2.1 dX0_addTriangle_87 rfl (lv_at hl 0 rfl) ?_
        refine lv_iload_n C.1 C.2.1 dX0_addTriangle_88 rfl (lv_at hl 1 rfl) ?_
        refine lv_iload_n C.1 C.2.1 dX0_addTriangle_89 rfl (lv_at hl 2 rfl) ?_
        refine lv_iload_n C.1 C.2.1 dX0_addTriangle_90 rfl (lv_at hl 3 rfl) ?_
        refine jv_iconst C dX0_addTriangle_91 ?_
        refine jv_wrV (ni := 4) (ci := 0) (q0 := 0) (wt := [(mm, .inr (0, [.ref pp, .ref mc, .int (J ((sz + 1 : Nat) : Int)), .ref mt, .ref ma, .ref mb])), (mc, .inl (cI, 80, .inl (fun z9 => J (((sn Cd i (cod a b k)) z9 : Nat) : Int)))), (mt, .inl (cI, 1600, .inl (fun z9 => J ((st3 Th a b k true) z9)))), (ma, .inl (cI, 40, .inl (fun z9 => J ((Af z9 : Nat) : Int)))), (mb, .inl (cI, 40, .inl (fun z9 => J ((Bf z9 : Nat) : Int))))]) C [.int (J ((a : Nat) : Int)), .int (J ((b : Nat) : Int)), .int (J ((k : Nat) : Int)), .int (J (b2i (true)))] [] (c_X0_setThirds (Cd := sn Cd i (cod a b k)) (sz := sz + 1) (Th := Th) (Af := Af) (Bf := Bf) (a := a) (b := b) (k := k) (d := true) ⟨hCd, by omega, hTh, hAf, hBf⟩ (by omega) (by omega) (by omega)) gv_X0_116 (by decide +kernel) (by decide) hK hP hD hS [0, 1, 2, 3, 4] rfl (by decide) rfl rfl rfl rfl rfl rfl hl.1 (by simp [Value.category]) dX0_addTriangle_92 (by decide) (fun H locs hP hD hS => ?_) rfl
        show W _ _ _ _ _ _ _ _ _ _ _ _ _ _ _ (F0 m 95 ls [])
        exact jw_vret C hlk hr dX0_addTriangle_95 (by rw [hCf]; (first | rw [insO_0 (by omega)] | rw [insO_stop (by omega) (by simp; omega)]); exact hP) hS
      · refine lv_aload_n C.1 C.2.1 dX0_addTriangle_46 rfl (lv_at hl 0 rfl) ?_
        refine jv_get C fw_X0_9 hK hP 0 rfl rfl dX0_addTriangle_47 ?_
        refine lv_iload C.1 C.2.1 dX0_addTriangle_50 (lv_at hl 5 rfl) ?_
        refine lv_aload_n C.1 C.2.1 dX0_addTriangle_52 rfl (lv_at hl 0 rfl) ?_
        refine jv_get C fw_X0_9 hK hP 0 rfl rfl dX0_addTriangle_53 ?_
        refine lv_iload C.1 C.2.1 dX0_addTriangle_56 (lv_at hl 5 rfl) ?_
        refine jv_iconst C dX0_addTriangle_58 ?_
        refine jv_isub (z := ((i - 1 : Nat) : Int)) C dX0_addTriangle_59 (by omega) ?_
        refine jv_iald C hK hP 1 0 rfl rfl (i - 1) (by omega) (by omega) (by decide) dX0_addTriangle_60 ?_
        have f4 := hCd (i - 1)
        refine jv_iast (G := fun z9 => (((sn Cd i (Cd (i - 1))) z9 : Nat) : Int)) C hK hP hD hS 1 0 rfl rfl (i) (by omega) (by omega) (by decide) (sn_nat Cd i (Cd (i - 1))) dX0_addTriangle_61 (fun H locs hP hD hS => ?_)
        have hP : va_P D vwCl [(mm, .inr (0, [.ref pp, .ref mc, .int (J ((sz : Nat) : Int)), .ref mt, .ref ma, .ref mb])), (mc, .inl (cI, 80, .inl (fun z9 => J (((sn Cd i (Cd (i - 1))) z9 : Nat) : Int)))), (mt, .inl (cI, 1600, .inl (fun z9 => J (Th z9)))), (ma, .inl (cI, 40, .inl (fun z9 => J ((Af z9 : Nat) : Int)))), (mb, .inl (cI, 40, .inl (fun z9 => J ((Bf z9 : Nat) : Int))))] H := hP
        have hD : va_D _ [(mm, .inr (0, [.ref pp, .ref mc, .int (J ((sz : Nat) : Int)), .ref mt, .ref ma, .ref mb])), (mc, .inl (cI, 80, .inl (fun z9 => J (((sn Cd i (Cd (i - 1))) z9 : Nat) : Int)))), (mt, .inl (cI, 1600, .inl (fun z9 => J (Th z9)))), (ma, .inl (cI, 40, .inl (fun z9 => J ((Af z9 : Nat) : Int)))), (mb, .inl (cI, 40, .inl (fun z9 => J ((Bf z9 : Nat) : Int))))] := hD
        have hCd := sn_lt hCd i (z := Cd (i - 1)) (by omega)
        refine lv_iinc (v := J (((i - 1 : Nat) : Int))) (lv' := [(5, .int (J ((i - 1 : Nat) : Int))), (0, .ref mm), (1, .int (J ((a : Nat) : Int))), (2, .int (J ((b : Nat) : Int))), (3, .int (J ((k : Nat) : Int))), (4, .int (J ((cod a b k : Nat) : Int)))]) C.1 C.2.1 dX0_addTriangle_62 hl (k := 5) rfl (by rw [show Int32.ofInt (-1) = J (-1) from rfl, J_add]; exact congrArg J (by omega)) (by decide) rfl (fun ls hl => ?_)
        refine lv_goto (tgt := 27) C.1 C.2.1 dX0_addTriangle_65 (by decide) ?_
        exact ih (i - 1) (sn Cd i (Cd (i - 1))) (by omega) (by omega) hCd Cf (by rw [hCf, insO_go (by omega) (by simp; omega)]) H locs hP hD hS ls (lv_sub hl [1, 2, 3, 4, 5, 0] rfl)
set_option maxRecDepth 20000 in
theorem c_X0_addTriangle {a b k : Nat} (hM : MBd Cd sz Th Af Bf) (ha : a < 40) (hb : b < 40) (hk : k < 40) : cW l yX0_addTriangle cX0_addTriangle 6 none 1 24 D (tyz cI cZ) [.ref mm, .int (J ((a : Nat) : Int)), .int (J ((b : Nat) : Int)), .int (J ((k : Nat) : Int))] (wMesh cI mm mc mt ma mb pp Cd sz Th Af Bf) (wMesh cI mm mc mt ma mb pp ((addT a b k (Cd, sz, Th)).1) ((addT a b k (Cd, sz, Th)).2.1) ((addT a b k (Cd, sz, Th)).2.2) Af Bf) none := by
  refine cW_of (owner := RX0) rfl (by decide) (Nat.le_of_ble_eq_true rfl) ?_
  intro p e s m args below meth c ls C hlk hr hK hP hD hS hl
  have hl : lv_has ls 6 [(0, .ref mm), (1, .int (J ((a : Nat) : Int))), (2, .int (J ((b : Nat) : Int))), (3, .int (J ((k : Nat) : Int)))] := hl
  have hP : va_P D vwCl [(mm, .inr (0, [.ref pp, .ref mc, .int (J ((sz : Nat) : Int)), .ref mt, .ref ma, .ref mb])), (mc, .inl (cI, 80, .inl (fun z9 => J ((Cd z9 : Nat) : Int)))), (mt, .inl (cI, 1600, .inl (fun z9 => J (Th z9)))), (ma, .inl (cI, 40, .inl (fun z9 => J ((Af z9 : Nat) : Int)))), (mb, .inl (cI, 40, .inl (fun z9 => J ((Bf z9 : Nat) : Int))))] s.heap := hP
  have hD : va_D _ [(mm, .inr (0, [.ref pp, .ref mc, .int (J ((sz : Nat) : Int)), .ref mt, .ref ma, .ref mb])), (mc, .inl (cI, 80, .inl (fun z9 => J ((Cd z9 : Nat) : Int)))), (mt, .inl (cI, 1600, .inl (fun z9 => J (Th z9)))), (ma, .inl (cI, 40, .inl (fun z9 => J ((Af z9 : Nat) : Int)))), (mb, .inl (cI, 40, .inl (fun z9 => J ((Bf z9 : Nat) : Int))))] := hD
  obtain ⟨hCd, hsz, hTh, hAf, hBf⟩ := hM
  refine lv_aload_n C.1 C.2.1 dX0_addTriangle_0 rfl (lv_at hl 0 rfl) ?_
  refine jv_get C fw_X0_34 hK hP 0 rfl rfl dX0_addTriangle_1 ?_
  refine lv_aload_n C.1 C.2.1 dX0_addTriangle_4 rfl (lv_at hl 0 rfl) ?_
  refine jv_get C fw_X0_9 hK hP 0 rfl rfl dX0_addTriangle_5 ?_
  refine va_alen (v := J 80) C.1 C.2.1 hK hP 1 0 rfl rfl rfl dX0_addTriangle_8 ?_
  refine jv_icmp_lt (tgt := 13) C dX0_addTriangle_9 (by decide) (by omega) (fun h1 => ?_) (fun h1 => ?_)
  · refine lv_iload_n C.1 C.2.1 dX0_addTriangle_13 rfl (lv_at hl 1 rfl) ?_
    refine lv_iload_n C.1 C.2.1 dX0_addTriangle_14 rfl (lv_at hl 2 rfl) ?_
    refine lv_iload_n C.1 C.2.1 dX0_addTriangle_15 rfl (lv_at hl 3 rfl) ?_
    refine jv_rdS (ni := 3) C [.int (J ((a : Nat) : Int)), .int (J ((b : Nat) : Int)), .int (J ((k : Nat) : Int))] [] (c_X0_codeOf (a := a) (b := b) (k := k) (by omega) (by omega) (by omega)) gs_X0_45 (by decide +kernel) (by decide) hK (hP.sub (ws' := []) [] rfl) rfl hl.1 (by simp [Value.category]) dX0_addTriangle_16 (by decide) ?_ rfl
    show W _ _ _ _ _ _ _ _ _ _ _ _ _ _ _ (F0 m 19 ls [.int (J ((cod a b k : Nat) : Int))])
    have f2 := cod_lt (a := a) (b := b) (c := k) (by omega) (by omega) (by omega)
    refine lv_istore (lv' := [(4, .int (J ((cod a b k : Nat) : Int))), (0, .ref mm), (1, .int (J ((a : Nat) : Int))), (2, .int (J ((b : Nat) : Int))), (3, .int (J ((k : Nat) : Int)))]) C.1 C.2.1 dX0_addTriangle_19 hl (by decide) rfl (fun ls hl => ?_)
    refine lv_aload_n C.1 C.2.1 dX0_addTriangle_21 rfl (lv_at hl 1 rfl) ?_
    refine jv_get C fw_X0_34 hK hP 0 rfl rfl dX0_addTriangle_22 ?_
    refine lv_istore (lv' := [(5, .int (J ((sz : Nat) : Int))), (4, .int (J ((cod a b k : Nat) : Int))), (0, .ref mm), (1, .int (J ((a : Nat) : Int))), (2, .int (J ((b : Nat) : Int))), (3, .int (J ((k : Nat) : Int)))]) C.1 C.2.1 dX0_addTriangle_25 hl (by decide) rfl (fun ls hl => ?_)
    rw [show addT a b k (Cd, sz, Th) = (insO (fun q => decide (cod a b k < q)) (cod a b k) sz Cd, sz + 1, st3 Th a b k true) from if_pos (by simp only []; omega)]
    exact lp_X0_addTriangle_27 C hlk hr hK hTh hAf hBf (by omega) ha hb hk (sz + 1) sz Cd (by omega) (by omega) hCd _ rfl _ _ hP hD hS ls (lv_sub hl [2, 3, 4, 5, 1, 0] rfl)
  · exact jw_vret C hlk hr dX0_addTriangle_12 (by rw [show addT a b k (Cd, sz, Th) = (Cd, sz, Th) from if_neg (by simp only []; omega)]; exact hP) hS
set_option maxRecDepth 20000 in
theorem lp_X0_removeTriangle_32 {p : Program} {e : Env} {s : State} {m : MethodId} {args : Array Value} {below : List Frame} {meth : Method} {c : Code} {WC : va_W} {a b k : Nat} {z : Int} (C : CallFix p m c cX0_removeTriangle 6 s args TB RX0) (hlk : meth.locks = false) (hr : meth.sig.returnType = none) (hK : va_K D vwCl (tyz cI cZ) s) (hTh : ∀ i, -1 ≤ Th i ∧ Th i < 40) (hAf : ∀ i, Af i < 40) (hBf : ∀ i, Bf i < 40) (hs : sz < 80) (ha : a < 40) (hb : b < 40) (hk : k < 40) :
    ∀ (n : Nat) (i : Nat) (Cd : Nat → Nat), sz < i + n → i ≤ sz → (∀ i, Cd i < 64000) → ∀ (Cf : Nat → Nat), Cf = shC sz i Cd → ∀ (H : Heap) (locs : List Loc), va_P D vwCl [(mm, .inr (0, [.ref pp, .ref mc, .int (J ((sz : Nat) : Int)), .ref mt, .ref ma, .ref mb])), (mc, .inl (cI, 80, .inl (fun z9 => J ((Cd z9 : Nat) : Int)))), (mt, .inl (cI, 1600, .inl (fun z9 => J (Th z9)))), (ma, .inl (cI, 40, .inl (fun z9 => J ((Af z9 : Nat) : Int)))), (mb, .inl (cI, 40, .inl (fun z9 => J ((Bf z9 : Nat) : Int))))] H → va_D (inW WC) [(mm, .inr (0, [.ref pp, .ref mc, .int (J ((sz : Nat) : Int)), .ref mt, .ref ma, .ref mb])), (mc, .inl (cI, 80, .inl (fun z9 => J ((Cd z9 : Nat) : Int)))), (mt, .inl (cI, 1600, .inl (fun z9 => J (Th z9)))), (ma, .inl (cI, 40, .inl (fun z9 => J ((Af z9 : Nat) : Int)))), (mb, .inl (cI, 40, .inl (fun z9 => J ((Bf z9 : Nat) : Int))))] → va_S (inW WC) s.heap H locs → ∀ ls : Array Slot, lv_has ls 6 [(0, .ref mm), (1, .int (J ((a : Nat) : Int))), (2, .int (J ((b : Nat) : Int))), (3, .int (J ((k : Nat) : Int))), (4, .int (J z)), (5, .int (J ((i : Nat) : Int)))] → W p l e { frames := 1, cells := 0, slots := 0, locals := 24 } s m args below meth c H locs 0 0 (MQ below (QW D WC (wMesh cI mm mc mt ma mb pp Cf sz (st3 Th a b k false) Af Bf) none) args s 0 0 (inW WC)) (F0 m 32 ls []) := by
  intro n
  induction n with
  | zero => intro i Cd hi0 hi1 hCd; omega
  | succ n ih =>
    intro i Cd hi0 hi1 hCd Cf hCf H locs hP hD hS ls hl
    refine lv_iload C.1 C.2.1 dX0_removeTriangle_32 (lv_at hl 5 rfl) ?_
    refine lv_aload_n C.1 C.2.1 dX0_removeTriangle_34 rfl (lv_at hl 0 rfl) ?_
    refine jv_get C fw_X0_34 hK hP 0 rfl rfl dX0_removeTriangle_35 ?_
    refine jv_icmp_ge (tgt := 63) C dX0_removeTriangle_38 (by decide) (by omega) (fun h1 => ?_) (fun h1 => ?_)
    · refine lv_aload_n C.1 C.2.1 dX0_removeTriangle_63 rfl (lv_at hl 0 rfl) ?_
      refine lv_iload_n C.1 C.2.1 dX0_removeTriangle_64 rfl (lv_at hl 1 rfl) ?_
      refine lv_iload_n C.1 C.2.1 dX0_removeTriangle_65 rfl (lv_at hl 2 rfl) ?_
      refine lv_iload_n C.1 C.2.1 dX0_removeTriangle_66 rfl (lv_at hl 3 rfl) ?_
      refine jv_iconst C dX0_removeTriangle_67 ?_
      refine jv_wrV (ni := 4) (ci := 0) (q0 := 0) (wt := [(mm, .inr (0, [.ref pp, .ref mc, .int (J ((sz : Nat) : Int)), .ref mt, .ref ma, .ref mb])), (mc, .inl (cI, 80, .inl (fun z9 => J ((Cd z9 : Nat) : Int)))), (mt, .inl (cI, 1600, .inl (fun z9 => J ((st3 Th a b k false) z9)))), (ma, .inl (cI, 40, .inl (fun z9 => J ((Af z9 : Nat) : Int)))), (mb, .inl (cI, 40, .inl (fun z9 => J ((Bf z9 : Nat) : Int))))]) C [.int (J ((a : Nat) : Int)), .int (J ((b : Nat) : Int)), .int (J ((k : Nat) : Int)), .int (J (b2i (false)))] [] (c_X0_setThirds (Cd := Cd) (sz := sz) (Th := Th) (Af := Af) (Bf := Bf) (a := a) (b := b) (k := k) (d := false) ⟨hCd, by omega, hTh, hAf, hBf⟩ (by omega) (by omega) (by omega)) gv_X0_116 (by decide +kernel) (by decide) hK hP hD hS [0, 1, 2, 3, 4] rfl (by decide) rfl rfl rfl rfl rfl rfl hl.1 (by simp [Value.category]) dX0_removeTriangle_68 (by decide) (fun H locs hP hD hS => ?_) rfl
      show W _ _ _ _ _ _ _ _ _ _ _ _ _ _ _ (F0 m 71 ls [])
      exact jw_vret C hlk hr dX0_removeTriangle_71 (by rw [hCf, shC_end (by omega)]; exact hP) hS
    · refine lv_aload_n C.1 C.2.1 dX0_removeTriangle_41 rfl (lv_at hl 0 rfl) ?_
      refine jv_get C fw_X0_9 hK hP 0 rfl rfl dX0_removeTriangle_42 ?_
      refine lv_iload C.1 C.2.1 dX0_removeTriangle_45 (lv_at hl 5 rfl) ?_
      refine lv_aload_n C.1 C.2.1 dX0_removeTriangle_47 rfl (lv_at hl 0 rfl) ?_
      refine jv_get C fw_X0_9 hK hP 0 rfl rfl dX0_removeTriangle_48 ?_
      refine lv_iload C.1 C.2.1 dX0_removeTriangle_51 (lv_at hl 5 rfl) ?_
      refine jv_iconst C dX0_removeTriangle_53 ?_
      refine jv_iadd (z := ((i + 1 : Nat) : Int)) C dX0_removeTriangle_54 (by omega) ?_
      refine jv_iald C hK hP 1 0 rfl rfl (i + 1) (by omega) (by omega) (by decide) dX0_removeTriangle_55 ?_
      have f2 := hCd (i + 1)
      refine jv_iast (G := fun z9 => (((sn Cd i (Cd (i + 1))) z9 : Nat) : Int)) C hK hP hD hS 1 0 rfl rfl (i) (by omega) (by omega) (by decide) (sn_nat Cd i (Cd (i + 1))) dX0_removeTriangle_56 (fun H locs hP hD hS => ?_)
      have hP : va_P D vwCl [(mm, .inr (0, [.ref pp, .ref mc, .int (J ((sz : Nat) : Int)), .ref mt, .ref ma, .ref mb])), (mc, .inl (cI, 80, .inl (fun z9 => J (((sn Cd i (Cd (i + 1))) z9 : Nat) : Int)))), (mt, .inl (cI, 1600, .inl (fun z9 => J (Th z9)))), (ma, .inl (cI, 40, .inl (fun z9 => J ((Af z9 : Nat) : Int)))), (mb, .inl (cI, 40, .inl (fun z9 => J ((Bf z9 : Nat) : Int))))] H := hP
      have hD : va_D _ [(mm, .inr (0, [.ref pp, .ref mc, .int (J ((sz : Nat) : Int)), .ref mt, .ref ma, .ref mb])), (mc, .inl (cI, 80, .inl (fun z9 => J (((sn Cd i (Cd (i + 1))) z9 : Nat) : Int)))), (mt, .inl (cI, 1600, .inl (fun z9 => J (Th z9)))), (ma, .inl (cI, 40, .inl (fun z9 => J ((Af z9 : Nat) : Int)))), (mb, .inl (cI, 40, .inl (fun z9 => J ((Bf z9 : Nat) : Int))))] := hD
      have hCd := sn_lt hCd i (z := Cd (i + 1)) (by omega)
      refine lv_iinc (v := J (((i + 1 : Nat) : Int))) (lv' := [(5, .int (J ((i + 1 : Nat) : Int))), (0, .ref mm), (1, .int (J ((a : Nat) : Int))), (2, .int (J ((b : Nat) : Int))), (3, .int (J ((k : Nat) : Int))), (4, .int (J z))]) C.1 C.2.1 dX0_removeTriangle_57 hl (k := 5) rfl (by rw [show Int32.ofInt 1 = J 1 from rfl, J_add]; exact congrArg J (by omega)) (by decide) rfl (fun ls hl => ?_)
      refine lv_goto (tgt := 32) C.1 C.2.1 dX0_removeTriangle_60 (by decide) ?_
      exact ih (i + 1) (sn Cd i (Cd (i + 1))) (by omega) (by omega) hCd Cf (by rw [hCf, shC_go (by omega)]) H locs hP hD hS ls (lv_sub hl [1, 2, 3, 4, 5, 0] rfl)
set_option maxRecDepth 20000 in
theorem c_X0_removeTriangle {a b k : Nat} (hM : MBd Cd sz Th Af Bf) (ha : a < 40) (hb : b < 40) (hk : k < 40) : cW l yX0_removeTriangle cX0_removeTriangle 6 none 1 24 D (tyz cI cZ) [.ref mm, .int (J ((a : Nat) : Int)), .int (J ((b : Nat) : Int)), .int (J ((k : Nat) : Int))] (wMesh cI mm mc mt ma mb pp Cd sz Th Af Bf) (wMesh cI mm mc mt ma mb pp ((remT a b k (Cd, sz, Th)).1) ((remT a b k (Cd, sz, Th)).2.1) ((remT a b k (Cd, sz, Th)).2.2) Af Bf) none := by
  refine cW_of (owner := RX0) rfl (by decide) (Nat.le_of_ble_eq_true rfl) ?_
  intro p e s m args below meth c ls C hlk hr hK hP hD hS hl
  have hl : lv_has ls 6 [(0, .ref mm), (1, .int (J ((a : Nat) : Int))), (2, .int (J ((b : Nat) : Int))), (3, .int (J ((k : Nat) : Int)))] := hl
  have hP : va_P D vwCl [(mm, .inr (0, [.ref pp, .ref mc, .int (J ((sz : Nat) : Int)), .ref mt, .ref ma, .ref mb])), (mc, .inl (cI, 80, .inl (fun z9 => J ((Cd z9 : Nat) : Int)))), (mt, .inl (cI, 1600, .inl (fun z9 => J (Th z9)))), (ma, .inl (cI, 40, .inl (fun z9 => J ((Af z9 : Nat) : Int)))), (mb, .inl (cI, 40, .inl (fun z9 => J ((Bf z9 : Nat) : Int))))] s.heap := hP
  have hD : va_D _ [(mm, .inr (0, [.ref pp, .ref mc, .int (J ((sz : Nat) : Int)), .ref mt, .ref ma, .ref mb])), (mc, .inl (cI, 80, .inl (fun z9 => J ((Cd z9 : Nat) : Int)))), (mt, .inl (cI, 1600, .inl (fun z9 => J (Th z9)))), (ma, .inl (cI, 40, .inl (fun z9 => J ((Af z9 : Nat) : Int)))), (mb, .inl (cI, 40, .inl (fun z9 => J ((Bf z9 : Nat) : Int))))] := hD
  obtain ⟨hCd, hsz, hTh, hAf, hBf⟩ := hM
  refine lv_aload_n C.1 C.2.1 dX0_removeTriangle_0 rfl (lv_at hl 0 rfl) ?_
  refine lv_iload_n C.1 C.2.1 dX0_removeTriangle_1 rfl (lv_at hl 1 rfl) ?_
  refine lv_iload_n C.1 C.2.1 dX0_removeTriangle_2 rfl (lv_at hl 2 rfl) ?_
  refine lv_iload_n C.1 C.2.1 dX0_removeTriangle_3 rfl (lv_at hl 3 rfl) ?_
  refine jv_rdS (ni := 3) C [.int (J ((a : Nat) : Int)), .int (J ((b : Nat) : Int)), .int (J ((k : Nat) : Int))] [.ref mm] (c_X0_codeOf (a := a) (b := b) (k := k) (by omega) (by omega) (by omega)) gs_X0_45 (by decide +kernel) (by decide) hK (hP.sub (ws' := []) [] rfl) rfl hl.1 (by simp [Value.category]) dX0_removeTriangle_4 (by decide) ?_ rfl
  show W _ _ _ _ _ _ _ _ _ _ _ _ _ _ _ (F0 m 7 ls [.int (J ((cod a b k : Nat) : Int)), .ref mm])
  have f1 := cod_lt (a := a) (b := b) (c := k) (by omega) (by omega) (by omega)
  refine jv_rdV (ni := 1) (ci := 0) (q0 := 0) C [.int (J ((cod a b k : Nat) : Int))] [] (c_X0_indexOfCode (Cd := Cd) (sz := sz) (Th := Th) (Af := Af) (Bf := Bf) ⟨hCd, hsz, hTh, hAf, hBf⟩  (k := cod a b k) (by omega)) gv_X0_49 (by decide +kernel) (by decide) hK (hP) rfl rfl rfl hl.1 (by simp [Value.category]) dX0_removeTriangle_7 (by decide) ?_ rfl
  show W _ _ _ _ _ _ _ _ _ _ _ _ _ _ _ (F0 m 10 ls [.int (J (oI (-1) (ff (cdP Cd (cod a b k)) sz 0)))])
  refine lv_istore (lv' := [(4, .int (J (oI (-1) (ff (cdP Cd (cod a b k)) sz 0)))), (0, .ref mm), (1, .int (J ((a : Nat) : Int))), (2, .int (J ((b : Nat) : Int))), (3, .int (J ((k : Nat) : Int)))]) C.1 C.2.1 dX0_removeTriangle_10 hl (by decide) rfl (fun ls hl => ?_)
  have hoi : R3 (oI (-1) (ff (cdP Cd (cod a b k)) sz 0)) := by
    cases hq : ff (cdP Cd (cod a b k)) sz 0 with
    | none => simp only [oI]; omega
    | some j => have := (ff_lt sz 0 (by omega) j hq).2.1; simp only [oI]; omega
  refine lv_iload C.1 C.2.1 dX0_removeTriangle_12 (lv_at hl 0 rfl) ?_
  refine jv_if_ge (tgt := 18) C dX0_removeTriangle_14 (by decide) (by omega) (fun h2 => ?_) (fun h2 => ?_)
  · obtain ⟨t, ht⟩ := oI_pos h2
    have htl := (ff_lt sz 0 (by omega) t ht).2.1
    rw [ht] at hl
    have hl : lv_has ls 6 [(4, .int (J ((t : Nat) : Int))), (0, .ref mm), (1, .int (J ((a : Nat) : Int))), (2, .int (J ((b : Nat) : Int))), (3, .int (J ((k : Nat) : Int)))] := hl
    refine lv_aload_n C.1 C.2.1 dX0_removeTriangle_18 rfl (lv_at hl 1 rfl) ?_
    refine lv_dup C.1 C.2.1 dX0_removeTriangle_19 rfl ?_
    refine jv_get C fw_X0_34 hK hP 0 rfl rfl dX0_removeTriangle_20 ?_
    refine jv_iconst C dX0_removeTriangle_23 ?_
    refine jv_isub (z := ((sz - 1 : Nat) : Int)) C dX0_removeTriangle_24 (by omega) ?_
    refine jv_put C fw_X0_34 fp_X0 hK hP hD hS 0 rfl rfl rfl rfl (Nat.le_of_ble_eq_true rfl) dX0_removeTriangle_25 (fun H locs hP hD hS => ?_)
    have hP : va_P D vwCl [(mm, .inr (0, [.ref pp, .ref mc, .int (J ((sz - 1 : Nat) : Int)), .ref mt, .ref ma, .ref mb])), (mc, .inl (cI, 80, .inl (fun z9 => J ((Cd z9 : Nat) : Int)))), (mt, .inl (cI, 1600, .inl (fun z9 => J (Th z9)))), (ma, .inl (cI, 40, .inl (fun z9 => J ((Af z9 : Nat) : Int)))), (mb, .inl (cI, 40, .inl (fun z9 => J ((Bf z9 : Nat) : Int))))] H := hP
    have hD : va_D _ [(mm, .inr (0, [.ref pp, .ref mc, .int (J ((sz - 1 : Nat) : Int)), .ref mt, .ref ma, .ref mb])), (mc, .inl (cI, 80, .inl (fun z9 => J ((Cd z9 : Nat) : Int)))), (mt, .inl (cI, 1600, .inl (fun z9 => J (Th z9)))), (ma, .inl (cI, 40, .inl (fun z9 => J ((Af z9 : Nat) : Int)))), (mb, .inl (cI, 40, .inl (fun z9 => J ((Bf z9 : Nat) : Int))))] := hD
    refine lv_iload C.1 C.2.1 dX0_removeTriangle_28 (lv_at hl 0 rfl) ?_
    refine lv_istore (lv' := [(5, .int (J ((t : Nat) : Int))), (4, .int (J ((t : Nat) : Int))), (0, .ref mm), (1, .int (J ((a : Nat) : Int))), (2, .int (J ((b : Nat) : Int))), (3, .int (J ((k : Nat) : Int)))]) C.1 C.2.1 dX0_removeTriangle_30 hl (by decide) rfl (fun ls hl => ?_)
    rw [remT_some (M := (Cd, sz, Th)) ht]
    exact lp_X0_removeTriangle_32 C hlk hr hK hTh hAf hBf (by omega) ha hb hk (sz + 1) t Cd (by omega) (by omega) hCd _ rfl _ _ hP hD hS ls (lv_sub hl [2, 3, 4, 5, 1, 0] rfl)
  · exact jw_vret C hlk hr dX0_removeTriangle_17 (by rw [remT_none (M := (Cd, sz, Th)) (oI_neg h2)]; exact hP) hS
set_option maxRecDepth 20000 in
theorem c_X0_flipSide {a b : Nat} (hM : MBd Cd sz Th Af Bf) (ha : a < 40) (hb : b < 40) : cW l yX0_flipSide cX0_flipSide 5 none 2 49 D (tyz cI cZ) [.ref mm, .int (J ((a : Nat) : Int)), .int (J ((b : Nat) : Int))] (wMesh cI mm mc mt ma mb pp Cd sz Th Af Bf) (wMesh cI mm mc mt ma mb pp ((flT a b (Cd, sz, Th)).1) ((flT a b (Cd, sz, Th)).2.1) ((flT a b (Cd, sz, Th)).2.2) Af Bf) none := by
  refine cW_of (owner := RX0) rfl (by decide) (Nat.le_of_ble_eq_true rfl) ?_
  intro p e s m args below meth c ls C hlk hr hK hP hD hS hl
  have hl : lv_has ls 5 [(0, .ref mm), (1, .int (J ((a : Nat) : Int))), (2, .int (J ((b : Nat) : Int)))] := hl
  have hP : va_P D vwCl [(mm, .inr (0, [.ref pp, .ref mc, .int (J ((sz : Nat) : Int)), .ref mt, .ref ma, .ref mb])), (mc, .inl (cI, 80, .inl (fun z9 => J ((Cd z9 : Nat) : Int)))), (mt, .inl (cI, 1600, .inl (fun z9 => J (Th z9)))), (ma, .inl (cI, 40, .inl (fun z9 => J ((Af z9 : Nat) : Int)))), (mb, .inl (cI, 40, .inl (fun z9 => J ((Bf z9 : Nat) : Int))))] s.heap := hP
  have hD : va_D _ [(mm, .inr (0, [.ref pp, .ref mc, .int (J ((sz : Nat) : Int)), .ref mt, .ref ma, .ref mb])), (mc, .inl (cI, 80, .inl (fun z9 => J ((Cd z9 : Nat) : Int)))), (mt, .inl (cI, 1600, .inl (fun z9 => J (Th z9)))), (ma, .inl (cI, 40, .inl (fun z9 => J ((Af z9 : Nat) : Int)))), (mb, .inl (cI, 40, .inl (fun z9 => J ((Bf z9 : Nat) : Int))))] := hD
  obtain ⟨hCd, hsz, hTh, hAf, hBf⟩ := hM
  refine lv_aload_n C.1 C.2.1 dX0_flipSide_0 rfl (lv_at hl 0 rfl) ?_
  refine lv_iload_n C.1 C.2.1 dX0_flipSide_1 rfl (lv_at hl 1 rfl) ?_
  refine lv_iload_n C.1 C.2.1 dX0_flipSide_2 rfl (lv_at hl 2 rfl) ?_
  refine jv_rdV (ni := 2) (ci := 0) (q0 := 0) C [.int (J ((a : Nat) : Int)), .int (J ((b : Nat) : Int))] [] (c_X0_thirdOf (Cd := Cd) (sz := sz) (Th := Th) (Af := Af) (Bf := Bf) ⟨hCd, hsz, hTh, hAf, hBf⟩  (a := a) (b := b) (by omega) (by omega)) gv_X0_42 (by decide +kernel) (by decide) hK (hP) rfl rfl rfl hl.1 (by simp [Value.category]) dX0_flipSide_3 (by decide) ?_ rfl
  show W _ _ _ _ _ _ _ _ _ _ _ _ _ _ _ (F0 m 6 ls [.int (J (Th (a * 40 + b)))])
  have f1 := hTh (a * 40 + b)
  refine lv_istore_n (lv' := [(3, .int (J (Th (a * 40 + b)))), (0, .ref mm), (1, .int (J ((a : Nat) : Int))), (2, .int (J ((b : Nat) : Int)))]) C.1 C.2.1 dX0_flipSide_6 rfl hl (by decide) rfl (fun ls hl => ?_)
  refine lv_aload_n C.1 C.2.1 dX0_flipSide_7 rfl (lv_at hl 1 rfl) ?_
  refine lv_iload_n C.1 C.2.1 dX0_flipSide_8 rfl (lv_at hl 3 rfl) ?_
  refine lv_iload_n C.1 C.2.1 dX0_flipSide_9 rfl (lv_at hl 2 rfl) ?_
  refine jv_rdV (ni := 2) (ci := 0) (q0 := 0) C [.int (J ((b : Nat) : Int)), .int (J ((a : Nat) : Int))] [] (c_X0_thirdOf (Cd := Cd) (sz := sz) (Th := Th) (Af := Af) (Bf := Bf) ⟨hCd, hsz, hTh, hAf, hBf⟩  (a := b) (b := a) (by omega) (by omega)) gv_X0_42 (by decide +kernel) (by decide) hK (hP) rfl rfl rfl hl.1 (by simp [Value.category]) dX0_flipSide_10 (by decide) ?_ rfl
  show W _ _ _ _ _ _ _ _ _ _ _ _ _ _ _ (F0 m 13 ls [.int (J (Th (b * 40 + a)))])
  have f2 := hTh (b * 40 + a)
  refine lv_istore (lv' := [(4, .int (J (Th (b * 40 + a)))), (3, .int (J (Th (a * 40 + b)))), (0, .ref mm), (1, .int (J ((a : Nat) : Int))), (2, .int (J ((b : Nat) : Int)))]) C.1 C.2.1 dX0_flipSide_13 hl (by decide) rfl (fun ls hl => ?_)
  refine lv_iload_n C.1 C.2.1 dX0_flipSide_15 rfl (lv_at hl 1 rfl) ?_
  refine jv_if_lt (tgt := 24) C dX0_flipSide_16 (by decide) (by omega) (fun h3 => ?_) (fun h3 => ?_)
  · exact jw_vret C hlk hr dX0_flipSide_24 (by rw [show flT a b (Cd, sz, Th) = (Cd, sz, Th) from if_pos (by simp only []; omega)]; exact hP) hS
  · refine lv_iload C.1 C.2.1 dX0_flipSide_19 (lv_at hl 0 rfl) ?_
    refine jv_if_ge (tgt := 25) C dX0_flipSide_21 (by decide) (by omega) (fun h4 => ?_) (fun h4 => ?_)
    · obtain ⟨q1, hq1⟩ : ∃ k : Nat, Th (a * 40 + b) = (k : Int) := ⟨(Th (a * 40 + b)).toNat, by omega⟩
      rw [hq1] at hl
      obtain ⟨q2, hq2⟩ : ∃ k : Nat, Th (b * 40 + a) = (k : Int) := ⟨(Th (b * 40 + a)).toNat, by omega⟩
      rw [hq2] at hl
      refine lv_aload_n C.1 C.2.1 dX0_flipSide_25 rfl (lv_at hl 2 rfl) ?_
      refine lv_iload_n C.1 C.2.1 dX0_flipSide_26 rfl (lv_at hl 3 rfl) ?_
      refine lv_iload_n C.1 C.2.1 dX0_flipSide_27 rfl (lv_at hl 4 rfl) ?_
      refine lv_iload_n C.1 C.2.1 dX0_flipSide_28 rfl (lv_at hl 1 rfl) ?_
      have hm5 : MB3 (remT a b q1 (Cd, sz, Th)) := remT_b (show MB3 (Cd, sz, Th) from ⟨hCd, by simp only []; omega, hTh⟩) (by omega) (by omega) (by omega)
      have hm5z := hm5.2.1
      refine jv_wrV (ni := 3) (ci := 0) (q0 := 0) (wt := [(mm, .inr (0, [.ref pp, .ref mc, .int (J (((remT a b q1 (Cd, sz, Th)).2.1 : Nat) : Int)), .ref mt, .ref ma, .ref mb])), (mc, .inl (cI, 80, .inl (fun z9 => J ((((remT a b q1 (Cd, sz, Th)).1) z9 : Nat) : Int)))), (mt, .inl (cI, 1600, .inl (fun z9 => J (((remT a b q1 (Cd, sz, Th)).2.2) z9)))), (ma, .inl (cI, 40, .inl (fun z9 => J ((Af z9 : Nat) : Int)))), (mb, .inl (cI, 40, .inl (fun z9 => J ((Bf z9 : Nat) : Int))))]) C [.int (J ((a : Nat) : Int)), .int (J ((b : Nat) : Int)), .int (J ((q1 : Nat) : Int))] [] (c_X0_removeTriangle (Cd := Cd) (sz := sz) (Th := Th) (Af := Af) (Bf := Bf) (a := a) (b := b) (k := q1) ⟨hCd, by omega, hTh, hAf, hBf⟩ (by omega) (by omega) (by omega)) gv_X0_100 (by decide +kernel) (by decide) hK hP hD hS [0, 1, 2, 3, 4] rfl (by decide) rfl rfl rfl rfl rfl rfl hl.1 (by simp [Value.category]) dX0_flipSide_29 (by decide) (fun H locs hP hD hS => ?_) rfl
      show W _ _ _ _ _ _ _ _ _ _ _ _ _ _ _ (F0 m 32 ls [])
      refine lv_aload_n C.1 C.2.1 dX0_flipSide_32 rfl (lv_at hl 2 rfl) ?_
      refine lv_iload_n C.1 C.2.1 dX0_flipSide_33 rfl (lv_at hl 4 rfl) ?_
      refine lv_iload_n C.1 C.2.1 dX0_flipSide_34 rfl (lv_at hl 3 rfl) ?_
      refine lv_iload C.1 C.2.1 dX0_flipSide_35 (lv_at hl 0 rfl) ?_
      have hm6 : MB3 (remT b a q2 (remT a b q1 (Cd, sz, Th))) := remT_b hm5 (by omega) (by omega) (by omega)
      have hm6z := hm6.2.1
      refine jv_wrV (ni := 3) (ci := 0) (q0 := 0) (wt := [(mm, .inr (0, [.ref pp, .ref mc, .int (J (((remT b a q2 (remT a b q1 (Cd, sz, Th))).2.1 : Nat) : Int)), .ref mt, .ref ma, .ref mb])), (mc, .inl (cI, 80, .inl (fun z9 => J ((((remT b a q2 (remT a b q1 (Cd, sz, Th))).1) z9 : Nat) : Int)))), (mt, .inl (cI, 1600, .inl (fun z9 => J (((remT b a q2 (remT a b q1 (Cd, sz, Th))).2.2) z9)))), (ma, .inl (cI, 40, .inl (fun z9 => J ((Af z9 : Nat) : Int)))), (mb, .inl (cI, 40, .inl (fun z9 => J ((Bf z9 : Nat) : Int))))]) C [.int (J ((b : Nat) : Int)), .int (J ((a : Nat) : Int)), .int (J ((q2 : Nat) : Int))] [] (c_X0_removeTriangle (Cd := (remT a b q1 (Cd, sz, Th)).1) (sz := (remT a b q1 (Cd, sz, Th)).2.1) (Th := (remT a b q1 (Cd, sz, Th)).2.2) (Af := Af) (Bf := Bf) (a := b) (b := a) (k := q2) ⟨hm5.1, hm5.2.1, hm5.2.2, hAf, hBf⟩ (by omega) (by omega) (by omega)) gv_X0_100 (by decide +kernel) (by decide) hK hP hD hS [0, 1, 2, 3, 4] rfl (by decide) rfl rfl rfl rfl rfl rfl hl.1 (by simp [Value.category]) dX0_flipSide_37 (by decide) (fun H locs hP hD hS => ?_) rfl
      show W _ _ _ _ _ _ _ _ _ _ _ _ _ _ _ (F0 m 40 ls [])
      refine lv_aload_n C.1 C.2.1 dX0_flipSide_40 rfl (lv_at hl 2 rfl) ?_
      refine lv_iload_n C.1 C.2.1 dX0_flipSide_41 rfl (lv_at hl 3 rfl) ?_
      refine lv_iload C.1 C.2.1 dX0_flipSide_42 (lv_at hl 0 rfl) ?_
      refine lv_iload_n C.1 C.2.1 dX0_flipSide_44 rfl (lv_at hl 1 rfl) ?_
      have hm7 : MB3 (addT a q2 q1 (remT b a q2 (remT a b q1 (Cd, sz, Th)))) := addT_b hm6 (by omega) (by omega) (by omega)
      have hm7z := hm7.2.1
      refine jv_wrV (ni := 3) (ci := 0) (q0 := 0) (wt := [(mm, .inr (0, [.ref pp, .ref mc, .int (J (((addT a q2 q1 (remT b a q2 (remT a b q1 (Cd, sz, Th)))).2.1 : Nat) : Int)), .ref mt, .ref ma, .ref mb])), (mc, .inl (cI, 80, .inl (fun z9 => J ((((addT a q2 q1 (remT b a q2 (remT a b q1 (Cd, sz, Th)))).1) z9 : Nat) : Int)))), (mt, .inl (cI, 1600, .inl (fun z9 => J (((addT a q2 q1 (remT b a q2 (remT a b q1 (Cd, sz, Th)))).2.2) z9)))), (ma, .inl (cI, 40, .inl (fun z9 => J ((Af z9 : Nat) : Int)))), (mb, .inl (cI, 40, .inl (fun z9 => J ((Bf z9 : Nat) : Int))))]) C [.int (J ((a : Nat) : Int)), .int (J ((q2 : Nat) : Int)), .int (J ((q1 : Nat) : Int))] [] (c_X0_addTriangle (Cd := (remT b a q2 (remT a b q1 (Cd, sz, Th))).1) (sz := (remT b a q2 (remT a b q1 (Cd, sz, Th))).2.1) (Th := (remT b a q2 (remT a b q1 (Cd, sz, Th))).2.2) (Af := Af) (Bf := Bf) (a := a) (b := q2) (k := q1) ⟨hm6.1, hm6.2.1, hm6.2.2, hAf, hBf⟩ (by omega) (by omega) (by omega)) gv_X0_81 (by decide +kernel) (by decide) hK hP hD hS [0, 1, 2, 3, 4] rfl (by decide) rfl rfl rfl rfl rfl rfl hl.1 (by simp [Value.category]) dX0_flipSide_45 (by decide) (fun H locs hP hD hS => ?_) rfl
      show W _ _ _ _ _ _ _ _ _ _ _ _ _ _ _ (F0 m 48 ls [])
      refine lv_aload_n C.1 C.2.1 dX0_flipSide_48 rfl (lv_at hl 2 rfl) ?_
      refine lv_iload_n C.1 C.2.1 dX0_flipSide_49 rfl (lv_at hl 4 rfl) ?_
      refine lv_iload_n C.1 C.2.1 dX0_flipSide_50 rfl (lv_at hl 1 rfl) ?_
      refine lv_iload C.1 C.2.1 dX0_flipSide_51 (lv_at hl 0 rfl) ?_
      have hm8 : MB3 (addT b q1 q2 (addT a q2 q1 (remT b a q2 (remT a b q1 (Cd, sz, Th))))) := addT_b hm7 (by omega) (by omega) (by omega)
      have hm8z := hm8.2.1
      refine jv_wrV (ni := 3) (ci := 0) (q0 := 0) (wt := [(mm, .inr (0, [.ref pp, .ref mc, .int (J (((addT b q1 q2 (addT a q2 q1 (remT b a q2 (remT a b q1 (Cd, sz, Th))))).2.1 : Nat) : Int)), .ref mt, .ref ma, .ref mb])), (mc, .inl (cI, 80, .inl (fun z9 => J ((((addT b q1 q2 (addT a q2 q1 (remT b a q2 (remT a b q1 (Cd, sz, Th))))).1) z9 : Nat) : Int)))), (mt, .inl (cI, 1600, .inl (fun z9 => J (((addT b q1 q2 (addT a q2 q1 (remT b a q2 (remT a b q1 (Cd, sz, Th))))).2.2) z9)))), (ma, .inl (cI, 40, .inl (fun z9 => J ((Af z9 : Nat) : Int)))), (mb, .inl (cI, 40, .inl (fun z9 => J ((Bf z9 : Nat) : Int))))]) C [.int (J ((b : Nat) : Int)), .int (J ((q1 : Nat) : Int)), .int (J ((q2 : Nat) : Int))] [] (c_X0_addTriangle (Cd := (addT a q2 q1 (remT b a q2 (remT a b q1 (Cd, sz, Th)))).1) (sz := (addT a q2 q1 (remT b a q2 (remT a b q1 (Cd, sz, Th)))).2.1) (Th := (addT a q2 q1 (remT b a q2 (remT a b q1 (Cd, sz, Th)))).2.2) (Af := Af) (Bf := Bf) (a := b) (b := q1) (k := q2) ⟨hm7.1, hm7.2.1, hm7.2.2, hAf, hBf⟩ (by omega) (by omega) (by omega)) gv_X0_81 (by decide +kernel) (by decide) hK hP hD hS [0, 1, 2, 3, 4] rfl (by decide) rfl rfl rfl rfl rfl rfl hl.1 (by simp [Value.category]) dX0_flipSide_53 (by decide) (fun H locs hP hD hS => ?_) rfl
      show W _ _ _ _ _ _ _ _ _ _ _ _ _ _ _ (F0 m 56 ls [])
      exact jw_vret C hlk hr dX0_flipSide_56 (by rw [show flT a b (Cd, sz, Th) = addT b q1 q2 (addT a q2 q1 (remT b a q2 (remT a b q1 (Cd, sz, Th)))) from by unfold flT; rw [if_neg (by simp only []; omega)]; simp only [hq1, hq2, Int.toNat_natCast]]; exact hP) hS
    · exact jw_vret C hlk hr dX0_flipSide_24 (by rw [show flT a b (Cd, sz, Th) = (Cd, sz, Th) from if_pos (by simp only []; omega)]; exact hP) hS
end MESH2
