/-! constructors: what they make -/
abbrev PN (D : va_G) (tys : List (ClassId × FieldType)) (wc : va_W) (sz : Nat) (X : State → Prop) : State → Prop := fun U => U.heap.size = sz ∧ va_P D vwCl wc U.heap ∧ va_K D vwCl tys U ∧ va_D (fun _ => True) wc ∧ X U
abbrev QN {S : Type} (D : va_G) (wd : S → va_W) (A : Nat → Prop) : Array Value → State → Outcome → State → Prop := va_Qv (fun _ : S => True) (fun u t => va_P D vwCl (wd u) t.heap ∧ va_D A (wd u)) A
def cN {S : Type} (l : Launch) (y : MethodName) (cc : ByteArray) (n fr lo ce sl : Nat) (D : va_G) (tys : List (ClassId × FieldType)) (av : List Value) (wc : va_W) (X : State → Prop) (wd : S → va_W) : Prop :=
  ∀ sz : Nat, Met l y (WS y cc n none) { frames := fr, cells := ce, slots := sl, locals := lo } (va_Pc av (PN D tys wc sz X)) (QN D wd (va_A wc sz)) ce sl (va_A wc sz)
section JN
variable {p : Program} {l : Launch} {e : Env} {R : Room} {s : State} {m : MethodId} {args : Array Value} {below : List Frame} {meth : Method} {c : Code} {H : Heap} {locs : List Loc} {cells slots : Nat} {Q : State → Prop}
variable {cc : ByteArray} {pc nL : Nat} {ls : Array Slot} {rest : List Value} {own : String} {D : va_G} {A : Nat → Prop} {tys : List (ClassId × FieldType)} {ws : va_W} {H0 : Heap} {a : Nat}
theorem cN_of {S : Type} {y : MethodName} {n fr lo ce sl : Nat} {av : List Value} {wc : va_W} {X : State → Prop} {wd : S → va_W} {owner : String} (hcls : y.cls = owner) (hy : plainName y.cls = true) (hnm : y.name = "<init>") (hlen : (lg_sl av).length ≤ n)
    (body : ∀ (p : Program) (e : Env) (s : State) (m : MethodId) (args : Array Value) (below : List Frame) (meth : Method) (c : Code) (ls : Array Slot) (A : Nat → Prop), CallFix p m c cc n s args TB owner → meth.locks = false → meth.sig.returnType = none → meth.name = "<init>" → (∀ q, s.heap.size ≤ q → A q) → X s → va_K D vwCl tys s → va_P D vwCl wc s.heap → va_D A wc → va_S A s.heap s.heap [] → lv_has ls n (lv_args 0 av) →
      W p l e { frames := fr, cells := ce, slots := sl, locals := lo } s m args below meth c s.heap [] 0 0 (MQ below (QN D wd A) args s ce sl A) (F0 m 0 ls [])) : cN l y cc n fr lo ce sl D tys av wc X wd := by
  intro sz
  refine Met.ofW (cc := cc) (maxL := n) (ret := none) hy rfl ?_
  intro p e s m args below meth c s₁ B hml hv
  obtain ⟨rfl, hsz, hP, hK, hD, hX⟩ := hv
  subst hsz
  have hts := atoms_spec (ws := WS y cc n none) B.pre
  have hown : s.vm.findClass owner = some m.cls := by rw [← hcls]; exact findClass_of_methodNamed B.named
  have hl := lv_entry av (n := n) hlen
  rw [lg_entry_eq]
  have hin : meth.name = "<init>" := by rw [← hnm]; exact (name_of_methodNamed B.named B.method).1
  exact body p e s m _ below meth c _ _ ⟨B.exec, B.bytes, hml, hown, fun w hw => hts w (List.mem_cons_of_mem _ hw)⟩ B.notSynchronized B.returns hin (fun q h => Or.inr h) hX hK hP hD.self va_S.rf hl
theorem jn_ret (C : CallFix p m c cc nL s args TB own) (hlocks : meth.locks = false) (hr : meth.sig.returnType = none) (hd : decode cc pc = .ok (.return_, 1)) {S : Type} {wd : S → va_W} (u : S) {ce sl : Nat} (hc : cells ≤ ce ∧ slots ≤ sl) (hP : va_P D vwCl (wd u) H) (hD : va_D A (wd u)) (hS : va_S A s.heap H locs) : W p l e R s m args below meth c H locs cells slots (MQ below (QN D wd A) args s ce sl A) (F0 m pc ls []) := by
  refine W.widen (k := ce) (n := sl) hc.1 hc.2 ?_
  exact W.vret C.1 C.2.1 hr (fun t ht _ => ⟨⟨u, rfl, trivial, by rw [ht]; exact hP, hD⟩, hS.F ht⟩) hS.2.2 hd hlocks
theorem jn_obj (C : CallFix p m c cc nL s args TB own) {idx : Nat} (h1 : Cond.methodLink own idx objectInit ∈ TB) (hls : ls.size = nL) (hd : decode cc pc = .ok (.invokespecial idx, 3)) (hR : 1 ≤ R.frames ∧ 12 ≤ R.locals) (k : W p l e R s m args below meth c H locs cells slots Q (F0 m (pc + 3) ls [])) : W p l e R s m args below meth c H locs cells slots Q (F0 m pc ls [.ref a]) := by
  have h3 : (Cond.code objectInit ⟨#[0xb1]⟩ 1 none).before args s = true := C.2.2.2.2 _ mw_15
  refine W.objInit C.1 C.2.1 C.2.2.2.1 (C.2.2.2.2 _ h1) (C.2.2.2.2 _ mw_14) h3 rfl (by rw [C.2.2.1]; exact hls) rfl hd hR.1 hR.2 ?_
  exact W.eq (g2 := F0 m (pc + 3) ls []) rfl k
theorem jn_newaI (C : CallFix p m c cc nL s args TB own) {cI cZ : ClassId} (hK : va_K D vwCl (tyz cI cZ) s) (hP : va_P D vwCl ws H) (hD : va_D A ws) (hS : va_S A H0 H locs) (hA : ∀ q, H0.size ≤ q → A q) {z : Int} (N : Nat) (hz : z = (N : Int)) (hN : N ≤ 10000) (hcs : cells + 1 ≤ R.cells ∧ slots + N ≤ R.slots) (hdg : decode cc pc = .ok (.newarray .int, 2))
    (kk : ∀ (q : Nat) (H1 : Heap), va_P D vwCl (ws ++ [(q, .inl (cI, N, .inl (fun _ => J 0)))]) H1 → va_D A (ws ++ [(q, .inl (cI, N, .inl (fun _ => J 0)))]) → va_S A H0 H1 locs → W p l e R s m args below meth c H1 locs (cells + 1) (slots + N) Q (F0 m (pc + 2) ls (.ref q :: rest))) : W p l e R s m args below meth c H locs cells slots Q (F0 m pc ls (.int (J z) :: rest)) := by
  subst hz
  have hb : componentBytes FieldType.int = 4 := rfl
  refine va_newa (atype := .int) (ty := .int) (a0 := (N, .inl (fun _ => J 0))) C.1 C.2.1 (C.2.2.2.2 _ mw_50) rfl hK hP hD hS hA (fun _ => rfl) (fun h => absurd ((J_lt ⟨by omega, by omega⟩ R3_0).mp h) (by omega)) (J_clamp (by omega)) (by rw [hb]; omega) hcs.1 hcs.2 hdg (fun q cA H1 hK1 hP1 hD1 hS1 => ?_)
  have e1 : s.vm.findClass ("[" ++ FieldType.int.toString) = some cA := (hK1.2 2 (cA, .int) rfl).2
  have e2 : s.vm.findClass ("[" ++ FieldType.int.toString) = some cI := (hK.2 0 (cI, .int) rfl).2
  have e3 : cA = cI := Option.some.inj (e1.symm.trans e2)
  subst e3
  exact kk q H1 hP1 hD1 hS1
theorem jn_newaZ (C : CallFix p m c cc nL s args TB own) {cI cZ : ClassId} (hK : va_K D vwCl (tyz cI cZ) s) (hP : va_P D vwCl ws H) (hD : va_D A ws) (hS : va_S A H0 H locs) (hA : ∀ q, H0.size ≤ q → A q) {z : Int} (N : Nat) (hz : z = (N : Int)) (hN : N ≤ 10000) (hcs : cells + 1 ≤ R.cells ∧ slots + N ≤ R.slots) (hdg : decode cc pc = .ok (.newarray .boolean, 2))
    (kk : ∀ (q : Nat) (H1 : Heap), va_P D vwCl (ws ++ [(q, .inl (cZ, N, .inl (fun _ => J 0)))]) H1 → va_D A (ws ++ [(q, .inl (cZ, N, .inl (fun _ => J 0)))]) → va_S A H0 H1 locs → W p l e R s m args below meth c H1 locs (cells + 1) (slots + N) Q (F0 m (pc + 2) ls (.ref q :: rest))) : W p l e R s m args below meth c H locs cells slots Q (F0 m pc ls (.int (J z) :: rest)) := by
  subst hz
  have hb : componentBytes FieldType.boolean = 1 := rfl
  refine va_newa (atype := .boolean) (ty := .boolean) (a0 := (N, .inl (fun _ => J 0))) C.1 C.2.1 (C.2.2.2.2 _ mw_51) rfl hK hP hD hS hA (fun _ => rfl) (fun h => absurd ((J_lt ⟨by omega, by omega⟩ R3_0).mp h) (by omega)) (J_clamp (by omega)) (by rw [hb]; omega) hcs.1 hcs.2 hdg (fun q cA H1 hK1 hP1 hD1 hS1 => ?_)
  have e1 : s.vm.findClass ("[" ++ FieldType.boolean.toString) = some cA := (hK1.2 2 (cA, .boolean) rfl).2
  have e2 : s.vm.findClass ("[" ++ FieldType.boolean.toString) = some cZ := (hK.2 1 (cZ, .boolean) rfl).2
  have e3 : cA = cZ := Option.some.inj (e1.symm.trans e2)
  subst e3
  exact kk q H1 hP1 hD1 hS1
theorem jn_putF (C : CallFix p m c cc nL s args TB own) (hin : meth.name = "<init>") {Cn : String} {T : u_T} {N ci index k : Nat} (f : FW own index ci k Cn T N) {ty0 : Nat → FieldType} (g : FP ci Cn T N ty0) (hK : va_K D vwCl tys s) (hP : va_P D vwCl ws H) (hD : va_D A ws) (hS : va_S A H0 H locs) (q0 : Nat) {fs : List Value} (he : ws[q0]? = some (a, .inr (ci, fs))) (hfin : (T k).2.2.2 = true) (hdecl : (T k).1 = own) {v : Value} (hn : narrow (ty0 k) v = v) (hfit : fits (ty0 k) v = true) (hl : k < fs.length) {wt : va_W} (hwt : ws.set q0 (a, .inr (ci, fs.set k v)) = wt) (hdg : decode cc pc = .ok (.putfield index, 3))
    (kk : ∀ (H1 : Heap) (locs1 : List Loc), va_P D vwCl wt H1 → va_D A wt → va_S A H0 H1 locs1 → W p l e R s m args below meth c H1 locs1 cells slots Q (F0 m (pc + 3) ls rest)) : W p l e R s m args below meth c H locs cells slots Q (F0 m pc ls (v :: .ref a :: rest)) := by
  subst hwt
  exact va_putF (ref := (T k).1) C.1 C.2.1 C.2.2.2.2 f.1 ty0 g.1 g.2 C.2.2.2.1 hK hP hD hS q0 he f.2.1 k f.2.2.1 (C.2.2.2.2 _ f.2.2.2) (fun _ h => h) hfin hin hdecl (g.1 k f.2.2.1) hn hfit hl hdg kk
theorem jn_new (C : CallFix p m c cc nL s args TB own) {Cn : String} {T : u_T} {N ci index : Nat} (hin : ∀ w ∈ u_ws Cn T N, w ∈ TB) {ty0 : Nat → FieldType} (g : FP ci Cn T N ty0) (h1 : Cond.classLink own index Cn ∈ TB) (h2 : Cond.instantiable Cn N ∈ TB) (h3 : Cond.initialized Cn ∈ TB) (hK : va_K D vwCl tys s) (hP : va_P D vwCl ws H) (hD : va_D A ws) (hS : va_S A H0 H locs) (hA : ∀ q, H0.size ≤ q → A q) (hc : vwCl[ci]? = some (Cn, T, N)) (fs : List Value) (hfs : ∀ j, j < N → defaultValue (ty0 j) = vp_V fs j) (hcs : cells + 1 ≤ R.cells ∧ slots + N ≤ R.slots) (hdg : decode cc pc = .ok (.new index, 3))
    (kk : ∀ (q : Nat) (H1 : Heap), va_P D vwCl (ws ++ [(q, .inr (ci, fs))]) H1 → va_D A (ws ++ [(q, .inr (ci, fs))]) → va_S A H0 H1 locs → W p l e R s m args below meth c H1 locs (cells + 1) (slots + N) Q (F0 m (pc + 3) ls (.ref q :: rest))) : W p l e R s m args below meth c H locs cells slots Q (F0 m pc ls rest) :=
  va_new C.1 C.2.1 C.2.2.2.2 hin ty0 g.1 C.2.2.2.1 (C.2.2.2.2 _ h1) (C.2.2.2.2 _ h2) (C.2.2.2.2 _ h3) hK hP hD hS hA hc hfs hcs.1 hcs.2 hdg kk
theorem PN_blind {av : List Value} {wc : va_W} {sz : Nat} {X : State → Prop} (hX : ∀ u U : State, u.vm = U.vm → X u → X U) : FrameBlind (va_Pc av (PN D tys wc sz X)) := fun a U g mk q => by
  obtain ⟨q0, q1, qP, qK, qD, qX⟩ := q
  exact ⟨q0, q1, qP, va_K.moved (u := U) (U := U.calling g mk a) (Vm.Alike.refl U.vm) qK, qD, hX U _ rfl qX⟩
theorem nw_of {S : Type} {pc : Nat} {st0 : List Value} {av : Array Value} {ce sl : Nat} {wc : va_W} {wd : S → va_W} (hr : va_Run p l e R s m args below meth c H locs cells slots ce sl (F0 m pc ls st0) rest (QN D wd (va_A wc H.size) av) (va_A wc H.size)) (hP : va_P D vwCl ws H) (hD : va_D A ws) (hS : va_S A H0 H locs) (hA : ∀ q, H0.size ≤ q → A q) (isC isR : List Nat) {wr : va_W} (hC : isC.map (fun i => ws[i]?) = wc.map some) (hR : isR.map (fun i => ws[i]?) = wr.map some) (hn : va_nd isR = true) (hdis : ∀ i ∈ isR, i ∉ isC)
    (kk : ∀ (u : S) (H1 : Heap) (locs1 : List Loc), va_P D vwCl (wr ++ wd u) H1 → va_D A (wr ++ wd u) → va_S A H0 H1 locs1 → W p l e R s m args below meth c H1 locs1 (cells + ce) (slots + sl) Q (F0 m (pc + 3) ls rest)) : W p l e R s m args below meth c H locs cells slots Q (F0 m pc ls st0) := by
  have hFc := va_free (wc := wc) hD hS hA isC hC
  refine va_callv hr hS (fun q _ h => hFc q h) hFc (fun u t H1 locs1 ht hvm hw hB hz1 hk1 hS1 => ?_)
  obtain ⟨hP1, hD1⟩ := hB
  rw [ht] at hP1
  obtain ⟨hP2, hD2⟩ := va_join hP hD isC isR hC hR hn hdis hk1 hFc hP1 hD1
  exact kk u H1 locs1 hP2 hD2 hS1
theorem good_I {y : MethodName} {cy : ByteArray} {n : Nat} (h : Cond.code y cy n none ∈ TB) : GoodIn TB (WS y cy n none) := by
  intro w hw
  have hm : w ∈ TB := by
    rcases List.mem_cons.mp hw with rfl | h'
    · exact h
    · exact h'
  exact ⟨hm, good_of_word (TB_good hm)⟩
theorem jn_callI (C : CallFix p m c cc nL s args TB own) {S : Type} {y : MethodName} {cy : ByteArray} {n fr lo ce sl idx ni b : Nat} {wc : va_W} {wd : S → va_W} {X : State → Prop} (As : List Value) (rest : List Value) (hM : cN l y cy n fr lo ce sl D tys (.ref b :: As) wc X wd) (hcd : Cond.code y cy n none ∈ TB) (hini : Cond.initialized y.cls ∈ TB) (hli : Cond.methodLink own idx y ∈ TB) (hinst : Cond.instanceMethod y ∈ TB) (hnm : y.name = "<init>")
    (hd : y.cls ≠ "java/lang/invoke/MethodHandle" ∧ y.cls ≠ "java/lang/invoke/VarHandle" ∧ (parseMethodDescriptor y.desc).map (fun d => d.parameters.length) = some ni) (hR : fr + 1 ≤ R.frames ∧ 8 + (n + 11) + lo ≤ R.locals)
    (hX0 : ∀ u U : State, u.vm = U.vm → X u → X U) (hX : ∀ U : State, s.WarmedH U.vm → X U) (hK : va_K D vwCl tys s) (hP : va_P D vwCl ws H) (hD : va_D A ws) (hS : va_S A H0 H locs) (hA : ∀ q, H0.size ≤ q → A q) (isC isR : List Nat) {wr : va_W} (hC : isC.map (fun i => ws[i]?) = wc.map some) (hnd : va_nd isC = true) (hRR : isR.map (fun i => ws[i]?) = wr.map some) (hn : va_nd isR = true) (hdis : ∀ i ∈ isR, i ∉ isC) (hni : As.length = ni) (hls : ls.size = nL) (hro : (rest.map fun v => v.category).sum ≤ 8) (hdg : decode cc pc = .ok (.invokespecial idx, 3)) (hcs : cells + ce ≤ R.cells ∧ slots + sl ≤ R.slots)
    (kk : ∀ (u : S) (H1 : Heap) (locs1 : List Loc), va_P D vwCl (wr ++ wd u) H1 → va_D A (wr ++ wd u) → va_S A H0 H1 locs1 → W p l e R s m args below meth c H1 locs1 (cells + ce) (slots + sl) Q (F0 m (pc + 3) ls rest)) {st0 : List Value} (hst : st0 = As.reverse ++ .ref b :: rest) : W p l e R s m args below meth c H locs cells slots Q (F0 m pc ls st0) := by
  have hPc : va_P D vwCl wc H := fun k q hq => by
    obtain ⟨i, -, hi⟩ := va_at_places hP hC k q hq
    exact hP i q hi
  have hDc := (hD.sub isC hnd hC).weaken (B := fun _ => True) (fun _ _ _ _ => trivial)
  exact nw_of (va_runI (As := As) (rest := rest) C (hM H.size) (cwI ni C.2.2.2.2 (good_I hcd) rfl rfl rfl (C.2.2.2.2 _ hini) (C.2.2.2.2 _ hli) (C.2.2.2.2 _ hinst) hnm hd hR) ⟨PN_blind hX0, fun U hU hW => ⟨rfl, by rw [hU], by rw [hU]; exact hPc, va_K.moved hW.alike hK, hDc, hX U hW⟩⟩ rfl hni hls hst (lv_room hro) hdg hcs) hP hD hS hA isC isR hC hRR hn hdis kk
theorem jn_callN (C : CallFix p m c cc nL s args TB own) {S : Type} {y : MethodName} {host : String} {cy : ByteArray} {n fr lo ce sl idx ni b : Nat} {wc : va_W} {wd : S → va_W} (As : List Value) (rest : List Value) (hM : cN l y cy n fr lo ce sl D tys (.ref b :: As) wc (fun _ => True) wd) (hcd : Cond.code y cy n none ∈ TB) (hini : Cond.initialized y.cls ∈ TB) (hli : va_Nw (.methodLinkNest own idx y host) s) (hinst : Cond.instanceMethod y ∈ TB) (hnm : y.name = "<init>")
    (hd : y.cls ≠ "java/lang/invoke/MethodHandle" ∧ y.cls ≠ "java/lang/invoke/VarHandle" ∧ (parseMethodDescriptor y.desc).map (fun d => d.parameters.length) = some ni) (hR : fr + 1 ≤ R.frames ∧ 8 + (n + 11) + lo ≤ R.locals)
    (hK : va_K D vwCl tys s) (hP : va_P D vwCl ws H) (hD : va_D A ws) (hS : va_S A H0 H locs) (hA : ∀ q, H0.size ≤ q → A q) (isC isR : List Nat) {wr : va_W} (hC : isC.map (fun i => ws[i]?) = wc.map some) (hnd : va_nd isC = true) (hRR : isR.map (fun i => ws[i]?) = wr.map some) (hn : va_nd isR = true) (hdis : ∀ i ∈ isR, i ∉ isC) (hni : As.length = ni) (hls : ls.size = nL) (hro : (rest.map fun v => v.category).sum ≤ 8) (hdg : decode cc pc = .ok (.invokespecial idx, 3)) (hcs : cells + ce ≤ R.cells ∧ slots + sl ≤ R.slots)
    (kk : ∀ (u : S) (H1 : Heap) (locs1 : List Loc), va_P D vwCl (wr ++ wd u) H1 → va_D A (wr ++ wd u) → va_S A H0 H1 locs1 → W p l e R s m args below meth c H1 locs1 (cells + ce) (slots + sl) Q (F0 m (pc + 3) ls rest)) {st0 : List Value} (hst : st0 = As.reverse ++ .ref b :: rest) : W p l e R s m args below meth c H locs cells slots Q (F0 m pc ls st0) := by
  have hPc : va_P D vwCl wc H := fun k q hq => by
    obtain ⟨i, -, hi⟩ := va_at_places hP hC k q hq
    exact hP i q hi
  have hDc := (hD.sub isC hnd hC).weaken (B := fun _ => True) (fun _ _ _ _ => trivial)
  exact nw_of (va_runIN (As := As) (rest := rest) C (hM H.size) ⟨va_cnB ni C.2.2.2.2 (good_I hcd) rfl rfl rfl hli (C.2.2.2.2 _ hini) hd hR, hnm, C.2.2.2.2 _ hinst⟩ ⟨PN_blind (fun _ _ _ _ => trivial), fun U hU hW => ⟨rfl, by rw [hU], by rw [hU]; exact hPc, va_K.moved hW.alike hK, hDc, trivial⟩⟩ rfl hni hls hst (lv_room hro) hdg hcs) hP hD hS hA isC isR hC hRR hn hdis kk
end JN
