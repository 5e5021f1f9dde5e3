/-- a field, as a class's instruction names it: its object's class, its place, its words -/
def FW (own : String) (index ci k : Nat) (Cn : String) (T : u_T) (N : Nat) : Prop := (∀ w ∈ u_ws Cn T N, w ∈ TB) ∧ vwCl[ci]? = some (Cn, T, N) ∧ k < N ∧ Cond.fieldLink own index (T k).1 (T k).2.1 (T k).2.2.1 ∈ TB
/-- the same, and what a store needs -/
def FP (ci : Nat) (Cn : String) (T : u_T) (N : Nat) (ty0 : Nat → FieldType) : Prop := (∀ k, k < N → parseFieldDescriptor (T k).2.2.1 = some (ty0 k)) ∧ (∀ a, a < N → ∀ b, b < N → a ≠ b → (T a).2.1 ≠ (T b).2.1)
section JW
variable {p : Program} {l : Launch} {e : Env} {R : Room} {s : State} {m : MethodId} {args : Array Value} {below : List Frame} {meth : Method} {c : Code} {H : Heap} {locs : List Loc} {cells slots : Nat} {Q : State → Prop}
variable {cc : ByteArray} {pc nL : Nat} {ls : Array Slot} {rest : List Value} {own : String} {D : va_G} {A : Nat → Prop} {tys : List (ClassId × FieldType)} {ws : va_W} {H0 : Heap} {a : Nat}
theorem jv_get (C : CallFix p m c cc nL s args TB own) {Cn : String} {T : u_T} {N ci index k : Nat} (f : FW own index ci k Cn T N) (hK : va_K D vwCl tys s) (hP : va_P D vwCl ws H) (q0 : Nat) {fs : List Value} (he : ws[q0]? = some (a, .inr (ci, fs))) {v : Value} (hv : fs[k]? = some v) (hdg : decode cc pc = .ok (.getfield index, 3))
    (kk : W p l e R s m args below meth c H locs cells slots Q (F0 m (pc + 3) ls (v :: rest))) : W p l e R s m args below meth c H locs cells slots Q (F0 m pc ls (.ref a :: rest)) :=
  va_get (ref := (T k).1) C.1 C.2.1 C.2.2.2.2 f.1 C.2.2.2.1 hK hP q0 he f.2.1 k f.2.2.1 (C.2.2.2.2 _ f.2.2.2) (fun _ h => h) hv hdg kk
theorem jv_put (C : CallFix p m c cc nL s args TB own) {Cn : String} {T : u_T} {N ci index k : Nat} (f : FW own index ci k Cn T N) {ty0 : Nat → FieldType} (g : FP ci Cn T N ty0) (hK : va_K D vwCl tys s) (hP : va_P D vwCl ws H) (hD : va_D A ws) (hS : va_S A H0 H locs) (q0 : Nat) {fs : List Value} (he : ws[q0]? = some (a, .inr (ci, fs))) (hfin : (T k).2.2.2 = false) {v : Value} (hn : narrow (ty0 k) v = v) (hfit : fits (ty0 k) v = true) (hl : k < fs.length) (hdg : decode cc pc = .ok (.putfield index, 3))
    (kk : ∀ (H1 : Heap) (locs1 : List Loc), va_P D vwCl (ws.set q0 (a, .inr (ci, fs.set k v))) H1 → va_D A (ws.set q0 (a, .inr (ci, fs.set k v))) → va_S A H0 H1 locs1 → W p l e R s m args below meth c H1 locs1 cells slots Q (F0 m (pc + 3) ls rest)) : W p l e R s m args below meth c H locs cells slots Q (F0 m pc ls (v :: .ref a :: rest)) :=
  va_put (ref := (T k).1) C.1 C.2.1 C.2.2.2.2 f.1 ty0 g.1 g.2 C.2.2.2.1 hK hP hD hS q0 he f.2.1 k f.2.2.1 (C.2.2.2.2 _ f.2.2.2) (fun _ h => h) hfin (g.1 k f.2.2.1) hn hfit hl hdg kk
theorem jv_iald (C : CallFix p m c cc nL s args TB own) (hK : va_K D vwCl tys s) (hP : va_P D vwCl ws H) (q0 t0 : Nat) {cA : ClassId} {n : Nat} {F : Nat → Int} (ha : ws[q0]? = some (a, .inl (cA, n, .inl (fun i => J (F i))))) (ht : tys[t0]? = some (cA, .int)) {z : Int} (k : Nat) (hz : z = (k : Int)) (hlt : k < n) (hn : n < 2147483648) (hdg : decode cc pc = .ok (.iaload, 1))
    (kk : W p l e R s m args below meth c H locs cells slots Q (F0 m (pc + 1) ls (.int (J (F k)) :: rest))) : W p l e R s m args below meth c H locs cells slots Q (F0 m pc ls (.int (J z) :: .ref a :: rest)) := by
  subst hz
  refine va_iald C.1 C.2.1 hK hP q0 t0 ha ht (J_in hlt hn) hdg ?_
  rw [J_clamp (Nat.lt_trans hlt hn)]
  exact kk
theorem jv_zald (C : CallFix p m c cc nL s args TB own) (hK : va_K D vwCl tys s) (hP : va_P D vwCl ws H) (q0 t0 : Nat) {cA : ClassId} {n : Nat} {F : Nat → Int} (ha : ws[q0]? = some (a, .inl (cA, n, .inl (fun i => J (F i))))) (ht : tys[t0]? = some (cA, .boolean)) {z : Int} (k : Nat) (hz : z = (k : Int)) (hlt : k < n) (hn : n < 2147483648) (hdg : decode cc pc = .ok (.baload, 1))
    (kk : W p l e R s m args below meth c H locs cells slots Q (F0 m (pc + 1) ls (.int (J (F k)) :: rest))) : W p l e R s m args below meth c H locs cells slots Q (F0 m pc ls (.int (J z) :: .ref a :: rest)) := by
  subst hz
  refine va_zald C.1 C.2.1 hK hP q0 t0 ha ht (J_in hlt hn) hdg ?_
  rw [J_clamp (Nat.lt_trans hlt hn)]
  exact kk
theorem jv_iast (C : CallFix p m c cc nL s args TB own) (hK : va_K D vwCl tys s) (hP : va_P D vwCl ws H) (hD : va_D A ws) (hS : va_S A H0 H locs) (q0 t0 : Nat) {cA : ClassId} {n : Nat} {F : Nat → Int} (ha : ws[q0]? = some (a, .inl (cA, n, .inl (fun i => J (F i))))) (ht : tys[t0]? = some (cA, .int)) {z x : Int} (k : Nat) (hz : z = (k : Int)) (hlt : k < n) (hn : n < 2147483648) {G : Nat → Int} (hG : ∀ i, (if i = k then x else F i) = G i) (hdg : decode cc pc = .ok (.iastore, 1))
    (kk : ∀ (H1 : Heap) (locs1 : List Loc), va_P D vwCl (ws.set q0 (a, .inl (cA, n, .inl (fun i => J (G i))))) H1 → va_D A (ws.set q0 (a, .inl (cA, n, .inl (fun i => J (G i))))) → va_S A H0 H1 locs1 → W p l e R s m args below meth c H1 locs1 cells slots Q (F0 m (pc + 1) ls rest)) : W p l e R s m args below meth c H locs cells slots Q (F0 m pc ls (.int (J x) :: .int (J z) :: .ref a :: rest)) := by
  subst hz
  refine va_iast C.1 C.2.1 hK hP hD hS q0 t0 ha ht (J_in hlt hn) hdg ?_
  rw [J_clamp (Nat.lt_trans hlt hn), upd_J]
  have hg : (fun i => J (if i = k then x else F i)) = fun i => J (G i) := funext fun i => congrArg J (hG i)
  rw [hg]
  exact kk
theorem nar_b2i (b : Bool) : vp_nar .boolean (J (b2i b)) = J (b2i b) := by cases b <;> rfl
theorem jv_zast (C : CallFix p m c cc nL s args TB own) (hK : va_K D vwCl tys s) (hP : va_P D vwCl ws H) (hD : va_D A ws) (hS : va_S A H0 H locs) (q0 t0 : Nat) {cA : ClassId} {n : Nat} {F : Nat → Bool} (ha : ws[q0]? = some (a, .inl (cA, n, .inl (fun i => J (b2i (F i)))))) (ht : tys[t0]? = some (cA, .boolean)) {z x : Int} (k : Nat) (b : Bool) (hz : z = (k : Int)) (hx : x = b2i b) (hlt : k < n) (hn : n < 2147483648) {G : Nat → Bool} (hG : ∀ i, (if i = k then b else F i) = G i) (hdg : decode cc pc = .ok (.bastore, 1))
    (kk : ∀ (H1 : Heap) (locs1 : List Loc), va_P D vwCl (ws.set q0 (a, .inl (cA, n, .inl (fun i => J (b2i (G i)))))) H1 → va_D A (ws.set q0 (a, .inl (cA, n, .inl (fun i => J (b2i (G i)))))) → va_S A H0 H1 locs1 → W p l e R s m args below meth c H1 locs1 cells slots Q (F0 m (pc + 1) ls rest)) : W p l e R s m args below meth c H locs cells slots Q (F0 m pc ls (.int (J x) :: .int (J z) :: .ref a :: rest)) := by
  subst hz
  subst hx
  refine va_zast C.1 C.2.1 hK hP hD hS q0 t0 ha ht (J_in hlt hn) hdg ?_
  rw [J_clamp (Nat.lt_trans hlt hn), nar_b2i, upd_J (fun i => b2i (F i)) k (b2i b)]
  have hg : (fun i => J (if i = k then b2i b else b2i (F i))) = fun i => J (b2i (G i)) := funext fun i => by
    rw [← hG i]
    by_cases h : i = k <;> simp [h]
  rw [hg]
  exact kk
/-- a method's words: its code, and the tables' -/
abbrev WS (y : MethodName) (cc : ByteArray) (n : Nat) (ret : Option FieldType) : List Cond := .code y cc n ret :: TB
theorem good_V {own C : String} {idx n : Nat} {y : MethodName} {cc : ByteArray} {ret : Option FieldType} (h1 : Cond.methodLink own idx y ∈ TB) (h2 : Cond.instanceMethod y ∈ TB) (h3 : Cond.selects C y y ∈ TB) (h4 : Cond.initialized C ∈ TB) (h5 : Cond.code y cc n ret ∈ TB) : GoodIn TB (wsV own idx C y (WS y cc n ret)) := by
  intro w hw
  have hm : w ∈ TB := by
    simp only [wsV, List.mem_append, List.mem_cons, List.not_mem_nil, or_false] at hw
    rcases hw with (rfl | rfl | rfl | rfl) | rfl | h <;> assumption
  exact ⟨hm, good_of_word (TB_good hm)⟩
theorem good_S {own : String} {idx n : Nat} {y : MethodName} {cc : ByteArray} {ret : Option FieldType} (h1 : Cond.methodLink own idx y ∈ TB) (h2 : Cond.static y ∈ TB) (h4 : Cond.initialized own ∈ TB) (h5 : Cond.code y cc n ret ∈ TB) : GoodIn TB (wsS own idx y (WS y cc n ret)) := by
  intro w hw
  have hm : w ∈ TB := by
    simp only [wsS, List.mem_append, List.mem_cons, List.not_mem_nil, or_false] at hw
    rcases hw with (rfl | rfl | rfl) | rfl | h <;> assumption
  exact ⟨hm, good_of_word (TB_good hm)⟩
/-- a method that only reads: its answer, and the heap as it was -/
abbrev QR (rv : Option Value) : Array Value → State → Outcome → State → Prop := fun _ st oc t => oc = .returned rv ∧ t.heap = st.heap
abbrev PR (D : va_G) (tys : List (ClassId × FieldType)) (wc : va_W) : State → Prop := fun U => va_P D vwCl wc U.heap ∧ va_K D vwCl tys U
def cR (l : Launch) (y : MethodName) (cc : ByteArray) (n : Nat) (ret : Option FieldType) (fr lo : Nat) (D : va_G) (tys : List (ClassId × FieldType)) (av : List Value) (wc : va_W) (rv : Option Value) : Prop :=
  Met l y (WS y cc n ret) { frames := fr, cells := 0, slots := 0, locals := lo } (va_Pc av (PR D tys wc)) (QR rv) 0 0 (fun _ => False)
theorem PR_blind {av : List Value} {wc : va_W} : FrameBlind (va_Pc av (PR D tys wc)) := fun a U g mk q => by
  obtain ⟨q0, qP, qK⟩ := q
  exact ⟨q0, qP, va_K.moved (u := U) (U := U.calling g mk a) (Vm.Alike.refl U.vm) qK⟩
theorem rd_of {mc ms : Nat} {pc : Nat} {st0 : List Value} {rv : Option Value} {a : Array Value} (hr : va_Run p l e R s m args below meth c H locs cells slots 0 0 (F0 m pc ls st0) rest (QR rv a) (fun _ => False))
    (kk : W p l e R s m args below meth c H locs cells slots Q (F0 m (pc + 3) ls (rv.toList ++ rest))) : W p l e R s m args below meth c H locs cells slots Q (F0 m pc ls st0) := by
  intro T hT X
  obtain ⟨v, st₀, t, T', L, h0, X', hL, e1, e2, ⟨hv, hh⟩, st⟩ := hr T hT X
  cases hv
  have hL0 : L = [] := List.eq_nil_iff_forall_not_mem.mpr hL
  subst hL0
  rw [List.append_nil] at X'
  obtain ⟨t2, a1, b1⟩ := kk T' (by rw [e1, hh, h0]) X'
  exact ⟨t2, st t2 a1, b1⟩
theorem jv_rdV (C : CallFix p m c cc nL s args TB own) {y : MethodName} {cy : ByteArray} {n fr lo idx ni ci q0 : Nat} {ret : Option FieldType} {wc : va_W} {rv : Option Value} {Cn : vw_C} {fs : List Value} {b : Nat} (As : List Value) (rest : List Value) (hM : cR l y cy n ret fr lo D tys (.ref b :: As) wc rv) (g : GoodIn TB (wsV own idx Cn.1 y (WS y cy n ret)))
    (hd : y.cls = Cn.1 ∧ y.cls ≠ "java/lang/invoke/MethodHandle" ∧ y.cls ≠ "java/lang/invoke/VarHandle" ∧ (parseMethodDescriptor y.desc).map (fun d => d.parameters.length) = some ni) (hR : fr + 1 ≤ R.frames ∧ 8 + (n + 11) + lo ≤ R.locals)
    (hK : va_K D vwCl tys s) (hP : va_P D vwCl wc H) (hc : vwCl[ci]? = some Cn) (he : wc[q0]? = some (b, .inr (ci, fs))) (hn : As.length = ni) (hls : ls.size = nL) (hro : (rest.map fun v => v.category).sum ≤ 8) (hdg : decode cc pc = .ok (.invokevirtual idx, 3)) (hcs : cells ≤ R.cells ∧ slots ≤ R.slots)
    (kk : W p l e R s m args below meth c H locs cells slots Q (F0 m (pc + 3) ls (rv.toList ++ rest))) {st0 : List Value} (hst : st0 = As.reverse ++ .ref b :: rest) : W p l e R s m args below meth c H locs cells slots Q (F0 m pc ls st0) :=
  rd_of (mc := 0) (ms := 0) (va_runV (As := As) (rest := rest) C hM (cwV ni C.2.2.2.2 g rfl rfl rfl hd hR) ⟨PR_blind, va_recv hK hP hc he, fun U hU hW => ⟨rfl, by rw [hU]; exact hP, va_K.moved hW.alike hK⟩⟩ rfl hn hls hst (lv_room hro) hdg hcs) kk
theorem jv_rdS (C : CallFix p m c cc nL s args TB own) {y : MethodName} {cy : ByteArray} {n fr lo idx ni : Nat} {ret : Option FieldType} {wc : va_W} {rv : Option Value} (As : List Value) (rest : List Value) (hM : cR l y cy n ret fr lo D tys As wc rv) (g : GoodIn TB (wsS own idx y (WS y cy n ret)))
    (hd : y.cls = own ∧ y.cls ≠ "java/lang/invoke/MethodHandle" ∧ y.cls ≠ "java/lang/invoke/VarHandle" ∧ (parseMethodDescriptor y.desc).map (fun d => d.parameters.length) = some ni) (hR : fr + 1 ≤ R.frames ∧ 8 + (n + 11) + lo ≤ R.locals)
    (hK : va_K D vwCl tys s) (hP : va_P D vwCl wc H) (hn : As.length = ni) (hls : ls.size = nL) (hro : (rest.map fun v => v.category).sum ≤ 8) (hdg : decode cc pc = .ok (.invokestatic idx, 3)) (hcs : cells ≤ R.cells ∧ slots ≤ R.slots)
    (kk : W p l e R s m args below meth c H locs cells slots Q (F0 m (pc + 3) ls (rv.toList ++ rest))) {st0 : List Value} (hst : st0 = As.reverse ++ rest) : W p l e R s m args below meth c H locs cells slots Q (F0 m pc ls st0) :=
  rd_of (mc := 0) (ms := 0) (va_runS (As := As) (rest := rest) C hM (cwS ni C.2.2.2.2 g rfl rfl rfl hd hR) ⟨PR_blind, fun U hU hW => ⟨rfl, by rw [hU]; exact hP, va_K.moved hW.alike hK⟩⟩ rfl hn hls hst (lv_room hro) hdg hcs) kk
/-- the ends of a method that only reads -/
theorem jv_iret (C : CallFix p m c cc nL s args TB own) (hlocks : meth.locks = false) (hr : meth.sig.returnType = some .int) (hd : decode cc pc = .ok (.ireturn, 1)) {v v' : Int} (hv : v = v') : W p l e R s m args below meth c s.heap [] 0 0 (MQ below (QR (some (.int (J v')))) args s 0 0 (fun _ => False)) (F0 m pc ls [.int (J v)]) := by
  subst hv
  exact W.iret C.1 C.2.1 hr (fun t ht _ => ⟨rfl, ht⟩) (fun _ h => by cases h) hd hlocks
theorem jv_zret (C : CallFix p m c cc nL s args TB own) (hlocks : meth.locks = false) (hr : meth.sig.returnType = some .boolean) (hd : decode cc pc = .ok (.ireturn, 1)) {v : Int} {b : Bool} (hv : v = b2i b) : W p l e R s m args below meth c s.heap [] 0 0 (MQ below (QR (some (.int (J (b2i b))))) args s 0 0 (fun _ => False)) (F0 m pc ls [.int (J v)]) := by
  subst hv
  exact W.zret C.1 C.2.1 hr (by cases b <;> rfl) (fun t ht _ => ⟨rfl, ht⟩) (fun _ h => by cases h) hd hlocks
theorem jv_lret (C : CallFix p m c cc nL s args TB own) (hlocks : meth.locks = false) (hr : meth.sig.returnType = some .long) (hd : decode cc pc = .ok (.lreturn, 1)) {v v' : Int} (hv : v = v') : W p l e R s m args below meth c s.heap [] 0 0 (MQ below (QR (some (.long (Lg v')))) args s 0 0 (fun _ => False)) (F0 m pc ls [.long (Lg v)]) := by
  subst hv
  exact W.lret C.1 C.2.1 hr (fun t ht _ => ⟨rfl, ht⟩) (fun _ h => by cases h) hd hlocks
/-- a method that only reads, from a walk of its body -/
theorem cR_of {y : MethodName} {n fr lo : Nat} {ret : Option FieldType} {av : List Value} {wc : va_W} {rv : Option Value} {owner : String} (hcls : y.cls = owner) (hy : plainName y.cls = true) (hlen : (lg_sl av).length ≤ n)
    (body : ∀ (p : Program) (e : Env) (s : State) (m : MethodId) (args : Array Value) (below : List Frame) (meth : Method) (c : Code) (ls : Array Slot), CallFix p m c cc n s args TB owner → meth.locks = false → meth.sig.returnType = ret → va_K D vwCl tys s → va_P D vwCl wc s.heap → lv_has ls n (lv_args 0 av) →
      W p l e { frames := fr, cells := 0, slots := 0, locals := lo } s m args below meth c s.heap [] 0 0 (MQ below (QR rv) args s 0 0 (fun _ => False)) (F0 m 0 ls [])) : cR l y cc n ret fr lo D tys av wc rv := by
  refine Met.ofW (cc := cc) (maxL := n) (ret := ret) hy rfl ?_
  intro p e s m args below meth c s₁ B hml hv
  obtain ⟨rfl, hP, hK⟩ := hv
  have hts := atoms_spec (ws := WS y cc n ret) B.pre
  have hown : s.vm.findClass owner = some m.cls := by rw [← hcls]; exact findClass_of_methodNamed B.named
  have hl := lv_entry av (n := n) hlen
  rw [lg_entry_eq]
  exact body p e s m _ below meth c _ ⟨B.exec, B.bytes, hml, hown, fun w hw => hts w (List.mem_cons_of_mem _ hw)⟩ B.notSynchronized B.returns hK hP hl
end JW
