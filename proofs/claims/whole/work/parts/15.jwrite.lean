/-! methods that write: their world before and behind, the frame -/
abbrev inW (ws : va_W) : Nat → Prop := fun q => ∃ (k : Nat) (e : va_E), ws[k]? = some (q, e)
abbrev PW (D : va_G) (tys : List (ClassId × FieldType)) (wc : va_W) : State → Prop := fun U => va_P D vwCl wc U.heap ∧ va_K D vwCl tys U ∧ va_D (fun _ => True) wc
abbrev QW (D : va_G) (wc wd : va_W) (rv : Option Value) : Array Value → State → Outcome → State → Prop := fun _ st oc t => oc = .returned rv ∧ va_P D vwCl wd t.heap ∧ va_F (inW wc) st t
def cW (l : Launch) (y : MethodName) (cc : ByteArray) (n : Nat) (ret : Option FieldType) (fr lo : Nat) (D : va_G) (tys : List (ClassId × FieldType)) (av : List Value) (wc wd : va_W) (rv : Option Value) : Prop :=
  Met l y (WS y cc n ret) { frames := fr, cells := 0, slots := 0, locals := lo } (va_Pc av (PW D tys wc)) (QW D wc wd rv) 0 0 (inW wc)
theorem PW_blind {D : va_G} {tys : List (ClassId × FieldType)} {av : List Value} {wc : va_W} : FrameBlind (va_Pc av (PW D tys wc)) := fun a U g mk q => by
  obtain ⟨q0, qP, qK, qD⟩ := q
  exact ⟨q0, qP, va_K.moved (u := U) (U := U.calling g mk a) (Vm.Alike.refl U.vm) qK, qD⟩
def wput (ws : va_W) : List Nat → va_W → va_W
  | i :: is, x :: xs => wput (ws.set i x) is xs
  | _, _ => ws
theorem wput_get {k : Nat} {q : Nat × va_E} : ∀ (is : List Nat) (xs ws : va_W), is.length = xs.length → (wput ws is xs)[k]? = some q → (∃ j : Nat, is[j]? = some k ∧ xs[j]? = some q) ∨ (k ∉ is ∧ ws[k]? = some q) := by
  intro is
  induction is with
  | nil =>
    intro xs ws h1 h2
    cases xs with
    | nil => exact Or.inr ⟨List.not_mem_nil, h2⟩
    | cons x xs => simp at h1
  | cons i is ih =>
    intro xs ws h1 h2
    cases xs with
    | nil => simp at h1
    | cons x xs =>
      simp only [List.length_cons, Nat.add_right_cancel_iff] at h1
      rcases ih xs (ws.set i x) h1 h2 with ⟨j, h3, h4⟩ | ⟨h3, h4⟩
      · exact Or.inl ⟨j + 1, by simpa using h3, by simpa using h4⟩
      · by_cases hk : k = i
        · subst hk
          rw [List.getElem?_set] at h4
          simp only [if_true] at h4
          split at h4
          · exact Or.inl ⟨0, by simp, by simpa using h4⟩
          · cases h4
        · rw [List.getElem?_set_ne (fun z => hk z.symm)] at h4
          exact Or.inr ⟨by simp [hk, h3], h4⟩
theorem va_D_same {A : Nat → Prop} {ws wt : va_W} (hs : wt.map (·.1) = ws.map (·.1)) (h : va_D A ws) : va_D A wt := by
  have key : ∀ (k : Nat) (q : Nat × va_E), wt[k]? = some q → ∃ z : Nat × va_E, ws[k]? = some z ∧ z.1 = q.1 := by
    intro k q hq
    have h1 : (wt.map (·.1))[k]? = some q.1 := by rw [List.getElem?_map, hq]; rfl
    rw [hs, List.getElem?_map] at h1
    cases hz : ws[k]? with
    | none => rw [hz] at h1; cases h1
    | some z => rw [hz] at h1; exact ⟨z, rfl, Option.some.inj h1⟩
  refine ⟨fun i j x y hx hy hxy => ?_, fun k q hq => ?_⟩
  · obtain ⟨x', hx', ex⟩ := key i x hx
    obtain ⟨y', hy', ey⟩ := key j y hy
    exact h.1 i j x' y' hx' hy' (by rw [ex, ey, hxy])
  · obtain ⟨z, hz, ez⟩ := key k q hq
    rw [← ez]
    exact h.2 k z hz
theorem va_at_places {D : va_G} {ws wc : va_W} {H : Heap} (hP : va_P D vwCl ws H) {is : List Nat} (hC : is.map (fun i => ws[i]?) = wc.map some) : ∀ (k : Nat) (q : Nat × va_E), wc[k]? = some q → ∃ i : Nat, is[k]? = some i ∧ ws[i]? = some q := by
  intro k q hq
  have h1 : (is.map (fun i => ws[i]?))[k]? = some (some q) := by rw [hC, List.getElem?_map, hq]; rfl
  rw [List.getElem?_map] at h1
  cases hi : is[k]? with
  | none => rw [hi] at h1; cases h1
  | some i => rw [hi] at h1; exact ⟨i, rfl, Option.some.inj h1⟩
theorem va_P_wput {D : va_G} {A : Nat → Prop} {ws wc wd : va_W} {H H1 : Heap} (hP : va_P D vwCl ws H) (hD : va_D A ws) {is : List Nat} (hC : is.map (fun i => ws[i]?) = wc.map some) (hlen : is.length = wd.length) (hP1 : va_P D vwCl wd H1) (hk : ∀ q : Nat, q < H.size → ¬ inW wc q → H1[q]? = H[q]?) : va_P D vwCl (wput ws is wd) H1 := by
  intro k q hq
  rcases wput_get is wd ws hlen hq with ⟨j, h1, h2⟩ | ⟨h1, h2⟩
  · exact hP1 j q h2
  · refine (hP k q h2).kept (hk q.1 (hP k q h2).lt ?_)
    rintro ⟨j, e, hj⟩
    obtain ⟨i, hi, hi2⟩ := va_at_places hP hC j (q.1, e) hj
    have := hD.1 k i q (q.1, e) h2 hi2 rfl
    subst this
    exact h1 (List.mem_of_getElem? hi)
section JWR
variable {p : Program} {l : Launch} {e : Env} {R : Room} {s : State} {m : MethodId} {args : Array Value} {below : List Frame} {meth : Method} {c : Code} {H : Heap} {locs : List Loc} {cells slots : Nat} {Q : State → Prop}
variable {cc : ByteArray} {pc nL : Nat} {ls : Array Slot} {rest : List Value} {own : String} {D : va_G} {A : Nat → Prop} {tys : List (ClassId × FieldType)} {ws : va_W} {H0 : Heap} {a : Nat}
theorem wr_of {pc : Nat} {st0 : List Value} {rv : Option Value} {av : Array Value} {wc wd : va_W} (hr : va_Run p l e R s m args below meth c H locs cells slots 0 0 (F0 m pc ls st0) rest (QW D wc wd rv av) (inW wc)) (hP : va_P D vwCl ws H) (hD : va_D A ws) (hS : va_S A H0 H locs) {is : List Nat} (hC : is.map (fun i => ws[i]?) = wc.map some) (hlen : is.length = wd.length) {wt : va_W} (hws : wput ws is wd = wt) (hsa : wt.map (·.1) = ws.map (·.1))
    (kk : ∀ (H1 : Heap) (locs1 : List Loc), va_P D vwCl wt H1 → va_D A wt → va_S A H0 H1 locs1 → W p l e R s m args below meth c H1 locs1 cells slots Q (F0 m (pc + 3) ls (rv.toList ++ rest))) : W p l e R s m args below meth c H locs cells slots Q (F0 m pc ls st0) := by
  intro T hT X
  obtain ⟨v, st₀, t, T', L, h0, X', hL, e1, e2, ⟨hv, hp, hz, hk⟩, st⟩ := hr T hT X
  cases hv
  rw [h0] at hz hk
  have hF : ∀ q, inW wc q → A q := by
    rintro q ⟨k, e, hq⟩
    obtain ⟨i, -, hi⟩ := va_at_places hP hC k (q, e) hq
    exact hD.2 i _ hi
  subst hws
  obtain ⟨t2, a1, b1⟩ := kk t.heap (locs ++ L) (va_P_wput hP hD hC hlen hp hk) (va_D_same hsa hD)
    ⟨Nat.le_trans hS.1 hz, fun q h1 h2 => by rw [hk q (Nat.lt_of_lt_of_le h1 hS.1) (fun w => h2 (hF q w))]; exact hS.2.1 q h1 h2, fun q hq => by
      rcases List.mem_append.mp hq with h | h
      · exact hS.2.2 q h
      · exact hF _ (hL q h)⟩ T' e1 X'
  exact ⟨t2, st t2 a1, b1⟩
theorem jv_wrV (C : CallFix p m c cc nL s args TB own) {y : MethodName} {cy : ByteArray} {n fr lo idx ni ci q0 : Nat} {ret : Option FieldType} {wc wd : va_W} {rv : Option Value} {Cn : vw_C} {fs : List Value} {b : Nat} (As : List Value) (rest : List Value) (hM : cW l y cy n ret fr lo D tys (.ref b :: As) wc wd rv) (g : GoodIn TB (wsV own idx Cn.1 y (WS y cy n ret)))
    (hd : y.cls = Cn.1 ∧ y.cls ≠ "java/lang/invoke/MethodHandle" ∧ y.cls ≠ "java/lang/invoke/VarHandle" ∧ (parseMethodDescriptor y.desc).map (fun d => d.parameters.length) = some ni) (hR : fr + 1 ≤ R.frames ∧ 8 + (n + 11) + lo ≤ R.locals)
    (hK : va_K D vwCl tys s) (hP : va_P D vwCl ws H) (hD : va_D A ws) (hS : va_S A H0 H locs) (is : List Nat) (hC : is.map (fun i => ws[i]?) = wc.map some) (hnd : va_nd is = true) (hlen : is.length = wd.length) {wt : va_W} (hws : wput ws is wd = wt) (hsa : wt.map (·.1) = ws.map (·.1)) (hc : vwCl[ci]? = some Cn) (he : wc[q0]? = some (b, .inr (ci, fs))) (hn : As.length = ni) (hls : ls.size = nL) (hro : (rest.map fun v => v.category).sum ≤ 8) (hdg : decode cc pc = .ok (.invokevirtual idx, 3)) (hcs : cells ≤ R.cells ∧ slots ≤ R.slots)
    (kk : ∀ (H1 : Heap) (locs1 : List Loc), va_P D vwCl wt H1 → va_D A wt → va_S A H0 H1 locs1 → W p l e R s m args below meth c H1 locs1 cells slots Q (F0 m (pc + 3) ls (rv.toList ++ rest))) {st0 : List Value} (hst : st0 = As.reverse ++ .ref b :: rest) : W p l e R s m args below meth c H locs cells slots Q (F0 m pc ls st0) := by
  have hPc : va_P D vwCl wc H := fun k q hq => by
    obtain ⟨i, -, hi⟩ := va_at_places hP hC k q hq
    exact hP i q hi
  exact wr_of (va_runV (As := As) (rest := rest) C hM (cwV ni C.2.2.2.2 g rfl rfl rfl hd hR) ⟨PW_blind, va_recv hK hPc hc he, fun U hU hW => ⟨rfl, by rw [hU]; exact hPc, va_K.moved hW.alike hK, (hD.sub is hnd hC).weaken (fun _ _ _ _ => trivial)⟩⟩ rfl hn hls hst (lv_room hro) hdg hcs) hP hD hS hC hlen hws hsa kk
/-- the ends of a method that writes -/
theorem jw_vret (C : CallFix p m c cc nL s args TB own) (hlocks : meth.locks = false) (hr : meth.sig.returnType = none) (hd : decode cc pc = .ok (.return_, 1)) {wc wd : va_W} (hP : va_P D vwCl wd H) (hS : va_S (inW wc) s.heap H locs) : W p l e R s m args below meth c H locs 0 0 (MQ below (QW D wc wd none) args s 0 0 (inW wc)) (F0 m pc ls []) :=
  W.vret C.1 C.2.1 hr (fun t ht _ => ⟨rfl, by rw [ht]; exact hP, hS.F ht⟩) hS.2.2 hd hlocks
theorem jw_iret (C : CallFix p m c cc nL s args TB own) (hlocks : meth.locks = false) (hr : meth.sig.returnType = some .int) (hd : decode cc pc = .ok (.ireturn, 1)) {wc wd : va_W} {v w : Int} (hv : v = w) (hP : va_P D vwCl wd H) (hS : va_S (inW wc) s.heap H locs) : W p l e R s m args below meth c H locs 0 0 (MQ below (QW D wc wd (some (.int (J w)))) args s 0 0 (inW wc)) (F0 m pc ls [.int (J v)]) := by
  subst hv
  exact W.iret C.1 C.2.1 hr (fun t ht _ => ⟨rfl, by rw [ht]; exact hP, hS.F ht⟩) hS.2.2 hd hlocks
theorem jw_lret (C : CallFix p m c cc nL s args TB own) (hlocks : meth.locks = false) (hr : meth.sig.returnType = some .long) (hd : decode cc pc = .ok (.lreturn, 1)) {wc wd : va_W} {v w : Int} (hv : v = w) (hP : va_P D vwCl wd H) (hS : va_S (inW wc) s.heap H locs) : W p l e R s m args below meth c H locs 0 0 (MQ below (QW D wc wd (some (.long (Lg w)))) args s 0 0 (inW wc)) (F0 m pc ls [.long (Lg v)]) := by
  subst hv
  exact W.lret C.1 C.2.1 hr (fun t ht _ => ⟨rfl, by rw [ht]; exact hP, hS.F ht⟩) hS.2.2 hd hlocks
theorem jw_zret (C : CallFix p m c cc nL s args TB own) (hlocks : meth.locks = false) (hr : meth.sig.returnType = some .boolean) (hd : decode cc pc = .ok (.ireturn, 1)) {wc wd : va_W} {v : Int} {b : Bool} (hv : v = b2i b) (hP : va_P D vwCl wd H) (hS : va_S (inW wc) s.heap H locs) : W p l e R s m args below meth c H locs 0 0 (MQ below (QW D wc wd (some (.int (J (b2i b))))) args s 0 0 (inW wc)) (F0 m pc ls [.int (J v)]) := by
  subst hv
  exact W.zret C.1 C.2.1 hr (by cases b <;> rfl) (fun t ht _ => ⟨rfl, by rw [ht]; exact hP, hS.F ht⟩) hS.2.2 hd hlocks
theorem jw_aret (C : CallFix p m c cc nL s args TB own) (hlocks : meth.locks = false) {rt : String} (hr : meth.sig.returnType = some (.object rt)) (hd : decode cc pc = .ok (.areturn, 1)) {wc wd : va_W} {v : Nat} (hP : va_P D vwCl wd H) (hS : va_S (inW wc) s.heap H locs) : W p l e R s m args below meth c H locs 0 0 (MQ below (QW D wc wd (some (.ref v))) args s 0 0 (inW wc)) (F0 m pc ls [.ref v]) :=
  W.aret C.1 C.2.1 hr (Or.inl ⟨_, rfl⟩) (Or.inr ⟨_, rfl⟩) (fun t ht _ => ⟨rfl, by rw [ht]; exact hP, hS.F ht⟩) hS.2.2 hd hlocks
theorem cW_of {y : MethodName} {n fr lo : Nat} {ret : Option FieldType} {av : List Value} {wc wd : va_W} {rv : Option Value} {owner : String} (hcls : y.cls = owner) (hy : plainName y.cls = true) (hlen : (lg_sl av).length ≤ n)
    (body : ∀ (p : Program) (e : Env) (s : State) (m : MethodId) (args : Array Value) (below : List Frame) (meth : Method) (c : Code) (ls : Array Slot), CallFix p m c cc n s args TB owner → meth.locks = false → meth.sig.returnType = ret → va_K D vwCl tys s → va_P D vwCl wc s.heap → va_D (inW wc) wc → va_S (inW wc) s.heap s.heap [] → lv_has ls n (lv_args 0 av) →
      W p l e { frames := fr, cells := 0, slots := 0, locals := lo } s m args below meth c s.heap [] 0 0 (MQ below (QW D wc wd rv) args s 0 0 (inW wc)) (F0 m 0 ls [])) : cW l y cc n ret fr lo D tys av wc wd rv := by
  refine Met.ofW (cc := cc) (maxL := n) (ret := ret) hy rfl ?_
  intro p e s m args below meth c s₁ B hml hv
  obtain ⟨rfl, hP, hK, hD⟩ := hv
  have hts := atoms_spec (ws := WS y cc n ret) B.pre
  have hown : s.vm.findClass owner = some m.cls := by rw [← hcls]; exact findClass_of_methodNamed B.named
  have hl := lv_entry av (n := n) hlen
  rw [lg_entry_eq]
  exact body p e s m _ below meth c _ ⟨B.exec, B.bytes, hml, hown, fun w hw => hts w (List.mem_cons_of_mem _ hw)⟩ B.notSynchronized B.returns hK hP ⟨hD.1, fun k q hk => ⟨k, q.2, hk⟩⟩ va_S.rf hl
end JWR
/-- a place of a row is set -/
def sn {α : Type} (F : Nat → α) (k : Nat) (z : α) : Nat → α := fun i => if i = k then z else F i
theorem sn_nat (F : Nat → Nat) (k z : Nat) (i : Nat) : (if i = k then (z : Int) else (F i : Int)) = ((sn F k z i : Nat) : Int) := by
  unfold sn
  split <;> rfl
theorem sn_bd {F : Nat → Int} (h : ∀ i, -10000 ≤ F i ∧ F i ≤ 10000) (k : Nat) {z : Int} (hz : -10000 ≤ z ∧ z ≤ 10000) : ∀ i, -10000 ≤ sn F k z i ∧ sn F k z i ≤ 10000 := by
  intro i
  unfold sn
  split
  · exact hz
  · exact h i
theorem sn_lt {F : Nat → Nat} {N : Nat} (h : ∀ i, F i < N) (k : Nat) {z : Nat} (hz : z < N) : ∀ i, sn F k z i < N := by
  intro i
  unfold sn
  split
  · exact hz
  · exact h i
