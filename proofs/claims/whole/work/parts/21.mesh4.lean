theorem fol_2 {X Y : Nat → Int} {O : Nat → Nat} {pres : Nat} (h : fol X Y O pres < pres) : 2 ≤ fol X Y O pres := by
  unfold fol at h ⊢
  cases hf : ff (offP X Y O) pres 2 with
  | none => rw [hf] at h; simp at h
  | some j => exact (ff_lt pres 2 (by omega) j hf).1
section MESH4
variable {l : Launch} {D : va_G} {cI cZ : ClassId} {pp ax ay at_ ao mm mc mt ma mb : Nat} {X Y : Nat → Int} {T : Nat → Bool} {O : Nat → Nat} {told pres : Nat} {Cd : Nat → Nat} {sz : Nat} {Th : Nat → Int} {Af Bf : Nat → Nat}
set_option maxRecDepth 20000 in
theorem lp_X0_layOut_42 {p : Program} {e : Env} {s : State} {m : MethodId} {args : Array Value} {below : List Frame} {meth : Method} {c : Code} {WC : va_W} {z : Nat} (C : CallFix p m c cX0_layOut 3 s args TB RX0) (hlk : meth.locks = false) (hr : meth.sig.returnType = none) (hK : va_K D vwCl (tyz cI cZ) s) (hB : PB X Y O told pres) :
    ∀ (n : Nat) (i : Nat) (Cd : Nat → Nat) (sz : Nat) (Th : Nat → Int) (Af Bf : Nat → Nat), pres < i + n → i ≤ pres → 1 ≤ i → MB3 (Cd, sz, Th) → AB3 (Af, Bf) → ∀ (Rf : MT × AB), Rf = loL X Y O pres i ((Cd, sz, Th), (Af, Bf)) → ∀ (H : Heap) (locs : List Loc), va_P D vwCl [(mm, .inr (0, [.ref pp, .ref mc, .int (J ((sz : Nat) : Int)), .ref mt, .ref ma, .ref mb])), (mc, .inl (cI, 80, .inl (fun z9 => J ((Cd z9 : Nat) : Int)))), (mt, .inl (cI, 1600, .inl (fun z9 => J (Th z9)))), (ma, .inl (cI, 40, .inl (fun z9 => J ((Af z9 : Nat) : Int)))), (mb, .inl (cI, 40, .inl (fun z9 => J ((Bf z9 : Nat) : Int)))), (pp, .inr (2, [.ref ax, .ref ay, .ref at_, .ref ao, .int (J ((told : Nat) : Int)), .int (J ((pres : Nat) : Int))])), (ax, .inl (cI, 40, .inl (fun z9 => J (X z9)))), (ay, .inl (cI, 40, .inl (fun z9 => J (Y z9)))), (at_, .inl (cZ, 40, .inl (fun z9 => J (b2i (T z9))))), (ao, .inl (cI, 40, .inl (fun z9 => J ((O z9 : Nat) : Int))))] H → va_D (inW WC) [(mm, .inr (0, [.ref pp, .ref mc, .int (J ((sz : Nat) : Int)), .ref mt, .ref ma, .ref mb])), (mc, .inl (cI, 80, .inl (fun z9 => J ((Cd z9 : Nat) : Int)))), (mt, .inl (cI, 1600, .inl (fun z9 => J (Th z9)))), (ma, .inl (cI, 40, .inl (fun z9 => J ((Af z9 : Nat) : Int)))), (mb, .inl (cI, 40, .inl (fun z9 => J ((Bf z9 : Nat) : Int)))), (pp, .inr (2, [.ref ax, .ref ay, .ref at_, .ref ao, .int (J ((told : Nat) : Int)), .int (J ((pres : Nat) : Int))])), (ax, .inl (cI, 40, .inl (fun z9 => J (X z9)))), (ay, .inl (cI, 40, .inl (fun z9 => J (Y z9)))), (at_, .inl (cZ, 40, .inl (fun z9 => J (b2i (T z9))))), (ao, .inl (cI, 40, .inl (fun z9 => J ((O z9 : Nat) : Int))))] → va_S (inW WC) s.heap H locs → ∀ ls : Array Slot, lv_has ls 3 [(0, .ref mm), (1, .int (J ((z : Nat) : Int))), (2, .int (J ((i : Nat) : Int)))] → W p l e { frames := 3, cells := 0, slots := 0, locals := 78 } s m args below meth c H locs 0 0 (MQ below (QW D WC ((wMesh cI mm mc mt ma mb pp ((Rf.1).1) ((Rf.1).2.1) ((Rf.1).2.2) Rf.2.1 Rf.2.2) ++ (wPts cI cZ pp ax ay at_ ao X Y T O told pres)) none) args s 0 0 (inW WC)) (F0 m 42 ls []) := by
  obtain ⟨hX, hY, hO, htd, hps⟩ := hB
  intro n
  induction n with
  | zero => intro i Cd sz Th Af Bf hi0 hi1 hi2 hM3 hA3; omega
  | succ n ih =>
    intro i Cd sz Th Af Bf hi0 hi1 hi2 hM3 hA3 Rf hRf H locs hP hD hS ls hl
    refine lv_iload_n C.1 C.2.1 dX0_layOut_42 rfl (lv_at hl 2 rfl) ?_
    refine lv_aload_n C.1 C.2.1 dX0_layOut_43 rfl (lv_at hl 0 rfl) ?_
    refine jv_get C fw_X0_24 hK hP 0 rfl rfl dX0_layOut_44 ?_
    refine jv_get C fw_X0_63 hK hP 5 rfl rfl dX0_layOut_47 ?_
    refine jv_icmp_ge (tgt := 83) C dX0_layOut_50 (by decide) (by omega) (fun h1 => ?_) (fun h1 => ?_)
    · exact jw_vret C hlk hr dX0_layOut_83 (by rw [hRf, loL_end (by omega)]; exact hP) hS
    · refine lv_aload_n C.1 C.2.1 dX0_layOut_53 rfl (lv_at hl 0 rfl) ?_
      refine lv_aload_n C.1 C.2.1 dX0_layOut_54 rfl (lv_at hl 0 rfl) ?_
      refine jv_get C fw_X0_24 hK hP 0 rfl rfl dX0_layOut_55 ?_
      refine jv_get C fw_X0_70 hK hP 5 rfl rfl dX0_layOut_58 ?_
      refine lv_iload_n C.1 C.2.1 dX0_layOut_61 rfl (lv_at hl 2 rfl) ?_
      refine jv_iconst C dX0_layOut_62 ?_
      refine jv_isub (z := ((i - 1 : Nat) : Int)) C dX0_layOut_63 (by omega) ?_
      refine jv_iald C hK hP 9 0 rfl rfl (i - 1) (by omega) (by omega) (by decide) dX0_layOut_64 ?_
      have f2 := hO (i - 1)
      refine lv_aload_n C.1 C.2.1 dX0_layOut_65 rfl (lv_at hl 0 rfl) ?_
      refine jv_get C fw_X0_24 hK hP 0 rfl rfl dX0_layOut_66 ?_
      refine jv_get C fw_X0_70 hK hP 5 rfl rfl dX0_layOut_69 ?_
      refine lv_iload_n C.1 C.2.1 dX0_layOut_72 rfl (lv_at hl 2 rfl) ?_
      refine jv_iald C hK hP 9 0 rfl rfl (i) (by omega) (by omega) (by decide) dX0_layOut_73 ?_
      have f3 := hO i
      have hr4 : MB3 (lnT X Y (O (i - 1)) (O i) ((Cd, sz, Th), (Af, Bf))).1 ∧ AB3 (lnT X Y (O (i - 1)) (O i) ((Cd, sz, Th), (Af, Bf))).2 := lnT_b (by omega) (by omega) hM3 hA3
      refine jv_wrV (ni := 2) (ci := 0) (q0 := 0) (wt := [(mm, .inr (0, [.ref pp, .ref mc, .int (J (((lnT X Y (O (i - 1)) (O i) ((Cd, sz, Th), (Af, Bf))).1.2.1 : Nat) : Int)), .ref mt, .ref ma, .ref mb])), (mc, .inl (cI, 80, .inl (fun z9 => J ((((lnT X Y (O (i - 1)) (O i) ((Cd, sz, Th), (Af, Bf))).1.1) z9 : Nat) : Int)))), (mt, .inl (cI, 1600, .inl (fun z9 => J (((lnT X Y (O (i - 1)) (O i) ((Cd, sz, Th), (Af, Bf))).1.2.2) z9)))), (ma, .inl (cI, 40, .inl (fun z9 => J ((((lnT X Y (O (i - 1)) (O i) ((Cd, sz, Th), (Af, Bf))).2.1) z9 : Nat) : Int)))), (mb, .inl (cI, 40, .inl (fun z9 => J ((((lnT X Y (O (i - 1)) (O i) ((Cd, sz, Th), (Af, Bf))).2.2) z9 : Nat) : Int)))), (pp, .inr (2, [.ref ax, .ref ay, .ref at_, .ref ao, .int (J ((told : Nat) : Int)), .int (J ((pres : Nat) : Int))])), (ax, .inl (cI, 40, .inl (fun z9 => J (X z9)))), (ay, .inl (cI, 40, .inl (fun z9 => J (Y z9)))), (at_, .inl (cZ, 40, .inl (fun z9 => J (b2i (T z9))))), (ao, .inl (cI, 40, .inl (fun z9 => J ((O z9 : Nat) : Int))))]) C [.int (J ((O (i - 1) : Nat) : Int)), .int (J ((O i : Nat) : Int))] [] (c_X0_layNext (Cd := Cd) (sz := sz) (Th := Th) (Af := Af) (Bf := Bf) (a := O (i - 1)) (b := O i) ⟨hM3.1, hM3.2.1, hM3.2.2, hA3.1, hA3.2⟩ ⟨hX, hY, hO, htd, hps⟩ (by omega) (by omega)) gv_X0_73 (by decide +kernel) (by decide) hK hP hD hS [0, 1, 2, 3, 4, 5, 6, 7, 8, 9] rfl (by decide) rfl rfl rfl rfl rfl rfl hl.1 (by simp [Value.category]) dX0_layOut_74 (by decide) (fun H locs hP hD hS => ?_) rfl
      show W _ _ _ _ _ _ _ _ _ _ _ _ _ _ _ (F0 m 77 ls [])
      refine lv_iinc (v := J (((i + 1 : Nat) : Int))) (lv' := [(2, .int (J ((i + 1 : Nat) : Int))), (0, .ref mm), (1, .int (J ((z : Nat) : Int)))]) C.1 C.2.1 dX0_layOut_77 hl (k := 2) rfl (by rw [show Int32.ofInt 1 = J 1 from rfl, J_add]; exact congrArg J (by omega)) (by decide) rfl (fun ls hl => ?_)
      refine lv_goto (tgt := 42) C.1 C.2.1 dX0_layOut_80 (by decide) ?_
      exact ih (i + 1) (((lnT X Y (O (i - 1)) (O i) ((Cd, sz, Th), (Af, Bf))).1).1) (((lnT X Y (O (i - 1)) (O i) ((Cd, sz, Th), (Af, Bf))).1).2.1) (((lnT X Y (O (i - 1)) (O i) ((Cd, sz, Th), (Af, Bf))).1).2.2) (((lnT X Y (O (i - 1)) (O i) ((Cd, sz, Th), (Af, Bf))).2).1) (((lnT X Y (O (i - 1)) (O i) ((Cd, sz, Th), (Af, Bf))).2).2) (by omega) (by omega) (by omega) hr4.1 hr4.2 Rf (hRf.trans (loL_go (by omega))) H locs hP hD hS ls (lv_sub hl [1, 2, 0] rfl)
set_option maxRecDepth 20000 in
theorem c_X0_layOut  (hM : MBd Cd sz Th Af Bf) (hB : PB X Y O told pres)  : cW l yX0_layOut cX0_layOut 3 none 3 78 D (tyz cI cZ) [.ref mm] ((wMesh cI mm mc mt ma mb pp Cd sz Th Af Bf) ++ (wPts cI cZ pp ax ay at_ ao X Y T O told pres)) ((wMesh cI mm mc mt ma mb pp (((loT X Y O pres ((Cd, sz, Th), (Af, Bf))).1).1) (((loT X Y O pres ((Cd, sz, Th), (Af, Bf))).1).2.1) (((loT X Y O pres ((Cd, sz, Th), (Af, Bf))).1).2.2) ((loT X Y O pres ((Cd, sz, Th), (Af, Bf))).2.1) ((loT X Y O pres ((Cd, sz, Th), (Af, Bf))).2.2)) ++ (wPts cI cZ pp ax ay at_ ao X Y T O told pres)) none := by
  refine cW_of (owner := RX0) rfl (by decide) (Nat.le_of_ble_eq_true rfl) ?_
  intro p e s m args below meth c ls C hlk hr hK hP hD hS hl
  have hl : lv_has ls 3 [(0, .ref mm)] := hl
  have hP : va_P D vwCl [(mm, .inr (0, [.ref pp, .ref mc, .int (J ((sz : Nat) : Int)), .ref mt, .ref ma, .ref mb])), (mc, .inl (cI, 80, .inl (fun z9 => J ((Cd z9 : Nat) : Int)))), (mt, .inl (cI, 1600, .inl (fun z9 => J (Th z9)))), (ma, .inl (cI, 40, .inl (fun z9 => J ((Af z9 : Nat) : Int)))), (mb, .inl (cI, 40, .inl (fun z9 => J ((Bf z9 : Nat) : Int)))), (pp, .inr (2, [.ref ax, .ref ay, .ref at_, .ref ao, .int (J ((told : Nat) : Int)), .int (J ((pres : Nat) : Int))])), (ax, .inl (cI, 40, .inl (fun z9 => J (X z9)))), (ay, .inl (cI, 40, .inl (fun z9 => J (Y z9)))), (at_, .inl (cZ, 40, .inl (fun z9 => J (b2i (T z9))))), (ao, .inl (cI, 40, .inl (fun z9 => J ((O z9 : Nat) : Int))))] s.heap := hP
  have hD : va_D _ [(mm, .inr (0, [.ref pp, .ref mc, .int (J ((sz : Nat) : Int)), .ref mt, .ref ma, .ref mb])), (mc, .inl (cI, 80, .inl (fun z9 => J ((Cd z9 : Nat) : Int)))), (mt, .inl (cI, 1600, .inl (fun z9 => J (Th z9)))), (ma, .inl (cI, 40, .inl (fun z9 => J ((Af z9 : Nat) : Int)))), (mb, .inl (cI, 40, .inl (fun z9 => J ((Bf z9 : Nat) : Int)))), (pp, .inr (2, [.ref ax, .ref ay, .ref at_, .ref ao, .int (J ((told : Nat) : Int)), .int (J ((pres : Nat) : Int))])), (ax, .inl (cI, 40, .inl (fun z9 => J (X z9)))), (ay, .inl (cI, 40, .inl (fun z9 => J (Y z9)))), (at_, .inl (cZ, 40, .inl (fun z9 => J (b2i (T z9))))), (ao, .inl (cI, 40, .inl (fun z9 => J ((O z9 : Nat) : Int))))] := hD
  obtain ⟨hCd, hsz, hTh, hAf, hBf⟩ := hM
  obtain ⟨hX, hY, hO, htd, hps⟩ := hB
  refine lv_aload_n C.1 C.2.1 dX0_layOut_0 rfl (lv_at hl 0 rfl) ?_
  refine jv_iconst C dX0_layOut_1 ?_
  refine jv_put C fw_X0_34 fp_X0 hK hP hD hS 0 rfl rfl rfl rfl (Nat.le_of_ble_eq_true rfl) dX0_layOut_2 (fun H locs hP hD hS => ?_)
  have hP : va_P D vwCl [(mm, .inr (0, [.ref pp, .ref mc, .int (J 0), .ref mt, .ref ma, .ref mb])), (mc, .inl (cI, 80, .inl (fun z9 => J ((Cd z9 : Nat) : Int)))), (mt, .inl (cI, 1600, .inl (fun z9 => J (Th z9)))), (ma, .inl (cI, 40, .inl (fun z9 => J ((Af z9 : Nat) : Int)))), (mb, .inl (cI, 40, .inl (fun z9 => J ((Bf z9 : Nat) : Int)))), (pp, .inr (2, [.ref ax, .ref ay, .ref at_, .ref ao, .int (J ((told : Nat) : Int)), .int (J ((pres : Nat) : Int))])), (ax, .inl (cI, 40, .inl (fun z9 => J (X z9)))), (ay, .inl (cI, 40, .inl (fun z9 => J (Y z9)))), (at_, .inl (cZ, 40, .inl (fun z9 => J (b2i (T z9))))), (ao, .inl (cI, 40, .inl (fun z9 => J ((O z9 : Nat) : Int))))] H := hP
  have hD : va_D _ [(mm, .inr (0, [.ref pp, .ref mc, .int (J 0), .ref mt, .ref ma, .ref mb])), (mc, .inl (cI, 80, .inl (fun z9 => J ((Cd z9 : Nat) : Int)))), (mt, .inl (cI, 1600, .inl (fun z9 => J (Th z9)))), (ma, .inl (cI, 40, .inl (fun z9 => J ((Af z9 : Nat) : Int)))), (mb, .inl (cI, 40, .inl (fun z9 => J ((Bf z9 : Nat) : Int)))), (pp, .inr (2, [.ref ax, .ref ay, .ref at_, .ref ao, .int (J ((told : Nat) : Int)), .int (J ((pres : Nat) : Int))])), (ax, .inl (cI, 40, .inl (fun z9 => J (X z9)))), (ay, .inl (cI, 40, .inl (fun z9 => J (Y z9)))), (at_, .inl (cZ, 40, .inl (fun z9 => J (b2i (T z9))))), (ao, .inl (cI, 40, .inl (fun z9 => J ((O z9 : Nat) : Int))))] := hD
  refine lv_aload_n C.1 C.2.1 dX0_layOut_5 rfl (lv_at hl 0 rfl) ?_
  refine jv_get C fw_X0_15 hK hP 0 rfl rfl dX0_layOut_6 ?_
  refine jv_iconst C dX0_layOut_9 ?_
  refine jv_wrS (ni := 2) (wt := [(mm, .inr (0, [.ref pp, .ref mc, .int (J 0), .ref mt, .ref ma, .ref mb])), (mc, .inl (cI, 80, .inl (fun z9 => J ((Cd z9 : Nat) : Int)))), (mt, .inl (cI, 1600, .inl (fun z9 => J ((fil 1600 Th) z9)))), (ma, .inl (cI, 40, .inl (fun z9 => J ((Af z9 : Nat) : Int)))), (mb, .inl (cI, 40, .inl (fun z9 => J ((Bf z9 : Nat) : Int)))), (pp, .inr (2, [.ref ax, .ref ay, .ref at_, .ref ao, .int (J ((told : Nat) : Int)), .int (J ((pres : Nat) : Int))])), (ax, .inl (cI, 40, .inl (fun z9 => J (X z9)))), (ay, .inl (cI, 40, .inl (fun z9 => J (Y z9)))), (at_, .inl (cZ, 40, .inl (fun z9 => J (b2i (T z9))))), (ao, .inl (cI, 40, .inl (fun z9 => J ((O z9 : Nat) : Int))))]) C [.ref mt, .int (J (-1))] [] (c_J7_fill (mt := mt) (Th := Th)) (good_W mw_78) mw_5 mw_76 mw_77 (by decide +kernel) (by decide) hK hP hD hS [2] rfl (by decide) rfl rfl rfl rfl hl.1 (by simp) dX0_layOut_10 (by decide) (fun H locs hP hD hS => ?_) rfl
  show W _ _ _ _ _ _ _ _ _ _ _ _ _ _ _ (F0 m 13 ls [])
  have hM3 : MB3 (Cd, 0, fil 1600 Th) := ⟨hCd, by show 0 ≤ 80; omega, fil_th _ hTh⟩
  have hA3 : AB3 (Af, Bf) := ⟨hAf, hBf⟩
  refine lv_aload_n C.1 C.2.1 dX0_layOut_13 rfl (lv_at hl 0 rfl) ?_
  refine jv_get C fw_X0_24 hK hP 0 rfl rfl dX0_layOut_14 ?_
  refine jv_rdV (ni := 0) (ci := 2) (q0 := 0) C [] [] (c_X2_firstOffLine (X := X) (Y := Y) (T := T) (O := O) (told := told) (pres := pres) ⟨hX, hY, hO, by omega, by omega⟩) gv_X0_59 (by decide +kernel) (by decide) hK (hP.sub (ws' := [(pp, .inr (2, [.ref ax, .ref ay, .ref at_, .ref ao, .int (J ((told : Nat) : Int)), .int (J ((pres : Nat) : Int))])), (ax, .inl (cI, 40, .inl (fun z9 => J (X z9)))), (ay, .inl (cI, 40, .inl (fun z9 => J (Y z9)))), (at_, .inl (cZ, 40, .inl (fun z9 => J (b2i (T z9))))), (ao, .inl (cI, 40, .inl (fun z9 => J ((O z9 : Nat) : Int))))]) [5, 6, 7, 8, 9] rfl) rfl rfl rfl hl.1 (by simp [Value.category]) dX0_layOut_17 (by decide) ?_ rfl
  show W _ _ _ _ _ _ _ _ _ _ _ _ _ _ _ (F0 m 20 ls [.int (J ((fol X Y O pres : Nat) : Int))])
  have f1 := fol_le X Y O pres
  refine lv_istore_n (lv' := [(1, .int (J ((fol X Y O pres : Nat) : Int))), (0, .ref mm)]) C.1 C.2.1 dX0_layOut_20 rfl hl (by decide) rfl (fun ls hl => ?_)
  refine lv_iload_n C.1 C.2.1 dX0_layOut_21 rfl (lv_at hl 0 rfl) ?_
  refine lv_aload_n C.1 C.2.1 dX0_layOut_22 rfl (lv_at hl 1 rfl) ?_
  refine jv_get C fw_X0_24 hK hP 0 rfl rfl dX0_layOut_23 ?_
  refine jv_get C fw_X0_63 hK hP 5 rfl rfl dX0_layOut_26 ?_
  refine jv_icmp_lt (tgt := 33) C dX0_layOut_29 (by decide) (by omega) (fun h2 => ?_) (fun h2 => ?_)
  · have hf2 := fol_2 (X := X) (Y := Y) (O := O) (pres := pres) (by omega)
    refine lv_aload_n C.1 C.2.1 dX0_layOut_33 rfl (lv_at hl 1 rfl) ?_
    refine lv_iload_n C.1 C.2.1 dX0_layOut_34 rfl (lv_at hl 0 rfl) ?_
    have hr3 : MB3 (lfA X Y O (fol X Y O pres) ((Cd, 0, fil 1600 Th), (Af, Bf))).1 ∧ AB3 (lfA X Y O (fol X Y O pres) ((Cd, 0, fil 1600 Th), (Af, Bf))).2 := lfA_b hO hM3 hA3
    refine jv_wrV (ni := 1) (ci := 0) (q0 := 0) (wt := [(mm, .inr (0, [.ref pp, .ref mc, .int (J (((lfA X Y O (fol X Y O pres) ((Cd, 0, fil 1600 Th), (Af, Bf))).1.2.1 : Nat) : Int)), .ref mt, .ref ma, .ref mb])), (mc, .inl (cI, 80, .inl (fun z9 => J ((((lfA X Y O (fol X Y O pres) ((Cd, 0, fil 1600 Th), (Af, Bf))).1.1) z9 : Nat) : Int)))), (mt, .inl (cI, 1600, .inl (fun z9 => J (((lfA X Y O (fol X Y O pres) ((Cd, 0, fil 1600 Th), (Af, Bf))).1.2.2) z9)))), (ma, .inl (cI, 40, .inl (fun z9 => J ((((lfA X Y O (fol X Y O pres) ((Cd, 0, fil 1600 Th), (Af, Bf))).2.1) z9 : Nat) : Int)))), (mb, .inl (cI, 40, .inl (fun z9 => J ((((lfA X Y O (fol X Y O pres) ((Cd, 0, fil 1600 Th), (Af, Bf))).2.2) z9 : Nat) : Int)))), (pp, .inr (2, [.ref ax, .ref ay, .ref at_, .ref ao, .int (J ((told : Nat) : Int)), .int (J ((pres : Nat) : Int))])), (ax, .inl (cI, 40, .inl (fun z9 => J (X z9)))), (ay, .inl (cI, 40, .inl (fun z9 => J (Y z9)))), (at_, .inl (cZ, 40, .inl (fun z9 => J (b2i (T z9))))), (ao, .inl (cI, 40, .inl (fun z9 => J ((O z9 : Nat) : Int))))]) C [.int (J ((fol X Y O pres : Nat) : Int))] [] (c_X0_layFirst (Cd := Cd) (sz := 0) (Th := fil 1600 Th) (Af := Af) (Bf := Bf) (apex := fol X Y O pres) ⟨hM3.1, hM3.2.1, hM3.2.2, hA3.1, hA3.2⟩ ⟨hX, hY, hO, htd, hps⟩ (by omega) (by omega)) gv_X0_66 (by decide +kernel) (by decide) hK hP hD hS [0, 1, 2, 3, 4, 5, 6, 7, 8, 9] rfl (by decide) rfl rfl rfl rfl rfl rfl hl.1 (by simp [Value.category]) dX0_layOut_35 (by decide) (fun H locs hP hD hS => ?_) rfl
    show W _ _ _ _ _ _ _ _ _ _ _ _ _ _ _ (F0 m 38 ls [])
    refine lv_iload_n C.1 C.2.1 dX0_layOut_38 rfl (lv_at hl 0 rfl) ?_
    refine jv_iconst C dX0_layOut_39 ?_
    refine jv_iadd (z := ((fol X Y O pres + 1 : Nat) : Int)) C dX0_layOut_40 (by omega) ?_
    refine lv_istore_n (lv' := [(2, .int (J ((fol X Y O pres + 1 : Nat) : Int))), (1, .int (J ((fol X Y O pres : Nat) : Int))), (0, .ref mm)]) C.1 C.2.1 dX0_layOut_41 rfl hl (by decide) rfl (fun ls hl => ?_)
    rw [show loT X Y O pres ((Cd, sz, Th), (Af, Bf)) = loL X Y O pres (fol X Y O pres + 1) (lfA X Y O (fol X Y O pres) ((Cd, 0, fil 1600 Th), (Af, Bf))) from if_pos (by omega)]
    exact lp_X0_layOut_42 C hlk hr hK ⟨hX, hY, hO, htd, hps⟩ (pres + 1) (fol X Y O pres + 1) (((lfA X Y O (fol X Y O pres) ((Cd, 0, fil 1600 Th), (Af, Bf))).1).1) (((lfA X Y O (fol X Y O pres) ((Cd, 0, fil 1600 Th), (Af, Bf))).1).2.1) (((lfA X Y O (fol X Y O pres) ((Cd, 0, fil 1600 Th), (Af, Bf))).1).2.2) (((lfA X Y O (fol X Y O pres) ((Cd, 0, fil 1600 Th), (Af, Bf))).2).1) (((lfA X Y O (fol X Y O pres) ((Cd, 0, fil 1600 Th), (Af, Bf))).2).2) (by omega) (by omega) (by omega) hr3.1 hr3.2 _ rfl _ _ hP hD hS ls (lv_sub hl [2, 1, 0] rfl)
  · exact jw_vret C hlk hr dX0_layOut_32 (by rw [show loT X Y O pres ((Cd, sz, Th), (Af, Bf)) = ((Cd, 0, fil 1600 Th), (Af, Bf)) from if_neg (by omega)]; exact hP) hS
end MESH4
