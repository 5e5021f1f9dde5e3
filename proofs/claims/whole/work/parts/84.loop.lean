/-! the law's loop -/
set_option maxHeartbeats 4000000 in
set_option maxRecDepth 100000 in
theorem law_switch {p : Program} {l : Launch} {e : Env} {s : State} {m : MethodId} {below : List Frame} {meth : Method} {c : Code} {H : Heap} {locs : List Loc} {Q : State → Prop} {ls : Array Slot} {D : va_G} {cI cZ : ClassId} {bb qq b L i : Nat} {u v : Nat → Nat} {xs : Nat → Int32} {B : BS} {S : RS} (C : CallFix p m c cL_law 4 s #[Value.ref b] TB RL) (hX : va_X b L xs s s.heap) (hbl : b < s.heap.size) (hL : L ≤ 2560) (hi : i + 5 ≤ L) (hK : va_K D vwCl (tyz cI cZ) s) (h : Rel B S) (hP : va_P D vwCl (wLW cI cZ bb u qq v B S) H) (hD : va_D (AL s) (wLW cI cZ bb u qq v B S)) (hS : va_S (AL s) s.heap H locs) (hl : lv_has ls 4 (lsL b bb qq i)) (x : Int32)
    (kk : ∀ (B : BS) (S : RS) (H : Heap) (locs : List Loc), Rel B S → va_P D vwCl (wLW cI cZ bb u qq v B S) H → va_D (AL s) (wLW cI cZ bb u qq v B S) → va_S (AL s) s.heap H locs → W p l e room_1 s m #[Value.ref b] below meth c H locs 34 4908 Q (F0 m 864 ls [])) : W p l e room_1 s m #[Value.ref b] below meth c H locs 34 4908 Q (F0 m 32 ls [.int x]) := by
  by_cases hz : x.toInt < 0 ∨ 24 < x.toInt
  · exact lv_tableOut (tgt := 864) C.1 C.2.1 dL_law_32 hz (by decide) (kk _ _ _ _ h hP hD hS)
  by_cases h0 : x.toInt = 0
  · exact lv_tableIn (off := 116) (tgt := 148) C.1 C.2.1 dL_law_32 (by omega) (by omega) (by rw [h0]; rfl) (by decide) (lc_point C hX hbl hL hi hK h hP hD hS hl kk)
  by_cases h1 : x.toInt = 1
  · exact lv_tableIn (off := 149) (tgt := 181) C.1 C.2.1 dL_law_32 (by omega) (by omega) (by rw [h1]; rfl) (by decide) (lc_drop C hX hbl hL hi hK h hP hD hS hl kk)
  by_cases h2 : x.toInt = 2
  · exact lv_tableIn (off := 172) (tgt := 204) C.1 C.2.1 dL_law_32 (by omega) (by omega) (by rw [h2]; rfl) (by decide) (lc_move C hX hbl hL hi hK h hP hD hS hl kk)
  by_cases h3 : x.toInt = 3
  · exact lv_tableIn (off := 215) (tgt := 247) C.1 C.2.1 dL_law_32 (by omega) (by omega) (by rw [h3]; rfl) (by decide) (lc_pointOf C hX hbl hL hi hK h hP hD hS hl kk)
  by_cases h4 : x.toInt = 4
  · exact lv_tableIn (off := 248) (tgt := 280) C.1 C.2.1 dL_law_32 (by omega) (by omega) (by rw [h4]; rfl) (by decide) (lc_turn C hX hbl hL hi hK h hP hD hS hl kk)
  by_cases h5 : x.toInt = 5
  · exact lv_tableIn (off := 291) (tgt := 323) C.1 C.2.1 dL_law_32 (by omega) (by omega) (by rw [h5]; rfl) (by decide) (lc_round C hX hbl hL hi hK h hP hD hS hl kk)
  by_cases h6 : x.toInt = 6
  · exact lv_tableIn (off := 344) (tgt := 376) C.1 C.2.1 dL_law_32 (by omega) (by omega) (by rw [h6]; rfl) (by decide) (lc_hull C hX hbl hL hi hK h hP hD hS hl kk)
  by_cases h7 : x.toInt = 7
  · exact lv_tableIn (off := 357) (tgt := 389) C.1 C.2.1 dL_law_32 (by omega) (by omega) (by rw [h7]; rfl) (by decide) (lc_corner C hX hbl hL hi hK h hP hD hS hl kk)
  by_cases h8 : x.toInt = 8
  · exact lv_tableIn (off := 380) (tgt := 412) C.1 C.2.1 dL_law_32 (by omega) (by omega) (by rw [h8]; rfl) (by decide) (lc_area C hX hbl hL hi hK h hP hD hS hl kk)
  by_cases h9 : x.toInt = 9
  · exact lv_tableIn (off := 394) (tgt := 426) C.1 C.2.1 dL_law_32 (by omega) (by omega) (by rw [h9]; rfl) (by decide) (lc_triangles C hX hbl hL hi hK h hP hD hS hl kk)
  by_cases h10 : x.toInt = 10
  · exact lv_tableIn (off := 407) (tgt := 439) C.1 C.2.1 dL_law_32 (by omega) (by omega) (by rw [h10]; rfl) (by decide) (lc_triangle C hX hbl hL hi hK h hP hD hS hl kk)
  by_cases h11 : x.toInt = 11
  · exact lv_tableIn (off := 440) (tgt := 472) C.1 C.2.1 dL_law_32 (by omega) (by omega) (by rw [h11]; rfl) (by decide) (lc_ring C hX hbl hL hi hK h hP hD hS hl kk)
  by_cases h12 : x.toInt = 12
  · exact lv_tableIn (off := 463) (tgt := 495) C.1 C.2.1 dL_law_32 (by omega) (by omega) (by rw [h12]; rfl) (by decide) (lc_edge C hX hbl hL hi hK h hP hD hS hl kk)
  by_cases h13 : x.toInt = 13
  · exact lv_tableIn (off := 496) (tgt := 528) C.1 C.2.1 dL_law_32 (by omega) (by omega) (by rw [h13]; rfl) (by decide) (lc_where C hX hbl hL hi hK h hP hD hS hl kk)
  by_cases h14 : x.toInt = 14
  · exact lv_tableIn (off := 529) (tgt := 561) C.1 C.2.1 dL_law_32 (by omega) (by omega) (by rw [h14]; rfl) (by decide) (lc_nearest C hX hbl hL hi hK h hP hD hS hl kk)
  by_cases h15 : x.toInt = 15
  · exact lv_tableIn (off := 562) (tgt := 594) C.1 C.2.1 dL_law_32 (by omega) (by omega) (by rw [h15]; rfl) (by decide) (lc_cross C hX hbl hL hi hK h hP hD hS hl kk)
  by_cases h16 : x.toInt = 16
  · exact lv_tableIn (off := 615) (tgt := 647) C.1 C.2.1 dL_law_32 (by omega) (by omega) (by rw [h16]; rfl) (by decide) (lc_around C hX hbl hL hi hK h hP hD hS hl kk)
  by_cases h17 : x.toInt = 17
  · exact lv_tableIn (off := 648) (tgt := 680) C.1 C.2.1 dL_law_32 (by omega) (by omega) (by rw [h17]; rfl) (by decide) (lc_begin C hX hbl hL hi hK h hP hD hS hl kk)
  by_cases h18 : x.toInt = 18
  · exact lv_tableIn (off := 661) (tgt := 693) C.1 C.2.1 dL_law_32 (by omega) (by omega) (by rw [h18]; rfl) (by decide) (lc_held C hX hbl hL hi hK h hP hD hS hl kk)
  by_cases h19 : x.toInt = 19
  · exact lv_tableIn (off := 694) (tgt := 726) C.1 C.2.1 dL_law_32 (by omega) (by omega) (by rw [h19]; rfl) (by decide) (lc_bad C hX hbl hL hi hK h hP hD hS hl kk)
  by_cases h20 : x.toInt = 20
  · exact lv_tableIn (off := 727) (tgt := 759) C.1 C.2.1 dL_law_32 (by omega) (by omega) (by rw [h20]; rfl) (by decide) (lc_flip C hX hbl hL hi hK h hP hD hS hl kk)
  by_cases h21 : x.toInt = 21
  · exact lv_tableIn (off := 760) (tgt := 792) C.1 C.2.1 dL_law_32 (by omega) (by omega) (by rw [h21]; rfl) (by decide) (lc_settle C hX hbl hL hi hK h hP hD hS hl kk)
  by_cases h22 : x.toInt = 22
  · exact lv_tableIn (off := 783) (tgt := 815) C.1 C.2.1 dL_law_32 (by omega) (by omega) (by rw [h22]; rfl) (by decide) (lc_alike C hX hbl hL hi hK h hP hD hS hl kk)
  by_cases h23 : x.toInt = 23
  · exact lv_tableIn (off := 796) (tgt := 828) C.1 C.2.1 dL_law_32 (by omega) (by omega) (by rw [h23]; rfl) (by decide) (lc_bads C hX hbl hL hi hK h hP hD hS hl kk)
  by_cases h24 : x.toInt = 24
  · exact lv_tableIn (off := 809) (tgt := 841) C.1 C.2.1 dL_law_32 (by omega) (by omega) (by rw [h24]; rfl) (by decide) (lc_count C hX hbl hL hi hK h hP hD hS hl kk)
  exact absurd hz (by omega)
