theorem inX0 : ∀ w ∈ u_ws RX0 TX0 6, w ∈ TB := by
  intro w h
  obtain ⟨k, hk, rfl⟩ := List.mem_map.mp h
  have hk := List.mem_range.mp hk
  rcases (show k = 0 ∨ k = 1 ∨ k = 2 ∨ k = 3 ∨ k = 4 ∨ k = 5 by omega) with rfl | rfl | rfl | rfl | rfl | rfl
  · exact mw_87
  · exact mw_89
  · exact mw_91
  · exact mw_93
  · exact mw_95
  · exact mw_97
theorem fp_X0 : FP 0 RX0 TX0 6 tyX0 := ⟨tyX0_ok, nmX0⟩
theorem inX1 : ∀ w ∈ u_ws RX1 TX1 3, w ∈ TB := by
  intro w h
  obtain ⟨k, hk, rfl⟩ := List.mem_map.mp h
  have hk := List.mem_range.mp hk
  rcases (show k = 0 ∨ k = 1 ∨ k = 2 by omega) with rfl | rfl | rfl
  · exact mw_63
  · exact mw_65
  · exact mw_67
theorem fp_X1 : FP 1 RX1 TX1 3 tyX1 := ⟨tyX1_ok, nmX1⟩
theorem inX2 : ∀ w ∈ u_ws RX2 TX2 6, w ∈ TB := by
  intro w h
  obtain ⟨k, hk, rfl⟩ := List.mem_map.mp h
  have hk := List.mem_range.mp hk
  rcases (show k = 0 ∨ k = 1 ∨ k = 2 ∨ k = 3 ∨ k = 4 ∨ k = 5 by omega) with rfl | rfl | rfl | rfl | rfl | rfl
  · exact mw_37
  · exact mw_39
  · exact mw_41
  · exact mw_43
  · exact mw_45
  · exact mw_47
theorem fp_X2 : FP 2 RX2 TX2 6 tyX2 := ⟨tyX2_ok, nmX2⟩
theorem inX3 : ∀ w ∈ u_ws RX3 TX3 9, w ∈ TB := by
  intro w h
  obtain ⟨k, hk, rfl⟩ := List.mem_map.mp h
  have hk := List.mem_range.mp hk
  rcases (show k = 0 ∨ k = 1 ∨ k = 2 ∨ k = 3 ∨ k = 4 ∨ k = 5 ∨ k = 6 ∨ k = 7 ∨ k = 8 by omega) with rfl | rfl | rfl | rfl | rfl | rfl | rfl | rfl | rfl
  · exact mw_109
  · exact mw_111
  · exact mw_113
  · exact mw_115
  · exact mw_117
  · exact mw_119
  · exact mw_121
  · exact mw_123
  · exact mw_125
theorem fp_X3 : FP 3 RX3 TX3 9 tyX3 := ⟨tyX3_ok, nmX3⟩
theorem inX4 : ∀ w ∈ u_ws RX4 TX4 24, w ∈ TB := by
  intro w h
  obtain ⟨k, hk, rfl⟩ := List.mem_map.mp h
  have hk := List.mem_range.mp hk
  rcases (show k = 0 ∨ k = 1 ∨ k = 2 ∨ k = 3 ∨ k = 4 ∨ k = 5 ∨ k = 6 ∨ k = 7 ∨ k = 8 ∨ k = 9 ∨ k = 10 ∨ k = 11 ∨ k = 12 ∨ k = 13 ∨ k = 14 ∨ k = 15 ∨ k = 16 ∨ k = 17 ∨ k = 18 ∨ k = 19 ∨ k = 20 ∨ k = 21 ∨ k = 22 ∨ k = 23 by omega) with rfl | rfl | rfl | rfl | rfl | rfl | rfl | rfl | rfl | rfl | rfl | rfl | rfl | rfl | rfl | rfl | rfl | rfl | rfl | rfl | rfl | rfl | rfl | rfl
  · exact mw_493
  · exact mw_495
  · exact mw_497
  · exact mw_499
  · exact mw_501
  · exact mw_503
  · exact mw_505
  · exact mw_507
  · exact mw_509
  · exact mw_511
  · exact mw_513
  · exact mw_515
  · exact mw_517
  · exact mw_519
  · exact mw_521
  · exact mw_523
  · exact mw_525
  · exact mw_527
  · exact mw_529
  · exact mw_531
  · exact mw_533
  · exact mw_535
  · exact mw_537
  · exact mw_539
theorem fp_X4 : FP 4 RX4 TX4 24 tyX4 := ⟨tyX4_ok, nmX4⟩
theorem fw_X2_9 : FW RX2 9 2 0 RX2 TX2 6 := ⟨inX2, rfl, by decide, mw_22⟩
theorem fw_X3_75 : FW RX3 75 2 0 RX2 TX2 6 := ⟨inX2, rfl, by decide, mw_23⟩
theorem fw_X2_15 : FW RX2 15 2 1 RX2 TX2 6 := ⟨inX2, rfl, by decide, mw_24⟩
theorem fw_X3_78 : FW RX3 78 2 1 RX2 TX2 6 := ⟨inX2, rfl, by decide, mw_25⟩
theorem fw_X2_18 : FW RX2 18 2 2 RX2 TX2 6 := ⟨inX2, rfl, by decide, mw_26⟩
theorem fw_X2_22 : FW RX2 22 2 3 RX2 TX2 6 := ⟨inX2, rfl, by decide, mw_27⟩
theorem fw_X1_28 : FW RX1 28 2 3 RX2 TX2 6 := ⟨inX2, rfl, by decide, mw_28⟩
theorem fw_X0_70 : FW RX0 70 2 3 RX2 TX2 6 := ⟨inX2, rfl, by decide, mw_29⟩
theorem fw_X3_134 : FW RX3 134 2 3 RX2 TX2 6 := ⟨inX2, rfl, by decide, mw_30⟩
theorem fw_X2_25 : FW RX2 25 2 4 RX2 TX2 6 := ⟨inX2, rfl, by decide, mw_31⟩
theorem fw_X3_148 : FW RX3 148 2 4 RX2 TX2 6 := ⟨inX2, rfl, by decide, mw_32⟩
theorem fw_X1_23 : FW RX1 23 2 5 RX2 TX2 6 := ⟨inX2, rfl, by decide, mw_33⟩
theorem fw_X2_33 : FW RX2 33 2 5 RX2 TX2 6 := ⟨inX2, rfl, by decide, mw_34⟩
theorem fw_X0_63 : FW RX0 63 2 5 RX2 TX2 6 := ⟨inX2, rfl, by decide, mw_35⟩
theorem fw_X3_131 : FW RX3 131 2 5 RX2 TX2 6 := ⟨inX2, rfl, by decide, mw_36⟩
theorem fw_X1_15 : FW RX1 15 1 0 RX1 TX1 3 := ⟨inX1, rfl, by decide, mw_58⟩
theorem fw_X1_9 : FW RX1 9 1 1 RX1 TX1 3 := ⟨inX1, rfl, by decide, mw_59⟩
theorem fw_X3_114 : FW RX3 114 1 1 RX1 TX1 3 := ⟨inX1, rfl, by decide, mw_60⟩
theorem fw_X1_19 : FW RX1 19 1 2 RX1 TX1 3 := ⟨inX1, rfl, by decide, mw_61⟩
theorem fw_X3_110 : FW RX3 110 1 2 RX1 TX1 3 := ⟨inX1, rfl, by decide, mw_62⟩
theorem fw_X0_24 : FW RX0 24 0 0 RX0 TX0 6 := ⟨inX0, rfl, by decide, mw_79⟩
theorem fw_X0_9 : FW RX0 9 0 1 RX0 TX0 6 := ⟨inX0, rfl, by decide, mw_80⟩
theorem fw_X3_198 : FW RX3 198 0 1 RX0 TX0 6 := ⟨inX0, rfl, by decide, mw_81⟩
theorem fw_X0_34 : FW RX0 34 0 2 RX0 TX0 6 := ⟨inX0, rfl, by decide, mw_82⟩
theorem fw_X3_121 : FW RX3 121 0 2 RX0 TX0 6 := ⟨inX0, rfl, by decide, mw_83⟩
theorem fw_X0_15 : FW RX0 15 0 3 RX0 TX0 6 := ⟨inX0, rfl, by decide, mw_84⟩
theorem fw_X0_18 : FW RX0 18 0 4 RX0 TX0 6 := ⟨inX0, rfl, by decide, mw_85⟩
theorem fw_X0_21 : FW RX0 21 0 5 RX0 TX0 6 := ⟨inX0, rfl, by decide, mw_86⟩
theorem fw_X3_10 : FW RX3 10 3 0 RX3 TX3 9 := ⟨inX3, rfl, by decide, mw_100⟩
theorem fw_X3_21 : FW RX3 21 3 1 RX3 TX3 9 := ⟨inX3, rfl, by decide, mw_101⟩
theorem fw_X3_28 : FW RX3 28 3 2 RX3 TX3 9 := ⟨inX3, rfl, by decide, mw_102⟩
theorem fw_X3_32 : FW RX3 32 3 3 RX3 TX3 9 := ⟨inX3, rfl, by decide, mw_103⟩
theorem fw_X3_35 : FW RX3 35 3 4 RX3 TX3 9 := ⟨inX3, rfl, by decide, mw_104⟩
theorem fw_X3_208 : FW RX3 208 3 5 RX3 TX3 9 := ⟨inX3, rfl, by decide, mw_105⟩
theorem fw_X3_169 : FW RX3 169 3 6 RX3 TX3 9 := ⟨inX3, rfl, by decide, mw_106⟩
theorem fw_X3_173 : FW RX3 173 3 7 RX3 TX3 9 := ⟨inX3, rfl, by decide, mw_107⟩
theorem fw_X3_192 : FW RX3 192 3 8 RX3 TX3 9 := ⟨inX3, rfl, by decide, mw_108⟩
theorem fw_X4_7 : FW RX4 7 4 0 RX4 TX4 24 := ⟨inX4, rfl, by decide, mw_469⟩
theorem fw_X4_13 : FW RX4 13 4 1 RX4 TX4 24 := ⟨inX4, rfl, by decide, mw_470⟩
theorem fw_X4_16 : FW RX4 16 4 2 RX4 TX4 24 := ⟨inX4, rfl, by decide, mw_471⟩
theorem fw_X4_19 : FW RX4 19 4 3 RX4 TX4 24 := ⟨inX4, rfl, by decide, mw_472⟩
theorem fw_X4_58 : FW RX4 58 4 4 RX4 TX4 24 := ⟨inX4, rfl, by decide, mw_473⟩
theorem fw_X4_62 : FW RX4 62 4 5 RX4 TX4 24 := ⟨inX4, rfl, by decide, mw_474⟩
theorem fw_X4_109 : FW RX4 109 4 6 RX4 TX4 24 := ⟨inX4, rfl, by decide, mw_475⟩
theorem fw_X4_23 : FW RX4 23 4 7 RX4 TX4 24 := ⟨inX4, rfl, by decide, mw_476⟩
theorem fw_X4_26 : FW RX4 26 4 8 RX4 TX4 24 := ⟨inX4, rfl, by decide, mw_477⟩
theorem fw_X4_29 : FW RX4 29 4 9 RX4 TX4 24 := ⟨inX4, rfl, by decide, mw_478⟩
theorem fw_X4_32 : FW RX4 32 4 10 RX4 TX4 24 := ⟨inX4, rfl, by decide, mw_479⟩
theorem fw_X4_121 : FW RX4 121 4 11 RX4 TX4 24 := ⟨inX4, rfl, by decide, mw_480⟩
theorem fw_X4_115 : FW RX4 115 4 12 RX4 TX4 24 := ⟨inX4, rfl, by decide, mw_481⟩
theorem fw_X4_203 : FW RX4 203 4 13 RX4 TX4 24 := ⟨inX4, rfl, by decide, mw_482⟩
theorem fw_X4_66 : FW RX4 66 4 14 RX4 TX4 24 := ⟨inX4, rfl, by decide, mw_483⟩
theorem fw_X4_35 : FW RX4 35 4 15 RX4 TX4 24 := ⟨inX4, rfl, by decide, mw_484⟩
theorem fw_X4_38 : FW RX4 38 4 16 RX4 TX4 24 := ⟨inX4, rfl, by decide, mw_485⟩
theorem fw_X4_41 : FW RX4 41 4 17 RX4 TX4 24 := ⟨inX4, rfl, by decide, mw_486⟩
theorem fw_X4_183 : FW RX4 183 4 18 RX4 TX4 24 := ⟨inX4, rfl, by decide, mw_487⟩
theorem fw_X4_227 : FW RX4 227 4 19 RX4 TX4 24 := ⟨inX4, rfl, by decide, mw_488⟩
theorem fw_X4_44 : FW RX4 44 4 20 RX4 TX4 24 := ⟨inX4, rfl, by decide, mw_489⟩
theorem fw_X4_47 : FW RX4 47 4 21 RX4 TX4 24 := ⟨inX4, rfl, by decide, mw_490⟩
theorem fw_X4_50 : FW RX4 50 4 22 RX4 TX4 24 := ⟨inX4, rfl, by decide, mw_491⟩
theorem fw_X4_192 : FW RX4 192 4 23 RX4 TX4 24 := ⟨inX4, rfl, by decide, mw_492⟩
theorem gv_L_13 : GoodIn TB (wsV RL 13 RX3 yX3_point (WS yX3_point cX3_point 5 (some .int))) := good_V mw_128 mw_129 mw_130 mw_1 mw_131
theorem gs_X3_39 : GoodIn TB (wsS RX3 39 yX3_faultOfPlace (WS yX3_faultOfPlace cX3_faultOfPlace 2 (some .int))) := good_S mw_132 mw_133 mw_1 mw_134
theorem gv_X3_43 : GoodIn TB (wsV RX3 43 RX2 yX2_isFull (WS yX2_isFull cX2_isFull 1 (some .boolean))) := good_V mw_135 mw_136 mw_137 mw_2 mw_138
theorem gv_X3_47 : GoodIn TB (wsV RX3 47 RX2 yX2_numberAt (WS yX2_numberAt cX2_numberAt 4 (some .int))) := good_V mw_139 mw_140 mw_141 mw_2 mw_142
theorem gv_X3_50 : GoodIn TB (wsV RX3 50 RX3 yX3_refuse (WS yX3_refuse cX3_refuse 3 (some .int))) := good_V mw_143 mw_145 mw_811 mw_1 mw_146
theorem gv_X3_54 : GoodIn TB (wsV RX3 54 RX2 yX2_tellNew (WS yX2_tellNew cX2_tellNew 4 (some .int))) := good_V mw_147 mw_148 mw_149 mw_2 mw_150
theorem gv_X2_29 : GoodIn TB (wsV RX2 29 RX2 yX2_putDown (WS yX2_putDown cX2_putDown 5 none)) := good_V mw_151 mw_152 mw_153 mw_2 mw_154
theorem gv_X2_36 : GoodIn TB (wsV RX2 36 RX2 yX2_comesEarlier (WS yX2_comesEarlier cX2_comesEarlier 3 (some .boolean))) := good_V mw_155 mw_157 mw_812 mw_2 mw_158
theorem gv_X3_57 : GoodIn TB (wsV RX3 57 RX3 yX3_pointsChanged (WS yX3_pointsChanged cX3_pointsChanged 1 none)) := good_V mw_159 mw_161 mw_813 mw_1 mw_162
theorem gv_L_18 : GoodIn TB (wsV RL 18 RX3 yX3_drop (WS yX3_drop cX3_drop 2 (some .int))) := good_V mw_163 mw_164 mw_165 mw_1 mw_166
theorem gv_X3_60 : GoodIn TB (wsV RX3 60 RX2 yX2_isThere (WS yX2_isThere cX2_isThere 2 (some .boolean))) := good_V mw_167 mw_168 mw_169 mw_2 mw_170
theorem gv_X3_64 : GoodIn TB (wsV RX3 64 RX2 yX2_takeAway (WS yX2_takeAway cX2_takeAway 4 none)) := good_V mw_171 mw_172 mw_173 mw_2 mw_174
theorem gv_L_23 : GoodIn TB (wsV RL 23 RX3 yX3_move (WS yX3_move cX3_move 6 (some .int))) := good_V mw_175 mw_176 mw_177 mw_1 mw_178
theorem gv_X3_68 : GoodIn TB (wsV RX3 68 RX2 yX2_putDown (WS yX2_putDown cX2_putDown 5 none)) := good_V mw_179 mw_152 mw_153 mw_2 mw_154
theorem gv_L_28 : GoodIn TB (wsV RL 28 RX3 yX3_pointOf (WS yX3_pointOf cX3_pointOf 3 (some .int))) := good_V mw_180 mw_181 mw_182 mw_1 mw_183
theorem gv_X3_72 : GoodIn TB (wsV RX3 72 RX3 yX3_refuseToldApart (WS yX3_refuseToldApart cX3_refuseToldApart 2 (some .int))) := good_V mw_184 mw_186 mw_814 mw_1 mw_187
theorem gv_X3_81 : GoodIn TB (wsV RX3 81 RX3 yX3_theDrawing (WS yX3_theDrawing cX3_theDrawing 1 (some (.object "SignBench$Mesh")))) := good_V mw_189 mw_191 mw_815 mw_1 mw_192
theorem gv_X3_166 : GoodIn TB (wsV RX3 166 RX0 yX0_layOut (WS yX0_layOut cX0_layOut 3 none)) := good_V mw_193 mw_194 mw_195 mw_4 mw_196
theorem gv_X0_59 : GoodIn TB (wsV RX0 59 RX2 yX2_firstOffLine (WS yX2_firstOffLine cX2_firstOffLine 2 (some .int))) := good_V mw_197 mw_198 mw_199 mw_2 mw_200
theorem gv_X2_40 : GoodIn TB (wsV RX2 40 RX2 yX2_leftness (WS yX2_leftness cX2_leftness 4 (some .long))) := good_V mw_201 mw_202 mw_203 mw_2 mw_204
theorem gv_X2_48 : GoodIn TB (wsV RX2 48 RX2 yX2_leftnessOf (WS yX2_leftnessOf cX2_leftnessOf 5 (some .long))) := good_V mw_205 mw_206 mw_207 mw_2 mw_208
theorem gv_X0_66 : GoodIn TB (wsV RX0 66 RX0 yX0_layFirst (WS yX0_layFirst cX0_layFirst 10 none)) := good_V mw_209 mw_211 mw_816 mw_4 mw_212
theorem gv_X0_77 : GoodIn TB (wsV RX0 77 RX2 yX2_leftness (WS yX2_leftness cX2_leftness 4 (some .long))) := good_V mw_213 mw_202 mw_203 mw_2 mw_204
theorem gv_X0_81 : GoodIn TB (wsV RX0 81 RX0 yX0_addTriangle (WS yX0_addTriangle cX0_addTriangle 6 none)) := good_V mw_214 mw_216 mw_817 mw_4 mw_217
theorem gs_X0_45 : GoodIn TB (wsS RX0 45 yX0_codeOf (WS yX0_codeOf cX0_codeOf 3 (some .int))) := good_S mw_218 mw_219 mw_4 mw_220
theorem gv_X0_116 : GoodIn TB (wsV RX0 116 RX0 yX0_setThirds (WS yX0_setThirds cX0_setThirds 5 none)) := good_V mw_221 mw_223 mw_818 mw_4 mw_224
theorem gv_X0_85 : GoodIn TB (wsV RX0 85 RX0 yX0_linkBorder (WS yX0_linkBorder cX0_linkBorder 3 none)) := good_V mw_225 mw_227 mw_819 mw_4 mw_228
theorem gv_X0_73 : GoodIn TB (wsV RX0 73 RX0 yX0_layNext (WS yX0_layNext cX0_layNext 6 none)) := good_V mw_229 mw_231 mw_820 mw_4 mw_232
theorem gv_X3_195 : GoodIn TB (wsV RX3 195 RX0 yX0_settleUpTo (WS yX0_settleUpTo cX0_settleUpTo 7 (some .int))) := good_V mw_233 mw_234 mw_235 mw_4 mw_236
theorem gv_X0_103 : GoodIn TB (wsV RX0 103 RX0 yX0_firstBadSide (WS yX0_firstBadSide cX0_firstBadSide 5 (some .int))) := good_V mw_237 mw_239 mw_821 mw_4 mw_240
theorem gv_X0_112 : GoodIn TB (wsV RX0 112 RX0 yX0_isBadSide (WS yX0_isBadSide cX0_isBadSide 7 (some .boolean))) := good_V mw_241 mw_242 mw_243 mw_4 mw_244
theorem gv_X0_42 : GoodIn TB (wsV RX0 42 RX0 yX0_thirdOf (WS yX0_thirdOf cX0_thirdOf 3 (some .int))) := good_V mw_245 mw_247 mw_822 mw_4 mw_248
theorem gv_X0_88 : GoodIn TB (wsV RX0 88 RX2 yX2_withinness (WS yX2_withinness cX2_withinness 9 (some .long))) := good_V mw_249 mw_250 mw_251 mw_2 mw_252
theorem gv_X2_52 : GoodIn TB (wsV RX2 52 RX2 yX2_squareTo (WS yX2_squareTo cX2_squareTo 8 (some .long))) := good_V mw_253 mw_254 mw_255 mw_2 mw_256
theorem gv_X0_106 : GoodIn TB (wsV RX0 106 RX0 yX0_flipSide (WS yX0_flipSide cX0_flipSide 5 none)) := good_V mw_260 mw_261 mw_262 mw_4 mw_263
theorem gv_X0_100 : GoodIn TB (wsV RX0 100 RX0 yX0_removeTriangle (WS yX0_removeTriangle cX0_removeTriangle 6 none)) := good_V mw_264 mw_266 mw_823 mw_4 mw_267
theorem gv_X0_49 : GoodIn TB (wsV RX0 49 RX0 yX0_indexOfCode (WS yX0_indexOfCode cX0_indexOfCode 3 (some .int))) := good_V mw_268 mw_269 mw_270 mw_4 mw_271
theorem gv_X3_85 : GoodIn TB (wsV RX3 85 RX0 yX0_trianglesAt (WS yX0_trianglesAt cX0_trianglesAt 4 (some .int))) := good_V mw_275 mw_276 mw_277 mw_4 mw_278
theorem gv_X3_88 : GoodIn TB (wsV RX3 88 RX1 yX1_trace (WS yX1_trace cX1_trace 3 none)) := good_V mw_279 mw_280 mw_281 mw_3 mw_282
theorem gv_X1_31 : GoodIn TB (wsV RX1 31 RX1 yX1_addCorner (WS yX1_addCorner cX1_addCorner 3 none)) := good_V mw_283 mw_285 mw_824 mw_3 mw_286
theorem gv_X1_35 : GoodIn TB (wsV RX1 35 RX2 yX2_leftness (WS yX2_leftness cX2_leftness 4 (some .long))) := good_V mw_287 mw_202 mw_203 mw_2 mw_204
theorem gv_X3_91 : GoodIn TB (wsV RX3 91 RX1 yX1_hasCorner (WS yX1_hasCorner cX1_hasCorner 3 (some .boolean))) := good_V mw_288 mw_289 mw_290 mw_3 mw_291
theorem gv_L_32 : GoodIn TB (wsV RL 32 RX3 yX3_turn (WS yX3_turn cX3_turn 4 (some .int))) := good_V mw_292 mw_293 mw_294 mw_1 mw_295
theorem gv_X3_94 : GoodIn TB (wsV RX3 94 RX2 yX2_leftness (WS yX2_leftness cX2_leftness 4 (some .long))) := good_V mw_296 mw_202 mw_203 mw_2 mw_204
theorem gs_X3_98 : GoodIn TB (wsS RX3 98 yX3_signOf (WS yX3_signOf cX3_signOf 2 (some .int))) := good_S mw_297 mw_298 mw_1 mw_299
theorem gv_L_36 : GoodIn TB (wsV RL 36 RX3 yX3_round (WS yX3_round cX3_round 5 (some .int))) := good_V mw_300 mw_301 mw_302 mw_1 mw_303
theorem gv_X3_102 : GoodIn TB (wsV RX3 102 RX3 yX3_areAllThere (WS yX3_areAllThere cX3_areAllThere 5 (some .boolean))) := good_V mw_304 mw_306 mw_825 mw_1 mw_307
theorem gv_X3_106 : GoodIn TB (wsV RX3 106 RX2 yX2_withinness (WS yX2_withinness cX2_withinness 9 (some .long))) := good_V mw_308 mw_250 mw_251 mw_2 mw_252
theorem gv_L_41 : GoodIn TB (wsV RL 41 RX3 yX3_hull (WS yX3_hull cX3_hull 1 (some .int))) := good_V mw_309 mw_310 mw_311 mw_1 mw_312
theorem gv_L_46 : GoodIn TB (wsV RL 46 RX3 yX3_corner (WS yX3_corner cX3_corner 2 (some .int))) := good_V mw_313 mw_314 mw_315 mw_1 mw_316
theorem gv_L_50 : GoodIn TB (wsV RL 50 RX3 yX3_area (WS yX3_area cX3_area 1 (some .long))) := good_V mw_317 mw_318 mw_319 mw_1 mw_320
theorem gv_X3_117 : GoodIn TB (wsV RX3 117 RX1 yX1_twiceArea (WS yX1_twiceArea cX1_twiceArea 4 (some .long))) := good_V mw_321 mw_322 mw_323 mw_3 mw_324
theorem gv_L_55 : GoodIn TB (wsV RL 55 RX3 yX3_triangles (WS yX3_triangles cX3_triangles 1 (some .int))) := good_V mw_325 mw_326 mw_327 mw_1 mw_328
theorem gv_L_59 : GoodIn TB (wsV RL 59 RX3 yX3_triangle (WS yX3_triangle cX3_triangle 5 (some .int))) := good_V mw_329 mw_330 mw_331 mw_1 mw_332
theorem gv_X3_122 : GoodIn TB (wsV RX3 122 RX0 yX0_hasTriangle (WS yX0_hasTriangle cX0_hasTriangle 2 (some .boolean))) := good_V mw_333 mw_334 mw_335 mw_4 mw_336
theorem gv_X3_125 : GoodIn TB (wsV RX3 125 RX0 yX0_pointOfTriangle (WS yX0_pointOfTriangle cX0_pointOfTriangle 3 (some .int))) := good_V mw_337 mw_338 mw_339 mw_4 mw_340
theorem gv_X3_128 : GoodIn TB (wsV RX3 128 RX0 yX0_triangleBeyond (WS yX0_triangleBeyond cX0_triangleBeyond 6 (some .int))) := good_V mw_341 mw_342 mw_343 mw_4 mw_344
theorem gv_X0_38 : GoodIn TB (wsV RX0 38 RX0 yX0_pointOfTriangle (WS yX0_pointOfTriangle cX0_pointOfTriangle 3 (some .int))) := good_V mw_345 mw_338 mw_339 mw_4 mw_340
theorem gv_L_63 : GoodIn TB (wsV RL 63 RX3 yX3_ring (WS yX3_ring cX3_ring 8 (some .int))) := good_V mw_346 mw_347 mw_348 mw_1 mw_349
theorem gv_L_67 : GoodIn TB (wsV RL 67 RX3 yX3_edge (WS yX3_edge cX3_edge 3 (some .int))) := good_V mw_350 mw_351 mw_352 mw_1 mw_353
theorem gv_X3_137 : GoodIn TB (wsV RX3 137 RX3 yX3_areTwoPoints (WS yX3_areTwoPoints cX3_areTwoPoints 3 (some .boolean))) := good_V mw_354 mw_356 mw_826 mw_1 mw_357
theorem gv_X3_141 : GoodIn TB (wsV RX3 141 RX0 yX0_hasSide (WS yX0_hasSide cX0_hasSide 3 (some .boolean))) := good_V mw_358 mw_359 mw_360 mw_4 mw_361
theorem gv_L_71 : GoodIn TB (wsV RL 71 RX3 yX3_where (WS yX3_where cX3_where 6 (some .int))) := good_V mw_362 mw_363 mw_364 mw_1 mw_365
theorem gv_X3_144 : GoodIn TB (wsV RX3 144 RX0 yX0_covers (WS yX0_covers cX0_covers 7 (some .boolean))) := good_V mw_366 mw_367 mw_368 mw_4 mw_369
theorem gv_X0_53 : GoodIn TB (wsV RX0 53 RX2 yX2_leftnessOf (WS yX2_leftnessOf cX2_leftnessOf 5 (some .long))) := good_V mw_370 mw_206 mw_207 mw_2 mw_208
theorem gv_L_75 : GoodIn TB (wsV RL 75 RX3 yX3_nearest (WS yX3_nearest cX3_nearest 8 (some .int))) := good_V mw_371 mw_372 mw_373 mw_1 mw_374
theorem gv_X3_151 : GoodIn TB (wsV RX3 151 RX2 yX2_squareTo (WS yX2_squareTo cX2_squareTo 8 (some .long))) := good_V mw_375 mw_254 mw_255 mw_2 mw_256
theorem gv_L_79 : GoodIn TB (wsV RL 79 RX3 yX3_cross (WS yX3_cross cX3_cross 6 (some .int))) := good_V mw_376 mw_377 mw_378 mw_1 mw_379
theorem gv_X3_154 : GoodIn TB (wsV RX3 154 RX2 yX2_isParted (WS yX2_isParted cX2_isParted 9 (some .boolean))) := good_V mw_380 mw_381 mw_382 mw_2 mw_383
theorem gv_X3_157 : GoodIn TB (wsV RX3 157 RX2 yX2_isOnWay (WS yX2_isOnWay cX2_isOnWay 4 (some .boolean))) := good_V mw_384 mw_385 mw_386 mw_2 mw_387
theorem gv_L_83 : GoodIn TB (wsV RL 83 RX3 yX3_around (WS yX3_around cX3_around 4 (some .int))) := good_V mw_390 mw_391 mw_392 mw_1 mw_393
theorem gv_X3_160 : GoodIn TB (wsV RX3 160 RX2 yX2_rankAround (WS yX2_rankAround cX2_rankAround 6 (some .int))) := good_V mw_394 mw_395 mw_396 mw_2 mw_397
theorem gv_X2_64 : GoodIn TB (wsV RX2 64 RX2 yX2_comesEarlierAround (WS yX2_comesEarlierAround cX2_comesEarlierAround 7 (some .boolean))) := good_V mw_398 mw_400 mw_827 mw_2 mw_401
theorem gv_X2_68 : GoodIn TB (wsV RX2 68 RX2 yX2_isInLaterHalf (WS yX2_isInLaterHalf cX2_isInLaterHalf 3 (some .boolean))) := good_V mw_402 mw_404 mw_828 mw_2 mw_405
theorem gv_L_87 : GoodIn TB (wsV RL 87 RX3 yX3_begin (WS yX3_begin cX3_begin 1 (some .int))) := good_V mw_406 mw_407 mw_408 mw_1 mw_409
theorem gv_X3_163 : GoodIn TB (wsV RX3 163 RX2 yX2_areFlat (WS yX2_areFlat cX2_areFlat 1 (some .boolean))) := good_V mw_410 mw_411 mw_412 mw_2 mw_413
theorem gv_X2_44 : GoodIn TB (wsV RX2 44 RX2 yX2_firstOffLine (WS yX2_firstOffLine cX2_firstOffLine 2 (some .int))) := good_V mw_414 mw_198 mw_199 mw_2 mw_200
theorem gv_L_91 : GoodIn TB (wsV RL 91 RX3 yX3_held (WS yX3_held cX3_held 3 (some .int))) := good_V mw_415 mw_416 mw_417 mw_1 mw_418
theorem gv_X3_176 : GoodIn TB (wsV RX3 176 RX3 yX3_isHandReady (WS yX3_isHandReady cX3_isHandReady 1 (some .boolean))) := good_V mw_419 mw_421 mw_829 mw_1 mw_422
theorem gv_L_95 : GoodIn TB (wsV RL 95 RX3 yX3_bad (WS yX3_bad cX3_bad 4 (some .int))) := good_V mw_423 mw_424 mw_425 mw_1 mw_426
theorem gv_X3_179 : GoodIn TB (wsV RX3 179 RX3 yX3_faultOfHandEdge (WS yX3_faultOfHandEdge cX3_faultOfHandEdge 3 (some .int))) := good_V mw_427 mw_429 mw_830 mw_1 mw_430
theorem gv_X3_182 : GoodIn TB (wsV RX3 182 RX0 yX0_isBadSide (WS yX0_isBadSide cX0_isBadSide 7 (some .boolean))) := good_V mw_431 mw_242 mw_243 mw_4 mw_244
theorem gv_X3_185 : GoodIn TB (wsV RX3 185 RX0 yX0_mayFlipSide (WS yX0_mayFlipSide cX0_mayFlipSide 5 (some .boolean))) := good_V mw_432 mw_433 mw_434 mw_4 mw_435
theorem gv_X0_96 : GoodIn TB (wsV RX0 96 RX2 yX2_isParted (WS yX2_isParted cX2_isParted 9 (some .boolean))) := good_V mw_436 mw_381 mw_382 mw_2 mw_383
theorem gv_L_99 : GoodIn TB (wsV RL 99 RX3 yX3_flip (WS yX3_flip cX3_flip 4 (some .int))) := good_V mw_437 mw_438 mw_439 mw_1 mw_440
theorem gv_X3_188 : GoodIn TB (wsV RX3 188 RX0 yX0_flipSide (WS yX0_flipSide cX0_flipSide 5 none)) := good_V mw_441 mw_261 mw_262 mw_4 mw_263
theorem gv_L_103 : GoodIn TB (wsV RL 103 RX3 yX3_settle (WS yX3_settle cX3_settle 3 (some .int))) := good_V mw_442 mw_443 mw_444 mw_1 mw_445
theorem gv_L_107 : GoodIn TB (wsV RL 107 RX3 yX3_alike (WS yX3_alike cX3_alike 4 (some .int))) := good_V mw_446 mw_447 mw_448 mw_1 mw_449
theorem gv_X3_201 : GoodIn TB (wsV RX3 201 RX0 yX0_indexOfCode (WS yX0_indexOfCode cX0_indexOfCode 3 (some .int))) := good_V mw_450 mw_269 mw_270 mw_4 mw_271
theorem gv_L_111 : GoodIn TB (wsV RL 111 RX3 yX3_bads (WS yX3_bads cX3_bads 1 (some .int))) := good_V mw_451 mw_452 mw_453 mw_1 mw_454
theorem gv_X3_204 : GoodIn TB (wsV RX3 204 RX0 yX0_countBadSides (WS yX0_countBadSides cX0_countBadSides 4 (some .int))) := good_V mw_455 mw_456 mw_457 mw_4 mw_458
theorem gv_L_115 : GoodIn TB (wsV RL 115 RX3 yX3_count (WS yX3_count cX3_count 2 (some .int))) := good_V mw_459 mw_460 mw_461 mw_1 mw_462
theorem gv_L_17 : GoodIn TB (wsV RL 17 RX4 yX4_point (WS yX4_point cX4_point 4 (some .int))) := good_V mw_542 mw_543 mw_544 mw_6 mw_545
theorem gv_X4_69 : GoodIn TB (wsV RX4 69 RX4 yX4_wrongPlace (WS yX4_wrongPlace cX4_wrongPlace 3 (some .int))) := good_V mw_546 mw_548 mw_831 mw_6 mw_549
theorem gv_X4_54 : GoodIn TB (wsV RX4 54 RX4 yX4_refuse (WS yX4_refuse cX4_refuse 2 (some .int))) := good_V mw_550 mw_552 mw_832 mw_6 mw_553
theorem gv_X4_73 : GoodIn TB (wsV RX4 73 RX4 yX4_at (WS yX4_at cX4_at 4 (some .int))) := good_V mw_554 mw_556 mw_833 mw_6 mw_557
theorem gv_X4_76 : GoodIn TB (wsV RX4 76 RX4 yX4_changes (WS yX4_changes cX4_changes 1 none)) := good_V mw_558 mw_560 mw_834 mw_6 mw_561
theorem gv_L_22 : GoodIn TB (wsV RL 22 RX4 yX4_drop (WS yX4_drop cX4_drop 2 (some .int))) := good_V mw_562 mw_563 mw_564 mw_6 mw_565
theorem gv_X4_79 : GoodIn TB (wsV RX4 79 RX4 yX4_isPoint (WS yX4_isPoint cX4_isPoint 2 (some .boolean))) := good_V mw_566 mw_568 mw_835 mw_6 mw_569
theorem gv_L_27 : GoodIn TB (wsV RL 27 RX4 yX4_move (WS yX4_move cX4_move 5 (some .int))) := good_V mw_570 mw_571 mw_572 mw_6 mw_573
theorem gv_L_35 : GoodIn TB (wsV RL 35 RX4 yX4_turn (WS yX4_turn cX4_turn 4 (some .int))) := good_V mw_574 mw_575 mw_576 mw_6 mw_577
theorem gv_X4_95 : GoodIn TB (wsV RX4 95 RX4 yX4_turns (WS yX4_turns cX4_turns 4 (some .int))) := good_V mw_578 mw_580 mw_836 mw_6 mw_581
theorem gs_X4_87 : GoodIn TB (wsS RX4 87 yX4_turnOf (WS yX4_turnOf cX4_turnOf 6 (some .int))) := good_S mw_582 mw_583 mw_6 mw_584
theorem gs_X4_83 : GoodIn TB (wsS RX4 83 yX4_sign (WS yX4_sign cX4_sign 2 (some .int))) := good_S mw_585 mw_586 mw_6 mw_587
theorem gv_X4_99 : GoodIn TB (wsV RX4 99 RX4 yX4_refuseFar (WS yX4_refuseFar cX4_refuseFar 2 (some .int))) := good_V mw_588 mw_590 mw_837 mw_6 mw_591
theorem gv_L_40 : GoodIn TB (wsV RL 40 RX4 yX4_round (WS yX4_round cX4_round 5 (some .int))) := good_V mw_593 mw_594 mw_595 mw_6 mw_596
theorem gv_X4_102 : GoodIn TB (wsV RX4 102 RX4 yX4_rounds (WS yX4_rounds cX4_rounds 5 (some .int))) := good_V mw_597 mw_599 mw_838 mw_6 mw_600
theorem gv_X4_91 : GoodIn TB (wsV RX4 91 RX4 yX4_within (WS yX4_within cX4_within 17 (some .int))) := good_V mw_601 mw_603 mw_839 mw_6 mw_604
theorem gv_L_31 : GoodIn TB (wsV RL 31 RX4 yX4_pointOf (WS yX4_pointOf cX4_pointOf 5 (some .int))) := good_V mw_605 mw_606 mw_607 mw_6 mw_608
theorem gv_X4_147 : GoodIn TB (wsV RX4 147 RX4 yX4_know (WS yX4_know cX4_know 1 none)) := good_V mw_609 mw_611 mw_840 mw_6 mw_612
theorem gv_X4_105 : GoodIn TB (wsV RX4 105 RX4 yX4_areFlat (WS yX4_areFlat cX4_areFlat 4 (some .boolean))) := good_V mw_613 mw_615 mw_841 mw_6 mw_616
theorem gv_X4_112 : GoodIn TB (wsV RX4 112 RX4 yX4_findHull (WS yX4_findHull cX4_findHull 4 none)) := good_V mw_617 mw_619 mw_842 mw_6 mw_620
theorem gv_X4_124 : GoodIn TB (wsV RX4 124 RX4 yX4_isAhead (WS yX4_isAhead cX4_isAhead 3 (some .boolean))) := good_V mw_621 mw_623 mw_843 mw_6 mw_624
theorem gv_X4_128 : GoodIn TB (wsV RX4 128 RX4 yX4_nextCorner (WS yX4_nextCorner cX4_nextCorner 5 (some .int))) := good_V mw_625 mw_627 mw_844 mw_6 mw_628
theorem gv_X4_131 : GoodIn TB (wsV RX4 131 RX4 yX4_far (WS yX4_far cX4_far 3 (some .long))) := good_V mw_629 mw_631 mw_845 mw_6 mw_632
theorem gv_X4_135 : GoodIn TB (wsV RX4 135 RX4 yX4_farOf (WS yX4_farOf cX4_farOf 4 (some .long))) := good_V mw_633 mw_635 mw_846 mw_6 mw_636
theorem gv_X4_118 : GoodIn TB (wsV RX4 118 RX4 yX4_findTriangles (WS yX4_findTriangles cX4_findTriangles 4 none)) := good_V mw_637 mw_639 mw_847 mw_6 mw_640
theorem gv_X4_139 : GoodIn TB (wsV RX4 139 RX4 yX4_isDrawn (WS yX4_isDrawn cX4_isDrawn 6 (some .boolean))) := good_V mw_641 mw_643 mw_848 mw_6 mw_644
theorem gv_X4_143 : GoodIn TB (wsV RX4 143 RX4 yX4_addTriangle (WS yX4_addTriangle cX4_addTriangle 4 none)) := good_V mw_645 mw_647 mw_849 mw_6 mw_648
theorem gv_L_45 : GoodIn TB (wsV RL 45 RX4 yX4_hull (WS yX4_hull cX4_hull 1 (some .int))) := good_V mw_649 mw_650 mw_651 mw_6 mw_652
theorem gv_L_49 : GoodIn TB (wsV RL 49 RX4 yX4_corner (WS yX4_corner cX4_corner 2 (some .int))) := good_V mw_653 mw_654 mw_655 mw_6 mw_656
theorem gv_L_54 : GoodIn TB (wsV RL 54 RX4 yX4_area (WS yX4_area cX4_area 6 (some .long))) := good_V mw_657 mw_658 mw_659 mw_6 mw_660
theorem gv_L_58 : GoodIn TB (wsV RL 58 RX4 yX4_triangles (WS yX4_triangles cX4_triangles 1 (some .int))) := good_V mw_661 mw_662 mw_663 mw_6 mw_664
theorem gv_L_62 : GoodIn TB (wsV RL 62 RX4 yX4_triangle (WS yX4_triangle cX4_triangle 6 (some .int))) := good_V mw_665 mw_666 mw_667 mw_6 mw_668
theorem gv_X4_150 : GoodIn TB (wsV RX4 150 RX4 yX4_isTriangle (WS yX4_isTriangle cX4_isTriangle 2 (some .boolean))) := good_V mw_669 mw_671 mw_850 mw_6 mw_672
theorem gv_X4_153 : GoodIn TB (wsV RX4 153 RX4 yX4_cornerOf (WS yX4_cornerOf cX4_cornerOf 3 (some .int))) := good_V mw_673 mw_675 mw_851 mw_6 mw_676
theorem gv_X4_156 : GoodIn TB (wsV RX4 156 RX4 yX4_hasPoint (WS yX4_hasPoint cX4_hasPoint 3 (some .boolean))) := good_V mw_677 mw_679 mw_852 mw_6 mw_680
theorem gv_L_66 : GoodIn TB (wsV RL 66 RX4 yX4_ring (WS yX4_ring cX4_ring 4 (some .int))) := good_V mw_681 mw_682 mw_683 mw_6 mw_684
theorem gv_L_70 : GoodIn TB (wsV RL 70 RX4 yX4_edge (WS yX4_edge cX4_edge 4 (some .int))) := good_V mw_685 mw_686 mw_687 mw_6 mw_688
theorem gv_L_74 : GoodIn TB (wsV RL 74 RX4 yX4_where (WS yX4_where cX4_where 5 (some .int))) := good_V mw_689 mw_690 mw_691 mw_6 mw_692
theorem gv_X4_159 : GoodIn TB (wsV RX4 159 RX4 yX4_isLeft (WS yX4_isLeft cX4_isLeft 5 (some .boolean))) := good_V mw_693 mw_695 mw_853 mw_6 mw_696
theorem gv_L_78 : GoodIn TB (wsV RL 78 RX4 yX4_nearest (WS yX4_nearest cX4_nearest 6 (some .int))) := good_V mw_697 mw_698 mw_699 mw_6 mw_700
theorem gv_L_82 : GoodIn TB (wsV RL 82 RX4 yX4_cross (WS yX4_cross cX4_cross 5 (some .int))) := good_V mw_701 mw_702 mw_703 mw_6 mw_704
theorem gv_X4_171 : GoodIn TB (wsV RX4 171 RX4 yX4_isOn (WS yX4_isOn cX4_isOn 4 (some .boolean))) := good_V mw_705 mw_707 mw_854 mw_6 mw_708
theorem gv_L_86 : GoodIn TB (wsV RL 86 RX4 yX4_around (WS yX4_around cX4_around 6 (some .int))) := good_V mw_711 mw_712 mw_713 mw_6 mw_714
theorem gv_X4_177 : GoodIn TB (wsV RX4 177 RX4 yX4_isBefore (WS yX4_isBefore cX4_isBefore 5 (some .boolean))) := good_V mw_715 mw_717 mw_855 mw_6 mw_718
theorem gv_X4_174 : GoodIn TB (wsV RX4 174 RX4 yX4_isUpper (WS yX4_isUpper cX4_isUpper 3 (some .boolean))) := good_V mw_719 mw_721 mw_856 mw_6 mw_722
theorem gv_L_90 : GoodIn TB (wsV RL 90 RX4 yX4_begin (WS yX4_begin cX4_begin 6 (some .int))) := good_V mw_723 mw_724 mw_725 mw_6 mw_726
theorem gv_X4_189 : GoodIn TB (wsV RX4 189 RX4 yX4_sorted (WS yX4_sorted cX4_sorted 4 none)) := good_V mw_727 mw_729 mw_857 mw_6 mw_730
theorem gv_X4_180 : GoodIn TB (wsV RX4 180 RX4 yX4_holds (WS yX4_holds cX4_holds 5 none)) := good_V mw_731 mw_733 mw_858 mw_6 mw_734
theorem gv_X4_186 : GoodIn TB (wsV RX4 186 RX4 yX4_isBehind (WS yX4_isBehind cX4_isBehind 5 (some .boolean))) := good_V mw_735 mw_737 mw_859 mw_6 mw_738
theorem gv_X4_195 : GoodIn TB (wsV RX4 195 RX4 yX4_here (WS yX4_here cX4_here 3 (some .int))) := good_V mw_739 mw_741 mw_860 mw_6 mw_742
theorem gv_X4_199 : GoodIn TB (wsV RX4 199 RX4 yX4_comes (WS yX4_comes cX4_comes 10 none)) := good_V mw_743 mw_745 mw_861 mw_6 mw_746
theorem gv_L_94 : GoodIn TB (wsV RL 94 RX4 yX4_held (WS yX4_held cX4_held 3 (some .int))) := good_V mw_747 mw_748 mw_749 mw_6 mw_750
theorem gv_X4_206 : GoodIn TB (wsV RX4 206 RX4 yX4_isReady (WS yX4_isReady cX4_isReady 1 (some .boolean))) := good_V mw_751 mw_753 mw_862 mw_6 mw_754
theorem gv_L_98 : GoodIn TB (wsV RL 98 RX4 yX4_bad (WS yX4_bad cX4_bad 3 (some .int))) := good_V mw_755 mw_756 mw_757 mw_6 mw_758
theorem gv_X4_218 : GoodIn TB (wsV RX4 218 RX4 yX4_isEdge (WS yX4_isEdge cX4_isEdge 3 (some .boolean))) := good_V mw_759 mw_761 mw_863 mw_6 mw_762
theorem gv_X4_212 : GoodIn TB (wsV RX4 212 RX4 yX4_handAt (WS yX4_handAt cX4_handAt 6 (some .int))) := good_V mw_763 mw_765 mw_864 mw_6 mw_766
theorem gv_X4_209 : GoodIn TB (wsV RX4 209 RX4 yX4_holdsPoint (WS yX4_holdsPoint cX4_holdsPoint 3 (some .boolean))) := good_V mw_767 mw_769 mw_865 mw_6 mw_770
theorem gv_X4_221 : GoodIn TB (wsV RX4 221 RX4 yX4_badOf (WS yX4_badOf cX4_badOf 10 (some .int))) := good_V mw_771 mw_773 mw_866 mw_6 mw_774
theorem gv_X4_215 : GoodIn TB (wsV RX4 215 RX4 yX4_third (WS yX4_third cX4_third 4 (some .int))) := good_V mw_775 mw_777 mw_867 mw_6 mw_778
theorem gv_L_102 : GoodIn TB (wsV RL 102 RX4 yX4_flip (WS yX4_flip cX4_flip 4 (some .int))) := good_V mw_779 mw_780 mw_781 mw_6 mw_782
theorem gv_X4_230 : GoodIn TB (wsV RX4 230 RX4 yX4_turnsOver (WS yX4_turnsOver cX4_turnsOver 6 none)) := good_V mw_783 mw_785 mw_868 mw_6 mw_786
theorem gv_X4_224 : GoodIn TB (wsV RX4 224 RX4 yX4_takes (WS yX4_takes cX4_takes 3 none)) := good_V mw_787 mw_789 mw_869 mw_6 mw_790
theorem gv_L_106 : GoodIn TB (wsV RL 106 RX4 yX4_settle (WS yX4_settle cX4_settle 3 (some .int))) := good_V mw_791 mw_792 mw_793 mw_6 mw_794
theorem gv_X4_234 : GoodIn TB (wsV RX4 234 RX4 yX4_settles (WS yX4_settles cX4_settles 3 (some .boolean))) := good_V mw_795 mw_797 mw_870 mw_6 mw_798
theorem gv_L_110 : GoodIn TB (wsV RL 110 RX4 yX4_alike (WS yX4_alike cX4_alike 4 (some .int))) := good_V mw_799 mw_800 mw_801 mw_6 mw_802
theorem gv_L_114 : GoodIn TB (wsV RL 114 RX4 yX4_bads (WS yX4_bads cX4_bads 4 (some .int))) := good_V mw_803 mw_804 mw_805 mw_6 mw_806
theorem gv_L_118 : GoodIn TB (wsV RL 118 RX4 yX4_count (WS yX4_count cX4_count 2 (some .int))) := good_V mw_807 mw_808 mw_809 mw_6 mw_810
