/-! the words that the calls and fields rest on -/
theorem kr_cl0 : kr_cls 0 RX0 TX0 4 := ⟨rfl, by decide +kernel, rfl, ⟨_, tyX0_ok⟩, nmX0⟩
theorem kr_cl1 : kr_cls 1 RX1 TX1 8 := ⟨rfl, by decide +kernel, rfl, ⟨_, tyX1_ok⟩, nmX1⟩
theorem kr_cl2 : kr_cls 2 RX2 TX2 10 := ⟨rfl, by decide +kernel, rfl, ⟨_, tyX2_ok⟩, nmX2⟩
theorem kr_cl3 : kr_cls 3 RX3 TX3 18 := ⟨rfl, by decide +kernel, rfl, ⟨_, tyX3_ok⟩, nmX3⟩
theorem kr_cl4 : kr_cls 4 RX4 TX4 3 := ⟨rfl, by decide +kernel, rfl, ⟨_, tyX4_ok⟩, nmX4⟩
theorem kr_cl5 : kr_cls 5 RX5 TX5 3 := ⟨rfl, by decide +kernel, rfl, ⟨_, tyX5_ok⟩, nmX5⟩
theorem kr_cl6 : kr_cls 6 RX6 TX6 2 := ⟨rfl, by decide +kernel, rfl, ⟨_, tyX6_ok⟩, nmX6⟩
theorem kr_cl7 : kr_cls 7 RX7 TX7 8 := ⟨rfl, by decide +kernel, rfl, ⟨_, tyX7_ok⟩, nmX7⟩
theorem kr_cl8 : kr_cls 8 RX8 TX8 3 := ⟨rfl, by decide +kernel, rfl, ⟨_, tyX8_ok⟩, nmX8⟩
theorem kr_cl9 : kr_cls 9 RX9 TX9 12 := ⟨rfl, by decide +kernel, rfl, ⟨_, tyX9_ok⟩, nmX9⟩
theorem kr_cl10 : kr_cls 10 RX10 TX10 45 := ⟨rfl, by decide +kernel, rfl, ⟨_, tyX10_ok⟩, nmX10⟩
theorem kr_ty3 : ∀ j, kr_ty 3 j = 3 → j = 14 := by
  intro j h
  rcases Nat.lt_or_ge j 18 with hj | hj
  · have key : ∀ j, j < 18 → kr_ty 3 j = 3 → j = 14 := by decide +kernel
    exact key j hj h
  · have key : ∀ (l : List Nat) (j : Nat), l.length ≤ j → kr_nth 0 l j = 0 := by
      intro l
      induction l with
      | nil => intro j _; rfl
      | cons a l ih =>
        intro j hj
        cases j with
        | zero => simp at hj
        | succ j => exact ih j (by simpa using hj)
    rw [show kr_ty 3 j = 0 from key _ j hj] at h
    cases h
theorem kr_w_f_ChalkRoads_10 : Cond.fieldLink RX9 10 (TX9 0).1 (TX9 0).2.1 (TX9 0).2.2.1 ∈ kr_gw := kr_gm (i := 376) (by decide +kernel) rfl
theorem kr_w_f_ChalkRoads_19 : Cond.fieldLink RX9 19 (TX9 1).1 (TX9 1).2.1 (TX9 1).2.2.1 ∈ kr_gw := kr_gm (i := 377) (by decide +kernel) rfl
theorem kr_w_f_ChalkRoads_28 : Cond.fieldLink RX9 28 (TX9 2).1 (TX9 2).2.1 (TX9 2).2.2.1 ∈ kr_gw := kr_gm (i := 378) (by decide +kernel) rfl
theorem kr_w_f_ChalkRoads_37 : Cond.fieldLink RX9 37 (TX9 3).1 (TX9 3).2.1 (TX9 3).2.2.1 ∈ kr_gw := kr_gm (i := 379) (by decide +kernel) rfl
theorem kr_w_f_ChalkRoads_46 : Cond.fieldLink RX9 46 (TX9 4).1 (TX9 4).2.1 (TX9 4).2.2.1 ∈ kr_gw := kr_gm (i := 380) (by decide +kernel) rfl
theorem kr_w_f_ChalkRoads_53 : Cond.fieldLink RX9 53 (TX9 5).1 (TX9 5).2.1 (TX9 5).2.2.1 ∈ kr_gw := kr_gm (i := 381) (by decide +kernel) rfl
theorem kr_w_f_ChalkRoads_60 : Cond.fieldLink RX9 60 (TX9 6).1 (TX9 6).2.1 (TX9 6).2.2.1 ∈ kr_gw := kr_gm (i := 382) (by decide +kernel) rfl
theorem kr_w_f_ChalkRoads_67 : Cond.fieldLink RX9 67 (TX9 7).1 (TX9 7).2.1 (TX9 7).2.2.1 ∈ kr_gw := kr_gm (i := 383) (by decide +kernel) rfl
theorem kr_w_f_ChalkRoads_74 : Cond.fieldLink RX9 74 (TX9 8).1 (TX9 8).2.1 (TX9 8).2.2.1 ∈ kr_gw := kr_gm (i := 384) (by decide +kernel) rfl
theorem kr_w_f_ChalkRoads_78 : Cond.fieldLink RX9 78 (TX9 9).1 (TX9 9).2.1 (TX9 9).2.2.1 ∈ kr_gw := kr_gm (i := 385) (by decide +kernel) rfl
theorem kr_w_f_ChalkRoads_82 : Cond.fieldLink RX9 82 (TX9 10).1 (TX9 10).2.1 (TX9 10).2.2.1 ∈ kr_gw := kr_gm (i := 386) (by decide +kernel) rfl
theorem kr_w_f_ChalkRoads_86 : Cond.fieldLink RX9 86 (TX9 11).1 (TX9 11).2.1 (TX9 11).2.2.1 ∈ kr_gw := kr_gm (i := 387) (by decide +kernel) rfl
theorem kr_w_f_ChalkRoads_101 : Cond.fieldLink RX9 101 (TX2 4).1 (TX2 4).2.1 (TX2 4).2.2.1 ∈ kr_gw := kr_gm (i := 208) (by decide +kernel) rfl
theorem kr_w_f_ChalkRoads_104 : Cond.fieldLink RX9 104 (TX2 1).1 (TX2 1).2.1 (TX2 1).2.2.1 ∈ kr_gw := kr_gm (i := 202) (by decide +kernel) rfl
theorem kr_w_f_ChalkRoads_110 : Cond.fieldLink RX9 110 (TX2 2).1 (TX2 2).2.1 (TX2 2).2.2.1 ∈ kr_gw := kr_gm (i := 204) (by decide +kernel) rfl
theorem kr_w_f_ChalkRoads_113 : Cond.fieldLink RX9 113 (TX2 3).1 (TX2 3).2.1 (TX2 3).2.2.1 ∈ kr_gw := kr_gm (i := 206) (by decide +kernel) rfl
theorem kr_w_f_ChalkRoads_116 : Cond.fieldLink RX9 116 (TX3 0).1 (TX3 0).2.1 (TX3 0).2.2.1 ∈ kr_gw := kr_gm (i := 84) (by decide +kernel) rfl
theorem kr_w_f_ChalkRoads_119 : Cond.fieldLink RX9 119 (TX3 2).1 (TX3 2).2.1 (TX3 2).2.2.1 ∈ kr_gw := kr_gm (i := 94) (by decide +kernel) rfl
theorem kr_w_f_ChalkRoads_122 : Cond.fieldLink RX9 122 (TX3 8).1 (TX3 8).2.1 (TX3 8).2.2.1 ∈ kr_gw := kr_gm (i := 113) (by decide +kernel) rfl
theorem kr_w_f_ChalkRoads_125 : Cond.fieldLink RX9 125 (TX3 10).1 (TX3 10).2.1 (TX3 10).2.2.1 ∈ kr_gw := kr_gm (i := 120) (by decide +kernel) rfl
theorem kr_w_f_ChalkRoads_128 : Cond.fieldLink RX9 128 (TX3 1).1 (TX3 1).2.1 (TX3 1).2.2.1 ∈ kr_gw := kr_gm (i := 86) (by decide +kernel) rfl
theorem kr_w_f_ChalkRoads_135 : Cond.fieldLink RX9 135 (TX3 3).1 (TX3 3).2.1 (TX3 3).2.2.1 ∈ kr_gw := kr_gm (i := 97) (by decide +kernel) rfl
theorem kr_w_f_ChalkRoads_139 : Cond.fieldLink RX9 139 (TX3 4).1 (TX3 4).2.1 (TX3 4).2.2.1 ∈ kr_gw := kr_gm (i := 100) (by decide +kernel) rfl
theorem kr_w_f_ChalkRoads_142 : Cond.fieldLink RX9 142 (TX3 5).1 (TX3 5).2.1 (TX3 5).2.2.1 ∈ kr_gw := kr_gm (i := 105) (by decide +kernel) rfl
theorem kr_w_f_ChalkRoads_145 : Cond.fieldLink RX9 145 (TX3 6).1 (TX3 6).2.1 (TX3 6).2.2.1 ∈ kr_gw := kr_gm (i := 108) (by decide +kernel) rfl
theorem kr_w_f_ChalkRoads_158 : Cond.fieldLink RX9 158 (TX3 9).1 (TX3 9).2.1 (TX3 9).2.2.1 ∈ kr_gw := kr_gm (i := 117) (by decide +kernel) rfl
theorem kr_w_f_ChalkRoads_164 : Cond.fieldLink RX9 164 (TX3 11).1 (TX3 11).2.1 (TX3 11).2.2.1 ∈ kr_gw := kr_gm (i := 124) (by decide +kernel) rfl
theorem kr_w_f_ChalkRoads_167 : Cond.fieldLink RX9 167 (TX3 12).1 (TX3 12).2.1 (TX3 12).2.2.1 ∈ kr_gw := kr_gm (i := 127) (by decide +kernel) rfl
theorem kr_w_f_ChalkRoads_170 : Cond.fieldLink RX9 170 (TX3 13).1 (TX3 13).2.1 (TX3 13).2.2.1 ∈ kr_gw := kr_gm (i := 130) (by decide +kernel) rfl
theorem kr_w_f_ChalkRoads_239 : Cond.fieldLink RX9 239 (TX7 3).1 (TX7 3).2.1 (TX7 3).2.2.1 ∈ kr_gw := kr_gm (i := 262) (by decide +kernel) rfl
theorem kr_w_f_ChalkRoads_242 : Cond.fieldLink RX9 242 (TX7 2).1 (TX7 2).2.1 (TX7 2).2.2.1 ∈ kr_gw := kr_gm (i := 260) (by decide +kernel) rfl
theorem kr_w_f_ChalkRoads_245 : Cond.fieldLink RX9 245 (TX7 7).1 (TX7 7).2.1 (TX7 7).2.2.1 ∈ kr_gw := kr_gm (i := 268) (by decide +kernel) rfl
theorem kr_w_f_ChalkRoads_248 : Cond.fieldLink RX9 248 (TX7 6).1 (TX7 6).2.1 (TX7 6).2.2.1 ∈ kr_gw := kr_gm (i := 266) (by decide +kernel) rfl
theorem kr_w_f_ChalkRoads_273 : Cond.fieldLink RX9 273 (TX4 2).1 (TX4 2).2.1 (TX4 2).2.2.1 ∈ kr_gw := kr_gm (i := 314) (by decide +kernel) rfl
theorem kr_w_f_ChalkRoads_279 : Cond.fieldLink RX9 279 (TX3 15).1 (TX3 15).2.1 (TX3 15).2.2.1 ∈ kr_gw := kr_gm (i := 134) (by decide +kernel) rfl
theorem kr_w_f_ChalkRoads_285 : Cond.fieldLink RX9 285 (TX1 1).1 (TX1 1).2.1 (TX1 1).2.2.1 ∈ kr_gw := kr_gm (i := 330) (by decide +kernel) rfl
theorem kr_w_f_ChalkRoads_288 : Cond.fieldLink RX9 288 (TX1 4).1 (TX1 4).2.1 (TX1 4).2.2.1 ∈ kr_gw := kr_gm (i := 336) (by decide +kernel) rfl
theorem kr_w_f_ChalkRoads_291 : Cond.fieldLink RX9 291 (TX1 2).1 (TX1 2).2.1 (TX1 2).2.2.1 ∈ kr_gw := kr_gm (i := 332) (by decide +kernel) rfl
theorem kr_w_f_ChalkRoads_294 : Cond.fieldLink RX9 294 (TX1 3).1 (TX1 3).2.1 (TX1 3).2.2.1 ∈ kr_gw := kr_gm (i := 334) (by decide +kernel) rfl
theorem kr_w_f_ChalkRoads_297 : Cond.fieldLink RX9 297 (TX1 5).1 (TX1 5).2.1 (TX1 5).2.2.1 ∈ kr_gw := kr_gm (i := 338) (by decide +kernel) rfl
theorem kr_w_f_ChalkRoads_303 : Cond.fieldLink RX9 303 (TX1 6).1 (TX1 6).2.1 (TX1 6).2.2.1 ∈ kr_gw := kr_gm (i := 340) (by decide +kernel) rfl
theorem kr_w_f_ChalkRoads_340 : Cond.fieldLink RX9 340 (TX6 1).1 (TX6 1).2.1 (TX6 1).2.2.1 ∈ kr_gw := kr_gm (i := 186) (by decide +kernel) rfl
theorem kr_w_f_Dawn_9 : Cond.fieldLink RX0 9 (TX0 0).1 (TX0 0).2.1 (TX0 0).2.2.1 ∈ kr_gw := kr_gm (i := 292) (by decide +kernel) rfl
theorem kr_w_f_Dawn_15 : Cond.fieldLink RX0 15 (TX0 1).1 (TX0 1).2.1 (TX0 1).2.2.1 ∈ kr_gw := kr_gm (i := 293) (by decide +kernel) rfl
theorem kr_w_f_Dawn_23 : Cond.fieldLink RX0 23 (TX0 2).1 (TX0 2).2.1 (TX0 2).2.2.1 ∈ kr_gw := kr_gm (i := 294) (by decide +kernel) rfl
theorem kr_w_f_Dawn_27 : Cond.fieldLink RX0 27 (TX0 3).1 (TX0 3).2.1 (TX0 3).2.2.1 ∈ kr_gw := kr_gm (i := 295) (by decide +kernel) rfl
theorem kr_w_f_Guess_9 : Cond.fieldLink RX1 9 (TX1 0).1 (TX1 0).2.1 (TX1 0).2.2.1 ∈ kr_gw := kr_gm (i := 328) (by decide +kernel) rfl
theorem kr_w_f_Guess_15 : Cond.fieldLink RX1 15 (TX1 7).1 (TX1 7).2.1 (TX1 7).2.2.1 ∈ kr_gw := kr_gm (i := 341) (by decide +kernel) rfl
theorem kr_w_f_Guess_19 : Cond.fieldLink RX1 19 (TX1 1).1 (TX1 1).2.1 (TX1 1).2.2.1 ∈ kr_gw := kr_gm (i := 329) (by decide +kernel) rfl
theorem kr_w_f_Guess_23 : Cond.fieldLink RX1 23 (TX1 2).1 (TX1 2).2.1 (TX1 2).2.2.1 ∈ kr_gw := kr_gm (i := 331) (by decide +kernel) rfl
theorem kr_w_f_Guess_26 : Cond.fieldLink RX1 26 (TX1 3).1 (TX1 3).2.1 (TX1 3).2.2.1 ∈ kr_gw := kr_gm (i := 333) (by decide +kernel) rfl
theorem kr_w_f_Guess_29 : Cond.fieldLink RX1 29 (TX1 4).1 (TX1 4).2.1 (TX1 4).2.2.1 ∈ kr_gw := kr_gm (i := 335) (by decide +kernel) rfl
theorem kr_w_f_Guess_38 : Cond.fieldLink RX1 38 (TX1 5).1 (TX1 5).2.1 (TX1 5).2.2.1 ∈ kr_gw := kr_gm (i := 337) (by decide +kernel) rfl
theorem kr_w_f_Guess_41 : Cond.fieldLink RX1 41 (TX1 6).1 (TX1 6).2.1 (TX1 6).2.2.1 ∈ kr_gw := kr_gm (i := 339) (by decide +kernel) rfl
theorem kr_w_f_Guess_52 : Cond.fieldLink RX1 52 (TX3 15).1 (TX3 15).2.1 (TX3 15).2.2.1 ∈ kr_gw := kr_gm (i := 133) (by decide +kernel) rfl
theorem kr_w_f_Guess_55 : Cond.fieldLink RX1 55 (TX3 16).1 (TX3 16).2.1 (TX3 16).2.2.1 ∈ kr_gw := kr_gm (i := 136) (by decide +kernel) rfl
theorem kr_w_f_Guess_58 : Cond.fieldLink RX1 58 (TX3 17).1 (TX3 17).2.1 (TX3 17).2.2.1 ∈ kr_gw := kr_gm (i := 138) (by decide +kernel) rfl
theorem kr_w_f_Guess_65 : Cond.fieldLink RX1 65 (TX3 2).1 (TX3 2).2.1 (TX3 2).2.2.1 ∈ kr_gw := kr_gm (i := 91) (by decide +kernel) rfl
theorem kr_w_f_Reader_9 : Cond.fieldLink RX2 9 (TX2 0).1 (TX2 0).2.1 (TX2 0).2.2.1 ∈ kr_gw := kr_gm (i := 200) (by decide +kernel) rfl
theorem kr_w_f_Reader_18 : Cond.fieldLink RX2 18 (TX2 1).1 (TX2 1).2.1 (TX2 1).2.2.1 ∈ kr_gw := kr_gm (i := 201) (by decide +kernel) rfl
theorem kr_w_f_Reader_25 : Cond.fieldLink RX2 25 (TX2 2).1 (TX2 2).2.1 (TX2 2).2.2.1 ∈ kr_gw := kr_gm (i := 203) (by decide +kernel) rfl
theorem kr_w_f_Reader_29 : Cond.fieldLink RX2 29 (TX2 3).1 (TX2 3).2.1 (TX2 3).2.2.1 ∈ kr_gw := kr_gm (i := 205) (by decide +kernel) rfl
theorem kr_w_f_Reader_32 : Cond.fieldLink RX2 32 (TX2 4).1 (TX2 4).2.1 (TX2 4).2.2.1 ∈ kr_gw := kr_gm (i := 207) (by decide +kernel) rfl
theorem kr_w_f_Reader_35 : Cond.fieldLink RX2 35 (TX2 5).1 (TX2 5).2.1 (TX2 5).2.2.1 ∈ kr_gw := kr_gm (i := 209) (by decide +kernel) rfl
theorem kr_w_f_Reader_39 : Cond.fieldLink RX2 39 (TX2 8).1 (TX2 8).2.1 (TX2 8).2.2.1 ∈ kr_gw := kr_gm (i := 212) (by decide +kernel) rfl
theorem kr_w_f_Reader_52 : Cond.fieldLink RX2 52 (TX3 0).1 (TX3 0).2.1 (TX3 0).2.2.1 ∈ kr_gw := kr_gm (i := 83) (by decide +kernel) rfl
theorem kr_w_f_Reader_55 : Cond.fieldLink RX2 55 (TX6 1).1 (TX6 1).2.1 (TX6 1).2.2.1 ∈ kr_gw := kr_gm (i := 185) (by decide +kernel) rfl
theorem kr_w_f_Reader_65 : Cond.fieldLink RX2 65 (TX2 6).1 (TX2 6).2.1 (TX2 6).2.2.1 ∈ kr_gw := kr_gm (i := 210) (by decide +kernel) rfl
theorem kr_w_f_Reader_101 : Cond.fieldLink RX2 101 (TX2 7).1 (TX2 7).2.1 (TX2 7).2.2.1 ∈ kr_gw := kr_gm (i := 211) (by decide +kernel) rfl
theorem kr_w_f_Reader_107 : Cond.fieldLink RX2 107 (TX2 9).1 (TX2 9).2.1 (TX2 9).2.2.1 ∈ kr_gw := kr_gm (i := 213) (by decide +kernel) rfl
theorem kr_w_f_Reader_121 : Cond.fieldLink RX2 121 (TX3 2).1 (TX3 2).2.1 (TX3 2).2.2.1 ∈ kr_gw := kr_gm (i := 92) (by decide +kernel) rfl
theorem kr_w_f_Reader_133 : Cond.fieldLink RX2 133 (TX3 7).1 (TX3 7).2.1 (TX3 7).2.2.1 ∈ kr_gw := kr_gm (i := 110) (by decide +kernel) rfl
theorem kr_w_f_Reader_136 : Cond.fieldLink RX2 136 (TX3 8).1 (TX3 8).2.1 (TX3 8).2.2.1 ∈ kr_gw := kr_gm (i := 114) (by decide +kernel) rfl
theorem kr_w_f_Reader_143 : Cond.fieldLink RX2 143 (TX3 10).1 (TX3 10).2.1 (TX3 10).2.2.1 ∈ kr_gw := kr_gm (i := 121) (by decide +kernel) rfl
theorem kr_w_f_Rock_9 : Cond.fieldLink RX3 9 (TX3 3).1 (TX3 3).2.1 (TX3 3).2.2.1 ∈ kr_gw := kr_gm (i := 95) (by decide +kernel) rfl
theorem kr_w_f_Rock_15 : Cond.fieldLink RX3 15 (TX3 4).1 (TX3 4).2.1 (TX3 4).2.2.1 ∈ kr_gw := kr_gm (i := 98) (by decide +kernel) rfl
theorem kr_w_f_Rock_18 : Cond.fieldLink RX3 18 (TX3 5).1 (TX3 5).2.1 (TX3 5).2.2.1 ∈ kr_gw := kr_gm (i := 101) (by decide +kernel) rfl
theorem kr_w_f_Rock_21 : Cond.fieldLink RX3 21 (TX3 6).1 (TX3 6).2.1 (TX3 6).2.2.1 ∈ kr_gw := kr_gm (i := 106) (by decide +kernel) rfl
theorem kr_w_f_Rock_24 : Cond.fieldLink RX3 24 (TX3 9).1 (TX3 9).2.1 (TX3 9).2.2.1 ∈ kr_gw := kr_gm (i := 115) (by decide +kernel) rfl
theorem kr_w_f_Rock_27 : Cond.fieldLink RX3 27 (TX3 11).1 (TX3 11).2.1 (TX3 11).2.2.1 ∈ kr_gw := kr_gm (i := 122) (by decide +kernel) rfl
theorem kr_w_f_Rock_30 : Cond.fieldLink RX3 30 (TX3 12).1 (TX3 12).2.1 (TX3 12).2.2.1 ∈ kr_gw := kr_gm (i := 125) (by decide +kernel) rfl
theorem kr_w_f_Rock_33 : Cond.fieldLink RX3 33 (TX3 13).1 (TX3 13).2.1 (TX3 13).2.2.1 ∈ kr_gw := kr_gm (i := 128) (by decide +kernel) rfl
theorem kr_w_f_Rock_36 : Cond.fieldLink RX3 36 (TX3 16).1 (TX3 16).2.1 (TX3 16).2.2.1 ∈ kr_gw := kr_gm (i := 135) (by decide +kernel) rfl
theorem kr_w_f_Rock_39 : Cond.fieldLink RX3 39 (TX3 0).1 (TX3 0).2.1 (TX3 0).2.2.1 ∈ kr_gw := kr_gm (i := 82) (by decide +kernel) rfl
theorem kr_w_f_Rock_43 : Cond.fieldLink RX3 43 (TX3 1).1 (TX3 1).2.1 (TX3 1).2.2.1 ∈ kr_gw := kr_gm (i := 85) (by decide +kernel) rfl
theorem kr_w_f_Rock_46 : Cond.fieldLink RX3 46 (TX3 2).1 (TX3 2).2.1 (TX3 2).2.2.1 ∈ kr_gw := kr_gm (i := 88) (by decide +kernel) rfl
theorem kr_w_f_Rock_49 : Cond.fieldLink RX3 49 (TX3 7).1 (TX3 7).2.1 (TX3 7).2.2.1 ∈ kr_gw := kr_gm (i := 109) (by decide +kernel) rfl
theorem kr_w_f_Rock_52 : Cond.fieldLink RX3 52 (TX3 8).1 (TX3 8).2.1 (TX3 8).2.2.1 ∈ kr_gw := kr_gm (i := 112) (by decide +kernel) rfl
theorem kr_w_f_Rock_55 : Cond.fieldLink RX3 55 (TX3 10).1 (TX3 10).2.1 (TX3 10).2.2.1 ∈ kr_gw := kr_gm (i := 118) (by decide +kernel) rfl
theorem kr_w_f_Rock_58 : Cond.fieldLink RX3 58 (TX3 14).1 (TX3 14).2.1 (TX3 14).2.2.1 ∈ kr_gw := kr_gm (i := 131) (by decide +kernel) rfl
theorem kr_w_f_Rock_62 : Cond.fieldLink RX3 62 (TX3 15).1 (TX3 15).2.1 (TX3 15).2.2.1 ∈ kr_gw := kr_gm (i := 132) (by decide +kernel) rfl
theorem kr_w_f_Rock_65 : Cond.fieldLink RX3 65 (TX3 17).1 (TX3 17).2.1 (TX3 17).2.2.1 ∈ kr_gw := kr_gm (i := 137) (by decide +kernel) rfl
theorem kr_w_f_Sharing_9 : Cond.fieldLink RX4 9 (TX4 0).1 (TX4 0).2.1 (TX4 0).2.2.1 ∈ kr_gw := kr_gm (i := 311) (by decide +kernel) rfl
theorem kr_w_f_Sharing_15 : Cond.fieldLink RX4 15 (TX4 1).1 (TX4 1).2.1 (TX4 1).2.2.1 ∈ kr_gw := kr_gm (i := 312) (by decide +kernel) rfl
theorem kr_w_f_Sharing_19 : Cond.fieldLink RX4 19 (TX4 2).1 (TX4 2).2.1 (TX4 2).2.2.1 ∈ kr_gw := kr_gm (i := 313) (by decide +kernel) rfl
theorem kr_w_f_Sharing_22 : Cond.fieldLink RX4 22 (TX3 8).1 (TX3 8).2.1 (TX3 8).2.2.1 ∈ kr_gw := kr_gm (i := 111) (by decide +kernel) rfl
theorem kr_w_f_Sharing_41 : Cond.fieldLink RX4 41 (TX3 9).1 (TX3 9).2.1 (TX3 9).2.2.1 ∈ kr_gw := kr_gm (i := 116) (by decide +kernel) rfl
theorem kr_w_f_Sharing_51 : Cond.fieldLink RX4 51 (TX3 2).1 (TX3 2).2.1 (TX3 2).2.2.1 ∈ kr_gw := kr_gm (i := 90) (by decide +kernel) rfl
theorem kr_w_f_Sharing_54 : Cond.fieldLink RX4 54 (TX3 5).1 (TX3 5).2.1 (TX3 5).2.2.1 ∈ kr_gw := kr_gm (i := 102) (by decide +kernel) rfl
theorem kr_w_f_Sheets_11 : Cond.fieldLink RX5 11 (TX5 0).1 (TX5 0).2.1 (TX5 0).2.2.1 ∈ kr_gw := kr_gm (i := 365) (by decide +kernel) rfl
theorem kr_w_f_Sheets_15 : Cond.fieldLink RX5 15 (TX5 1).1 (TX5 1).2.1 (TX5 1).2.2.1 ∈ kr_gw := kr_gm (i := 366) (by decide +kernel) rfl
theorem kr_w_f_Sheets_18 : Cond.fieldLink RX5 18 (TX5 2).1 (TX5 2).2.1 (TX5 2).2.2.1 ∈ kr_gw := kr_gm (i := 367) (by decide +kernel) rfl
theorem kr_w_f_Tape_11 : Cond.fieldLink RX6 11 (TX6 0).1 (TX6 0).2.1 (TX6 0).2.2.1 ∈ kr_gw := kr_gm (i := 183) (by decide +kernel) rfl
theorem kr_w_f_Tape_15 : Cond.fieldLink RX6 15 (TX6 1).1 (TX6 1).2.1 (TX6 1).2.2.1 ∈ kr_gw := kr_gm (i := 184) (by decide +kernel) rfl
theorem kr_w_f_Walk_9 : Cond.fieldLink RX7 9 (TX7 0).1 (TX7 0).2.1 (TX7 0).2.2.1 ∈ kr_gw := kr_gm (i := 257) (by decide +kernel) rfl
theorem kr_w_f_Walk_15 : Cond.fieldLink RX7 15 (TX7 1).1 (TX7 1).2.1 (TX7 1).2.2.1 ∈ kr_gw := kr_gm (i := 258) (by decide +kernel) rfl
theorem kr_w_f_Walk_19 : Cond.fieldLink RX7 19 (TX7 2).1 (TX7 2).2.1 (TX7 2).2.2.1 ∈ kr_gw := kr_gm (i := 259) (by decide +kernel) rfl
theorem kr_w_f_Walk_23 : Cond.fieldLink RX7 23 (TX7 3).1 (TX7 3).2.1 (TX7 3).2.2.1 ∈ kr_gw := kr_gm (i := 261) (by decide +kernel) rfl
theorem kr_w_f_Walk_26 : Cond.fieldLink RX7 26 (TX7 4).1 (TX7 4).2.1 (TX7 4).2.2.1 ∈ kr_gw := kr_gm (i := 263) (by decide +kernel) rfl
theorem kr_w_f_Walk_29 : Cond.fieldLink RX7 29 (TX7 5).1 (TX7 5).2.1 (TX7 5).2.2.1 ∈ kr_gw := kr_gm (i := 264) (by decide +kernel) rfl
theorem kr_w_f_Walk_32 : Cond.fieldLink RX7 32 (TX7 6).1 (TX7 6).2.1 (TX7 6).2.2.1 ∈ kr_gw := kr_gm (i := 265) (by decide +kernel) rfl
theorem kr_w_f_Walk_35 : Cond.fieldLink RX7 35 (TX7 7).1 (TX7 7).2.1 (TX7 7).2.2.1 ∈ kr_gw := kr_gm (i := 267) (by decide +kernel) rfl
theorem kr_w_f_Walk_43 : Cond.fieldLink RX7 43 (TX3 6).1 (TX3 6).2.1 (TX3 6).2.2.1 ∈ kr_gw := kr_gm (i := 107) (by decide +kernel) rfl
theorem kr_w_f_Walk_54 : Cond.fieldLink RX7 54 (TX3 11).1 (TX3 11).2.1 (TX3 11).2.2.1 ∈ kr_gw := kr_gm (i := 123) (by decide +kernel) rfl
theorem kr_w_f_Walk_64 : Cond.fieldLink RX7 64 (TX3 10).1 (TX3 10).2.1 (TX3 10).2.2.1 ∈ kr_gw := kr_gm (i := 119) (by decide +kernel) rfl
theorem kr_w_f_Walk_76 : Cond.fieldLink RX7 76 (TX3 2).1 (TX3 2).2.1 (TX3 2).2.2.1 ∈ kr_gw := kr_gm (i := 89) (by decide +kernel) rfl
theorem kr_w_f_Walk_87 : Cond.fieldLink RX7 87 (TX3 12).1 (TX3 12).2.1 (TX3 12).2.2.1 ∈ kr_gw := kr_gm (i := 126) (by decide +kernel) rfl
theorem kr_w_f_Walk_90 : Cond.fieldLink RX7 90 (TX3 13).1 (TX3 13).2.1 (TX3 13).2.2.1 ∈ kr_gw := kr_gm (i := 129) (by decide +kernel) rfl
theorem kr_w_f_Walk_110 : Cond.fieldLink RX7 110 (TX3 5).1 (TX3 5).2.1 (TX3 5).2.2.1 ∈ kr_gw := kr_gm (i := 104) (by decide +kernel) rfl
theorem kr_w_f_Ways_9 : Cond.fieldLink RX8 9 (TX8 0).1 (TX8 0).2.1 (TX8 0).2.2.1 ∈ kr_gw := kr_gm (i := 241) (by decide +kernel) rfl
theorem kr_w_f_Ways_15 : Cond.fieldLink RX8 15 (TX8 1).1 (TX8 1).2.1 (TX8 1).2.2.1 ∈ kr_gw := kr_gm (i := 242) (by decide +kernel) rfl
theorem kr_w_f_Ways_19 : Cond.fieldLink RX8 19 (TX8 2).1 (TX8 2).2.1 (TX8 2).2.2.1 ∈ kr_gw := kr_gm (i := 243) (by decide +kernel) rfl
theorem kr_w_f_Ways_37 : Cond.fieldLink RX8 37 (TX3 2).1 (TX3 2).2.1 (TX3 2).2.2.1 ∈ kr_gw := kr_gm (i := 93) (by decide +kernel) rfl
theorem kr_w_f_Ways_45 : Cond.fieldLink RX8 45 (TX3 3).1 (TX3 3).2.1 (TX3 3).2.2.1 ∈ kr_gw := kr_gm (i := 96) (by decide +kernel) rfl
theorem kr_w_f_Ways_48 : Cond.fieldLink RX8 48 (TX3 4).1 (TX3 4).2.1 (TX3 4).2.2.1 ∈ kr_gw := kr_gm (i := 99) (by decide +kernel) rfl
theorem kr_w_f_Ways_55 : Cond.fieldLink RX8 55 (TX3 5).1 (TX3 5).2.1 (TX3 5).2.2.1 ∈ kr_gw := kr_gm (i := 103) (by decide +kernel) rfl
theorem kr_w_f_Ways_66 : Cond.fieldLink RX8 66 (TX3 1).1 (TX3 1).2.1 (TX3 1).2.2.1 ∈ kr_gw := kr_gm (i := 87) (by decide +kernel) rfl
theorem kr_w_f_ChalkRoadsModel_7 : Cond.fieldLink RX10 7 (TX10 0).1 (TX10 0).2.1 (TX10 0).2.2.1 ∈ kr_gw := kr_gm (i := 1048) (by decide +kernel) rfl
theorem kr_w_f_ChalkRoadsModel_13 : Cond.fieldLink RX10 13 (TX10 1).1 (TX10 1).2.1 (TX10 1).2.2.1 ∈ kr_gw := kr_gm (i := 1049) (by decide +kernel) rfl
theorem kr_w_f_ChalkRoadsModel_17 : Cond.fieldLink RX10 17 (TX10 5).1 (TX10 5).2.1 (TX10 5).2.2.1 ∈ kr_gw := kr_gm (i := 1053) (by decide +kernel) rfl
theorem kr_w_f_ChalkRoadsModel_20 : Cond.fieldLink RX10 20 (TX10 6).1 (TX10 6).2.1 (TX10 6).2.2.1 ∈ kr_gw := kr_gm (i := 1054) (by decide +kernel) rfl
theorem kr_w_f_ChalkRoadsModel_23 : Cond.fieldLink RX10 23 (TX10 10).1 (TX10 10).2.1 (TX10 10).2.2.1 ∈ kr_gw := kr_gm (i := 1058) (by decide +kernel) rfl
theorem kr_w_f_ChalkRoadsModel_26 : Cond.fieldLink RX10 26 (TX10 13).1 (TX10 13).2.1 (TX10 13).2.2.1 ∈ kr_gw := kr_gm (i := 1061) (by decide +kernel) rfl
theorem kr_w_f_ChalkRoadsModel_29 : Cond.fieldLink RX10 29 (TX10 21).1 (TX10 21).2.1 (TX10 21).2.2.1 ∈ kr_gw := kr_gm (i := 1069) (by decide +kernel) rfl
theorem kr_w_f_ChalkRoadsModel_32 : Cond.fieldLink RX10 32 (TX10 22).1 (TX10 22).2.1 (TX10 22).2.2.1 ∈ kr_gw := kr_gm (i := 1070) (by decide +kernel) rfl
theorem kr_w_f_ChalkRoadsModel_35 : Cond.fieldLink RX10 35 (TX10 23).1 (TX10 23).2.1 (TX10 23).2.2.1 ∈ kr_gw := kr_gm (i := 1071) (by decide +kernel) rfl
theorem kr_w_f_ChalkRoadsModel_38 : Cond.fieldLink RX10 38 (TX10 24).1 (TX10 24).2.1 (TX10 24).2.2.1 ∈ kr_gw := kr_gm (i := 1072) (by decide +kernel) rfl
theorem kr_w_f_ChalkRoadsModel_41 : Cond.fieldLink RX10 41 (TX10 25).1 (TX10 25).2.1 (TX10 25).2.2.1 ∈ kr_gw := kr_gm (i := 1073) (by decide +kernel) rfl
theorem kr_w_f_ChalkRoadsModel_44 : Cond.fieldLink RX10 44 (TX10 26).1 (TX10 26).2.1 (TX10 26).2.2.1 ∈ kr_gw := kr_gm (i := 1074) (by decide +kernel) rfl
theorem kr_w_f_ChalkRoadsModel_47 : Cond.fieldLink RX10 47 (TX10 27).1 (TX10 27).2.1 (TX10 27).2.2.1 ∈ kr_gw := kr_gm (i := 1075) (by decide +kernel) rfl
theorem kr_w_f_ChalkRoadsModel_50 : Cond.fieldLink RX10 50 (TX10 30).1 (TX10 30).2.1 (TX10 30).2.2.1 ∈ kr_gw := kr_gm (i := 1078) (by decide +kernel) rfl
theorem kr_w_f_ChalkRoadsModel_53 : Cond.fieldLink RX10 53 (TX10 31).1 (TX10 31).2.1 (TX10 31).2.2.1 ∈ kr_gw := kr_gm (i := 1079) (by decide +kernel) rfl
theorem kr_w_f_ChalkRoadsModel_56 : Cond.fieldLink RX10 56 (TX10 32).1 (TX10 32).2.1 (TX10 32).2.2.1 ∈ kr_gw := kr_gm (i := 1080) (by decide +kernel) rfl
theorem kr_w_f_ChalkRoadsModel_59 : Cond.fieldLink RX10 59 (TX10 40).1 (TX10 40).2.1 (TX10 40).2.2.1 ∈ kr_gw := kr_gm (i := 1088) (by decide +kernel) rfl
theorem kr_w_f_ChalkRoadsModel_62 : Cond.fieldLink RX10 62 (TX10 41).1 (TX10 41).2.1 (TX10 41).2.2.1 ∈ kr_gw := kr_gm (i := 1089) (by decide +kernel) rfl
theorem kr_w_f_ChalkRoadsModel_65 : Cond.fieldLink RX10 65 (TX10 42).1 (TX10 42).2.1 (TX10 42).2.2.1 ∈ kr_gw := kr_gm (i := 1090) (by decide +kernel) rfl
theorem kr_w_f_ChalkRoadsModel_68 : Cond.fieldLink RX10 68 (TX10 43).1 (TX10 43).2.1 (TX10 43).2.2.1 ∈ kr_gw := kr_gm (i := 1091) (by decide +kernel) rfl
theorem kr_w_f_ChalkRoadsModel_77 : Cond.fieldLink RX10 77 (TX10 7).1 (TX10 7).2.1 (TX10 7).2.2.1 ∈ kr_gw := kr_gm (i := 1055) (by decide +kernel) rfl
theorem kr_w_f_ChalkRoadsModel_81 : Cond.fieldLink RX10 81 (TX10 8).1 (TX10 8).2.1 (TX10 8).2.2.1 ∈ kr_gw := kr_gm (i := 1056) (by decide +kernel) rfl
theorem kr_w_f_ChalkRoadsModel_84 : Cond.fieldLink RX10 84 (TX10 9).1 (TX10 9).2.1 (TX10 9).2.2.1 ∈ kr_gw := kr_gm (i := 1057) (by decide +kernel) rfl
theorem kr_w_f_ChalkRoadsModel_87 : Cond.fieldLink RX10 87 (TX10 11).1 (TX10 11).2.1 (TX10 11).2.2.1 ∈ kr_gw := kr_gm (i := 1059) (by decide +kernel) rfl
theorem kr_w_f_ChalkRoadsModel_91 : Cond.fieldLink RX10 91 (TX10 12).1 (TX10 12).2.1 (TX10 12).2.2.1 ∈ kr_gw := kr_gm (i := 1060) (by decide +kernel) rfl
theorem kr_w_f_ChalkRoadsModel_94 : Cond.fieldLink RX10 94 (TX10 2).1 (TX10 2).2.1 (TX10 2).2.2.1 ∈ kr_gw := kr_gm (i := 1050) (by decide +kernel) rfl
theorem kr_w_f_ChalkRoadsModel_97 : Cond.fieldLink RX10 97 (TX10 3).1 (TX10 3).2.1 (TX10 3).2.2.1 ∈ kr_gw := kr_gm (i := 1051) (by decide +kernel) rfl
theorem kr_w_f_ChalkRoadsModel_100 : Cond.fieldLink RX10 100 (TX10 4).1 (TX10 4).2.1 (TX10 4).2.2.1 ∈ kr_gw := kr_gm (i := 1052) (by decide +kernel) rfl
theorem kr_w_f_ChalkRoadsModel_103 : Cond.fieldLink RX10 103 (TX10 14).1 (TX10 14).2.1 (TX10 14).2.2.1 ∈ kr_gw := kr_gm (i := 1062) (by decide +kernel) rfl
theorem kr_w_f_ChalkRoadsModel_112 : Cond.fieldLink RX10 112 (TX10 19).1 (TX10 19).2.1 (TX10 19).2.2.1 ∈ kr_gw := kr_gm (i := 1067) (by decide +kernel) rfl
theorem kr_w_f_ChalkRoadsModel_115 : Cond.fieldLink RX10 115 (TX10 16).1 (TX10 16).2.1 (TX10 16).2.2.1 ∈ kr_gw := kr_gm (i := 1064) (by decide +kernel) rfl
theorem kr_w_f_ChalkRoadsModel_118 : Cond.fieldLink RX10 118 (TX10 20).1 (TX10 20).2.1 (TX10 20).2.2.1 ∈ kr_gw := kr_gm (i := 1068) (by decide +kernel) rfl
theorem kr_w_f_ChalkRoadsModel_121 : Cond.fieldLink RX10 121 (TX10 15).1 (TX10 15).2.1 (TX10 15).2.2.1 ∈ kr_gw := kr_gm (i := 1063) (by decide +kernel) rfl
theorem kr_w_f_ChalkRoadsModel_136 : Cond.fieldLink RX10 136 (TX10 17).1 (TX10 17).2.1 (TX10 17).2.2.1 ∈ kr_gw := kr_gm (i := 1065) (by decide +kernel) rfl
theorem kr_w_f_ChalkRoadsModel_147 : Cond.fieldLink RX10 147 (TX10 18).1 (TX10 18).2.1 (TX10 18).2.2.1 ∈ kr_gw := kr_gm (i := 1066) (by decide +kernel) rfl
theorem kr_w_f_ChalkRoadsModel_254 : Cond.fieldLink RX10 254 (TX10 28).1 (TX10 28).2.1 (TX10 28).2.2.1 ∈ kr_gw := kr_gm (i := 1076) (by decide +kernel) rfl
theorem kr_w_f_ChalkRoadsModel_267 : Cond.fieldLink RX10 267 (TX10 29).1 (TX10 29).2.1 (TX10 29).2.2.1 ∈ kr_gw := kr_gm (i := 1077) (by decide +kernel) rfl
theorem kr_w_f_ChalkRoadsModel_297 : Cond.fieldLink RX10 297 (TX10 33).1 (TX10 33).2.1 (TX10 33).2.2.1 ∈ kr_gw := kr_gm (i := 1081) (by decide +kernel) rfl
theorem kr_w_f_ChalkRoadsModel_315 : Cond.fieldLink RX10 315 (TX10 34).1 (TX10 34).2.1 (TX10 34).2.2.1 ∈ kr_gw := kr_gm (i := 1082) (by decide +kernel) rfl
theorem kr_w_f_ChalkRoadsModel_318 : Cond.fieldLink RX10 318 (TX10 35).1 (TX10 35).2.1 (TX10 35).2.2.1 ∈ kr_gw := kr_gm (i := 1083) (by decide +kernel) rfl
theorem kr_w_f_ChalkRoadsModel_321 : Cond.fieldLink RX10 321 (TX10 36).1 (TX10 36).2.1 (TX10 36).2.2.1 ∈ kr_gw := kr_gm (i := 1084) (by decide +kernel) rfl
theorem kr_w_f_ChalkRoadsModel_324 : Cond.fieldLink RX10 324 (TX10 37).1 (TX10 37).2.1 (TX10 37).2.2.1 ∈ kr_gw := kr_gm (i := 1085) (by decide +kernel) rfl
theorem kr_w_f_ChalkRoadsModel_327 : Cond.fieldLink RX10 327 (TX10 38).1 (TX10 38).2.1 (TX10 38).2.2.1 ∈ kr_gw := kr_gm (i := 1086) (by decide +kernel) rfl
theorem kr_w_f_ChalkRoadsModel_330 : Cond.fieldLink RX10 330 (TX10 39).1 (TX10 39).2.1 (TX10 39).2.2.1 ∈ kr_gw := kr_gm (i := 1087) (by decide +kernel) rfl
theorem kr_w_f_ChalkRoadsModel_354 : Cond.fieldLink RX10 354 (TX10 44).1 (TX10 44).2.1 (TX10 44).2.2.1 ∈ kr_gw := kr_gm (i := 1092) (by decide +kernel) rfl
theorem kr_w_f_String_9 : Cond.fieldLink RJ0 9 "java/lang/String" "value" "[B" ∈ kr_gw := kr_gm (i := 1568) (by decide +kernel) rfl
theorem kr_w_f_String_15 : Cond.fieldLink RJ0 15 "java/lang/String" "coder" "B" ∈ kr_gw := kr_gm (i := 1569) (by decide +kernel) rfl
theorem kr_w_f_String_38 : Cond.fieldLink RJ0 38 "java/lang/String" "COMPACT_STRINGS" "Z" ∈ kr_gw := kr_gm (i := 479) (by decide +kernel) rfl
theorem kr_w_f_String_1053 : Cond.fieldLink RJ0 1053 "jdk/internal/util/Preconditions" "SIOOBE_FORMATTER" "Ljava/util/function/BiFunction;" ∈ kr_gw := kr_gm (i := 495) (by decide +kernel) rfl
theorem kr_w_m_ChalkRoads_89 : Cond.methodLink RX9 89 (kr_nm i_T_append) ∈ kr_gw := kr_gm (i := 417) (by decide +kernel) rfl
theorem kr_w_m_ChalkRoads_93 : Cond.methodLink RX9 93 (kr_nm i_T_cut) ∈ kr_gw := kr_gm (i := 426) (by decide +kernel) rfl
theorem kr_w_m_ChalkRoads_97 : Cond.methodLink RX9 97 (kr_nm i_D_readAll) ∈ kr_gw := kr_gm (i := 434) (by decide +kernel) rfl
theorem kr_w_m_ChalkRoads_107 : Cond.methodLink RX9 107 (kr_nm i_R_copyOf) ∈ kr_gw := kr_gm (i := 604) (by decide +kernel) rfl
theorem kr_w_m_ChalkRoads_131 : Cond.methodLink RX9 131 (kr_nm i_R_hasLine) ∈ kr_gw := kr_gm (i := 624) (by decide +kernel) rfl
theorem kr_w_m_ChalkRoads_148 : Cond.methodLink RX9 148 (kr_nm i_R_hasRoof) ∈ kr_gw := kr_gm (i := 628) (by decide +kernel) rfl
theorem kr_w_m_ChalkRoads_151 : Cond.methodLink RX9 151 (kr_nm i_C_bit) ∈ kr_gw := kr_gm (i := 632) (by decide +kernel) rfl
theorem kr_w_m_ChalkRoads_155 : Cond.methodLink RX9 155 (kr_nm i_R_hasDrawer) ∈ kr_gw := kr_gm (i := 639) (by decide +kernel) rfl
theorem kr_w_m_ChalkRoads_161 : Cond.methodLink RX9 161 (kr_nm i_R_hasOne) ∈ kr_gw := kr_gm (i := 647) (by decide +kernel) rfl
theorem kr_w_m_ChalkRoads_173 : Cond.methodLink RX9 173 (kr_nm i_C_isRainQuarter) ∈ kr_gw := kr_gm (i := 655) (by decide +kernel) rfl
theorem kr_w_m_ChalkRoads_176 : Cond.methodLink RX9 176 (kr_nm i_R_rainsIn) ∈ kr_gw := kr_gm (i := 656) (by decide +kernel) rfl
theorem kr_w_m_ChalkRoads_179 : Cond.methodLink RX9 179 (kr_nm i_R_wholeLines) ∈ kr_gw := kr_gm (i := 669) (by decide +kernel) rfl
theorem kr_w_m_ChalkRoads_182 : Cond.methodLink RX9 182 (kr_nm i_R_rainRubs) ∈ kr_gw := kr_gm (i := 677) (by decide +kernel) rfl
theorem kr_w_m_ChalkRoads_186 : Cond.methodLink RX9 186 (kr_nm i_R_setRain) ∈ kr_gw := kr_gm (i := 686) (by decide +kernel) rfl
theorem kr_w_m_ChalkRoads_190 : Cond.methodLink RX9 190 (kr_nm i_R_hasPoint) ∈ kr_gw := kr_gm (i := 691) (by decide +kernel) rfl
theorem kr_w_m_ChalkRoads_193 : Cond.methodLink RX9 193 (kr_nm i_R_isHouse) ∈ kr_gw := kr_gm (i := 695) (by decide +kernel) rfl
theorem kr_w_m_ChalkRoads_196 : Cond.methodLink RX9 196 (kr_nm i_R_setHouse) ∈ kr_gw := kr_gm (i := 696) (by decide +kernel) rfl
theorem kr_w_m_ChalkRoads_199 : Cond.methodLink RX9 199 (kr_nm i_R_addLine) ∈ kr_gw := kr_gm (i := 701) (by decide +kernel) rfl
theorem kr_w_m_ChalkRoads_203 : Cond.methodLink RX9 203 (kr_nm i_C_isWayQuestion) ∈ kr_gw := kr_gm (i := 706) (by decide +kernel) rfl
theorem kr_w_m_ChalkRoads_206 : Cond.methodLink RX9 206 (kr_nm i_Y_beginAnew) ∈ kr_gw := kr_gm (i := 709) (by decide +kernel) rfl
theorem kr_w_m_ChalkRoads_209 : Cond.methodLink RX9 209 (kr_nm i_Y_yardsOfWay) ∈ kr_gw := kr_gm (i := 713) (by decide +kernel) rfl
theorem kr_w_m_ChalkRoads_213 : Cond.methodLink RX9 213 (kr_nm i_Y_linesOfWay) ∈ kr_gw := kr_gm (i := 733) (by decide +kernel) rfl
theorem kr_w_m_ChalkRoads_216 : Cond.methodLink RX9 216 (kr_nm i_Y_lineOfWay) ∈ kr_gw := kr_gm (i := 737) (by decide +kernel) rfl
theorem kr_w_m_ChalkRoads_219 : Cond.methodLink RX9 219 (kr_nm i_Y_reached) ∈ kr_gw := kr_gm (i := 753) (by decide +kernel) rfl
theorem kr_w_m_ChalkRoads_223 : Cond.methodLink RX9 223 (kr_nm i_R_hasLines) ∈ kr_gw := kr_gm (i := 761) (by decide +kernel) rfl
theorem kr_w_m_ChalkRoads_226 : Cond.methodLink RX9 226 (kr_nm i_Y_housesMeet) ∈ kr_gw := kr_gm (i := 769) (by decide +kernel) rfl
theorem kr_w_m_ChalkRoads_229 : Cond.methodLink RX9 229 (kr_nm i_Y_linesNeeded) ∈ kr_gw := kr_gm (i := 782) (by decide +kernel) rfl
theorem kr_w_m_ChalkRoads_232 : Cond.methodLink RX9 232 (kr_nm i_C_isQuarterBehind) ∈ kr_gw := kr_gm (i := 791) (by decide +kernel) rfl
theorem kr_w_m_ChalkRoads_235 : Cond.methodLink RX9 235 (kr_nm i_K_run) ∈ kr_gw := kr_gm (i := 794) (by decide +kernel) rfl
theorem kr_w_m_ChalkRoads_251 : Cond.methodLink RX9 251 (kr_nm i_K_whoIsLost) ∈ kr_gw := kr_gm (i := 842) (by decide +kernel) rfl
theorem kr_w_m_ChalkRoads_254 : Cond.methodLink RX9 254 (kr_nm i_K_whoIsInTheOpen) ∈ kr_gw := kr_gm (i := 850) (by decide +kernel) rfl
theorem kr_w_m_ChalkRoads_257 : Cond.methodLink RX9 257 (kr_nm i_J6_bitCount) ∈ kr_gw := kr_gm (i := 859) (by decide +kernel) rfl
theorem kr_w_m_ChalkRoads_262 : Cond.methodLink RX9 262 (kr_nm i_N_answer) ∈ kr_gw := kr_gm (i := 869) (by decide +kernel) rfl
theorem kr_w_m_ChalkRoads_266 : Cond.methodLink RX9 266 (kr_nm i_G_fewestDrawers) ∈ kr_gw := kr_gm (i := 893) (by decide +kernel) rfl
theorem kr_w_m_ChalkRoads_269 : Cond.methodLink RX9 269 (kr_nm i_C_has) ∈ kr_gw := kr_gm (i := 907) (by decide +kernel) rfl
theorem kr_w_m_ChalkRoads_276 : Cond.methodLink RX9 276 (kr_nm i_R_addHeard) ∈ kr_gw := kr_gm (i := 912) (by decide +kernel) rfl
theorem kr_w_m_ChalkRoads_282 : Cond.methodLink RX9 282 (kr_nm i_U_reckon) ∈ kr_gw := kr_gm (i := 925) (by decide +kernel) rfl
theorem kr_w_m_ChalkRoads_300 : Cond.methodLink RX9 300 (kr_nm i_R_allLines) ∈ kr_gw := kr_gm (i := 945) (by decide +kernel) rfl
theorem kr_w_m_ChalkRoads_306 : Cond.methodLink RX9 306 (kr_nm i_U_bestToAsk) ∈ kr_gw := kr_gm (i := 950) (by decide +kernel) rfl
theorem kr_w_m_ChalkRoads_309 : Cond.methodLink RX9 309 (kr_nm i_U_leftAtWorst) ∈ kr_gw := kr_gm (i := 959) (by decide +kernel) rfl
theorem kr_w_m_ChalkRoads_312 : Cond.methodLink RX9 312 (kr_nm i_S_hasSheet) ∈ kr_gw := kr_gm (i := 972) (by decide +kernel) rfl
theorem kr_w_m_ChalkRoads_315 : Cond.methodLink RX9 315 (kr_nm i_S_hasLane) ∈ kr_gw := kr_gm (i := 976) (by decide +kernel) rfl
theorem kr_w_m_ChalkRoads_318 : Cond.methodLink RX9 318 (kr_nm i_S_makeAnew) ∈ kr_gw := kr_gm (i := 980) (by decide +kernel) rfl
theorem kr_w_m_ChalkRoads_322 : Cond.methodLink RX9 322 (kr_nm i_S_isNothing) ∈ kr_gw := kr_gm (i := 988) (by decide +kernel) rfl
theorem kr_w_m_ChalkRoads_325 : Cond.methodLink RX9 325 (kr_nm i_S_hasCell) ∈ kr_gw := kr_gm (i := 992) (by decide +kernel) rfl
theorem kr_w_m_ChalkRoads_328 : Cond.methodLink RX9 328 (kr_nm i_S_setCell) ∈ kr_gw := kr_gm (i := 996) (by decide +kernel) rfl
theorem kr_w_m_ChalkRoads_331 : Cond.methodLink RX9 331 (kr_nm i_S_faultOfTaking) ∈ kr_gw := kr_gm (i := 1004) (by decide +kernel) rfl
theorem kr_w_m_ChalkRoads_334 : Cond.methodLink RX9 334 (kr_nm i_S_hasTwoCells) ∈ kr_gw := kr_gm (i := 1009) (by decide +kernel) rfl
theorem kr_w_m_ChalkRoads_337 : Cond.methodLink RX9 337 (kr_nm i_C_hearCells) ∈ kr_gw := kr_gm (i := 1014) (by decide +kernel) rfl
theorem kr_w_m_ChalkRoads_343 : Cond.methodLink RX9 343 (kr_nm i_S_sizeOf) ∈ kr_gw := kr_gm (i := 1030) (by decide +kernel) rfl
theorem kr_w_m_ChalkRoads_346 : Cond.methodLink RX9 346 (kr_nm i_S_cell) ∈ kr_gw := kr_gm (i := 1018) (by decide +kernel) rfl
theorem kr_w_m_Dawn_19 : Cond.methodLink RX0 19 (kr_nm i_N_seek) ∈ kr_gw := kr_gm (i := 873) (by decide +kernel) rfl
theorem kr_w_m_Dawn_30 : Cond.methodLink RX0 30 (kr_nm i_R_wholeLines) ∈ kr_gw := kr_gm (i := 877) (by decide +kernel) rfl
theorem kr_w_m_Dawn_36 : Cond.methodLink RX0 36 (kr_nm i_R_allLines) ∈ kr_gw := kr_gm (i := 878) (by decide +kernel) rfl
theorem kr_w_m_Dawn_39 : Cond.methodLink RX0 39 (kr_nm i_R_yardsOf) ∈ kr_gw := kr_gm (i := 879) (by decide +kernel) rfl
theorem kr_w_m_Dawn_43 : Cond.methodLink RX0 43 (kr_nm i_Y_housesMeet) ∈ kr_gw := kr_gm (i := 883) (by decide +kernel) rfl
theorem kr_w_m_Dawn_49 : Cond.methodLink RX0 49 (kr_nm i_Y_linesNeeded) ∈ kr_gw := kr_gm (i := 884) (by decide +kernel) rfl
theorem kr_w_m_Guess_32 : Cond.methodLink RX1 32 (kr_nm i_R_allLines) ∈ kr_gw := kr_gm (i := 929) (by decide +kernel) rfl
theorem kr_w_m_Guess_44 : Cond.methodLink RX1 44 (kr_nm i_U_fits) ∈ kr_gw := kr_gm (i := 930) (by decide +kernel) rfl
theorem kr_w_m_Guess_48 : Cond.methodLink RX1 48 (kr_nm i_U_add) ∈ kr_gw := kr_gm (i := 935) (by decide +kernel) rfl
theorem kr_w_m_Guess_72 : Cond.methodLink RX1 72 (kr_nm i_J6_bitCount) ∈ kr_gw := kr_gm (i := 940) (by decide +kernel) rfl
theorem kr_w_m_Guess_78 : Cond.methodLink RX1 78 Lib.Math.max.name ∈ kr_gw := kr_gm (i := 958) (by decide +kernel) rfl
theorem kr_w_m_Guess_84 : Cond.methodLink RX1 84 (kr_nm i_U_leftAtWorst) ∈ kr_gw := kr_gm (i := 954) (by decide +kernel) rfl
theorem kr_w_m_Reader_22 : Cond.methodLink RX2 22 (kr_nm i_R_clear) ∈ kr_gw := kr_gm (i := 438) (by decide +kernel) rfl
theorem kr_w_m_Reader_44 : Cond.methodLink RX2 44 (kr_nm i_D_readOneLine) ∈ kr_gw := kr_gm (i := 442) (by decide +kernel) rfl
theorem kr_w_m_Reader_48 : Cond.methodLink RX2 48 (kr_nm i_R_highestPoint) ∈ kr_gw := kr_gm (i := 596) (by decide +kernel) rfl
theorem kr_w_m_Reader_58 : Cond.methodLink RX2 58 (kr_nm i_D_fail) ∈ kr_gw := kr_gm (i := 462) (by decide +kernel) rfl
theorem kr_w_m_Reader_62 : Cond.methodLink RX2 62 (kr_nm i_D_nextToken) ∈ kr_gw := kr_gm (i := 446) (by decide +kernel) rfl
theorem kr_w_m_Reader_69 : Cond.methodLink RX2 69 (kr_nm i_D_nameIs) ∈ kr_gw := kr_gm (i := 467) (by decide +kernel) rfl
theorem kr_w_m_Reader_73 : Cond.methodLink RX2 73 (kr_nm i_D_readPoints) ∈ kr_gw := kr_gm (i := 519) (by decide +kernel) rfl
theorem kr_w_m_Reader_78 : Cond.methodLink RX2 78 (kr_nm i_D_readHouse) ∈ kr_gw := kr_gm (i := 532) (by decide +kernel) rfl
theorem kr_w_m_Reader_83 : Cond.methodLink RX2 83 (kr_nm i_D_readLine) ∈ kr_gw := kr_gm (i := 548) (by decide +kernel) rfl
theorem kr_w_m_Reader_88 : Cond.methodLink RX2 88 (kr_nm i_D_readDrawer) ∈ kr_gw := kr_gm (i := 562) (by decide +kernel) rfl
theorem kr_w_m_Reader_93 : Cond.methodLink RX2 93 (kr_nm i_D_readOne) ∈ kr_gw := kr_gm (i := 571) (by decide +kernel) rfl
theorem kr_w_m_Reader_98 : Cond.methodLink RX2 98 (kr_nm i_D_readRain) ∈ kr_gw := kr_gm (i := 580) (by decide +kernel) rfl
theorem kr_w_m_Reader_104 : Cond.methodLink RX2 104 (kr_nm i_D_nextNumber) ∈ kr_gw := kr_gm (i := 523) (by decide +kernel) rfl
theorem kr_w_m_Reader_110 : Cond.methodLink RX2 110 (kr_nm i_D_nextSign) ∈ kr_gw := kr_gm (i := 527) (by decide +kernel) rfl
theorem kr_w_m_Reader_113 : Cond.methodLink RX2 113 (kr_nm i_R_isHouse) ∈ kr_gw := kr_gm (i := 536) (by decide +kernel) rfl
theorem kr_w_m_Reader_117 : Cond.methodLink RX2 117 (kr_nm i_R_setHouse) ∈ kr_gw := kr_gm (i := 543) (by decide +kernel) rfl
theorem kr_w_m_Reader_124 : Cond.methodLink RX2 124 (kr_nm i_R_addLine) ∈ kr_gw := kr_gm (i := 552) (by decide +kernel) rfl
theorem kr_w_m_Reader_128 : Cond.methodLink RX2 128 (kr_nm i_D_nextRoof) ∈ kr_gw := kr_gm (i := 556) (by decide +kernel) rfl
theorem kr_w_m_Reader_139 : Cond.methodLink RX2 139 (kr_nm i_R_addDrawer) ∈ kr_gw := kr_gm (i := 566) (by decide +kernel) rfl
theorem kr_w_m_Reader_146 : Cond.methodLink RX2 146 (kr_nm i_R_addOne) ∈ kr_gw := kr_gm (i := 575) (by decide +kernel) rfl
theorem kr_w_m_Reader_150 : Cond.methodLink RX2 150 (kr_nm i_R_rainsIn) ∈ kr_gw := kr_gm (i := 584) (by decide +kernel) rfl
theorem kr_w_m_Reader_153 : Cond.methodLink RX2 153 (kr_nm i_R_setRain) ∈ kr_gw := kr_gm (i := 591) (by decide +kernel) rfl
theorem kr_w_m_Reader_156 : Cond.methodLink RX2 156 (kr_nm i_T_behindAll) ∈ kr_gw := kr_gm (i := 450) (by decide +kernel) rfl
theorem kr_w_m_Reader_160 : Cond.methodLink RX2 160 (kr_nm i_T_byteAt) ∈ kr_gw := kr_gm (i := 454) (by decide +kernel) rfl
theorem kr_w_m_Reader_164 : Cond.methodLink RX2 164 (kr_nm i_T_numberOf) ∈ kr_gw := kr_gm (i := 458) (by decide +kernel) rfl
theorem kr_w_m_Reader_168 : Cond.methodLink RX2 168 (kr_nm i_J0_length) ∈ kr_gw := kr_gm (i := 471) (by decide +kernel) rfl
theorem kr_w_m_Reader_172 : Cond.methodLink RX2 172 (kr_nm i_J0_charAt) ∈ kr_gw := kr_gm (i := 481) (by decide +kernel) rfl
theorem kr_w_m_Rock_68 : Cond.methodLink RX3 68 arraycopyName ∈ kr_gw := kr_gm (i := 608) (by decide +kernel) rfl
theorem kr_w_m_Rock_74 : Cond.methodLink RX3 74 (kr_nm i_R_allLines) ∈ kr_gw := kr_gm (i := 765) (by decide +kernel) rfl
theorem kr_w_m_Rock_88 : Cond.methodLink RX3 88 (kr_nm i_R_wholeBy) ∈ kr_gw := kr_gm (i := 673) (by decide +kernel) rfl
theorem kr_w_m_Rock_92 : Cond.methodLink RX3 92 (kr_nm i_R_hasRoof) ∈ kr_gw := kr_gm (i := 681) (by decide +kernel) rfl
theorem kr_w_m_Rock_95 : Cond.methodLink RX3 95 (kr_nm i_R_isHouse) ∈ kr_gw := kr_gm (i := 600) (by decide +kernel) rfl
theorem kr_w_m_Rock_98 : Cond.methodLink RX3 98 Lib.Math.max.name ∈ kr_gw := kr_gm (i := 601) (by decide +kernel) rfl
theorem kr_w_m_Rock_104 : Cond.methodLink RX3 104 (kr_nm i_R_hasLines) ∈ kr_gw := kr_gm (i := 916) (by decide +kernel) rfl
theorem kr_w_m_Sharing_28 : Cond.methodLink RX4 28 (kr_nm i_J6_bitCount) ∈ kr_gw := kr_gm (i := 897) (by decide +kernel) rfl
theorem kr_w_m_Sharing_34 : Cond.methodLink RX4 34 (kr_nm i_G_canDraw) ∈ kr_gw := kr_gm (i := 898) (by decide +kernel) rfl
theorem kr_w_m_Sharing_44 : Cond.methodLink RX4 44 (kr_nm i_R_yardsOf) ∈ kr_gw := kr_gm (i := 903) (by decide +kernel) rfl
theorem kr_w_m_Sharing_47 : Cond.methodLink RX4 47 (kr_nm i_G_give) ∈ kr_gw := kr_gm (i := 904) (by decide +kernel) rfl
theorem kr_w_m_Sheets_21 : Cond.methodLink RX5 21 (kr_nm i_S_hasCell) ∈ kr_gw := kr_gm (i := 1013) (by decide +kernel) rfl
theorem kr_w_m_Sheets_25 : Cond.methodLink RX5 25 (kr_nm i_S_isNothing) ∈ kr_gw := kr_gm (i := 1008) (by decide +kernel) rfl
theorem kr_w_m_Walk_38 : Cond.methodLink RX7 38 (kr_nm i_Y_beginAnew) ∈ kr_gw := kr_gm (i := 798) (by decide +kernel) rfl
theorem kr_w_m_Walk_48 : Cond.methodLink RX7 48 arraycopyName ∈ kr_gw := kr_gm (i := 799) (by decide +kernel) rfl
theorem kr_w_m_Walk_57 : Cond.methodLink RX7 57 (kr_nm i_R_rainsIn) ∈ kr_gw := kr_gm (i := 800) (by decide +kernel) rfl
theorem kr_w_m_Walk_61 : Cond.methodLink RX7 61 (kr_nm i_K_fallOfRain) ∈ kr_gw := kr_gm (i := 801) (by decide +kernel) rfl
theorem kr_w_m_Walk_68 : Cond.methodLink RX7 68 (kr_nm i_K_step) ∈ kr_gw := kr_gm (i := 810) (by decide +kernel) rfl
theorem kr_w_m_Walk_72 : Cond.methodLink RX7 72 (kr_nm i_R_rainRubs) ∈ kr_gw := kr_gm (i := 805) (by decide +kernel) rfl
theorem kr_w_m_Walk_79 : Cond.methodLink RX7 79 (kr_nm i_K_loseIfBroken) ∈ kr_gw := kr_gm (i := 806) (by decide +kernel) rfl
theorem kr_w_m_Walk_83 : Cond.methodLink RX7 83 (kr_nm i_K_goOn) ∈ kr_gw := kr_gm (i := 814) (by decide +kernel) rfl
theorem kr_w_m_Walk_93 : Cond.methodLink RX7 93 (kr_nm i_K_setOut) ∈ kr_gw := kr_gm (i := 819) (by decide +kernel) rfl
theorem kr_w_m_Walk_96 : Cond.methodLink RX7 96 Lib.Math.max.name ∈ kr_gw := kr_gm (i := 818) (by decide +kernel) rfl
theorem kr_w_m_Walk_102 : Cond.methodLink RX7 102 (kr_nm i_R_wholeBy) ∈ kr_gw := kr_gm (i := 823) (by decide +kernel) rfl
theorem kr_w_m_Walk_106 : Cond.methodLink RX7 106 (kr_nm i_Y_firstLine) ∈ kr_gw := kr_gm (i := 824) (by decide +kernel) rfl
theorem kr_w_m_Walk_113 : Cond.methodLink RX7 113 (kr_nm i_R_otherEnd) ∈ kr_gw := kr_gm (i := 825) (by decide +kernel) rfl
theorem kr_w_m_Walk_116 : Cond.methodLink RX7 116 (kr_nm i_R_hasRoof) ∈ kr_gw := kr_gm (i := 854) (by decide +kernel) rfl
theorem kr_w_m_Ways_22 : Cond.methodLink RX8 22 (kr_nm i_Y_reckonTo) ∈ kr_gw := kr_gm (i := 717) (by decide +kernel) rfl
theorem kr_w_m_Ways_27 : Cond.methodLink RX8 27 (kr_nm i_Y_firstLine) ∈ kr_gw := kr_gm (i := 741) (by decide +kernel) rfl
theorem kr_w_m_Ways_31 : Cond.methodLink RX8 31 (kr_nm i_R_otherEnd) ∈ kr_gw := kr_gm (i := 745) (by decide +kernel) rfl
theorem kr_w_m_Ways_51 : Cond.methodLink RX8 51 (kr_nm i_Y_costOver) ∈ kr_gw := kr_gm (i := 726) (by decide +kernel) rfl
theorem kr_w_m_Ways_58 : Cond.methodLink RX8 58 Lib.Math.abs.name ∈ kr_gw := kr_gm (i := 723) (by decide +kernel) rfl
theorem kr_w_m_Ways_63 : Cond.methodLink RX8 63 Lib.Math.min.name ∈ kr_gw := kr_gm (i := 730) (by decide +kernel) rfl
theorem kr_w_m_Ways_69 : Cond.methodLink RX8 69 (kr_nm i_J6_numberOfTrailingZeros) ∈ kr_gw := kr_gm (i := 773) (by decide +kernel) rfl
theorem kr_w_m_Ways_74 : Cond.methodLink RX8 74 (kr_nm i_Y_reached) ∈ kr_gw := kr_gm (i := 777) (by decide +kernel) rfl
theorem kr_w_m_Ways_77 : Cond.methodLink RX8 77 (kr_nm i_Y_housesMeet) ∈ kr_gw := kr_gm (i := 786) (by decide +kernel) rfl
theorem kr_w_m_ChalkRoadsModel_71 : Cond.methodLink RX10 71 (kr_nm i_M_firstDraft) ∈ kr_gw := kr_gm (i := 1040) (by decide +kernel) rfl
theorem kr_w_m_ChalkRoadsModel_74 : Cond.methodLink RX10 74 (kr_nm i_M_keepDraft) ∈ kr_gw := kr_gm (i := 1044) (by decide +kernel) rfl
theorem kr_w_m_ChalkRoadsModel_108 : Cond.methodLink RX10 108 (kr_nm i_M_in) ∈ kr_gw := kr_gm (i := 1194) (by decide +kernel) rfl
theorem kr_w_m_ChalkRoadsModel_124 : Cond.methodLink RX10 124 (kr_nm i_M_look) ∈ kr_gw := kr_gm (i := 1205) (by decide +kernel) rfl
theorem kr_w_m_ChalkRoadsModel_128 : Cond.methodLink RX10 128 (kr_nm i_M_is) ∈ kr_gw := kr_gm (i := 1225) (by decide +kernel) rfl
theorem kr_w_m_ChalkRoadsModel_132 : Cond.methodLink RX10 132 (kr_nm i_M_ends) ∈ kr_gw := kr_gm (i := 1229) (by decide +kernel) rfl
theorem kr_w_m_ChalkRoadsModel_150 : Cond.methodLink RX10 150 (kr_nm i_M_needs) ∈ kr_gw := kr_gm (i := 1213) (by decide +kernel) rfl
theorem kr_w_m_ChalkRoadsModel_154 : Cond.methodLink RX10 154 (kr_nm i_M_looked) ∈ kr_gw := kr_gm (i := 1241) (by decide +kernel) rfl
theorem kr_w_m_ChalkRoadsModel_158 : Cond.methodLink RX10 158 (kr_nm i_M_next) ∈ kr_gw := kr_gm (i := 1201) (by decide +kernel) rfl
theorem kr_w_m_ChalkRoadsModel_161 : Cond.methodLink RX10 161 (kr_nm i_M_lookedPoint) ∈ kr_gw := kr_gm (i := 1245) (by decide +kernel) rfl
theorem kr_w_m_ChalkRoadsModel_165 : Cond.methodLink RX10 165 (kr_nm i_M_readPoint) ∈ kr_gw := kr_gm (i := 1253) (by decide +kernel) rfl
theorem kr_w_m_ChalkRoadsModel_168 : Cond.methodLink RX10 168 (kr_nm i_M_readOther) ∈ kr_gw := kr_gm (i := 1257) (by decide +kernel) rfl
theorem kr_w_m_ChalkRoadsModel_171 : Cond.methodLink RX10 171 (kr_nm i_M_readNumber) ∈ kr_gw := kr_gm (i := 1237) (by decide +kernel) rfl
theorem kr_w_m_ChalkRoadsModel_174 : Cond.methodLink RX10 174 (kr_nm i_M_isRoof) ∈ kr_gw := kr_gm (i := 1261) (by decide +kernel) rfl
theorem kr_w_m_ChalkRoadsModel_178 : Cond.methodLink RX10 178 (kr_nm i_M_readLineAt) ∈ kr_gw := kr_gm (i := 1249) (by decide +kernel) rfl
theorem kr_w_m_ChalkRoadsModel_181 : Cond.methodLink RX10 181 (kr_nm i_M_readOne) ∈ kr_gw := kr_gm (i := 1265) (by decide +kernel) rfl
theorem kr_w_m_ChalkRoadsModel_184 : Cond.methodLink RX10 184 (kr_nm i_M_lineNow) ∈ kr_gw := kr_gm (i := 1221) (by decide +kernel) rfl
theorem kr_w_m_ChalkRoadsModel_187 : Cond.methodLink RX10 187 (kr_nm i_M_readLineOf) ∈ kr_gw := kr_gm (i := 1233) (by decide +kernel) rfl
theorem kr_w_m_ChalkRoadsModel_191 : Cond.methodLink RX10 191 (kr_nm i_M_readLine) ∈ kr_gw := kr_gm (i := 1217) (by decide +kernel) rfl
theorem kr_w_m_ChalkRoadsModel_196 : Cond.methodLink RX10 196 (kr_nm i_M_isLine) ∈ kr_gw := kr_gm (i := 1281) (by decide +kernel) rfl
theorem kr_w_m_ChalkRoadsModel_202 : Cond.methodLink RX10 202 (kr_nm i_M_of) ∈ kr_gw := kr_gm (i := 1286) (by decide +kernel) rfl
theorem kr_w_m_ChalkRoadsModel_205 : Cond.methodLink RX10 205 (kr_nm i_M_isDrawer) ∈ kr_gw := kr_gm (i := 1294) (by decide +kernel) rfl
theorem kr_w_m_ChalkRoadsModel_208 : Cond.methodLink RX10 208 (kr_nm i_M_isOne) ∈ kr_gw := kr_gm (i := 1302) (by decide +kernel) rfl
theorem kr_w_m_ChalkRoadsModel_213 : Cond.methodLink RX10 213 (kr_nm i_M_isRainy) ∈ kr_gw := kr_gm (i := 1311) (by decide +kernel) rfl
theorem kr_w_m_ChalkRoadsModel_218 : Cond.methodLink RX10 218 (kr_nm i_M_flag) ∈ kr_gw := kr_gm (i := 1332) (by decide +kernel) rfl
theorem kr_w_m_ChalkRoadsModel_222 : Cond.methodLink RX10 222 (kr_nm i_M_isPoint) ∈ kr_gw := kr_gm (i := 1339) (by decide +kernel) rfl
theorem kr_w_m_ChalkRoadsModel_226 : Cond.methodLink RX10 226 (kr_nm i_M_otherEnd) ∈ kr_gw := kr_gm (i := 1366) (by decide +kernel) rfl
theorem kr_w_m_ChalkRoadsModel_233 : Cond.methodLink RX10 233 (kr_nm i_M_strongNow) ∈ kr_gw := kr_gm (i := 1353) (by decide +kernel) rfl
theorem kr_w_m_ChalkRoadsModel_236 : Cond.methodLink RX10 236 (kr_nm i_M_findLeast) ∈ kr_gw := kr_gm (i := 1357) (by decide +kernel) rfl
theorem kr_w_m_ChalkRoadsModel_239 : Cond.methodLink RX10 239 (kr_nm i_M_firstLine) ∈ kr_gw := kr_gm (i := 1362) (by decide +kernel) rfl
theorem kr_w_m_ChalkRoadsModel_242 : Cond.methodLink RX10 242 (kr_nm i_M_wholeLines) ∈ kr_gw := kr_gm (i := 1374) (by decide +kernel) rfl
theorem kr_w_m_ChalkRoadsModel_245 : Cond.methodLink RX10 245 (kr_nm i_M_partOf) ∈ kr_gw := kr_gm (i := 1378) (by decide +kernel) rfl
theorem kr_w_m_ChalkRoadsModel_248 : Cond.methodLink RX10 248 (kr_nm i_M_areLines) ∈ kr_gw := kr_gm (i := 1386) (by decide +kernel) rfl
theorem kr_w_m_ChalkRoadsModel_251 : Cond.methodLink RX10 251 (kr_nm i_M_doMeet) ∈ kr_gw := kr_gm (i := 1390) (by decide +kernel) rfl
theorem kr_w_m_ChalkRoadsModel_257 : Cond.methodLink RX10 257 (kr_nm i_M_loses) ∈ kr_gw := kr_gm (i := 1418) (by decide +kernel) rfl
theorem kr_w_m_ChalkRoadsModel_260 : Cond.methodLink RX10 260 (kr_nm i_M_arrives) ∈ kr_gw := kr_gm (i := 1426) (by decide +kernel) rfl
theorem kr_w_m_ChalkRoadsModel_264 : Cond.methodLink RX10 264 (kr_nm i_M_startRun) ∈ kr_gw := kr_gm (i := 1410) (by decide +kernel) rfl
theorem kr_w_m_ChalkRoadsModel_270 : Cond.methodLink RX10 270 (kr_nm i_M_rains) ∈ kr_gw := kr_gm (i := 1414) (by decide +kernel) rfl
theorem kr_w_m_ChalkRoadsModel_273 : Cond.methodLink RX10 273 (kr_nm i_M_goesOne) ∈ kr_gw := kr_gm (i := 1422) (by decide +kernel) rfl
theorem kr_w_m_ChalkRoadsModel_278 : Cond.methodLink RX10 278 (kr_nm i_M_isQuarter) ∈ kr_gw := kr_gm (i := 1402) (by decide +kernel) rfl
theorem kr_w_m_ChalkRoadsModel_281 : Cond.methodLink RX10 281 (kr_nm i_M_runs) ∈ kr_gw := kr_gm (i := 1406) (by decide +kernel) rfl
theorem kr_w_m_ChalkRoadsModel_284 : Cond.methodLink RX10 284 (kr_nm i_M_bitsOf) ∈ kr_gw := kr_gm (i := 1454) (by decide +kernel) rfl
theorem kr_w_m_ChalkRoadsModel_287 : Cond.methodLink RX10 287 (kr_nm i_M_yardsOf) ∈ kr_gw := kr_gm (i := 1465) (by decide +kernel) rfl
theorem kr_w_m_ChalkRoadsModel_290 : Cond.methodLink RX10 290 (kr_nm i_M_areSure) ∈ kr_gw := kr_gm (i := 1469) (by decide +kernel) rfl
theorem kr_w_m_ChalkRoadsModel_293 : Cond.methodLink RX10 293 (kr_nm i_M_findDawn) ∈ kr_gw := kr_gm (i := 1461) (by decide +kernel) rfl
theorem kr_w_m_ChalkRoadsModel_300 : Cond.methodLink RX10 300 (kr_nm i_M_usedThen) ∈ kr_gw := kr_gm (i := 1497) (by decide +kernel) rfl
theorem kr_w_m_ChalkRoadsModel_303 : Cond.methodLink RX10 303 (kr_nm i_M_leftNow) ∈ kr_gw := kr_gm (i := 1485) (by decide +kernel) rfl
theorem kr_w_m_ChalkRoadsModel_306 : Cond.methodLink RX10 306 (kr_nm i_M_findRow) ∈ kr_gw := kr_gm (i := 1489) (by decide +kernel) rfl
theorem kr_w_m_ChalkRoadsModel_309 : Cond.methodLink RX10 309 (kr_nm i_M_canDraw) ∈ kr_gw := kr_gm (i := 1493) (by decide +kernel) rfl
theorem kr_w_m_ChalkRoadsModel_312 : Cond.methodLink RX10 312 (kr_nm i_M_fewestDrawers) ∈ kr_gw := kr_gm (i := 1481) (by decide +kernel) rfl
theorem kr_w_m_ChalkRoadsModel_333 : Cond.methodLink RX10 333 (kr_nm i_M_isBreak) ∈ kr_gw := kr_gm (i := 1518) (by decide +kernel) rfl
theorem kr_w_m_ChalkRoadsModel_338 : Cond.methodLink RX10 338 (kr_nm i_M_findBreaks) ∈ kr_gw := kr_gm (i := 1514) (by decide +kernel) rfl
theorem kr_w_m_ChalkRoadsModel_341 : Cond.methodLink RX10 341 (kr_nm i_M_copies) ∈ kr_gw := kr_gm (i := 1534) (by decide +kernel) rfl
theorem kr_w_m_ChalkRoadsModel_344 : Cond.methodLink RX10 344 (kr_nm i_M_isSheet) ∈ kr_gw := kr_gm (i := 1546) (by decide +kernel) rfl
theorem kr_w_m_ChalkRoadsModel_350 : Cond.methodLink RX10 350 (kr_nm i_M_hear) ∈ kr_gw := kr_gm (i := 1558) (by decide +kernel) rfl
theorem kr_w_m_String_335 : Cond.methodLink RJ0 335 (kr_nm i_J0_coder) ∈ kr_gw := kr_gm (i := 475) (by decide +kernel) rfl
theorem kr_w_m_String_492 : Cond.methodLink RJ0 492 (kr_nm i_J0_isLatin1) ∈ kr_gw := kr_gm (i := 485) (by decide +kernel) rfl
theorem kr_w_m_String_495 : Cond.methodLink RJ0 495 (kr_nm i_J1_charAt) ∈ kr_gw := kr_gm (i := 489) (by decide +kernel) rfl
theorem kr_w_m_String_1059 : Cond.methodLink RJ0 1059 (kr_nm i_J3_checkIndex) ∈ kr_gw := kr_gm (i := 497) (by decide +kernel) rfl
theorem kr_w_m_StringLatin1_9 : Cond.methodLink RJ1 9 (kr_nm i_J0_checkIndex) ∈ kr_gw := kr_gm (i := 492) (by decide +kernel) rfl
theorem kr_w_c_Ways_26 : Cond.constant RX8 26 1048576 ∈ kr_gw := kr_gm (i := 721) (by decide +kernel) rfl
theorem kr_w_c_ChalkRoadsModel_225 : Cond.constant RX10 225 1000000000 ∈ kr_gw := kr_gm (i := 1361) (by decide +kernel) rfl
theorem kr_w_c_Integer_264 : Cond.constant RJ6 264 65536 ∈ kr_gw := kr_gm (i := 776) (by decide +kernel) rfl
theorem kr_w_c_Integer_265 : Cond.constant RJ6 265 1431655765 ∈ kr_gw := kr_gm (i := 862) (by decide +kernel) rfl
theorem kr_w_c_Integer_266 : Cond.constant RJ6 266 858993459 ∈ kr_gw := kr_gm (i := 863) (by decide +kernel) rfl
theorem kr_w_c_Integer_267 : Cond.constant RJ6 267 252645135 ∈ kr_gw := kr_gm (i := 864) (by decide +kernel) rfl
theorem kr_w_c_Rock_86 : Cond.constantLong RX3 86 (-1) ∈ kr_gw := kr_gm (i := 595) (by decide +kernel) rfl
theorem kr_w_c_Tape_19 : Cond.constantLong RX6 19 255 ∈ kr_gw := kr_gm (i := 421) (by decide +kernel) rfl
theorem kr_w_c_ChalkRoadsModel_106 : Cond.constantLong RX10 106 255 ∈ kr_gw := kr_gm (i := 1189) (by decide +kernel) rfl
theorem kr_w_c_ChalkRoadsModel_139 : Cond.constantLong RX10 139 97 ∈ kr_gw := kr_gm (i := 1209) (by decide +kernel) rfl
theorem kr_w_c_ChalkRoadsModel_141 : Cond.constantLong RX10 141 122 ∈ kr_gw := kr_gm (i := 1210) (by decide +kernel) rfl
theorem kr_w_c_ChalkRoadsModel_143 : Cond.constantLong RX10 143 48 ∈ kr_gw := kr_gm (i := 1211) (by decide +kernel) rfl
theorem kr_w_c_ChalkRoadsModel_145 : Cond.constantLong RX10 145 57 ∈ kr_gw := kr_gm (i := 1212) (by decide +kernel) rfl
theorem kr_w_c_ChalkRoadsModel_194 : Cond.constantLong RX10 194 40 ∈ kr_gw := kr_gm (i := 1314) (by decide +kernel) rfl
theorem kr_w_c_ChalkRoadsModel_200 : Cond.constantLong RX10 200 4 ∈ kr_gw := kr_gm (i := 1285) (by decide +kernel) rfl
theorem kr_w_c_ChalkRoadsModel_211 : Cond.constantLong RX10 211 2 ∈ kr_gw := kr_gm (i := 1306) (by decide +kernel) rfl
theorem kr_w_c_ChalkRoadsModel_216 : Cond.constantLong RX10 216 9 ∈ kr_gw := kr_gm (i := 1323) (by decide +kernel) rfl
theorem kr_w_c_ChalkRoadsModel_229 : Cond.constantLong RX10 229 10 ∈ kr_gw := kr_gm (i := 1351) (by decide +kernel) rfl
theorem kr_w_c_ChalkRoadsModel_231 : Cond.constantLong RX10 231 18 ∈ kr_gw := kr_gm (i := 1352) (by decide +kernel) rfl
theorem kr_w_c_ChalkRoadsModel_276 : Cond.constantLong RX10 276 60 ∈ kr_gw := kr_gm (i := 1405) (by decide +kernel) rfl
theorem kr_w_c_ChalkRoadsModel_336 : Cond.constantLong RX10 336 3 ∈ kr_gw := kr_gm (i := 1513) (by decide +kernel) rfl
theorem kr_w_c_ChalkRoadsModel_348 : Cond.constantLong RX10 348 8 ∈ kr_gw := kr_gm (i := 1557) (by decide +kernel) rfl
theorem kr_w_i_M_areLines : Cond.instanceMethod (kr_nm i_M_areLines) ∈ kr_gw := kr_gm (i := 1388) (by decide +kernel) rfl
theorem kr_w_e_M_areLines : Cond.selects RX10 (kr_nm i_M_areLines) (kr_nm i_M_areLines) ∈ kr_gw := kr_gm (i := 30) (by decide +kernel) rfl
theorem kr_mf_M_areLines : kr_mf i_M_areLines 1 := ⟨kr_gm (i := 1389) (by decide +kernel) rfl, kr_gm (i := 60) (by decide +kernel) rfl, by decide +kernel, by decide +kernel, by decide +kernel⟩
theorem kr_w_i_M_areSure : Cond.instanceMethod (kr_nm i_M_areSure) ∈ kr_gw := kr_gm (i := 1471) (by decide +kernel) rfl
theorem kr_w_e_M_areSure : Cond.selects RX10 (kr_nm i_M_areSure) (kr_nm i_M_areSure) ∈ kr_gw := kr_gm (i := 40) (by decide +kernel) rfl
theorem kr_mf_M_areSure : kr_mf i_M_areSure 1 := ⟨kr_gm (i := 1472) (by decide +kernel) rfl, kr_gm (i := 60) (by decide +kernel) rfl, by decide +kernel, by decide +kernel, by decide +kernel⟩
theorem kr_w_i_M_arrives : Cond.instanceMethod (kr_nm i_M_arrives) ∈ kr_gw := kr_gm (i := 1428) (by decide +kernel) rfl
theorem kr_w_e_M_arrives : Cond.selects RX10 (kr_nm i_M_arrives) (kr_nm i_M_arrives) ∈ kr_gw := kr_gm (i := 37) (by decide +kernel) rfl
theorem kr_mf_M_arrives : kr_mf i_M_arrives 2 := ⟨kr_gm (i := 1429) (by decide +kernel) rfl, kr_gm (i := 60) (by decide +kernel) rfl, by decide +kernel, by decide +kernel, by decide +kernel⟩
theorem kr_mf_M_ask : kr_mf i_M_ask 1 := ⟨kr_gm (i := 1529) (by decide +kernel) rfl, kr_gm (i := 60) (by decide +kernel) rfl, by decide +kernel, by decide +kernel, by decide +kernel⟩
theorem kr_mf_M_back : kr_mf i_M_back 1 := ⟨kr_gm (i := 1541) (by decide +kernel) rfl, kr_gm (i := 60) (by decide +kernel) rfl, by decide +kernel, by decide +kernel, by decide +kernel⟩
theorem kr_w_s_M_bitsOf : Cond.static (kr_nm i_M_bitsOf) ∈ kr_gw := kr_gm (i := 1455) (by decide +kernel) rfl
theorem kr_mf_M_bitsOf : kr_mf i_M_bitsOf 1 := ⟨kr_gm (i := 1456) (by decide +kernel) rfl, kr_gm (i := 60) (by decide +kernel) rfl, by decide +kernel, by decide +kernel, by decide +kernel⟩
theorem kr_mf_M_breaks : kr_mf i_M_breaks 1 := ⟨kr_gm (i := 1512) (by decide +kernel) rfl, kr_gm (i := 60) (by decide +kernel) rfl, by decide +kernel, by decide +kernel, by decide +kernel⟩
theorem kr_mf_M_build : kr_mf i_M_build 2 := ⟨kr_gm (i := 1338) (by decide +kernel) rfl, kr_gm (i := 60) (by decide +kernel) rfl, by decide +kernel, by decide +kernel, by decide +kernel⟩
theorem kr_w_i_M_canDraw : Cond.instanceMethod (kr_nm i_M_canDraw) ∈ kr_gw := kr_gm (i := 1495) (by decide +kernel) rfl
theorem kr_w_e_M_canDraw : Cond.selects RX10 (kr_nm i_M_canDraw) (kr_nm i_M_canDraw) ∈ kr_gw := kr_gm (i := 44) (by decide +kernel) rfl
theorem kr_mf_M_canDraw : kr_mf i_M_canDraw 1 := ⟨kr_gm (i := 1496) (by decide +kernel) rfl, kr_gm (i := 60) (by decide +kernel) rfl, by decide +kernel, by decide +kernel, by decide +kernel⟩
theorem kr_mf_M_chalk : kr_mf i_M_chalk 1 := ⟨kr_gm (i := 1293) (by decide +kernel) rfl, kr_gm (i := 60) (by decide +kernel) rfl, by decide +kernel, by decide +kernel, by decide +kernel⟩
theorem kr_mf_M_cloud : kr_mf i_M_cloud 2 := ⟨kr_gm (i := 1331) (by decide +kernel) rfl, kr_gm (i := 60) (by decide +kernel) rfl, by decide +kernel, by decide +kernel, by decide +kernel⟩
theorem kr_mf_M_comes : kr_mf i_M_comes 1 := ⟨kr_gm (i := 1437) (by decide +kernel) rfl, kr_gm (i := 60) (by decide +kernel) rfl, by decide +kernel, by decide +kernel, by decide +kernel⟩
theorem kr_w_i_M_copies : Cond.instanceMethod (kr_nm i_M_copies) ∈ kr_gw := kr_gm (i := 1536) (by decide +kernel) rfl
theorem kr_w_e_M_copies : Cond.selects RX10 (kr_nm i_M_copies) (kr_nm i_M_copies) ∈ kr_gw := kr_gm (i := 48) (by decide +kernel) rfl
theorem kr_mf_M_copies : kr_mf i_M_copies 2 := ⟨kr_gm (i := 1537) (by decide +kernel) rfl, kr_gm (i := 60) (by decide +kernel) rfl, by decide +kernel, by decide +kernel, by decide +kernel⟩
theorem kr_mf_M_count : kr_mf i_M_count 1 := ⟨kr_gm (i := 1566) (by decide +kernel) rfl, kr_gm (i := 60) (by decide +kernel) rfl, by decide +kernel, by decide +kernel, by decide +kernel⟩
theorem kr_mf_M_dawn : kr_mf i_M_dawn 1 := ⟨kr_gm (i := 1460) (by decide +kernel) rfl, kr_gm (i := 60) (by decide +kernel) rfl, by decide +kernel, by decide +kernel, by decide +kernel⟩
theorem kr_w_i_M_doMeet : Cond.instanceMethod (kr_nm i_M_doMeet) ∈ kr_gw := kr_gm (i := 1392) (by decide +kernel) rfl
theorem kr_w_e_M_doMeet : Cond.selects RX10 (kr_nm i_M_doMeet) (kr_nm i_M_doMeet) ∈ kr_gw := kr_gm (i := 31) (by decide +kernel) rfl
theorem kr_mf_M_doMeet : kr_mf i_M_doMeet 1 := ⟨kr_gm (i := 1393) (by decide +kernel) rfl, kr_gm (i := 60) (by decide +kernel) rfl, by decide +kernel, by decide +kernel, by decide +kernel⟩
theorem kr_mf_M_draw : kr_mf i_M_draw 2 := ⟨kr_gm (i := 1318) (by decide +kernel) rfl, kr_gm (i := 60) (by decide +kernel) rfl, by decide +kernel, by decide +kernel, by decide +kernel⟩
theorem kr_mf_M_end : kr_mf i_M_end 1 := ⟨kr_gm (i := 1193) (by decide +kernel) rfl, kr_gm (i := 60) (by decide +kernel) rfl, by decide +kernel, by decide +kernel, by decide +kernel⟩
theorem kr_w_i_M_ends : Cond.instanceMethod (kr_nm i_M_ends) ∈ kr_gw := kr_gm (i := 1231) (by decide +kernel) rfl
theorem kr_w_e_M_ends : Cond.selects RX10 (kr_nm i_M_ends) (kr_nm i_M_ends) ∈ kr_gw := kr_gm (i := 9) (by decide +kernel) rfl
theorem kr_mf_M_ends : kr_mf i_M_ends 3 := ⟨kr_gm (i := 1232) (by decide +kernel) rfl, kr_gm (i := 60) (by decide +kernel) rfl, by decide +kernel, by decide +kernel, by decide +kernel⟩
theorem kr_mf_M_fault : kr_mf i_M_fault 0 := ⟨kr_gm (i := 1272) (by decide +kernel) rfl, kr_gm (i := 60) (by decide +kernel) rfl, by decide +kernel, by decide +kernel, by decide +kernel⟩
theorem kr_mf_M_feed : kr_mf i_M_feed 1 := ⟨kr_gm (i := 1188) (by decide +kernel) rfl, kr_gm (i := 60) (by decide +kernel) rfl, by decide +kernel, by decide +kernel, by decide +kernel⟩
theorem kr_w_i_M_fewestDrawers : Cond.instanceMethod (kr_nm i_M_fewestDrawers) ∈ kr_gw := kr_gm (i := 1483) (by decide +kernel) rfl
theorem kr_w_e_M_fewestDrawers : Cond.selects RX10 (kr_nm i_M_fewestDrawers) (kr_nm i_M_fewestDrawers) ∈ kr_gw := kr_gm (i := 41) (by decide +kernel) rfl
theorem kr_mf_M_fewestDrawers : kr_mf i_M_fewestDrawers 1 := ⟨kr_gm (i := 1484) (by decide +kernel) rfl, kr_gm (i := 60) (by decide +kernel) rfl, by decide +kernel, by decide +kernel, by decide +kernel⟩
theorem kr_w_i_M_findBreaks : Cond.instanceMethod (kr_nm i_M_findBreaks) ∈ kr_gw := kr_gm (i := 1516) (by decide +kernel) rfl
theorem kr_w_e_M_findBreaks : Cond.selects RX10 (kr_nm i_M_findBreaks) (kr_nm i_M_findBreaks) ∈ kr_gw := kr_gm (i := 46) (by decide +kernel) rfl
theorem kr_mf_M_findBreaks : kr_mf i_M_findBreaks 0 := ⟨kr_gm (i := 1517) (by decide +kernel) rfl, kr_gm (i := 60) (by decide +kernel) rfl, by decide +kernel, by decide +kernel, by decide +kernel⟩
theorem kr_w_i_M_findDawn : Cond.instanceMethod (kr_nm i_M_findDawn) ∈ kr_gw := kr_gm (i := 1463) (by decide +kernel) rfl
theorem kr_w_e_M_findDawn : Cond.selects RX10 (kr_nm i_M_findDawn) (kr_nm i_M_findDawn) ∈ kr_gw := kr_gm (i := 38) (by decide +kernel) rfl
theorem kr_mf_M_findDawn : kr_mf i_M_findDawn 2 := ⟨kr_gm (i := 1464) (by decide +kernel) rfl, kr_gm (i := 60) (by decide +kernel) rfl, by decide +kernel, by decide +kernel, by decide +kernel⟩
theorem kr_w_i_M_findLeast : Cond.instanceMethod (kr_nm i_M_findLeast) ∈ kr_gw := kr_gm (i := 1359) (by decide +kernel) rfl
theorem kr_w_e_M_findLeast : Cond.selects RX10 (kr_nm i_M_findLeast) (kr_nm i_M_findLeast) ∈ kr_gw := kr_gm (i := 25) (by decide +kernel) rfl
theorem kr_mf_M_findLeast : kr_mf i_M_findLeast 1 := ⟨kr_gm (i := 1360) (by decide +kernel) rfl, kr_gm (i := 60) (by decide +kernel) rfl, by decide +kernel, by decide +kernel, by decide +kernel⟩
theorem kr_w_i_M_findRow : Cond.instanceMethod (kr_nm i_M_findRow) ∈ kr_gw := kr_gm (i := 1491) (by decide +kernel) rfl
theorem kr_w_e_M_findRow : Cond.selects RX10 (kr_nm i_M_findRow) (kr_nm i_M_findRow) ∈ kr_gw := kr_gm (i := 43) (by decide +kernel) rfl
theorem kr_mf_M_findRow : kr_mf i_M_findRow 1 := ⟨kr_gm (i := 1492) (by decide +kernel) rfl, kr_gm (i := 60) (by decide +kernel) rfl, by decide +kernel, by decide +kernel, by decide +kernel⟩
theorem kr_w_i_M_firstDraft : Cond.instanceMethod (kr_nm i_M_firstDraft) ∈ kr_gw := kr_gm (i := 1042) (by decide +kernel) rfl
theorem kr_w_e_M_firstDraft : Cond.selects RX10 (kr_nm i_M_firstDraft) (kr_nm i_M_firstDraft) ∈ kr_gw := kr_gm (i := 1) (by decide +kernel) rfl
theorem kr_mf_M_firstDraft : kr_mf i_M_firstDraft 0 := ⟨kr_gm (i := 1043) (by decide +kernel) rfl, kr_gm (i := 60) (by decide +kernel) rfl, by decide +kernel, by decide +kernel, by decide +kernel⟩
theorem kr_w_i_M_firstLine : Cond.instanceMethod (kr_nm i_M_firstLine) ∈ kr_gw := kr_gm (i := 1364) (by decide +kernel) rfl
theorem kr_w_e_M_firstLine : Cond.selects RX10 (kr_nm i_M_firstLine) (kr_nm i_M_firstLine) ∈ kr_gw := kr_gm (i := 26) (by decide +kernel) rfl
theorem kr_mf_M_firstLine : kr_mf i_M_firstLine 1 := ⟨kr_gm (i := 1365) (by decide +kernel) rfl, kr_gm (i := 60) (by decide +kernel) rfl, by decide +kernel, by decide +kernel, by decide +kernel⟩
theorem kr_w_s_M_flag : Cond.static (kr_nm i_M_flag) ∈ kr_gw := kr_gm (i := 1333) (by decide +kernel) rfl
theorem kr_mf_M_flag : kr_mf i_M_flag 1 := ⟨kr_gm (i := 1334) (by decide +kernel) rfl, kr_gm (i := 60) (by decide +kernel) rfl, by decide +kernel, by decide +kernel, by decide +kernel⟩
theorem kr_mf_M_forget : kr_mf i_M_forget 1 := ⟨kr_gm (i := 1508) (by decide +kernel) rfl, kr_gm (i := 60) (by decide +kernel) rfl, by decide +kernel, by decide +kernel, by decide +kernel⟩
theorem kr_w_i_M_goesOne : Cond.instanceMethod (kr_nm i_M_goesOne) ∈ kr_gw := kr_gm (i := 1424) (by decide +kernel) rfl
theorem kr_w_e_M_goesOne : Cond.selects RX10 (kr_nm i_M_goesOne) (kr_nm i_M_goesOne) ∈ kr_gw := kr_gm (i := 36) (by decide +kernel) rfl
theorem kr_mf_M_goesOne : kr_mf i_M_goesOne 2 := ⟨kr_gm (i := 1425) (by decide +kernel) rfl, kr_gm (i := 60) (by decide +kernel) rfl, by decide +kernel, by decide +kernel, by decide +kernel⟩
theorem kr_w_i_M_hear : Cond.instanceMethod (kr_nm i_M_hear) ∈ kr_gw := kr_gm (i := 1502) (by decide +kernel) rfl
theorem kr_w_e_M_hear : Cond.selects RX10 (kr_nm i_M_hear) (kr_nm i_M_hear) ∈ kr_gw := kr_gm (i := 1503) (by decide +kernel) rfl
theorem kr_mf_M_hear : kr_mf i_M_hear 2 := ⟨kr_gm (i := 1504) (by decide +kernel) rfl, kr_gm (i := 60) (by decide +kernel) rfl, by decide +kernel, by decide +kernel, by decide +kernel⟩
theorem kr_w_s_M_in : Cond.static (kr_nm i_M_in) ∈ kr_gw := kr_gm (i := 1195) (by decide +kernel) rfl
theorem kr_mf_M_in : kr_mf i_M_in 3 := ⟨kr_gm (i := 1196) (by decide +kernel) rfl, kr_gm (i := 60) (by decide +kernel) rfl, by decide +kernel, by decide +kernel, by decide +kernel⟩
theorem kr_w_i_M_is : Cond.instanceMethod (kr_nm i_M_is) ∈ kr_gw := kr_gm (i := 1227) (by decide +kernel) rfl
theorem kr_w_e_M_is : Cond.selects RX10 (kr_nm i_M_is) (kr_nm i_M_is) ∈ kr_gw := kr_gm (i := 8) (by decide +kernel) rfl
theorem kr_mf_M_is : kr_mf i_M_is 4 := ⟨kr_gm (i := 1228) (by decide +kernel) rfl, kr_gm (i := 60) (by decide +kernel) rfl, by decide +kernel, by decide +kernel, by decide +kernel⟩
theorem kr_w_i_M_isBreak : Cond.instanceMethod (kr_nm i_M_isBreak) ∈ kr_gw := kr_gm (i := 1520) (by decide +kernel) rfl
theorem kr_w_e_M_isBreak : Cond.selects RX10 (kr_nm i_M_isBreak) (kr_nm i_M_isBreak) ∈ kr_gw := kr_gm (i := 47) (by decide +kernel) rfl
theorem kr_mf_M_isBreak : kr_mf i_M_isBreak 1 := ⟨kr_gm (i := 1521) (by decide +kernel) rfl, kr_gm (i := 60) (by decide +kernel) rfl, by decide +kernel, by decide +kernel, by decide +kernel⟩
theorem kr_w_i_M_isDrawer : Cond.instanceMethod (kr_nm i_M_isDrawer) ∈ kr_gw := kr_gm (i := 1296) (by decide +kernel) rfl
theorem kr_w_e_M_isDrawer : Cond.selects RX10 (kr_nm i_M_isDrawer) (kr_nm i_M_isDrawer) ∈ kr_gw := kr_gm (i := 21) (by decide +kernel) rfl
theorem kr_mf_M_isDrawer : kr_mf i_M_isDrawer 1 := ⟨kr_gm (i := 1297) (by decide +kernel) rfl, kr_gm (i := 60) (by decide +kernel) rfl, by decide +kernel, by decide +kernel, by decide +kernel⟩
theorem kr_w_i_M_isLine : Cond.instanceMethod (kr_nm i_M_isLine) ∈ kr_gw := kr_gm (i := 1283) (by decide +kernel) rfl
theorem kr_w_e_M_isLine : Cond.selects RX10 (kr_nm i_M_isLine) (kr_nm i_M_isLine) ∈ kr_gw := kr_gm (i := 19) (by decide +kernel) rfl
theorem kr_mf_M_isLine : kr_mf i_M_isLine 1 := ⟨kr_gm (i := 1284) (by decide +kernel) rfl, kr_gm (i := 60) (by decide +kernel) rfl, by decide +kernel, by decide +kernel, by decide +kernel⟩
theorem kr_w_i_M_isOne : Cond.instanceMethod (kr_nm i_M_isOne) ∈ kr_gw := kr_gm (i := 1304) (by decide +kernel) rfl
theorem kr_w_e_M_isOne : Cond.selects RX10 (kr_nm i_M_isOne) (kr_nm i_M_isOne) ∈ kr_gw := kr_gm (i := 22) (by decide +kernel) rfl
theorem kr_mf_M_isOne : kr_mf i_M_isOne 1 := ⟨kr_gm (i := 1305) (by decide +kernel) rfl, kr_gm (i := 60) (by decide +kernel) rfl, by decide +kernel, by decide +kernel, by decide +kernel⟩
theorem kr_w_i_M_isPoint : Cond.instanceMethod (kr_nm i_M_isPoint) ∈ kr_gw := kr_gm (i := 1341) (by decide +kernel) rfl
theorem kr_w_e_M_isPoint : Cond.selects RX10 (kr_nm i_M_isPoint) (kr_nm i_M_isPoint) ∈ kr_gw := kr_gm (i := 23) (by decide +kernel) rfl
theorem kr_mf_M_isPoint : kr_mf i_M_isPoint 1 := ⟨kr_gm (i := 1342) (by decide +kernel) rfl, kr_gm (i := 60) (by decide +kernel) rfl, by decide +kernel, by decide +kernel, by decide +kernel⟩
theorem kr_w_s_M_isQuarter : Cond.static (kr_nm i_M_isQuarter) ∈ kr_gw := kr_gm (i := 1403) (by decide +kernel) rfl
theorem kr_mf_M_isQuarter : kr_mf i_M_isQuarter 1 := ⟨kr_gm (i := 1404) (by decide +kernel) rfl, kr_gm (i := 60) (by decide +kernel) rfl, by decide +kernel, by decide +kernel, by decide +kernel⟩
theorem kr_w_s_M_isRainy : Cond.static (kr_nm i_M_isRainy) ∈ kr_gw := kr_gm (i := 1312) (by decide +kernel) rfl
theorem kr_mf_M_isRainy : kr_mf i_M_isRainy 1 := ⟨kr_gm (i := 1313) (by decide +kernel) rfl, kr_gm (i := 60) (by decide +kernel) rfl, by decide +kernel, by decide +kernel, by decide +kernel⟩
theorem kr_w_i_M_isRoof : Cond.instanceMethod (kr_nm i_M_isRoof) ∈ kr_gw := kr_gm (i := 1263) (by decide +kernel) rfl
theorem kr_w_e_M_isRoof : Cond.selects RX10 (kr_nm i_M_isRoof) (kr_nm i_M_isRoof) ∈ kr_gw := kr_gm (i := 17) (by decide +kernel) rfl
theorem kr_mf_M_isRoof : kr_mf i_M_isRoof 0 := ⟨kr_gm (i := 1264) (by decide +kernel) rfl, kr_gm (i := 60) (by decide +kernel) rfl, by decide +kernel, by decide +kernel, by decide +kernel⟩
theorem kr_w_s_M_isSheet : Cond.static (kr_nm i_M_isSheet) ∈ kr_gw := kr_gm (i := 1547) (by decide +kernel) rfl
theorem kr_mf_M_isSheet : kr_mf i_M_isSheet 2 := ⟨kr_gm (i := 1548) (by decide +kernel) rfl, kr_gm (i := 60) (by decide +kernel) rfl, by decide +kernel, by decide +kernel, by decide +kernel⟩
theorem kr_mf_M_keep : kr_mf i_M_keep 1 := ⟨kr_gm (i := 1533) (by decide +kernel) rfl, kr_gm (i := 60) (by decide +kernel) rfl, by decide +kernel, by decide +kernel, by decide +kernel⟩
theorem kr_w_i_M_keepDraft : Cond.instanceMethod (kr_nm i_M_keepDraft) ∈ kr_gw := kr_gm (i := 1046) (by decide +kernel) rfl
theorem kr_w_e_M_keepDraft : Cond.selects RX10 (kr_nm i_M_keepDraft) (kr_nm i_M_keepDraft) ∈ kr_gw := kr_gm (i := 2) (by decide +kernel) rfl
theorem kr_mf_M_keepDraft : kr_mf i_M_keepDraft 0 := ⟨kr_gm (i := 1047) (by decide +kernel) rfl, kr_gm (i := 60) (by decide +kernel) rfl, by decide +kernel, by decide +kernel, by decide +kernel⟩
theorem kr_mf_M_known : kr_mf i_M_known 1 := ⟨kr_gm (i := 1525) (by decide +kernel) rfl, kr_gm (i := 60) (by decide +kernel) rfl, by decide +kernel, by decide +kernel, by decide +kernel⟩
theorem kr_mf_M_lay : kr_mf i_M_lay 3 := ⟨kr_gm (i := 1552) (by decide +kernel) rfl, kr_gm (i := 60) (by decide +kernel) rfl, by decide +kernel, by decide +kernel, by decide +kernel⟩
theorem kr_w_i_M_leftNow : Cond.instanceMethod (kr_nm i_M_leftNow) ∈ kr_gw := kr_gm (i := 1487) (by decide +kernel) rfl
theorem kr_w_e_M_leftNow : Cond.selects RX10 (kr_nm i_M_leftNow) (kr_nm i_M_leftNow) ∈ kr_gw := kr_gm (i := 42) (by decide +kernel) rfl
theorem kr_mf_M_leftNow : kr_mf i_M_leftNow 0 := ⟨kr_gm (i := 1488) (by decide +kernel) rfl, kr_gm (i := 60) (by decide +kernel) rfl, by decide +kernel, by decide +kernel, by decide +kernel⟩
theorem kr_mf_M_line : kr_mf i_M_line 2 := ⟨kr_gm (i := 1280) (by decide +kernel) rfl, kr_gm (i := 60) (by decide +kernel) rfl, by decide +kernel, by decide +kernel, by decide +kernel⟩
theorem kr_w_i_M_lineNow : Cond.instanceMethod (kr_nm i_M_lineNow) ∈ kr_gw := kr_gm (i := 1223) (by decide +kernel) rfl
theorem kr_w_e_M_lineNow : Cond.selects RX10 (kr_nm i_M_lineNow) (kr_nm i_M_lineNow) ∈ kr_gw := kr_gm (i := 7) (by decide +kernel) rfl
theorem kr_mf_M_lineNow : kr_mf i_M_lineNow 0 := ⟨kr_gm (i := 1224) (by decide +kernel) rfl, kr_gm (i := 60) (by decide +kernel) rfl, by decide +kernel, by decide +kernel, by decide +kernel⟩
theorem kr_w_i_M_look : Cond.instanceMethod (kr_nm i_M_look) ∈ kr_gw := kr_gm (i := 1207) (by decide +kernel) rfl
theorem kr_w_e_M_look : Cond.selects RX10 (kr_nm i_M_look) (kr_nm i_M_look) ∈ kr_gw := kr_gm (i := 4) (by decide +kernel) rfl
theorem kr_mf_M_look : kr_mf i_M_look 1 := ⟨kr_gm (i := 1208) (by decide +kernel) rfl, kr_gm (i := 60) (by decide +kernel) rfl, by decide +kernel, by decide +kernel, by decide +kernel⟩
theorem kr_w_i_M_looked : Cond.instanceMethod (kr_nm i_M_looked) ∈ kr_gw := kr_gm (i := 1243) (by decide +kernel) rfl
theorem kr_w_e_M_looked : Cond.selects RX10 (kr_nm i_M_looked) (kr_nm i_M_looked) ∈ kr_gw := kr_gm (i := 12) (by decide +kernel) rfl
theorem kr_mf_M_looked : kr_mf i_M_looked 2 := ⟨kr_gm (i := 1244) (by decide +kernel) rfl, kr_gm (i := 60) (by decide +kernel) rfl, by decide +kernel, by decide +kernel, by decide +kernel⟩
theorem kr_w_i_M_lookedPoint : Cond.instanceMethod (kr_nm i_M_lookedPoint) ∈ kr_gw := kr_gm (i := 1247) (by decide +kernel) rfl
theorem kr_w_e_M_lookedPoint : Cond.selects RX10 (kr_nm i_M_lookedPoint) (kr_nm i_M_lookedPoint) ∈ kr_gw := kr_gm (i := 13) (by decide +kernel) rfl
theorem kr_mf_M_lookedPoint : kr_mf i_M_lookedPoint 0 := ⟨kr_gm (i := 1248) (by decide +kernel) rfl, kr_gm (i := 60) (by decide +kernel) rfl, by decide +kernel, by decide +kernel, by decide +kernel⟩
theorem kr_w_i_M_loses : Cond.instanceMethod (kr_nm i_M_loses) ∈ kr_gw := kr_gm (i := 1420) (by decide +kernel) rfl
theorem kr_w_e_M_loses : Cond.selects RX10 (kr_nm i_M_loses) (kr_nm i_M_loses) ∈ kr_gw := kr_gm (i := 35) (by decide +kernel) rfl
theorem kr_mf_M_loses : kr_mf i_M_loses 0 := ⟨kr_gm (i := 1421) (by decide +kernel) rfl, kr_gm (i := 60) (by decide +kernel) rfl, by decide +kernel, by decide +kernel, by decide +kernel⟩
theorem kr_mf_M_lost : kr_mf i_M_lost 1 := ⟨kr_gm (i := 1445) (by decide +kernel) rfl, kr_gm (i := 60) (by decide +kernel) rfl, by decide +kernel, by decide +kernel, by decide +kernel⟩
theorem kr_mf_M_meet : kr_mf i_M_meet 1 := ⟨kr_gm (i := 1385) (by decide +kernel) rfl, kr_gm (i := 60) (by decide +kernel) rfl, by decide +kernel, by decide +kernel, by decide +kernel⟩
theorem kr_mf_M_needed : kr_mf i_M_needed 0 := ⟨kr_gm (i := 1397) (by decide +kernel) rfl, kr_gm (i := 60) (by decide +kernel) rfl, by decide +kernel, by decide +kernel, by decide +kernel⟩
theorem kr_w_i_M_needs : Cond.instanceMethod (kr_nm i_M_needs) ∈ kr_gw := kr_gm (i := 1215) (by decide +kernel) rfl
theorem kr_w_e_M_needs : Cond.selects RX10 (kr_nm i_M_needs) (kr_nm i_M_needs) ∈ kr_gw := kr_gm (i := 5) (by decide +kernel) rfl
theorem kr_mf_M_needs : kr_mf i_M_needs 2 := ⟨kr_gm (i := 1216) (by decide +kernel) rfl, kr_gm (i := 60) (by decide +kernel) rfl, by decide +kernel, by decide +kernel, by decide +kernel⟩
theorem kr_w_i_M_next : Cond.instanceMethod (kr_nm i_M_next) ∈ kr_gw := kr_gm (i := 1203) (by decide +kernel) rfl
theorem kr_w_e_M_next : Cond.selects RX10 (kr_nm i_M_next) (kr_nm i_M_next) ∈ kr_gw := kr_gm (i := 3) (by decide +kernel) rfl
theorem kr_mf_M_next : kr_mf i_M_next 0 := ⟨kr_gm (i := 1204) (by decide +kernel) rfl, kr_gm (i := 60) (by decide +kernel) rfl, by decide +kernel, by decide +kernel, by decide +kernel⟩
theorem kr_w_i_M_of : Cond.instanceMethod (kr_nm i_M_of) ∈ kr_gw := kr_gm (i := 1288) (by decide +kernel) rfl
theorem kr_w_e_M_of : Cond.selects RX10 (kr_nm i_M_of) (kr_nm i_M_of) ∈ kr_gw := kr_gm (i := 20) (by decide +kernel) rfl
theorem kr_mf_M_of : kr_mf i_M_of 2 := ⟨kr_gm (i := 1289) (by decide +kernel) rfl, kr_gm (i := 60) (by decide +kernel) rfl, by decide +kernel, by decide +kernel, by decide +kernel⟩
theorem kr_mf_M_one : kr_mf i_M_one 2 := ⟨kr_gm (i := 1301) (by decide +kernel) rfl, kr_gm (i := 60) (by decide +kernel) rfl, by decide +kernel, by decide +kernel, by decide +kernel⟩
theorem kr_w_i_M_otherEnd : Cond.instanceMethod (kr_nm i_M_otherEnd) ∈ kr_gw := kr_gm (i := 1368) (by decide +kernel) rfl
theorem kr_w_e_M_otherEnd : Cond.selects RX10 (kr_nm i_M_otherEnd) (kr_nm i_M_otherEnd) ∈ kr_gw := kr_gm (i := 27) (by decide +kernel) rfl
theorem kr_mf_M_otherEnd : kr_mf i_M_otherEnd 2 := ⟨kr_gm (i := 1369) (by decide +kernel) rfl, kr_gm (i := 60) (by decide +kernel) rfl, by decide +kernel, by decide +kernel, by decide +kernel⟩
theorem kr_mf_M_part : kr_mf i_M_part 1 := ⟨kr_gm (i := 1373) (by decide +kernel) rfl, kr_gm (i := 60) (by decide +kernel) rfl, by decide +kernel, by decide +kernel, by decide +kernel⟩
theorem kr_w_i_M_partOf : Cond.instanceMethod (kr_nm i_M_partOf) ∈ kr_gw := kr_gm (i := 1380) (by decide +kernel) rfl
theorem kr_w_e_M_partOf : Cond.selects RX10 (kr_nm i_M_partOf) (kr_nm i_M_partOf) ∈ kr_gw := kr_gm (i := 29) (by decide +kernel) rfl
theorem kr_mf_M_partOf : kr_mf i_M_partOf 2 := ⟨kr_gm (i := 1381) (by decide +kernel) rfl, kr_gm (i := 60) (by decide +kernel) rfl, by decide +kernel, by decide +kernel, by decide +kernel⟩
theorem kr_mf_M_plan : kr_mf i_M_plan 3 := ⟨kr_gm (i := 1346) (by decide +kernel) rfl, kr_gm (i := 60) (by decide +kernel) rfl, by decide +kernel, by decide +kernel, by decide +kernel⟩
theorem kr_mf_M_rain : kr_mf i_M_rain 1 := ⟨kr_gm (i := 1310) (by decide +kernel) rfl, kr_gm (i := 60) (by decide +kernel) rfl, by decide +kernel, by decide +kernel, by decide +kernel⟩
theorem kr_w_i_M_rains : Cond.instanceMethod (kr_nm i_M_rains) ∈ kr_gw := kr_gm (i := 1416) (by decide +kernel) rfl
theorem kr_w_e_M_rains : Cond.selects RX10 (kr_nm i_M_rains) (kr_nm i_M_rains) ∈ kr_gw := kr_gm (i := 34) (by decide +kernel) rfl
theorem kr_mf_M_rains : kr_mf i_M_rains 0 := ⟨kr_gm (i := 1417) (by decide +kernel) rfl, kr_gm (i := 60) (by decide +kernel) rfl, by decide +kernel, by decide +kernel, by decide +kernel⟩
theorem kr_mf_M_read : kr_mf i_M_read 4 := ⟨kr_gm (i := 1556) (by decide +kernel) rfl, kr_gm (i := 60) (by decide +kernel) rfl, by decide +kernel, by decide +kernel, by decide +kernel⟩
theorem kr_w_i_M_readLine : Cond.instanceMethod (kr_nm i_M_readLine) ∈ kr_gw := kr_gm (i := 1219) (by decide +kernel) rfl
theorem kr_w_e_M_readLine : Cond.selects RX10 (kr_nm i_M_readLine) (kr_nm i_M_readLine) ∈ kr_gw := kr_gm (i := 6) (by decide +kernel) rfl
theorem kr_mf_M_readLine : kr_mf i_M_readLine 0 := ⟨kr_gm (i := 1220) (by decide +kernel) rfl, kr_gm (i := 60) (by decide +kernel) rfl, by decide +kernel, by decide +kernel, by decide +kernel⟩
theorem kr_w_i_M_readLineAt : Cond.instanceMethod (kr_nm i_M_readLineAt) ∈ kr_gw := kr_gm (i := 1251) (by decide +kernel) rfl
theorem kr_w_e_M_readLineAt : Cond.selects RX10 (kr_nm i_M_readLineAt) (kr_nm i_M_readLineAt) ∈ kr_gw := kr_gm (i := 14) (by decide +kernel) rfl
theorem kr_mf_M_readLineAt : kr_mf i_M_readLineAt 0 := ⟨kr_gm (i := 1252) (by decide +kernel) rfl, kr_gm (i := 60) (by decide +kernel) rfl, by decide +kernel, by decide +kernel, by decide +kernel⟩
theorem kr_w_i_M_readLineOf : Cond.instanceMethod (kr_nm i_M_readLineOf) ∈ kr_gw := kr_gm (i := 1235) (by decide +kernel) rfl
theorem kr_w_e_M_readLineOf : Cond.selects RX10 (kr_nm i_M_readLineOf) (kr_nm i_M_readLineOf) ∈ kr_gw := kr_gm (i := 10) (by decide +kernel) rfl
theorem kr_mf_M_readLineOf : kr_mf i_M_readLineOf 1 := ⟨kr_gm (i := 1236) (by decide +kernel) rfl, kr_gm (i := 60) (by decide +kernel) rfl, by decide +kernel, by decide +kernel, by decide +kernel⟩
theorem kr_w_i_M_readNumber : Cond.instanceMethod (kr_nm i_M_readNumber) ∈ kr_gw := kr_gm (i := 1239) (by decide +kernel) rfl
theorem kr_w_e_M_readNumber : Cond.selects RX10 (kr_nm i_M_readNumber) (kr_nm i_M_readNumber) ∈ kr_gw := kr_gm (i := 11) (by decide +kernel) rfl
theorem kr_mf_M_readNumber : kr_mf i_M_readNumber 2 := ⟨kr_gm (i := 1240) (by decide +kernel) rfl, kr_gm (i := 60) (by decide +kernel) rfl, by decide +kernel, by decide +kernel, by decide +kernel⟩
theorem kr_w_i_M_readOne : Cond.instanceMethod (kr_nm i_M_readOne) ∈ kr_gw := kr_gm (i := 1267) (by decide +kernel) rfl
theorem kr_w_e_M_readOne : Cond.selects RX10 (kr_nm i_M_readOne) (kr_nm i_M_readOne) ∈ kr_gw := kr_gm (i := 18) (by decide +kernel) rfl
theorem kr_mf_M_readOne : kr_mf i_M_readOne 0 := ⟨kr_gm (i := 1268) (by decide +kernel) rfl, kr_gm (i := 60) (by decide +kernel) rfl, by decide +kernel, by decide +kernel, by decide +kernel⟩
theorem kr_w_i_M_readOther : Cond.instanceMethod (kr_nm i_M_readOther) ∈ kr_gw := kr_gm (i := 1259) (by decide +kernel) rfl
theorem kr_w_e_M_readOther : Cond.selects RX10 (kr_nm i_M_readOther) (kr_nm i_M_readOther) ∈ kr_gw := kr_gm (i := 16) (by decide +kernel) rfl
theorem kr_mf_M_readOther : kr_mf i_M_readOther 1 := ⟨kr_gm (i := 1260) (by decide +kernel) rfl, kr_gm (i := 60) (by decide +kernel) rfl, by decide +kernel, by decide +kernel, by decide +kernel⟩
theorem kr_w_i_M_readPoint : Cond.instanceMethod (kr_nm i_M_readPoint) ∈ kr_gw := kr_gm (i := 1255) (by decide +kernel) rfl
theorem kr_w_e_M_readPoint : Cond.selects RX10 (kr_nm i_M_readPoint) (kr_nm i_M_readPoint) ∈ kr_gw := kr_gm (i := 15) (by decide +kernel) rfl
theorem kr_mf_M_readPoint : kr_mf i_M_readPoint 0 := ⟨kr_gm (i := 1256) (by decide +kernel) rfl, kr_gm (i := 60) (by decide +kernel) rfl, by decide +kernel, by decide +kernel, by decide +kernel⟩
theorem kr_mf_M_rub : kr_mf i_M_rub 2 := ⟨kr_gm (i := 1322) (by decide +kernel) rfl, kr_gm (i := 60) (by decide +kernel) rfl, by decide +kernel, by decide +kernel, by decide +kernel⟩
theorem kr_mf_M_rule : kr_mf i_M_rule 1 := ⟨kr_gm (i := 1276) (by decide +kernel) rfl, kr_gm (i := 60) (by decide +kernel) rfl, by decide +kernel, by decide +kernel, by decide +kernel⟩
theorem kr_w_i_M_runs : Cond.instanceMethod (kr_nm i_M_runs) ∈ kr_gw := kr_gm (i := 1408) (by decide +kernel) rfl
theorem kr_w_e_M_runs : Cond.selects RX10 (kr_nm i_M_runs) (kr_nm i_M_runs) ∈ kr_gw := kr_gm (i := 32) (by decide +kernel) rfl
theorem kr_mf_M_runs : kr_mf i_M_runs 1 := ⟨kr_gm (i := 1409) (by decide +kernel) rfl, kr_gm (i := 60) (by decide +kernel) rfl, by decide +kernel, by decide +kernel, by decide +kernel⟩
theorem kr_mf_M_share : kr_mf i_M_share 2 := ⟨kr_gm (i := 1480) (by decide +kernel) rfl, kr_gm (i := 60) (by decide +kernel) rfl, by decide +kernel, by decide +kernel, by decide +kernel⟩
theorem kr_mf_M_sheet : kr_mf i_M_sheet 3 := ⟨kr_gm (i := 1545) (by decide +kernel) rfl, kr_gm (i := 60) (by decide +kernel) rfl, by decide +kernel, by decide +kernel, by decide +kernel⟩
theorem kr_w_i_M_startRun : Cond.instanceMethod (kr_nm i_M_startRun) ∈ kr_gw := kr_gm (i := 1412) (by decide +kernel) rfl
theorem kr_w_e_M_startRun : Cond.selects RX10 (kr_nm i_M_startRun) (kr_nm i_M_startRun) ∈ kr_gw := kr_gm (i := 33) (by decide +kernel) rfl
theorem kr_mf_M_startRun : kr_mf i_M_startRun 0 := ⟨kr_gm (i := 1413) (by decide +kernel) rfl, kr_gm (i := 60) (by decide +kernel) rfl, by decide +kernel, by decide +kernel, by decide +kernel⟩
theorem kr_mf_M_storm : kr_mf i_M_storm 1 := ⟨kr_gm (i := 1449) (by decide +kernel) rfl, kr_gm (i := 60) (by decide +kernel) rfl, by decide +kernel, by decide +kernel, by decide +kernel⟩
theorem kr_mf_M_strength : kr_mf i_M_strength 2 := ⟨kr_gm (i := 1433) (by decide +kernel) rfl, kr_gm (i := 60) (by decide +kernel) rfl, by decide +kernel, by decide +kernel, by decide +kernel⟩
theorem kr_w_i_M_strongNow : Cond.instanceMethod (kr_nm i_M_strongNow) ∈ kr_gw := kr_gm (i := 1355) (by decide +kernel) rfl
theorem kr_w_e_M_strongNow : Cond.selects RX10 (kr_nm i_M_strongNow) (kr_nm i_M_strongNow) ∈ kr_gw := kr_gm (i := 24) (by decide +kernel) rfl
theorem kr_mf_M_strongNow : kr_mf i_M_strongNow 0 := ⟨kr_gm (i := 1356) (by decide +kernel) rfl, kr_gm (i := 60) (by decide +kernel) rfl, by decide +kernel, by decide +kernel, by decide +kernel⟩
theorem kr_mf_M_sure : kr_mf i_M_sure 1 := ⟨kr_gm (i := 1476) (by decide +kernel) rfl, kr_gm (i := 60) (by decide +kernel) rfl, by decide +kernel, by decide +kernel, by decide +kernel⟩
theorem kr_mf_M_text : kr_mf i_M_text 0 := ⟨kr_gm (i := 1200) (by decide +kernel) rfl, kr_gm (i := 60) (by decide +kernel) rfl, by decide +kernel, by decide +kernel, by decide +kernel⟩
theorem kr_mf_M_torn : kr_mf i_M_torn 0 := ⟨kr_gm (i := 1562) (by decide +kernel) rfl, kr_gm (i := 60) (by decide +kernel) rfl, by decide +kernel, by decide +kernel, by decide +kernel⟩
theorem kr_w_i_M_usedThen : Cond.instanceMethod (kr_nm i_M_usedThen) ∈ kr_gw := kr_gm (i := 1499) (by decide +kernel) rfl
theorem kr_w_e_M_usedThen : Cond.selects RX10 (kr_nm i_M_usedThen) (kr_nm i_M_usedThen) ∈ kr_gw := kr_gm (i := 45) (by decide +kernel) rfl
theorem kr_mf_M_usedThen : kr_mf i_M_usedThen 2 := ⟨kr_gm (i := 1500) (by decide +kernel) rfl, kr_gm (i := 60) (by decide +kernel) rfl, by decide +kernel, by decide +kernel, by decide +kernel⟩
theorem kr_mf_M_waited : kr_mf i_M_waited 2 := ⟨kr_gm (i := 1441) (by decide +kernel) rfl, kr_gm (i := 60) (by decide +kernel) rfl, by decide +kernel, by decide +kernel, by decide +kernel⟩
theorem kr_mf_M_way : kr_mf i_M_way 3 := ⟨kr_gm (i := 1350) (by decide +kernel) rfl, kr_gm (i := 60) (by decide +kernel) rfl, by decide +kernel, by decide +kernel, by decide +kernel⟩
theorem kr_mf_M_wet : kr_mf i_M_wet 0 := ⟨kr_gm (i := 1327) (by decide +kernel) rfl, kr_gm (i := 60) (by decide +kernel) rfl, by decide +kernel, by decide +kernel, by decide +kernel⟩
theorem kr_mf_M_where : kr_mf i_M_where 2 := ⟨kr_gm (i := 1401) (by decide +kernel) rfl, kr_gm (i := 60) (by decide +kernel) rfl, by decide +kernel, by decide +kernel, by decide +kernel⟩
theorem kr_w_i_M_wholeLines : Cond.instanceMethod (kr_nm i_M_wholeLines) ∈ kr_gw := kr_gm (i := 1376) (by decide +kernel) rfl
theorem kr_w_e_M_wholeLines : Cond.selects RX10 (kr_nm i_M_wholeLines) (kr_nm i_M_wholeLines) ∈ kr_gw := kr_gm (i := 28) (by decide +kernel) rfl
theorem kr_mf_M_wholeLines : kr_mf i_M_wholeLines 0 := ⟨kr_gm (i := 1377) (by decide +kernel) rfl, kr_gm (i := 60) (by decide +kernel) rfl, by decide +kernel, by decide +kernel, by decide +kernel⟩
theorem kr_mf_M_worst : kr_mf i_M_worst 1 := ⟨kr_gm (i := 1453) (by decide +kernel) rfl, kr_gm (i := 60) (by decide +kernel) rfl, by decide +kernel, by decide +kernel, by decide +kernel⟩
theorem kr_w_i_M_yardsOf : Cond.instanceMethod (kr_nm i_M_yardsOf) ∈ kr_gw := kr_gm (i := 1467) (by decide +kernel) rfl
theorem kr_w_e_M_yardsOf : Cond.selects RX10 (kr_nm i_M_yardsOf) (kr_nm i_M_yardsOf) ∈ kr_gw := kr_gm (i := 39) (by decide +kernel) rfl
theorem kr_mf_M_yardsOf : kr_mf i_M_yardsOf 1 := ⟨kr_gm (i := 1468) (by decide +kernel) rfl, kr_gm (i := 60) (by decide +kernel) rfl, by decide +kernel, by decide +kernel, by decide +kernel⟩
theorem kr_w_i_N_answer : Cond.instanceMethod (kr_nm i_N_answer) ∈ kr_gw := kr_gm (i := 870) (by decide +kernel) rfl
theorem kr_w_e_N_answer : Cond.selects RX0 (kr_nm i_N_answer) (kr_nm i_N_answer) ∈ kr_gw := kr_gm (i := 871) (by decide +kernel) rfl
theorem kr_mf_N_answer : kr_mf i_N_answer 2 := ⟨kr_gm (i := 872) (by decide +kernel) rfl, kr_gm (i := 56) (by decide +kernel) rfl, by decide +kernel, by decide +kernel, by decide +kernel⟩
theorem kr_w_i_N_seek : Cond.instanceMethod (kr_nm i_N_seek) ∈ kr_gw := kr_gm (i := 874) (by decide +kernel) rfl
theorem kr_w_e_N_seek : Cond.selects RX0 (kr_nm i_N_seek) (kr_nm i_N_seek) ∈ kr_gw := kr_gm (i := 875) (by decide +kernel) rfl
theorem kr_mf_N_seek : kr_mf i_N_seek 1 := ⟨kr_gm (i := 876) (by decide +kernel) rfl, kr_gm (i := 56) (by decide +kernel) rfl, by decide +kernel, by decide +kernel, by decide +kernel⟩
theorem kr_w_i_U_add : Cond.instanceMethod (kr_nm i_U_add) ∈ kr_gw := kr_gm (i := 936) (by decide +kernel) rfl
theorem kr_w_e_U_add : Cond.selects RX1 (kr_nm i_U_add) (kr_nm i_U_add) ∈ kr_gw := kr_gm (i := 937) (by decide +kernel) rfl
theorem kr_mf_U_add : kr_mf i_U_add 1 := ⟨kr_gm (i := 938) (by decide +kernel) rfl, kr_gm (i := 58) (by decide +kernel) rfl, by decide +kernel, by decide +kernel, by decide +kernel⟩
theorem kr_w_i_U_bestToAsk : Cond.instanceMethod (kr_nm i_U_bestToAsk) ∈ kr_gw := kr_gm (i := 951) (by decide +kernel) rfl
theorem kr_w_e_U_bestToAsk : Cond.selects RX1 (kr_nm i_U_bestToAsk) (kr_nm i_U_bestToAsk) ∈ kr_gw := kr_gm (i := 952) (by decide +kernel) rfl
theorem kr_mf_U_bestToAsk : kr_mf i_U_bestToAsk 0 := ⟨kr_gm (i := 953) (by decide +kernel) rfl, kr_gm (i := 58) (by decide +kernel) rfl, by decide +kernel, by decide +kernel, by decide +kernel⟩
theorem kr_w_i_U_fits : Cond.instanceMethod (kr_nm i_U_fits) ∈ kr_gw := kr_gm (i := 931) (by decide +kernel) rfl
theorem kr_w_e_U_fits : Cond.selects RX1 (kr_nm i_U_fits) (kr_nm i_U_fits) ∈ kr_gw := kr_gm (i := 932) (by decide +kernel) rfl
theorem kr_mf_U_fits : kr_mf i_U_fits 1 := ⟨kr_gm (i := 933) (by decide +kernel) rfl, kr_gm (i := 58) (by decide +kernel) rfl, by decide +kernel, by decide +kernel, by decide +kernel⟩
theorem kr_w_i_U_leftAtWorst : Cond.instanceMethod (kr_nm i_U_leftAtWorst) ∈ kr_gw := kr_gm (i := 955) (by decide +kernel) rfl
theorem kr_w_e_U_leftAtWorst : Cond.selects RX1 (kr_nm i_U_leftAtWorst) (kr_nm i_U_leftAtWorst) ∈ kr_gw := kr_gm (i := 956) (by decide +kernel) rfl
theorem kr_mf_U_leftAtWorst : kr_mf i_U_leftAtWorst 1 := ⟨kr_gm (i := 957) (by decide +kernel) rfl, kr_gm (i := 58) (by decide +kernel) rfl, by decide +kernel, by decide +kernel, by decide +kernel⟩
theorem kr_w_i_U_reckon : Cond.instanceMethod (kr_nm i_U_reckon) ∈ kr_gw := kr_gm (i := 926) (by decide +kernel) rfl
theorem kr_w_e_U_reckon : Cond.selects RX1 (kr_nm i_U_reckon) (kr_nm i_U_reckon) ∈ kr_gw := kr_gm (i := 927) (by decide +kernel) rfl
theorem kr_mf_U_reckon : kr_mf i_U_reckon 0 := ⟨kr_gm (i := 928) (by decide +kernel) rfl, kr_gm (i := 58) (by decide +kernel) rfl, by decide +kernel, by decide +kernel, by decide +kernel⟩
theorem kr_w_i_D_fail : Cond.instanceMethod (kr_nm i_D_fail) ∈ kr_gw := kr_gm (i := 463) (by decide +kernel) rfl
theorem kr_w_e_D_fail : Cond.selects RX2 (kr_nm i_D_fail) (kr_nm i_D_fail) ∈ kr_gw := kr_gm (i := 464) (by decide +kernel) rfl
theorem kr_mf_D_fail : kr_mf i_D_fail 2 := ⟨kr_gm (i := 465) (by decide +kernel) rfl, kr_gm (i := 53) (by decide +kernel) rfl, by decide +kernel, by decide +kernel, by decide +kernel⟩
theorem kr_w_i_D_nameIs : Cond.instanceMethod (kr_nm i_D_nameIs) ∈ kr_gw := kr_gm (i := 468) (by decide +kernel) rfl
theorem kr_w_e_D_nameIs : Cond.selects RX2 (kr_nm i_D_nameIs) (kr_nm i_D_nameIs) ∈ kr_gw := kr_gm (i := 469) (by decide +kernel) rfl
theorem kr_mf_D_nameIs : kr_mf i_D_nameIs 1 := ⟨kr_gm (i := 470) (by decide +kernel) rfl, kr_gm (i := 53) (by decide +kernel) rfl, by decide +kernel, by decide +kernel, by decide +kernel⟩
theorem kr_w_i_D_nextNumber : Cond.instanceMethod (kr_nm i_D_nextNumber) ∈ kr_gw := kr_gm (i := 524) (by decide +kernel) rfl
theorem kr_w_e_D_nextNumber : Cond.selects RX2 (kr_nm i_D_nextNumber) (kr_nm i_D_nextNumber) ∈ kr_gw := kr_gm (i := 525) (by decide +kernel) rfl
theorem kr_mf_D_nextNumber : kr_mf i_D_nextNumber 2 := ⟨kr_gm (i := 526) (by decide +kernel) rfl, kr_gm (i := 53) (by decide +kernel) rfl, by decide +kernel, by decide +kernel, by decide +kernel⟩
theorem kr_w_i_D_nextRoof : Cond.instanceMethod (kr_nm i_D_nextRoof) ∈ kr_gw := kr_gm (i := 557) (by decide +kernel) rfl
theorem kr_w_e_D_nextRoof : Cond.selects RX2 (kr_nm i_D_nextRoof) (kr_nm i_D_nextRoof) ∈ kr_gw := kr_gm (i := 558) (by decide +kernel) rfl
theorem kr_mf_D_nextRoof : kr_mf i_D_nextRoof 0 := ⟨kr_gm (i := 559) (by decide +kernel) rfl, kr_gm (i := 53) (by decide +kernel) rfl, by decide +kernel, by decide +kernel, by decide +kernel⟩
theorem kr_w_i_D_nextSign : Cond.instanceMethod (kr_nm i_D_nextSign) ∈ kr_gw := kr_gm (i := 528) (by decide +kernel) rfl
theorem kr_w_e_D_nextSign : Cond.selects RX2 (kr_nm i_D_nextSign) (kr_nm i_D_nextSign) ∈ kr_gw := kr_gm (i := 529) (by decide +kernel) rfl
theorem kr_mf_D_nextSign : kr_mf i_D_nextSign 0 := ⟨kr_gm (i := 530) (by decide +kernel) rfl, kr_gm (i := 53) (by decide +kernel) rfl, by decide +kernel, by decide +kernel, by decide +kernel⟩
theorem kr_w_i_D_nextToken : Cond.instanceMethod (kr_nm i_D_nextToken) ∈ kr_gw := kr_gm (i := 447) (by decide +kernel) rfl
theorem kr_w_e_D_nextToken : Cond.selects RX2 (kr_nm i_D_nextToken) (kr_nm i_D_nextToken) ∈ kr_gw := kr_gm (i := 448) (by decide +kernel) rfl
theorem kr_mf_D_nextToken : kr_mf i_D_nextToken 0 := ⟨kr_gm (i := 449) (by decide +kernel) rfl, kr_gm (i := 53) (by decide +kernel) rfl, by decide +kernel, by decide +kernel, by decide +kernel⟩
theorem kr_w_i_D_readAll : Cond.instanceMethod (kr_nm i_D_readAll) ∈ kr_gw := kr_gm (i := 435) (by decide +kernel) rfl
theorem kr_w_e_D_readAll : Cond.selects RX2 (kr_nm i_D_readAll) (kr_nm i_D_readAll) ∈ kr_gw := kr_gm (i := 436) (by decide +kernel) rfl
theorem kr_mf_D_readAll : kr_mf i_D_readAll 0 := ⟨kr_gm (i := 437) (by decide +kernel) rfl, kr_gm (i := 53) (by decide +kernel) rfl, by decide +kernel, by decide +kernel, by decide +kernel⟩
theorem kr_w_i_D_readDrawer : Cond.instanceMethod (kr_nm i_D_readDrawer) ∈ kr_gw := kr_gm (i := 563) (by decide +kernel) rfl
theorem kr_w_e_D_readDrawer : Cond.selects RX2 (kr_nm i_D_readDrawer) (kr_nm i_D_readDrawer) ∈ kr_gw := kr_gm (i := 564) (by decide +kernel) rfl
theorem kr_mf_D_readDrawer : kr_mf i_D_readDrawer 0 := ⟨kr_gm (i := 565) (by decide +kernel) rfl, kr_gm (i := 53) (by decide +kernel) rfl, by decide +kernel, by decide +kernel, by decide +kernel⟩
theorem kr_w_i_D_readHouse : Cond.instanceMethod (kr_nm i_D_readHouse) ∈ kr_gw := kr_gm (i := 533) (by decide +kernel) rfl
theorem kr_w_e_D_readHouse : Cond.selects RX2 (kr_nm i_D_readHouse) (kr_nm i_D_readHouse) ∈ kr_gw := kr_gm (i := 534) (by decide +kernel) rfl
theorem kr_mf_D_readHouse : kr_mf i_D_readHouse 0 := ⟨kr_gm (i := 535) (by decide +kernel) rfl, kr_gm (i := 53) (by decide +kernel) rfl, by decide +kernel, by decide +kernel, by decide +kernel⟩
theorem kr_w_i_D_readLine : Cond.instanceMethod (kr_nm i_D_readLine) ∈ kr_gw := kr_gm (i := 549) (by decide +kernel) rfl
theorem kr_w_e_D_readLine : Cond.selects RX2 (kr_nm i_D_readLine) (kr_nm i_D_readLine) ∈ kr_gw := kr_gm (i := 550) (by decide +kernel) rfl
theorem kr_mf_D_readLine : kr_mf i_D_readLine 0 := ⟨kr_gm (i := 551) (by decide +kernel) rfl, kr_gm (i := 53) (by decide +kernel) rfl, by decide +kernel, by decide +kernel, by decide +kernel⟩
theorem kr_w_i_D_readOne : Cond.instanceMethod (kr_nm i_D_readOne) ∈ kr_gw := kr_gm (i := 572) (by decide +kernel) rfl
theorem kr_w_e_D_readOne : Cond.selects RX2 (kr_nm i_D_readOne) (kr_nm i_D_readOne) ∈ kr_gw := kr_gm (i := 573) (by decide +kernel) rfl
theorem kr_mf_D_readOne : kr_mf i_D_readOne 0 := ⟨kr_gm (i := 574) (by decide +kernel) rfl, kr_gm (i := 53) (by decide +kernel) rfl, by decide +kernel, by decide +kernel, by decide +kernel⟩
theorem kr_w_i_D_readOneLine : Cond.instanceMethod (kr_nm i_D_readOneLine) ∈ kr_gw := kr_gm (i := 443) (by decide +kernel) rfl
theorem kr_w_e_D_readOneLine : Cond.selects RX2 (kr_nm i_D_readOneLine) (kr_nm i_D_readOneLine) ∈ kr_gw := kr_gm (i := 444) (by decide +kernel) rfl
theorem kr_mf_D_readOneLine : kr_mf i_D_readOneLine 0 := ⟨kr_gm (i := 445) (by decide +kernel) rfl, kr_gm (i := 53) (by decide +kernel) rfl, by decide +kernel, by decide +kernel, by decide +kernel⟩
theorem kr_w_i_D_readPoints : Cond.instanceMethod (kr_nm i_D_readPoints) ∈ kr_gw := kr_gm (i := 520) (by decide +kernel) rfl
theorem kr_w_e_D_readPoints : Cond.selects RX2 (kr_nm i_D_readPoints) (kr_nm i_D_readPoints) ∈ kr_gw := kr_gm (i := 521) (by decide +kernel) rfl
theorem kr_mf_D_readPoints : kr_mf i_D_readPoints 0 := ⟨kr_gm (i := 522) (by decide +kernel) rfl, kr_gm (i := 53) (by decide +kernel) rfl, by decide +kernel, by decide +kernel, by decide +kernel⟩
theorem kr_w_i_D_readRain : Cond.instanceMethod (kr_nm i_D_readRain) ∈ kr_gw := kr_gm (i := 581) (by decide +kernel) rfl
theorem kr_w_e_D_readRain : Cond.selects RX2 (kr_nm i_D_readRain) (kr_nm i_D_readRain) ∈ kr_gw := kr_gm (i := 582) (by decide +kernel) rfl
theorem kr_mf_D_readRain : kr_mf i_D_readRain 0 := ⟨kr_gm (i := 583) (by decide +kernel) rfl, kr_gm (i := 53) (by decide +kernel) rfl, by decide +kernel, by decide +kernel, by decide +kernel⟩
theorem kr_w_i_R_addDrawer : Cond.instanceMethod (kr_nm i_R_addDrawer) ∈ kr_gw := kr_gm (i := 567) (by decide +kernel) rfl
theorem kr_w_e_R_addDrawer : Cond.selects RX3 (kr_nm i_R_addDrawer) (kr_nm i_R_addDrawer) ∈ kr_gw := kr_gm (i := 568) (by decide +kernel) rfl
theorem kr_mf_R_addDrawer : kr_mf i_R_addDrawer 1 := ⟨kr_gm (i := 569) (by decide +kernel) rfl, kr_gm (i := 51) (by decide +kernel) rfl, by decide +kernel, by decide +kernel, by decide +kernel⟩
theorem kr_w_i_R_addHeard : Cond.instanceMethod (kr_nm i_R_addHeard) ∈ kr_gw := kr_gm (i := 913) (by decide +kernel) rfl
theorem kr_w_e_R_addHeard : Cond.selects RX3 (kr_nm i_R_addHeard) (kr_nm i_R_addHeard) ∈ kr_gw := kr_gm (i := 914) (by decide +kernel) rfl
theorem kr_mf_R_addHeard : kr_mf i_R_addHeard 2 := ⟨kr_gm (i := 915) (by decide +kernel) rfl, kr_gm (i := 51) (by decide +kernel) rfl, by decide +kernel, by decide +kernel, by decide +kernel⟩
theorem kr_w_i_R_addLine : Cond.instanceMethod (kr_nm i_R_addLine) ∈ kr_gw := kr_gm (i := 553) (by decide +kernel) rfl
theorem kr_w_e_R_addLine : Cond.selects RX3 (kr_nm i_R_addLine) (kr_nm i_R_addLine) ∈ kr_gw := kr_gm (i := 554) (by decide +kernel) rfl
theorem kr_mf_R_addLine : kr_mf i_R_addLine 4 := ⟨kr_gm (i := 555) (by decide +kernel) rfl, kr_gm (i := 51) (by decide +kernel) rfl, by decide +kernel, by decide +kernel, by decide +kernel⟩
theorem kr_w_i_R_addOne : Cond.instanceMethod (kr_nm i_R_addOne) ∈ kr_gw := kr_gm (i := 576) (by decide +kernel) rfl
theorem kr_w_e_R_addOne : Cond.selects RX3 (kr_nm i_R_addOne) (kr_nm i_R_addOne) ∈ kr_gw := kr_gm (i := 577) (by decide +kernel) rfl
theorem kr_mf_R_addOne : kr_mf i_R_addOne 3 := ⟨kr_gm (i := 578) (by decide +kernel) rfl, kr_gm (i := 51) (by decide +kernel) rfl, by decide +kernel, by decide +kernel, by decide +kernel⟩
theorem kr_w_i_R_allLines : Cond.instanceMethod (kr_nm i_R_allLines) ∈ kr_gw := kr_gm (i := 766) (by decide +kernel) rfl
theorem kr_w_e_R_allLines : Cond.selects RX3 (kr_nm i_R_allLines) (kr_nm i_R_allLines) ∈ kr_gw := kr_gm (i := 767) (by decide +kernel) rfl
theorem kr_mf_R_allLines : kr_mf i_R_allLines 0 := ⟨kr_gm (i := 768) (by decide +kernel) rfl, kr_gm (i := 51) (by decide +kernel) rfl, by decide +kernel, by decide +kernel, by decide +kernel⟩
theorem kr_w_i_R_clear : Cond.instanceMethod (kr_nm i_R_clear) ∈ kr_gw := kr_gm (i := 439) (by decide +kernel) rfl
theorem kr_w_e_R_clear : Cond.selects RX3 (kr_nm i_R_clear) (kr_nm i_R_clear) ∈ kr_gw := kr_gm (i := 440) (by decide +kernel) rfl
theorem kr_mf_R_clear : kr_mf i_R_clear 0 := ⟨kr_gm (i := 441) (by decide +kernel) rfl, kr_gm (i := 51) (by decide +kernel) rfl, by decide +kernel, by decide +kernel, by decide +kernel⟩
theorem kr_w_i_R_copyOf : Cond.instanceMethod (kr_nm i_R_copyOf) ∈ kr_gw := kr_gm (i := 605) (by decide +kernel) rfl
theorem kr_w_e_R_copyOf : Cond.selects RX3 (kr_nm i_R_copyOf) (kr_nm i_R_copyOf) ∈ kr_gw := kr_gm (i := 606) (by decide +kernel) rfl
theorem kr_mf_R_copyOf : kr_mf i_R_copyOf 1 := ⟨kr_gm (i := 607) (by decide +kernel) rfl, kr_gm (i := 51) (by decide +kernel) rfl, by decide +kernel, by decide +kernel, by decide +kernel⟩
theorem kr_w_i_R_hasDrawer : Cond.instanceMethod (kr_nm i_R_hasDrawer) ∈ kr_gw := kr_gm (i := 640) (by decide +kernel) rfl
theorem kr_w_e_R_hasDrawer : Cond.selects RX3 (kr_nm i_R_hasDrawer) (kr_nm i_R_hasDrawer) ∈ kr_gw := kr_gm (i := 641) (by decide +kernel) rfl
theorem kr_mf_R_hasDrawer : kr_mf i_R_hasDrawer 1 := ⟨kr_gm (i := 642) (by decide +kernel) rfl, kr_gm (i := 51) (by decide +kernel) rfl, by decide +kernel, by decide +kernel, by decide +kernel⟩
theorem kr_w_i_R_hasLine : Cond.instanceMethod (kr_nm i_R_hasLine) ∈ kr_gw := kr_gm (i := 625) (by decide +kernel) rfl
theorem kr_w_e_R_hasLine : Cond.selects RX3 (kr_nm i_R_hasLine) (kr_nm i_R_hasLine) ∈ kr_gw := kr_gm (i := 626) (by decide +kernel) rfl
theorem kr_mf_R_hasLine : kr_mf i_R_hasLine 1 := ⟨kr_gm (i := 627) (by decide +kernel) rfl, kr_gm (i := 51) (by decide +kernel) rfl, by decide +kernel, by decide +kernel, by decide +kernel⟩
theorem kr_w_i_R_hasLines : Cond.instanceMethod (kr_nm i_R_hasLines) ∈ kr_gw := kr_gm (i := 762) (by decide +kernel) rfl
theorem kr_w_e_R_hasLines : Cond.selects RX3 (kr_nm i_R_hasLines) (kr_nm i_R_hasLines) ∈ kr_gw := kr_gm (i := 763) (by decide +kernel) rfl
theorem kr_mf_R_hasLines : kr_mf i_R_hasLines 1 := ⟨kr_gm (i := 764) (by decide +kernel) rfl, kr_gm (i := 51) (by decide +kernel) rfl, by decide +kernel, by decide +kernel, by decide +kernel⟩
theorem kr_w_i_R_hasOne : Cond.instanceMethod (kr_nm i_R_hasOne) ∈ kr_gw := kr_gm (i := 648) (by decide +kernel) rfl
theorem kr_w_e_R_hasOne : Cond.selects RX3 (kr_nm i_R_hasOne) (kr_nm i_R_hasOne) ∈ kr_gw := kr_gm (i := 649) (by decide +kernel) rfl
theorem kr_mf_R_hasOne : kr_mf i_R_hasOne 1 := ⟨kr_gm (i := 650) (by decide +kernel) rfl, kr_gm (i := 51) (by decide +kernel) rfl, by decide +kernel, by decide +kernel, by decide +kernel⟩
theorem kr_w_i_R_hasPoint : Cond.instanceMethod (kr_nm i_R_hasPoint) ∈ kr_gw := kr_gm (i := 692) (by decide +kernel) rfl
theorem kr_w_e_R_hasPoint : Cond.selects RX3 (kr_nm i_R_hasPoint) (kr_nm i_R_hasPoint) ∈ kr_gw := kr_gm (i := 693) (by decide +kernel) rfl
theorem kr_mf_R_hasPoint : kr_mf i_R_hasPoint 1 := ⟨kr_gm (i := 694) (by decide +kernel) rfl, kr_gm (i := 51) (by decide +kernel) rfl, by decide +kernel, by decide +kernel, by decide +kernel⟩
theorem kr_w_i_R_hasRoof : Cond.instanceMethod (kr_nm i_R_hasRoof) ∈ kr_gw := kr_gm (i := 629) (by decide +kernel) rfl
theorem kr_w_e_R_hasRoof : Cond.selects RX3 (kr_nm i_R_hasRoof) (kr_nm i_R_hasRoof) ∈ kr_gw := kr_gm (i := 630) (by decide +kernel) rfl
theorem kr_mf_R_hasRoof : kr_mf i_R_hasRoof 1 := ⟨kr_gm (i := 631) (by decide +kernel) rfl, kr_gm (i := 51) (by decide +kernel) rfl, by decide +kernel, by decide +kernel, by decide +kernel⟩
theorem kr_w_i_R_highestPoint : Cond.instanceMethod (kr_nm i_R_highestPoint) ∈ kr_gw := kr_gm (i := 597) (by decide +kernel) rfl
theorem kr_w_e_R_highestPoint : Cond.selects RX3 (kr_nm i_R_highestPoint) (kr_nm i_R_highestPoint) ∈ kr_gw := kr_gm (i := 598) (by decide +kernel) rfl
theorem kr_mf_R_highestPoint : kr_mf i_R_highestPoint 0 := ⟨kr_gm (i := 599) (by decide +kernel) rfl, kr_gm (i := 51) (by decide +kernel) rfl, by decide +kernel, by decide +kernel, by decide +kernel⟩
theorem kr_w_i_R_isHouse : Cond.instanceMethod (kr_nm i_R_isHouse) ∈ kr_gw := kr_gm (i := 537) (by decide +kernel) rfl
theorem kr_w_e_R_isHouse : Cond.selects RX3 (kr_nm i_R_isHouse) (kr_nm i_R_isHouse) ∈ kr_gw := kr_gm (i := 538) (by decide +kernel) rfl
theorem kr_mf_R_isHouse : kr_mf i_R_isHouse 1 := ⟨kr_gm (i := 539) (by decide +kernel) rfl, kr_gm (i := 51) (by decide +kernel) rfl, by decide +kernel, by decide +kernel, by decide +kernel⟩
theorem kr_w_i_R_otherEnd : Cond.instanceMethod (kr_nm i_R_otherEnd) ∈ kr_gw := kr_gm (i := 746) (by decide +kernel) rfl
theorem kr_w_e_R_otherEnd : Cond.selects RX3 (kr_nm i_R_otherEnd) (kr_nm i_R_otherEnd) ∈ kr_gw := kr_gm (i := 747) (by decide +kernel) rfl
theorem kr_mf_R_otherEnd : kr_mf i_R_otherEnd 2 := ⟨kr_gm (i := 748) (by decide +kernel) rfl, kr_gm (i := 51) (by decide +kernel) rfl, by decide +kernel, by decide +kernel, by decide +kernel⟩
theorem kr_w_i_R_rainRubs : Cond.instanceMethod (kr_nm i_R_rainRubs) ∈ kr_gw := kr_gm (i := 678) (by decide +kernel) rfl
theorem kr_w_e_R_rainRubs : Cond.selects RX3 (kr_nm i_R_rainRubs) (kr_nm i_R_rainRubs) ∈ kr_gw := kr_gm (i := 679) (by decide +kernel) rfl
theorem kr_mf_R_rainRubs : kr_mf i_R_rainRubs 1 := ⟨kr_gm (i := 680) (by decide +kernel) rfl, kr_gm (i := 51) (by decide +kernel) rfl, by decide +kernel, by decide +kernel, by decide +kernel⟩
theorem kr_w_i_R_rainsIn : Cond.instanceMethod (kr_nm i_R_rainsIn) ∈ kr_gw := kr_gm (i := 585) (by decide +kernel) rfl
theorem kr_w_e_R_rainsIn : Cond.selects RX3 (kr_nm i_R_rainsIn) (kr_nm i_R_rainsIn) ∈ kr_gw := kr_gm (i := 586) (by decide +kernel) rfl
theorem kr_mf_R_rainsIn : kr_mf i_R_rainsIn 1 := ⟨kr_gm (i := 587) (by decide +kernel) rfl, kr_gm (i := 51) (by decide +kernel) rfl, by decide +kernel, by decide +kernel, by decide +kernel⟩
theorem kr_w_i_R_setHouse : Cond.instanceMethod (kr_nm i_R_setHouse) ∈ kr_gw := kr_gm (i := 544) (by decide +kernel) rfl
theorem kr_w_e_R_setHouse : Cond.selects RX3 (kr_nm i_R_setHouse) (kr_nm i_R_setHouse) ∈ kr_gw := kr_gm (i := 545) (by decide +kernel) rfl
theorem kr_mf_R_setHouse : kr_mf i_R_setHouse 2 := ⟨kr_gm (i := 546) (by decide +kernel) rfl, kr_gm (i := 51) (by decide +kernel) rfl, by decide +kernel, by decide +kernel, by decide +kernel⟩
theorem kr_w_i_R_setRain : Cond.instanceMethod (kr_nm i_R_setRain) ∈ kr_gw := kr_gm (i := 592) (by decide +kernel) rfl
theorem kr_w_e_R_setRain : Cond.selects RX3 (kr_nm i_R_setRain) (kr_nm i_R_setRain) ∈ kr_gw := kr_gm (i := 593) (by decide +kernel) rfl
theorem kr_mf_R_setRain : kr_mf i_R_setRain 2 := ⟨kr_gm (i := 594) (by decide +kernel) rfl, kr_gm (i := 51) (by decide +kernel) rfl, by decide +kernel, by decide +kernel, by decide +kernel⟩
theorem kr_w_i_R_wholeBy : Cond.instanceMethod (kr_nm i_R_wholeBy) ∈ kr_gw := kr_gm (i := 674) (by decide +kernel) rfl
theorem kr_w_e_R_wholeBy : Cond.selects RX3 (kr_nm i_R_wholeBy) (kr_nm i_R_wholeBy) ∈ kr_gw := kr_gm (i := 675) (by decide +kernel) rfl
theorem kr_mf_R_wholeBy : kr_mf i_R_wholeBy 1 := ⟨kr_gm (i := 676) (by decide +kernel) rfl, kr_gm (i := 51) (by decide +kernel) rfl, by decide +kernel, by decide +kernel, by decide +kernel⟩
theorem kr_w_i_R_wholeLines : Cond.instanceMethod (kr_nm i_R_wholeLines) ∈ kr_gw := kr_gm (i := 670) (by decide +kernel) rfl
theorem kr_w_e_R_wholeLines : Cond.selects RX3 (kr_nm i_R_wholeLines) (kr_nm i_R_wholeLines) ∈ kr_gw := kr_gm (i := 671) (by decide +kernel) rfl
theorem kr_mf_R_wholeLines : kr_mf i_R_wholeLines 0 := ⟨kr_gm (i := 672) (by decide +kernel) rfl, kr_gm (i := 51) (by decide +kernel) rfl, by decide +kernel, by decide +kernel, by decide +kernel⟩
theorem kr_w_i_R_yardsOf : Cond.instanceMethod (kr_nm i_R_yardsOf) ∈ kr_gw := kr_gm (i := 880) (by decide +kernel) rfl
theorem kr_w_e_R_yardsOf : Cond.selects RX3 (kr_nm i_R_yardsOf) (kr_nm i_R_yardsOf) ∈ kr_gw := kr_gm (i := 881) (by decide +kernel) rfl
theorem kr_mf_R_yardsOf : kr_mf i_R_yardsOf 1 := ⟨kr_gm (i := 882) (by decide +kernel) rfl, kr_gm (i := 51) (by decide +kernel) rfl, by decide +kernel, by decide +kernel, by decide +kernel⟩
theorem kr_w_i_G_canDraw : Cond.instanceMethod (kr_nm i_G_canDraw) ∈ kr_gw := kr_gm (i := 899) (by decide +kernel) rfl
theorem kr_w_e_G_canDraw : Cond.selects RX4 (kr_nm i_G_canDraw) (kr_nm i_G_canDraw) ∈ kr_gw := kr_gm (i := 900) (by decide +kernel) rfl
theorem kr_mf_G_canDraw : kr_mf i_G_canDraw 2 := ⟨kr_gm (i := 901) (by decide +kernel) rfl, kr_gm (i := 57) (by decide +kernel) rfl, by decide +kernel, by decide +kernel, by decide +kernel⟩
theorem kr_w_i_G_fewestDrawers : Cond.instanceMethod (kr_nm i_G_fewestDrawers) ∈ kr_gw := kr_gm (i := 894) (by decide +kernel) rfl
theorem kr_w_e_G_fewestDrawers : Cond.selects RX4 (kr_nm i_G_fewestDrawers) (kr_nm i_G_fewestDrawers) ∈ kr_gw := kr_gm (i := 895) (by decide +kernel) rfl
theorem kr_mf_G_fewestDrawers : kr_mf i_G_fewestDrawers 1 := ⟨kr_gm (i := 896) (by decide +kernel) rfl, kr_gm (i := 57) (by decide +kernel) rfl, by decide +kernel, by decide +kernel, by decide +kernel⟩
theorem kr_w_s_G_give : Cond.static (kr_nm i_G_give) ∈ kr_gw := kr_gm (i := 905) (by decide +kernel) rfl
theorem kr_mf_G_give : kr_mf i_G_give 5 := ⟨kr_gm (i := 906) (by decide +kernel) rfl, kr_gm (i := 57) (by decide +kernel) rfl, by decide +kernel, by decide +kernel, by decide +kernel⟩
theorem kr_w_i_S_cell : Cond.instanceMethod (kr_nm i_S_cell) ∈ kr_gw := kr_gm (i := 1019) (by decide +kernel) rfl
theorem kr_w_e_S_cell : Cond.selects RX5 (kr_nm i_S_cell) (kr_nm i_S_cell) ∈ kr_gw := kr_gm (i := 1020) (by decide +kernel) rfl
theorem kr_mf_S_cell : kr_mf i_S_cell 2 := ⟨kr_gm (i := 1021) (by decide +kernel) rfl, kr_gm (i := 59) (by decide +kernel) rfl, by decide +kernel, by decide +kernel, by decide +kernel⟩
theorem kr_w_i_S_faultOfTaking : Cond.instanceMethod (kr_nm i_S_faultOfTaking) ∈ kr_gw := kr_gm (i := 1005) (by decide +kernel) rfl
theorem kr_w_e_S_faultOfTaking : Cond.selects RX5 (kr_nm i_S_faultOfTaking) (kr_nm i_S_faultOfTaking) ∈ kr_gw := kr_gm (i := 1006) (by decide +kernel) rfl
theorem kr_mf_S_faultOfTaking : kr_mf i_S_faultOfTaking 2 := ⟨kr_gm (i := 1007) (by decide +kernel) rfl, kr_gm (i := 59) (by decide +kernel) rfl, by decide +kernel, by decide +kernel, by decide +kernel⟩
theorem kr_w_i_S_hasCell : Cond.instanceMethod (kr_nm i_S_hasCell) ∈ kr_gw := kr_gm (i := 993) (by decide +kernel) rfl
theorem kr_w_e_S_hasCell : Cond.selects RX5 (kr_nm i_S_hasCell) (kr_nm i_S_hasCell) ∈ kr_gw := kr_gm (i := 994) (by decide +kernel) rfl
theorem kr_mf_S_hasCell : kr_mf i_S_hasCell 2 := ⟨kr_gm (i := 995) (by decide +kernel) rfl, kr_gm (i := 59) (by decide +kernel) rfl, by decide +kernel, by decide +kernel, by decide +kernel⟩
theorem kr_w_i_S_hasLane : Cond.instanceMethod (kr_nm i_S_hasLane) ∈ kr_gw := kr_gm (i := 977) (by decide +kernel) rfl
theorem kr_w_e_S_hasLane : Cond.selects RX5 (kr_nm i_S_hasLane) (kr_nm i_S_hasLane) ∈ kr_gw := kr_gm (i := 978) (by decide +kernel) rfl
theorem kr_mf_S_hasLane : kr_mf i_S_hasLane 1 := ⟨kr_gm (i := 979) (by decide +kernel) rfl, kr_gm (i := 59) (by decide +kernel) rfl, by decide +kernel, by decide +kernel, by decide +kernel⟩
theorem kr_w_i_S_hasSheet : Cond.instanceMethod (kr_nm i_S_hasSheet) ∈ kr_gw := kr_gm (i := 973) (by decide +kernel) rfl
theorem kr_w_e_S_hasSheet : Cond.selects RX5 (kr_nm i_S_hasSheet) (kr_nm i_S_hasSheet) ∈ kr_gw := kr_gm (i := 974) (by decide +kernel) rfl
theorem kr_mf_S_hasSheet : kr_mf i_S_hasSheet 1 := ⟨kr_gm (i := 975) (by decide +kernel) rfl, kr_gm (i := 59) (by decide +kernel) rfl, by decide +kernel, by decide +kernel, by decide +kernel⟩
theorem kr_w_i_S_hasTwoCells : Cond.instanceMethod (kr_nm i_S_hasTwoCells) ∈ kr_gw := kr_gm (i := 1010) (by decide +kernel) rfl
theorem kr_w_e_S_hasTwoCells : Cond.selects RX5 (kr_nm i_S_hasTwoCells) (kr_nm i_S_hasTwoCells) ∈ kr_gw := kr_gm (i := 1011) (by decide +kernel) rfl
theorem kr_mf_S_hasTwoCells : kr_mf i_S_hasTwoCells 2 := ⟨kr_gm (i := 1012) (by decide +kernel) rfl, kr_gm (i := 59) (by decide +kernel) rfl, by decide +kernel, by decide +kernel, by decide +kernel⟩
theorem kr_w_i_S_isNothing : Cond.instanceMethod (kr_nm i_S_isNothing) ∈ kr_gw := kr_gm (i := 989) (by decide +kernel) rfl
theorem kr_w_e_S_isNothing : Cond.selects RX5 (kr_nm i_S_isNothing) (kr_nm i_S_isNothing) ∈ kr_gw := kr_gm (i := 990) (by decide +kernel) rfl
theorem kr_mf_S_isNothing : kr_mf i_S_isNothing 1 := ⟨kr_gm (i := 991) (by decide +kernel) rfl, kr_gm (i := 59) (by decide +kernel) rfl, by decide +kernel, by decide +kernel, by decide +kernel⟩
theorem kr_w_i_S_makeAnew : Cond.instanceMethod (kr_nm i_S_makeAnew) ∈ kr_gw := kr_gm (i := 981) (by decide +kernel) rfl
theorem kr_w_e_S_makeAnew : Cond.selects RX5 (kr_nm i_S_makeAnew) (kr_nm i_S_makeAnew) ∈ kr_gw := kr_gm (i := 982) (by decide +kernel) rfl
theorem kr_mf_S_makeAnew : kr_mf i_S_makeAnew 3 := ⟨kr_gm (i := 983) (by decide +kernel) rfl, kr_gm (i := 59) (by decide +kernel) rfl, by decide +kernel, by decide +kernel, by decide +kernel⟩
theorem kr_w_i_S_setCell : Cond.instanceMethod (kr_nm i_S_setCell) ∈ kr_gw := kr_gm (i := 997) (by decide +kernel) rfl
theorem kr_w_e_S_setCell : Cond.selects RX5 (kr_nm i_S_setCell) (kr_nm i_S_setCell) ∈ kr_gw := kr_gm (i := 998) (by decide +kernel) rfl
theorem kr_mf_S_setCell : kr_mf i_S_setCell 3 := ⟨kr_gm (i := 999) (by decide +kernel) rfl, kr_gm (i := 59) (by decide +kernel) rfl, by decide +kernel, by decide +kernel, by decide +kernel⟩
theorem kr_w_i_S_sizeOf : Cond.instanceMethod (kr_nm i_S_sizeOf) ∈ kr_gw := kr_gm (i := 1031) (by decide +kernel) rfl
theorem kr_w_e_S_sizeOf : Cond.selects RX5 (kr_nm i_S_sizeOf) (kr_nm i_S_sizeOf) ∈ kr_gw := kr_gm (i := 1032) (by decide +kernel) rfl
theorem kr_mf_S_sizeOf : kr_mf i_S_sizeOf 1 := ⟨kr_gm (i := 1033) (by decide +kernel) rfl, kr_gm (i := 59) (by decide +kernel) rfl, by decide +kernel, by decide +kernel, by decide +kernel⟩
theorem kr_w_i_T_append : Cond.instanceMethod (kr_nm i_T_append) ∈ kr_gw := kr_gm (i := 418) (by decide +kernel) rfl
theorem kr_w_e_T_append : Cond.selects RX6 (kr_nm i_T_append) (kr_nm i_T_append) ∈ kr_gw := kr_gm (i := 419) (by decide +kernel) rfl
theorem kr_mf_T_append : kr_mf i_T_append 1 := ⟨kr_gm (i := 420) (by decide +kernel) rfl, kr_gm (i := 52) (by decide +kernel) rfl, by decide +kernel, by decide +kernel, by decide +kernel⟩
theorem kr_w_i_T_behindAll : Cond.instanceMethod (kr_nm i_T_behindAll) ∈ kr_gw := kr_gm (i := 451) (by decide +kernel) rfl
theorem kr_w_e_T_behindAll : Cond.selects RX6 (kr_nm i_T_behindAll) (kr_nm i_T_behindAll) ∈ kr_gw := kr_gm (i := 452) (by decide +kernel) rfl
theorem kr_mf_T_behindAll : kr_mf i_T_behindAll 3 := ⟨kr_gm (i := 453) (by decide +kernel) rfl, kr_gm (i := 52) (by decide +kernel) rfl, by decide +kernel, by decide +kernel, by decide +kernel⟩
theorem kr_w_i_T_byteAt : Cond.instanceMethod (kr_nm i_T_byteAt) ∈ kr_gw := kr_gm (i := 455) (by decide +kernel) rfl
theorem kr_w_e_T_byteAt : Cond.selects RX6 (kr_nm i_T_byteAt) (kr_nm i_T_byteAt) ∈ kr_gw := kr_gm (i := 456) (by decide +kernel) rfl
theorem kr_mf_T_byteAt : kr_mf i_T_byteAt 1 := ⟨kr_gm (i := 457) (by decide +kernel) rfl, kr_gm (i := 52) (by decide +kernel) rfl, by decide +kernel, by decide +kernel, by decide +kernel⟩
theorem kr_w_i_T_cut : Cond.instanceMethod (kr_nm i_T_cut) ∈ kr_gw := kr_gm (i := 427) (by decide +kernel) rfl
theorem kr_w_e_T_cut : Cond.selects RX6 (kr_nm i_T_cut) (kr_nm i_T_cut) ∈ kr_gw := kr_gm (i := 428) (by decide +kernel) rfl
theorem kr_mf_T_cut : kr_mf i_T_cut 1 := ⟨kr_gm (i := 429) (by decide +kernel) rfl, kr_gm (i := 52) (by decide +kernel) rfl, by decide +kernel, by decide +kernel, by decide +kernel⟩
theorem kr_w_i_T_numberOf : Cond.instanceMethod (kr_nm i_T_numberOf) ∈ kr_gw := kr_gm (i := 459) (by decide +kernel) rfl
theorem kr_w_e_T_numberOf : Cond.selects RX6 (kr_nm i_T_numberOf) (kr_nm i_T_numberOf) ∈ kr_gw := kr_gm (i := 460) (by decide +kernel) rfl
theorem kr_mf_T_numberOf : kr_mf i_T_numberOf 2 := ⟨kr_gm (i := 461) (by decide +kernel) rfl, kr_gm (i := 52) (by decide +kernel) rfl, by decide +kernel, by decide +kernel, by decide +kernel⟩
theorem kr_w_i_K_fallOfRain : Cond.instanceMethod (kr_nm i_K_fallOfRain) ∈ kr_gw := kr_gm (i := 802) (by decide +kernel) rfl
theorem kr_w_e_K_fallOfRain : Cond.selects RX7 (kr_nm i_K_fallOfRain) (kr_nm i_K_fallOfRain) ∈ kr_gw := kr_gm (i := 803) (by decide +kernel) rfl
theorem kr_mf_K_fallOfRain : kr_mf i_K_fallOfRain 0 := ⟨kr_gm (i := 804) (by decide +kernel) rfl, kr_gm (i := 55) (by decide +kernel) rfl, by decide +kernel, by decide +kernel, by decide +kernel⟩
theorem kr_w_i_K_goOn : Cond.instanceMethod (kr_nm i_K_goOn) ∈ kr_gw := kr_gm (i := 815) (by decide +kernel) rfl
theorem kr_w_e_K_goOn : Cond.selects RX7 (kr_nm i_K_goOn) (kr_nm i_K_goOn) ∈ kr_gw := kr_gm (i := 816) (by decide +kernel) rfl
theorem kr_mf_K_goOn : kr_mf i_K_goOn 3 := ⟨kr_gm (i := 817) (by decide +kernel) rfl, kr_gm (i := 55) (by decide +kernel) rfl, by decide +kernel, by decide +kernel, by decide +kernel⟩
theorem kr_w_i_K_loseIfBroken : Cond.instanceMethod (kr_nm i_K_loseIfBroken) ∈ kr_gw := kr_gm (i := 807) (by decide +kernel) rfl
theorem kr_w_e_K_loseIfBroken : Cond.selects RX7 (kr_nm i_K_loseIfBroken) (kr_nm i_K_loseIfBroken) ∈ kr_gw := kr_gm (i := 808) (by decide +kernel) rfl
theorem kr_mf_K_loseIfBroken : kr_mf i_K_loseIfBroken 1 := ⟨kr_gm (i := 809) (by decide +kernel) rfl, kr_gm (i := 55) (by decide +kernel) rfl, by decide +kernel, by decide +kernel, by decide +kernel⟩
theorem kr_w_i_K_run : Cond.instanceMethod (kr_nm i_K_run) ∈ kr_gw := kr_gm (i := 795) (by decide +kernel) rfl
theorem kr_w_e_K_run : Cond.selects RX7 (kr_nm i_K_run) (kr_nm i_K_run) ∈ kr_gw := kr_gm (i := 796) (by decide +kernel) rfl
theorem kr_mf_K_run : kr_mf i_K_run 2 := ⟨kr_gm (i := 797) (by decide +kernel) rfl, kr_gm (i := 55) (by decide +kernel) rfl, by decide +kernel, by decide +kernel, by decide +kernel⟩
theorem kr_w_i_K_setOut : Cond.instanceMethod (kr_nm i_K_setOut) ∈ kr_gw := kr_gm (i := 820) (by decide +kernel) rfl
theorem kr_w_e_K_setOut : Cond.selects RX7 (kr_nm i_K_setOut) (kr_nm i_K_setOut) ∈ kr_gw := kr_gm (i := 821) (by decide +kernel) rfl
theorem kr_mf_K_setOut : kr_mf i_K_setOut 2 := ⟨kr_gm (i := 822) (by decide +kernel) rfl, kr_gm (i := 55) (by decide +kernel) rfl, by decide +kernel, by decide +kernel, by decide +kernel⟩
theorem kr_w_i_K_step : Cond.instanceMethod (kr_nm i_K_step) ∈ kr_gw := kr_gm (i := 811) (by decide +kernel) rfl
theorem kr_w_e_K_step : Cond.selects RX7 (kr_nm i_K_step) (kr_nm i_K_step) ∈ kr_gw := kr_gm (i := 812) (by decide +kernel) rfl
theorem kr_mf_K_step : kr_mf i_K_step 2 := ⟨kr_gm (i := 813) (by decide +kernel) rfl, kr_gm (i := 55) (by decide +kernel) rfl, by decide +kernel, by decide +kernel, by decide +kernel⟩
theorem kr_w_i_K_whoIsInTheOpen : Cond.instanceMethod (kr_nm i_K_whoIsInTheOpen) ∈ kr_gw := kr_gm (i := 851) (by decide +kernel) rfl
theorem kr_w_e_K_whoIsInTheOpen : Cond.selects RX7 (kr_nm i_K_whoIsInTheOpen) (kr_nm i_K_whoIsInTheOpen) ∈ kr_gw := kr_gm (i := 852) (by decide +kernel) rfl
theorem kr_mf_K_whoIsInTheOpen : kr_mf i_K_whoIsInTheOpen 0 := ⟨kr_gm (i := 853) (by decide +kernel) rfl, kr_gm (i := 55) (by decide +kernel) rfl, by decide +kernel, by decide +kernel, by decide +kernel⟩
theorem kr_w_i_K_whoIsLost : Cond.instanceMethod (kr_nm i_K_whoIsLost) ∈ kr_gw := kr_gm (i := 843) (by decide +kernel) rfl
theorem kr_w_e_K_whoIsLost : Cond.selects RX7 (kr_nm i_K_whoIsLost) (kr_nm i_K_whoIsLost) ∈ kr_gw := kr_gm (i := 844) (by decide +kernel) rfl
theorem kr_mf_K_whoIsLost : kr_mf i_K_whoIsLost 0 := ⟨kr_gm (i := 845) (by decide +kernel) rfl, kr_gm (i := 55) (by decide +kernel) rfl, by decide +kernel, by decide +kernel, by decide +kernel⟩
theorem kr_w_i_Y_beginAnew : Cond.instanceMethod (kr_nm i_Y_beginAnew) ∈ kr_gw := kr_gm (i := 710) (by decide +kernel) rfl
theorem kr_w_e_Y_beginAnew : Cond.selects RX8 (kr_nm i_Y_beginAnew) (kr_nm i_Y_beginAnew) ∈ kr_gw := kr_gm (i := 711) (by decide +kernel) rfl
theorem kr_mf_Y_beginAnew : kr_mf i_Y_beginAnew 0 := ⟨kr_gm (i := 712) (by decide +kernel) rfl, kr_gm (i := 54) (by decide +kernel) rfl, by decide +kernel, by decide +kernel, by decide +kernel⟩
theorem kr_w_i_Y_costOver : Cond.instanceMethod (kr_nm i_Y_costOver) ∈ kr_gw := kr_gm (i := 727) (by decide +kernel) rfl
theorem kr_w_e_Y_costOver : Cond.selects RX8 (kr_nm i_Y_costOver) (kr_nm i_Y_costOver) ∈ kr_gw := kr_gm (i := 728) (by decide +kernel) rfl
theorem kr_mf_Y_costOver : kr_mf i_Y_costOver 1 := ⟨kr_gm (i := 729) (by decide +kernel) rfl, kr_gm (i := 54) (by decide +kernel) rfl, by decide +kernel, by decide +kernel, by decide +kernel⟩
theorem kr_w_i_Y_firstLine : Cond.instanceMethod (kr_nm i_Y_firstLine) ∈ kr_gw := kr_gm (i := 742) (by decide +kernel) rfl
theorem kr_w_e_Y_firstLine : Cond.selects RX8 (kr_nm i_Y_firstLine) (kr_nm i_Y_firstLine) ∈ kr_gw := kr_gm (i := 743) (by decide +kernel) rfl
theorem kr_mf_Y_firstLine : kr_mf i_Y_firstLine 3 := ⟨kr_gm (i := 744) (by decide +kernel) rfl, kr_gm (i := 54) (by decide +kernel) rfl, by decide +kernel, by decide +kernel, by decide +kernel⟩
theorem kr_w_i_Y_housesMeet : Cond.instanceMethod (kr_nm i_Y_housesMeet) ∈ kr_gw := kr_gm (i := 770) (by decide +kernel) rfl
theorem kr_w_e_Y_housesMeet : Cond.selects RX8 (kr_nm i_Y_housesMeet) (kr_nm i_Y_housesMeet) ∈ kr_gw := kr_gm (i := 771) (by decide +kernel) rfl
theorem kr_mf_Y_housesMeet : kr_mf i_Y_housesMeet 1 := ⟨kr_gm (i := 772) (by decide +kernel) rfl, kr_gm (i := 54) (by decide +kernel) rfl, by decide +kernel, by decide +kernel, by decide +kernel⟩
theorem kr_w_i_Y_lineOfWay : Cond.instanceMethod (kr_nm i_Y_lineOfWay) ∈ kr_gw := kr_gm (i := 738) (by decide +kernel) rfl
theorem kr_w_e_Y_lineOfWay : Cond.selects RX8 (kr_nm i_Y_lineOfWay) (kr_nm i_Y_lineOfWay) ∈ kr_gw := kr_gm (i := 739) (by decide +kernel) rfl
theorem kr_mf_Y_lineOfWay : kr_mf i_Y_lineOfWay 4 := ⟨kr_gm (i := 740) (by decide +kernel) rfl, kr_gm (i := 54) (by decide +kernel) rfl, by decide +kernel, by decide +kernel, by decide +kernel⟩
theorem kr_w_i_Y_linesNeeded : Cond.instanceMethod (kr_nm i_Y_linesNeeded) ∈ kr_gw := kr_gm (i := 783) (by decide +kernel) rfl
theorem kr_w_e_Y_linesNeeded : Cond.selects RX8 (kr_nm i_Y_linesNeeded) (kr_nm i_Y_linesNeeded) ∈ kr_gw := kr_gm (i := 784) (by decide +kernel) rfl
theorem kr_mf_Y_linesNeeded : kr_mf i_Y_linesNeeded 1 := ⟨kr_gm (i := 785) (by decide +kernel) rfl, kr_gm (i := 54) (by decide +kernel) rfl, by decide +kernel, by decide +kernel, by decide +kernel⟩
theorem kr_w_i_Y_linesOfWay : Cond.instanceMethod (kr_nm i_Y_linesOfWay) ∈ kr_gw := kr_gm (i := 734) (by decide +kernel) rfl
theorem kr_w_e_Y_linesOfWay : Cond.selects RX8 (kr_nm i_Y_linesOfWay) (kr_nm i_Y_linesOfWay) ∈ kr_gw := kr_gm (i := 735) (by decide +kernel) rfl
theorem kr_mf_Y_linesOfWay : kr_mf i_Y_linesOfWay 3 := ⟨kr_gm (i := 736) (by decide +kernel) rfl, kr_gm (i := 54) (by decide +kernel) rfl, by decide +kernel, by decide +kernel, by decide +kernel⟩
theorem kr_w_i_Y_reached : Cond.instanceMethod (kr_nm i_Y_reached) ∈ kr_gw := kr_gm (i := 754) (by decide +kernel) rfl
theorem kr_w_e_Y_reached : Cond.selects RX8 (kr_nm i_Y_reached) (kr_nm i_Y_reached) ∈ kr_gw := kr_gm (i := 755) (by decide +kernel) rfl
theorem kr_mf_Y_reached : kr_mf i_Y_reached 2 := ⟨kr_gm (i := 756) (by decide +kernel) rfl, kr_gm (i := 54) (by decide +kernel) rfl, by decide +kernel, by decide +kernel, by decide +kernel⟩
theorem kr_w_i_Y_reckonTo : Cond.instanceMethod (kr_nm i_Y_reckonTo) ∈ kr_gw := kr_gm (i := 718) (by decide +kernel) rfl
theorem kr_w_e_Y_reckonTo : Cond.selects RX8 (kr_nm i_Y_reckonTo) (kr_nm i_Y_reckonTo) ∈ kr_gw := kr_gm (i := 719) (by decide +kernel) rfl
theorem kr_mf_Y_reckonTo : kr_mf i_Y_reckonTo 2 := ⟨kr_gm (i := 720) (by decide +kernel) rfl, kr_gm (i := 54) (by decide +kernel) rfl, by decide +kernel, by decide +kernel, by decide +kernel⟩
theorem kr_w_i_Y_yardsOfWay : Cond.instanceMethod (kr_nm i_Y_yardsOfWay) ∈ kr_gw := kr_gm (i := 714) (by decide +kernel) rfl
theorem kr_w_e_Y_yardsOfWay : Cond.selects RX8 (kr_nm i_Y_yardsOfWay) (kr_nm i_Y_yardsOfWay) ∈ kr_gw := kr_gm (i := 715) (by decide +kernel) rfl
theorem kr_mf_Y_yardsOfWay : kr_mf i_Y_yardsOfWay 3 := ⟨kr_gm (i := 716) (by decide +kernel) rfl, kr_gm (i := 54) (by decide +kernel) rfl, by decide +kernel, by decide +kernel, by decide +kernel⟩
theorem kr_mf_C_ask : kr_mf i_C_ask 1 := ⟨kr_gm (i := 949) (by decide +kernel) rfl, kr_gm (i := 50) (by decide +kernel) rfl, by decide +kernel, by decide +kernel, by decide +kernel⟩
theorem kr_mf_C_back : kr_mf i_C_back 1 := ⟨kr_gm (i := 967) (by decide +kernel) rfl, kr_gm (i := 50) (by decide +kernel) rfl, by decide +kernel, by decide +kernel, by decide +kernel⟩
theorem kr_w_s_C_bit : Cond.static (kr_nm i_C_bit) ∈ kr_gw := kr_gm (i := 633) (by decide +kernel) rfl
theorem kr_mf_C_bit : kr_mf i_C_bit 1 := ⟨kr_gm (i := 634) (by decide +kernel) rfl, kr_gm (i := 50) (by decide +kernel) rfl, by decide +kernel, by decide +kernel, by decide +kernel⟩
theorem kr_mf_C_breaks : kr_mf i_C_breaks 1 := ⟨kr_gm (i := 924) (by decide +kernel) rfl, kr_gm (i := 50) (by decide +kernel) rfl, by decide +kernel, by decide +kernel, by decide +kernel⟩
theorem kr_mf_C_build : kr_mf i_C_build 2 := ⟨kr_gm (i := 690) (by decide +kernel) rfl, kr_gm (i := 50) (by decide +kernel) rfl, by decide +kernel, by decide +kernel, by decide +kernel⟩
theorem kr_mf_C_chalk : kr_mf i_C_chalk 1 := ⟨kr_gm (i := 638) (by decide +kernel) rfl, kr_gm (i := 50) (by decide +kernel) rfl, by decide +kernel, by decide +kernel, by decide +kernel⟩
theorem kr_mf_C_cloud : kr_mf i_C_cloud 2 := ⟨kr_gm (i := 685) (by decide +kernel) rfl, kr_gm (i := 50) (by decide +kernel) rfl, by decide +kernel, by decide +kernel, by decide +kernel⟩
theorem kr_mf_C_comes : kr_mf i_C_comes 1 := ⟨kr_gm (i := 833) (by decide +kernel) rfl, kr_gm (i := 50) (by decide +kernel) rfl, by decide +kernel, by decide +kernel, by decide +kernel⟩
theorem kr_mf_C_count : kr_mf i_C_count 1 := ⟨kr_gm (i := 1029) (by decide +kernel) rfl, kr_gm (i := 50) (by decide +kernel) rfl, by decide +kernel, by decide +kernel, by decide +kernel⟩
theorem kr_mf_C_dawn : kr_mf i_C_dawn 1 := ⟨kr_gm (i := 868) (by decide +kernel) rfl, kr_gm (i := 50) (by decide +kernel) rfl, by decide +kernel, by decide +kernel, by decide +kernel⟩
theorem kr_mf_C_draw : kr_mf i_C_draw 2 := ⟨kr_gm (i := 660) (by decide +kernel) rfl, kr_gm (i := 50) (by decide +kernel) rfl, by decide +kernel, by decide +kernel, by decide +kernel⟩
theorem kr_mf_C_end : kr_mf i_C_end 1 := ⟨kr_gm (i := 425) (by decide +kernel) rfl, kr_gm (i := 50) (by decide +kernel) rfl, by decide +kernel, by decide +kernel, by decide +kernel⟩
theorem kr_mf_C_fault : kr_mf i_C_fault 0 := ⟨kr_gm (i := 615) (by decide +kernel) rfl, kr_gm (i := 50) (by decide +kernel) rfl, by decide +kernel, by decide +kernel, by decide +kernel⟩
theorem kr_mf_C_feed : kr_mf i_C_feed 1 := ⟨kr_gm (i := 416) (by decide +kernel) rfl, kr_gm (i := 50) (by decide +kernel) rfl, by decide +kernel, by decide +kernel, by decide +kernel⟩
theorem kr_mf_C_forget : kr_mf i_C_forget 1 := ⟨kr_gm (i := 920) (by decide +kernel) rfl, kr_gm (i := 50) (by decide +kernel) rfl, by decide +kernel, by decide +kernel, by decide +kernel⟩
theorem kr_w_s_C_has : Cond.static (kr_nm i_C_has) ∈ kr_gw := kr_gm (i := 541) (by decide +kernel) rfl
theorem kr_mf_C_has : kr_mf i_C_has 2 := ⟨kr_gm (i := 542) (by decide +kernel) rfl, kr_gm (i := 50) (by decide +kernel) rfl, by decide +kernel, by decide +kernel, by decide +kernel⟩
theorem kr_mf_C_hear : kr_mf i_C_hear 2 := ⟨kr_gm (i := 911) (by decide +kernel) rfl, kr_gm (i := 50) (by decide +kernel) rfl, by decide +kernel, by decide +kernel, by decide +kernel⟩
theorem kr_w_i_C_hearCells : Cond.instanceMethod (kr_nm i_C_hearCells) ∈ kr_gw := kr_gm (i := 1016) (by decide +kernel) rfl
theorem kr_w_e_C_hearCells : Cond.selects RX9 (kr_nm i_C_hearCells) (kr_nm i_C_hearCells) ∈ kr_gw := kr_gm (i := 0) (by decide +kernel) rfl
theorem kr_mf_C_hearCells : kr_mf i_C_hearCells 2 := ⟨kr_gm (i := 1017) (by decide +kernel) rfl, kr_gm (i := 50) (by decide +kernel) rfl, by decide +kernel, by decide +kernel, by decide +kernel⟩
theorem kr_w_s_C_isQuarterBehind : Cond.static (kr_nm i_C_isQuarterBehind) ∈ kr_gw := kr_gm (i := 792) (by decide +kernel) rfl
theorem kr_mf_C_isQuarterBehind : kr_mf i_C_isQuarterBehind 1 := ⟨kr_gm (i := 793) (by decide +kernel) rfl, kr_gm (i := 50) (by decide +kernel) rfl, by decide +kernel, by decide +kernel, by decide +kernel⟩
theorem kr_w_s_C_isRainQuarter : Cond.static (kr_nm i_C_isRainQuarter) ∈ kr_gw := kr_gm (i := 589) (by decide +kernel) rfl
theorem kr_mf_C_isRainQuarter : kr_mf i_C_isRainQuarter 1 := ⟨kr_gm (i := 590) (by decide +kernel) rfl, kr_gm (i := 50) (by decide +kernel) rfl, by decide +kernel, by decide +kernel, by decide +kernel⟩
theorem kr_w_s_C_isWayQuestion : Cond.static (kr_nm i_C_isWayQuestion) ∈ kr_gw := kr_gm (i := 707) (by decide +kernel) rfl
theorem kr_mf_C_isWayQuestion : kr_mf i_C_isWayQuestion 1 := ⟨kr_gm (i := 708) (by decide +kernel) rfl, kr_gm (i := 50) (by decide +kernel) rfl, by decide +kernel, by decide +kernel, by decide +kernel⟩
theorem kr_mf_C_keep : kr_mf i_C_keep 1 := ⟨kr_gm (i := 963) (by decide +kernel) rfl, kr_gm (i := 50) (by decide +kernel) rfl, by decide +kernel, by decide +kernel, by decide +kernel⟩
theorem kr_mf_C_known : kr_mf i_C_known 1 := ⟨kr_gm (i := 944) (by decide +kernel) rfl, kr_gm (i := 50) (by decide +kernel) rfl, by decide +kernel, by decide +kernel, by decide +kernel⟩
theorem kr_mf_C_lay : kr_mf i_C_lay 3 := ⟨kr_gm (i := 987) (by decide +kernel) rfl, kr_gm (i := 50) (by decide +kernel) rfl, by decide +kernel, by decide +kernel, by decide +kernel⟩
theorem kr_mf_C_line : kr_mf i_C_line 2 := ⟨kr_gm (i := 623) (by decide +kernel) rfl, kr_gm (i := 50) (by decide +kernel) rfl, by decide +kernel, by decide +kernel, by decide +kernel⟩
theorem kr_mf_C_lost : kr_mf i_C_lost 1 := ⟨kr_gm (i := 841) (by decide +kernel) rfl, kr_gm (i := 50) (by decide +kernel) rfl, by decide +kernel, by decide +kernel, by decide +kernel⟩
theorem kr_mf_C_meet : kr_mf i_C_meet 1 := ⟨kr_gm (i := 760) (by decide +kernel) rfl, kr_gm (i := 50) (by decide +kernel) rfl, by decide +kernel, by decide +kernel, by decide +kernel⟩
theorem kr_mf_C_needed : kr_mf i_C_needed 0 := ⟨kr_gm (i := 781) (by decide +kernel) rfl, kr_gm (i := 50) (by decide +kernel) rfl, by decide +kernel, by decide +kernel, by decide +kernel⟩
theorem kr_mf_C_one : kr_mf i_C_one 2 := ⟨kr_gm (i := 646) (by decide +kernel) rfl, kr_gm (i := 50) (by decide +kernel) rfl, by decide +kernel, by decide +kernel, by decide +kernel⟩
theorem kr_mf_C_part : kr_mf i_C_part 1 := ⟨kr_gm (i := 752) (by decide +kernel) rfl, kr_gm (i := 50) (by decide +kernel) rfl, by decide +kernel, by decide +kernel, by decide +kernel⟩
theorem kr_mf_C_plan : kr_mf i_C_plan 3 := ⟨kr_gm (i := 700) (by decide +kernel) rfl, kr_gm (i := 50) (by decide +kernel) rfl, by decide +kernel, by decide +kernel, by decide +kernel⟩
theorem kr_mf_C_rain : kr_mf i_C_rain 1 := ⟨kr_gm (i := 654) (by decide +kernel) rfl, kr_gm (i := 50) (by decide +kernel) rfl, by decide +kernel, by decide +kernel, by decide +kernel⟩
theorem kr_mf_C_read : kr_mf i_C_read 4 := ⟨kr_gm (i := 1003) (by decide +kernel) rfl, kr_gm (i := 50) (by decide +kernel) rfl, by decide +kernel, by decide +kernel, by decide +kernel⟩
theorem kr_mf_C_rub : kr_mf i_C_rub 2 := ⟨kr_gm (i := 664) (by decide +kernel) rfl, kr_gm (i := 50) (by decide +kernel) rfl, by decide +kernel, by decide +kernel, by decide +kernel⟩
theorem kr_mf_C_rule : kr_mf i_C_rule 1 := ⟨kr_gm (i := 619) (by decide +kernel) rfl, kr_gm (i := 50) (by decide +kernel) rfl, by decide +kernel, by decide +kernel, by decide +kernel⟩
theorem kr_mf_C_share : kr_mf i_C_share 2 := ⟨kr_gm (i := 892) (by decide +kernel) rfl, kr_gm (i := 50) (by decide +kernel) rfl, by decide +kernel, by decide +kernel, by decide +kernel⟩
theorem kr_mf_C_sheet : kr_mf i_C_sheet 3 := ⟨kr_gm (i := 971) (by decide +kernel) rfl, kr_gm (i := 50) (by decide +kernel) rfl, by decide +kernel, by decide +kernel, by decide +kernel⟩
theorem kr_mf_C_storm : kr_mf i_C_storm 1 := ⟨kr_gm (i := 849) (by decide +kernel) rfl, kr_gm (i := 50) (by decide +kernel) rfl, by decide +kernel, by decide +kernel, by decide +kernel⟩
theorem kr_mf_C_strength : kr_mf i_C_strength 2 := ⟨kr_gm (i := 829) (by decide +kernel) rfl, kr_gm (i := 50) (by decide +kernel) rfl, by decide +kernel, by decide +kernel, by decide +kernel⟩
theorem kr_mf_C_sure : kr_mf i_C_sure 1 := ⟨kr_gm (i := 888) (by decide +kernel) rfl, kr_gm (i := 50) (by decide +kernel) rfl, by decide +kernel, by decide +kernel, by decide +kernel⟩
theorem kr_mf_C_text : kr_mf i_C_text 0 := ⟨kr_gm (i := 433) (by decide +kernel) rfl, kr_gm (i := 50) (by decide +kernel) rfl, by decide +kernel, by decide +kernel, by decide +kernel⟩
theorem kr_mf_C_torn : kr_mf i_C_torn 0 := ⟨kr_gm (i := 1025) (by decide +kernel) rfl, kr_gm (i := 50) (by decide +kernel) rfl, by decide +kernel, by decide +kernel, by decide +kernel⟩
theorem kr_mf_C_waited : kr_mf i_C_waited 2 := ⟨kr_gm (i := 837) (by decide +kernel) rfl, kr_gm (i := 50) (by decide +kernel) rfl, by decide +kernel, by decide +kernel, by decide +kernel⟩
theorem kr_mf_C_way : kr_mf i_C_way 3 := ⟨kr_gm (i := 705) (by decide +kernel) rfl, kr_gm (i := 50) (by decide +kernel) rfl, by decide +kernel, by decide +kernel, by decide +kernel⟩
theorem kr_mf_C_wet : kr_mf i_C_wet 0 := ⟨kr_gm (i := 668) (by decide +kernel) rfl, kr_gm (i := 50) (by decide +kernel) rfl, by decide +kernel, by decide +kernel, by decide +kernel⟩
theorem kr_mf_C_where : kr_mf i_C_where 2 := ⟨kr_gm (i := 790) (by decide +kernel) rfl, kr_gm (i := 50) (by decide +kernel) rfl, by decide +kernel, by decide +kernel, by decide +kernel⟩
theorem kr_mf_C_worst : kr_mf i_C_worst 1 := ⟨kr_gm (i := 858) (by decide +kernel) rfl, kr_gm (i := 50) (by decide +kernel) rfl, by decide +kernel, by decide +kernel, by decide +kernel⟩
theorem kr_w_i_J0_charAt : Cond.instanceMethod (kr_nm i_J0_charAt) ∈ kr_gw := kr_gm (i := 482) (by decide +kernel) rfl
theorem kr_w_e_J0_charAt : Cond.selects RJ0 (kr_nm i_J0_charAt) (kr_nm i_J0_charAt) ∈ kr_gw := kr_gm (i := 483) (by decide +kernel) rfl
theorem kr_mf_J0_charAt : kr_mf i_J0_charAt 1 := ⟨kr_gm (i := 484) (by decide +kernel) rfl, kr_gm (i := 61) (by decide +kernel) rfl, by decide +kernel, by decide +kernel, by decide +kernel⟩
theorem kr_w_s_J0_checkIndex : Cond.static (kr_nm i_J0_checkIndex) ∈ kr_gw := kr_gm (i := 493) (by decide +kernel) rfl
theorem kr_mf_J0_checkIndex : kr_mf i_J0_checkIndex 2 := ⟨kr_gm (i := 494) (by decide +kernel) rfl, kr_gm (i := 61) (by decide +kernel) rfl, by decide +kernel, by decide +kernel, by decide +kernel⟩
theorem kr_w_i_J0_coder : Cond.instanceMethod (kr_nm i_J0_coder) ∈ kr_gw := kr_gm (i := 476) (by decide +kernel) rfl
theorem kr_w_e_J0_coder : Cond.selects RJ0 (kr_nm i_J0_coder) (kr_nm i_J0_coder) ∈ kr_gw := kr_gm (i := 477) (by decide +kernel) rfl
theorem kr_mf_J0_coder : kr_mf i_J0_coder 0 := ⟨kr_gm (i := 478) (by decide +kernel) rfl, kr_gm (i := 61) (by decide +kernel) rfl, by decide +kernel, by decide +kernel, by decide +kernel⟩
theorem kr_w_i_J0_isLatin1 : Cond.instanceMethod (kr_nm i_J0_isLatin1) ∈ kr_gw := kr_gm (i := 486) (by decide +kernel) rfl
theorem kr_w_e_J0_isLatin1 : Cond.selects RJ0 (kr_nm i_J0_isLatin1) (kr_nm i_J0_isLatin1) ∈ kr_gw := kr_gm (i := 487) (by decide +kernel) rfl
theorem kr_mf_J0_isLatin1 : kr_mf i_J0_isLatin1 0 := ⟨kr_gm (i := 488) (by decide +kernel) rfl, kr_gm (i := 61) (by decide +kernel) rfl, by decide +kernel, by decide +kernel, by decide +kernel⟩
theorem kr_w_i_J0_length : Cond.instanceMethod (kr_nm i_J0_length) ∈ kr_gw := kr_gm (i := 472) (by decide +kernel) rfl
theorem kr_w_e_J0_length : Cond.selects RJ0 (kr_nm i_J0_length) (kr_nm i_J0_length) ∈ kr_gw := kr_gm (i := 473) (by decide +kernel) rfl
theorem kr_mf_J0_length : kr_mf i_J0_length 0 := ⟨kr_gm (i := 474) (by decide +kernel) rfl, kr_gm (i := 61) (by decide +kernel) rfl, by decide +kernel, by decide +kernel, by decide +kernel⟩
theorem kr_w_s_J1_charAt : Cond.static (kr_nm i_J1_charAt) ∈ kr_gw := kr_gm (i := 490) (by decide +kernel) rfl
theorem kr_mf_J1_charAt : kr_mf i_J1_charAt 2 := ⟨kr_gm (i := 491) (by decide +kernel) rfl, kr_gm (i := 62) (by decide +kernel) rfl, by decide +kernel, by decide +kernel, by decide +kernel⟩
theorem kr_w_s_J3_checkIndex : Cond.static (kr_nm i_J3_checkIndex) ∈ kr_gw := kr_gm (i := 498) (by decide +kernel) rfl
theorem kr_mf_J3_checkIndex : kr_mf i_J3_checkIndex 3 := ⟨kr_gm (i := 499) (by decide +kernel) rfl, kr_gm (i := 63) (by decide +kernel) rfl, by decide +kernel, by decide +kernel, by decide +kernel⟩
theorem kr_w_s_J6_bitCount : Cond.static (kr_nm i_J6_bitCount) ∈ kr_gw := kr_gm (i := 860) (by decide +kernel) rfl
theorem kr_mf_J6_bitCount : kr_mf i_J6_bitCount 1 := ⟨kr_gm (i := 861) (by decide +kernel) rfl, kr_gm (i := 67) (by decide +kernel) rfl, by decide +kernel, by decide +kernel, by decide +kernel⟩
theorem kr_w_s_J6_numberOfTrailingZeros : Cond.static (kr_nm i_J6_numberOfTrailingZeros) ∈ kr_gw := kr_gm (i := 774) (by decide +kernel) rfl
theorem kr_mf_J6_numberOfTrailingZeros : kr_mf i_J6_numberOfTrailingZeros 1 := ⟨kr_gm (i := 775) (by decide +kernel) rfl, kr_gm (i := 67) (by decide +kernel) rfl, by decide +kernel, by decide +kernel, by decide +kernel⟩
theorem kr_w_ma_max1 : Cond.static Lib.Math.max.name ∈ kr_gw := kr_gm (i := 602) (by decide +kernel) rfl
theorem kr_w_ma_max2 : Cond.code Lib.Math.max.name Lib.Math.max.code 2 (some .int) ∈ kr_gw := kr_gm (i := 603) (by decide +kernel) rfl
theorem kr_w_ma_min1 : Cond.static Lib.Math.min.name ∈ kr_gw := kr_gm (i := 731) (by decide +kernel) rfl
theorem kr_w_ma_min2 : Cond.code Lib.Math.min.name Lib.Math.min.code 2 (some .int) ∈ kr_gw := kr_gm (i := 732) (by decide +kernel) rfl
theorem kr_w_ma_abs1 : Cond.static Lib.Math.abs.name ∈ kr_gw := kr_gm (i := 724) (by decide +kernel) rfl
theorem kr_w_ma_abs2 : Cond.code Lib.Math.abs.name Lib.Math.abs.code 1 (some .int) ∈ kr_gw := kr_gm (i := 725) (by decide +kernel) rfl
theorem kr_w_ma0 : Cond.initialized "java/lang/Math" ∈ kr_gw := kr_gm (i := 65) (by decide +kernel) rfl
theorem kr_w_ac1 : Cond.native arraycopyName ∈ kr_gw := by decide +kernel
theorem kr_w_ac2 : Cond.static arraycopyName ∈ kr_gw := by decide +kernel
theorem kr_w_ac3 : Cond.initialized "java/lang/System" ∈ kr_gw := kr_gm (i := 66) (by decide +kernel) rfl
