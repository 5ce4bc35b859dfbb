/-! the ways as they are asked for -/
theorem st_Y_yardsOfWay {d : Nat} {Q : kr_Q} {pc : Nat} {ls : kr_L} {st : List Value} {μ : kr_M} (h : C_Y_yardsOfWay pc (kr_Wp C_Y_yardsOfWay (kr_c d) Q) (kr_c d) Q ls st μ) : kr_Wp C_Y_yardsOfWay (kr_c d) Q pc ls st μ := kr_Wp.step (fun pc => (kr_ok_Y_yardsOfWay pc).2) (kr_c_om d) h
theorem v_Y_yardsOfWay {d : Nat} {Q : kr_Q} {μ : kr_M} {a1 : Int32} {a2 : Int32} {a3 : Int32} (h : kr_c (d + 2) i_Y_reckonTo [.ref 24, .int a2, .int a3] μ (kr_bk (kr_Wp C_Y_yardsOfWay (kr_c (d + 2)) Q) 6 [some (.ref 24), some (.int a1), some (.int a2), some (.int a3), none] [])) : kr_c (d + 3) i_Y_yardsOfWay [.ref 24, .int a1, .int a2, .int a3] μ Q := ⟨rfl, (st_Y_yardsOfWay (st_Y_yardsOfWay (st_Y_yardsOfWay (st_Y_yardsOfWay (And.intro rfl h)))))⟩
theorem v_Y_yardsOfWay_6 {d : Nat} {Q : kr_Q} {μ : kr_M} {a1 : Int32} {a2 : Int32} {a3 : Int32} (h : vp_in ((a2 * (9 : Int32)) + a1) 81 ∧ (((μ.1 25 (((a2 * (9 : Int32)) + a1).toNatClampNeg)) < 1048576 → Q (some (.int ((μ.1 25 (((a2 * (9 : Int32)) + a1).toNatClampNeg)) / (16 : Int32)))) μ) ∧ (¬ ((μ.1 25 (((a2 * (9 : Int32)) + a1).toNatClampNeg)) < 1048576) → Q (some (.int (-4))) μ))) : kr_Wp C_Y_yardsOfWay (kr_c (d + 2)) Q 6 [some (.ref 24), some (.int a1), some (.int a2), some (.int a3), none] [] μ := (st_Y_yardsOfWay (st_Y_yardsOfWay (And.intro rfl (st_Y_yardsOfWay (st_Y_yardsOfWay (st_Y_yardsOfWay (st_Y_yardsOfWay (st_Y_yardsOfWay (st_Y_yardsOfWay (And.intro ⟨81, rfl, h.1⟩ (st_Y_yardsOfWay (st_Y_yardsOfWay (st_Y_yardsOfWay (st_Y_yardsOfWay (And.intro (fun z1x => (st_Y_yardsOfWay (st_Y_yardsOfWay (st_Y_yardsOfWay (And.intro (by decide) (st_Y_yardsOfWay (h.2.1 z1x))))))) (fun z1x => (st_Y_yardsOfWay (st_Y_yardsOfWay (st_Y_yardsOfWay (h.2.2 z1x))))))))))))))))))))
theorem st_Y_linesOfWay {d : Nat} {Q : kr_Q} {pc : Nat} {ls : kr_L} {st : List Value} {μ : kr_M} (h : C_Y_linesOfWay pc (kr_Wp C_Y_linesOfWay (kr_c d) Q) (kr_c d) Q ls st μ) : kr_Wp C_Y_linesOfWay (kr_c d) Q pc ls st μ := kr_Wp.step (fun pc => (kr_ok_Y_linesOfWay pc).2) (kr_c_om d) h
theorem v_Y_linesOfWay {d : Nat} {Q : kr_Q} {μ : kr_M} {a1 : Int32} {a2 : Int32} {a3 : Int32} (h : kr_c (d + 2) i_Y_reckonTo [.ref 24, .int a2, .int a3] μ (kr_bk (kr_Wp C_Y_linesOfWay (kr_c (d + 2)) Q) 6 [some (.ref 24), some (.int a1), some (.int a2), some (.int a3), none] [])) : kr_c (d + 3) i_Y_linesOfWay [.ref 24, .int a1, .int a2, .int a3] μ Q := ⟨rfl, (st_Y_linesOfWay (st_Y_linesOfWay (st_Y_linesOfWay (st_Y_linesOfWay (And.intro rfl h)))))⟩
theorem v_Y_linesOfWay_6 {d : Nat} {Q : kr_Q} {μ : kr_M} {a1 : Int32} {a2 : Int32} {a3 : Int32} (h : vp_in ((a2 * (9 : Int32)) + a1) 81 ∧ (((μ.1 25 (((a2 * (9 : Int32)) + a1).toNatClampNeg)) < 1048576 → Q (some (.int ((μ.1 25 (((a2 * (9 : Int32)) + a1).toNatClampNeg)) - (μ.1 25 (((a2 * (9 : Int32)) + a1).toNatClampNeg)) / (16 : Int32) * (16 : Int32)))) μ) ∧ (¬ ((μ.1 25 (((a2 * (9 : Int32)) + a1).toNatClampNeg)) < 1048576) → Q (some (.int (-4))) μ))) : kr_Wp C_Y_linesOfWay (kr_c (d + 2)) Q 6 [some (.ref 24), some (.int a1), some (.int a2), some (.int a3), none] [] μ := (st_Y_linesOfWay (st_Y_linesOfWay (And.intro rfl (st_Y_linesOfWay (st_Y_linesOfWay (st_Y_linesOfWay (st_Y_linesOfWay (st_Y_linesOfWay (st_Y_linesOfWay (And.intro ⟨81, rfl, h.1⟩ (st_Y_linesOfWay (st_Y_linesOfWay (st_Y_linesOfWay (st_Y_linesOfWay (And.intro (fun z1x => (st_Y_linesOfWay (st_Y_linesOfWay (st_Y_linesOfWay (And.intro (by decide) (st_Y_linesOfWay (h.2.1 z1x))))))) (fun z1x => (st_Y_linesOfWay (st_Y_linesOfWay (st_Y_linesOfWay (h.2.2 z1x))))))))))))))))))))
theorem st_Y_lineOfWay {d : Nat} {Q : kr_Q} {pc : Nat} {ls : kr_L} {st : List Value} {μ : kr_M} (h : C_Y_lineOfWay pc (kr_Wp C_Y_lineOfWay (kr_c d) Q) (kr_c d) Q ls st μ) : kr_Wp C_Y_lineOfWay (kr_c d) Q pc ls st μ := kr_Wp.step (fun pc => (kr_ok_Y_lineOfWay pc).2) (kr_c_om d) h
theorem v_Y_lineOfWay {d : Nat} {Q : kr_Q} {μ : kr_M} {a1 : Int32} {a2 : Int32} {a3 : Int32} {a4 : Int32} (h : kr_Wp C_Y_lineOfWay (kr_c (d + 3)) Q 6 [some (.ref 24), some (.int a1), some (.int a2), some (.int a3), some (.int a4), some (.int a1), some (.int 0), none] [] μ) : kr_c (d + 4) i_Y_lineOfWay [.ref 24, .int a1, .int a2, .int a3, .int a4] μ Q := ⟨rfl, (st_Y_lineOfWay (st_Y_lineOfWay (st_Y_lineOfWay (st_Y_lineOfWay h))))⟩
theorem v_Y_lineOfWay_6 {d : Nat} {Q : kr_Q} {μ : kr_M} {a1 : Int32} {a2 : Int32} {a3 : Int32} {a4 : Int32} {a5 : Int32} {a6 : Int32} (h : ((a3 ≤ a6 → kr_c (d + 3) i_Y_firstLine [.ref 24, .int a5, .int a2, .int a4] μ (kr_bk (kr_Wp C_Y_lineOfWay (kr_c (d + 3)) Q) 61 [some (.ref 24), some (.int a1), some (.int a2), some (.int a3), some (.int a4), some (.int a5), some (.int a6), none] [])) ∧ (¬ (a3 ≤ a6) → kr_c (d + 3) i_Y_firstLine [.ref 24, .int a5, .int a2, .int a4] μ (kr_bk (kr_Wp C_Y_lineOfWay (kr_c (d + 3)) Q) 21 [some (.ref 24), some (.int a1), some (.int a2), some (.int a3), some (.int a4), some (.int a5), some (.int a6), none] [])))) : kr_Wp C_Y_lineOfWay (kr_c (d + 3)) Q 6 [some (.ref 24), some (.int a1), some (.int a2), some (.int a3), some (.int a4), some (.int a5), some (.int a6), none] [] μ := (st_Y_lineOfWay (st_Y_lineOfWay (st_Y_lineOfWay (And.intro (fun z1x => (st_Y_lineOfWay (st_Y_lineOfWay (st_Y_lineOfWay (st_Y_lineOfWay (st_Y_lineOfWay (And.intro rfl (h.1 z1x)))))))) (fun z1x => (st_Y_lineOfWay (st_Y_lineOfWay (st_Y_lineOfWay (st_Y_lineOfWay (st_Y_lineOfWay (And.intro rfl (h.2 z1x))))))))))))
theorem v_Y_lineOfWay_61 {d : Nat} {Q : kr_Q} {μ : kr_M} {a1 : Int32} {a2 : Int32} {a3 : Int32} {a4 : Int32} {a5 : Int32} {a6 : Int32} {r : Int32} (h : Q (some (.int r)) μ) : kr_Wp C_Y_lineOfWay (kr_c (d + 3)) Q 61 [some (.ref 24), some (.int a1), some (.int a2), some (.int a3), some (.int a4), some (.int a5), some (.int a6), none] [.int r] μ := (st_Y_lineOfWay h)
theorem v_Y_lineOfWay_21 {d : Nat} {Q : kr_Q} {μ : kr_M} {a1 : Int32} {a2 : Int32} {a3 : Int32} {a4 : Int32} {a5 : Int32} {a6 : Int32} {r : Int32} (h : ((¬ r = (-4) → kr_c (d + 3) i_R_otherEnd [.ref 1, .int r, .int a5] μ (kr_bk (kr_Wp C_Y_lineOfWay (kr_c (d + 3)) Q) 44 [some (.ref 24), some (.int a1), some (.int a2), some (.int a3), some (.int a4), some (.int a5), some (.int a6), some (.int r)] [])) ∧ (r = (-4) → Q (some (.int (-4))) μ))) : kr_Wp C_Y_lineOfWay (kr_c (d + 3)) Q 21 [some (.ref 24), some (.int a1), some (.int a2), some (.int a3), some (.int a4), some (.int a5), some (.int a6), none] [.int r] μ := (st_Y_lineOfWay (st_Y_lineOfWay (st_Y_lineOfWay (st_Y_lineOfWay (And.intro (fun z1x => (st_Y_lineOfWay (st_Y_lineOfWay (And.intro rfl (st_Y_lineOfWay (st_Y_lineOfWay (st_Y_lineOfWay (And.intro rfl (h.1 z1x))))))))) (fun z1x => (st_Y_lineOfWay (st_Y_lineOfWay (h.2 (Decidable.not_not.mp z1x))))))))))
theorem v_Y_lineOfWay_44 {d : Nat} {Q : kr_Q} {μ : kr_M} {a1 : Int32} {a2 : Int32} {a3 : Int32} {a4 : Int32} {a5 : Int32} {a6 : Int32} {a7 : Int32} {r : Int32} (h : kr_Wp C_Y_lineOfWay (kr_c (d + 3)) Q 6 [some (.ref 24), some (.int a1), some (.int a2), some (.int a3), some (.int a4), some (.int r), some (.int (a6 + 1)), none] [] μ) : kr_Wp C_Y_lineOfWay (kr_c (d + 3)) Q 44 [some (.ref 24), some (.int a1), some (.int a2), some (.int a3), some (.int a4), some (.int a5), some (.int a6), some (.int a7)] [.int r] μ := (st_Y_lineOfWay (st_Y_lineOfWay (st_Y_lineOfWay (kr_Wp.lm [true, true, true, true, true, true, true, false] h))))
theorem st_C_way {d : Nat} {Q : kr_Q} {pc : Nat} {ls : kr_L} {st : List Value} {μ : kr_M} (h : C_C_way pc (kr_Wp C_C_way (kr_c d) Q) (kr_c d) Q ls st μ) : kr_Wp C_C_way (kr_c d) Q pc ls st μ := kr_Wp.step (fun pc => (kr_ok_C_way pc).2) (kr_c_om d) h
theorem v_C_way {d : Nat} {Q : kr_Q} {μ : kr_M} {a1 : Int32} {a2 : Int32} {a3 : Int32} (h : ((¬ (0 ≤ a1 ∧ a1 < (μ.1 1 0)) → Q (some (.int (-1))) μ) ∧ (0 ≤ a1 ∧ a1 < (μ.1 1 0) → ((¬ (0 ≤ a2 ∧ a2 < (μ.1 1 0)) → Q (some (.int (-1))) μ) ∧ (0 ≤ a2 ∧ a2 < (μ.1 1 0) → (((0 ≤ a3 ∧ a3 ≤ 1) ∨ (10 ≤ a3 ∧ a3 ≤ 18) → kr_c (d + 4) i_R_wholeLines [.ref 1] μ (kr_bk (kr_Wp C_C_way (kr_c (d + 4)) Q) 38 [some (.ref 0), some (.int a1), some (.int a2), some (.int a3), none] [])) ∧ (¬ ((0 ≤ a3 ∧ a3 ≤ 1) ∨ (10 ≤ a3 ∧ a3 ≤ 18)) → Q (some (.int (-1))) μ))))))) : kr_c (d + 5) i_C_way [.ref 0, .int a1, .int a2, .int a3] μ Q := ⟨rfl, (st_C_way (st_C_way (And.intro rfl (st_C_way (st_C_way (And.intro rfl (c_R_hasPoint (st_C_way (And.intro (fun z1x => (st_C_way (st_C_way (h.1 (kr_b0 z1x))))) (fun z1x => (st_C_way (st_C_way (And.intro rfl (st_C_way (st_C_way (And.intro rfl (c_R_hasPoint (st_C_way (And.intro (fun z2x => (st_C_way (st_C_way ((h.2 (kr_b1 z1x)).1 (kr_b0 z2x))))) (fun z2x => (st_C_way (st_C_way (c_C_isWayQuestion (st_C_way (And.intro (fun z3x => (st_C_way (st_C_way (And.intro rfl (st_C_way (And.intro rfl (((h.2 (kr_b1 z1x)).2 (kr_b1 z2x)).1 (kr_b1 z3x)))))))) (fun z3x => (st_C_way (st_C_way (((h.2 (kr_b1 z1x)).2 (kr_b1 z2x)).2 (kr_b2 z3x))))))))))))))))))))))))))))))⟩
theorem v_C_way_38 {d : Nat} {Q : kr_Q} {μ : kr_M} {a1 : Int32} {a2 : Int32} {a3 : Int32} {r : Int32} (h : kr_c (d + 4) i_Y_beginAnew [.ref 24] μ (kr_bk (kr_Wp C_C_way (kr_c (d + 4)) Q) 47 [some (.ref 0), some (.int a1), some (.int a2), some (.int a3), some (.int r)] [])) : kr_Wp C_C_way (kr_c (d + 4)) Q 38 [some (.ref 0), some (.int a1), some (.int a2), some (.int a3), none] [.int r] μ := (st_C_way (st_C_way (st_C_way (And.intro rfl (st_C_way (And.intro rfl h))))))
theorem v_C_way_47 {d : Nat} {Q : kr_Q} {μ : kr_M} {a1 : Int32} {a2 : Int32} {a3 : Int32} {a4 : Int32} (h : ((¬ a3 = 0 → ((¬ a3 = 1 → kr_c (d + 4) i_Y_lineOfWay [.ref 24, .int a1, .int a2, .int (a3 - (10 : Int32)), .int a4] μ (kr_bk (kr_Wp C_C_way (kr_c (d + 4)) Q) 95 [some (.ref 0), some (.int a1), some (.int a2), some (.int a3), some (.int a4)] [])) ∧ (a3 = 1 → kr_c (d + 4) i_Y_linesOfWay [.ref 24, .int a1, .int a2, .int a4] μ (kr_bk (kr_Wp C_C_way (kr_c (d + 4)) Q) 79 [some (.ref 0), some (.int a1), some (.int a2), some (.int a3), some (.int a4)] [])))) ∧ (a3 = 0 → kr_c (d + 4) i_Y_yardsOfWay [.ref 24, .int a1, .int a2, .int a4] μ (kr_bk (kr_Wp C_C_way (kr_c (d + 4)) Q) 62 [some (.ref 0), some (.int a1), some (.int a2), some (.int a3), some (.int a4)] [])))) : kr_Wp C_C_way (kr_c (d + 4)) Q 47 [some (.ref 0), some (.int a1), some (.int a2), some (.int a3), some (.int a4)] [] μ := (st_C_way (st_C_way (And.intro (fun z1x => (st_C_way (st_C_way (st_C_way (And.intro (fun z2x => (st_C_way (st_C_way (And.intro rfl (st_C_way (st_C_way (st_C_way (st_C_way (st_C_way (st_C_way (st_C_way (And.intro rfl ((h.1 z1x).1 z2x))))))))))))) (fun z2x => (st_C_way (st_C_way (And.intro rfl (st_C_way (st_C_way (st_C_way (st_C_way (And.intro rfl ((h.1 z1x).2 (Decidable.not_not.mp z2x)))))))))))))))) (fun z1x => (st_C_way (st_C_way (And.intro rfl (st_C_way (st_C_way (st_C_way (st_C_way (And.intro rfl (h.2 (Decidable.not_not.mp z1x))))))))))))))
theorem v_C_way_95 {d : Nat} {Q : kr_Q} {μ : kr_M} {a1 : Int32} {a2 : Int32} {a3 : Int32} {a4 : Int32} {r : Int32} (h : Q (some (.int r)) μ) : kr_Wp C_C_way (kr_c (d + 4)) Q 95 [some (.ref 0), some (.int a1), some (.int a2), some (.int a3), some (.int a4)] [.int r] μ := (st_C_way h)
theorem v_C_way_79 {d : Nat} {Q : kr_Q} {μ : kr_M} {a1 : Int32} {a2 : Int32} {a3 : Int32} {a4 : Int32} {r : Int32} (h : Q (some (.int r)) μ) : kr_Wp C_C_way (kr_c (d + 4)) Q 79 [some (.ref 0), some (.int a1), some (.int a2), some (.int a3), some (.int a4)] [.int r] μ := (st_C_way h)
theorem v_C_way_62 {d : Nat} {Q : kr_Q} {μ : kr_M} {a1 : Int32} {a2 : Int32} {a3 : Int32} {a4 : Int32} {r : Int32} (h : Q (some (.int r)) μ) : kr_Wp C_C_way (kr_c (d + 4)) Q 62 [some (.ref 0), some (.int a1), some (.int a2), some (.int a3), some (.int a4)] [.int r] μ := (st_C_way h)
theorem st_M_way {d : Nat} {Q : kr_Q} {pc : Nat} {ls : kr_L} {st : List Value} {μ : kr_M} (h : C_M_way pc (kr_Wp C_M_way (kr_c d) Q) (kr_c d) Q ls st μ) : kr_Wp C_M_way (kr_c d) Q pc ls st μ := kr_Wp.step (fun pc => (kr_ok_M_way pc).2) (kr_c_om d) h
theorem v_M_way {d : Nat} {Q : kr_Q} {μ : kr_M} {a1 : Int32} {a2 : Int32} {a3 : Int32} (h : ((¬ (0 ≤ a1 ∧ a1 ≤ (μ.1 65 2) - 1) → Q (some (.int (-1))) μ) ∧ (0 ≤ a1 ∧ a1 ≤ (μ.1 65 2) - 1 → ((¬ (0 ≤ a2 ∧ a2 ≤ (μ.1 65 2) - 1) → Q (some (.int (-1))) μ) ∧ (0 ≤ a2 ∧ a2 ≤ (μ.1 65 2) - 1 → (((0 : Int64) ≤ a3.toInt64 ∧ a3.toInt64 ≤ (1 : Int64) → kr_c (d + 3) i_M_strongNow [.ref 65] μ (kr_bk (kr_Wp C_M_way (kr_c (d + 3)) Q) 46 [some (.ref 65), some (.int a1), some (.int a2), some (.int a3), none, none, none] [])) ∧ (¬ ((0 : Int64) ≤ a3.toInt64 ∧ a3.toInt64 ≤ (1 : Int64)) → (((10 : Int64) ≤ a3.toInt64 ∧ a3.toInt64 ≤ (18 : Int64) → kr_c (d + 3) i_M_strongNow [.ref 65] μ (kr_bk (kr_Wp C_M_way (kr_c (d + 3)) Q) 46 [some (.ref 65), some (.int a1), some (.int a2), some (.int a3), none, none, none] [])) ∧ (¬ ((10 : Int64) ≤ a3.toInt64 ∧ a3.toInt64 ≤ (18 : Int64)) → Q (some (.int (-1))) μ))))))))) : kr_c (d + 4) i_M_way [.ref 65, .int a1, .int a2, .int a3] μ Q := ⟨rfl, (st_M_way (st_M_way (st_M_way (And.intro rfl (c_M_isPoint (st_M_way (And.intro (fun z1x => (st_M_way (st_M_way (h.1 (kr_b0 z1x))))) (fun z1x => (st_M_way (st_M_way (st_M_way (And.intro rfl (c_M_isPoint (st_M_way (And.intro (fun z2x => (st_M_way (st_M_way ((h.2 (kr_b1 z1x)).1 (kr_b0 z2x))))) (fun z2x => (st_M_way (st_M_way (st_M_way (st_M_way (st_M_way (c_M_in (st_M_way (And.intro (fun z3x => (st_M_way (st_M_way (And.intro rfl (((h.2 (kr_b1 z1x)).2 (kr_b1 z2x)).1 (kr_b1 z3x)))))) (fun z3x => (st_M_way (st_M_way (st_M_way (st_M_way (st_M_way (c_M_in (st_M_way (And.intro (fun z4x => (st_M_way (st_M_way (And.intro rfl ((((h.2 (kr_b1 z1x)).2 (kr_b1 z2x)).2 (kr_b2 z3x)).1 (kr_b1 z4x)))))) (fun z4x => (st_M_way (st_M_way ((((h.2 (kr_b1 z1x)).2 (kr_b1 z2x)).2 (kr_b2 z3x)).2 (kr_b2 z4x))))))))))))))))))))))))))))))))))))))⟩
theorem v_M_way_128 {d : Nat} {Q : kr_Q} {μ : kr_M} {a1 : Int32} {a2 : Int32} {a3 : Int32} {a4 : Int32} {a5 : Int32} {a6 : Int32} (h : (((a3 - (10 : Int32)) < a6 → Q (some (.int a5)) μ) ∧ (¬ ((a3 - (10 : Int32)) < a6) → kr_c (d + 3) i_M_firstLine [.ref 65, .int a4] μ (kr_bk (kr_Wp C_M_way (kr_c (d + 3)) Q) 143 [some (.ref 65), some (.int a1), some (.int a2), some (.int a3), some (.int a4), some (.int a5), some (.int a6)] [])))) : kr_Wp C_M_way (kr_c (d + 3)) Q 128 [some (.ref 65), some (.int a1), some (.int a2), some (.int a3), some (.int a4), some (.int a5), some (.int a6)] [] μ := (st_M_way (st_M_way (st_M_way (st_M_way (st_M_way (And.intro (fun z1x => (st_M_way (st_M_way (h.1 z1x)))) (fun z1x => (st_M_way (st_M_way (st_M_way (And.intro rfl (h.2 z1x))))))))))))
theorem v_M_way_46 {d : Nat} {Q : kr_Q} {μ : kr_M} {a1 : Int32} {a2 : Int32} {a3 : Int32} (h : kr_c (d + 3) i_M_findLeast [.ref 65, .int a2] μ (kr_bk (kr_Wp C_M_way (kr_c (d + 3)) Q) 51 [some (.ref 65), some (.int a1), some (.int a2), some (.int a3), none, none, none] [])) : kr_Wp C_M_way (kr_c (d + 3)) Q 46 [some (.ref 65), some (.int a1), some (.int a2), some (.int a3), none, none, none] [] μ := (st_M_way (st_M_way (st_M_way (And.intro rfl h))))
theorem v_M_way_143 {d : Nat} {Q : kr_Q} {μ : kr_M} {a1 : Int32} {a2 : Int32} {a3 : Int32} {a4 : Int32} {a5 : Int32} {a6 : Int32} {r : Int32} (h : kr_c (d + 3) i_M_otherEnd [.ref 65, .int r, .int a4] μ (kr_bk (kr_Wp C_M_way (kr_c (d + 3)) Q) 153 [some (.ref 65), some (.int a1), some (.int a2), some (.int a3), some (.int a4), some (.int r), some (.int a6)] [])) : kr_Wp C_M_way (kr_c (d + 3)) Q 143 [some (.ref 65), some (.int a1), some (.int a2), some (.int a3), some (.int a4), some (.int a5), some (.int a6)] [.int r] μ := (st_M_way (st_M_way (st_M_way (st_M_way (st_M_way (And.intro rfl h))))))
theorem v_M_way_51 {d : Nat} {Q : kr_Q} {μ : kr_M} {a1 : Int32} {a2 : Int32} {a3 : Int32} (h : vp_in a1 9 ∧ ((¬ (μ.1 73 a1.toNatClampNeg) = 1000000000 → (((2 : Int32) ≤ a3 → vp_in a1 9 ∧ (((a3 - (10 : Int32)) < ((μ.1 73 a1.toNatClampNeg) - (μ.1 73 a1.toNatClampNeg) / (1000 : Int32) * (1000 : Int32)) → kr_Wp C_M_way (kr_c (d + 3)) Q 128 [some (.ref 65), some (.int a1), some (.int a2), some (.int a3), some (.int a1), some (.int (-4)), some (.int 0)] [] μ) ∧ (¬ ((a3 - (10 : Int32)) < ((μ.1 73 a1.toNatClampNeg) - (μ.1 73 a1.toNatClampNeg) / (1000 : Int32) * (1000 : Int32))) → Q (some (.int (-4))) μ))) ∧ (¬ ((2 : Int32) ≤ a3) → ((¬ a3 = 0 → vp_in a1 9 ∧ Q (some (.int ((μ.1 73 a1.toNatClampNeg) - (μ.1 73 a1.toNatClampNeg) / (1000 : Int32) * (1000 : Int32)))) μ) ∧ (a3 = 0 → vp_in a1 9 ∧ Q (some (.int ((μ.1 73 a1.toNatClampNeg) / (1000 : Int32)))) μ))))) ∧ ((μ.1 73 a1.toNatClampNeg) = 1000000000 → Q (some (.int (-4))) μ))) : kr_Wp C_M_way (kr_c (d + 3)) Q 51 [some (.ref 65), some (.int a1), some (.int a2), some (.int a3), none, none, none] [] μ := (st_M_way (st_M_way (And.intro rfl (st_M_way (st_M_way (And.intro ⟨9, rfl, h.1⟩ (st_M_way (st_M_way (And.intro (fun z1x => (st_M_way (st_M_way (st_M_way (And.intro (fun z2x => (st_M_way (st_M_way (st_M_way (st_M_way (st_M_way (And.intro rfl (st_M_way (st_M_way (And.intro ⟨9, rfl, ((h.2.1 z1x).1 z2x).1⟩ (st_M_way (st_M_way (And.intro (by decide) (st_M_way (And.intro (fun z3x => (st_M_way (st_M_way (st_M_way (st_M_way (st_M_way (st_M_way (((h.2.1 z1x).1 z2x).2.1 z3x)))))))) (fun z3x => (st_M_way (st_M_way (((h.2.1 z1x).1 z2x).2.2 z3x))))))))))))))))))) (fun z2x => (st_M_way (st_M_way (And.intro (fun z4x => (st_M_way (st_M_way (And.intro rfl (st_M_way (st_M_way (And.intro ⟨9, rfl, (((h.2.1 z1x).2 z2x).1 z4x).1⟩ (st_M_way (st_M_way (And.intro (by decide) (st_M_way (((h.2.1 z1x).2 z2x).1 z4x).2))))))))))) (fun z4x => (st_M_way (st_M_way (And.intro rfl (st_M_way (st_M_way (And.intro ⟨9, rfl, (((h.2.1 z1x).2 z2x).2 (Decidable.not_not.mp z4x)).1⟩ (st_M_way (st_M_way (And.intro (by decide) (st_M_way (st_M_way (((h.2.1 z1x).2 z2x).2 (Decidable.not_not.mp z4x)).2))))))))))))))))))))) (fun z1x => (st_M_way (st_M_way (h.2.2 (Decidable.not_not.mp z1x))))))))))))))
theorem v_M_way_153 {d : Nat} {Q : kr_Q} {μ : kr_M} {a1 : Int32} {a2 : Int32} {a3 : Int32} {a4 : Int32} {a5 : Int32} {a6 : Int32} {r : Int32} (h : kr_Wp C_M_way (kr_c (d + 3)) Q 128 [some (.ref 65), some (.int a1), some (.int a2), some (.int a3), some (.int r), some (.int a5), some (.int (a6 + 1))] [] μ) : kr_Wp C_M_way (kr_c (d + 3)) Q 153 [some (.ref 65), some (.int a1), some (.int a2), some (.int a3), some (.int a4), some (.int a5), some (.int a6)] [.int r] μ := (st_M_way (st_M_way (st_M_way h)))
theorem kx_hit_of {g : Nat → Nat} {S goal at_ l : Nat} (h : kx_hit g S (kx_dist g S goal) at_ l = true) : S.testBit l = true ∧ kx_ed g l at_ (kx_oe g l at_) ∧ kx_dist g S goal (kx_oe g l at_) < kx_F ∧ kx_dist g S goal (kx_oe g l at_) + kx_w 1000 g l = kx_dist g S goal at_ := by
  unfold kx_hit at h
  simp only [Bool.and_eq_true, Bool.or_eq_true, beq_iff_eq, decide_eq_true_eq] at h
  exact ⟨h.1, kx_oe_ed h.2.1, h.2.2.1, h.2.2.2⟩
theorem kx_nl_zero {g : Nat → Nat} {S goal at_ : Nat} (h : kx_dist g S goal at_ = 0) : ¬ kx_nl g S goal at_ < g 0 := by
  intro z
  have := (kx_hit_of (kx_nl_yes z)).2.2.2
  unfold kx_w at this
  omega
theorem kx_nl_far {g : Nat → Nat} (hg : kx_gb g) {S goal at_ : Nat} (h : kx_dist g S goal at_ = kx_F) : ¬ kx_nl g S goal at_ < g 0 := by
  intro z
  obtain ⟨h1, h2, h3, h4⟩ := kx_hit_of (kx_nl_yes z)
  have ho := kx_oe_lt hg (i := at_) z
  have := kx_l8 (kx_dist_is hg S goal) hg ho h3
  have hb := hg.2.2 _ z
  unfold kx_w at h4
  unfold kx_F at *
  omega
theorem kx_nl_some {g : Nat → Nat} (hg : kx_gb g) {S goal at_ : Nat} (ha : at_ < 9) (h0 : kx_dist g S goal at_ ≠ 0) (hF : kx_dist g S goal at_ < kx_F) : kx_nl g S goal at_ < g 0 := by
  have hd := kx_dist_is hg S goal
  have hne : at_ ≠ goal := fun e => h0 (by rw [e]; exact hd.1.1)
  obtain ⟨l, j, a1, a2, a3, a4, a5⟩ := kx_tight hd ha hne hF
  rcases Nat.lt_or_ge (kx_nl g S goal at_) (g 0) with z | z
  · exact z
  · exfalso
    have hn := kx_nl_no (g := g) (S := S) (goal := goal) (at_ := at_) (l := l) (by omega)
    have ej : kx_oe g l at_ = j := by
      have := hg.2.2 l a1
      unfold kx_oe
      rcases a3 with ⟨q1, q2⟩ | ⟨q1, q2⟩
      · rw [if_pos q1]; exact q2
      · rw [if_neg (by omega)]; exact q2
    have : kx_hit g S (kx_dist g S goal) at_ l = true := by
      unfold kx_hit
      simp only [Bool.and_eq_true, Bool.or_eq_true, beq_iff_eq, decide_eq_true_eq]
      refine ⟨a2, ?_, by rw [ej]; exact a4, by rw [ej]; omega⟩
      rcases a3 with ⟨q1, _⟩ | ⟨q1, _⟩
      · exact Or.inl q1
      · exact Or.inr q1
    rw [this] at hn
    cases hn
theorem c_Y_firstLine {d : Nat} {Q : kr_Q} {μ : kr_M} {g : Nat → Nat} (h0 : μ.1 1 2 = nI (g 0)) (hA : ∀ l, l < g 0 → μ.1 2 l = nI (kr_gk g l 0) ∧ μ.1 3 l = nI (kr_gk g l 1)) (hyd : ∀ l, l < g 0 → μ.1 4 l = nI (kr_gk g l 2)) (hg : kx_gb g) {goal S at_ : Nat} (hgo : goal < 9) (ha : at_ < 9) (hS : S < 4096) (hc : kx_cache μ g) (k : ∀ μ', kr_keep [25, 26] [] μ μ' → kx_cache μ' g → Q (some (.int (kx_nlI g S goal at_))) μ') : kr_c (d + 3) i_Y_firstLine [.ref 24, .int (nI at_), .int (nI goal), .int (nI S)] μ Q := by
  obtain ⟨hN, h61, hlb⟩ := id hg
  refine v_Y_firstLine (c_Y_reckonTo h0 hA hyd hg hgo hS hc (fun μ' hk hc' hrow => v_Y_firstLine_6 ?_))
  have k := k μ' hk hc'
  have o1 : μ'.1 1 2 = nI (g 0) := by rw [hk.row (o := 1) (by decide) (by decide)]; exact h0
  have o2 : ∀ l, l < g 0 → μ'.1 2 l = nI (kr_gk g l 0) ∧ μ'.1 3 l = nI (kr_gk g l 1) := by rw [hk.row (o := 2) (by decide) (by decide), hk.row (o := 3) (by decide) (by decide)]; exact hA
  have o3 : ∀ l, l < g 0 → μ'.1 4 l = nI (kr_gk g l 2) := by rw [hk.row (o := 4) (by decide) (by decide)]; exact hyd
  have hd := kx_dist_is hg S goal
  have e9 : nI goal * (9 : Int32) = nI (goal * 9) := by rw [show (9 : Int32) = nI 9 from rfl, pk_mul]
  have hcv := kx_cv_F hd hg ha
  have hcb : kx_cv (kx_dist g S goal at_) ≤ kx_F2 := by
    have := (kx_conv hd hg hgo).1.2.1 at_ ha
    exact this
  unfold kx_F2 at hcb
  rw [e9, nI_add, nI_clamp (by omega), hrow at_ ha, kx_litF2, nI_ltI (by omega) (by decide), hcv.1]
  refine ⟨vp_in_nI (by omega) (by decide), fun hF => ?_, fun hF => ?_⟩
  · have hcv2 := hcv.2 hF
    have dec : ∀ l, l < g 0 → (kx_hit g S (kx_dist g S goal) at_ l = false → kr_Wp C_Y_firstLine (kr_c (d + 2)) Q 32 [some (.ref 24), some (.int (nI at_)), some (.int (nI goal)), some (.int (nI S)), some (.int (nI (kx_cv (kx_dist g S goal at_)))), some (.int (nI (l + 1))), none] [] μ') → (kx_hit g S (kx_dist g S goal) at_ l = true → Q (some (.int (nI l))) μ') → kr_Wp C_Y_firstLine (kr_c (d + 2)) Q 32 [some (.ref 24), some (.int (nI at_)), some (.int (nI goal)), some (.int (nI S)), some (.int (nI (kx_cv (kx_dist g S goal at_)))), some (.int (nI l)), none] [] μ' := by
      intro l hl hno hyes
      have hb := hlb l hl
      have vl : vp_in (nI l) 12 := vp_in_nI (by omega) (by decide)
      refine v_Y_firstLine_32 (br_f ?_ ?_)
      · rw [o1]
        exact nI_ge hl (by omega)
      rw [kr_bit0 (by omega) (by omega), kr_n1, nI_clamp (by omega), (o2 l hl).1, (o2 l hl).2, nI_eq (by omega) (by omega), nI_eq (by omega) (by omega), e9]
      refine ⟨fun z => hno ?_, fun z => ?_⟩
      · unfold kx_hit
        simp at z
        simp [z]
      have z : S.testBit l = true := by simpa using z
      have go : (kr_gk g l 0 = at_ ∨ kr_gk g l 1 = at_) → kr_c (d + 2) i_R_otherEnd [.ref 1, .int (nI l), .int (nI at_)] μ' (kr_bk (kr_Wp C_Y_firstLine (kr_c (d + 2)) Q) 95 [some (.ref 24), some (.int (nI at_)), some (.int (nI goal)), some (.int (nI S)), some (.int (nI (kx_cv (kx_dist g S goal at_)))), some (.int (nI l)), none] [.int (nI (goal * 9))]) := by
        intro he
        refine c_R_otherEnd o2 hg hl ha (v_Y_firstLine_95 ?_)
        have ho := kx_oe_lt hg (i := at_) hl
        have hco := kx_cv_F hd hg ho
        have hcob : kx_cv (kx_dist g S goal (kx_oe g l at_)) ≤ 1048576 := (kx_conv hd hg hgo).1.2.1 _ ho
        have ew : nI (kr_gk g l 2) * 16 + 1 = nI (kx_w 16 g l) := by
          rw [show (16 : Int32) = nI 16 from rfl, pk_mul, kr_n1, Nat.mul_comm]; rfl
        rw [nI_add, nI_clamp (by omega), hrow _ ho, nI_clamp (by omega), o3 l hl, ew, nI_add, kr_n1]
        have hw : kx_w 16 g l ≤ 145 := by unfold kx_w; omega
        rw [nI_eq (by omega) (by omega)]
        have key : kx_cv (kx_dist g S goal (kx_oe g l at_)) + kx_w 16 g l = kx_cv (kx_dist g S goal at_) ↔ kx_hit g S (kx_dist g S goal) at_ l = true := by
          unfold kx_hit
          simp only [z, he, Bool.true_and, Bool.and_eq_true, Bool.or_eq_true, beq_iff_eq, decide_eq_true_eq, true_and]
          have h8 := kx_l8 hd hg ha hF
          rcases Nat.lt_or_ge (kx_dist g S goal (kx_oe g l at_)) kx_F with h | h
          · have h9 := kx_l8 hd hg ho h
            rw [(hco.2 h).1, hcv2.1]
            unfold kx_w
            omega
          · have : kx_cv (kx_dist g S goal (kx_oe g l at_)) = kx_F2 := by unfold kx_cv; rw [if_neg (by omega)]
            rw [this]
            unfold kx_F2
            omega
        exact ⟨vp_in_nI (by omega) (by decide), vl, fun c => hno (by rw [Bool.eq_false_iff, ne_eq, ← key]; exact c), fun c => hyes (key.mp c)⟩
      refine ⟨vl, fun c => go (Or.inl c), fun c => ⟨vl, fun c2 => hno ?_, fun c2 => go (Or.inr c2)⟩⟩
      unfold kx_hit
      simp [c, c2]
    have hle := kx_nl_le g S goal at_
    refine kr_up (I := fun l => kr_Wp C_Y_firstLine (kr_c (d + 2)) Q 32 [some (.ref 24), some (.int (nI at_)), some (.int (nI goal)), some (.int (nI S)), some (.int (nI (kx_cv (kx_dist g S goal at_)))), some (.int (nI l)), none] [] μ') (kx_nl g S goal at_) ?_ ?_ 0 (Nat.zero_le _)
    · rcases Nat.lt_or_ge (kx_nl g S goal at_) (g 0) with h | h
      · refine dec _ h (fun z => ?_) (fun _ => ?_)
        · rw [kx_nl_yes h] at z; cases z
        · unfold kx_nlI at k; rw [if_pos h] at k; exact k
      · refine v_Y_firstLine_32 (br_t ?_ ?_)
        · rw [o1]
          exact nI_le h (by omega)
        · unfold kx_nlI at k; rw [if_neg (by omega)] at k; exact k
    · intro l hl ih
      exact dec l (by omega) (fun _ => ih) (fun z => by rw [kx_nl_no hl] at z; cases z)
  · have := kx_dist_le hg S goal ha
    unfold kx_nlI at k
    rw [if_neg (kx_nl_far hg (by omega))] at k
    exact k
/-- the point behind k lines of the way -/
noncomputable def kx_pt (g : Nat → Nat) (S goal a : Nat) : Nat → Nat
  | 0 => a
  | k + 1 => kx_oe g (kx_nl g S goal (kx_pt g S goal a k)) (kx_pt g S goal a k)
theorem kx_pt_ok {g : Nat → Nat} (hg : kx_gb g) {S goal a : Nat} (ha : a < 9) (hF : kx_dist g S goal a < kx_F) : ∀ k, k ≤ kx_dist g S goal a % 1000 → kx_pt g S goal a k < 9 ∧ kx_dist g S goal (kx_pt g S goal a k) < kx_F ∧ kx_dist g S goal (kx_pt g S goal a k) % 1000 + k = kx_dist g S goal a % 1000 := by
  intro k
  induction k with
  | zero => intro _; exact ⟨ha, hF, rfl⟩
  | succ k ih =>
    intro hk
    obtain ⟨h1, h2, h3⟩ := ih (by omega)
    have hn := kx_nl_some hg (S := S) (goal := goal) h1 (fun z => by rw [z] at h3; omega) h2
    obtain ⟨q1, q2, q3, q4⟩ := kx_hit_of (kx_nl_yes hn)
    have ho := kx_oe_lt hg (i := kx_pt g S goal a k) hn
    have h8 := kx_l8 (kx_dist_is hg S goal) hg ho q3
    refine ⟨ho, q3, ?_⟩
    show kx_dist g S goal (kx_oe g (kx_nl g S goal (kx_pt g S goal a k)) (kx_pt g S goal a k)) % 1000 + (k + 1) = _
    unfold kx_w at q4
    omega
theorem kx_pt_nl {g : Nat → Nat} (hg : kx_gb g) {S goal a : Nat} (ha : a < 9) (hF : kx_dist g S goal a < kx_F) {k : Nat} (hk : k < kx_dist g S goal a % 1000) : kx_nl g S goal (kx_pt g S goal a k) < g 0 := by
  obtain ⟨h1, h2, h3⟩ := kx_pt_ok hg ha hF k (by omega)
  exact kx_nl_some hg h1 (fun z => by rw [z] at h3; omega) h2
theorem kx_pt_end {g : Nat → Nat} (hg : kx_gb g) {S goal a : Nat} (ha : a < 9) (hF : kx_dist g S goal a < kx_F) : ¬ kx_nl g S goal (kx_pt g S goal a (kx_dist g S goal a % 1000)) < g 0 := by
  obtain ⟨h1, h2, h3⟩ := kx_pt_ok hg ha hF _ (Nat.le_refl _)
  have := kx_lines (kx_dist_is hg S goal) hg _ _ h1 (Nat.le_refl _) h2
  exact kx_nl_zero (by omega)
/-- way: 10 + k -/
noncomputable def kx_wayk (g : Nat → Nat) (S goal a k : Nat) : Int32 := if kx_dist g S goal a < kx_F ∧ k < kx_dist g S goal a % 1000 then nI (kx_nl g S goal (kx_pt g S goal a k)) else -4
theorem c_Y_lineOfWay {d : Nat} {Q : kr_Q} {μ : kr_M} {g : Nat → Nat} (h0 : μ.1 1 2 = nI (g 0)) (hA : ∀ l, l < g 0 → μ.1 2 l = nI (kr_gk g l 0) ∧ μ.1 3 l = nI (kr_gk g l 1)) (hyd : ∀ l, l < g 0 → μ.1 4 l = nI (kr_gk g l 2)) (hg : kx_gb g) {goal S a n : Nat} (hgo : goal < 9) (ha : a < 9) (hn : n ≤ 8) (hS : S < 4096) (hc : kx_cache μ g) (k : ∀ μ', kr_keep [25, 26] [] μ μ' → kx_cache μ' g → Q (some (.int (kx_wayk g S goal a n))) μ') : kr_c (d + 4) i_Y_lineOfWay [.ref 24, .int (nI a), .int (nI goal), .int (nI n), .int (nI S)] μ Q := by
  obtain ⟨hN, h61, hlb⟩ := id hg
  have oth : ∀ {μ' : kr_M}, kr_keep [25, 26] [] μ μ' → μ'.1 1 2 = nI (g 0) ∧ (∀ l, l < g 0 → μ'.1 2 l = nI (kr_gk g l 0) ∧ μ'.1 3 l = nI (kr_gk g l 1)) ∧ ∀ l, l < g 0 → μ'.1 4 l = nI (kr_gk g l 2) := by
    intro μ' hk
    rw [hk.row (o := 1) (by decide) (by decide), hk.row (o := 2) (by decide) (by decide), hk.row (o := 3) (by decide) (by decide), hk.row (o := 4) (by decide) (by decide)]
    exact ⟨h0, hA, hyd⟩
  refine v_Y_lineOfWay ?_
  -- no way at all
  by_cases hF : kx_dist g S goal a < kx_F
  · have main : ∀ m, m + min n (kx_dist g S goal a % 1000) ≤ min n (kx_dist g S goal a % 1000) + min n (kx_dist g S goal a % 1000) → ∀ μ', kr_keep [25, 26] [] μ μ' → kx_cache μ' g → kr_Wp C_Y_lineOfWay (kr_c (d + 3)) Q 6 [some (.ref 24), some (.int (nI a)), some (.int (nI goal)), some (.int (nI n)), some (.int (nI S)), some (.int (nI (kx_pt g S goal a m))), some (.int (nI m)), none] [] μ' := by
      have key : ∀ m, m ≤ min n (kx_dist g S goal a % 1000) → ∀ μ', kr_keep [25, 26] [] μ μ' → kx_cache μ' g → kr_Wp C_Y_lineOfWay (kr_c (d + 3)) Q 6 [some (.ref 24), some (.int (nI a)), some (.int (nI goal)), some (.int (nI n)), some (.int (nI S)), some (.int (nI (kx_pt g S goal a m))), some (.int (nI m)), none] [] μ' := by
        refine kr_up (I := fun m => ∀ μ', kr_keep [25, 26] [] μ μ' → kx_cache μ' g → kr_Wp C_Y_lineOfWay (kr_c (d + 3)) Q 6 [some (.ref 24), some (.int (nI a)), some (.int (nI goal)), some (.int (nI n)), some (.int (nI S)), some (.int (nI (kx_pt g S goal a m))), some (.int (nI m)), none] [] μ') (min n (kx_dist g S goal a % 1000)) ?_ ?_
        · intro μ' hk hc'
          obtain ⟨o1, o2, o3⟩ := oth hk
          obtain ⟨p1, p2, p3⟩ := kx_pt_ok hg ha hF (min n (kx_dist g S goal a % 1000)) (Nat.min_le_right _ _)
          refine v_Y_lineOfWay_6 ⟨fun c => ?_, fun c => ?_⟩
          · rw [nI_leI (by omega) (by omega)] at c
            have em : min n (kx_dist g S goal a % 1000) = n := by omega
            rw [em] at p1 p2 p3 ⊢
            refine c_Y_firstLine o1 o2 o3 hg hgo p1 hS hc' (fun μ2 hk2 hc2 => v_Y_lineOfWay_61 ?_)
            have k := k μ2 (hk.tr hk2) hc2
            unfold kx_wayk at k
            unfold kx_nlI
            by_cases e : n < kx_dist g S goal a % 1000
            · rw [if_pos ⟨hF, e⟩] at k
              rw [if_pos (kx_pt_nl hg ha hF e)]
              exact k
            · rw [if_neg (fun z => e z.2)] at k
              have en : n = kx_dist g S goal a % 1000 := by omega
              have hend := kx_pt_end hg ha hF
              rw [← en] at hend
              rw [if_neg hend]
              exact k
          · rw [nI_leI (by omega) (by omega)] at c
            have em : min n (kx_dist g S goal a % 1000) = kx_dist g S goal a % 1000 := by omega
            rw [em] at p1 p2 p3 ⊢
            refine c_Y_firstLine o1 o2 o3 hg hgo p1 hS hc' (fun μ2 hk2 hc2 => v_Y_lineOfWay_21 ?_)
            have k := k μ2 (hk.tr hk2) hc2
            unfold kx_wayk at k
            rw [if_neg (fun z => by omega)] at k
            unfold kx_nlI
            rw [if_neg (kx_pt_end hg ha hF)]
            exact ⟨fun z => absurd rfl z, fun _ => k⟩
        · intro m hm ih μ' hk hc'
          obtain ⟨o1, o2, o3⟩ := oth hk
          obtain ⟨p1, p2, p3⟩ := kx_pt_ok hg ha hF m (by omega)
          have hnl := kx_pt_nl hg ha hF (k := m) (by omega)
          refine v_Y_lineOfWay_6 (br_f (nI_ge (by omega) (by omega)) ?_)
          refine c_Y_firstLine o1 o2 o3 hg hgo p1 hS hc' (fun μ2 hk2 hc2 => v_Y_lineOfWay_21 ?_)
          unfold kx_nlI
          rw [if_pos hnl]
          refine ⟨fun _ => ?_, fun z => ?_⟩
          · obtain ⟨o1', o2', o3'⟩ := oth (hk.tr hk2)
            refine c_R_otherEnd o2' hg hnl p1 (v_Y_lineOfWay_44 ?_)
            rw [kr_n1]
            exact ih μ2 (hk.tr hk2) hc2
          · exfalso
            have h1 := congrArg Int32.toInt z
            rw [nI_toInt (by omega)] at h1
            have h4 : (-4 : Int32).toInt = -4 := rfl
            omega
      intro m hm
      exact key m (by omega)
    exact main 0 (by omega) μ kr_keep.rf hc
  · have hfar : kx_dist g S goal a = kx_F := by have := kx_dist_le hg S goal ha; omega
    have ek : ∀ m, kx_wayk g S goal a m = -4 := fun m => by unfold kx_wayk; rw [if_neg (fun z => hF z.1)]
    have en : kx_nlI g S goal a = -4 := by unfold kx_nlI; rw [if_neg (kx_nl_far hg hfar)]
    refine v_Y_lineOfWay_6 ⟨fun _ => ?_, fun _ => ?_⟩
    · refine c_Y_firstLine h0 hA hyd hg hgo ha hS hc (fun μ2 hk2 hc2 => v_Y_lineOfWay_61 ?_)
      have k := k μ2 hk2 hc2
      rw [ek] at k
      rw [en]
      exact k
    · refine c_Y_firstLine h0 hA hyd hg hgo ha hS hc (fun μ2 hk2 hc2 => v_Y_lineOfWay_21 ?_)
      have k := k μ2 hk2 hc2
      rw [ek] at k
      rw [en]
      exact ⟨fun z => absurd rfl z, fun _ => k⟩
/-- way -/
noncomputable def kx_way (g : Nat → Nat) (P : Nat) (a b what : Int32) : Int32 :=
  if (0 ≤ a ∧ a < nI P) ∧ (0 ≤ b ∧ b < nI P) ∧ ((0 ≤ what ∧ what ≤ 1) ∨ (10 ≤ what ∧ what ≤ 18)) then
    (if what = 0 then (if kx_dist g (kx_wl g) b.toNatClampNeg a.toNatClampNeg < kx_F then nI (kx_dist g (kx_wl g) b.toNatClampNeg a.toNatClampNeg / 1000) else -4)
    else if what = 1 then (if kx_dist g (kx_wl g) b.toNatClampNeg a.toNatClampNeg < kx_F then nI (kx_dist g (kx_wl g) b.toNatClampNeg a.toNatClampNeg % 1000) else -4)
    else kx_wayk g (kx_wl g) b.toNatClampNeg a.toNatClampNeg (what - 10).toNatClampNeg)
  else -1
theorem kx_w10 {x : Int32} : (10 ≤ x ∧ x ≤ 18) → ∃ n, n ≤ 8 ∧ x = nI (n + 10) ∧ x - 10 = nI n := by
  intro h
  have h1 := h.1
  have h2 := h.2
  rw [kr_le] at h1 h2
  have e10 : (10 : Int32).toInt = 10 := rfl
  have e18 : (18 : Int32).toInt = 18 := rfl
  obtain ⟨j, hj, hx⟩ := kr_ix (x := x) (n := 19) (by decide) ⟨by rw [kr_le]; have : (0 : Int32).toInt = 0 := rfl; omega, by rw [kr_lt, nI_toInt (by decide)]; omega⟩
  have hj2 : 10 ≤ j := by rw [hx, nI_toInt (by omega)] at h1; omega
  refine ⟨j - 10, by omega, by rw [hx]; congr 1; omega, ?_⟩
  rw [hx, show (10 : Int32) = nI 10 from rfl, pk_sub hj2]
theorem c_C_way {d : Nat} {Q : kr_Q} {μ : kr_M} {g : Nat → Nat} {P : Nat} (hY : kr_Wy μ g) (hg : kx_gb g) (hP : μ.1 1 0 = nI P) (hP9 : P ≤ 9) {a b what : Int32} (k : ∀ μ', kr_keep [25, 26] [] μ μ' → Q (some (.int (kx_way g P a b what))) μ') : kr_c (d + 5) i_C_way [.ref 0, .int a, .int b, .int what] μ Q := by
  have k0 := k μ kr_keep.rf
  unfold kx_way at k0 k
  refine v_C_way ?_
  rw [hP]
  refine ⟨fun c => ?_, fun ca => ⟨fun c => ?_, fun cb => ⟨fun cw => ?_, fun c => ?_⟩⟩⟩
  · rw [if_neg (fun z => c z.1)] at k0; exact k0
  · rw [if_neg (fun z => c z.2.1)] at k0; exact k0
  · rw [if_pos ⟨ca, cb, cw⟩] at k
    obtain ⟨i, hi, rfl⟩ := kr_ix (by omega) ca
    obtain ⟨j, hj, rfl⟩ := kr_ix (by omega) cb
    rw [nI_clamp (by omega), nI_clamp (by omega)] at k
    refine c_R_wholeLines hY hg (v_C_way_38 (c_Y_beginAnew g (fun μ' hk hc => v_C_way_47 ?_)))
    have hY' := hY.kp hk (by decide)
    have hS := kx_wl_lt hg.1
    have hA' : ∀ l, l < g 0 → μ'.1 2 l = nI (kr_gk g l 0) ∧ μ'.1 3 l = nI (kr_gk g l 1) := fun l hl => ⟨(hY'.2 l hl).1, (hY'.2 l hl).2.1⟩
    have hyd' : ∀ l, l < g 0 → μ'.1 4 l = nI (kr_gk g l 2) := fun l hl => (hY'.2 l hl).2.2.1
    have kk : ∀ {μ2}, kr_keep [25, 26] [] μ' μ2 → kr_keep [25, 26] [] μ μ2 := fun h => (hk.wk (by decide) (by decide)).tr h
    have hd := kx_dist_is hg (kx_wl g) j
    have hcv := kx_cv_F hd hg (show i < 9 by omega)
    have hcb : kx_cv (kx_dist g (kx_wl g) j i) ≤ 1048576 := (kx_conv hd hg (by omega)).1.2.1 i (by omega)
    have e9 : nI j * (9 : Int32) = nI (j * 9) := by rw [show (9 : Int32) = nI 9 from rfl, pk_mul]
    refine ⟨fun w0 => ⟨fun w1 => ?_, fun w1 => ?_⟩, fun w0 => ?_⟩
    · rw [if_neg w0, if_neg w1] at k
      have hw : 10 ≤ what ∧ what ≤ 18 := by
        rcases cw with z | z
        · rcases kr_01.mp z with y | y
          · exact absurd y w0
          · exact absurd y w1
        · exact z
      obtain ⟨n, hn, e1, e2⟩ := kx_w10 hw
      rw [e2] at k ⊢
      rw [nI_clamp (by omega)] at k
      exact c_Y_lineOfWay hY'.1.1 hA' hyd' hg (by omega) (by omega) hn hS hc (fun μ2 hk2 _ => v_C_way_95 (k μ2 (kk hk2)))
    · rw [if_neg w0, if_pos w1] at k
      refine v_Y_linesOfWay (c_Y_reckonTo hY'.1.1 hA' hyd' hg (by omega) hS hc (fun μ2 hk2 _ hrow => v_Y_linesOfWay_6 ?_))
      have k := k μ2 (kk hk2)
      rw [e9, nI_add, nI_clamp (by omega), hrow i (by omega), kx_litF2, nI_ltI (by omega) (by decide), hcv.1]
      refine ⟨vp_in_nI (by omega) (by decide), fun hF => v_C_way_79 ?_, fun hF => v_C_way_79 ?_⟩
      · rw [if_pos hF] at k
        have h8 := kx_l8 hd hg (show i < 9 by omega) hF
        rw [(hcv.2 hF).1, show (16 : Int32) = nI 16 from rfl, pk_rem (by omega) (by decide) (by decide), show (16 * (kx_dist g (kx_wl g) j i / 1000) + kx_dist g (kx_wl g) j i % 1000) % 16 = kx_dist g (kx_wl g) j i % 1000 by omega]
        exact k
      · rw [if_neg hF] at k
        exact k
    · rw [if_pos w0] at k
      refine v_Y_yardsOfWay (c_Y_reckonTo hY'.1.1 hA' hyd' hg (by omega) hS hc (fun μ2 hk2 _ hrow => v_Y_yardsOfWay_6 ?_))
      have k := k μ2 (kk hk2)
      rw [e9, nI_add, nI_clamp (by omega), hrow i (by omega), kx_litF2, nI_ltI (by omega) (by decide), hcv.1]
      refine ⟨vp_in_nI (by omega) (by decide), fun hF => v_C_way_62 ?_, fun hF => v_C_way_62 ?_⟩
      · rw [if_pos hF] at k
        have h8 := kx_l8 hd hg (show i < 9 by omega) hF
        rw [(hcv.2 hF).1, show (16 : Int32) = nI 16 from rfl, pk_div (by omega) (by decide) (by decide), show (16 * (kx_dist g (kx_wl g) j i / 1000) + kx_dist g (kx_wl g) j i % 1000) / 16 = kx_dist g (kx_wl g) j i / 1000 by omega]
        exact k
      · rw [if_neg hF] at k
        exact k
  · rw [if_neg (fun z => c z.2.2)] at k0; exact k0
theorem kr_in1018 {x : Int32} : ((10 : Int64) ≤ x.toInt64 ∧ x.toInt64 ≤ (18 : Int64)) ↔ (10 ≤ x ∧ x ≤ 18) := by
  rw [show (10 : Int64) = ((10 : Int32)).toInt64 from by decide, show (18 : Int64) = ((18 : Int32)).toInt64 from by decide, kr_wle, kr_wle]
theorem c_M_way {d : Nat} {Q : kr_Q} {μ : kr_M} {g : Nat → Nat} {P : Nat} (hM : kr_Mg μ g) (hg : kx_gb g) (hP : μ.1 65 2 = nI P) (hP9 : P ≤ 9) {a b what : Int32} (k : ∀ μ', kr_keep [72, 73] [] μ μ' → Q (some (.int (kx_way g P a b what))) μ') : kr_c (d + 4) i_M_way [.ref 65, .int a, .int b, .int what] μ Q := by
  have k0 := k μ kr_keep.rf
  unfold kx_way at k0 k
  refine v_M_way ?_
  rw [hP, kr_le1 (by omega), kr_le1 (by omega), kr_in01, kr_in1018]
  have go : (0 ≤ a ∧ a < nI P) → (0 ≤ b ∧ b < nI P) → ((0 ≤ what ∧ what ≤ 1) ∨ (10 ≤ what ∧ what ≤ 18)) → kr_c (d + 3) i_M_strongNow [.ref 65] μ (kr_bk (kr_Wp C_M_way (kr_c (d + 3)) Q) 46 [some (.ref 65), some (.int a), some (.int b), some (.int what), none, none, none] []) := by
    intro ca cb cw
    rw [if_pos ⟨ca, cb, cw⟩] at k
    obtain ⟨i, hi, rfl⟩ := kr_ix (by omega) ca
    obtain ⟨j, hj, rfl⟩ := kr_ix (by omega) cb
    rw [nI_clamp (by omega), nI_clamp (by omega)] at k
    have hsb : ∀ l, l < g 0 → kr_gk g l 3 < 2 ^ 31 := fun l hl => by have := hg.2.2 l hl; omega
    refine c_M_strongNow hM hg.1 (fun μ1 hk1 hs1 => v_M_way_46 (c_M_findLeast (hM.kp hk1 (by decide)) hg hs1 hsb (by omega) (fun μ' hk2 hrow => v_M_way_51 ?_)))
    have hk : kr_keep [72, 73] [] μ μ' := (hk1.wk (by decide) (by decide)).tr (hk2.wk (by decide) (by decide))
    have hs2 : ∀ l, l < g 0 → μ'.1 72 l = nI (kr_gk g l 3) := by rw [hk2.row (o := 72) (by decide) (by decide)]; exact hs1
    have k := k μ' hk
    have hM' := hM.kp hk (by decide)
    rw [← kx_wl_ms] at hrow
    have hd := kx_dist_is hg (kx_wl g) j
    have hle := kx_dist_le hg (kx_wl g) j (show i < 9 by omega)
    have vi : vp_in (nI i) 9 := vp_in_nI (by omega) (by decide)
    have hle' := hle
    unfold kx_F at hle'
    rw [nI_clamp (by omega), hrow i (by omega), kx_lit9, nI_eq (by omega) (by decide), show (1000 : Int32) = nI 1000 from rfl, pk_rem (by omega) (by decide) (by decide), pk_div (by omega) (by decide) (by decide)]
    refine ⟨vi, fun hF => ⟨fun w2 => ⟨vi, fun c => ?_, fun c => ?_⟩, fun w2 => ⟨fun w0 => ⟨vi, ?_⟩, fun w0 => ⟨vi, ?_⟩⟩⟩, fun hF => ?_⟩
    · have hF' : kx_dist g (kx_wl g) j i < kx_F := by omega
      have hw : 10 ≤ what ∧ what ≤ 18 := by
        rcases cw with z | z
        · exfalso
          have h1 := z.2
          rw [kr_le] at w2 h1
          have e1 : (1 : Int32).toInt = 1 := rfl
          have e2 : (2 : Int32).toInt = 2 := rfl
          omega
        · exact z
      obtain ⟨n, hn, e1, e2⟩ := kx_w10 hw
      have h8 := kx_l8 hd hg (show i < 9 by omega) hF'
      rw [e2, nI_ltI (by omega) (by omega)] at c
      rw [if_neg (by rw [e1, kr_eq0 (by omega)]; omega), if_neg (by rw [e1, show (1 : Int32) = nI 1 from rfl, nI_eq (by omega) (by decide)]; omega), e2, nI_clamp (by omega)] at k
      unfold kx_wayk at k
      rw [if_pos ⟨hF', c⟩] at k
      -- k + 1 lines are walked
      have main : ∀ m, m ≤ n + 1 → ∀ f : Int32, (∀ q, m = q + 1 → f = nI (kx_nl g (kx_wl g) j (kx_pt g (kx_wl g) j i q))) → kr_Wp C_M_way (kr_c (d + 3)) Q 128 [some (.ref 65), some (.int (nI i)), some (.int (nI j)), some (.int what), some (.int (nI (kx_pt g (kx_wl g) j i m))), some (.int f), some (.int (nI m))] [] μ' := by
        refine kr_up (I := fun m => ∀ f : Int32, (∀ q, m = q + 1 → f = nI (kx_nl g (kx_wl g) j (kx_pt g (kx_wl g) j i q))) → kr_Wp C_M_way (kr_c (d + 3)) Q 128 [some (.ref 65), some (.int (nI i)), some (.int (nI j)), some (.int what), some (.int (nI (kx_pt g (kx_wl g) j i m))), some (.int f), some (.int (nI m))] [] μ') (n + 1) ?_ ?_
        · intro f hf
          refine v_M_way_128 (br_t ?_ ?_)
          · rw [e2]
            exact nI_lt (by omega) (by omega)
          · rw [hf n rfl]; exact k
        · intro m hm ih f hf
          obtain ⟨p1, p2, p3⟩ := kx_pt_ok hg (show i < 9 by omega) hF' m (by omega)
          have hnl := kx_pt_nl hg (show i < 9 by omega) hF' (k := m) (by omega)
          have hN := hg.1
          obtain ⟨q1, q2, q3, q4⟩ := kx_hit_of (kx_nl_yes hnl)
          refine v_M_way_128 (br_f ?_ ?_)
          · rw [e2]
            exact nI_nlt (by omega) (by omega)
          refine c_M_firstLine hM' hg hs2 hsb p1 hrow (v_M_way_143 ?_)
          rw [← kx_wl_ms]
          unfold kx_nlI
          rw [if_pos hnl]
          refine c_M_otherEnd hM' hg hnl p1 (v_M_way_153 ?_)
          rw [if_pos (by rcases q2 with ⟨y, _⟩ | ⟨y, _⟩; exact Or.inl y; exact Or.inr y), kr_n1]
          exact ih _ (fun q hq => by have : q = m := by omega
                                     rw [this])
      exact main 0 (Nat.zero_le _) (-4) (fun q hq => by omega)
    · have hF' : kx_dist g (kx_wl g) j i < kx_F := by omega
      have hw : 10 ≤ what ∧ what ≤ 18 := by
        rcases cw with z | z
        · exfalso
          have h1 := z.2
          rw [kr_le] at w2 h1
          have e1 : (1 : Int32).toInt = 1 := rfl
          have e2 : (2 : Int32).toInt = 2 := rfl
          omega
        · exact z
      obtain ⟨n, hn, e1, e2⟩ := kx_w10 hw
      have h8 := kx_l8 hd hg (show i < 9 by omega) hF'
      rw [e2, nI_ltI (by omega) (by omega)] at c
      rw [if_neg (by rw [e1, kr_eq0 (by omega)]; omega), if_neg (by rw [e1, show (1 : Int32) = nI 1 from rfl, nI_eq (by omega) (by decide)]; omega), e2, nI_clamp (by omega)] at k
      unfold kx_wayk at k
      rw [if_neg (fun z => c z.2)] at k
      exact k
    · have hw : what = 1 := by
        rcases cw with z | z
        · rcases kr_01.mp z with y | y
          · exact absurd y w0
          · exact y
        · exfalso
          have h1 := z.1
          rw [kr_le] at w2 h1
          have e1 : (10 : Int32).toInt = 10 := rfl
          have e2 : (2 : Int32).toInt = 2 := rfl
          omega
      rw [if_neg w0, if_pos hw, if_pos (by omega)] at k
      exact k
    · rw [if_pos w0, if_pos (by omega)] at k
      exact k
    · have hnf : ¬ kx_dist g (kx_wl g) j i < kx_F := by omega
      unfold kx_wayk at k
      simp only [hnf, false_and, if_false, ite_self] at k
      exact k
  refine ⟨fun c => ?_, fun ca => ⟨fun c => ?_, fun cb => ⟨fun cw => go ca cb (Or.inl cw), fun c => ⟨fun cw => go ca cb (Or.inr cw), fun c2 => ?_⟩⟩⟩⟩
  · rw [if_neg (fun z => c z.1)] at k0; exact k0
  · rw [if_neg (fun z => c z.2.1)] at k0; exact k0
  · rw [if_neg (fun z => by rcases z.2.2 with y | y; exact c y; exact c2 y)] at k0; exact k0
