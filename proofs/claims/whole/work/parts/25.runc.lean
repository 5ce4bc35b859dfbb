/-! a run in the class -/
theorem v_R_wholeBy28 {d : Nat} {Q : kr_Q} {μ : kr_M}  (h : kr_Wp C_R_wholeBy (kr_c d) Q 4 [some (.ref 1), some (.ref 28), some (.int 0), some (.int 0)] [] μ) : kr_c (d + 1) i_R_wholeBy [.ref 1, .ref 28] μ Q := ⟨rfl, (st_R_wholeBy (st_R_wholeBy (st_R_wholeBy (st_R_wholeBy h))))⟩
theorem v_R_wholeBy28_4 {d : Nat} {Q : kr_Q} {μ : kr_M} {a2 : Int32} {a3 : Int32} (h : (((μ.1 1 2) ≤ a3 → Q (some (.int a2)) μ) ∧ (¬ ((μ.1 1 2) ≤ a3) → vp_in a3 12 ∧ (((μ.1 28 a3.toNatClampNeg) ≤ 0 → kr_Wp C_R_wholeBy (kr_c d) Q 4 [some (.ref 1), some (.ref 28), some (.int a2), some (.int (a3 + 1))] [] μ) ∧ (¬ ((μ.1 28 a3.toNatClampNeg) ≤ 0) → kr_Wp C_R_wholeBy (kr_c d) Q 4 [some (.ref 1), some (.ref 28), some (.int (a2 ||| ((1 : Int32) <<< (a3 &&& 31)))), some (.int (a3 + 1))] [] μ))))) : kr_Wp C_R_wholeBy (kr_c d) Q 4 [some (.ref 1), some (.ref 28), some (.int a2), some (.int a3)] [] μ := (st_R_wholeBy (st_R_wholeBy (st_R_wholeBy (And.intro rfl (st_R_wholeBy (And.intro (fun z1x => (st_R_wholeBy (st_R_wholeBy (h.1 z1x)))) (fun z1x => (st_R_wholeBy (st_R_wholeBy (st_R_wholeBy (And.intro ⟨12, rfl, (h.2 z1x).1⟩ (st_R_wholeBy (And.intro (fun z2x => (st_R_wholeBy (st_R_wholeBy ((h.2 z1x).2.1 z2x)))) (fun z2x => (st_R_wholeBy (st_R_wholeBy (st_R_wholeBy (st_R_wholeBy (st_R_wholeBy (st_R_wholeBy (st_R_wholeBy (st_R_wholeBy ((h.2 z1x).2.2 z2x)))))))))))))))))))))))
theorem st_R_rainRubs {d : Nat} {Q : kr_Q} {pc : Nat} {ls : kr_L} {st : List Value} {μ : kr_M} (h : C_R_rainRubs pc (kr_Wp C_R_rainRubs (kr_c d) Q) (kr_c d) Q ls st μ) : kr_Wp C_R_rainRubs (kr_c d) Q pc ls st μ := kr_Wp.step (fun pc => (kr_ok_R_rainRubs pc).2) (kr_c_om d) h
theorem v_R_rainRubs28 {d : Nat} {Q : kr_Q} {μ : kr_M}  (h : kr_Wp C_R_rainRubs (kr_c (d + 2)) Q 2 [some (.ref 1), some (.ref 28), some (.int 0)] [] μ) : kr_c (d + 3) i_R_rainRubs [.ref 1, .ref 28] μ Q := ⟨rfl, (st_R_rainRubs (st_R_rainRubs h))⟩
theorem v_R_rainRubs28_2 {d : Nat} {Q : kr_Q} {μ : kr_M} {a1 : Int32} (h : (((μ.1 1 2) ≤ a1 → Q none μ) ∧ (¬ ((μ.1 1 2) ≤ a1) → ((¬ ((μ.1 1 7) >>> (a1 &&& 31)) &&& 1 = 0 → kr_Wp C_R_rainRubs (kr_c (d + 2)) Q 2 [some (.ref 1), some (.ref 28), some (.int (a1 + 1))] [] μ) ∧ (¬ (¬ ((μ.1 1 7) >>> (a1 &&& 31)) &&& 1 = 0) → vp_in a1 12 ∧ (((μ.1 28 a1.toNatClampNeg) ≤ 0 → kr_Wp C_R_rainRubs (kr_c (d + 2)) Q 2 [some (.ref 1), some (.ref 28), some (.int (a1 + 1))] [] μ) ∧ (¬ ((μ.1 28 a1.toNatClampNeg) ≤ 0) → vp_in a1 12 ∧ vp_in a1 12 ∧ kr_Wp C_R_rainRubs (kr_c (d + 2)) Q 2 [some (.ref 1), some (.ref 28), some (.int (a1 + 1))] [] (kr_u μ 28 a1.toNatClampNeg ((μ.1 28 a1.toNatClampNeg) - (1 : Int32)))))))))) : kr_Wp C_R_rainRubs (kr_c (d + 2)) Q 2 [some (.ref 1), some (.ref 28), some (.int a1)] [] μ := (st_R_rainRubs (st_R_rainRubs (st_R_rainRubs (And.intro rfl (st_R_rainRubs (And.intro (fun z1x => (st_R_rainRubs (h.1 z1x))) (fun z1x => (st_R_rainRubs (st_R_rainRubs (st_R_rainRubs (And.intro rfl (v_R_hasRoof (st_R_rainRubs (And.intro (fun z2x => (st_R_rainRubs (st_R_rainRubs ((h.2 z1x).1 (kr_b1 z2x))))) (fun z2x => (st_R_rainRubs (st_R_rainRubs (st_R_rainRubs (And.intro ⟨12, rfl, ((h.2 z1x).2 (kr_b2 z2x)).1⟩ (st_R_rainRubs (And.intro (fun z3x => (st_R_rainRubs (st_R_rainRubs (((h.2 z1x).2 (kr_b2 z2x)).2.1 z3x)))) (fun z3x => (st_R_rainRubs (st_R_rainRubs (st_R_rainRubs (st_R_rainRubs (And.intro ⟨12, rfl, (((h.2 z1x).2 (kr_b2 z2x)).2.2 z3x).1⟩ (st_R_rainRubs (st_R_rainRubs (st_R_rainRubs (And.intro ⟨12, rfl, (((h.2 z1x).2 (kr_b2 z2x)).2.2 z3x).2.1⟩ (st_R_rainRubs (st_R_rainRubs (((h.2 z1x).2 (kr_b2 z2x)).2.2 z3x).2.2)))))))))))))))))))))))))))))))))
theorem v_R_rainRubs5 {d : Nat} {Q : kr_Q} {μ : kr_M}  (h : kr_Wp C_R_rainRubs (kr_c (d + 2)) Q 2 [some (.ref 1), some (.ref 5), some (.int 0)] [] μ) : kr_c (d + 3) i_R_rainRubs [.ref 1, .ref 5] μ Q := ⟨rfl, (st_R_rainRubs (st_R_rainRubs h))⟩
theorem v_R_rainRubs5_2 {d : Nat} {Q : kr_Q} {μ : kr_M} {a1 : Int32} (h : (((μ.1 1 2) ≤ a1 → Q none μ) ∧ (¬ ((μ.1 1 2) ≤ a1) → ((¬ ((μ.1 1 7) >>> (a1 &&& 31)) &&& 1 = 0 → kr_Wp C_R_rainRubs (kr_c (d + 2)) Q 2 [some (.ref 1), some (.ref 5), some (.int (a1 + 1))] [] μ) ∧ (¬ (¬ ((μ.1 1 7) >>> (a1 &&& 31)) &&& 1 = 0) → vp_in a1 12 ∧ (((μ.1 5 a1.toNatClampNeg) ≤ 0 → kr_Wp C_R_rainRubs (kr_c (d + 2)) Q 2 [some (.ref 1), some (.ref 5), some (.int (a1 + 1))] [] μ) ∧ (¬ ((μ.1 5 a1.toNatClampNeg) ≤ 0) → vp_in a1 12 ∧ vp_in a1 12 ∧ kr_Wp C_R_rainRubs (kr_c (d + 2)) Q 2 [some (.ref 1), some (.ref 5), some (.int (a1 + 1))] [] (kr_u μ 5 a1.toNatClampNeg ((μ.1 5 a1.toNatClampNeg) - (1 : Int32)))))))))) : kr_Wp C_R_rainRubs (kr_c (d + 2)) Q 2 [some (.ref 1), some (.ref 5), some (.int a1)] [] μ := (st_R_rainRubs (st_R_rainRubs (st_R_rainRubs (And.intro rfl (st_R_rainRubs (And.intro (fun z1x => (st_R_rainRubs (h.1 z1x))) (fun z1x => (st_R_rainRubs (st_R_rainRubs (st_R_rainRubs (And.intro rfl (v_R_hasRoof (st_R_rainRubs (And.intro (fun z2x => (st_R_rainRubs (st_R_rainRubs ((h.2 z1x).1 (kr_b1 z2x))))) (fun z2x => (st_R_rainRubs (st_R_rainRubs (st_R_rainRubs (And.intro ⟨12, rfl, ((h.2 z1x).2 (kr_b2 z2x)).1⟩ (st_R_rainRubs (And.intro (fun z3x => (st_R_rainRubs (st_R_rainRubs (((h.2 z1x).2 (kr_b2 z2x)).2.1 z3x)))) (fun z3x => (st_R_rainRubs (st_R_rainRubs (st_R_rainRubs (st_R_rainRubs (And.intro ⟨12, rfl, (((h.2 z1x).2 (kr_b2 z2x)).2.2 z3x).1⟩ (st_R_rainRubs (st_R_rainRubs (st_R_rainRubs (And.intro ⟨12, rfl, (((h.2 z1x).2 (kr_b2 z2x)).2.2 z3x).2.1⟩ (st_R_rainRubs (st_R_rainRubs (((h.2 z1x).2 (kr_b2 z2x)).2.2 z3x).2.2)))))))))))))))))))))))))))))))))
theorem st_R_rainsIn {d : Nat} {Q : kr_Q} {pc : Nat} {ls : kr_L} {st : List Value} {μ : kr_M} (h : C_R_rainsIn pc (kr_Wp C_R_rainsIn (kr_c d) Q) (kr_c d) Q ls st μ) : kr_Wp C_R_rainsIn (kr_c d) Q pc ls st μ := kr_Wp.step (fun pc => (kr_ok_R_rainsIn pc).2) (kr_c_om d) h
theorem v_R_rainsIn {d : Nat} {Q : kr_Q} {μ : kr_M} {a1 : Int32} (h : ((¬ ((1 : Int32) ≤ a1 ∧ a1 ≤ 40) → Q (some (.int 0)) μ) ∧ ((1 : Int32) ≤ a1 ∧ a1 ≤ 40 → (((lg_cmp (((μ.2 1) >>> (a1.toInt64 &&& 63)) &&& (1 : Int64)) (0 : Int64)) = 0 → Q (some (.int 0)) μ) ∧ (¬ ((lg_cmp (((μ.2 1) >>> (a1.toInt64 &&& 63)) &&& (1 : Int64)) (0 : Int64)) = 0) → Q (some (.int 1)) μ))))) : kr_c (d + 2) i_R_rainsIn [.ref 1, .int a1] μ Q := ⟨rfl, (st_R_rainsIn (st_R_rainsIn (c_C_isRainQuarter (st_R_rainsIn (And.intro (fun z1x => (st_R_rainsIn (st_R_rainsIn (And.intro (by decide) (h.1 (kr_b0 z1x)))))) (fun z1x => (st_R_rainsIn (st_R_rainsIn (And.intro rfl (st_R_rainsIn (st_R_rainsIn (st_R_rainsIn (st_R_rainsIn (st_R_rainsIn (st_R_rainsIn (st_R_rainsIn (And.intro (fun z2x => (st_R_rainsIn (st_R_rainsIn (And.intro (by decide) ((h.2 (kr_b1 z1x)).1 z2x))))) (fun z2x => (st_R_rainsIn (st_R_rainsIn (st_R_rainsIn (And.intro (by decide) ((h.2 (kr_b1 z1x)).2 z2x)))))))))))))))))))))))⟩
theorem st_K_loseIfBroken {d : Nat} {Q : kr_Q} {pc : Nat} {ls : kr_L} {st : List Value} {μ : kr_M} (h : C_K_loseIfBroken pc (kr_Wp C_K_loseIfBroken (kr_c d) Q) (kr_c d) Q ls st μ) : kr_Wp C_K_loseIfBroken (kr_c d) Q pc ls st μ := kr_Wp.step (fun pc => (kr_ok_K_loseIfBroken pc).2) (kr_c_om d) h
theorem v_K_loseIfBroken {d : Nat} {Q : kr_Q} {μ : kr_M} {a1 : Int32} (h : vp_in a1 12 ∧ (((μ.1 28 a1.toNatClampNeg) ≤ 0 → kr_Wp C_K_loseIfBroken (kr_c d) Q 12 [some (.ref 27), some (.int a1), some (.int 0)] [] μ) ∧ (¬ ((μ.1 28 a1.toNatClampNeg) ≤ 0) → Q none μ))) : kr_c (d + 1) i_K_loseIfBroken [.ref 27, .int a1] μ Q := ⟨rfl, (st_K_loseIfBroken (st_K_loseIfBroken (And.intro rfl (st_K_loseIfBroken (st_K_loseIfBroken (And.intro ⟨12, rfl, h.1⟩ (st_K_loseIfBroken (And.intro (fun z1x => (st_K_loseIfBroken (st_K_loseIfBroken (h.2.1 z1x)))) (fun z1x => (st_K_loseIfBroken (h.2.2 z1x)))))))))))⟩
theorem v_K_loseIfBroken_12 {d : Nat} {Q : kr_Q} {μ : kr_M} {a1 : Int32} {a2 : Int32} (h : (((μ.1 1 10) ≤ a2 → Q none μ) ∧ (¬ ((μ.1 1 10) ≤ a2) → vp_in a2 5 ∧ ((¬ (μ.1 29 a2.toNatClampNeg) = ((100 : Int32) + a1) → kr_Wp C_K_loseIfBroken (kr_c d) Q 12 [some (.ref 27), some (.int a1), some (.int (a2 + 1))] [] μ) ∧ ((μ.1 29 a2.toNatClampNeg) = ((100 : Int32) + a1) → vp_in a2 5 ∧ kr_Wp C_K_loseIfBroken (kr_c d) Q 12 [some (.ref 27), some (.int a1), some (.int (a2 + 1))] [] (kr_u μ 29 a2.toNatClampNeg (-4))))))) : kr_Wp C_K_loseIfBroken (kr_c d) Q 12 [some (.ref 27), some (.int a1), some (.int a2)] [] μ := (st_K_loseIfBroken (st_K_loseIfBroken (st_K_loseIfBroken (And.intro rfl (st_K_loseIfBroken (And.intro rfl (st_K_loseIfBroken (And.intro (fun z1x => (st_K_loseIfBroken (h.1 z1x))) (fun z1x => (st_K_loseIfBroken (st_K_loseIfBroken (And.intro rfl (st_K_loseIfBroken (st_K_loseIfBroken (And.intro ⟨5, rfl, (h.2 z1x).1⟩ (st_K_loseIfBroken (st_K_loseIfBroken (st_K_loseIfBroken (st_K_loseIfBroken (And.intro (fun z2x => (st_K_loseIfBroken (st_K_loseIfBroken ((h.2 z1x).2.1 z2x)))) (fun z2x => (st_K_loseIfBroken (st_K_loseIfBroken (And.intro rfl (st_K_loseIfBroken (st_K_loseIfBroken (st_K_loseIfBroken (And.intro ⟨5, rfl, ((h.2 z1x).2.2 (Decidable.not_not.mp z2x)).1⟩ (st_K_loseIfBroken (st_K_loseIfBroken ((h.2 z1x).2.2 (Decidable.not_not.mp z2x)).2))))))))))))))))))))))))))))))
theorem st_K_fallOfRain {d : Nat} {Q : kr_Q} {pc : Nat} {ls : kr_L} {st : List Value} {μ : kr_M} (h : C_K_fallOfRain pc (kr_Wp C_K_fallOfRain (kr_c d) Q) (kr_c d) Q ls st μ) : kr_Wp C_K_fallOfRain (kr_c d) Q pc ls st μ := kr_Wp.step (fun pc => (kr_ok_K_fallOfRain pc).2) (kr_c_om d) h
theorem v_K_fallOfRain {d : Nat} {Q : kr_Q} {μ : kr_M}  (h : kr_c (d + 3) i_R_rainRubs [.ref 1, .ref 28] μ (kr_bk (kr_Wp C_K_fallOfRain (kr_c (d + 3)) Q) 11 [some (.ref 27), none] [])) : kr_c (d + 4) i_K_fallOfRain [.ref 27] μ Q := ⟨rfl, (st_K_fallOfRain (st_K_fallOfRain (And.intro rfl (st_K_fallOfRain (st_K_fallOfRain (And.intro rfl (st_K_fallOfRain (And.intro rfl h))))))))⟩
theorem v_K_fallOfRain_11 {d : Nat} {Q : kr_Q} {μ : kr_M}  (h : (((μ.1 1 2) ≤ (0 : Int32) → Q none μ) ∧ (¬ ((μ.1 1 2) ≤ (0 : Int32)) → kr_c (d + 3) i_K_loseIfBroken [.ref 27, .int 0] μ (kr_bk (kr_Wp C_K_fallOfRain (kr_c (d + 3)) Q) 29 [some (.ref 27), some (.int 0)] [])))) : kr_Wp C_K_fallOfRain (kr_c (d + 3)) Q 11 [some (.ref 27), none] [] μ := (st_K_fallOfRain (st_K_fallOfRain (st_K_fallOfRain (st_K_fallOfRain (st_K_fallOfRain (And.intro rfl (st_K_fallOfRain (And.intro rfl (st_K_fallOfRain (And.intro (fun z1x => (st_K_fallOfRain (h.1 z1x))) (fun z1x => (st_K_fallOfRain (st_K_fallOfRain (st_K_fallOfRain (And.intro rfl (h.2 z1x))))))))))))))))
theorem v_K_fallOfRain_29 {d : Nat} {Q : kr_Q} {μ : kr_M} {a1 : Int32} (h : (((μ.1 1 2) ≤ (a1 + 1) → Q none μ) ∧ (¬ ((μ.1 1 2) ≤ (a1 + 1)) → kr_c (d + 3) i_K_loseIfBroken [.ref 27, .int (a1 + 1)] μ (kr_bk (kr_Wp C_K_fallOfRain (kr_c (d + 3)) Q) 29 [some (.ref 27), some (.int (a1 + 1))] [])))) : kr_Wp C_K_fallOfRain (kr_c (d + 3)) Q 29 [some (.ref 27), some (.int a1)] [] μ := (st_K_fallOfRain (st_K_fallOfRain (st_K_fallOfRain (st_K_fallOfRain (st_K_fallOfRain (And.intro rfl (st_K_fallOfRain (And.intro rfl (st_K_fallOfRain (And.intro (fun z1x => (st_K_fallOfRain (h.1 z1x))) (fun z1x => (st_K_fallOfRain (st_K_fallOfRain (st_K_fallOfRain (And.intro rfl (h.2 z1x))))))))))))))))
theorem st_K_step {d : Nat} {Q : kr_Q} {pc : Nat} {ls : kr_L} {st : List Value} {μ : kr_M} (h : C_K_step pc (kr_Wp C_K_step (kr_c d) Q) (kr_c d) Q ls st μ) : kr_Wp C_K_step (kr_c d) Q pc ls st μ := kr_Wp.step (fun pc => (kr_ok_K_step pc).2) (kr_c_om d) h
theorem v_K_step {d : Nat} {Q : kr_Q} {μ : kr_M} {a1 : Int32} {a2 : Int32} (h : vp_in a1 5 ∧ (((μ.1 29 a1.toNatClampNeg) < 100 → (((μ.1 29 a1.toNatClampNeg) < 0 → Q none μ) ∧ (¬ ((μ.1 29 a1.toNatClampNeg) < 0) → vp_in a1 5 ∧ (((μ.1 29 a1.toNatClampNeg) = (μ.1 8 a1.toNatClampNeg) → Q none μ) ∧ (¬ ((μ.1 29 a1.toNatClampNeg) = (μ.1 8 a1.toNatClampNeg)) → vp_in a1 5 ∧ ((a2 ≤ (μ.1 9 a1.toNatClampNeg) → Q none μ) ∧ (¬ (a2 ≤ (μ.1 9 a1.toNatClampNeg)) → kr_c (d + 4) i_K_setOut [.ref 27, .int a1, .int (μ.1 29 a1.toNatClampNeg)] μ (kr_bk (kr_Wp C_K_step (kr_c (d + 4)) Q) 62 [some (.ref 27), some (.int a1), some (.int a2), some (.int (μ.1 29 a1.toNatClampNeg))] [])))))))) ∧ (¬ ((μ.1 29 a1.toNatClampNeg) < 100) → kr_c (d + 4) i_K_goOn [.ref 27, .int a1, .int ((μ.1 29 a1.toNatClampNeg) - (100 : Int32)), .int a2] μ (kr_bk (kr_Wp C_K_step (kr_c (d + 4)) Q) 23 [some (.ref 27), some (.int a1), some (.int a2), some (.int (μ.1 29 a1.toNatClampNeg))] [])))) : kr_c (d + 5) i_K_step [.ref 27, .int a1, .int a2] μ Q := ⟨rfl, (st_K_step (st_K_step (And.intro rfl (st_K_step (st_K_step (And.intro ⟨5, rfl, h.1⟩ (st_K_step (st_K_step (st_K_step (st_K_step (And.intro (fun z1x => (st_K_step (st_K_step (And.intro (fun z2x => (st_K_step ((h.2.1 z1x).1 z2x))) (fun z2x => (st_K_step (st_K_step (st_K_step (And.intro rfl (st_K_step (And.intro rfl (st_K_step (st_K_step (And.intro ⟨5, rfl, ((h.2.1 z1x).2 z2x).1⟩ (st_K_step (And.intro (fun z3x => (st_K_step (((h.2.1 z1x).2 z2x).2.1 z3x))) (fun z3x => (st_K_step (st_K_step (st_K_step (And.intro rfl (st_K_step (And.intro rfl (st_K_step (st_K_step (And.intro ⟨5, rfl, (((h.2.1 z1x).2 z2x).2.2 z3x).1⟩ (st_K_step (And.intro (fun z4x => (st_K_step ((((h.2.1 z1x).2 z2x).2.2 z3x).2.1 z4x))) (fun z4x => (st_K_step (st_K_step (st_K_step (st_K_step (And.intro rfl ((((h.2.1 z1x).2 z2x).2.2 z3x).2.2 z4x))))))))))))))))))))))))))))))))))) (fun z1x => (st_K_step (st_K_step (st_K_step (st_K_step (st_K_step (st_K_step (st_K_step (And.intro rfl (h.2.2 z1x)))))))))))))))))))))⟩
theorem v_K_step_62 {d : Nat} {Q : kr_Q} {μ : kr_M} {a1 : Int32} {a2 : Int32} {a3 : Int32} (h : Q none μ) : kr_Wp C_K_step (kr_c (d + 4)) Q 62 [some (.ref 27), some (.int a1), some (.int a2), some (.int a3)] [] μ := (st_K_step h)
theorem v_K_step_23 {d : Nat} {Q : kr_Q} {μ : kr_M} {a1 : Int32} {a2 : Int32} {a3 : Int32} (h : Q none μ) : kr_Wp C_K_step (kr_c (d + 4)) Q 23 [some (.ref 27), some (.int a1), some (.int a2), some (.int a3)] [] μ := (st_K_step (st_K_step h))
theorem st_K_goOn {d : Nat} {Q : kr_Q} {pc : Nat} {ls : kr_L} {st : List Value} {μ : kr_M} (h : C_K_goOn pc (kr_Wp C_K_goOn (kr_c d) Q) (kr_c d) Q ls st μ) : kr_Wp C_K_goOn (kr_c d) Q pc ls st μ := kr_Wp.step (fun pc => (kr_ok_K_goOn pc).2) (kr_c_om d) h
theorem v_K_goOn {d : Nat} {Q : kr_Q} {μ : kr_M} {a1 : Int32} {a2 : Int32} {a3 : Int32} (h : vp_in a1 5 ∧ vp_in a1 5 ∧ vp_in a1 5 ∧ (((upd (μ.1 30) a1.toNatClampNeg ((μ.1 30 a1.toNatClampNeg) - (1 : Int32)) a1.toNatClampNeg) ≤ 0 → vp_in a1 5 ∧ vp_in a1 5 ∧ vp_in a1 5 ∧ vp_in a1 5 ∧ ((¬ (upd (μ.1 29) a1.toNatClampNeg (μ.1 31 a1.toNatClampNeg) a1.toNatClampNeg) = (μ.1 8 a1.toNatClampNeg) → vp_in a2 12 ∧ vp_in a2 12 ∧ kr_c (d + 1) i_K_loseIfBroken [.ref 27, .int a2] (kr_u (kr_u (kr_u μ 30 a1.toNatClampNeg ((μ.1 30 a1.toNatClampNeg) - (1 : Int32))) 29 a1.toNatClampNeg (μ.1 31 a1.toNatClampNeg)) 28 a2.toNatClampNeg (if (0 : Int32) < ((μ.1 28 a2.toNatClampNeg) - (1 : Int32)) then ((μ.1 28 a2.toNatClampNeg) - (1 : Int32)) else (0 : Int32))) (kr_bk (kr_Wp C_K_goOn (kr_c (d + 1)) Q) 80 [some (.ref 27), some (.int a1), some (.int a2), some (.int a3)] [])) ∧ ((upd (μ.1 29) a1.toNatClampNeg (μ.1 31 a1.toNatClampNeg) a1.toNatClampNeg) = (μ.1 8 a1.toNatClampNeg) → vp_in a1 5 ∧ vp_in a2 12 ∧ vp_in a2 12 ∧ kr_c (d + 1) i_K_loseIfBroken [.ref 27, .int a2] (kr_u (kr_u (kr_u (kr_u μ 30 a1.toNatClampNeg ((μ.1 30 a1.toNatClampNeg) - (1 : Int32))) 29 a1.toNatClampNeg (μ.1 31 a1.toNatClampNeg)) 33 a1.toNatClampNeg a3) 28 a2.toNatClampNeg (if (0 : Int32) < ((μ.1 28 a2.toNatClampNeg) - (1 : Int32)) then ((μ.1 28 a2.toNatClampNeg) - (1 : Int32)) else (0 : Int32))) (kr_bk (kr_Wp C_K_goOn (kr_c (d + 1)) Q) 80 [some (.ref 27), some (.int a1), some (.int a2), some (.int a3)] [])))) ∧ (¬ ((upd (μ.1 30) a1.toNatClampNeg ((μ.1 30 a1.toNatClampNeg) - (1 : Int32)) a1.toNatClampNeg) ≤ 0) → Q none (kr_u μ 30 a1.toNatClampNeg ((μ.1 30 a1.toNatClampNeg) - (1 : Int32)))))) : kr_c (d + 2) i_K_goOn [.ref 27, .int a1, .int a2, .int a3] μ Q := ⟨rfl, (st_K_goOn (st_K_goOn (And.intro rfl (st_K_goOn (st_K_goOn (st_K_goOn (And.intro ⟨5, rfl, h.1⟩ (st_K_goOn (st_K_goOn (st_K_goOn (And.intro ⟨5, rfl, h.2.1⟩ (st_K_goOn (st_K_goOn (And.intro rfl (st_K_goOn (st_K_goOn (And.intro ⟨5, rfl, h.2.2.1⟩ (st_K_goOn (And.intro (fun z1x => (st_K_goOn (st_K_goOn (And.intro rfl (st_K_goOn (st_K_goOn (st_K_goOn (And.intro rfl (st_K_goOn (st_K_goOn (And.intro ⟨5, rfl, (h.2.2.2.1 z1x).1⟩ (st_K_goOn (And.intro ⟨5, rfl, (h.2.2.2.1 z1x).2.1⟩ (st_K_goOn (st_K_goOn (And.intro rfl (st_K_goOn (st_K_goOn (And.intro ⟨5, rfl, (h.2.2.2.1 z1x).2.2.1⟩ (st_K_goOn (st_K_goOn (And.intro rfl (st_K_goOn (And.intro rfl (st_K_goOn (st_K_goOn (And.intro ⟨5, rfl, (h.2.2.2.1 z1x).2.2.2.1⟩ (st_K_goOn (And.intro (fun z2x => (st_K_goOn (st_K_goOn (And.intro rfl (st_K_goOn (st_K_goOn (st_K_goOn (st_K_goOn (And.intro rfl (st_K_goOn (st_K_goOn (And.intro ⟨12, rfl, ((h.2.2.2.1 z1x).2.2.2.2.1 z2x).1⟩ (st_K_goOn (st_K_goOn (st_K_goOn (st_K_goOn (And.intro ⟨12, rfl, ((h.2.2.2.1 z1x).2.2.2.2.1 z2x).2.1⟩ (st_K_goOn (st_K_goOn (st_K_goOn (And.intro rfl ((h.2.2.2.1 z1x).2.2.2.2.1 z2x).2.2))))))))))))))))))))) (fun z2x => (st_K_goOn (st_K_goOn (And.intro rfl (st_K_goOn (st_K_goOn (st_K_goOn (And.intro ⟨5, rfl, ((h.2.2.2.1 z1x).2.2.2.2.2 (Decidable.not_not.mp z2x)).1⟩ (st_K_goOn (st_K_goOn (And.intro rfl (st_K_goOn (st_K_goOn (st_K_goOn (st_K_goOn (And.intro rfl (st_K_goOn (st_K_goOn (And.intro ⟨12, rfl, ((h.2.2.2.1 z1x).2.2.2.2.2 (Decidable.not_not.mp z2x)).2.1⟩ (st_K_goOn (st_K_goOn (st_K_goOn (st_K_goOn (And.intro ⟨12, rfl, ((h.2.2.2.1 z1x).2.2.2.2.2 (Decidable.not_not.mp z2x)).2.2.1⟩ (st_K_goOn (st_K_goOn (st_K_goOn (And.intro rfl ((h.2.2.2.1 z1x).2.2.2.2.2 (Decidable.not_not.mp z2x)).2.2.2))))))))))))))))))))))))))))))))))))))))))))))))))))))))) (fun z1x => (st_K_goOn (h.2.2.2.2 z1x))))))))))))))))))))))⟩
theorem v_K_goOn_80 {d : Nat} {Q : kr_Q} {μ : kr_M} {a1 : Int32} {a2 : Int32} {a3 : Int32} (h : Q none μ) : kr_Wp C_K_goOn (kr_c (d + 1)) Q 80 [some (.ref 27), some (.int a1), some (.int a2), some (.int a3)] [] μ := (st_K_goOn h)
theorem st_K_setOut {d : Nat} {Q : kr_Q} {pc : Nat} {ls : kr_L} {st : List Value} {μ : kr_M} (h : C_K_setOut pc (kr_Wp C_K_setOut (kr_c d) Q) (kr_c d) Q ls st μ) : kr_Wp C_K_setOut (kr_c d) Q pc ls st μ := kr_Wp.step (fun pc => (kr_ok_K_setOut pc).2) (kr_c_om d) h
theorem v_K_setOut {d : Nat} {Q : kr_Q} {μ : kr_M} {a1 : Int32} {a2 : Int32} (h : vp_in a1 5 ∧ kr_c (d + 3) i_R_wholeBy [.ref 1, .ref 28] μ (kr_bk (kr_Wp C_K_setOut (kr_c (d + 3)) Q) 25 [some (.ref 27), some (.int a1), some (.int a2), none] [.int (μ.1 8 a1.toNatClampNeg), .int a2, .ref 24])) : kr_c (d + 4) i_K_setOut [.ref 27, .int a1, .int a2] μ Q := ⟨rfl, (st_K_setOut (st_K_setOut (And.intro rfl (st_K_setOut (st_K_setOut (st_K_setOut (And.intro rfl (st_K_setOut (And.intro rfl (st_K_setOut (st_K_setOut (And.intro ⟨5, rfl, h.1⟩ (st_K_setOut (st_K_setOut (And.intro rfl (st_K_setOut (st_K_setOut (And.intro rfl (st_K_setOut (And.intro rfl h.2))))))))))))))))))))⟩
theorem v_K_setOut_25 {d : Nat} {Q : kr_Q} {μ : kr_M} {a1 : Int32} {a2 : Int32} {r : Int32} {s0 : Int32} {s1 : Int32} (h : kr_c (d + 3) i_Y_firstLine [.ref 24, .int s1, .int s0, .int r] μ (kr_bk (kr_Wp C_K_setOut (kr_c (d + 3)) Q) 28 [some (.ref 27), some (.int a1), some (.int a2), none] [])) : kr_Wp C_K_setOut (kr_c (d + 3)) Q 25 [some (.ref 27), some (.int a1), some (.int a2), none] [.int r, .int s0, .int s1, .ref 24] μ := (st_K_setOut (And.intro rfl h))
theorem v_K_setOut_28 {d : Nat} {Q : kr_Q} {μ : kr_M} {a1 : Int32} {a2 : Int32} {r : Int32} (h : ((¬ r = (-4) → vp_in a1 5 ∧ vp_in r 12 ∧ vp_in a1 5 ∧ kr_c (d + 3) i_R_otherEnd [.ref 1, .int r, .int a2] (kr_u (kr_u μ 29 a1.toNatClampNeg ((100 : Int32) + r)) 30 a1.toNatClampNeg (μ.1 4 r.toNatClampNeg)) (kr_bk (kr_Wp C_K_setOut (kr_c (d + 3)) Q) 85 [some (.ref 27), some (.int a1), some (.int a2), some (.int r)] [.int a1, .ref 31])) ∧ (r = (-4) → vp_in a1 5 ∧ vp_in a1 5 ∧ Q none (kr_u μ 32 a1.toNatClampNeg ((μ.1 32 a1.toNatClampNeg) + (1 : Int32)))))) : kr_Wp C_K_setOut (kr_c (d + 3)) Q 28 [some (.ref 27), some (.int a1), some (.int a2), none] [.int r] μ := (st_K_setOut (st_K_setOut (st_K_setOut (st_K_setOut (And.intro (fun z1x => (st_K_setOut (st_K_setOut (And.intro rfl (st_K_setOut (st_K_setOut (st_K_setOut (st_K_setOut (st_K_setOut (And.intro ⟨5, rfl, (h.1 z1x).1⟩ (st_K_setOut (st_K_setOut (And.intro rfl (st_K_setOut (st_K_setOut (st_K_setOut (And.intro rfl (st_K_setOut (And.intro rfl (st_K_setOut (st_K_setOut (And.intro ⟨12, rfl, (h.1 z1x).2.1⟩ (st_K_setOut (And.intro ⟨5, rfl, (h.1 z1x).2.2.1⟩ (st_K_setOut (st_K_setOut (And.intro rfl (st_K_setOut (st_K_setOut (st_K_setOut (And.intro rfl (st_K_setOut (st_K_setOut (st_K_setOut (And.intro rfl (h.1 z1x).2.2.2))))))))))))))))))))))))))))))))))) (fun z1x => (st_K_setOut (st_K_setOut (And.intro rfl (st_K_setOut (st_K_setOut (st_K_setOut (And.intro ⟨5, rfl, (h.2 (Decidable.not_not.mp z1x)).1⟩ (st_K_setOut (st_K_setOut (st_K_setOut (And.intro ⟨5, rfl, (h.2 (Decidable.not_not.mp z1x)).2.1⟩ (st_K_setOut (h.2 (Decidable.not_not.mp z1x)).2.2))))))))))))))))))
theorem v_K_setOut_85 {d : Nat} {Q : kr_Q} {μ : kr_M} {a1 : Int32} {a2 : Int32} {a3 : Int32} {r : Int32} {s0 : Int32} (h : vp_in s0 5 ∧ Q none (kr_u μ 31 s0.toNatClampNeg r)) : kr_Wp C_K_setOut (kr_c (d + 3)) Q 85 [some (.ref 27), some (.int a1), some (.int a2), some (.int a3)] [.int r, .int s0, .ref 31] μ := (st_K_setOut (And.intro ⟨5, rfl, h.1⟩ (st_K_setOut h.2)))
theorem st_K_run {d : Nat} {Q : kr_Q} {pc : Nat} {ls : kr_L} {st : List Value} {μ : kr_M} (h : C_K_run pc (kr_Wp C_K_run (kr_c d) Q) (kr_c d) Q ls st μ) : kr_Wp C_K_run (kr_c d) Q pc ls st μ := kr_Wp.step (fun pc => (kr_ok_K_run pc).2) (kr_c_om d) h
theorem v_K_run {d : Nat} {Q : kr_Q} {μ : kr_M} {a1 : Int32} {a2 : Int32} (h : kr_c (d + 5) i_Y_beginAnew [.ref 24] μ (kr_bk (kr_Wp C_K_run (kr_c (d + 5)) Q) 7 [some (.ref 27), some (.int a1), some (.int a2), none, none] [])) : kr_c (d + 6) i_K_run [.ref 27, .int a1, .int a2] μ Q := ⟨rfl, (st_K_run (st_K_run (And.intro rfl (st_K_run (And.intro rfl h)))))⟩
theorem v_K_run_44 {d : Nat} {Q : kr_Q} {μ : kr_M} {a1 : Int32} {a2 : Int32} {a3 : Int32} (h : (((5 : Int32) ≤ a3 → kr_Wp C_K_run (kr_c (d + 5)) Q 78 [some (.ref 27), some (.int a1), some (.int a2), some (.int 1), none] [] μ) ∧ (¬ ((5 : Int32) ≤ a3) → vp_in a3 5 ∧ vp_in a3 5 ∧ vp_in a3 5 ∧ kr_Wp C_K_run (kr_c (d + 5)) Q 44 [some (.ref 27), some (.int a1), some (.int a2), some (.int (a3 + 1)), none] [] (kr_u (kr_u (kr_u μ 30 a3.toNatClampNeg 0) 32 a3.toNatClampNeg 0) 33 a3.toNatClampNeg 0)))) : kr_Wp C_K_run (kr_c (d + 5)) Q 44 [some (.ref 27), some (.int a1), some (.int a2), some (.int a3), none] [] μ := (st_K_run (st_K_run (st_K_run (And.intro (fun z1x => (st_K_run (st_K_run (h.1 z1x)))) (fun z1x => (st_K_run (st_K_run (And.intro rfl (st_K_run (st_K_run (st_K_run (And.intro ⟨5, rfl, (h.2 z1x).1⟩ (st_K_run (st_K_run (And.intro rfl (st_K_run (st_K_run (st_K_run (And.intro ⟨5, rfl, (h.2 z1x).2.1⟩ (st_K_run (st_K_run (And.intro rfl (st_K_run (st_K_run (st_K_run (And.intro ⟨5, rfl, (h.2 z1x).2.2.1⟩ (st_K_run (st_K_run (h.2 z1x).2.2.2))))))))))))))))))))))))))))
theorem v_K_run_78 {d : Nat} {Q : kr_Q} {μ : kr_M} {a1 : Int32} {a2 : Int32} {a3 : Int32} (h : ((a1 < a3 → Q none μ) ∧ (¬ (a1 < a3) → kr_c (d + 5) i_R_rainsIn [.ref 1, .int a3] μ (kr_bk (kr_Wp C_K_run (kr_c (d + 5)) Q) 91 [some (.ref 27), some (.int a1), some (.int a2), some (.int a3), none] [])))) : kr_Wp C_K_run (kr_c (d + 5)) Q 78 [some (.ref 27), some (.int a1), some (.int a2), some (.int a3), none] [] μ := (st_K_run (st_K_run (st_K_run (And.intro (fun z1x => (st_K_run (h.1 z1x))) (fun z1x => (st_K_run (st_K_run (And.intro rfl (st_K_run (st_K_run (And.intro rfl (h.2 z1x))))))))))))
theorem v_K_run_106 {d : Nat} {Q : kr_Q} {μ : kr_M} {a1 : Int32} {a2 : Int32} {a3 : Int32} {a4 : Int32} (h : (((μ.1 1 10) ≤ a4 → kr_Wp C_K_run (kr_c (d + 5)) Q 78 [some (.ref 27), some (.int a1), some (.int a2), some (.int (a3 + 1)), none] [] μ) ∧ (¬ ((μ.1 1 10) ≤ a4) → kr_c (d + 5) i_K_step [.ref 27, .int a4, .int a3] μ (kr_bk (kr_Wp C_K_run (kr_c (d + 5)) Q) 125 [some (.ref 27), some (.int a1), some (.int a2), some (.int a3), some (.int a4)] [])))) : kr_Wp C_K_run (kr_c (d + 5)) Q 106 [some (.ref 27), some (.int a1), some (.int a2), some (.int a3), some (.int a4)] [] μ := (st_K_run (st_K_run (st_K_run (And.intro rfl (st_K_run (And.intro rfl (st_K_run (And.intro (fun z1x => (st_K_run (st_K_run (kr_Wp.lm [true, true, true, true, false] (h.1 z1x))))) (fun z1x => (st_K_run (st_K_run (st_K_run (st_K_run (And.intro rfl (h.2 z1x)))))))))))))))
theorem v_K_run_7 {d : Nat} {Q : kr_Q} {μ : kr_M} {a1 : Int32} {a2 : Int32} (h : kr_Wp C_K_run (kr_c (d + 5)) Q 44 [some (.ref 27), some (.int a1), some (.int a2), some (.int 0), none] [] (kr_ur (kr_ur μ 28 (va_cpy (μ.1 5) (μ.1 28) 0 0 12)) 29 (va_cpy (μ.1 7) (μ.1 29) 0 0 5))) : kr_Wp C_K_run (kr_c (d + 5)) Q 7 [some (.ref 27), some (.int a1), some (.int a2), none, none] [] μ := (st_K_run (st_K_run (And.intro rfl (st_K_run (And.intro rfl (st_K_run (st_K_run (st_K_run (And.intro rfl (st_K_run (st_K_run (st_K_run (And.intro ⟨⟨rfl, rfl⟩, 12, rfl, rfl, by decide, by decide⟩ (st_K_run (st_K_run (And.intro rfl (st_K_run (And.intro rfl (st_K_run (st_K_run (st_K_run (And.intro rfl (st_K_run (st_K_run (st_K_run (And.intro ⟨⟨rfl, rfl⟩, 5, rfl, rfl, by decide, by decide⟩ (st_K_run (st_K_run h))))))))))))))))))))))))))))
theorem v_K_run_91 {d : Nat} {Q : kr_Q} {μ : kr_M} {a1 : Int32} {a2 : Int32} {a3 : Int32} {r : Int32} (h : ((¬ r = 0 → kr_c (d + 5) i_K_fallOfRain [.ref 27] μ (kr_bk (kr_Wp C_K_run (kr_c (d + 5)) Q) 103 [some (.ref 27), some (.int a1), some (.int a2), some (.int a3), none] [])) ∧ (r = 0 → ((¬ a3 = a2 → kr_Wp C_K_run (kr_c (d + 5)) Q 106 [some (.ref 27), some (.int a1), some (.int a2), some (.int a3), some (.int 0)] [] μ) ∧ (a3 = a2 → kr_c (d + 5) i_K_fallOfRain [.ref 27] μ (kr_bk (kr_Wp C_K_run (kr_c (d + 5)) Q) 103 [some (.ref 27), some (.int a1), some (.int a2), some (.int a3), none] [])))))) : kr_Wp C_K_run (kr_c (d + 5)) Q 91 [some (.ref 27), some (.int a1), some (.int a2), some (.int a3), none] [.int r] μ := (st_K_run (And.intro (fun z1x => (st_K_run (st_K_run (And.intro rfl (h.1 z1x))))) (fun z1x => (st_K_run (st_K_run (st_K_run (And.intro (fun z2x => (st_K_run (st_K_run ((h.2 (Decidable.not_not.mp z1x)).1 z2x)))) (fun z2x => (st_K_run (st_K_run (And.intro rfl ((h.2 (Decidable.not_not.mp z1x)).2 (Decidable.not_not.mp z2x)))))))))))))
theorem v_K_run_125 {d : Nat} {Q : kr_Q} {μ : kr_M} {a1 : Int32} {a2 : Int32} {a3 : Int32} {a4 : Int32} (h : kr_Wp C_K_run (kr_c (d + 5)) Q 106 [some (.ref 27), some (.int a1), some (.int a2), some (.int a3), some (.int (a4 + 1))] [] μ) : kr_Wp C_K_run (kr_c (d + 5)) Q 125 [some (.ref 27), some (.int a1), some (.int a2), some (.int a3), some (.int a4)] [] μ := (st_K_run (st_K_run h))
theorem v_K_run_103 {d : Nat} {Q : kr_Q} {μ : kr_M} {a1 : Int32} {a2 : Int32} {a3 : Int32} (h : kr_Wp C_K_run (kr_c (d + 5)) Q 106 [some (.ref 27), some (.int a1), some (.int a2), some (.int a3), some (.int 0)] [] μ) : kr_Wp C_K_run (kr_c (d + 5)) Q 103 [some (.ref 27), some (.int a1), some (.int a2), some (.int a3), none] [] μ := (st_K_run (st_K_run h))
theorem kl_sh : ∀ q, q < 41 → ((nI q).toInt64 &&& 63).toBitVec.smod 64 = BitVec.ofNat 64 q := by decide +kernel
theorem kl_bit {B q : Nat} (hB : B < 2 ^ 63) (hq : q < 41) : ((lN B >>> ((nI q).toInt64 &&& 63)) &&& 1 : Int64) = 0 ↔ B.testBit q = false := by
  have e : ((lN B >>> ((nI q).toInt64 &&& 63)) &&& 1 : Int64).toBitVec = (BitVec.ofNat 64 B >>> q) &&& 1#64 := by
    rw [Int64.toBitVec_and, Int64.toBitVec_shiftRight, kl_sh q hq, show (lN B).toBitVec = BitVec.ofNat 64 B from rfl]
    show (BitVec.ofNat 64 B).sshiftRight (BitVec.ofNat 64 q).toNat &&& 1#64 = _
    rw [BitVec.toNat_ofNat, Nat.mod_eq_of_lt (by omega), BitVec.sshiftRight_eq_of_msb_false]
    rw [BitVec.msb_eq_decide]
    simp only [BitVec.toNat_ofNat, decide_eq_false_iff_not]
    rw [Nat.mod_eq_of_lt (by omega)]
    omega
  have e2 : ((lN B >>> ((nI q).toInt64 &&& 63)) &&& 1 : Int64) = 0 ↔ (BitVec.ofNat 64 B >>> q) &&& 1#64 = 0#64 := by
    rw [← e]
    exact ⟨fun z => by rw [z]; rfl, fun z => Int64.toBitVec_inj.mp z⟩
  rw [e2, ← BitVec.toNat_inj]
  rw [BitVec.toNat_and, BitVec.toNat_ushiftRight, BitVec.toNat_ofNat, Nat.mod_eq_of_lt (by omega)]
  show B >>> q &&& 1 = 0 ↔ _
  rw [Nat.and_one_is_mod, Nat.testBit_eq_decide_div_mod_eq, Nat.shiftRight_eq_div_pow]
  simp only [decide_eq_false_iff_not]
  omega
theorem kl_cmp0 (x : Int64) : lg_cmp x 0 = 0 ↔ x = 0 := by
  have h1 := kr_cmp_lt x 0
  have h2 := kr_cmp_gt x 0
  constructor
  · intro z
    rw [z] at h1 h2
    have a : ¬ x < 0 := fun y => absurd (h1.mpr y) (by decide)
    have b : ¬ 0 < x := fun y => absurd (h2.mpr y) (by decide)
    exact Int64.le_antisymm (Int64.not_lt.mp b) (Int64.not_lt.mp a)
  · intro z
    rw [z]
    decide
def kx_rb (g : Nat → Nat) : Nat := kr_bm 41 (fun q => decide (1 ≤ q) && g (67 + q) == 1)
theorem c_R_rainsIn {d : Nat} {Q : kr_Q} {μ : kr_M} {g : Nat → Nat} (hB : μ.2 1 = lN (kx_rb g)) {q : Nat} (hq : q < 2 ^ 31) (k : Q (some (.int (if 1 ≤ q ∧ q ≤ 40 ∧ g (67 + q) = 1 then 1 else 0))) μ) : kr_c (d + 2) i_R_rainsIn [.ref 1, .int (nI q)] μ Q := by
  refine v_R_rainsIn ⟨fun c => ?_, fun c => ?_⟩
  · rw [show (1 : Int32) = nI 1 from rfl, show (40 : Int32) = nI 40 from rfl, nI_leI (by decide) hq, nI_leI hq (by decide)] at c
    rw [if_neg (fun z => c ⟨z.1, z.2.1⟩)] at k
    exact k
  · rw [show (1 : Int32) = nI 1 from rfl, show (40 : Int32) = nI 40 from rfl, nI_leI (by decide) hq, nI_leI hq (by decide)] at c
    have hb : kx_rb g < 2 ^ 41 := kr_bm_lt _ _
    rw [kl_cmp0, hB, kl_bit (by omega) (by omega)]
    unfold kx_rb
    rw [kr_bm_bit]
    by_cases e : g (67 + q) = 1
    · rw [if_pos ⟨c.1, c.2, e⟩] at k
      refine ⟨fun z => ?_, fun _ => k⟩
      simp [e, c.1] at z
      omega
    · rw [if_neg (fun z => e z.2.2)] at k
      refine ⟨fun _ => k, fun z => ?_⟩
      exfalso
      apply z
      simp [e]
theorem c_R_wholeBy28 {d : Nat} {Q : kr_Q} {μ : kr_M} {N : Nat} {s : Nat → Nat} (hN : μ.1 1 2 = nI N) (h12 : N ≤ 12) (hs : ∀ l, l < N → μ.1 28 l = nI (s l)) (hb : ∀ l, l < N → s l < 2 ^ 31) (k : Q (some (.int (nI (kx_ms N s)))) μ) : kr_c (d + 1) i_R_wholeBy [.ref 1, .ref 28] μ Q := by
  refine v_R_wholeBy28 ?_
  refine kr_up (I := fun l => kr_Wp C_R_wholeBy (kr_c d) Q 4 [some (.ref 1), some (.ref 28), some (.int (nI (kr_bm l (fun l => decide (0 < s l))))), some (.int (nI l))] [] μ) N ?_ ?_ 0 (Nat.zero_le _)
  · refine v_R_wholeBy28_4 (br_t ?_ k)
    rw [hN]
    exact Int32.le_refl _
  · intro l h ih
    refine v_R_wholeBy28_4 (br_f ?_ ⟨vp_in_nI (by omega) (by decide), ?_⟩)
    · rw [hN]
      exact nI_ge h (by omega)
    have := hb l h
    rw [nI_clamp (by omega), hs l h, kr_1sh l (by omega), kr_or, kr_n1, show (0 : Int32) = nI 0 from rfl, nI_leI (by omega) (by decide)]
    rw [kx_bl] at ih
    refine ⟨fun c => ?_, fun c => ?_⟩
    · rw [if_neg (by simp; omega), Nat.or_zero] at ih
      exact ih
    · rw [if_pos (by simp; omega)] at ih
      exact ih
theorem c_R_rainRubs28 {d : Nat} {Q : kr_Q} {μ : kr_M} {g : Nat → Nat} {s : Nat → Nat} (hN : μ.1 1 2 = nI (g 0)) (h12 : g 0 ≤ 12) (h7 : μ.1 1 7 = nI (kr_bm (g 0) (fun l => kr_gk g l 4 == 1))) (h4 : ∀ l, l < g 0 → kr_gk g l 4 ≤ 1) (hs : ∀ l, l < g 0 → μ.1 28 l = nI (s l)) (hb : ∀ l, l < g 0 → s l < 2 ^ 31) (k : ∀ μ', kr_keep [28] [] μ μ' → (∀ l, l < g 0 → μ'.1 28 l = nI (if kr_gk g l 4 = 0 then s l - 1 else s l)) → Q none μ') : kr_c (d + 3) i_R_rainRubs [.ref 1, .ref 28] μ Q := by
  refine v_R_rainRubs28 ?_
  have main : ∀ l, l ≤ g 0 → ∀ μ', kr_keep [28] [] μ μ' → (∀ j, j < g 0 → μ'.1 28 j = nI (if j < l ∧ kr_gk g j 4 = 0 then s j - 1 else s j)) → kr_Wp C_R_rainRubs (kr_c (d + 2)) Q 2 [some (.ref 1), some (.ref 28), some (.int (nI l))] [] μ' := by
    refine kr_up (I := fun l => ∀ μ', kr_keep [28] [] μ μ' → (∀ j, j < g 0 → μ'.1 28 j = nI (if j < l ∧ kr_gk g j 4 = 0 then s j - 1 else s j)) → kr_Wp C_R_rainRubs (kr_c (d + 2)) Q 2 [some (.ref 1), some (.ref 28), some (.int (nI l))] [] μ') (g 0) ?_ ?_
    · intro μ' hk hj
      refine v_R_rainRubs28_2 (br_t ?_ (k μ' hk (fun l hl => ?_)))
      · rw [hk.2 1 2 (by decide) (by decide), hN]; exact Int32.le_refl _
      · rw [hj l hl]
        by_cases c : kr_gk g l 4 = 0
        · rw [if_pos ⟨hl, c⟩, if_pos c]
        · rw [if_neg (fun z => c z.2), if_neg c]
    · intro l hl ih μ' hk hj
      have vl : vp_in (nI l) 12 := vp_in_nI (by omega) (by decide)
      have hbl := hb l hl
      have hlt : kr_bm (g 0) (fun l => kr_gk g l 4 == 1) < 2 ^ 12 := Nat.lt_of_lt_of_le (kr_bm_lt _ _) (Nat.pow_le_pow_right (by decide) h12)
      refine v_R_rainRubs28_2 (br_f ?_ ?_)
      · rw [hk.2 1 2 (by decide) (by decide), hN]; exact nI_ge hl (by omega)
      rw [hk.2 1 7 (by decide) (by decide), h7, kr_bit0 (by omega) (by omega), kr_bm_bit, nI_clamp (by omega), hj l hl, if_neg (fun z => absurd z.1 (Nat.lt_irrefl _)), kr_n1, show (0 : Int32) = nI 0 from rfl, nI_leI (by omega) (by decide)]
      have h01 := h4 l hl
      have same : ¬ (kr_gk g l 4 = 0 ∧ 0 < s l) → kr_Wp C_R_rainRubs (kr_c (d + 2)) Q 2 [some (.ref 1), some (.ref 28), some (.int (nI (l + 1)))] [] μ' := by
        intro c
        refine ih μ' hk (fun j hj2 => ?_)
        rw [hj j hj2]
        by_cases e : j = l
        · subst e
          rw [if_neg (fun z => absurd z.1 (Nat.lt_irrefl _))]
          congr 1
          by_cases c2 : kr_gk g j 4 = 0
          · rw [if_pos ⟨Nat.lt_succ_self j, c2⟩]
            have : ¬ 0 < s j := fun z => c ⟨c2, z⟩
            omega
          · rw [if_neg (fun z => c2 z.2)]
        · have : (j < l + 1 ∧ kr_gk g j 4 = 0) ↔ (j < l ∧ kr_gk g j 4 = 0) := ⟨fun z => ⟨by omega, z.2⟩, fun z => ⟨by omega, z.2⟩⟩
          simp only [this]
      refine ⟨fun c => same (fun z => ?_), fun c => ⟨vl, fun c2 => same (fun z => by omega), fun c2 => ⟨vl, vl, ?_⟩⟩⟩
      · apply c
        simp [z.1]
      · have c0 : kr_gk g l 4 = 0 := by
          have c := Decidable.not_not.mp c
          simp [hl] at c
          omega
        refine ih _ (hk.u _ _ (by decide)) (fun j hj2 => ?_)
        rw [kr_u_s, show (1 : Int32) = nI 1 from rfl, pk_sub (by omega)]
        by_cases e : j = l
        · rw [e, kr_upd_s, if_pos ⟨Nat.lt_succ_self l, c0⟩]
        · rw [kr_upd_n _ _ e, hj j hj2]
          have : (j < l + 1 ∧ kr_gk g j 4 = 0) ↔ (j < l ∧ kr_gk g j 4 = 0) := ⟨fun z => ⟨by omega, z.2⟩, fun z => ⟨by omega, z.2⟩⟩
          simp only [this]
  refine main 0 (Nat.zero_le _) μ kr_keep.rf (fun j hj => ?_)
  rw [if_neg (fun z => absurd z.1 (Nat.not_lt_zero j))]
  exact hs j hj
theorem c_R_rainRubs5 {d : Nat} {Q : kr_Q} {μ : kr_M} {g : Nat → Nat} {s : Nat → Nat} (hN : μ.1 1 2 = nI (g 0)) (h12 : g 0 ≤ 12) (h7 : μ.1 1 7 = nI (kr_bm (g 0) (fun l => kr_gk g l 4 == 1))) (h4 : ∀ l, l < g 0 → kr_gk g l 4 ≤ 1) (hs : ∀ l, l < g 0 → μ.1 5 l = nI (s l)) (hb : ∀ l, l < g 0 → s l < 2 ^ 31) (k : ∀ μ', kr_keep [5] [] μ μ' → (∀ l, l < g 0 → μ'.1 5 l = nI (if kr_gk g l 4 = 0 then s l - 1 else s l)) → Q none μ') : kr_c (d + 3) i_R_rainRubs [.ref 1, .ref 5] μ Q := by
  refine v_R_rainRubs5 ?_
  have main : ∀ l, l ≤ g 0 → ∀ μ', kr_keep [5] [] μ μ' → (∀ j, j < g 0 → μ'.1 5 j = nI (if j < l ∧ kr_gk g j 4 = 0 then s j - 1 else s j)) → kr_Wp C_R_rainRubs (kr_c (d + 2)) Q 2 [some (.ref 1), some (.ref 5), some (.int (nI l))] [] μ' := by
    refine kr_up (I := fun l => ∀ μ', kr_keep [5] [] μ μ' → (∀ j, j < g 0 → μ'.1 5 j = nI (if j < l ∧ kr_gk g j 4 = 0 then s j - 1 else s j)) → kr_Wp C_R_rainRubs (kr_c (d + 2)) Q 2 [some (.ref 1), some (.ref 5), some (.int (nI l))] [] μ') (g 0) ?_ ?_
    · intro μ' hk hj
      refine v_R_rainRubs5_2 (br_t ?_ (k μ' hk (fun l hl => ?_)))
      · rw [hk.2 1 2 (by decide) (by decide), hN]; exact Int32.le_refl _
      · rw [hj l hl]
        by_cases c : kr_gk g l 4 = 0
        · rw [if_pos ⟨hl, c⟩, if_pos c]
        · rw [if_neg (fun z => c z.2), if_neg c]
    · intro l hl ih μ' hk hj
      have vl : vp_in (nI l) 12 := vp_in_nI (by omega) (by decide)
      have hbl := hb l hl
      have hlt : kr_bm (g 0) (fun l => kr_gk g l 4 == 1) < 2 ^ 12 := Nat.lt_of_lt_of_le (kr_bm_lt _ _) (Nat.pow_le_pow_right (by decide) h12)
      refine v_R_rainRubs5_2 (br_f ?_ ?_)
      · rw [hk.2 1 2 (by decide) (by decide), hN]; exact nI_ge hl (by omega)
      rw [hk.2 1 7 (by decide) (by decide), h7, kr_bit0 (by omega) (by omega), kr_bm_bit, nI_clamp (by omega), hj l hl, if_neg (fun z => absurd z.1 (Nat.lt_irrefl _)), kr_n1, show (0 : Int32) = nI 0 from rfl, nI_leI (by omega) (by decide)]
      have h01 := h4 l hl
      have same : ¬ (kr_gk g l 4 = 0 ∧ 0 < s l) → kr_Wp C_R_rainRubs (kr_c (d + 2)) Q 2 [some (.ref 1), some (.ref 5), some (.int (nI (l + 1)))] [] μ' := by
        intro c
        refine ih μ' hk (fun j hj2 => ?_)
        rw [hj j hj2]
        by_cases e : j = l
        · subst e
          rw [if_neg (fun z => absurd z.1 (Nat.lt_irrefl _))]
          congr 1
          by_cases c2 : kr_gk g j 4 = 0
          · rw [if_pos ⟨Nat.lt_succ_self j, c2⟩]
            have : ¬ 0 < s j := fun z => c ⟨c2, z⟩
            omega
          · rw [if_neg (fun z => c2 z.2)]
        · have : (j < l + 1 ∧ kr_gk g j 4 = 0) ↔ (j < l ∧ kr_gk g j 4 = 0) := ⟨fun z => ⟨by omega, z.2⟩, fun z => ⟨by omega, z.2⟩⟩
          simp only [this]
      refine ⟨fun c => same (fun z => ?_), fun c => ⟨vl, fun c2 => same (fun z => by omega), fun c2 => ⟨vl, vl, ?_⟩⟩⟩
      · apply c
        simp [z.1]
      · have c0 : kr_gk g l 4 = 0 := by
          have c := Decidable.not_not.mp c
          simp [hl] at c
          omega
        refine ih _ (hk.u _ _ (by decide)) (fun j hj2 => ?_)
        rw [kr_u_s, show (1 : Int32) = nI 1 from rfl, pk_sub (by omega)]
        by_cases e : j = l
        · rw [e, kr_upd_s, if_pos ⟨Nat.lt_succ_self l, c0⟩]
        · rw [kr_upd_n _ _ e, hj j hj2]
          have : (j < l + 1 ∧ kr_gk g j 4 = 0) ↔ (j < l ∧ kr_gk g j 4 = 0) := ⟨fun z => ⟨by omega, z.2⟩, fun z => ⟨by omega, z.2⟩⟩
          simp only [this]
  refine main 0 (Nat.zero_le _) μ kr_keep.rf (fun j hj => ?_)
  rw [if_neg (fun z => absurd z.1 (Nat.not_lt_zero j))]
  exact hs j hj
