/-! who draws what: the reference can draw -/
theorem st_M_leftNow {d : Nat} {Q : kr_Q} {pc : Nat} {ls : kr_L} {st : List Value} {μ : kr_M} (h : C_M_leftNow pc (kr_Wp C_M_leftNow (kr_c d) Q) (kr_c d) Q ls st μ) : kr_Wp C_M_leftNow (kr_c d) Q pc ls st μ := kr_Wp.step (fun pc => (kr_ok_M_leftNow pc).2) (kr_c_om d) h
theorem v_M_leftNow {d : Nat} {Q : kr_Q} {μ : kr_M}  (h : kr_Wp C_M_leftNow (kr_c d) Q 2 [some (.ref 65), some (.int 0)] [] μ) : kr_c (d + 1) i_M_leftNow [.ref 65] μ Q := ⟨rfl, (st_M_leftNow (st_M_leftNow h))⟩
theorem v_M_leftNow_2 {d : Nat} {Q : kr_Q} {μ : kr_M} {a1 : Int32} (h : (((μ.1 65 3) ≤ a1 → Q none μ) ∧ (¬ ((μ.1 65 3) ≤ a1) → vp_in ((62 : Int32) + a1) 375 ∧ vp_in a1 5 ∧ kr_Wp C_M_leftNow (kr_c d) Q 2 [some (.ref 65), some (.int (a1 + 1))] [] (kr_u μ 80 a1.toNatClampNeg (μ.1 66 (((62 : Int32) + a1).toNatClampNeg)))))) : kr_Wp C_M_leftNow (kr_c d) Q 2 [some (.ref 65), some (.int a1)] [] μ := (st_M_leftNow (st_M_leftNow (st_M_leftNow (And.intro rfl (st_M_leftNow (And.intro (fun z1x => (st_M_leftNow (h.1 z1x))) (fun z1x => (st_M_leftNow (st_M_leftNow (And.intro rfl (st_M_leftNow (st_M_leftNow (st_M_leftNow (And.intro rfl (st_M_leftNow (st_M_leftNow (st_M_leftNow (st_M_leftNow (And.intro ⟨375, rfl, (h.2 z1x).1⟩ (st_M_leftNow (And.intro ⟨5, rfl, (h.2 z1x).2.1⟩ (st_M_leftNow (st_M_leftNow (h.2 z1x).2.2)))))))))))))))))))))))
theorem st_M_findRow {d : Nat} {Q : kr_Q} {pc : Nat} {ls : kr_L} {st : List Value} {μ : kr_M} (h : C_M_findRow pc (kr_Wp C_M_findRow (kr_c d) Q) (kr_c d) Q ls st μ) : kr_Wp C_M_findRow (kr_c d) Q pc ls st μ := kr_Wp.step (fun pc => (kr_ok_M_findRow pc).2) (kr_c_om d) h
theorem v_M_findRow {d : Nat} {Q : kr_Q} {μ : kr_M} {a1 : Int32} (h : kr_Wp C_M_findRow (kr_c d) Q 7 [some (.ref 65), some (.int a1), some (.int 0)] [] (kr_u μ 65 33 0)) : kr_c (d + 1) i_M_findRow [.ref 65, .int a1] μ Q := ⟨rfl, (st_M_findRow (st_M_findRow (st_M_findRow (And.intro rfl (st_M_findRow (st_M_findRow h))))))⟩
theorem v_M_findRow_7 {d : Nat} {Q : kr_Q} {μ : kr_M} {a1 : Int32} {a2 : Int32} (h : (((μ.1 65 3) ≤ a2 → Q none μ) ∧ (¬ ((μ.1 65 3) ≤ a2) → ((¬ ((a1 >>> (a2 &&& 31)) &&& (1 : Int32)) = 1 → kr_Wp C_M_findRow (kr_c d) Q 7 [some (.ref 65), some (.int a1), some (.int (a2 + 1))] [] μ) ∧ (((a1 >>> (a2 &&& 31)) &&& (1 : Int32)) = 1 → vp_in (μ.1 65 33) 5 ∧ kr_Wp C_M_findRow (kr_c d) Q 7 [some (.ref 65), some (.int a1), some (.int (a2 + 1))] [] (kr_u (kr_u μ 81 ((μ.1 65 33).toNatClampNeg) a2) 65 33 ((μ.1 65 33) + (1 : Int32)))))))) : kr_Wp C_M_findRow (kr_c d) Q 7 [some (.ref 65), some (.int a1), some (.int a2)] [] μ := (st_M_findRow (st_M_findRow (st_M_findRow (And.intro rfl (st_M_findRow (And.intro (fun z1x => (st_M_findRow (h.1 z1x))) (fun z1x => (st_M_findRow (st_M_findRow (st_M_findRow (st_M_findRow (st_M_findRow (st_M_findRow (st_M_findRow (And.intro (fun z2x => (st_M_findRow (st_M_findRow ((h.2 z1x).1 z2x)))) (fun z2x => (st_M_findRow (st_M_findRow (And.intro rfl (st_M_findRow (st_M_findRow (And.intro rfl (st_M_findRow (st_M_findRow (And.intro ⟨5, rfl, ((h.2 z1x).2 (Decidable.not_not.mp z2x)).1⟩ (st_M_findRow (st_M_findRow (st_M_findRow (And.intro rfl (st_M_findRow (st_M_findRow (st_M_findRow (And.intro rfl (st_M_findRow (st_M_findRow ((h.2 z1x).2 (Decidable.not_not.mp z2x)).2)))))))))))))))))))))))))))))))))))
theorem st_M_usedThen {d : Nat} {Q : kr_Q} {pc : Nat} {ls : kr_L} {st : List Value} {μ : kr_M} (h : C_M_usedThen pc (kr_Wp C_M_usedThen (kr_c d) Q) (kr_c d) Q ls st μ) : kr_Wp C_M_usedThen (kr_c d) Q pc ls st μ := kr_Wp.step (fun pc => (kr_ok_M_usedThen pc).2) (kr_c_om d) h
theorem v_M_usedThen {d : Nat} {Q : kr_Q} {μ : kr_M} {a1 : Int32} {a2 : Int32} (h : kr_Wp C_M_usedThen (kr_c d) Q 15 [some (.ref 65), some (.int a1), some (.int a2), some (.int (a1 / (1000 : Int32))), some (.int ((a1 - a1 / (1000 : Int32) * (1000 : Int32)) + a2))] [] μ) : kr_c (d + 1) i_M_usedThen [.ref 65, .int a1, .int a2] μ Q := ⟨rfl, (st_M_usedThen (st_M_usedThen (st_M_usedThen (And.intro (by decide) (st_M_usedThen (st_M_usedThen (st_M_usedThen (st_M_usedThen (And.intro (by decide) (st_M_usedThen (st_M_usedThen (st_M_usedThen h))))))))))))⟩
theorem v_M_usedThen_15 {d : Nat} {Q : kr_Q} {μ : kr_M} {a1 : Int32} {a2 : Int32} {a3 : Int32} {a4 : Int32} (h : (((μ.1 65 33) ≤ a3 → (((μ.1 65 33) ≤ a3 → Q (some (.int 1000000000)) μ) ∧ (¬ ((μ.1 65 33) ≤ a3) → Q (some (.int (((1000 : Int32) * a3) + a4))) μ))) ∧ (¬ ((μ.1 65 33) ≤ a3) → vp_in a3 5 ∧ vp_in (μ.1 81 a3.toNatClampNeg) 5 ∧ ((a4 ≤ (μ.1 80 ((μ.1 81 a3.toNatClampNeg).toNatClampNeg)) → (((μ.1 65 33) ≤ a3 → Q (some (.int 1000000000)) μ) ∧ (¬ ((μ.1 65 33) ≤ a3) → Q (some (.int (((1000 : Int32) * a3) + a4))) μ))) ∧ (¬ (a4 ≤ (μ.1 80 ((μ.1 81 a3.toNatClampNeg).toNatClampNeg))) → kr_Wp C_M_usedThen (kr_c d) Q 15 [some (.ref 65), some (.int a1), some (.int a2), some (.int (a3 + 1)), some (.int a2)] [] μ))))) : kr_Wp C_M_usedThen (kr_c d) Q 15 [some (.ref 65), some (.int a1), some (.int a2), some (.int a3), some (.int a4)] [] μ := (st_M_usedThen (st_M_usedThen (st_M_usedThen (And.intro rfl (st_M_usedThen (And.intro (fun z1x => (st_M_usedThen (st_M_usedThen (st_M_usedThen (And.intro rfl (st_M_usedThen (And.intro (fun z2x => (st_M_usedThen (st_M_usedThen ((h.1 z1x).1 z2x)))) (fun z2x => (st_M_usedThen (st_M_usedThen (st_M_usedThen (st_M_usedThen (st_M_usedThen (st_M_usedThen (st_M_usedThen ((h.1 z1x).2 z2x)))))))))))))))) (fun z1x => (st_M_usedThen (st_M_usedThen (st_M_usedThen (And.intro rfl (st_M_usedThen (st_M_usedThen (And.intro rfl (st_M_usedThen (st_M_usedThen (And.intro ⟨5, rfl, (h.2 z1x).1⟩ (st_M_usedThen (And.intro ⟨5, rfl, (h.2 z1x).2.1⟩ (st_M_usedThen (And.intro (fun z3x => (st_M_usedThen (st_M_usedThen (st_M_usedThen (And.intro rfl (st_M_usedThen (And.intro (fun z4x => (st_M_usedThen (st_M_usedThen (((h.2 z1x).2.2.1 z3x).1 z4x)))) (fun z4x => (st_M_usedThen (st_M_usedThen (st_M_usedThen (st_M_usedThen (st_M_usedThen (st_M_usedThen (st_M_usedThen (((h.2 z1x).2.2.1 z3x).2 z4x)))))))))))))))) (fun z3x => (st_M_usedThen (st_M_usedThen (st_M_usedThen (st_M_usedThen ((h.2 z1x).2.2.2 z3x)))))))))))))))))))))))))))
theorem st_M_canDraw {d : Nat} {Q : kr_Q} {pc : Nat} {ls : kr_L} {st : List Value} {μ : kr_M} (h : C_M_canDraw pc (kr_Wp C_M_canDraw (kr_c d) Q) (kr_c d) Q ls st μ) : kr_Wp C_M_canDraw (kr_c d) Q pc ls st μ := kr_Wp.step (fun pc => (kr_ok_M_canDraw pc).2) (kr_c_om d) h
theorem v_M_canDraw {d : Nat} {Q : kr_Q} {μ : kr_M} {a1 : Int32} (h : kr_Wp C_M_canDraw (kr_c (d + 1)) Q 2 [some (.ref 65), some (.int a1), some (.int 0), none, none, none] [] μ) : kr_c (d + 2) i_M_canDraw [.ref 65, .int a1] μ Q := ⟨rfl, (st_M_canDraw (st_M_canDraw h))⟩
theorem v_M_canDraw_2 {d : Nat} {Q : kr_Q} {μ : kr_M} {a1 : Int32} {a2 : Int32} (h : ((a1 < a2 → vp_in a1 4096 ∧ (((μ.1 79 a1.toNatClampNeg) = 1000000000 → Q (some (.int 0)) μ) ∧ (¬ ((μ.1 79 a1.toNatClampNeg) = 1000000000) → Q (some (.int 1)) μ))) ∧ (¬ (a1 < a2) → ((¬ (a2 &&& (a1 ^^^ (-1 : Int32))) = 0 → kr_Wp C_M_canDraw (kr_c (d + 1)) Q 2 [some (.ref 65), some (.int a1), some (.int (a2 + 1)), none, none, none] [] μ) ∧ ((a2 &&& (a1 ^^^ (-1 : Int32))) = 0 → ((¬ a2 = 0 → vp_in a2 4096 ∧ kr_Wp C_M_canDraw (kr_c (d + 1)) Q 33 [some (.ref 65), some (.int a1), some (.int a2), some (.int 0), none, none] [] (kr_u μ 79 a2.toNatClampNeg 1000000000)) ∧ (a2 = 0 → vp_in a2 4096 ∧ kr_Wp C_M_canDraw (kr_c (d + 1)) Q 33 [some (.ref 65), some (.int a1), some (.int a2), some (.int 0), none, none] [] (kr_u μ 79 a2.toNatClampNeg 0)))))))) : kr_Wp C_M_canDraw (kr_c (d + 1)) Q 2 [some (.ref 65), some (.int a1), some (.int a2), none, none, none] [] μ := (st_M_canDraw (st_M_canDraw (st_M_canDraw (And.intro (fun z1x => (st_M_canDraw (st_M_canDraw (And.intro rfl (st_M_canDraw (st_M_canDraw (And.intro ⟨4096, rfl, (h.1 z1x).1⟩ (st_M_canDraw (st_M_canDraw (And.intro (fun z2x => (st_M_canDraw (st_M_canDraw (And.intro (by decide) ((h.1 z1x).2.1 z2x))))) (fun z2x => (st_M_canDraw (st_M_canDraw (st_M_canDraw (And.intro (by decide) ((h.1 z1x).2.2 z2x)))))))))))))))) (fun z1x => (st_M_canDraw (st_M_canDraw (st_M_canDraw (st_M_canDraw (st_M_canDraw (st_M_canDraw (And.intro (fun z3x => (st_M_canDraw (st_M_canDraw ((h.2 z1x).1 z3x)))) (fun z3x => (st_M_canDraw (st_M_canDraw (And.intro rfl (st_M_canDraw (st_M_canDraw (st_M_canDraw (And.intro (fun z4x => (st_M_canDraw (st_M_canDraw (And.intro ⟨4096, rfl, (((h.2 z1x).2 (Decidable.not_not.mp z3x)).1 z4x).1⟩ (st_M_canDraw (st_M_canDraw (((h.2 z1x).2 (Decidable.not_not.mp z3x)).1 z4x).2)))))) (fun z4x => (st_M_canDraw (st_M_canDraw (st_M_canDraw (And.intro ⟨4096, rfl, (((h.2 z1x).2 (Decidable.not_not.mp z3x)).2 (Decidable.not_not.mp z4x)).1⟩ (st_M_canDraw (st_M_canDraw (((h.2 z1x).2 (Decidable.not_not.mp z3x)).2 (Decidable.not_not.mp z4x)).2)))))))))))))))))))))))))))
theorem v_M_canDraw_33 {d : Nat} {Q : kr_Q} {μ : kr_M} {a1 : Int32} {a2 : Int32} {a3 : Int32} (h : (((μ.1 66 0) ≤ a3 → kr_Wp C_M_canDraw (kr_c (d + 1)) Q 2 [some (.ref 65), some (.int a1), some (.int (a2 + 1)), none, none, none] [] μ) ∧ (¬ ((μ.1 66 0) ≤ a3) → ((¬ ((a2 >>> (a3 &&& 31)) &&& (1 : Int32)) = 1 → vp_in a2 4096 ∧ (((μ.1 79 a2.toNatClampNeg) ≤ (1000000000 : Int32) → vp_in a2 4096 ∧ vp_in a2 4096 ∧ kr_Wp C_M_canDraw (kr_c (d + 1)) Q 33 [some (.ref 65), some (.int a1), some (.int a2), some (.int (a3 + 1)), none, none] [] (kr_u μ 79 a2.toNatClampNeg (μ.1 79 a2.toNatClampNeg))) ∧ (¬ ((μ.1 79 a2.toNatClampNeg) ≤ (1000000000 : Int32)) → vp_in a2 4096 ∧ kr_Wp C_M_canDraw (kr_c (d + 1)) Q 33 [some (.ref 65), some (.int a1), some (.int a2), some (.int (a3 + 1)), none, none] [] (kr_u μ 79 a2.toNatClampNeg 1000000000)))) ∧ (((a2 >>> (a3 &&& 31)) &&& (1 : Int32)) = 1 → vp_in (a2 &&& (((1 : Int32) <<< (a3 &&& 31)) ^^^ (-1 : Int32))) 4096 ∧ ((¬ (μ.1 79 ((a2 &&& (((1 : Int32) <<< (a3 &&& 31)) ^^^ (-1 : Int32))).toNatClampNeg)) = 1000000000 → vp_in (((1 : Int32) + ((5 : Int32) * a3)) + (2 : Int32)) 375 ∧ kr_c (d + 1) i_M_usedThen [.ref 65, .int (μ.1 79 ((a2 &&& (((1 : Int32) <<< (a3 &&& 31)) ^^^ (-1 : Int32))).toNatClampNeg)), .int (μ.1 66 ((((1 : Int32) + ((5 : Int32) * a3)) + (2 : Int32)).toNatClampNeg))] μ (kr_bk (kr_Wp C_M_canDraw (kr_c (d + 1)) Q) 95 [some (.ref 65), some (.int a1), some (.int a2), some (.int a3), some (.int (μ.1 79 ((a2 &&& (((1 : Int32) <<< (a3 &&& 31)) ^^^ (-1 : Int32))).toNatClampNeg))), none] [])) ∧ ((μ.1 79 ((a2 &&& (((1 : Int32) <<< (a3 &&& 31)) ^^^ (-1 : Int32))).toNatClampNeg)) = 1000000000 → vp_in a2 4096 ∧ (((μ.1 79 a2.toNatClampNeg) ≤ (1000000000 : Int32) → vp_in a2 4096 ∧ vp_in a2 4096 ∧ kr_Wp C_M_canDraw (kr_c (d + 1)) Q 33 [some (.ref 65), some (.int a1), some (.int a2), some (.int (a3 + 1)), none, none] [] (kr_u μ 79 a2.toNatClampNeg (μ.1 79 a2.toNatClampNeg))) ∧ (¬ ((μ.1 79 a2.toNatClampNeg) ≤ (1000000000 : Int32)) → vp_in a2 4096 ∧ kr_Wp C_M_canDraw (kr_c (d + 1)) Q 33 [some (.ref 65), some (.int a1), some (.int a2), some (.int (a3 + 1)), none, none] [] (kr_u μ 79 a2.toNatClampNeg 1000000000)))))))))) : kr_Wp C_M_canDraw (kr_c (d + 1)) Q 33 [some (.ref 65), some (.int a1), some (.int a2), some (.int a3), none, none] [] μ := (st_M_canDraw (st_M_canDraw (st_M_canDraw (And.intro rfl (st_M_canDraw (st_M_canDraw (And.intro ⟨375, rfl, kr_vp rfl⟩ (st_M_canDraw (And.intro (fun z1x => (st_M_canDraw (st_M_canDraw (kr_Wp.lm [true, true, true, false, false, false] (h.1 z1x))))) (fun z1x => (st_M_canDraw (st_M_canDraw (st_M_canDraw (st_M_canDraw (st_M_canDraw (st_M_canDraw (st_M_canDraw (And.intro (fun z2x => (st_M_canDraw (st_M_canDraw (st_M_canDraw (st_M_canDraw (st_M_canDraw (And.intro (fun q => absurd q (by decide)) (fun _ => (st_M_canDraw (st_M_canDraw (st_M_canDraw (st_M_canDraw (st_M_canDraw (And.intro rfl (st_M_canDraw (st_M_canDraw (st_M_canDraw (st_M_canDraw (And.intro rfl (st_M_canDraw (st_M_canDraw (And.intro ⟨4096, rfl, ((h.2 z1x).1 z2x).1⟩ (st_M_canDraw (And.intro (fun z4x => (st_M_canDraw (st_M_canDraw (And.intro rfl (st_M_canDraw (st_M_canDraw (And.intro ⟨4096, rfl, (((h.2 z1x).1 z2x).2.1 z4x).1⟩ (st_M_canDraw (And.intro ⟨4096, rfl, (((h.2 z1x).1 z2x).2.1 z4x).2.1⟩ (st_M_canDraw (st_M_canDraw (kr_Wp.lm [true, true, true, true, false, false] (((h.2 z1x).1 z2x).2.1 z4x).2.2)))))))))))) (fun z4x => (st_M_canDraw (st_M_canDraw (st_M_canDraw (And.intro ⟨4096, rfl, (((h.2 z1x).1 z2x).2.2 z4x).1⟩ (st_M_canDraw (st_M_canDraw (kr_Wp.lm [true, true, true, true, false, false] (((h.2 z1x).1 z2x).2.2 z4x).2)))))))))))))))))))))))))))))))) (fun z2x => (st_M_canDraw (st_M_canDraw (And.intro rfl (st_M_canDraw (st_M_canDraw (st_M_canDraw (st_M_canDraw (st_M_canDraw (st_M_canDraw (st_M_canDraw (st_M_canDraw (And.intro ⟨4096, rfl, ((h.2 z1x).2 (Decidable.not_not.mp z2x)).1⟩ (st_M_canDraw (st_M_canDraw (st_M_canDraw (st_M_canDraw (st_M_canDraw (And.intro (fun z5x => (st_M_canDraw (st_M_canDraw (st_M_canDraw (st_M_canDraw (st_M_canDraw (st_M_canDraw (And.intro rfl (c_M_of (((h.2 z1x).2 (Decidable.not_not.mp z2x)).2.1 z5x).1 (st_M_canDraw (And.intro rfl (((h.2 z1x).2 (Decidable.not_not.mp z2x)).2.1 z5x).2))))))))))) (fun z5x => (st_M_canDraw (st_M_canDraw (st_M_canDraw (st_M_canDraw (st_M_canDraw (And.intro rfl (st_M_canDraw (st_M_canDraw (st_M_canDraw (st_M_canDraw (And.intro rfl (st_M_canDraw (st_M_canDraw (And.intro ⟨4096, rfl, (((h.2 z1x).2 (Decidable.not_not.mp z2x)).2.2 (Decidable.not_not.mp z5x)).1⟩ (st_M_canDraw (And.intro (fun z6x => (st_M_canDraw (st_M_canDraw (And.intro rfl (st_M_canDraw (st_M_canDraw (And.intro ⟨4096, rfl, ((((h.2 z1x).2 (Decidable.not_not.mp z2x)).2.2 (Decidable.not_not.mp z5x)).2.1 z6x).1⟩ (st_M_canDraw (And.intro ⟨4096, rfl, ((((h.2 z1x).2 (Decidable.not_not.mp z2x)).2.2 (Decidable.not_not.mp z5x)).2.1 z6x).2.1⟩ (st_M_canDraw (st_M_canDraw (kr_Wp.lm [true, true, true, true, false, false] ((((h.2 z1x).2 (Decidable.not_not.mp z2x)).2.2 (Decidable.not_not.mp z5x)).2.1 z6x).2.2)))))))))))) (fun z6x => (st_M_canDraw (st_M_canDraw (st_M_canDraw (And.intro ⟨4096, rfl, ((((h.2 z1x).2 (Decidable.not_not.mp z2x)).2.2 (Decidable.not_not.mp z5x)).2.2 z6x).1⟩ (st_M_canDraw (st_M_canDraw (kr_Wp.lm [true, true, true, true, false, false] ((((h.2 z1x).2 (Decidable.not_not.mp z2x)).2.2 (Decidable.not_not.mp z5x)).2.2 z6x).2))))))))))))))))))))))))))))))))))))))))))))))))))))))))))))))
theorem v_M_canDraw_95 {d : Nat} {Q : kr_Q} {μ : kr_M} {a1 : Int32} {a2 : Int32} {a3 : Int32} {a4 : Int32} {r : Int32} (h : vp_in a2 4096 ∧ (((μ.1 79 a2.toNatClampNeg) ≤ r → vp_in a2 4096 ∧ vp_in a2 4096 ∧ kr_Wp C_M_canDraw (kr_c (d + 1)) Q 33 [some (.ref 65), some (.int a1), some (.int a2), some (.int (a3 + 1)), none, none] [] (kr_u μ 79 a2.toNatClampNeg (μ.1 79 a2.toNatClampNeg))) ∧ (¬ ((μ.1 79 a2.toNatClampNeg) ≤ r) → vp_in a2 4096 ∧ kr_Wp C_M_canDraw (kr_c (d + 1)) Q 33 [some (.ref 65), some (.int a1), some (.int a2), some (.int (a3 + 1)), none, none] [] (kr_u μ 79 a2.toNatClampNeg r)))) : kr_Wp C_M_canDraw (kr_c (d + 1)) Q 95 [some (.ref 65), some (.int a1), some (.int a2), some (.int a3), some (.int a4), none] [.int r] μ := (st_M_canDraw (st_M_canDraw (st_M_canDraw (And.intro rfl (st_M_canDraw (st_M_canDraw (st_M_canDraw (st_M_canDraw (And.intro rfl (st_M_canDraw (st_M_canDraw (And.intro ⟨4096, rfl, h.1⟩ (st_M_canDraw (And.intro (fun z1x => (st_M_canDraw (st_M_canDraw (And.intro rfl (st_M_canDraw (st_M_canDraw (And.intro ⟨4096, rfl, (h.2.1 z1x).1⟩ (st_M_canDraw (And.intro ⟨4096, rfl, (h.2.1 z1x).2.1⟩ (st_M_canDraw (st_M_canDraw (kr_Wp.lm [true, true, true, true, false, false] (h.2.1 z1x).2.2)))))))))))) (fun z1x => (st_M_canDraw (st_M_canDraw (st_M_canDraw (And.intro ⟨4096, rfl, (h.2.2 z1x).1⟩ (st_M_canDraw (st_M_canDraw (kr_Wp.lm [true, true, true, true, false, false] (h.2.2 z1x).2))))))))))))))))))))))
theorem kr_ones_s (n a : Nat) : kr_ones (n + 1) a = kr_ones n a + (a.testBit n).toNat := rfl
theorem kr_ones_mono (a : Nat) {n m : Nat} (h : n ≤ m) : kr_ones n a ≤ kr_ones m a := by
  induction m with
  | zero => rw [Nat.le_zero.mp h]; exact Nat.le_refl _
  | succ m ih =>
    by_cases e : n = m + 1
    · rw [e]; exact Nat.le_refl _
    · have := ih (by omega)
      rw [kr_ones_s]
      omega
theorem kr_ones_lt (a : Nat) {n m : Nat} (h : n < m) (hb : a.testBit n = true) : kr_ones n a < kr_ones m a := by
  have h1 := kr_ones_mono a (show n + 1 ≤ m from h)
  rw [kr_ones_s, hb] at h1
  have : true.toNat = 1 := rfl
  omega
/-- the j-th drawer of who -/
def kx_rw (who D j : Nat) : Nat := kx_ff (fun e => who.testBit e && kr_ones e who == j) D 0
theorem kx_rw_of {who D e : Nat} (he : e < D) (hb : who.testBit e = true) : kx_rw who D (kr_ones e who) = e := by
  have h1 : kx_rw who D (kr_ones e who) < 0 + D := kx_ff_lt (Nat.zero_le e) (by omega) (by simp [hb])
  have h2 := kx_ff_yes (fun i => who.testBit i && kr_ones i who == kr_ones e who) D 0 h1
  change (who.testBit (kx_rw who D (kr_ones e who)) && kr_ones (kx_rw who D (kr_ones e who)) who == kr_ones e who) = true at h2
  simp only [Bool.and_eq_true, beq_iff_eq] at h2
  rcases Nat.lt_trichotomy (kx_rw who D (kr_ones e who)) e with h | h | h
  · have := kr_ones_lt who h h2.1
    omega
  · exact h
  · have := kr_ones_lt who h hb
    omega
theorem kx_rw_sp {who : Nat} : ∀ {D j : Nat}, j < kr_ones D who → kx_rw who D j < D ∧ who.testBit (kx_rw who D j) = true ∧ kr_ones (kx_rw who D j) who = j := by
  have ex : ∀ D j, j < kr_ones D who → ∃ e, e < D ∧ who.testBit e = true ∧ kr_ones e who = j := by
    intro D
    induction D with
    | zero => intro j h; exact absurd h (Nat.not_lt_zero j)
    | succ D ih =>
      intro j h
      rw [kr_ones_s] at h
      by_cases c : j < kr_ones D who
      · obtain ⟨e, h1, h2, h3⟩ := ih j c
        exact ⟨e, by omega, h2, h3⟩
      · cases hb : who.testBit D
        · rw [hb] at h
          have : false.toNat = 0 := rfl
          omega
        · rw [hb] at h
          have : true.toNat = 1 := rfl
          exact ⟨D, by omega, hb, by omega⟩
  intro D j h
  obtain ⟨e, h1, h2, h3⟩ := ex D j h
  have := kx_rw_of h1 h2
  rw [h3] at this
  rw [this]
  exact ⟨h1, h2, h3⟩
def kx_wc (who : Nat) (h : Nat → Nat) (d : Nat) : Nat := if who.testBit d = true then h d else 0
def kx_cp (who D : Nat) (h : Nat → Nat) (j : Nat) : Nat := if j < kr_ones D who then h (kx_rw who D j) else 0
theorem kx_T_fit {y : Nat → Nat} {N D who S u : Nat} {h : Nat → Nat} (hN : N ≤ 12) (hD : D ≤ 5) (hS : S < 2 ^ N) (hy : ∀ l, l < N → 1 ≤ y l) (hh : ∀ d, d < D → h d < 1000) (hT : kx_T y N (kr_ones D who) (kx_cp who D h) S u) (h0 : S = 0 → u = 0) : u ≠ kx_F ↔ kx_gv y D S N 0 (kx_wc who h) = true := by
  have hF : (1000000000 : Nat) = kx_F := rfl
  rw [kx_gv_iff]
  by_cases e0 : S = 0
  · refine ⟨fun _ => ⟨fun _ => 0, fun j _ _ hb => ?_, fun d _ => ?_⟩, fun _ => by rw [h0 e0]; omega⟩
    · rw [e0] at hb; simp at hb
    · rw [kx_sr_zero N 0 (fun j _ _ hb => by rw [e0] at hb; simp at hb)]
      exact Nat.zero_le _
  have hm : kr_ones D who ≤ D := kr_ones_le who D
  constructor
  · intro hu
    obtain ⟨k, s, e, q1, q2, ⟨a, a1, a2, a3⟩, q4, -⟩ := hT.1 hu
    have hk := q4 e0
    refine ⟨fun l => kx_rw who D (a l), fun j _ hj hb => (kx_rw_sp (by have := a1 j (by omega) hb; omega)).1, fun d hd => ?_⟩
    by_cases hb : who.testBit d = true
    · have epos : kx_sr y S (fun l => kx_rw who D (a l)) d N 0 = kx_sr y S a (kr_ones d who) N 0 := by
        refine kx_sr_congr N 0 (fun j _ hj => ⟨fun z => ⟨z.1, ?_⟩, fun z => ⟨z.1, ?_⟩⟩)
        · have := a1 j (by omega) z.1
          rw [← z.2]
          exact (kx_rw_sp (D := D) (by omega)).2.2.symm
        · show kx_rw who D (a j) = d
          rw [z.2]
          exact kx_rw_of hd hb
      rw [epos]
      unfold kx_wc
      rw [if_pos hb]
      have hlt : kr_ones d who < kr_ones D who := kr_ones_lt who hd hb
      have ecap : kx_cp who D h (kr_ones d who) = h d := by
        unfold kx_cp
        rw [if_pos hlt, kx_rw_of hd hb]
      rcases Nat.lt_trichotomy (kr_ones d who) k with c | c | c
      · have := a2 _ c
        omega
      · rw [c] at ecap ⊢
        omega
      · rw [kx_sr_zero N 0 (fun j _ hj hbj z => by have := a1 j (by omega) hbj; omega)]
        exact Nat.zero_le _
    · rw [kx_sr_zero N 0 (fun j _ hj hbj z => by
        have := a1 j (by omega) hbj
        have h2 := (kx_rw_sp (who := who) (D := D) (j := a j) (by omega)).2.1
        have z : kx_rw who D (a j) = d := z
        rw [z] at h2
        exact hb h2)]
      exact Nat.zero_le _
  · rintro ⟨a, a1, a2⟩
    have who_of : ∀ l, l < N → S.testBit l = true → who.testBit (a l) = true := by
      intro l hl hb
      apply Decidable.byContradiction
      intro c
      have h1 := a2 (a l) (a1 l (Nat.zero_le l) (by omega) hb)
      have h2 := kx_sr_ge (y := y) (S := S) (a := a) (d := a l) N 0 (Nat.zero_le l) (by omega) hb rfl
      have h3 := hy l hl
      unfold kx_wc at h1
      rw [if_neg c] at h1
      omega
    obtain ⟨l0, hl0⟩ := Nat.exists_testBit_of_ne_zero e0
    have hl0N : l0 < N := by
      apply Decidable.byContradiction
      intro z
      have := Nat.testBit_lt_two_pow (Nat.lt_of_lt_of_le hS (Nat.pow_le_pow_right (n := 2) (by decide) (Nat.le_of_not_lt z)))
      rw [hl0] at this
      cases this
    have posl : ∀ l, l < N → S.testBit l = true → kr_ones (a l) who < kr_ones D who := fun l hl hb => kr_ones_lt who (a1 l (Nat.zero_le l) (by omega) hb) (who_of l hl hb)
    have hm1 := posl l0 hl0N hl0
    have esum : ∀ j, j < kr_ones D who → kx_sr y S (fun l => kr_ones (a l) who) j N 0 ≤ kx_cp who D h j := by
      intro j hj
      obtain ⟨r1, r2, r3⟩ := kx_rw_sp hj
      have e1 : kx_sr y S (fun l => kr_ones (a l) who) j N 0 = kx_sr y S a (kx_rw who D j) N 0 := by
        refine kx_sr_congr N 0 (fun i _ hi => ⟨fun z => ⟨z.1, ?_⟩, fun z => ⟨z.1, ?_⟩⟩)
        · have := kx_rw_of (a1 i (Nat.zero_le i) (by omega) z.1) (who_of i (by omega) z.1)
          rw [← this]
          congr 1
          exact z.2
        · show kr_ones (a i) who = j
          rw [z.2]
          exact r3
      have h1 := a2 _ r1
      unfold kx_wc at h1
      rw [if_pos r2] at h1
      rw [e1]
      unfold kx_cp
      rw [if_pos hj]
      exact h1
    have h9 := esum (kr_ones D who - 1) (by omega)
    have h8 : kx_cp who D h (kr_ones D who - 1) < 1000 := by
      unfold kx_cp
      rw [if_pos (by omega)]
      exact hh _ (kx_rw_sp (by omega)).1
    have := hT.2 (kr_ones D who - 1) _ (by omega) h9 ⟨fun l => kr_ones (a l) who, fun l hl hb => by have := posl l hl hb; show kr_ones (a l) who ≤ _; omega, fun j hj => esum j (by omega), Nat.le_refl _⟩
    omega
theorem c_M_leftNow {d : Nat} {Q : kr_Q} {μ : kr_M} {g : Nat → Nat} {D : Nat} (hM : kr_Mg μ g) (hD : μ.1 65 3 = nI D) (hD5 : D ≤ 5) (k : ∀ μ', kr_keep [80] [] μ μ' → (∀ e, e < D → μ'.1 80 e = nI (g (62 + e))) → Q none μ') : kr_c (d + 1) i_M_leftNow [.ref 65] μ Q := by
  refine v_M_leftNow ?_
  have main : ∀ i, i ≤ D → ∀ μ', kr_keep [80] [] μ μ' → (∀ e, e < i → μ'.1 80 e = nI (g (62 + e))) → kr_Wp C_M_leftNow (kr_c d) Q 2 [some (.ref 65), some (.int (nI i))] [] μ' := by
    refine kr_up (I := fun i => ∀ μ', kr_keep [80] [] μ μ' → (∀ e, e < i → μ'.1 80 e = nI (g (62 + e))) → kr_Wp C_M_leftNow (kr_c d) Q 2 [some (.ref 65), some (.int (nI i))] [] μ') D ?_ ?_
    · intro μ' hk h
      refine v_M_leftNow_2 (br_t ?_ (k μ' hk h))
      rw [hk.2 65 3 (by decide) (by decide), hD]
      exact Int32.le_refl _
    · intro i hi ih μ' hk h
      refine v_M_leftNow_2 (br_f ?_ ?_)
      · rw [hk.2 65 3 (by decide) (by decide), hD]
        exact nI_ge hi (by omega)
      rw [show (62 : Int32) = nI 62 from rfl, nI_add, nI_clamp (by omega), nI_clamp (by omega), (hM.kp hk (by decide)) _ (by omega), kr_n1]
      refine ⟨vp_in_nI (by omega) (by decide), vp_in_nI (by omega) (by decide), ih _ (hk.u _ _ (by decide)) (fun e he => ?_)⟩
      rw [kr_u_s]
      by_cases c : e = i
      · rw [c, kr_upd_s]
      · rw [kr_upd_n _ _ c]; exact h e (by omega)
  exact main 0 (Nat.zero_le _) μ kr_keep.rf (fun e he => absurd he (Nat.not_lt_zero e))
/-- the row of drawers -/
def kr_Rw (μ : kr_M) (who D : Nat) : Prop := μ.1 65 33 = nI (kr_ones D who) ∧ ∀ e, e < D → who.testBit e = true → μ.1 81 (kr_ones e who) = nI e
theorem c_M_findRow {d : Nat} {Q : kr_Q} {μ : kr_M} {D who : Nat} (hD : μ.1 65 3 = nI D) (hD5 : D ≤ 5) (hw : who < 2 ^ 31) (k : ∀ μ', kr_keep [81] [(65, 33)] μ μ' → kr_Rw μ' who D → Q none μ') : kr_c (d + 1) i_M_findRow [.ref 65, .int (nI who)] μ Q := by
  refine v_M_findRow ?_
  have main : ∀ i, i ≤ D → ∀ μ', kr_keep [81] [(65, 33)] μ μ' → kr_Rw μ' who i → kr_Wp C_M_findRow (kr_c d) Q 7 [some (.ref 65), some (.int (nI who)), some (.int (nI i))] [] μ' := by
    refine kr_up (I := fun i => ∀ μ', kr_keep [81] [(65, 33)] μ μ' → kr_Rw μ' who i → kr_Wp C_M_findRow (kr_c d) Q 7 [some (.ref 65), some (.int (nI who)), some (.int (nI i))] [] μ') D ?_ ?_
    · intro μ' hk h
      refine v_M_findRow_7 (br_t ?_ (k μ' hk h))
      rw [hk.2 65 3 (by decide) (by decide), hD]
      exact Int32.le_refl _
    · intro i hi ih μ' hk h
      refine v_M_findRow_7 (br_f ?_ ?_)
      · rw [hk.2 65 3 (by decide) (by decide), hD]
        exact nI_ge hi (by omega)
      have hle := kr_ones_le who i
      rw [kr_bit1 hw (by omega), kr_n1, h.1, nI_clamp (by omega), kr_n1]
      refine ⟨fun c => ih μ' hk ⟨?_, fun e he hb => ?_⟩, fun c => ⟨vp_in_nI (by omega) (by decide), ih _ ((hk.u _ _ (by decide)).f _ (by decide)) ⟨?_, fun e he hb => ?_⟩⟩⟩
      · have c : who.testBit i = false := by simpa using c
        rw [h.1, kr_ones_s, c]
        rfl
      · by_cases c2 : e = i
        · rw [c2] at hb; exact absurd hb c
        · exact h.2 e (by omega) hb
      · rw [kr_u_s, kr_upd_s, kr_ones_s, c]
        rfl
      · rw [kr_u_n _ _ _ (by decide), kr_u_s]
        by_cases c2 : e = i
        · rw [c2, kr_upd_s]
        · have := kr_ones_lt who (show e < i by omega) hb
          rw [kr_upd_n _ _ (by omega)]
          exact h.2 e (by omega) hb
  refine main 0 (Nat.zero_le _) _ (kr_keep.rf.f _ (by decide)) ⟨?_, fun e he => absurd he (Nat.not_lt_zero e)⟩
  rw [kr_u_s, kr_upd_s]
  rfl
theorem kx_ut_le {m : Nat} {cap : Nat → Nat} {yy : Nat} (hm : m ≤ 5) (hc : ∀ j, cap j < 1000) (n k sum : Nat) : kx_ut m cap yy n k sum ≤ kx_F := by
  have hF : (1000000000 : Nat) = kx_F := rfl
  by_cases c : kx_ut m cap yy n k sum = kx_F
  · omega
  · obtain ⟨k', s', h1, h2, h3, -, -⟩ := kx_ut_A n k sum c
    have := hc k'
    omega
theorem c_M_usedThen {d : Nat} {Q : kr_Q} {μ : kr_M} {who D : Nat} {h : Nat → Nat} (hr : kr_Rw μ who D) (hD5 : D ≤ 5) (h80 : ∀ e, e < D → μ.1 80 e = nI (h e)) (hh : ∀ e, e < D → h e < 1000) {u yy : Nat} (hu : u < 10000) (hyy : yy ≤ 9) (k : Q (some (.int (nI (kx_ut (kr_ones D who) (kx_cp who D h) yy 6 (u / 1000) (u % 1000 + yy))))) μ) : kr_c (d + 1) i_M_usedThen [.ref 65, .int (nI u), .int (nI yy)] μ Q := by
  have hm := kr_ones_le who D
  refine v_M_usedThen ?_
  rw [show (1000 : Int32) = nI 1000 from rfl, pk_div (by omega) (by decide) (by decide), pk_mul, pk_sub (Nat.div_mul_le_self u 1000), nI_add, show u - u / 1000 * 1000 + yy = u % 1000 + yy by omega]
  have main : ∀ n kk sum, kr_ones D who < kk + n → sum < 2000 → kk < 100 → Q (some (.int (nI (kx_ut (kr_ones D who) (kx_cp who D h) yy n kk sum)))) μ → kr_Wp C_M_usedThen (kr_c d) Q 15 [some (.ref 65), some (.int (nI u)), some (.int (nI yy)), some (.int (nI kk)), some (.int (nI sum))] [] μ := by
    intro n
    induction n with
    | zero =>
      intro kk sum h1 h2 h3 hQ
      refine v_M_usedThen_15 (br_t ?_ (br_t ?_ hQ))
      · rw [hr.1]; exact nI_le (by omega) (by omega)
      · rw [hr.1]; exact nI_le (by omega) (by omega)
    | succ n ih =>
      intro kk sum h1 h2 h3 hQ
      unfold kx_ut at hQ
      refine v_M_usedThen_15 ?_
      rw [hr.1, nI_leI (by omega) (by omega)]
      refine ⟨fun c => ?_, fun c => ?_⟩
      · rw [if_pos c] at hQ
        exact br_t c hQ
      · rw [if_neg c] at hQ
        obtain ⟨r1, r2, r3⟩ := kx_rw_sp (who := who) (D := D) (j := kk) (by omega)
        have e81 := hr.2 _ r1 r2
        rw [r3] at e81
        have ecap : kx_cp who D h kk = h (kx_rw who D kk) := if_pos (by omega)
        rw [nI_clamp (by omega), e81, nI_clamp (by omega), h80 _ r1, nI_leI (by omega) (by have := hh _ r1; omega)]
        rw [ecap] at hQ
        refine ⟨vp_in_nI (by omega) (by decide), vp_in_nI (by omega) (by decide), fun c2 => ?_, fun c2 => ?_⟩
        · rw [if_pos c2] at hQ
          refine br_f c ?_
          rw [show (1000 : Int32) = nI 1000 from rfl, pk_mul, nI_add]
          exact hQ
        · rw [if_neg c2] at hQ
          rw [kr_n1]
          exact ih (kk + 1) yy (by omega) (by omega) (by omega) hQ
  exact main 6 (u / 1000) (u % 1000 + yy) (by omega) (by omega) (by omega) k
