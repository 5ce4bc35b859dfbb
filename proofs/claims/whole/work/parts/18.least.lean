/-! the reference seeks ways -/
theorem st_M_strongNow {d : Nat} {Q : kr_Q} {pc : Nat} {ls : kr_L} {st : List Value} {μ : kr_M} (h : C_M_strongNow pc (kr_Wp C_M_strongNow (kr_c d) Q) (kr_c d) Q ls st μ) : kr_Wp C_M_strongNow (kr_c d) Q pc ls st μ := kr_Wp.step (fun pc => (kr_ok_M_strongNow pc).2) (kr_c_om d) h
theorem v_M_strongNow {d : Nat} {Q : kr_Q} {μ : kr_M}  (h : kr_Wp C_M_strongNow (kr_c (d + 1)) Q 2 [some (.ref 65), some (.int 0)] [] μ) : kr_c (d + 2) i_M_strongNow [.ref 65] μ Q := ⟨rfl, (st_M_strongNow (st_M_strongNow h))⟩
theorem v_M_strongNow_2 {d : Nat} {Q : kr_Q} {μ : kr_M} {a1 : Int32} (h : (((μ.1 66 0) ≤ a1 → Q none μ) ∧ (¬ ((μ.1 66 0) ≤ a1) → vp_in (((1 : Int32) + ((5 : Int32) * a1)) + (3 : Int32)) 375 ∧ vp_in a1 12 ∧ kr_Wp C_M_strongNow (kr_c (d + 1)) Q 2 [some (.ref 65), some (.int (a1 + 1))] [] (kr_u μ 72 a1.toNatClampNeg (μ.1 66 ((((1 : Int32) + ((5 : Int32) * a1)) + (3 : Int32)).toNatClampNeg)))))) : kr_Wp C_M_strongNow (kr_c (d + 1)) Q 2 [some (.ref 65), some (.int a1)] [] μ := (st_M_strongNow (st_M_strongNow (st_M_strongNow (And.intro rfl (st_M_strongNow (st_M_strongNow (And.intro ⟨375, rfl, kr_vp rfl⟩ (st_M_strongNow (And.intro (fun z1x => (st_M_strongNow (h.1 z1x))) (fun z1x => (st_M_strongNow (st_M_strongNow (And.intro rfl (st_M_strongNow (st_M_strongNow (st_M_strongNow (st_M_strongNow (st_M_strongNow (And.intro rfl (c_M_of (h.2 z1x).1 (st_M_strongNow (And.intro ⟨12, rfl, (h.2 z1x).2.1⟩ (st_M_strongNow (st_M_strongNow (h.2 z1x).2.2))))))))))))))))))))))))
theorem st_M_otherEnd {d : Nat} {Q : kr_Q} {pc : Nat} {ls : kr_L} {st : List Value} {μ : kr_M} (h : C_M_otherEnd pc (kr_Wp C_M_otherEnd (kr_c d) Q) (kr_c d) Q ls st μ) : kr_Wp C_M_otherEnd (kr_c d) Q pc ls st μ := kr_Wp.step (fun pc => (kr_ok_M_otherEnd pc).2) (kr_c_om d) h
theorem v_M_otherEnd {d : Nat} {Q : kr_Q} {μ : kr_M} {a1 : Int32} {a2 : Int32} (h : vp_in (((1 : Int32) + ((5 : Int32) * a1)) + (0 : Int32)) 375 ∧ ((¬ (μ.1 66 ((((1 : Int32) + ((5 : Int32) * a1)) + (0 : Int32)).toNatClampNeg)) = a2 → vp_in (((1 : Int32) + ((5 : Int32) * a1)) + (1 : Int32)) 375 ∧ ((¬ (μ.1 66 ((((1 : Int32) + ((5 : Int32) * a1)) + (1 : Int32)).toNatClampNeg)) = a2 → Q (some (.int (-4))) μ) ∧ ((μ.1 66 ((((1 : Int32) + ((5 : Int32) * a1)) + (1 : Int32)).toNatClampNeg)) = a2 → vp_in (((1 : Int32) + ((5 : Int32) * a1)) + (0 : Int32)) 375 ∧ Q (some (.int (μ.1 66 ((((1 : Int32) + ((5 : Int32) * a1)) + (0 : Int32)).toNatClampNeg)))) μ))) ∧ ((μ.1 66 ((((1 : Int32) + ((5 : Int32) * a1)) + (0 : Int32)).toNatClampNeg)) = a2 → vp_in (((1 : Int32) + ((5 : Int32) * a1)) + (1 : Int32)) 375 ∧ Q (some (.int (μ.1 66 ((((1 : Int32) + ((5 : Int32) * a1)) + (1 : Int32)).toNatClampNeg)))) μ))) : kr_c (d + 2) i_M_otherEnd [.ref 65, .int a1, .int a2] μ Q := ⟨rfl, (st_M_otherEnd (st_M_otherEnd (st_M_otherEnd (st_M_otherEnd (And.intro rfl (c_M_of h.1 (st_M_otherEnd (st_M_otherEnd (And.intro (fun z1x => (st_M_otherEnd (st_M_otherEnd (st_M_otherEnd (st_M_otherEnd (And.intro rfl (c_M_of (h.2.1 z1x).1 (st_M_otherEnd (st_M_otherEnd (And.intro (fun z2x => (st_M_otherEnd (st_M_otherEnd ((h.2.1 z1x).2.1 z2x)))) (fun z2x => (st_M_otherEnd (st_M_otherEnd (st_M_otherEnd (st_M_otherEnd (And.intro rfl (c_M_of ((h.2.1 z1x).2.2 (Decidable.not_not.mp z2x)).1 (st_M_otherEnd (st_M_otherEnd ((h.2.1 z1x).2.2 (Decidable.not_not.mp z2x)).2))))))))))))))))))) (fun z1x => (st_M_otherEnd (st_M_otherEnd (st_M_otherEnd (st_M_otherEnd (And.intro rfl (c_M_of (h.2.2 (Decidable.not_not.mp z1x)).1 (st_M_otherEnd (st_M_otherEnd (h.2.2 (Decidable.not_not.mp z1x)).2))))))))))))))))))⟩
theorem st_M_findLeast {d : Nat} {Q : kr_Q} {pc : Nat} {ls : kr_L} {st : List Value} {μ : kr_M} (h : C_M_findLeast pc (kr_Wp C_M_findLeast (kr_c d) Q) (kr_c d) Q ls st μ) : kr_Wp C_M_findLeast (kr_c d) Q pc ls st μ := kr_Wp.step (fun pc => (kr_ok_M_findLeast pc).2) (kr_c_om d) h
theorem v_M_findLeast {d : Nat} {Q : kr_Q} {μ : kr_M} {a1 : Int32} (h : kr_Wp C_M_findLeast (kr_c (d + 1)) Q 2 [some (.ref 65), some (.int a1), some (.int 0), none, none, none, none, none] [] μ) : kr_c (d + 2) i_M_findLeast [.ref 65, .int a1] μ Q := ⟨rfl, (st_M_findLeast (st_M_findLeast h))⟩
theorem v_M_findLeast_2 {d : Nat} {Q : kr_Q} {μ : kr_M} {a1 : Int32} {a2 : Int32} (h : (((9 : Int32) ≤ a2 → kr_Wp C_M_findLeast (kr_c (d + 1)) Q 33 [some (.ref 65), some (.int a1), some (.int 1), none, none, none, none, none] [] μ) ∧ (¬ ((9 : Int32) ≤ a2) → ((¬ a2 = a1 → vp_in a2 9 ∧ kr_Wp C_M_findLeast (kr_c (d + 1)) Q 2 [some (.ref 65), some (.int a1), some (.int (a2 + 1)), none, none, none, none, none] [] (kr_u μ 73 a2.toNatClampNeg 1000000000)) ∧ (a2 = a1 → vp_in a2 9 ∧ kr_Wp C_M_findLeast (kr_c (d + 1)) Q 2 [some (.ref 65), some (.int a1), some (.int (a2 + 1)), none, none, none, none, none] [] (kr_u μ 73 a2.toNatClampNeg 0)))))) : kr_Wp C_M_findLeast (kr_c (d + 1)) Q 2 [some (.ref 65), some (.int a1), some (.int a2), none, none, none, none, none] [] μ := (st_M_findLeast (st_M_findLeast (st_M_findLeast (And.intro (fun z1x => (st_M_findLeast (st_M_findLeast (h.1 z1x)))) (fun z1x => (st_M_findLeast (st_M_findLeast (And.intro rfl (st_M_findLeast (st_M_findLeast (st_M_findLeast (st_M_findLeast (And.intro (fun z2x => (st_M_findLeast (st_M_findLeast (And.intro ⟨9, rfl, ((h.2 z1x).1 z2x).1⟩ (st_M_findLeast (st_M_findLeast ((h.2 z1x).1 z2x).2)))))) (fun z2x => (st_M_findLeast (st_M_findLeast (st_M_findLeast (And.intro ⟨9, rfl, ((h.2 z1x).2 (Decidable.not_not.mp z2x)).1⟩ (st_M_findLeast (st_M_findLeast ((h.2 z1x).2 (Decidable.not_not.mp z2x)).2))))))))))))))))))))
theorem v_M_findLeast_33 {d : Nat} {Q : kr_Q} {μ : kr_M} {a1 : Int32} {a2 : Int32} (h : ((a2 = 0 → Q none μ) ∧ (¬ (a2 = 0) → kr_Wp C_M_findLeast (kr_c (d + 1)) Q 41 [some (.ref 65), some (.int a1), some (.int 0), some (.int 0), none, none, none, none] [] μ))) : kr_Wp C_M_findLeast (kr_c (d + 1)) Q 33 [some (.ref 65), some (.int a1), some (.int a2), none, none, none, none, none] [] μ := (st_M_findLeast (st_M_findLeast (And.intro (fun z1x => (st_M_findLeast (h.1 z1x))) (fun z1x => (st_M_findLeast (st_M_findLeast (st_M_findLeast (st_M_findLeast (h.2 z1x)))))))))
theorem v_M_findLeast_41 {d : Nat} {Q : kr_Q} {μ : kr_M} {a1 : Int32} {a2 : Int32} {a3 : Int32} (h : (((μ.1 66 0) ≤ a3 → kr_Wp C_M_findLeast (kr_c (d + 1)) Q 33 [some (.ref 65), some (.int a1), some (.int a2), none, none, none, none, none] [] μ) ∧ (¬ ((μ.1 66 0) ≤ a3) → kr_Wp C_M_findLeast (kr_c (d + 1)) Q 54 [some (.ref 65), some (.int a1), some (.int a2), some (.int a3), some (.int 0), none, none, none] [] μ))) : kr_Wp C_M_findLeast (kr_c (d + 1)) Q 41 [some (.ref 65), some (.int a1), some (.int a2), some (.int a3), none, none, none, none] [] μ := (st_M_findLeast (st_M_findLeast (st_M_findLeast (And.intro rfl (st_M_findLeast (st_M_findLeast (And.intro ⟨375, rfl, kr_vp rfl⟩ (st_M_findLeast (And.intro (fun z1x => (st_M_findLeast (kr_Wp.lm [true, true, true, false, false, false, false, false] (h.1 z1x)))) (fun z1x => (st_M_findLeast (st_M_findLeast (h.2 z1x)))))))))))))
theorem v_M_findLeast_54 {d : Nat} {Q : kr_Q} {μ : kr_M} {a1 : Int32} {a2 : Int32} {a3 : Int32} {a4 : Int32} (h : (((2 : Int32) ≤ a4 → kr_Wp C_M_findLeast (kr_c (d + 1)) Q 41 [some (.ref 65), some (.int a1), some (.int a2), some (.int (a3 + 1)), none, none, none, none] [] μ) ∧ (¬ ((2 : Int32) ≤ a4) → vp_in a3 12 ∧ (((μ.1 72 a3.toNatClampNeg) ≤ 0 → kr_Wp C_M_findLeast (kr_c (d + 1)) Q 41 [some (.ref 65), some (.int a1), some (.int a2), some (.int (a3 + 1)), none, none, none, none] [] μ) ∧ (¬ ((μ.1 72 a3.toNatClampNeg) ≤ 0) → vp_in (((1 : Int32) + ((5 : Int32) * a3)) + a4) 375 ∧ vp_in (((1 : Int32) + ((5 : Int32) * a3)) + ((1 : Int32) - a4)) 375 ∧ vp_in (μ.1 66 ((((1 : Int32) + ((5 : Int32) * a3)) + ((1 : Int32) - a4)).toNatClampNeg)) 9 ∧ ((¬ (μ.1 73 ((μ.1 66 ((((1 : Int32) + ((5 : Int32) * a3)) + ((1 : Int32) - a4)).toNatClampNeg)).toNatClampNeg)) = 1000000000 → vp_in (μ.1 66 ((((1 : Int32) + ((5 : Int32) * a3)) + ((1 : Int32) - a4)).toNatClampNeg)) 9 ∧ vp_in (((1 : Int32) + ((5 : Int32) * a3)) + (2 : Int32)) 375 ∧ vp_in (μ.1 66 ((((1 : Int32) + ((5 : Int32) * a3)) + a4).toNatClampNeg)) 9 ∧ (((μ.1 73 ((μ.1 66 ((((1 : Int32) + ((5 : Int32) * a3)) + a4).toNatClampNeg)).toNatClampNeg)) ≤ (((μ.1 73 ((μ.1 66 ((((1 : Int32) + ((5 : Int32) * a3)) + ((1 : Int32) - a4)).toNatClampNeg)).toNatClampNeg)) + ((1000 : Int32) * (μ.1 66 ((((1 : Int32) + ((5 : Int32) * a3)) + (2 : Int32)).toNatClampNeg)))) + (1 : Int32)) → kr_Wp C_M_findLeast (kr_c (d + 1)) Q 54 [some (.ref 65), some (.int a1), some (.int a2), some (.int a3), some (.int (a4 + 1)), none, none, none] [] μ) ∧ (¬ ((μ.1 73 ((μ.1 66 ((((1 : Int32) + ((5 : Int32) * a3)) + a4).toNatClampNeg)).toNatClampNeg)) ≤ (((μ.1 73 ((μ.1 66 ((((1 : Int32) + ((5 : Int32) * a3)) + ((1 : Int32) - a4)).toNatClampNeg)).toNatClampNeg)) + ((1000 : Int32) * (μ.1 66 ((((1 : Int32) + ((5 : Int32) * a3)) + (2 : Int32)).toNatClampNeg)))) + (1 : Int32))) → vp_in (μ.1 66 ((((1 : Int32) + ((5 : Int32) * a3)) + a4).toNatClampNeg)) 9 ∧ kr_Wp C_M_findLeast (kr_c (d + 1)) Q 54 [some (.ref 65), some (.int a1), some (.int 1), some (.int a3), some (.int (a4 + 1)), none, none, none] [] (kr_u μ 73 ((μ.1 66 ((((1 : Int32) + ((5 : Int32) * a3)) + a4).toNatClampNeg)).toNatClampNeg) (((μ.1 73 ((μ.1 66 ((((1 : Int32) + ((5 : Int32) * a3)) + ((1 : Int32) - a4)).toNatClampNeg)).toNatClampNeg)) + ((1000 : Int32) * (μ.1 66 ((((1 : Int32) + ((5 : Int32) * a3)) + (2 : Int32)).toNatClampNeg)))) + (1 : Int32)))))) ∧ ((μ.1 73 ((μ.1 66 ((((1 : Int32) + ((5 : Int32) * a3)) + ((1 : Int32) - a4)).toNatClampNeg)).toNatClampNeg)) = 1000000000 → vp_in (μ.1 66 ((((1 : Int32) + ((5 : Int32) * a3)) + a4).toNatClampNeg)) 9 ∧ (((μ.1 73 ((μ.1 66 ((((1 : Int32) + ((5 : Int32) * a3)) + a4).toNatClampNeg)).toNatClampNeg)) ≤ (1000000000 : Int32) → kr_Wp C_M_findLeast (kr_c (d + 1)) Q 54 [some (.ref 65), some (.int a1), some (.int a2), some (.int a3), some (.int (a4 + 1)), none, none, none] [] μ) ∧ (¬ ((μ.1 73 ((μ.1 66 ((((1 : Int32) + ((5 : Int32) * a3)) + a4).toNatClampNeg)).toNatClampNeg)) ≤ (1000000000 : Int32)) → vp_in (μ.1 66 ((((1 : Int32) + ((5 : Int32) * a3)) + a4).toNatClampNeg)) 9 ∧ kr_Wp C_M_findLeast (kr_c (d + 1)) Q 54 [some (.ref 65), some (.int a1), some (.int 1), some (.int a3), some (.int (a4 + 1)), none, none, none] [] (kr_u μ 73 ((μ.1 66 ((((1 : Int32) + ((5 : Int32) * a3)) + a4).toNatClampNeg)).toNatClampNeg) 1000000000)))))))))) : kr_Wp C_M_findLeast (kr_c (d + 1)) Q 54 [some (.ref 65), some (.int a1), some (.int a2), some (.int a3), some (.int a4), none, none, none] [] μ := (st_M_findLeast (st_M_findLeast (st_M_findLeast (And.intro (fun z1x => (st_M_findLeast (st_M_findLeast (kr_Wp.lm [true, true, true, true, false, false, false, false] (h.1 z1x))))) (fun z1x => (st_M_findLeast (st_M_findLeast (And.intro rfl (st_M_findLeast (st_M_findLeast (And.intro ⟨12, rfl, (h.2 z1x).1⟩ (st_M_findLeast (And.intro (fun z2x => (st_M_findLeast (st_M_findLeast (kr_Wp.lm [true, true, true, true, false, false, false, false] ((h.2 z1x).2.1 z2x))))) (fun z2x => (st_M_findLeast (st_M_findLeast (st_M_findLeast (st_M_findLeast (And.intro rfl (c_M_of ((h.2 z1x).2.2 z2x).1 (st_M_findLeast (st_M_findLeast (st_M_findLeast (st_M_findLeast (st_M_findLeast (st_M_findLeast (st_M_findLeast (And.intro rfl (c_M_of ((h.2 z1x).2.2 z2x).2.1 (st_M_findLeast (st_M_findLeast (st_M_findLeast (And.intro rfl (st_M_findLeast (st_M_findLeast (And.intro ⟨9, rfl, ((h.2 z1x).2.2 z2x).2.2.1⟩ (st_M_findLeast (st_M_findLeast (And.intro (fun z3x => (st_M_findLeast (st_M_findLeast (And.intro rfl (st_M_findLeast (st_M_findLeast (And.intro ⟨9, rfl, (((h.2 z1x).2.2 z2x).2.2.2.1 z3x).1⟩ (st_M_findLeast (st_M_findLeast (st_M_findLeast (st_M_findLeast (st_M_findLeast (And.intro rfl (c_M_of (((h.2 z1x).2.2 z2x).2.2.2.1 z3x).2.1 (st_M_findLeast (st_M_findLeast (st_M_findLeast (st_M_findLeast (st_M_findLeast (st_M_findLeast (st_M_findLeast (st_M_findLeast (And.intro rfl (st_M_findLeast (st_M_findLeast (And.intro ⟨9, rfl, (((h.2 z1x).2.2 z2x).2.2.2.1 z3x).2.2.1⟩ (st_M_findLeast (And.intro (fun z4x => (st_M_findLeast (st_M_findLeast (kr_Wp.lm [true, true, true, true, true, false, false, false] ((((h.2 z1x).2.2 z2x).2.2.2.1 z3x).2.2.2.1 z4x))))) (fun z4x => (st_M_findLeast (st_M_findLeast (And.intro rfl (st_M_findLeast (st_M_findLeast (st_M_findLeast (And.intro ⟨9, rfl, ((((h.2 z1x).2.2 z2x).2.2.2.1 z3x).2.2.2.2 z4x).1⟩ (st_M_findLeast (st_M_findLeast (st_M_findLeast (st_M_findLeast (kr_Wp.lm [true, true, true, true, true, false, false, false] ((((h.2 z1x).2.2 z2x).2.2.2.1 z3x).2.2.2.2 z4x).2))))))))))))))))))))))))))))))))))))))))) (fun z3x => (st_M_findLeast (st_M_findLeast (st_M_findLeast (st_M_findLeast (st_M_findLeast (st_M_findLeast (And.intro rfl (st_M_findLeast (st_M_findLeast (And.intro ⟨9, rfl, (((h.2 z1x).2.2 z2x).2.2.2.2 (Decidable.not_not.mp z3x)).1⟩ (st_M_findLeast (And.intro (fun z5x => (st_M_findLeast (st_M_findLeast (kr_Wp.lm [true, true, true, true, true, false, false, false] ((((h.2 z1x).2.2 z2x).2.2.2.2 (Decidable.not_not.mp z3x)).2.1 z5x))))) (fun z5x => (st_M_findLeast (st_M_findLeast (And.intro rfl (st_M_findLeast (st_M_findLeast (st_M_findLeast (And.intro ⟨9, rfl, ((((h.2 z1x).2.2 z2x).2.2.2.2 (Decidable.not_not.mp z3x)).2.2 z5x).1⟩ (st_M_findLeast (st_M_findLeast (st_M_findLeast (st_M_findLeast (kr_Wp.lm [true, true, true, true, true, false, false, false] ((((h.2 z1x).2.2 z2x).2.2.2.2 (Decidable.not_not.mp z3x)).2.2 z5x).2)))))))))))))))))))))))))))))))))))))))))))))))))))))))))))))))))
theorem st_M_firstLine {d : Nat} {Q : kr_Q} {pc : Nat} {ls : kr_L} {st : List Value} {μ : kr_M} (h : C_M_firstLine pc (kr_Wp C_M_firstLine (kr_c d) Q) (kr_c d) Q ls st μ) : kr_Wp C_M_firstLine (kr_c d) Q pc ls st μ := kr_Wp.step (fun pc => (kr_ok_M_firstLine pc).2) (kr_c_om d) h
theorem v_M_firstLine {d : Nat} {Q : kr_Q} {μ : kr_M} {a1 : Int32} (h : kr_Wp C_M_firstLine (kr_c (d + 2)) Q 2 [some (.ref 65), some (.int a1), some (.int 0), none] [] μ) : kr_c (d + 3) i_M_firstLine [.ref 65, .int a1] μ Q := ⟨rfl, (st_M_firstLine (st_M_firstLine h))⟩
theorem v_M_firstLine_2 {d : Nat} {Q : kr_Q} {μ : kr_M} {a1 : Int32} {a2 : Int32} (h : (((μ.1 66 0) ≤ a2 → Q (some (.int (-4))) μ) ∧ (¬ ((μ.1 66 0) ≤ a2) → vp_in a2 12 ∧ (((μ.1 72 a2.toNatClampNeg) ≤ 0 → kr_Wp C_M_firstLine (kr_c (d + 2)) Q 2 [some (.ref 65), some (.int a1), some (.int (a2 + 1)), none] [] μ) ∧ (¬ ((μ.1 72 a2.toNatClampNeg) ≤ 0) → kr_c (d + 2) i_M_otherEnd [.ref 65, .int a2, .int a1] μ (kr_bk (kr_Wp C_M_firstLine (kr_c (d + 2)) Q) 27 [some (.ref 65), some (.int a1), some (.int a2), none] [])))))) : kr_Wp C_M_firstLine (kr_c (d + 2)) Q 2 [some (.ref 65), some (.int a1), some (.int a2), none] [] μ := (st_M_firstLine (st_M_firstLine (st_M_firstLine (And.intro rfl (st_M_firstLine (st_M_firstLine (And.intro ⟨375, rfl, kr_vp rfl⟩ (st_M_firstLine (And.intro (fun z1x => (st_M_firstLine (st_M_firstLine (h.1 z1x)))) (fun z1x => (st_M_firstLine (st_M_firstLine (And.intro rfl (st_M_firstLine (st_M_firstLine (And.intro ⟨12, rfl, (h.2 z1x).1⟩ (st_M_firstLine (And.intro (fun z2x => (st_M_firstLine (st_M_firstLine (st_M_firstLine (st_M_firstLine (st_M_firstLine (And.intro (fun _ => (st_M_firstLine (st_M_firstLine (kr_Wp.lm [true, true, true, false] ((h.2 z1x).2.1 z2x))))) (fun q => absurd (by decide) q)))))))) (fun z2x => (st_M_firstLine (st_M_firstLine (st_M_firstLine (st_M_firstLine (And.intro rfl ((h.2 z1x).2.2 z2x)))))))))))))))))))))))))
theorem v_M_firstLine_27 {d : Nat} {Q : kr_Q} {μ : kr_M} {a1 : Int32} {a2 : Int32} {r : Int32} (h : ((r = (-4) → kr_Wp C_M_firstLine (kr_c (d + 2)) Q 2 [some (.ref 65), some (.int a1), some (.int (a2 + 1)), none] [] μ) ∧ (¬ (r = (-4)) → vp_in r 9 ∧ (((μ.1 73 r.toNatClampNeg) = 1000000000 → kr_Wp C_M_firstLine (kr_c (d + 2)) Q 2 [some (.ref 65), some (.int a1), some (.int (a2 + 1)), none] [] μ) ∧ (¬ ((μ.1 73 r.toNatClampNeg) = 1000000000) → vp_in r 9 ∧ vp_in (((1 : Int32) + ((5 : Int32) * a2)) + (2 : Int32)) 375 ∧ vp_in a1 9 ∧ ((¬ (((μ.1 73 r.toNatClampNeg) + ((1000 : Int32) * (μ.1 66 ((((1 : Int32) + ((5 : Int32) * a2)) + (2 : Int32)).toNatClampNeg)))) + (1 : Int32)) = (μ.1 73 a1.toNatClampNeg) → kr_Wp C_M_firstLine (kr_c (d + 2)) Q 2 [some (.ref 65), some (.int a1), some (.int (a2 + 1)), none] [] μ) ∧ ((((μ.1 73 r.toNatClampNeg) + ((1000 : Int32) * (μ.1 66 ((((1 : Int32) + ((5 : Int32) * a2)) + (2 : Int32)).toNatClampNeg)))) + (1 : Int32)) = (μ.1 73 a1.toNatClampNeg) → Q (some (.int a2)) μ))))))) : kr_Wp C_M_firstLine (kr_c (d + 2)) Q 27 [some (.ref 65), some (.int a1), some (.int a2), none] [.int r] μ := (st_M_firstLine (st_M_firstLine (st_M_firstLine (st_M_firstLine (st_M_firstLine (And.intro (fun z1x => (st_M_firstLine (st_M_firstLine (kr_Wp.lm [true, true, true, false] (h.1 z1x))))) (fun z1x => (st_M_firstLine (st_M_firstLine (And.intro rfl (st_M_firstLine (st_M_firstLine (And.intro ⟨9, rfl, (h.2 z1x).1⟩ (st_M_firstLine (st_M_firstLine (And.intro (fun z2x => (st_M_firstLine (st_M_firstLine (kr_Wp.lm [true, true, true, false] ((h.2 z1x).2.1 z2x))))) (fun z2x => (st_M_firstLine (st_M_firstLine (And.intro rfl (st_M_firstLine (st_M_firstLine (And.intro ⟨9, rfl, ((h.2 z1x).2.2 z2x).1⟩ (st_M_firstLine (st_M_firstLine (st_M_firstLine (st_M_firstLine (st_M_firstLine (And.intro rfl (c_M_of ((h.2 z1x).2.2 z2x).2.1 (st_M_firstLine (st_M_firstLine (st_M_firstLine (st_M_firstLine (st_M_firstLine (st_M_firstLine (And.intro rfl (st_M_firstLine (st_M_firstLine (And.intro ⟨9, rfl, ((h.2 z1x).2.2 z2x).2.2.1⟩ (st_M_firstLine (And.intro (fun z3x => (st_M_firstLine (st_M_firstLine (kr_Wp.lm [true, true, true, false] (((h.2 z1x).2.2 z2x).2.2.2.1 z3x))))) (fun z3x => (st_M_firstLine (st_M_firstLine (((h.2 z1x).2.2 z2x).2.2.2.2 (Decidable.not_not.mp z3x)))))))))))))))))))))))))))))))))))))))))))))))
/-- lines whose strength is above 0 -/
def kx_ms (n : Nat) (s : Nat → Nat) : Nat := kr_bm n (fun l => decide (0 < s l))
theorem kx_wl_ms (g : Nat → Nat) : kx_wl g = kx_ms (g 0) (fun l => kr_gk g l 3) := rfl
theorem kx_ms_bit {n l : Nat} {s : Nat → Nat} (h : l < n) : (kx_ms n s).testBit l = decide (0 < s l) := by
  unfold kx_ms
  rw [kr_bm_bit]
  simp [h]
theorem c_M_strongNow {d : Nat} {Q : kr_Q} {μ : kr_M} {g : Nat → Nat} (hM : kr_Mg μ g) (hN : g 0 ≤ 12) (k : ∀ μ', kr_keep [72] [] μ μ' → (∀ l, l < g 0 → μ'.1 72 l = nI (kr_gk g l 3)) → Q none μ') : kr_c (d + 2) i_M_strongNow [.ref 65] μ Q := by
  refine v_M_strongNow ?_
  have main : ∀ l, l ≤ g 0 → ∀ μ', kr_keep [72] [] μ μ' → (∀ j, j < l → μ'.1 72 j = nI (kr_gk g j 3)) → kr_Wp C_M_strongNow (kr_c (d + 1)) Q 2 [some (.ref 65), some (.int (nI l))] [] μ' := by
    refine kr_up (I := fun l => ∀ μ', kr_keep [72] [] μ μ' → (∀ j, j < l → μ'.1 72 j = nI (kr_gk g j 3)) → kr_Wp C_M_strongNow (kr_c (d + 1)) Q 2 [some (.ref 65), some (.int (nI l))] [] μ') (g 0) ?_ ?_
    · intro μ' hk hj
      refine v_M_strongNow_2 (br_t ?_ (k μ' hk hj))
      rw [(hM.kp hk (by decide)) 0 (by decide)]
      exact Int32.le_refl _
    · intro l hl ih μ' hk hj
      have hM' := hM.kp hk (by decide)
      refine v_M_strongNow_2 (br_f ?_ ⟨kr_ofv3 (by omega), vp_in_nI (by omega) (by decide), ?_⟩)
      · rw [hM' 0 (by decide)]
        exact nI_ge hl (by omega)
      rw [kr_n1, nI_clamp (by omega), kr_ofg3 hM' (by omega)]
      refine ih _ (hk.u _ _ (by decide)) (fun j hj2 => ?_)
      rw [kr_u_s]
      by_cases e : j = l
      · rw [e, kr_upd_s]
      · rw [kr_upd_n _ _ e]; exact hj j (by omega)
  exact main 0 (Nat.zero_le _) μ kr_keep.rf (fun j hj => absurd hj (Nat.not_lt_zero j))
/-- the other end of line l -/
def kx_oe (g : Nat → Nat) (l i : Nat) : Nat := if kr_gk g l 0 = i then kr_gk g l 1 else kr_gk g l 0
theorem kx_oe_ed {g : Nat → Nat} {l i : Nat} (h : kr_gk g l 0 = i ∨ kr_gk g l 1 = i) : kx_ed g l i (kx_oe g l i) := by
  unfold kx_oe
  split
  · rename_i e; exact Or.inl ⟨e, rfl⟩
  · rename_i e; rcases h with h | h
    · exact absurd h e
    · exact Or.inr ⟨h, rfl⟩
theorem c_M_otherEnd {d : Nat} {Q : kr_Q} {μ : kr_M} {g : Nat → Nat} (hM : kr_Mg μ g) (hg : kx_gb g) {l i : Nat} (hl : l < g 0) (hi : i < 9) (k : Q (some (.int (if kr_gk g l 0 = i ∨ kr_gk g l 1 = i then nI (kx_oe g l i) else -4))) μ) : kr_c (d + 2) i_M_otherEnd [.ref 65, .int (nI l), .int (nI i)] μ Q := by
  have hb := hg.2.2 l hl
  have hN := hg.1
  have hl2 : l < 12 := by omega
  refine v_M_otherEnd ?_
  rw [kr_ofg0 hM hl2, kr_ofg1 hM hl2, nI_eq (by omega) (by omega), nI_eq (by omega) (by omega)]
  refine ⟨kr_ofv0 hl2, fun c => ⟨kr_ofv1 hl2, fun c2 => ?_, fun c2 => ⟨kr_ofv0 hl2, ?_⟩⟩, fun c => ⟨kr_ofv1 hl2, ?_⟩⟩
  · rw [if_neg (by omega)] at k; exact k
  · rw [if_pos (Or.inr c2)] at k; unfold kx_oe at k; rw [if_neg c] at k; exact k
  · rw [if_pos (Or.inl c)] at k; unfold kx_oe at k; rw [if_pos c] at k; exact k
theorem kx_lit9 : (1000000000 : Int32) = nI kx_F := rfl
theorem c_M_findLeast {d : Nat} {Q : kr_Q} {μ : kr_M} {g s : Nat → Nat} (hM : kr_Mg μ g) (hg : kx_gb g) (hs : ∀ l, l < g 0 → μ.1 72 l = nI (s l)) (hsb : ∀ l, l < g 0 → s l < 2 ^ 31) {goal : Nat} (hgo : goal < 9) (k : ∀ μ', kr_keep [73] [] μ μ' → (∀ i, i < 9 → μ'.1 73 i = nI (kx_dist g (kx_ms (g 0) s) goal i)) → Q none μ') : kr_c (d + 2) i_M_findLeast [.ref 65, .int (nI goal)] μ Q := by
  obtain ⟨hN, h61, hlb⟩ := id hg
  refine v_M_findLeast ?_
  generalize hS : kx_ms (g 0) s = S at k
  have bit : ∀ l, l < g 0 → (S.testBit l = true ↔ 0 < s l) := fun l hl => by rw [← hS, kx_ms_bit hl, decide_eq_true_iff]
  have rows : ∀ {μ' : kr_M}, kr_keep [73] [] μ μ' → ∀ l, l < g 0 → μ'.1 72 l = nI (s l) := fun hk l hl => by rw [hk.row (by decide) (by decide)]; exact hs l hl
  -- the search
  have search : ∀ n c, kx_sm c 9 ≤ n → kx_Inv 1000 kx_F g S goal c → ∀ μ', kr_keep [73] [] μ μ' → (∀ i, i < 9 → μ'.1 73 i = nI (c i)) → kr_Wp C_M_findLeast (kr_c (d + 1)) Q 33 [some (.ref 65), some (.int (nI goal)), some (.int 1), none, none, none, none, none] [] μ' := by
    intro n
    induction n using Nat.strongRecOn with
    | ind n ihn =>
    intro c hcn hc μ' hk hrow
    refine v_M_findLeast_33 (br_f (by decide) ?_)
    have pass : ∀ l, l ≤ g 0 → ∀ (b : Bool) c' μ', kx_Inv 1000 kx_F g S goal c' → (b = false → (∀ i, i < 9 → c' i = c i) ∧ ∀ l', l' < l → kx_Rel 1000 kx_F g S c l') → (b = true → kx_sm c' 9 < kx_sm c 9) → kr_keep [73] [] μ μ' → (∀ i, i < 9 → μ'.1 73 i = nI (c' i)) → kr_Wp C_M_findLeast (kr_c (d + 1)) Q 41 [some (.ref 65), some (.int (nI goal)), some (.int (nI b.toNat)), some (.int (nI l)), none, none, none, none] [] μ' := by
      refine kr_up (I := fun l => ∀ (b : Bool) c' μ', kx_Inv 1000 kx_F g S goal c' → (b = false → (∀ i, i < 9 → c' i = c i) ∧ ∀ l', l' < l → kx_Rel 1000 kx_F g S c l') → (b = true → kx_sm c' 9 < kx_sm c 9) → kr_keep [73] [] μ μ' → (∀ i, i < 9 → μ'.1 73 i = nI (c' i)) → kr_Wp C_M_findLeast (kr_c (d + 1)) Q 41 [some (.ref 65), some (.int (nI goal)), some (.int (nI b.toNat)), some (.int (nI l)), none, none, none, none] [] μ') (g 0) ?_ ?_
      · intro b c' μ' hc' hf ht hk hrow
        refine v_M_findLeast_41 (br_t ?_ ?_)
        · rw [(hM.kp hk (by decide)) 0 (by decide)]
          exact Int32.le_refl _
        cases b with
        | true => exact ihn (kx_sm c' 9) (by have := ht rfl; omega) c' (Nat.le_refl _) hc' μ' hk hrow
        | false =>
          refine v_M_findLeast_33 (br_t rfl (k μ' hk (fun i hi => ?_)))
          obtain ⟨h1, h2⟩ := hf rfl
          rw [hrow i hi, h1 i hi]
          congr 1
          exact kx_uniq ⟨hc, h2⟩ (kx_dist_is hg S goal) hg i hi
      · intro l hl ih b c' μ' hc' hf ht hk hrow
        have hl2 : l < 12 := by omega
        have hM' := hM.kp hk (by decide)
        refine v_M_findLeast_41 (br_f ?_ ?_)
        · rw [hM' 0 (by decide)]
          exact nI_ge hl (by omega)
        by_cases h0 : 0 < s l
        · -- one side
          have side : ∀ w, w < 2 → ∀ (b : Bool) c' μ', kx_Inv 1000 kx_F g S goal c' → (b = false → ∀ i, i < 9 → c' i = c i) → (b = true → kx_sm c' 9 < kx_sm c 9) → kr_keep [73] [] μ μ' → (∀ i, i < 9 → μ'.1 73 i = nI (c' i)) →
              (∀ (b2 : Bool) c2 μ2, kx_Inv 1000 kx_F g S goal c2 → (b2 = false → b = false ∧ (∀ i, i < 9 → c2 i = c i) ∧ (c (kr_gk g l (1 - w)) < kx_F → c (kr_gk g l w) ≤ c (kr_gk g l (1 - w)) + kx_w 1000 g l)) → (b2 = true → kx_sm c2 9 < kx_sm c 9) → kr_keep [73] [] μ μ2 → (∀ i, i < 9 → μ2.1 73 i = nI (c2 i)) → kr_Wp C_M_findLeast (kr_c (d + 1)) Q 54 [some (.ref 65), some (.int (nI goal)), some (.int (nI b2.toNat)), some (.int (nI l)), some (.int (nI (w + 1))), none, none, none] [] μ2) →
              kr_Wp C_M_findLeast (kr_c (d + 1)) Q 54 [some (.ref 65), some (.int (nI goal)), some (.int (nI b.toNat)), some (.int (nI l)), some (.int (nI w)), none, none, none] [] μ' := by
            intro w hw b c' μ' hc' hf ht hk hrow kk
            have hM' := hM.kp hk (by decide)
            have e1w : (1 : Int32) - nI w = nI (1 - w) := by
              rcases (show w = 0 ∨ w = 1 by omega) with z | z <;> rw [z] <;> rfl
            have hb := hlb l hl
            have hi9 : kr_gk g l w < 9 := by rcases (show w = 0 ∨ w = 1 by omega) with z | z <;> rw [z] <;> omega
            have ht9 : kr_gk g l (1 - w) < 9 := by
              rcases (show w = 0 ∨ w = 1 by omega) with z | z
              · rw [z]; exact hb.2.1
              · rw [z]; exact hb.1
            have he : kx_ed g l (kr_gk g l w) (kr_gk g l (1 - w)) := by
              rcases (show w = 0 ∨ w = 1 by omega) with z | z <;> rw [z]
              · exact Or.inl ⟨rfl, rfl⟩
              · exact Or.inr ⟨rfl, rfl⟩
            have hle1 := hc'.2.1 _ hi9
            have hle2 := hc'.2.1 _ ht9
            unfold kx_F at hle1 hle2
            refine v_M_findLeast_54 (br_f (nI_ge (b := 2) hw (by decide)) ⟨vp_in_nI hl2 (by decide), br_f ?_ ?_⟩)
            · rw [nI_clamp (by omega), rows hk l hl]
              exact nI_nle h0 (hsb l hl)
            rw [e1w, kr_ofg hM' hl2 (by omega), kr_ofg hM' hl2 (by omega), kr_ofg2 hM' hl2, nI_clamp (by omega), nI_clamp (by omega), hrow _ hi9, hrow _ ht9, kr_n1, kx_lit9, nI_eq (by omega) (by decide),
              show (1000 : Int32) = nI 1000 from rfl, pk_mul, nI_add, kr_n1, nI_leI (by omega) (by omega), nI_leI (by omega) (by decide)]
            refine ⟨kr_ofv hl2 (by omega), kr_ofv hl2 (by omega), vp_in_nI ht9 (by decide), fun q => ⟨vp_in_nI ht9 (by decide), kr_ofv2 hl2, vp_in_nI hi9 (by decide), fun q2 => ?_, fun q2 => ⟨vp_in_nI hi9 (by decide), ?_⟩⟩, fun q => ⟨vp_in_nI hi9 (by decide), fun q2 => ?_, fun q2 => ⟨vp_in_nI hi9 (by decide), ?_⟩⟩⟩
            · refine kk b c' μ' hc' (fun z => ⟨z, hf z, fun _ => ?_⟩) ht hk hrow
              rw [← hf z _ hi9, ← hf z _ ht9]
              unfold kx_w
              omega
            · have hFt : c' (kr_gk g l (1 - w)) < kx_F := by unfold kx_F at q ⊢; omega
              have hlt : c' (kr_gk g l (1 - w)) + kx_w 1000 g l < c' (kr_gk g l w) := by unfold kx_w; omega
              have h1 := kx_sm_lt (v := c' (kr_gk g l (1 - w)) + kx_w 1000 g l) hlt 9 hi9
              refine kk true _ _ (hc'.step hg hl ((bit l hl).mpr h0) he hFt hlt) (fun z => by cases z) (fun _ => ?_) (hk.u _ _ (by decide)) (fun i hi => ?_)
              · cases b with
                | true => have := ht rfl; omega
                | false =>
                  have := kx_sm_eq (d := c) (d' := c') 9 (hf rfl)
                  omega
              · rw [kr_u_s]
                by_cases e : i = kr_gk g l w
                · rw [e, kr_upd_s, kx_un_s]
                  unfold kx_w
                  congr 1
                · rw [kr_upd_n _ _ e, kx_un_n _ _ e]; exact hrow i hi
            · refine kk b c' μ' hc' (fun z => ⟨z, hf z, fun y => ?_⟩) ht hk hrow
              rw [← hf z _ ht9] at y
              omega
            · exfalso
              exact q2 hle1
          refine side 0 (by decide) b c' μ' hc' (fun z => (hf z).1) ht hk hrow (fun b2 c2 μ2 hc2 hf2 ht2 hk2 hrow2 => ?_)
          refine side 1 (by decide) b2 c2 μ2 hc2 (fun z => (hf2 z).2.1) ht2 hk2 hrow2 (fun b3 c3 μ3 hc3 hf3 ht3 hk3 hrow3 => ?_)
          refine v_M_findLeast_54 (br_t (Int32.le_refl _) ?_)
          rw [kr_n1]
          refine ih b3 c3 μ3 hc3 (fun z => ⟨(hf3 z).2.1, fun l' hl' => ?_⟩) ht3 hk3 hrow3
          have z2 := (hf3 z).1
          have z1 := (hf2 z2).1
          by_cases e : l' = l
          · subst e
            intro _ i j hij hj
            rcases hij with ⟨h1, h2⟩ | ⟨h1, h2⟩ <;> subst h1 <;> subst h2
            · exact (hf2 z2).2.2 hj
            · exact (hf3 z).2.2 hj
          · exact (hf z1).2 l' (by omega)
        · refine v_M_findLeast_54 (br_f (by decide) ⟨vp_in_nI hl2 (by decide), br_t ?_ ?_⟩)
          · rw [nI_clamp (by omega), rows hk l hl, show s l = 0 by omega]
            exact Int32.le_refl _
          rw [kr_n1]
          refine ih b c' μ' hc' (fun z => ⟨(hf z).1, fun l' hl' => ?_⟩) ht hk hrow
          by_cases e : l' = l
          · subst e
            intro hh
            exact absurd ((bit l' hl).mp hh) h0
          · exact (hf z).2 l' (by omega)
    exact pass 0 (Nat.zero_le _) false c μ' hc (fun _ => ⟨fun _ _ => rfl, fun l' hl' => absurd hl' (Nat.not_lt_zero l')⟩) (fun z => by cases z) hk hrow
  -- the start
  have fill : ∀ n, n ≤ 9 → ∀ μ', kr_keep [73] [] μ μ' → (∀ i, i < n → μ'.1 73 i = nI (kx_d0 kx_F goal i)) → kr_Wp C_M_findLeast (kr_c (d + 1)) Q 2 [some (.ref 65), some (.int (nI goal)), some (.int (nI n)), none, none, none, none, none] [] μ' := by
    refine kr_up (I := fun n => ∀ μ', kr_keep [73] [] μ μ' → (∀ i, i < n → μ'.1 73 i = nI (kx_d0 kx_F goal i)) → kr_Wp C_M_findLeast (kr_c (d + 1)) Q 2 [some (.ref 65), some (.int (nI goal)), some (.int (nI n)), none, none, none, none, none] [] μ') 9 ?_ ?_
    · intro μ' hk hrow
      refine v_M_findLeast_2 (br_t (Int32.le_refl _) ?_)
      exact search _ _ (Nat.le_refl _) (kx_d0_Inv _ _ _ _ _) μ' hk hrow
    · intro n hn ih μ' hk hrow
      refine v_M_findLeast_2 (br_f (nI_ge (b := 9) hn (by decide)) ?_)
      rw [nI_eq (by omega) (by omega), kr_n1, nI_clamp (by omega)]
      have nxt : ∀ v, v = kx_d0 kx_F goal n → kr_Wp C_M_findLeast (kr_c (d + 1)) Q 2 [some (.ref 65), some (.int (nI goal)), some (.int (nI (n + 1))), none, none, none, none, none] [] (kr_u μ' 73 n (nI v)) := by
        intro v hv
        refine ih _ (hk.u _ _ (by decide)) (fun i hi => ?_)
        rw [kr_u_s]
        by_cases e : i = n
        · rw [e, kr_upd_s, hv]
        · rw [kr_upd_n _ _ e]; exact hrow i (by omega)
      refine ⟨fun q => ⟨vp_in_nI hn (by decide), nxt kx_F (by unfold kx_d0; rw [if_neg q])⟩, fun q => ⟨vp_in_nI hn (by decide), nxt 0 (by unfold kx_d0; rw [if_pos q])⟩⟩
  exact fill 0 (by decide) μ kr_keep.rf (fun i hi => absurd hi (Nat.not_lt_zero i))
