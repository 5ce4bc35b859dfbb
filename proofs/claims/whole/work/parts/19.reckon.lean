/-! the first line of a way, on both sides; the class reckons its costs -/
theorem st_Y_beginAnew {d : Nat} {Q : kr_Q} {pc : Nat} {ls : kr_L} {st : List Value} {μ : kr_M} (h : C_Y_beginAnew pc (kr_Wp C_Y_beginAnew (kr_c d) Q) (kr_c d) Q ls st μ) : kr_Wp C_Y_beginAnew (kr_c d) Q pc ls st μ := kr_Wp.step (fun pc => (kr_ok_Y_beginAnew pc).2) (kr_c_om d) h
theorem v_Y_beginAnew {d : Nat} {Q : kr_Q} {μ : kr_M}  (h : kr_Wp C_Y_beginAnew (kr_c d) Q 2 [some (.ref 24), some (.int 0)] [] μ) : kr_c (d + 1) i_Y_beginAnew [.ref 24] μ Q := ⟨rfl, (st_Y_beginAnew (st_Y_beginAnew h))⟩
theorem v_Y_beginAnew_2 {d : Nat} {Q : kr_Q} {μ : kr_M} {a1 : Int32} (h : (((9 : Int32) ≤ a1 → Q none μ) ∧ (¬ ((9 : Int32) ≤ a1) → vp_in a1 9 ∧ kr_Wp C_Y_beginAnew (kr_c d) Q 2 [some (.ref 24), some (.int (a1 + 1))] [] (kr_u μ 26 a1.toNatClampNeg (-1))))) : kr_Wp C_Y_beginAnew (kr_c d) Q 2 [some (.ref 24), some (.int a1)] [] μ := (st_Y_beginAnew (st_Y_beginAnew (st_Y_beginAnew (And.intro (fun z1x => (st_Y_beginAnew (h.1 z1x))) (fun z1x => (st_Y_beginAnew (st_Y_beginAnew (And.intro rfl (st_Y_beginAnew (st_Y_beginAnew (st_Y_beginAnew (And.intro ⟨9, rfl, (h.2 z1x).1⟩ (st_Y_beginAnew (st_Y_beginAnew (h.2 z1x).2))))))))))))))
theorem st_R_otherEnd {d : Nat} {Q : kr_Q} {pc : Nat} {ls : kr_L} {st : List Value} {μ : kr_M} (h : C_R_otherEnd pc (kr_Wp C_R_otherEnd (kr_c d) Q) (kr_c d) Q ls st μ) : kr_Wp C_R_otherEnd (kr_c d) Q pc ls st μ := kr_Wp.step (fun pc => (kr_ok_R_otherEnd pc).2) (kr_c_om d) h
theorem v_R_otherEnd {d : Nat} {Q : kr_Q} {μ : kr_M} {a1 : Int32} {a2 : Int32} (h : vp_in a1 12 ∧ ((¬ (μ.1 2 a1.toNatClampNeg) = a2 → vp_in a1 12 ∧ Q (some (.int (μ.1 2 a1.toNatClampNeg))) μ) ∧ ((μ.1 2 a1.toNatClampNeg) = a2 → vp_in a1 12 ∧ Q (some (.int (μ.1 3 a1.toNatClampNeg))) μ))) : kr_c (d + 1) i_R_otherEnd [.ref 1, .int a1, .int a2] μ Q := ⟨rfl, (st_R_otherEnd (st_R_otherEnd (And.intro rfl (st_R_otherEnd (st_R_otherEnd (And.intro ⟨12, rfl, h.1⟩ (st_R_otherEnd (st_R_otherEnd (And.intro (fun z1x => (st_R_otherEnd (st_R_otherEnd (And.intro rfl (st_R_otherEnd (st_R_otherEnd (And.intro ⟨12, rfl, (h.2.1 z1x).1⟩ (st_R_otherEnd (h.2.1 z1x).2)))))))) (fun z1x => (st_R_otherEnd (st_R_otherEnd (And.intro rfl (st_R_otherEnd (st_R_otherEnd (And.intro ⟨12, rfl, (h.2.2 (Decidable.not_not.mp z1x)).1⟩ (st_R_otherEnd (st_R_otherEnd (h.2.2 (Decidable.not_not.mp z1x)).2))))))))))))))))))⟩
theorem st_Y_reckonTo {d : Nat} {Q : kr_Q} {pc : Nat} {ls : kr_L} {st : List Value} {μ : kr_M} (h : C_Y_reckonTo pc (kr_Wp C_Y_reckonTo (kr_c d) Q) (kr_c d) Q ls st μ) : kr_Wp C_Y_reckonTo (kr_c d) Q pc ls st μ := kr_Wp.step (fun pc => (kr_ok_Y_reckonTo pc).2) (kr_c_om d) h
theorem v_Y_reckonTo {d : Nat} {Q : kr_Q} {μ : kr_M} {a1 : Int32} {a2 : Int32} (h : vp_in a1 9 ∧ ((¬ (μ.1 26 a1.toNatClampNeg) = a2 → vp_in a1 9 ∧ kr_Wp C_Y_reckonTo (kr_c (d + 1)) Q 26 [some (.ref 24), some (.int a1), some (.int a2), some (.int (a1 * (9 : Int32))), some (.int 0), none, none, none, none, none] [] (kr_u μ 26 a1.toNatClampNeg a2)) ∧ ((μ.1 26 a1.toNatClampNeg) = a2 → Q none μ))) : kr_c (d + 2) i_Y_reckonTo [.ref 24, .int a1, .int a2] μ Q := ⟨rfl, (st_Y_reckonTo (st_Y_reckonTo (And.intro rfl (st_Y_reckonTo (st_Y_reckonTo (And.intro ⟨9, rfl, h.1⟩ (st_Y_reckonTo (st_Y_reckonTo (And.intro (fun z1x => (st_Y_reckonTo (st_Y_reckonTo (And.intro rfl (st_Y_reckonTo (st_Y_reckonTo (st_Y_reckonTo (And.intro ⟨9, rfl, (h.2.1 z1x).1⟩ (st_Y_reckonTo (st_Y_reckonTo (st_Y_reckonTo (st_Y_reckonTo (st_Y_reckonTo (st_Y_reckonTo (h.2.1 z1x).2)))))))))))))) (fun z1x => (st_Y_reckonTo (h.2.2 (Decidable.not_not.mp z1x)))))))))))))⟩
theorem v_Y_reckonTo_26 {d : Nat} {Q : kr_Q} {μ : kr_M} {a1 : Int32} {a2 : Int32} {a3 : Int32} {a4 : Int32} (h : (((9 : Int32) ≤ a4 → kr_Wp C_Y_reckonTo (kr_c (d + 1)) Q 66 [some (.ref 24), some (.int a1), some (.int a2), some (.int a3), some (.int 1), some (.int 0), none, none, none, none] [] μ) ∧ (¬ ((9 : Int32) ≤ a4) → ((¬ a4 = a1 → vp_in (a3 + a4) 81 ∧ kr_Wp C_Y_reckonTo (kr_c (d + 1)) Q 26 [some (.ref 24), some (.int a1), some (.int a2), some (.int a3), some (.int (a4 + 1)), none, none, none, none, none] [] (kr_u μ 25 ((a3 + a4).toNatClampNeg) 1048576)) ∧ (a4 = a1 → vp_in (a3 + a4) 81 ∧ kr_Wp C_Y_reckonTo (kr_c (d + 1)) Q 26 [some (.ref 24), some (.int a1), some (.int a2), some (.int a3), some (.int (a4 + 1)), none, none, none, none, none] [] (kr_u μ 25 ((a3 + a4).toNatClampNeg) 0)))))) : kr_Wp C_Y_reckonTo (kr_c (d + 1)) Q 26 [some (.ref 24), some (.int a1), some (.int a2), some (.int a3), some (.int a4), none, none, none, none, none] [] μ := (st_Y_reckonTo (st_Y_reckonTo (st_Y_reckonTo (And.intro (fun z1x => (st_Y_reckonTo (st_Y_reckonTo (st_Y_reckonTo (st_Y_reckonTo (h.1 z1x)))))) (fun z1x => (st_Y_reckonTo (st_Y_reckonTo (And.intro rfl (st_Y_reckonTo (st_Y_reckonTo (st_Y_reckonTo (st_Y_reckonTo (st_Y_reckonTo (st_Y_reckonTo (And.intro (fun z2x => (st_Y_reckonTo (st_Y_reckonTo (And.intro ⟨81, rfl, ((h.2 z1x).1 z2x).1⟩ (st_Y_reckonTo (st_Y_reckonTo ((h.2 z1x).1 z2x).2)))))) (fun z2x => (st_Y_reckonTo (st_Y_reckonTo (st_Y_reckonTo (And.intro ⟨81, rfl, ((h.2 z1x).2 (Decidable.not_not.mp z2x)).1⟩ (st_Y_reckonTo (st_Y_reckonTo ((h.2 z1x).2 (Decidable.not_not.mp z2x)).2))))))))))))))))))))))
theorem v_Y_reckonTo_66 {d : Nat} {Q : kr_Q} {μ : kr_M} {a1 : Int32} {a2 : Int32} {a3 : Int32} {a4 : Int32} {a5 : Int32} (h : (((9 : Int32) ≤ a5 → Q none μ) ∧ (¬ ((9 : Int32) ≤ a5) → ((a4 = 0 → Q none μ) ∧ (¬ (a4 = 0) → kr_Wp C_Y_reckonTo (kr_c (d + 1)) Q 84 [some (.ref 24), some (.int a1), some (.int a2), some (.int a3), some (.int 0), some (.int a5), some (.int 0), none, none, none] [] μ))))) : kr_Wp C_Y_reckonTo (kr_c (d + 1)) Q 66 [some (.ref 24), some (.int a1), some (.int a2), some (.int a3), some (.int a4), some (.int a5), none, none, none, none] [] μ := (st_Y_reckonTo (st_Y_reckonTo (st_Y_reckonTo (And.intro (fun z1x => (st_Y_reckonTo (h.1 z1x))) (fun z1x => (st_Y_reckonTo (st_Y_reckonTo (And.intro (fun z2x => (st_Y_reckonTo ((h.2 z1x).1 z2x))) (fun z2x => (st_Y_reckonTo (st_Y_reckonTo (st_Y_reckonTo (st_Y_reckonTo ((h.2 z1x).2 z2x))))))))))))))
theorem v_Y_reckonTo_84 {d : Nat} {Q : kr_Q} {μ : kr_M} {a1 : Int32} {a2 : Int32} {a3 : Int32} {a4 : Int32} {a5 : Int32} {a6 : Int32} (h : (((μ.1 1 2) ≤ a6 → kr_Wp C_Y_reckonTo (kr_c (d + 1)) Q 66 [some (.ref 24), some (.int a1), some (.int a2), some (.int a3), some (.int a4), some (.int (a5 + 1)), none, none, none, none] [] μ) ∧ (¬ ((μ.1 1 2) ≤ a6) → vp_in a6 12 ∧ vp_in a6 12 ∧ ((¬ (¬ (a2 >>> (a6 &&& 31)) &&& 1 = 0) → kr_Wp C_Y_reckonTo (kr_c (d + 1)) Q 84 [some (.ref 24), some (.int a1), some (.int a2), some (.int a3), some (.int a4), some (.int a5), some (.int (a6 + 1)), none, none, none] [] μ) ∧ (¬ (a2 >>> (a6 &&& 31)) &&& 1 = 0 → vp_in (a3 + (μ.1 2 a6.toNatClampNeg)) 81 ∧ vp_in (a3 + (μ.1 3 a6.toNatClampNeg)) 81 ∧ vp_in a6 12 ∧ (((if 0 ≤ ((μ.1 25 ((a3 + (μ.1 2 a6.toNatClampNeg)).toNatClampNeg)) - (μ.1 25 ((a3 + (μ.1 3 a6.toNatClampNeg)).toNatClampNeg))) then ((μ.1 25 ((a3 + (μ.1 2 a6.toNatClampNeg)).toNatClampNeg)) - (μ.1 25 ((a3 + (μ.1 3 a6.toNatClampNeg)).toNatClampNeg))) else 0 - ((μ.1 25 ((a3 + (μ.1 2 a6.toNatClampNeg)).toNatClampNeg)) - (μ.1 25 ((a3 + (μ.1 3 a6.toNatClampNeg)).toNatClampNeg)))) ≤ ((μ.1 4 a6.toNatClampNeg) * 16 + 1) → kr_Wp C_Y_reckonTo (kr_c (d + 1)) Q 84 [some (.ref 24), some (.int a1), some (.int a2), some (.int a3), some (.int a4), some (.int a5), some (.int (a6 + 1)), none, none, none] [] μ) ∧ (¬ ((if 0 ≤ ((μ.1 25 ((a3 + (μ.1 2 a6.toNatClampNeg)).toNatClampNeg)) - (μ.1 25 ((a3 + (μ.1 3 a6.toNatClampNeg)).toNatClampNeg))) then ((μ.1 25 ((a3 + (μ.1 2 a6.toNatClampNeg)).toNatClampNeg)) - (μ.1 25 ((a3 + (μ.1 3 a6.toNatClampNeg)).toNatClampNeg))) else 0 - ((μ.1 25 ((a3 + (μ.1 2 a6.toNatClampNeg)).toNatClampNeg)) - (μ.1 25 ((a3 + (μ.1 3 a6.toNatClampNeg)).toNatClampNeg)))) ≤ ((μ.1 4 a6.toNatClampNeg) * 16 + 1)) → vp_in (a3 + (μ.1 2 a6.toNatClampNeg)) 81 ∧ vp_in (a3 + (μ.1 3 a6.toNatClampNeg)) 81 ∧ vp_in a6 12 ∧ vp_in (a3 + (μ.1 2 a6.toNatClampNeg)) 81 ∧ vp_in (a3 + (μ.1 2 a6.toNatClampNeg)) 81 ∧ vp_in (a3 + (μ.1 3 a6.toNatClampNeg)) 81 ∧ vp_in (a3 + (μ.1 3 a6.toNatClampNeg)) 81 ∧ kr_Wp C_Y_reckonTo (kr_c (d + 1)) Q 84 [some (.ref 24), some (.int a1), some (.int a2), some (.int a3), some (.int 1), some (.int a5), some (.int (a6 + 1)), none, none, none] [] (kr_u (kr_u μ 25 ((a3 + (μ.1 2 a6.toNatClampNeg)).toNatClampNeg) (if ((if (μ.1 25 ((a3 + (μ.1 3 a6.toNatClampNeg)).toNatClampNeg)) < (μ.1 25 ((a3 + (μ.1 2 a6.toNatClampNeg)).toNatClampNeg)) then (μ.1 25 ((a3 + (μ.1 3 a6.toNatClampNeg)).toNatClampNeg)) else (μ.1 25 ((a3 + (μ.1 2 a6.toNatClampNeg)).toNatClampNeg))) + ((μ.1 4 a6.toNatClampNeg) * 16 + 1)) < (μ.1 25 ((a3 + (μ.1 2 a6.toNatClampNeg)).toNatClampNeg)) then ((if (μ.1 25 ((a3 + (μ.1 3 a6.toNatClampNeg)).toNatClampNeg)) < (μ.1 25 ((a3 + (μ.1 2 a6.toNatClampNeg)).toNatClampNeg)) then (μ.1 25 ((a3 + (μ.1 3 a6.toNatClampNeg)).toNatClampNeg)) else (μ.1 25 ((a3 + (μ.1 2 a6.toNatClampNeg)).toNatClampNeg))) + ((μ.1 4 a6.toNatClampNeg) * 16 + 1)) else (μ.1 25 ((a3 + (μ.1 2 a6.toNatClampNeg)).toNatClampNeg)))) 25 ((a3 + (μ.1 3 a6.toNatClampNeg)).toNatClampNeg) (if ((if (μ.1 25 ((a3 + (μ.1 3 a6.toNatClampNeg)).toNatClampNeg)) < (μ.1 25 ((a3 + (μ.1 2 a6.toNatClampNeg)).toNatClampNeg)) then (μ.1 25 ((a3 + (μ.1 3 a6.toNatClampNeg)).toNatClampNeg)) else (μ.1 25 ((a3 + (μ.1 2 a6.toNatClampNeg)).toNatClampNeg))) + ((μ.1 4 a6.toNatClampNeg) * 16 + 1)) < (upd (μ.1 25) ((a3 + (μ.1 2 a6.toNatClampNeg)).toNatClampNeg) (if ((if (μ.1 25 ((a3 + (μ.1 3 a6.toNatClampNeg)).toNatClampNeg)) < (μ.1 25 ((a3 + (μ.1 2 a6.toNatClampNeg)).toNatClampNeg)) then (μ.1 25 ((a3 + (μ.1 3 a6.toNatClampNeg)).toNatClampNeg)) else (μ.1 25 ((a3 + (μ.1 2 a6.toNatClampNeg)).toNatClampNeg))) + ((μ.1 4 a6.toNatClampNeg) * 16 + 1)) < (μ.1 25 ((a3 + (μ.1 2 a6.toNatClampNeg)).toNatClampNeg)) then ((if (μ.1 25 ((a3 + (μ.1 3 a6.toNatClampNeg)).toNatClampNeg)) < (μ.1 25 ((a3 + (μ.1 2 a6.toNatClampNeg)).toNatClampNeg)) then (μ.1 25 ((a3 + (μ.1 3 a6.toNatClampNeg)).toNatClampNeg)) else (μ.1 25 ((a3 + (μ.1 2 a6.toNatClampNeg)).toNatClampNeg))) + ((μ.1 4 a6.toNatClampNeg) * 16 + 1)) else (μ.1 25 ((a3 + (μ.1 2 a6.toNatClampNeg)).toNatClampNeg))) ((a3 + (μ.1 3 a6.toNatClampNeg)).toNatClampNeg)) then ((if (μ.1 25 ((a3 + (μ.1 3 a6.toNatClampNeg)).toNatClampNeg)) < (μ.1 25 ((a3 + (μ.1 2 a6.toNatClampNeg)).toNatClampNeg)) then (μ.1 25 ((a3 + (μ.1 3 a6.toNatClampNeg)).toNatClampNeg)) else (μ.1 25 ((a3 + (μ.1 2 a6.toNatClampNeg)).toNatClampNeg))) + ((μ.1 4 a6.toNatClampNeg) * 16 + 1)) else (upd (μ.1 25) ((a3 + (μ.1 2 a6.toNatClampNeg)).toNatClampNeg) (if ((if (μ.1 25 ((a3 + (μ.1 3 a6.toNatClampNeg)).toNatClampNeg)) < (μ.1 25 ((a3 + (μ.1 2 a6.toNatClampNeg)).toNatClampNeg)) then (μ.1 25 ((a3 + (μ.1 3 a6.toNatClampNeg)).toNatClampNeg)) else (μ.1 25 ((a3 + (μ.1 2 a6.toNatClampNeg)).toNatClampNeg))) + ((μ.1 4 a6.toNatClampNeg) * 16 + 1)) < (μ.1 25 ((a3 + (μ.1 2 a6.toNatClampNeg)).toNatClampNeg)) then ((if (μ.1 25 ((a3 + (μ.1 3 a6.toNatClampNeg)).toNatClampNeg)) < (μ.1 25 ((a3 + (μ.1 2 a6.toNatClampNeg)).toNatClampNeg)) then (μ.1 25 ((a3 + (μ.1 3 a6.toNatClampNeg)).toNatClampNeg)) else (μ.1 25 ((a3 + (μ.1 2 a6.toNatClampNeg)).toNatClampNeg))) + ((μ.1 4 a6.toNatClampNeg) * 16 + 1)) else (μ.1 25 ((a3 + (μ.1 2 a6.toNatClampNeg)).toNatClampNeg))) ((a3 + (μ.1 3 a6.toNatClampNeg)).toNatClampNeg))))))))))) : kr_Wp C_Y_reckonTo (kr_c (d + 1)) Q 84 [some (.ref 24), some (.int a1), some (.int a2), some (.int a3), some (.int a4), some (.int a5), some (.int a6), none, none, none] [] μ := (st_Y_reckonTo (st_Y_reckonTo (st_Y_reckonTo (And.intro rfl (st_Y_reckonTo (And.intro rfl (st_Y_reckonTo (And.intro (fun z1x => (st_Y_reckonTo (st_Y_reckonTo (kr_Wp.lm [true, true, true, true, true, true, false, false, false, false] (h.1 z1x))))) (fun z1x => (st_Y_reckonTo (st_Y_reckonTo (st_Y_reckonTo (And.intro rfl (st_Y_reckonTo (And.intro rfl (st_Y_reckonTo (st_Y_reckonTo (And.intro ⟨12, rfl, (h.2 z1x).1⟩ (st_Y_reckonTo (st_Y_reckonTo (st_Y_reckonTo (st_Y_reckonTo (st_Y_reckonTo (And.intro rfl (st_Y_reckonTo (And.intro rfl (st_Y_reckonTo (st_Y_reckonTo (And.intro ⟨12, rfl, (h.2 z1x).2.1⟩ (st_Y_reckonTo (st_Y_reckonTo (st_Y_reckonTo (st_Y_reckonTo (st_Y_reckonTo (c_C_has (st_Y_reckonTo (And.intro (fun z2x => (st_Y_reckonTo (st_Y_reckonTo (kr_Wp.lm [true, true, true, true, true, true, true, false, false, false] ((h.2 z1x).2.2.1 (kr_b0 z2x)))))) (fun z2x => (st_Y_reckonTo (st_Y_reckonTo (And.intro rfl (st_Y_reckonTo (st_Y_reckonTo (And.intro ⟨81, rfl, ((h.2 z1x).2.2.2 (kr_b1 z2x)).1⟩ (st_Y_reckonTo (st_Y_reckonTo (And.intro rfl (st_Y_reckonTo (st_Y_reckonTo (And.intro ⟨81, rfl, ((h.2 z1x).2.2.2 (kr_b1 z2x)).2.1⟩ (st_Y_reckonTo (st_Y_reckonTo (st_Y_reckonTo (st_Y_reckonTo (st_Y_reckonTo (And.intro rfl (c_Y_costOver ((h.2 z1x).2.2.2 (kr_b1 z2x)).2.2.1 (st_Y_reckonTo (And.intro (fun z3x => (st_Y_reckonTo (st_Y_reckonTo (kr_Wp.lm [true, true, true, true, true, true, true, false, false, false] (((h.2 z1x).2.2.2 (kr_b1 z2x)).2.2.2.1 z3x))))) (fun z3x => (st_Y_reckonTo (st_Y_reckonTo (And.intro rfl (st_Y_reckonTo (st_Y_reckonTo (And.intro ⟨81, rfl, (((h.2 z1x).2.2.2 (kr_b1 z2x)).2.2.2.2 z3x).1⟩ (st_Y_reckonTo (st_Y_reckonTo (And.intro rfl (st_Y_reckonTo (st_Y_reckonTo (And.intro ⟨81, rfl, (((h.2 z1x).2.2.2 (kr_b1 z2x)).2.2.2.2 z3x).2.1⟩ (st_Y_reckonTo (st_Y_reckonTo (st_Y_reckonTo (st_Y_reckonTo (And.intro rfl (c_Y_costOver (((h.2 z1x).2.2.2 (kr_b1 z2x)).2.2.2.2 z3x).2.2.1 (st_Y_reckonTo (st_Y_reckonTo (st_Y_reckonTo (st_Y_reckonTo (And.intro rfl (st_Y_reckonTo (st_Y_reckonTo (st_Y_reckonTo (And.intro rfl (st_Y_reckonTo (st_Y_reckonTo (And.intro ⟨81, rfl, (((h.2 z1x).2.2.2 (kr_b1 z2x)).2.2.2.2 z3x).2.2.2.1⟩ (st_Y_reckonTo (st_Y_reckonTo (st_Y_reckonTo (And.intro ⟨81, rfl, (((h.2 z1x).2.2.2 (kr_b1 z2x)).2.2.2.2 z3x).2.2.2.2.1⟩ (st_Y_reckonTo (st_Y_reckonTo (And.intro rfl (st_Y_reckonTo (st_Y_reckonTo (st_Y_reckonTo (And.intro rfl (st_Y_reckonTo (st_Y_reckonTo (And.intro ⟨81, rfl, (((h.2 z1x).2.2.2 (kr_b1 z2x)).2.2.2.2 z3x).2.2.2.2.2.1⟩ (st_Y_reckonTo (st_Y_reckonTo (st_Y_reckonTo (And.intro ⟨81, rfl, (((h.2 z1x).2.2.2 (kr_b1 z2x)).2.2.2.2 z3x).2.2.2.2.2.2.1⟩ (st_Y_reckonTo (st_Y_reckonTo (st_Y_reckonTo (st_Y_reckonTo (kr_Wp.lm [true, true, true, true, true, true, true, false, false, false] (((h.2 z1x).2.2.2 (kr_b1 z2x)).2.2.2.2 z3x).2.2.2.2.2.2.2)))))))))))))))))))))))))))))))))))))))))))))))))))))))))))))))))))))))))))))))))))))))))))))))))))))))))))))))))
theorem st_Y_firstLine {d : Nat} {Q : kr_Q} {pc : Nat} {ls : kr_L} {st : List Value} {μ : kr_M} (h : C_Y_firstLine pc (kr_Wp C_Y_firstLine (kr_c d) Q) (kr_c d) Q ls st μ) : kr_Wp C_Y_firstLine (kr_c d) Q pc ls st μ := kr_Wp.step (fun pc => (kr_ok_Y_firstLine pc).2) (kr_c_om d) h
theorem v_Y_firstLine {d : Nat} {Q : kr_Q} {μ : kr_M} {a1 : Int32} {a2 : Int32} {a3 : Int32} (h : kr_c (d + 2) i_Y_reckonTo [.ref 24, .int a2, .int a3] μ (kr_bk (kr_Wp C_Y_firstLine (kr_c (d + 2)) Q) 6 [some (.ref 24), some (.int a1), some (.int a2), some (.int a3), none, none, none] [])) : kr_c (d + 3) i_Y_firstLine [.ref 24, .int a1, .int a2, .int a3] μ Q := ⟨rfl, (st_Y_firstLine (st_Y_firstLine (st_Y_firstLine (st_Y_firstLine (And.intro rfl h)))))⟩
theorem v_Y_firstLine_32 {d : Nat} {Q : kr_Q} {μ : kr_M} {a1 : Int32} {a2 : Int32} {a3 : Int32} {a4 : Int32} {a5 : Int32} (h : (((μ.1 1 2) ≤ a5 → Q (some (.int (-4))) μ) ∧ (¬ ((μ.1 1 2) ≤ a5) → ((¬ (¬ (a3 >>> (a5 &&& 31)) &&& 1 = 0) → kr_Wp C_Y_firstLine (kr_c (d + 2)) Q 32 [some (.ref 24), some (.int a1), some (.int a2), some (.int a3), some (.int a4), some (.int (a5 + 1)), none] [] μ) ∧ (¬ (a3 >>> (a5 &&& 31)) &&& 1 = 0 → vp_in a5 12 ∧ (((μ.1 2 a5.toNatClampNeg) = a1 → kr_c (d + 2) i_R_otherEnd [.ref 1, .int a5, .int a1] μ (kr_bk (kr_Wp C_Y_firstLine (kr_c (d + 2)) Q) 95 [some (.ref 24), some (.int a1), some (.int a2), some (.int a3), some (.int a4), some (.int a5), none] [.int (a2 * (9 : Int32))])) ∧ (¬ ((μ.1 2 a5.toNatClampNeg) = a1) → vp_in a5 12 ∧ ((¬ (μ.1 3 a5.toNatClampNeg) = a1 → kr_Wp C_Y_firstLine (kr_c (d + 2)) Q 32 [some (.ref 24), some (.int a1), some (.int a2), some (.int a3), some (.int a4), some (.int (a5 + 1)), none] [] μ) ∧ ((μ.1 3 a5.toNatClampNeg) = a1 → kr_c (d + 2) i_R_otherEnd [.ref 1, .int a5, .int a1] μ (kr_bk (kr_Wp C_Y_firstLine (kr_c (d + 2)) Q) 95 [some (.ref 24), some (.int a1), some (.int a2), some (.int a3), some (.int a4), some (.int a5), none] [.int (a2 * (9 : Int32))])))))))))) : kr_Wp C_Y_firstLine (kr_c (d + 2)) Q 32 [some (.ref 24), some (.int a1), some (.int a2), some (.int a3), some (.int a4), some (.int a5), none] [] μ := (st_Y_firstLine (st_Y_firstLine (st_Y_firstLine (And.intro rfl (st_Y_firstLine (And.intro rfl (st_Y_firstLine (And.intro (fun z1x => (st_Y_firstLine (st_Y_firstLine (h.1 z1x)))) (fun z1x => (st_Y_firstLine (st_Y_firstLine (st_Y_firstLine (c_C_has (st_Y_firstLine (And.intro (fun z2x => (st_Y_firstLine (st_Y_firstLine ((h.2 z1x).1 (kr_b0 z2x))))) (fun z2x => (st_Y_firstLine (st_Y_firstLine (And.intro rfl (st_Y_firstLine (And.intro rfl (st_Y_firstLine (st_Y_firstLine (And.intro ⟨12, rfl, ((h.2 z1x).2 (kr_b1 z2x)).1⟩ (st_Y_firstLine (st_Y_firstLine (And.intro (fun z3x => (st_Y_firstLine (st_Y_firstLine (st_Y_firstLine (st_Y_firstLine (st_Y_firstLine (And.intro rfl (st_Y_firstLine (st_Y_firstLine (st_Y_firstLine (And.intro rfl (((h.2 z1x).2 (kr_b1 z2x)).2.1 z3x)))))))))))) (fun z3x => (st_Y_firstLine (st_Y_firstLine (And.intro rfl (st_Y_firstLine (And.intro rfl (st_Y_firstLine (st_Y_firstLine (And.intro ⟨12, rfl, (((h.2 z1x).2 (kr_b1 z2x)).2.2 z3x).1⟩ (st_Y_firstLine (st_Y_firstLine (And.intro (fun z4x => (st_Y_firstLine (st_Y_firstLine ((((h.2 z1x).2 (kr_b1 z2x)).2.2 z3x).2.1 z4x)))) (fun z4x => (st_Y_firstLine (st_Y_firstLine (st_Y_firstLine (st_Y_firstLine (st_Y_firstLine (And.intro rfl (st_Y_firstLine (st_Y_firstLine (st_Y_firstLine (And.intro rfl ((((h.2 z1x).2 (kr_b1 z2x)).2.2 z3x).2.2 (Decidable.not_not.mp z4x))))))))))))))))))))))))))))))))))))))))))))))))))))
theorem v_Y_firstLine_6 {d : Nat} {Q : kr_Q} {μ : kr_M} {a1 : Int32} {a2 : Int32} {a3 : Int32} (h : vp_in ((a2 * (9 : Int32)) + a1) 81 ∧ (((μ.1 25 (((a2 * (9 : Int32)) + a1).toNatClampNeg)) < 1048576 → kr_Wp C_Y_firstLine (kr_c (d + 2)) Q 32 [some (.ref 24), some (.int a1), some (.int a2), some (.int a3), some (.int (μ.1 25 (((a2 * (9 : Int32)) + a1).toNatClampNeg))), some (.int 0), none] [] μ) ∧ (¬ ((μ.1 25 (((a2 * (9 : Int32)) + a1).toNatClampNeg)) < 1048576) → Q (some (.int (-4))) μ))) : kr_Wp C_Y_firstLine (kr_c (d + 2)) Q 6 [some (.ref 24), some (.int a1), some (.int a2), some (.int a3), none, none, none] [] μ := (st_Y_firstLine (st_Y_firstLine (And.intro rfl (st_Y_firstLine (st_Y_firstLine (st_Y_firstLine (st_Y_firstLine (st_Y_firstLine (st_Y_firstLine (And.intro ⟨81, rfl, h.1⟩ (st_Y_firstLine (st_Y_firstLine (st_Y_firstLine (st_Y_firstLine (And.intro (fun z1x => (st_Y_firstLine (st_Y_firstLine (h.2.1 z1x)))) (fun z1x => (st_Y_firstLine (st_Y_firstLine (h.2.2 z1x)))))))))))))))))))
theorem v_Y_firstLine_95 {d : Nat} {Q : kr_Q} {μ : kr_M} {a1 : Int32} {a2 : Int32} {a3 : Int32} {a4 : Int32} {a5 : Int32} {r : Int32} {s0 : Int32} (h : vp_in (s0 + r) 81 ∧ vp_in a5 12 ∧ ((¬ ((μ.1 25 ((s0 + r).toNatClampNeg)) + ((μ.1 4 a5.toNatClampNeg) * 16 + 1)) = a4 → kr_Wp C_Y_firstLine (kr_c (d + 2)) Q 32 [some (.ref 24), some (.int a1), some (.int a2), some (.int a3), some (.int a4), some (.int (a5 + 1)), none] [] μ) ∧ (((μ.1 25 ((s0 + r).toNatClampNeg)) + ((μ.1 4 a5.toNatClampNeg) * 16 + 1)) = a4 → Q (some (.int a5)) μ))) : kr_Wp C_Y_firstLine (kr_c (d + 2)) Q 95 [some (.ref 24), some (.int a1), some (.int a2), some (.int a3), some (.int a4), some (.int a5), none] [.int r, .int s0] μ := (st_Y_firstLine (st_Y_firstLine (st_Y_firstLine (st_Y_firstLine (And.intro rfl (st_Y_firstLine (st_Y_firstLine (And.intro ⟨81, rfl, h.1⟩ (st_Y_firstLine (st_Y_firstLine (st_Y_firstLine (And.intro rfl (c_Y_costOver h.2.1 (st_Y_firstLine (st_Y_firstLine (st_Y_firstLine (And.intro (fun z1x => (st_Y_firstLine (st_Y_firstLine (kr_Wp.lm [true, true, true, true, true, true, false] (h.2.2.1 z1x))))) (fun z1x => (st_Y_firstLine (st_Y_firstLine (h.2.2.2 (Decidable.not_not.mp z1x))))))))))))))))))))))
def kx_ff (P : Nat → Bool) : Nat → Nat → Nat
  | 0, i => i
  | n + 1, i => if P i then i else kx_ff P n (i + 1)
theorem kx_ff_le (P : Nat → Bool) : ∀ n i, i ≤ kx_ff P n i ∧ kx_ff P n i ≤ i + n := by
  intro n
  induction n with
  | zero => intro i; exact ⟨Nat.le_refl _, Nat.le_refl _⟩
  | succ n ih =>
    intro i
    unfold kx_ff
    split
    · omega
    · have := ih (i + 1); omega
theorem kx_ff_no (P : Nat → Bool) : ∀ n i j, i ≤ j → j < kx_ff P n i → P j = false := by
  intro n
  induction n with
  | zero => intro i j h1 h2; unfold kx_ff at h2; omega
  | succ n ih =>
    intro i j h1 h2
    unfold kx_ff at h2
    split at h2
    · omega
    · rename_i hb
      by_cases e : j = i
      · rw [e]; simpa using hb
      · exact ih (i + 1) j (by omega) h2
theorem kx_ff_yes (P : Nat → Bool) : ∀ n i, kx_ff P n i < i + n → P (kx_ff P n i) = true := by
  intro n
  induction n with
  | zero => intro i h1; unfold kx_ff at h1; omega
  | succ n ih =>
    intro i h1
    unfold kx_ff at h1 ⊢
    split
    · assumption
    · rename_i hb
      rw [if_neg hb] at h1
      exact ih (i + 1) (by omega)
/-- line l begins a shortest way from at -/
def kx_hit (g : Nat → Nat) (S : Nat) (d : Nat → Nat) (at_ l : Nat) : Bool := S.testBit l && ((kr_gk g l 0 == at_ || kr_gk g l 1 == at_) && (decide (d (kx_oe g l at_) < kx_F) && (d (kx_oe g l at_) + kx_w 1000 g l == d at_)))
/-- the first such line; g 0: none -/
noncomputable def kx_nl (g : Nat → Nat) (S goal at_ : Nat) : Nat := kx_ff (kx_hit g S (kx_dist g S goal) at_) (g 0) 0
theorem kx_nl_le (g : Nat → Nat) (S goal at_ : Nat) : kx_nl g S goal at_ ≤ g 0 := by
  have := (kx_ff_le (kx_hit g S (kx_dist g S goal) at_) (g 0) 0).2
  unfold kx_nl
  omega
theorem kx_nl_no {g : Nat → Nat} {S goal at_ l : Nat} (h : l < kx_nl g S goal at_) : kx_hit g S (kx_dist g S goal) at_ l = false := kx_ff_no _ _ 0 l (Nat.zero_le _) h
theorem kx_nl_yes {g : Nat → Nat} {S goal at_ : Nat} (h : kx_nl g S goal at_ < g 0) : kx_hit g S (kx_dist g S goal) at_ (kx_nl g S goal at_) = true := kx_ff_yes _ _ 0 (by unfold kx_nl at h; omega)
/-- as an answer -/
noncomputable def kx_nlI (g : Nat → Nat) (S goal at_ : Nat) : Int32 := if kx_nl g S goal at_ < g 0 then nI (kx_nl g S goal at_) else -4
theorem kx_oe_lt {g : Nat → Nat} (hg : kx_gb g) {l i : Nat} (hl : l < g 0) : kx_oe g l i < 9 := by
  have := hg.2.2 l hl
  unfold kx_oe
  split <;> omega
theorem kx_dist_le {g : Nat → Nat} (hg : kx_gb g) (S goal : Nat) {i : Nat} (hi : i < 9) : kx_dist g S goal i ≤ kx_F := (kx_dist_is hg S goal).1.2.1 i hi
theorem c_M_firstLine {d : Nat} {Q : kr_Q} {μ : kr_M} {g s : Nat → Nat} (hM : kr_Mg μ g) (hg : kx_gb g) (hs : ∀ l, l < g 0 → μ.1 72 l = nI (s l)) (hsb : ∀ l, l < g 0 → s l < 2 ^ 31) {goal at_ : Nat} (ha : at_ < 9) (hr : ∀ i, i < 9 → μ.1 73 i = nI (kx_dist g (kx_ms (g 0) s) goal i)) (k : Q (some (.int (kx_nlI g (kx_ms (g 0) s) goal at_))) μ) : kr_c (d + 3) i_M_firstLine [.ref 65, .int (nI at_)] μ Q := by
  obtain ⟨hN, h61, hlb⟩ := id hg
  refine v_M_firstLine ?_
  generalize hS : kx_ms (g 0) s = S at k hr
  have bit : ∀ l, l < g 0 → S.testBit l = decide (0 < s l) := fun l hl => by rw [← hS, kx_ms_bit hl]
  have hda := kx_dist_le hg S goal ha
  have dec : ∀ l, l < g 0 → l ≤ kx_nl g S goal at_ → (kx_hit g S (kx_dist g S goal) at_ l = false → kr_Wp C_M_firstLine (kr_c (d + 2)) Q 2 [some (.ref 65), some (.int (nI at_)), some (.int (nI (l + 1))), none] [] μ) → (kx_hit g S (kx_dist g S goal) at_ l = true → Q (some (.int (nI l))) μ) → kr_Wp C_M_firstLine (kr_c (d + 2)) Q 2 [some (.ref 65), some (.int (nI at_)), some (.int (nI l)), none] [] μ := by
    intro l hl hle hno hyes
    have hl2 : l < 12 := by omega
    have hb := hlb l hl
    refine v_M_firstLine_2 (br_f ?_ ⟨vp_in_nI hl2 (by decide), ?_⟩)
    · rw [hM 0 (by decide)]
      exact nI_ge hl (by omega)
    rw [kr_n1, nI_clamp (by omega), hs l hl]
    by_cases h0 : 0 < s l
    · refine br_f (nI_nle h0 (hsb l hl)) (c_M_otherEnd hM hg hl ha (v_M_firstLine_27 ?_))
      by_cases he : kr_gk g l 0 = at_ ∨ kr_gk g l 1 = at_
      · have ho := kx_oe_lt hg (i := at_) hl
        have hdo := kx_dist_le hg S goal ho
        unfold kx_F at hdo hda
        rw [if_pos he]
        refine br_f ?_ ⟨vp_in_nI ho (by decide), ?_⟩
        · intro z
          have := congrArg Int32.toInt z
          rw [nI_toInt (by omega)] at this
          have h4 : (-4 : Int32).toInt = -4 := rfl
          omega
        rw [nI_clamp (by omega), nI_clamp (by omega), hr _ ho, hr _ ha, kr_ofg2 hM hl2, kx_lit9, nI_eq (by omega) (by decide), show (1000 : Int32) = nI 1000 from rfl, pk_mul, nI_add, kr_n1, kr_n1, nI_eq (by omega) (by omega)]
        have hhit : kx_hit g S (kx_dist g S goal) at_ l = true ↔ (kx_dist g S goal (kx_oe g l at_) < kx_F ∧ kx_dist g S goal (kx_oe g l at_) + kx_w 1000 g l = kx_dist g S goal at_) := by
          unfold kx_hit
          rw [bit l hl]
          simp [h0, he]
        refine ⟨fun c => hno ?_, fun c => ⟨vp_in_nI ho (by decide), kr_ofv2 hl2, vp_in_nI ha (by decide), fun c2 => hno ?_, fun c2 => hyes ?_⟩⟩
        · rw [Bool.eq_false_iff, ne_eq, hhit]; omega
        · rw [Bool.eq_false_iff, ne_eq, hhit]; unfold kx_w; omega
        · rw [hhit]; unfold kx_w kx_F at *; omega
      · rw [if_neg he]
        refine br_t rfl ?_
        rw [kr_n1]
        refine hno ?_
        unfold kx_hit
        simp at he
        simp [he]
    · refine br_t ?_ (hno ?_)
      · rw [show s l = 0 by omega]; exact Int32.le_refl _
      · unfold kx_hit
        rw [bit l hl]
        simp [h0]
  have hle := kx_nl_le g S goal at_
  refine kr_up (I := fun l => kr_Wp C_M_firstLine (kr_c (d + 2)) Q 2 [some (.ref 65), some (.int (nI at_)), some (.int (nI l)), none] [] μ) (kx_nl g S goal at_) ?_ ?_ 0 (Nat.zero_le _)
  · rcases Nat.lt_or_ge (kx_nl g S goal at_) (g 0) with h | h
    · refine dec _ h (Nat.le_refl _) (fun z => ?_) (fun _ => ?_)
      · rw [kx_nl_yes h] at z; cases z
      · unfold kx_nlI at k; rw [if_pos h] at k; exact k
    · refine v_M_firstLine_2 (br_t ?_ ?_)
      · rw [hM 0 (by decide)]
        exact nI_le h (by omega)
      · unfold kx_nlI at k; rw [if_neg (by omega)] at k; exact k
  · intro l hl ih
    exact dec l (by omega) (by omega) (fun _ => ih) (fun z => by rw [kx_nl_no hl] at z; cases z)
/-- what the class's rows of costs hold -/
def kx_cache (μ : kr_M) (g : Nat → Nat) : Prop := ∀ goal, goal < 9 → μ.1 26 goal = -1 ∨ ∃ S, S < 4096 ∧ μ.1 26 goal = nI S ∧ ∀ i, i < 9 → μ.1 25 (goal * 9 + i) = nI (kx_cv (kx_dist g S goal i))
theorem c_Y_beginAnew {d : Nat} {Q : kr_Q} {μ : kr_M} (g : Nat → Nat) (k : ∀ μ', kr_keep [26] [] μ μ' → kx_cache μ' g → Q none μ') : kr_c (d + 1) i_Y_beginAnew [.ref 24] μ Q := by
  refine v_Y_beginAnew ?_
  have main : ∀ l, l ≤ 9 → ∀ μ', kr_keep [26] [] μ μ' → (∀ j, j < l → μ'.1 26 j = -1) → kr_Wp C_Y_beginAnew (kr_c d) Q 2 [some (.ref 24), some (.int (nI l))] [] μ' := by
    refine kr_up (I := fun l => ∀ μ', kr_keep [26] [] μ μ' → (∀ j, j < l → μ'.1 26 j = -1) → kr_Wp C_Y_beginAnew (kr_c d) Q 2 [some (.ref 24), some (.int (nI l))] [] μ') 9 ?_ ?_
    · intro μ' hk hj
      exact v_Y_beginAnew_2 (br_t (Int32.le_refl _) (k μ' hk (fun goal hgo => Or.inl (hj goal hgo))))
    · intro l hl ih μ' hk hj
      refine v_Y_beginAnew_2 (br_f (nI_ge (b := 9) hl (by decide)) ⟨vp_in_nI hl (by decide), ?_⟩)
      rw [kr_n1, nI_clamp (by omega)]
      refine ih _ (hk.u _ _ (by decide)) (fun j hj2 => ?_)
      rw [kr_u_s]
      by_cases e : j = l
      · rw [e, kr_upd_s]
      · rw [kr_upd_n _ _ e]; exact hj j (by omega)
  exact main 0 (by decide) μ kr_keep.rf (fun j hj => absurd hj (Nat.not_lt_zero j))
theorem c_R_otherEnd {d : Nat} {Q : kr_Q} {μ : kr_M} {g : Nat → Nat} (hA : ∀ l, l < g 0 → μ.1 2 l = nI (kr_gk g l 0) ∧ μ.1 3 l = nI (kr_gk g l 1)) (hg : kx_gb g) {l i : Nat} (hl : l < g 0) (hi : i < 9) (k : Q (some (.int (nI (kx_oe g l i)))) μ) : kr_c (d + 1) i_R_otherEnd [.ref 1, .int (nI l), .int (nI i)] μ Q := by
  have hb := hg.2.2 l hl
  have hN := hg.1
  have hv : vp_in (nI l) 12 := vp_in_nI (by omega) (by decide)
  refine v_R_otherEnd ⟨hv, ?_⟩
  rw [nI_clamp (by omega), (hA l hl).1, (hA l hl).2, nI_eq (by omega) (by omega)]
  unfold kx_oe at k
  refine ⟨fun c => ⟨hv, ?_⟩, fun c => ⟨hv, ?_⟩⟩
  · rw [if_neg c] at k; exact k
  · rw [if_pos c] at k; exact k
theorem kx_abs {a b w : Nat} (ha : a < 2 ^ 30) (hb : b < 2 ^ 30) (hw : w < 2 ^ 30) : (if 0 ≤ nI a - nI b then nI a - nI b else 0 - (nI a - nI b)) ≤ nI w ↔ (a ≤ b + w ∧ b ≤ a + w) := by
  rcases Nat.le_total b a with h | h
  · rw [pk_sub h, if_pos (nI_pos' (by omega)), nI_leI (by omega) (by omega)]
    omega
  · by_cases e : a = b
    · subst e
      rw [pk_sub h, if_pos (nI_pos' (by omega)), nI_leI (by omega) (by omega)]
      omega
    · rw [if_neg (fun z => by rw [← kr_nlt] at z; exact z (pk_sneg hb (by omega))), kr_le]
      have h1 : (0 - (nI a - nI b) : Int32) = nI b - nI a := by
        rw [Int32.sub_eq_add_neg, Int32.zero_add, Int32.neg_sub]
      rw [h1, pk_sub_toInt hb ha, nI_toInt (by omega)]
      omega
theorem kx_min {a b w : Nat} (ha : a < 2 ^ 30) (hb : b < 2 ^ 30) (hw : w < 2 ^ 30) : (if ((if nI b < nI a then nI b else nI a) + nI w) < nI a then ((if nI b < nI a then nI b else nI a) + nI w) else nI a) = nI (if b + w < a then b + w else a) := by
  have e : nI b < nI a ↔ b < a := nI_ltI (by omega) (by omega)
  by_cases h : b < a
  · rw [if_pos (e.mpr h), nI_add]
    have e2 : nI (b + w) < nI a ↔ b + w < a := nI_ltI (by omega) (by omega)
    by_cases h2 : b + w < a
    · rw [if_pos (e2.mpr h2), if_pos h2]
    · rw [if_neg (fun z => h2 (e2.mp z)), if_neg h2]
  · rw [if_neg (fun z => h (e.mp z)), nI_add]
    have e2 : nI (a + w) < nI a ↔ a + w < a := nI_ltI (by omega) (by omega)
    rw [if_neg (fun z => absurd (e2.mp z) (by omega)), if_neg (by omega)]
theorem kx_min2 {a b w : Nat} (ha : a < 2 ^ 30) (hb : b < 2 ^ 30) (hw : w < 2 ^ 30) : (if ((if nI b < nI a then nI b else nI a) + nI w) < nI b then ((if nI b < nI a then nI b else nI a) + nI w) else nI b) = nI (if a + w < b then a + w else b) := by
  have e : nI b < nI a ↔ b < a := nI_ltI (by omega) (by omega)
  by_cases h : b < a
  · rw [if_pos (e.mpr h), nI_add]
    have e2 : nI (b + w) < nI b ↔ b + w < b := nI_ltI (by omega) (by omega)
    rw [if_neg (fun z => absurd (e2.mp z) (by omega)), if_neg (by omega)]
  · rw [if_neg (fun z => h (e.mp z)), nI_add]
    have e2 : nI (a + w) < nI b ↔ a + w < b := nI_ltI (by omega) (by omega)
    by_cases h2 : a + w < b
    · rw [if_pos (e2.mpr h2), if_pos h2]
    · rw [if_neg (fun z => h2 (e2.mp z)), if_neg h2]
theorem kx_litF2 : (1048576 : Int32) = nI kx_F2 := rfl
theorem c_Y_reckonTo {d : Nat} {Q : kr_Q} {μ : kr_M} {g : Nat → Nat} (h0 : μ.1 1 2 = nI (g 0)) (hA : ∀ l, l < g 0 → μ.1 2 l = nI (kr_gk g l 0) ∧ μ.1 3 l = nI (kr_gk g l 1)) (hyd : ∀ l, l < g 0 → μ.1 4 l = nI (kr_gk g l 2)) (hg : kx_gb g) {goal S : Nat} (hgo : goal < 9) (hS : S < 4096) (hc : kx_cache μ g) (k : ∀ μ', kr_keep [25, 26] [] μ μ' → kx_cache μ' g → (∀ i, i < 9 → μ'.1 25 (goal * 9 + i) = nI (kx_cv (kx_dist g S goal i))) → Q none μ') : kr_c (d + 2) i_Y_reckonTo [.ref 24, .int (nI goal), .int (nI S)] μ Q := by
  obtain ⟨hN, h61, hlb⟩ := id hg
  refine v_Y_reckonTo ⟨vp_in_nI hgo (by decide), ?_⟩
  rw [nI_clamp (by omega)]
  refine ⟨fun c => ⟨vp_in_nI hgo (by decide), ?_⟩, fun c => ?_⟩
  · have e9 : nI goal * (9 : Int32) = nI (goal * 9) := by rw [show (9 : Int32) = nI 9 from rfl, pk_mul]
    rw [e9]
    have ix : ∀ i, i < 9 → (nI (goal * 9) + nI i : Int32) = nI (goal * 9 + i) := fun i _ => nI_add _ _
    have iv : ∀ i, i < 9 → vp_in (nI (goal * 9 + i)) 81 := fun i hi => vp_in_nI (by omega) (by decide)
    -- what else stays
    have oth : ∀ {μ' : kr_M}, kr_keep [25, 26] [] μ μ' → μ'.1 1 2 = nI (g 0) ∧ (∀ l, l < g 0 → μ'.1 2 l = nI (kr_gk g l 0) ∧ μ'.1 3 l = nI (kr_gk g l 1)) ∧ ∀ l, l < g 0 → μ'.1 4 l = nI (kr_gk g l 2) := by
      intro μ' hk
      rw [hk.row (o := 1) (by decide) (by decide), hk.row (o := 2) (by decide) (by decide), hk.row (o := 3) (by decide) (by decide), hk.row (o := 4) (by decide) (by decide)]
      exact ⟨h0, hA, hyd⟩
    -- all but this goal's row of costs
    have rest : kr_M → Prop := fun μ' => True
    have fin : ∀ μ', kr_keep [25, 26] [] μ μ' → μ'.1 26 = upd (μ.1 26) goal (nI S) → (∀ j, (j < goal * 9 ∨ goal * 9 + 9 ≤ j) → μ'.1 25 j = μ.1 25 j) → (∀ i, i < 9 → μ'.1 25 (goal * 9 + i) = nI (kx_cv (kx_dist g S goal i))) → Q none μ' := by
      intro μ' hk h26 h25 hrow
      refine k μ' hk (fun g2 hg2 => ?_) hrow
      rw [h26]
      by_cases e : g2 = goal
      · right
        exact ⟨S, hS, by rw [e, kr_upd_s], by rw [e]; exact hrow⟩
      · rw [kr_upd_n _ _ e]
        rcases hc g2 hg2 with z | ⟨S2, z1, z2, z3⟩
        · exact Or.inl z
        · refine Or.inr ⟨S2, z1, z2, fun i hi => ?_⟩
          rw [h25 _ (by omega)]
          exact z3 i hi
    have rounds : ∀ r, r ≤ 9 → ∀ μ' (b : Bool), (b = false → ∃ q, r = q + 1 ∧ kx_cr g S goal r = kx_cr g S goal q) → kr_keep [25, 26] [] μ μ' → μ'.1 26 = upd (μ.1 26) goal (nI S) → (∀ j, (j < goal * 9 ∨ goal * 9 + 9 ≤ j) → μ'.1 25 j = μ.1 25 j) → (∀ i, i < 9 → μ'.1 25 (goal * 9 + i) = nI (kx_cr g S goal r i)) → kr_Wp C_Y_reckonTo (kr_c (d + 1)) Q 66 [some (.ref 24), some (.int (nI goal)), some (.int (nI S)), some (.int (nI (goal * 9))), some (.int (nI b.toNat)), some (.int (nI r)), none, none, none, none] [] μ' := by
      refine kr_up (I := fun r => ∀ μ' (b : Bool), (b = false → ∃ q, r = q + 1 ∧ kx_cr g S goal r = kx_cr g S goal q) → kr_keep [25, 26] [] μ μ' → μ'.1 26 = upd (μ.1 26) goal (nI S) → (∀ j, (j < goal * 9 ∨ goal * 9 + 9 ≤ j) → μ'.1 25 j = μ.1 25 j) → (∀ i, i < 9 → μ'.1 25 (goal * 9 + i) = nI (kx_cr g S goal r i)) → kr_Wp C_Y_reckonTo (kr_c (d + 1)) Q 66 [some (.ref 24), some (.int (nI goal)), some (.int (nI S)), some (.int (nI (goal * 9))), some (.int (nI b.toNat)), some (.int (nI r)), none, none, none, none] [] μ') 9 ?_ ?_
      · intro μ' b _ hk h26 h25 hrow
        refine v_Y_reckonTo_66 (br_t (Int32.le_refl _) (fin μ' hk h26 h25 (fun i hi => ?_)))
        rw [hrow i hi, kx_cr_9 hg hgo hi]
      · intro r hr ih μ' b hb hk h26 h25 hrow
        refine v_Y_reckonTo_66 (br_f (nI_ge (b := 9) hr (by decide)) ?_)
        cases b with
        | false =>
          obtain ⟨q, hq, hfix⟩ := hb rfl
          refine br_t rfl (fin μ' hk h26 h25 (fun i hi => ?_))
          rw [hrow i hi, ← kx_cr_9 hg hgo hi]
          have h1 := kx_cr_fix (g := g) (S := S) (goal := goal) (r := q) (by rw [← hq]; exact hfix) (9 - q)
          rw [show q + (9 - q) = 9 by omega] at h1
          rw [h1, hfix]
        | true =>
          refine br_f (by decide) ?_
          -- the lines of a round
          have lines : ∀ l, l ≤ g 0 → ∀ μ' (b : Bool), (b = false → kx_cl1 g S l (kx_cr g S goal r) = kx_cr g S goal r) → kr_keep [25, 26] [] μ μ' → μ'.1 26 = upd (μ.1 26) goal (nI S) → (∀ j, (j < goal * 9 ∨ goal * 9 + 9 ≤ j) → μ'.1 25 j = μ.1 25 j) → (∀ i, i < 9 → μ'.1 25 (goal * 9 + i) = nI (kx_cl1 g S l (kx_cr g S goal r) i)) → kr_Wp C_Y_reckonTo (kr_c (d + 1)) Q 84 [some (.ref 24), some (.int (nI goal)), some (.int (nI S)), some (.int (nI (goal * 9))), some (.int (nI b.toNat)), some (.int (nI r)), some (.int (nI l)), none, none, none] [] μ' := by
            refine kr_up (I := fun l => ∀ μ' (b : Bool), (b = false → kx_cl1 g S l (kx_cr g S goal r) = kx_cr g S goal r) → kr_keep [25, 26] [] μ μ' → μ'.1 26 = upd (μ.1 26) goal (nI S) → (∀ j, (j < goal * 9 ∨ goal * 9 + 9 ≤ j) → μ'.1 25 j = μ.1 25 j) → (∀ i, i < 9 → μ'.1 25 (goal * 9 + i) = nI (kx_cl1 g S l (kx_cr g S goal r) i)) → kr_Wp C_Y_reckonTo (kr_c (d + 1)) Q 84 [some (.ref 24), some (.int (nI goal)), some (.int (nI S)), some (.int (nI (goal * 9))), some (.int (nI b.toNat)), some (.int (nI r)), some (.int (nI l)), none, none, none] [] μ') (g 0) ?_ ?_
            · intro μ' b hb hk h26 h25 hrow
              refine v_Y_reckonTo_84 (br_t ?_ ?_)
              · rw [(oth hk).1]
                exact Int32.le_refl _
              rw [kr_n1]
              exact ih μ' b (fun z => ⟨r, rfl, hb z⟩) hk h26 h25 hrow
            · intro l hl ih2 μ' b hb hk h26 h25 hrow
              obtain ⟨o1, o2, o3⟩ := oth hk
              have hbd := hlb l hl
              have hInv := kx_cl1_Inv hg (kx_cr_Inv hg (S := S) (goal := goal) r) l (by omega)
              have hca := hInv.2.1 _ hbd.1
              have hcb := hInv.2.1 _ hbd.2.1
              unfold kx_F2 at hca hcb
              have vl : vp_in (nI l) 12 := vp_in_nI (by omega) (by decide)
              refine v_Y_reckonTo_84 (br_f ?_ ⟨vl, vl, ?_⟩)
              · rw [o1]
                exact nI_ge hl (by omega)
              generalize hc0 : kx_cl1 g S l (kx_cr g S goal r) = c0 at *
              have ec : kx_cl1 g S (l + 1) (kx_cr g S goal r) = kx_ce g S c0 l := by rw [← hc0]; rfl
              rw [ec] at ih2
              have ew : nI (kr_gk g l 2) * 16 + 1 = nI (kx_w 16 g l) := by
                rw [show (16 : Int32) = nI 16 from rfl, pk_mul, kr_n1, Nat.mul_comm]; rfl
              have hw : kx_w 16 g l ≤ 145 := by unfold kx_w; omega
              rw [kr_bit0 (by omega) (by omega), nI_clamp (by omega), (o2 l hl).1, (o2 l hl).2, o3 l hl, ix _ hbd.1, ix _ hbd.2.1, nI_clamp (by omega), nI_clamp (by omega), hrow _ hbd.1, hrow _ hbd.2.1, ew, kr_n1, kx_abs (by omega) (by omega) (by omega)]
              refine ⟨fun z => ?_, fun z => ⟨iv _ hbd.1, iv _ hbd.2.1, vl, fun q => ?_, fun q => ⟨iv _ hbd.1, iv _ hbd.2.1, vl, iv _ hbd.1, iv _ hbd.1, iv _ hbd.2.1, iv _ hbd.2.1, ?_⟩⟩⟩
              · have e : kx_ce g S c0 l = c0 := by
                  unfold kx_ce
                  rw [if_neg (by simp at z; simp [z])]
                rw [e] at ih2
                exact ih2 μ' b hb hk h26 h25 hrow
              · have e : kx_ce g S c0 l = c0 := by
                  unfold kx_ce
                  split
                  · rw [if_neg (by omega), if_neg (by omega)]
                  · rfl
                rw [e] at ih2
                exact ih2 μ' b hb hk h26 h25 hrow
              · have hne : goal * 9 + kr_gk g l 1 ≠ goal * 9 + kr_gk g l 0 := by omega
                rw [kr_upd_n _ _ hne, hrow _ hbd.2.1, kx_min (by omega) (by omega) (by omega), kx_min2 (by omega) (by omega) (by omega)]
                refine ih2 _ true (fun z => by cases z) ((hk.u _ _ (by decide)).u _ _ (by decide)) ?_ (fun j hj => ?_) (fun i hi => ?_)
                · rw [kr_u_n _ _ _ (by decide), kr_u_n _ _ _ (by decide)]; exact h26
                · rw [kr_u_s, kr_upd_n _ _ (by omega), kr_u_s, kr_upd_n _ _ (by omega)]; exact h25 j hj
                · have hs1 : S.testBit l = true := by simpa using z
                  rw [kr_u_s]
                  unfold kx_ce
                  rw [if_pos hs1]
                  by_cases e1 : i = kr_gk g l 1
                  · rw [e1, kr_upd_s]
                    by_cases h1 : c0 (kr_gk g l 0) + kx_w 16 g l < c0 (kr_gk g l 1)
                    · rw [if_pos h1, if_pos h1, kx_un_s]
                    · rw [if_neg h1, if_neg h1, if_pos (by omega), kx_un_n _ _ (by omega)]
                  · rw [kr_upd_n _ _ (by omega), kr_u_s]
                    by_cases e0 : i = kr_gk g l 0
                    · rw [e0, kr_upd_s]
                      by_cases h1 : c0 (kr_gk g l 0) + kx_w 16 g l < c0 (kr_gk g l 1)
                      · rw [if_pos h1, if_neg (by omega), kx_un_n _ _ (by omega)]
                      · rw [if_neg h1, if_pos (by omega), if_pos (by omega), kx_un_s]
                    · rw [kr_upd_n _ _ (by omega), hrow i hi]
                      by_cases h1 : c0 (kr_gk g l 0) + kx_w 16 g l < c0 (kr_gk g l 1)
                      · rw [if_pos h1, kx_un_n _ _ e1]
                      · rw [if_neg h1]
                        split
                        · rw [kx_un_n _ _ e0]
                        · rfl
          exact lines 0 (Nat.zero_le _) μ' false (fun _ => rfl) hk h26 h25 hrow
    have fill : ∀ n, n ≤ 9 → ∀ μ', kr_keep [25, 26] [] μ μ' → μ'.1 26 = upd (μ.1 26) goal (nI S) → (∀ j, (j < goal * 9 ∨ goal * 9 + 9 ≤ j) → μ'.1 25 j = μ.1 25 j) → (∀ i, i < n → μ'.1 25 (goal * 9 + i) = nI (kx_d0 kx_F2 goal i)) → kr_Wp C_Y_reckonTo (kr_c (d + 1)) Q 26 [some (.ref 24), some (.int (nI goal)), some (.int (nI S)), some (.int (nI (goal * 9))), some (.int (nI n)), none, none, none, none, none] [] μ' := by
      refine kr_up (I := fun n => ∀ μ', kr_keep [25, 26] [] μ μ' → μ'.1 26 = upd (μ.1 26) goal (nI S) → (∀ j, (j < goal * 9 ∨ goal * 9 + 9 ≤ j) → μ'.1 25 j = μ.1 25 j) → (∀ i, i < n → μ'.1 25 (goal * 9 + i) = nI (kx_d0 kx_F2 goal i)) → kr_Wp C_Y_reckonTo (kr_c (d + 1)) Q 26 [some (.ref 24), some (.int (nI goal)), some (.int (nI S)), some (.int (nI (goal * 9))), some (.int (nI n)), none, none, none, none, none] [] μ') 9 ?_ ?_
      · intro μ' hk h26 h25 hrow
        refine v_Y_reckonTo_26 (br_t (Int32.le_refl _) ?_)
        exact rounds 0 (by decide) μ' true (fun z => by cases z) hk h26 h25 hrow
      · intro n hn ih μ' hk h26 h25 hrow
        refine v_Y_reckonTo_26 (br_f (nI_ge (b := 9) hn (by decide)) ?_)
        rw [nI_eq (by omega) (by omega), kr_n1, ix n hn, nI_clamp (by omega), kx_litF2]
        have nxt : ∀ v, v = kx_d0 kx_F2 goal n → kr_Wp C_Y_reckonTo (kr_c (d + 1)) Q 26 [some (.ref 24), some (.int (nI goal)), some (.int (nI S)), some (.int (nI (goal * 9))), some (.int (nI (n + 1))), none, none, none, none, none] [] (kr_u μ' 25 (goal * 9 + n) (nI v)) := by
          intro v hv
          refine ih _ (hk.u _ _ (by decide)) (by rw [kr_u_n _ _ _ (by decide)]; exact h26) (fun j hj => ?_) (fun i hi => ?_)
          · rw [kr_u_s, kr_upd_n _ _ (by omega)]; exact h25 j hj
          · rw [kr_u_s]
            by_cases e : i = n
            · rw [e, kr_upd_s, hv]
            · rw [kr_upd_n _ _ (by omega)]; exact hrow i (by omega)
        exact ⟨fun q => ⟨iv n hn, nxt kx_F2 (by unfold kx_d0; rw [if_neg q])⟩, fun q => ⟨iv n hn, nxt 0 (by unfold kx_d0; rw [if_pos q])⟩⟩
    refine fill 0 (by decide) _ (kr_keep.rf.u _ _ (by decide)) ?_ (fun j hj => ?_) (fun i hi => absurd hi (Nat.not_lt_zero i))
    · rw [kr_u_s]
    · rw [kr_u_n _ _ _ (by decide)]
  · refine k μ kr_keep.rf hc (fun i hi => ?_)
    rcases hc goal hgo with z | ⟨S2, z1, z2, z3⟩
    · exfalso
      rw [z] at c
      have h1 := congrArg Int32.toInt c
      rw [nI_toInt (by omega)] at h1
      have h4 : (-1 : Int32).toInt = -1 := rfl
      omega
    · rw [c, nI_eq (by omega) (by omega)] at z2
      subst z2
      exact z3 i hi
