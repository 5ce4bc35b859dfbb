/-! who draws what: the fewest drawers, and who of them draws a line, on the reference -/
theorem st_M_fewestDrawers {d : Nat} {Q : kr_Q} {pc : Nat} {ls : kr_L} {st : List Value} {μ : kr_M} (h : C_M_fewestDrawers pc (kr_Wp C_M_fewestDrawers (kr_c d) Q) (kr_c d) Q ls st μ) : kr_Wp C_M_fewestDrawers (kr_c d) Q pc ls st μ := kr_Wp.step (fun pc => (kr_ok_M_fewestDrawers pc).2) (kr_c_om d) h
theorem v_M_fewestDrawers {d : Nat} {Q : kr_Q} {μ : kr_M} {a1 : Int32} (h : kr_c (d + 2) i_M_leftNow [.ref 65] μ (kr_bk (kr_Wp C_M_fewestDrawers (kr_c (d + 2)) Q) 4 [some (.ref 65), some (.int a1), none, none] [])) : kr_c (d + 3) i_M_fewestDrawers [.ref 65, .int a1] μ Q := ⟨rfl, (st_M_fewestDrawers (st_M_fewestDrawers (And.intro rfl h)))⟩
theorem v_M_fewestDrawers_9 {d : Nat} {Q : kr_Q} {μ : kr_M} {a1 : Int32} {a2 : Int32} {a3 : Int32} (h : ((((1 : Int32) <<< ((μ.1 65 3) &&& 31)) ≤ a3 → Q (some (.int a2)) μ) ∧ (¬ (((1 : Int32) <<< ((μ.1 65 3) &&& 31)) ≤ a3) → ((a2 = (-4) → kr_c (d + 2) i_M_findRow [.ref 65, .int a3] μ (kr_bk (kr_Wp C_M_fewestDrawers (kr_c (d + 2)) Q) 41 [some (.ref 65), some (.int a1), some (.int a2), some (.int a3)] [])) ∧ (¬ (a2 = (-4)) → kr_c (d + 2) i_M_bitsOf [.int a3] μ (kr_bk (kr_Wp C_M_fewestDrawers (kr_c (d + 2)) Q) 29 [some (.ref 65), some (.int a1), some (.int a2), some (.int a3)] [])))))) : kr_Wp C_M_fewestDrawers (kr_c (d + 2)) Q 9 [some (.ref 65), some (.int a1), some (.int a2), some (.int a3)] [] μ := (st_M_fewestDrawers (st_M_fewestDrawers (st_M_fewestDrawers (st_M_fewestDrawers (And.intro rfl (st_M_fewestDrawers (st_M_fewestDrawers (And.intro (fun z1x => (st_M_fewestDrawers (st_M_fewestDrawers (h.1 z1x)))) (fun z1x => (st_M_fewestDrawers (st_M_fewestDrawers (st_M_fewestDrawers (And.intro (fun z2x => (st_M_fewestDrawers (st_M_fewestDrawers (st_M_fewestDrawers (And.intro rfl ((h.2 z1x).1 z2x)))))) (fun z2x => (st_M_fewestDrawers (st_M_fewestDrawers ((h.2 z1x).2 z2x)))))))))))))))))
theorem v_M_fewestDrawers_4 {d : Nat} {Q : kr_Q} {μ : kr_M} {a1 : Int32} (h : kr_Wp C_M_fewestDrawers (kr_c (d + 2)) Q 9 [some (.ref 65), some (.int a1), some (.int (-4)), some (.int 0)] [] μ) : kr_Wp C_M_fewestDrawers (kr_c (d + 2)) Q 4 [some (.ref 65), some (.int a1), none, none] [] μ := (st_M_fewestDrawers (st_M_fewestDrawers (st_M_fewestDrawers (st_M_fewestDrawers h))))
theorem v_M_fewestDrawers_41 {d : Nat} {Q : kr_Q} {μ : kr_M} {a1 : Int32} {a2 : Int32} {a3 : Int32} (h : kr_c (d + 2) i_M_canDraw [.ref 65, .int a1] μ (kr_bk (kr_Wp C_M_fewestDrawers (kr_c (d + 2)) Q) 46 [some (.ref 65), some (.int a1), some (.int a2), some (.int a3)] [])) : kr_Wp C_M_fewestDrawers (kr_c (d + 2)) Q 41 [some (.ref 65), some (.int a1), some (.int a2), some (.int a3)] [] μ := (st_M_fewestDrawers (st_M_fewestDrawers (st_M_fewestDrawers (And.intro rfl h))))
theorem v_M_fewestDrawers_29 {d : Nat} {Q : kr_Q} {μ : kr_M} {a1 : Int32} {a2 : Int32} {a3 : Int32} {r : Int32} (h : kr_c (d + 2) i_M_bitsOf [.int a2] μ (kr_bk (kr_Wp C_M_fewestDrawers (kr_c (d + 2)) Q) 33 [some (.ref 65), some (.int a1), some (.int a2), some (.int a3)] [.int r])) : kr_Wp C_M_fewestDrawers (kr_c (d + 2)) Q 29 [some (.ref 65), some (.int a1), some (.int a2), some (.int a3)] [.int r] μ := (st_M_fewestDrawers (st_M_fewestDrawers h))
theorem v_M_fewestDrawers_46 {d : Nat} {Q : kr_Q} {μ : kr_M} {a1 : Int32} {a2 : Int32} {a3 : Int32} {r : Int32} (h : ((r = 0 → kr_Wp C_M_fewestDrawers (kr_c (d + 2)) Q 9 [some (.ref 65), some (.int a1), some (.int a2), some (.int (a3 + 1))] [] μ) ∧ (¬ (r = 0) → kr_Wp C_M_fewestDrawers (kr_c (d + 2)) Q 9 [some (.ref 65), some (.int a1), some (.int a3), some (.int (a3 + 1))] [] μ))) : kr_Wp C_M_fewestDrawers (kr_c (d + 2)) Q 46 [some (.ref 65), some (.int a1), some (.int a2), some (.int a3)] [.int r] μ := (st_M_fewestDrawers (And.intro (fun z1x => (st_M_fewestDrawers (st_M_fewestDrawers (st_M_fewestDrawers (st_M_fewestDrawers (h.1 z1x)))))) (fun z1x => (st_M_fewestDrawers (st_M_fewestDrawers (st_M_fewestDrawers (st_M_fewestDrawers (st_M_fewestDrawers (h.2 z1x)))))))))
theorem v_M_fewestDrawers_33 {d : Nat} {Q : kr_Q} {μ : kr_M} {a1 : Int32} {a2 : Int32} {a3 : Int32} {r : Int32} {s0 : Int32} (h : ((r ≤ s0 → kr_Wp C_M_fewestDrawers (kr_c (d + 2)) Q 9 [some (.ref 65), some (.int a1), some (.int a2), some (.int (a3 + 1))] [] μ) ∧ (¬ (r ≤ s0) → kr_c (d + 2) i_M_findRow [.ref 65, .int a3] μ (kr_bk (kr_Wp C_M_fewestDrawers (kr_c (d + 2)) Q) 41 [some (.ref 65), some (.int a1), some (.int a2), some (.int a3)] [])))) : kr_Wp C_M_fewestDrawers (kr_c (d + 2)) Q 33 [some (.ref 65), some (.int a1), some (.int a2), some (.int a3)] [.int r, .int s0] μ := (st_M_fewestDrawers (And.intro (fun z1x => (st_M_fewestDrawers (st_M_fewestDrawers (h.1 z1x)))) (fun z1x => (st_M_fewestDrawers (st_M_fewestDrawers (st_M_fewestDrawers (And.intro rfl (h.2 z1x))))))))
theorem st_M_share {d : Nat} {Q : kr_Q} {pc : Nat} {ls : kr_L} {st : List Value} {μ : kr_M} (h : C_M_share pc (kr_Wp C_M_share (kr_c d) Q) (kr_c d) Q ls st μ) : kr_Wp C_M_share (kr_c d) Q pc ls st μ := kr_Wp.step (fun pc => (kr_ok_M_share pc).2) (kr_c_om d) h
theorem v_M_share {d : Nat} {Q : kr_Q} {μ : kr_M} {a1 : Int32} {a2 : Int32} (h : ((¬ (0 ≤ a1 ∧ a1 ≤ ((1 : Int32) <<< ((μ.1 66 0) &&& 31)) - 1) → Q (some (.int (-1))) μ) ∧ (0 ≤ a1 ∧ a1 ≤ ((1 : Int32) <<< ((μ.1 66 0) &&& 31)) - 1 → kr_c (d + 3) i_M_bitsOf [.int a1] μ (kr_bk (kr_Wp C_M_share (kr_c (d + 3)) Q) 12 [some (.ref 65), some (.int a1), some (.int a2), none, none, none, none, none] [])))) : kr_c (d + 4) i_M_share [.ref 65, .int a1, .int a2] μ Q := ⟨rfl, (st_M_share (st_M_share (st_M_share (And.intro rfl (c_M_areLines (st_M_share (And.intro (fun z1x => (st_M_share (st_M_share (h.1 (kr_b0 z1x))))) (fun z1x => (st_M_share (st_M_share (h.2 (kr_b1 z1x))))))))))))⟩
theorem v_M_share_102 {d : Nat} {Q : kr_Q} {μ : kr_M} {a1 : Int32} {a2 : Int32} {a3 : Int32} {a4 : Int32} {a5 : Int32} {a6 : Int32} (h : (((a2 - (10 : Int32)) < a6 → Q (some (.int a5)) μ) ∧ (¬ ((a2 - (10 : Int32)) < a6) → ((¬ ((a1 >>> (a6 &&& 31)) &&& (1 : Int32)) = 1 → kr_Wp C_M_share (kr_c (d + 3)) Q 102 [some (.ref 65), some (.int a1), some (.int a2), some (.int a3), some (.int a4), some (.int (-4)), some (.int (a6 + 1)), none] [] μ) ∧ (((a1 >>> (a6 &&& 31)) &&& (1 : Int32)) = 1 → kr_Wp C_M_share (kr_c (d + 3)) Q 139 [some (.ref 65), some (.int a1), some (.int a2), some (.int a3), some (.int (a4 &&& (((1 : Int32) <<< (a6 &&& 31)) ^^^ (-1 : Int32)))), some (.int (-4)), some (.int a6), some (.int 0)] [] μ))))) : kr_Wp C_M_share (kr_c (d + 3)) Q 102 [some (.ref 65), some (.int a1), some (.int a2), some (.int a3), some (.int a4), some (.int a5), some (.int a6), none] [] μ := (st_M_share (st_M_share (st_M_share (st_M_share (st_M_share (And.intro (fun z1x => (st_M_share (st_M_share (h.1 z1x)))) (fun z1x => (st_M_share (st_M_share (st_M_share (st_M_share (st_M_share (st_M_share (st_M_share (st_M_share (st_M_share (And.intro (fun z2x => (st_M_share (st_M_share ((h.2 z1x).1 z2x)))) (fun z2x => (st_M_share (st_M_share (st_M_share (st_M_share (st_M_share (st_M_share (st_M_share (st_M_share (st_M_share (st_M_share ((h.2 z1x).2 (Decidable.not_not.mp z2x))))))))))))))))))))))))))))))
theorem v_M_share_139 {d : Nat} {Q : kr_Q} {μ : kr_M} {a1 : Int32} {a2 : Int32} {a3 : Int32} {a4 : Int32} {a5 : Int32} {a6 : Int32} {a7 : Int32} (h : (((μ.1 65 3) ≤ a7 → kr_Wp C_M_share (kr_c (d + 3)) Q 102 [some (.ref 65), some (.int a1), some (.int a2), some (.int a3), some (.int a4), some (.int a5), some (.int (a6 + 1)), none] [] μ) ∧ (¬ ((μ.1 65 3) ≤ a7) → ((¬ a5 = (-4) → kr_Wp C_M_share (kr_c (d + 3)) Q 102 [some (.ref 65), some (.int a1), some (.int a2), some (.int a3), some (.int a4), some (.int a5), some (.int (a6 + 1)), none] [] μ) ∧ (a5 = (-4) → ((¬ ((a3 >>> (a7 &&& 31)) &&& (1 : Int32)) = 1 → kr_Wp C_M_share (kr_c (d + 3)) Q 139 [some (.ref 65), some (.int a1), some (.int a2), some (.int a3), some (.int a4), some (.int a5), some (.int a6), some (.int (a7 + 1))] [] μ) ∧ (((a3 >>> (a7 &&& 31)) &&& (1 : Int32)) = 1 → vp_in a7 5 ∧ vp_in (((1 : Int32) + ((5 : Int32) * a6)) + (2 : Int32)) 375 ∧ (((μ.1 80 a7.toNatClampNeg) < (μ.1 66 ((((1 : Int32) + ((5 : Int32) * a6)) + (2 : Int32)).toNatClampNeg)) → kr_Wp C_M_share (kr_c (d + 3)) Q 139 [some (.ref 65), some (.int a1), some (.int a2), some (.int a3), some (.int a4), some (.int a5), some (.int a6), some (.int (a7 + 1))] [] μ) ∧ (¬ ((μ.1 80 a7.toNatClampNeg) < (μ.1 66 ((((1 : Int32) + ((5 : Int32) * a6)) + (2 : Int32)).toNatClampNeg))) → vp_in a7 5 ∧ vp_in (((1 : Int32) + ((5 : Int32) * a6)) + (2 : Int32)) 375 ∧ vp_in a7 5 ∧ kr_c (d + 3) i_M_canDraw [.ref 65, .int a4] (kr_u μ 80 a7.toNatClampNeg ((μ.1 80 a7.toNatClampNeg) - (μ.1 66 ((((1 : Int32) + ((5 : Int32) * a6)) + (2 : Int32)).toNatClampNeg)))) (kr_bk (kr_Wp C_M_share (kr_c (d + 3)) Q) 205 [some (.ref 65), some (.int a1), some (.int a2), some (.int a3), some (.int a4), some (.int a5), some (.int a6), some (.int a7)] [])))))))))) : kr_Wp C_M_share (kr_c (d + 3)) Q 139 [some (.ref 65), some (.int a1), some (.int a2), some (.int a3), some (.int a4), some (.int a5), some (.int a6), some (.int a7)] [] μ := (st_M_share (st_M_share (st_M_share (And.intro rfl (st_M_share (And.intro (fun z1x => (st_M_share (st_M_share (kr_Wp.lm [true, true, true, true, true, true, true, false] (h.1 z1x))))) (fun z1x => (st_M_share (st_M_share (st_M_share (And.intro (fun z2x => (st_M_share (st_M_share (kr_Wp.lm [true, true, true, true, true, true, true, false] ((h.2 z1x).1 z2x))))) (fun z2x => (st_M_share (st_M_share (st_M_share (st_M_share (st_M_share (st_M_share (st_M_share (And.intro (fun z3x => (st_M_share (st_M_share (((h.2 z1x).2 (Decidable.not_not.mp z2x)).1 z3x)))) (fun z3x => (st_M_share (st_M_share (And.intro rfl (st_M_share (st_M_share (And.intro ⟨5, rfl, (((h.2 z1x).2 (Decidable.not_not.mp z2x)).2 (Decidable.not_not.mp z3x)).1⟩ (st_M_share (st_M_share (st_M_share (st_M_share (And.intro rfl (c_M_of (((h.2 z1x).2 (Decidable.not_not.mp z2x)).2 (Decidable.not_not.mp z3x)).2.1 (st_M_share (And.intro (fun z4x => (st_M_share (st_M_share ((((h.2 z1x).2 (Decidable.not_not.mp z2x)).2 (Decidable.not_not.mp z3x)).2.2.1 z4x)))) (fun z4x => (st_M_share (st_M_share (And.intro rfl (st_M_share (st_M_share (st_M_share (And.intro ⟨5, rfl, ((((h.2 z1x).2 (Decidable.not_not.mp z2x)).2 (Decidable.not_not.mp z3x)).2.2.2 z4x).1⟩ (st_M_share (st_M_share (st_M_share (st_M_share (And.intro rfl (c_M_of ((((h.2 z1x).2 (Decidable.not_not.mp z2x)).2 (Decidable.not_not.mp z3x)).2.2.2 z4x).2.1 (st_M_share (st_M_share (And.intro ⟨5, rfl, ((((h.2 z1x).2 (Decidable.not_not.mp z2x)).2 (Decidable.not_not.mp z3x)).2.2.2 z4x).2.2.1⟩ (st_M_share (st_M_share (st_M_share (And.intro rfl ((((h.2 z1x).2 (Decidable.not_not.mp z2x)).2 (Decidable.not_not.mp z3x)).2.2.2 z4x).2.2.2))))))))))))))))))))))))))))))))))))))))))))))))))))))))
theorem v_M_share_12 {d : Nat} {Q : kr_Q} {μ : kr_M} {a1 : Int32} {a2 : Int32} {r : Int32} (h : (((8 : Int32) < r → Q (some (.int (-1))) μ) ∧ (¬ ((8 : Int32) < r) → (((0 : Int64) ≤ a2.toInt64 ∧ a2.toInt64 ≤ (1 : Int64) → kr_c (d + 3) i_M_fewestDrawers [.ref 65, .int a1] μ (kr_bk (kr_Wp C_M_share (kr_c (d + 3)) Q) 45 [some (.ref 65), some (.int a1), some (.int a2), none, none, none, none, none] [])) ∧ (¬ ((0 : Int64) ≤ a2.toInt64 ∧ a2.toInt64 ≤ (1 : Int64)) → ((0 ≤ (a2 - (10 : Int32)) ∧ (a2 - (10 : Int32)) ≤ (μ.1 66 0) - 1 → kr_c (d + 3) i_M_fewestDrawers [.ref 65, .int a1] μ (kr_bk (kr_Wp C_M_share (kr_c (d + 3)) Q) 45 [some (.ref 65), some (.int a1), some (.int a2), none, none, none, none, none] [])) ∧ (¬ (0 ≤ (a2 - (10 : Int32)) ∧ (a2 - (10 : Int32)) ≤ (μ.1 66 0) - 1) → Q (some (.int (-1))) μ))))))) : kr_Wp C_M_share (kr_c (d + 3)) Q 12 [some (.ref 65), some (.int a1), some (.int a2), none, none, none, none, none] [.int r] μ := (st_M_share (st_M_share (And.intro (fun z1x => (st_M_share (st_M_share (h.1 z1x)))) (fun z1x => (st_M_share (st_M_share (st_M_share (st_M_share (st_M_share (c_M_in (st_M_share (And.intro (fun z2x => (st_M_share (st_M_share (st_M_share (And.intro rfl ((h.2 z1x).1 (kr_b1 z2x))))))) (fun z2x => (st_M_share (st_M_share (st_M_share (st_M_share (st_M_share (And.intro rfl (c_M_isLine (st_M_share (And.intro (fun z3x => (st_M_share (st_M_share (st_M_share (And.intro rfl (((h.2 z1x).2 (kr_b2 z2x)).1 (kr_b1 z3x))))))) (fun z3x => (st_M_share (st_M_share (((h.2 z1x).2 (kr_b2 z2x)).2 (kr_b2 z3x)))))))))))))))))))))))))))
theorem v_M_share_205 {d : Nat} {Q : kr_Q} {μ : kr_M} {a1 : Int32} {a2 : Int32} {a3 : Int32} {a4 : Int32} {a5 : Int32} {a6 : Int32} {a7 : Int32} {r : Int32} (h : ((r = 0 → vp_in a7 5 ∧ vp_in (((1 : Int32) + ((5 : Int32) * a6)) + (2 : Int32)) 375 ∧ vp_in a7 5 ∧ kr_Wp C_M_share (kr_c (d + 3)) Q 139 [some (.ref 65), some (.int a1), some (.int a2), some (.int a3), some (.int a4), some (.int (-4)), some (.int a6), some (.int (a7 + 1))] [] (kr_u μ 80 a7.toNatClampNeg ((μ.1 80 a7.toNatClampNeg) + (μ.1 66 ((((1 : Int32) + ((5 : Int32) * a6)) + (2 : Int32)).toNatClampNeg))))) ∧ (¬ (r = 0) → vp_in a7 5 ∧ ((¬ a7 = (-4) → vp_in a7 5 ∧ kr_Wp C_M_share (kr_c (d + 3)) Q 139 [some (.ref 65), some (.int a1), some (.int a2), some (.int a3), some (.int a4), some (.int a7), some (.int a6), some (.int (a7 + 1))] [] (kr_u μ 80 a7.toNatClampNeg ((μ.1 80 a7.toNatClampNeg) + (0 : Int32)))) ∧ (a7 = (-4) → vp_in (((1 : Int32) + ((5 : Int32) * a6)) + (2 : Int32)) 375 ∧ vp_in a7 5 ∧ kr_Wp C_M_share (kr_c (d + 3)) Q 139 [some (.ref 65), some (.int a1), some (.int a2), some (.int a3), some (.int a4), some (.int a7), some (.int a6), some (.int (a7 + 1))] [] (kr_u μ 80 a7.toNatClampNeg ((μ.1 80 a7.toNatClampNeg) + (μ.1 66 ((((1 : Int32) + ((5 : Int32) * a6)) + (2 : Int32)).toNatClampNeg))))))))) : kr_Wp C_M_share (kr_c (d + 3)) Q 205 [some (.ref 65), some (.int a1), some (.int a2), some (.int a3), some (.int a4), some (.int a5), some (.int a6), some (.int a7)] [.int r] μ := (st_M_share (And.intro (fun z1x => (st_M_share (st_M_share (st_M_share (st_M_share (And.intro rfl (st_M_share (st_M_share (st_M_share (And.intro ⟨5, rfl, (h.1 z1x).1⟩ (st_M_share (st_M_share (st_M_share (And.intro (fun q => absurd q (by decide)) (fun _ => (st_M_share (st_M_share (st_M_share (st_M_share (And.intro rfl (c_M_of (h.1 z1x).2.1 (st_M_share (st_M_share (st_M_share (And.intro ⟨5, rfl, (h.1 z1x).2.2.1⟩ (st_M_share (st_M_share (h.1 z1x).2.2.2))))))))))))))))))))))))))) (fun z1x => (st_M_share (st_M_share (st_M_share (st_M_share (st_M_share (And.intro rfl (st_M_share (st_M_share (st_M_share (And.intro ⟨5, rfl, (h.2 z1x).1⟩ (st_M_share (st_M_share (st_M_share (And.intro (fun z3x => (st_M_share (st_M_share (st_M_share (And.intro ⟨5, rfl, ((h.2 z1x).2.1 z3x).1⟩ (st_M_share (st_M_share ((h.2 z1x).2.1 z3x).2))))))) (fun z3x => (st_M_share (st_M_share (st_M_share (st_M_share (And.intro rfl (c_M_of ((h.2 z1x).2.2 (Decidable.not_not.mp z3x)).1 (st_M_share (st_M_share (st_M_share (And.intro ⟨5, rfl, ((h.2 z1x).2.2 (Decidable.not_not.mp z3x)).2.1⟩ (st_M_share (st_M_share ((h.2 z1x).2.2 (Decidable.not_not.mp z3x)).2.2))))))))))))))))))))))))))))))
theorem v_M_share_45 {d : Nat} {Q : kr_Q} {μ : kr_M} {a1 : Int32} {a2 : Int32} {r : Int32} (h : ((¬ r = (-4) → (((2 : Int32) ≤ a2 → ((¬ ((a1 >>> ((a2 - (10 : Int32)) &&& 31)) &&& (1 : Int32)) = 0 → kr_c (d + 3) i_M_findRow [.ref 65, .int r] μ (kr_bk (kr_Wp C_M_share (kr_c (d + 3)) Q) 92 [some (.ref 65), some (.int a1), some (.int a2), some (.int r), none, none, none, none] [])) ∧ (((a1 >>> ((a2 - (10 : Int32)) &&& 31)) &&& (1 : Int32)) = 0 → Q (some (.int (-4))) μ))) ∧ (¬ ((2 : Int32) ≤ a2) → ((¬ a2 = 0 → Q (some (.int r)) μ) ∧ (a2 = 0 → kr_c (d + 3) i_M_bitsOf [.int r] μ (kr_bk (kr_Wp C_M_share (kr_c (d + 3)) Q) 68 [some (.ref 65), some (.int a1), some (.int a2), some (.int r), none, none, none, none] [])))))) ∧ (r = (-4) → Q (some (.int (-4))) μ))) : kr_Wp C_M_share (kr_c (d + 3)) Q 45 [some (.ref 65), some (.int a1), some (.int a2), none, none, none, none, none] [.int r] μ := (st_M_share (st_M_share (st_M_share (st_M_share (And.intro (fun z1x => (st_M_share (st_M_share (st_M_share (And.intro (fun z2x => (st_M_share (st_M_share (st_M_share (st_M_share (st_M_share (st_M_share (st_M_share (st_M_share (And.intro (fun z3x => (st_M_share (st_M_share (st_M_share (And.intro rfl (((h.1 z1x).1 z2x).1 z3x)))))) (fun z3x => (st_M_share (st_M_share (((h.1 z1x).1 z2x).2 (Decidable.not_not.mp z3x))))))))))))))) (fun z2x => (st_M_share (st_M_share (And.intro (fun z4x => (st_M_share (st_M_share (((h.1 z1x).2 z2x).1 z4x)))) (fun z4x => (st_M_share (st_M_share (((h.1 z1x).2 z2x).2 (Decidable.not_not.mp z4x)))))))))))))) (fun z1x => (st_M_share (st_M_share (h.2 (Decidable.not_not.mp z1x))))))))))
theorem v_M_share_92 {d : Nat} {Q : kr_Q} {μ : kr_M} {a1 : Int32} {a2 : Int32} {a3 : Int32} (h : kr_Wp C_M_share (kr_c (d + 3)) Q 102 [some (.ref 65), some (.int a1), some (.int a2), some (.int a3), some (.int a1), some (.int (-4)), some (.int 0), none] [] μ) : kr_Wp C_M_share (kr_c (d + 3)) Q 92 [some (.ref 65), some (.int a1), some (.int a2), some (.int a3), none, none, none, none] [] μ := (st_M_share (st_M_share (st_M_share (st_M_share (st_M_share (st_M_share h))))))
theorem v_M_share_68 {d : Nat} {Q : kr_Q} {μ : kr_M} {a1 : Int32} {a2 : Int32} {a3 : Int32} {r : Int32} (h : Q (some (.int r)) μ) : kr_Wp C_M_share (kr_c (d + 3)) Q 68 [some (.ref 65), some (.int a1), some (.int a2), some (.int a3), none, none, none, none] [.int r] μ := (st_M_share (st_M_share h))
def kx_bst (P : Nat → Bool) : Nat → Option Nat
  | 0 => none
  | n + 1 => match kx_bst P n with
    | none => if P n = true then some n else none
    | some b => if kr_ones 12 n < kr_ones 12 b ∧ P n = true then some n else some b
theorem kx_bst_n {P : Nat → Bool} {n : Nat} (h : kx_bst P n = none) : kx_bst P (n + 1) = if P n = true then some n else none := by
  show (match kx_bst P n with
    | none => if P n = true then some n else none
    | some b => if kr_ones 12 n < kr_ones 12 b ∧ P n = true then some n else some b) = _
  rw [h]
theorem kx_bst_y {P : Nat → Bool} {n b : Nat} (h : kx_bst P n = some b) : kx_bst P (n + 1) = if kr_ones 12 n < kr_ones 12 b ∧ P n = true then some n else some b := by
  show (match kx_bst P n with
    | none => if P n = true then some n else none
    | some b => if kr_ones 12 n < kr_ones 12 b ∧ P n = true then some n else some b) = _
  rw [h]
/-- of those below n with P one with the fewest places, the least of these -/
def kx_Bst (P : Nat → Bool) (n : Nat) : Option Nat → Prop
  | none => ∀ i, i < n → P i = false
  | some b => b < n ∧ P b = true ∧ ∀ i, i < n → P i = true → kr_ones 12 b < kr_ones 12 i ∨ (kr_ones 12 b = kr_ones 12 i ∧ b ≤ i)
theorem kx_bst_sp (P : Nat → Bool) : ∀ n, kx_Bst P n (kx_bst P n) := by
  intro n
  induction n with
  | zero => intro i h; omega
  | succ n ih =>
    cases hb : kx_bst P n with
    | none =>
      rw [hb] at ih
      rw [kx_bst_n hb]
      by_cases hp : P n = true
      · rw [if_pos hp]
        refine ⟨by omega, hp, fun i hi hpi => ?_⟩
        by_cases e : i = n
        · rw [e]; exact Or.inr ⟨rfl, Nat.le_refl _⟩
        · have := ih i (by omega)
          rw [hpi] at this; cases this
      · rw [if_neg hp]
        intro i hi
        by_cases e : i = n
        · rw [e]; simpa using hp
        · exact ih i (by omega)
    | some b =>
      rw [hb] at ih
      obtain ⟨h1, h2, h3⟩ := ih
      rw [kx_bst_y hb]
      by_cases c : kr_ones 12 n < kr_ones 12 b ∧ P n = true
      · rw [if_pos c]
        refine ⟨by omega, c.2, fun i hi hpi => ?_⟩
        by_cases e : i = n
        · rw [e]; exact Or.inr ⟨rfl, Nat.le_refl _⟩
        · rcases h3 i (by omega) hpi with h | h <;> exact Or.inl (by omega)
      · rw [if_neg c]
        refine ⟨by omega, h2, fun i hi hpi => ?_⟩
        by_cases e : i = n
        · rw [e] at hpi ⊢
          have : ¬ kr_ones 12 n < kr_ones 12 b := fun z => c ⟨z, hpi⟩
          omega
        · exact h3 i (by omega) hpi
theorem kx_Bst_eq {P : Nat → Bool} {n : Nat} {r : Option Nat} (h : kx_Bst P n r) : r = kx_bst P n := by
  have h' := kx_bst_sp P n
  cases hb : kx_bst P n with
  | none =>
    rw [hb] at h'
    cases r with
    | none => rfl
    | some b =>
      have := h' b h.1
      rw [h.2.1] at this; cases this
  | some b' =>
    rw [hb] at h'
    cases r with
    | none =>
      have := h b' h'.1
      rw [h'.2.1] at this; cases this
    | some b =>
      have h1 := h.2.2 b' h'.1 h'.2.1
      have h2 := h'.2.2 b h.1 h.2.1
      congr 1
      omega
theorem kx_bst_lt {P : Nat → Bool} {n b : Nat} (h : kx_bst P n = some b) : b < n := by
  have := kx_bst_sp P n
  rw [h] at this
  exact this.1
def kx_od : Option Nat → Int32
  | none => -4
  | some b => nI b
def kx_hc (g : Nat → Nat) (e : Nat) : Nat := g (62 + e)
/-- can the drawers who draw all of T -/
def kx_cd (g : Nat → Nat) (D T who : Nat) : Bool := kx_gv (fun l => kr_gk g l 2) D T (g 0) 0 (kx_wc who (kx_hc g))
theorem kx_p5 {D : Nat} (h : D ≤ 5) : 2 ^ D ≤ 32 := show 2 ^ D ≤ 2 ^ 5 from Nat.pow_le_pow_right (by decide) h
theorem c_M_fewestDrawers {d : Nat} {Q : kr_Q} {μ : kr_M} {g : Nat → Nat} {D T : Nat} (hM : kr_Mg μ g) (hg : kx_gb g) (hD : μ.1 65 3 = nI D) (hD5 : D ≤ 5) (hc : ∀ e, e < D → g (62 + e) ≤ 50) (hT : T < 2 ^ g 0) (k : ∀ μ', kr_keep [79, 80, 81] [(65, 33)] μ μ' → (∀ e, e < D → μ'.1 80 e = nI (kx_hc g e)) → Q (some (.int (kx_od (kx_bst (kx_cd g D T) (2 ^ D))))) μ') : kr_c (d + 3) i_M_fewestDrawers [.ref 65, .int (nI T)] μ Q := by
  have hp := kx_p5 hD5
  refine v_M_fewestDrawers (c_M_leftNow hM hD hD5 (fun μ1 hk1 h80 => v_M_fewestDrawers_4 ?_))
  have main : ∀ i, i ≤ 2 ^ D → ∀ μ', kr_keep [79, 80, 81] [(65, 33)] μ μ' → (∀ e, e < D → μ'.1 80 e = nI (kx_hc g e)) → kr_Wp C_M_fewestDrawers (kr_c (d + 2)) Q 9 [some (.ref 65), some (.int (nI T)), some (.int (kx_od (kx_bst (kx_cd g D T) i))), some (.int (nI i))] [] μ' := by
    refine kr_up (I := fun i => ∀ μ', kr_keep [79, 80, 81] [(65, 33)] μ μ' → (∀ e, e < D → μ'.1 80 e = nI (kx_hc g e)) → kr_Wp C_M_fewestDrawers (kr_c (d + 2)) Q 9 [some (.ref 65), some (.int (nI T)), some (.int (kx_od (kx_bst (kx_cd g D T) i))), some (.int (nI i))] [] μ') (2 ^ D) ?_ ?_
    · intro μ' hk h
      refine v_M_fewestDrawers_9 (br_t ?_ (k μ' hk h))
      rw [hk.2 65 3 (by decide) (by decide), hD, kr_1sh D (by omega)]
      exact Int32.le_refl _
    · intro i hi ih μ' hk h
      have hD' : μ'.1 65 3 = nI D := by rw [hk.2 65 3 (by decide) (by decide), hD]
      have hM' := hM.kp hk (by decide)
      have try_ : kx_bst (kx_cd g D T) (i + 1) = (if kx_cd g D T i = true then some i else kx_bst (kx_cd g D T) i) → kr_c (d + 2) i_M_findRow [.ref 65, .int (nI i)] μ' (kr_bk (kr_Wp C_M_fewestDrawers (kr_c (d + 2)) Q) 41 [some (.ref 65), some (.int (nI T)), some (.int (kx_od (kx_bst (kx_cd g D T) i))), some (.int (nI i))] []) := by
        intro hn
        refine c_M_findRow hD' hD5 (by omega) (fun μ2 hk2 hr2 => v_M_fewestDrawers_41 (c_M_canDraw (hM'.kp hk2 (by decide)) hg hr2 hD5 (fun e he => by rw [hk2.row (o := 80) (by decide) (by decide)]; exact h e he) (fun e he => by have := hc e he; unfold kx_hc; omega) hT (fun μ3 hk3 => v_M_fewestDrawers_46 ?_)))
        have hk' : kr_keep [79, 80, 81] [(65, 33)] μ μ3 := (hk.tr (hk2.wk (by decide) (by decide))).tr (hk3.wk (by decide) (by decide))
        have h' : ∀ e, e < D → μ3.1 80 e = nI (kx_hc g e) := fun e he => by rw [hk3.row (o := 80) (by decide) (by decide), hk2.row (o := 80) (by decide) (by decide)]; exact h e he
        have ih' := ih μ3 hk' h'
        rw [kr_n1]
        change ((if kx_cd g D T i = true then (1 : Int32) else 0) = 0 → _) ∧ (¬ (if kx_cd g D T i = true then (1 : Int32) else 0) = 0 → _)
        rw [hn] at ih'
        by_cases c : kx_cd g D T i = true
        · rw [if_pos c] at ih'
          rw [if_pos c]
          exact br_f (by decide) ih'
        · rw [if_neg c] at ih'
          rw [if_neg c]
          exact br_t rfl ih'
      refine v_M_fewestDrawers_9 (br_f ?_ ?_)
      · rw [hD', kr_1sh D (by omega)]
        exact nI_ge hi (by omega)
      cases hb : kx_bst (kx_cd g D T) i with
      | none =>
        have hn : kx_bst (kx_cd g D T) (i + 1) = (if kx_cd g D T i = true then some i else kx_bst (kx_cd g D T) i) := by
          rw [kx_bst_n hb, hb]
        have t := try_ hn
        rw [hb] at t
        exact br_t rfl t
      | some b =>
        have hbl := kx_bst_lt hb
        refine br_f (kx_neg4 (by omega)) (c_M_bitsOf (by omega) (v_M_fewestDrawers_29 ?_))
        show kr_c (d + 2) i_M_bitsOf [.int (nI b)] μ' _
        refine c_M_bitsOf (by omega) (v_M_fewestDrawers_33 ?_)
        have l1 := kr_ones_le i 12
        have l2 := kr_ones_le b 12
        rw [nI_leI (by omega) (by omega), kr_n1]
        refine ⟨fun c => ?_, fun c => ?_⟩
        · have hn : kx_bst (kx_cd g D T) (i + 1) = some b := by
            rw [kx_bst_y hb]
            exact if_neg (fun z => by omega)
          have ih' := ih μ' hk h
          rw [hn] at ih'
          exact ih'
        · have hn : kx_bst (kx_cd g D T) (i + 1) = (if kx_cd g D T i = true then some i else kx_bst (kx_cd g D T) i) := by
            rw [kx_bst_y hb, hb]
            by_cases c2 : kx_cd g D T i = true
            · rw [if_pos c2]; exact if_pos ⟨by omega, c2⟩
            · rw [if_neg c2]; exact if_neg (fun z => c2 z.2)
          have t := try_ hn
          rw [hb] at t
          exact t
  exact main 0 (Nat.zero_le _) μ1 (hk1.wk (by decide) (by decide)) h80
/-- who of the best draws line l; what is asked of a sharing -/
def kx_sh2 (g : Nat → Nat) (D S : Nat) (what : Int32) : Option Nat → Int32
  | none => -4
  | some who => if what = 1 then nI who else if what = 0 then nI (kr_ones 12 who) else if S.testBit (what - 10).toNatClampNeg = true then nI (kx_ga (fun l => kr_gk g l 2) D S (g 0) 0 (kx_wc who (kx_hc g)) (what - 10).toNatClampNeg) else -4
theorem kx_sh2_s (g : Nat → Nat) (D S : Nat) (what : Int32) (who : Nat) : kx_sh2 g D S what (some who) = if what = 1 then nI who else if what = 0 then nI (kr_ones 12 who) else if S.testBit (what - 10).toNatClampNeg = true then nI (kx_ga (fun l => kr_gk g l 2) D S (g 0) 0 (kx_wc who (kx_hc g)) (what - 10).toNatClampNeg) else -4 := rfl
def ax_share (g : Nat → Nat) (D : Nat) (x what : Int32) : Int32 :=
  if 0 ≤ x ∧ x ≤ ((1 : Int32) <<< (nI (g 0) &&& 31)) - 1 then (if 8 < kr_ones 12 x.toNatClampNeg then -1 else if what = 0 ∨ what = 1 ∨ (0 ≤ what - 10 ∧ what - 10 < nI (g 0)) then kx_sh2 g D x.toNatClampNeg what (kx_bst (kx_cd g D x.toNatClampNeg) (2 ^ D)) else -1) else -1
theorem kx_gv_congr {y : Nat → Nat} {D S S' : Nat} : ∀ n l c, (∀ j, l ≤ j → j < l + n → S.testBit j = S'.testBit j) → kx_gv y D S n l c = kx_gv y D S' n l c := by
  intro n
  induction n with
  | zero => intro l c _; rfl
  | succ n ih =>
    intro l c h
    unfold kx_gv
    rw [h l (Nat.le_refl l) (by omega)]
    have e : ∀ c, kx_gv y D S n (l + 1) c = kx_gv y D S' n (l + 1) c := fun c => ih (l + 1) c (fun j h1 h2 => h j (by omega) (by omega))
    simp only [e]
theorem kx_gv_skip {y : Nat → Nat} {D S : Nat} : ∀ m l n c, (∀ j, l ≤ j → j < l + m → S.testBit j = false) → kx_gv y D S (m + n) l c = kx_gv y D S n (l + m) c := by
  intro m
  induction m with
  | zero => intro l n c _; rw [Nat.zero_add, Nat.add_zero]
  | succ m ih =>
    intro l n c h
    rw [show m + 1 + n = (m + n) + 1 by omega, show l + (m + 1) = (l + 1) + m by omega]
    rw [← ih (l + 1) n c (fun j h1 h2 => h j (by omega) (by omega))]
    have := h l (Nat.le_refl l) (by omega)
    show (if S.testBit l = true then _ else _) = _
    rw [if_neg (by rw [this]; simp)]
/-- the lines of S behind l -/
def kx_re (S l : Nat) : Nat := kr_bm 31 (fun i => S.testBit i && decide (l ≤ i))
theorem kx_re_bit {S l i : Nat} (h : S < 2 ^ 31) : (kx_re S l).testBit i = (S.testBit i && decide (l ≤ i)) := by
  unfold kx_re
  rw [kr_bm_bit]
  by_cases e : i < 31
  · simp [e]
  · rw [kr_lt_bit h (by omega)]; simp
theorem kx_re_0 {S : Nat} (h : S < 2 ^ 31) : kx_re S 0 = S := by
  apply Nat.eq_of_testBit_eq
  intro i
  rw [kx_re_bit h]; simp
theorem kx_re_lt {S l : Nat} : kx_re S l < 2 ^ 31 := kr_bm_lt _ 31
theorem kx_re_cl {S l : Nat} (h : S < 2 ^ 31) : kr_cl (kx_re S l) l = kx_re S (l + 1) := by
  apply Nat.eq_of_testBit_eq
  intro i
  rw [kr_cl_bit kx_re_lt, kx_re_bit h, kx_re_bit h]
  by_cases e : i = l
  · subst e; simp
  · have : decide (l ≤ i) = decide (l + 1 ≤ i) := by congr 1; exact propext ⟨fun _ => by omega, fun _ => by omega⟩
    simp [e, this]
theorem kx_re_no {S l : Nat} (h : S < 2 ^ 31) (hb : S.testBit l = false) : kx_re S l = kx_re S (l + 1) := by
  rw [← kx_re_cl h]
  apply Nat.eq_of_testBit_eq
  intro i
  rw [kr_cl_bit kx_re_lt, kx_re_bit h]
  by_cases e : i = l
  · subst e; simp [hb]
  · simp [e]
theorem kx_re_sb {S l N : Nat} (h : S < 2 ^ N) (hN : N ≤ 12) : kx_re S l < 2 ^ N := by
  have hp := kx_p12 hN
  refine kx_sb_lt h (fun i hi => ?_)
  rw [kx_re_bit (by omega)] at hi
  simp at hi
  exact hi.1
theorem kx_gv_re {y : Nat → Nat} {D S N l : Nat} {c : Nat → Nat} (hS : S < 2 ^ 31) (hl : l ≤ N) : kx_gv y D (kx_re S l) N 0 c = kx_gv y D S (N - l) l c := by
  have h1 := kx_gv_skip (y := y) (D := D) (S := kx_re S l) l 0 (N - l) c (fun j _ hj => by rw [kx_re_bit hS]; simp; omega)
  rw [show l + (N - l) = N by omega, Nat.zero_add] at h1
  rw [h1]
  exact kx_gv_congr _ _ _ (fun j hj _ => by rw [kx_re_bit hS]; simp [hj])
theorem kx_ff_eq {P : Nat → Bool} {n j : Nat} (hj : j < n) (h : P j = true) (hn : ∀ i, i < j → P i = false) : kx_ff P n 0 = j := by
  have h1 := kx_ff_lt (P := P) (n := n) (i := 0) (j := j) (Nat.zero_le _) (by omega) h
  have h2 := kx_ff_yes P n 0 h1
  rcases Nat.lt_trichotomy (kx_ff P n 0) j with c | c | c
  · rw [hn _ c] at h2; cases h2
  · exact c
  · have := kx_ff_no P n 0 j (Nat.zero_le _) c
    rw [h] at this; cases this
theorem kx_wc_un {who d v : Nat} {h : Nat → Nat} (hb : who.testBit d = true) : kx_wc who (kx_un h d v) = kx_un (kx_wc who h) d v := by
  funext e
  unfold kx_wc
  by_cases c : e = d
  · rw [c, kx_un_s, kx_un_s, if_pos hb]
  · rw [kx_un_n _ _ c, kx_un_n _ _ c]
theorem kx_gv_s (y : Nat → Nat) (D S n l : Nat) (c : Nat → Nat) : kx_gv y D S (n + 1) l c = if S.testBit l = true then decide (kx_gd y D S n l c < D) else kx_gv y D S n (l + 1) c := rfl
theorem kx_ga_s (y : Nat → Nat) (D S n l : Nat) (c : Nat → Nat) : kx_ga y D S (n + 1) l c = if S.testBit l = true then (fun j => if j = l then kx_gd y D S n l c else kx_ga y D S n (l + 1) (kx_un c (kx_gd y D S n l c) (c (kx_gd y D S n l c) - y l)) j) else kx_ga y D S n (l + 1) c := rfl
theorem kx_un_un (f : Nat → Nat) (k v w : Nat) : kx_un (kx_un f k v) k w = kx_un f k w := by
  funext j
  by_cases c : j = k
  · rw [c, kx_un_s, kx_un_s]
  · rw [kx_un_n _ _ c, kx_un_n _ _ c, kx_un_n _ _ c]
theorem kx_un_self (f : Nat → Nat) (k v : Nat) (h : f k = v) : kx_un f k v = f := by
  funext j
  by_cases c : j = k
  · rw [c, kx_un_s, h]
  · rw [kx_un_n _ _ c]
theorem kx_01 (x : Int32) : ((0 : Int64) ≤ x.toInt64 ∧ x.toInt64 ≤ (1 : Int64)) ↔ (x = 0 ∨ x = 1) := by
  rw [show (0 : Int64) = ((0 : Int32)).toInt64 from by decide, show (1 : Int64) = ((1 : Int32)).toInt64 from by decide, kr_wle, kr_wle, kr_le, kr_le, kr_eqi x 0, kr_eqi x 1, show (0 : Int32).toInt = 0 from rfl, show (1 : Int32).toInt = 1 from rfl]
  omega
theorem kr_Rw.kp {μ μ' : kr_M} {who D : Nat} {W : List Nat} {F : List (Nat × Nat)} (h : kr_Rw μ who D) (k : kr_keep W F μ μ') (hW : (65 ∉ W ∧ (65, 33) ∉ F) ∧ 81 ∉ W ∧ ∀ q ∈ F, q.1 ≠ 81) : kr_Rw μ' who D :=
  ⟨by rw [k.2 65 33 hW.1.1 hW.1.2]; exact h.1, fun e he hb => by rw [k.row hW.2.1 hW.2.2]; exact h.2 e he hb⟩
theorem c_M_share {d : Nat} {Q : kr_Q} {μ : kr_M} {g : Nat → Nat} {D : Nat} (hM : kr_Mg μ g) (hg : kx_gb g) (hD : μ.1 65 3 = nI D) (hD5 : D ≤ 5) (hc : ∀ e, e < D → g (62 + e) ≤ 50) {x what : Int32} (k : ∀ μ', kr_keep [79, 80, 81] [(65, 33)] μ μ' → Q (some (.int (ax_share g D x what))) μ') : kr_c (d + 4) i_M_share [.ref 65, .int x, .int what] μ Q := by
  have hN := hg.1
  have hpD := kx_p5 hD5
  have hpN := kx_p12 hN
  refine v_M_share ?_
  rw [hM 0 (by decide)]
  unfold ax_share at k
  refine ⟨fun c => by rw [if_neg c] at k; exact k μ kr_keep.rf, fun c => ?_⟩
  rw [if_pos c] at k
  obtain ⟨S, hS, rfl⟩ := kr_set hN c
  rw [nI_clamp (by omega)] at k
  have l1 := kr_ones_le S 12
  refine c_M_bitsOf (by omega) (v_M_share_12 ?_)
  rw [show (8 : Int32) = nI 8 from rfl, nI_ltI (by omega) (by omega), kx_01, hM 0 (by decide), kr_le1 (by omega)]
  refine ⟨fun c8 => by rw [if_pos c8] at k; exact k μ kr_keep.rf, fun c8 => ?_⟩
  rw [if_neg c8] at k
  have go : (what = 0 ∨ what = 1 ∨ (0 ≤ what - 10 ∧ what - 10 < nI (g 0))) → kr_c (d + 3) i_M_fewestDrawers [.ref 65, .int (nI S)] μ (kr_bk (kr_Wp C_M_share (kr_c (d + 3)) Q) 45 [some (.ref 65), some (.int (nI S)), some (.int what), none, none, none, none, none] []) := by
    intro hq
    rw [if_pos hq] at k
    refine c_M_fewestDrawers hM hg hD hD5 hc hS (fun μ1 hk1 h80 => v_M_share_45 ?_)
    have k1 := k μ1 hk1
    cases hb : kx_bst (kx_cd g D S) (2 ^ D) with
    | none =>
      rw [hb] at k1
      exact ⟨fun z => absurd rfl z, fun _ => k1⟩
    | some who =>
      have hwl := kx_bst_lt hb
      have hok : kx_cd g D S who = true := by
        have := kx_bst_sp (kx_cd g D S) (2 ^ D)
        rw [hb] at this
        exact this.2.1
      refine ⟨fun _ => ?_, fun z => absurd z (kx_neg4 (a := who) (by omega))⟩
      by_cases w1 : what = 1
      · subst w1
        rw [hb] at k1
        exact br_f (by decide) ⟨fun _ => k1, fun z => absurd z (by decide)⟩
      by_cases w0 : what = 0
      · subst w0
        rw [hb] at k1
        exact br_f (by decide) ⟨fun z => absurd rfl z, fun _ => c_M_bitsOf (by omega) (v_M_share_68 k1)⟩
      obtain ⟨L, hL, e⟩ := kr_ix (by omega) (hq.resolve_left w0 |>.resolve_left w1)
      have ew : what = nI (L + 10) := by
        rw [← nI_add, ← e, show nI 10 = (10 : Int32) from rfl, Int32.sub_add_cancel]
      have kf : ∀ μ', kr_keep [79, 80, 81] [(65, 33)] μ μ' → Q (some (.int (if S.testBit L = true then nI (kx_ga (fun l => kr_gk g l 2) D S (g 0) 0 (kx_wc who (kx_hc g)) L) else -4))) μ' := by
        intro μ' hk'
        have k2 := k μ' hk'
        rw [hb] at k2
        rw [kx_sh2_s, if_neg w1, if_neg w0, e, nI_clamp (by omega)] at k2
        exact k2
      refine br_t (by rw [ew]; exact nI_le (a := 2) (by omega) (by omega)) ?_
      rw [e, kr_bit0 (by omega) (by omega)]
      refine ⟨fun cb => ?_, fun cb => by have k2 := kf μ1 hk1; rw [if_neg (by simp [cb])] at k2; exact k2⟩
      have cb : S.testBit L = true := by simpa using cb
      have hD1 : μ1.1 65 3 = nI D := by rw [hk1.2 65 3 (by decide) (by decide), hD]
      refine c_M_findRow hD1 hD5 (by omega) (fun μ2 hk2 hr2 => v_M_share_92 ?_)
      have main : ∀ l, l ≤ L + 1 → ∀ μ' h' fnd, kr_keep [79, 80, 81] [(65, 33)] μ μ' → kr_Rw μ' who D → (∀ e, e < D → μ'.1 80 e = nI (h' e)) → (∀ e, e < D → h' e < 1000) → kx_gv (fun l => kr_gk g l 2) D S (g 0 - l) l (kx_wc who h') = true → (∀ j, l ≤ j → j < g 0 → kx_ga (fun l => kr_gk g l 2) D S (g 0) 0 (kx_wc who (kx_hc g)) j = kx_ga (fun l => kr_gk g l 2) D S (g 0 - l) l (kx_wc who h') j) → (∀ j, l = j + 1 → S.testBit j = true → fnd = nI (kx_ga (fun l => kr_gk g l 2) D S (g 0) 0 (kx_wc who (kx_hc g)) j)) → kr_Wp C_M_share (kr_c (d + 3)) Q 102 [some (.ref 65), some (.int (nI S)), some (.int what), some (.int (nI who)), some (.int (nI (kx_re S l))), some (.int fnd), some (.int (nI l)), none] [] μ' := by
        refine kr_up (I := fun l => ∀ μ' h' fnd, kr_keep [79, 80, 81] [(65, 33)] μ μ' → kr_Rw μ' who D → (∀ e, e < D → μ'.1 80 e = nI (h' e)) → (∀ e, e < D → h' e < 1000) → kx_gv (fun l => kr_gk g l 2) D S (g 0 - l) l (kx_wc who h') = true → (∀ j, l ≤ j → j < g 0 → kx_ga (fun l => kr_gk g l 2) D S (g 0) 0 (kx_wc who (kx_hc g)) j = kx_ga (fun l => kr_gk g l 2) D S (g 0 - l) l (kx_wc who h') j) → (∀ j, l = j + 1 → S.testBit j = true → fnd = nI (kx_ga (fun l => kr_gk g l 2) D S (g 0) 0 (kx_wc who (kx_hc g)) j)) → kr_Wp C_M_share (kr_c (d + 3)) Q 102 [some (.ref 65), some (.int (nI S)), some (.int what), some (.int (nI who)), some (.int (nI (kx_re S l))), some (.int fnd), some (.int (nI l)), none] [] μ') (L + 1) ?_ ?_
        · intro μ' h' fnd hk hr h8 hh hgv hga hf
          refine v_M_share_102 (br_t (by rw [e]; exact nI_lt (by omega) (by omega)) ?_)
          rw [hf L rfl cb]
          have k2 := kf μ' hk
          rw [if_pos cb] at k2
          exact k2
        · intro l hl ih μ' h' fnd hk hr h8 hh hgv hga hf
          have hM' := hM.kp hk (by decide)
          have hD' : μ'.1 65 3 = nI D := by rw [hk.2 65 3 (by decide) (by decide), hD]
          refine v_M_share_102 (br_f (by rw [e]; exact nI_nlt (by omega) (by omega)) ?_)
          obtain ⟨n, hn⟩ : ∃ n, g 0 - l = n + 1 := ⟨g 0 - l - 1, by omega⟩
          have hn' : g 0 - (l + 1) = n := by omega
          have hre := kx_re_lt (S := S) (l := l)
          rw [hn, kx_gv_s] at hgv
          rw [kr_bit1 (by omega) (by omega), kr_andc hre (by omega), kx_re_cl (by omega), kr_n1]
          refine ⟨fun cl => ?_, fun cl => ?_⟩
          · rw [if_neg cl] at hgv
            rw [kx_re_no (l := l) (by omega) (by simpa using cl)]
            refine ih μ' h' (-4) hk hr h8 hh (by rw [hn']; exact hgv) (fun j hj1 hj2 => ?_) (fun j hj hbj => ?_)
            · rw [hga j (by omega) hj2, hn, hn', kx_ga_s, if_neg cl]
            · rw [show j = l by omega] at hbj; exact absurd hbj cl
          · rw [if_pos cl] at hgv
            simp only [decide_eq_true_eq] at hgv
            have hy := hg.2.2 l (by omega)
            have hyes := kx_ff_yes (fun d => decide (kr_gk g l 2 ≤ kx_wc who h' d) && kx_gv (fun l => kr_gk g l 2) D S n (l + 1) (kx_un (kx_wc who h') d (kx_wc who h' d - kr_gk g l 2))) D 0 (by rw [Nat.zero_add]; exact hgv)
            have hno := kx_ff_no (fun d => decide (kr_gk g l 2 ≤ kx_wc who h' d) && kx_gv (fun l => kr_gk g l 2) D S n (l + 1) (kx_un (kx_wc who h') d (kx_wc who h' d - kr_gk g l 2))) D 0
            change _ = true at hyes
            have hgaX := kx_ga_s (fun l => kr_gk g l 2) D S n l (kx_wc who h')
            rw [if_pos cl] at hgaX
            change (decide (kr_gk g l 2 ≤ kx_wc who h' (kx_gd (fun l => kr_gk g l 2) D S n l (kx_wc who h'))) && kx_gv (fun l => kr_gk g l 2) D S n (l + 1) (kx_un (kx_wc who h') (kx_gd (fun l => kr_gk g l 2) D S n l (kx_wc who h')) (kx_wc who h' (kx_gd (fun l => kr_gk g l 2) D S n l (kx_wc who h')) - kr_gk g l 2))) = true at hyes
            change ∀ j, 0 ≤ j → j < kx_gd (fun l => kr_gk g l 2) D S n l (kx_wc who h') → (decide (kr_gk g l 2 ≤ kx_wc who h' j) && kx_gv (fun l => kr_gk g l 2) D S n (l + 1) (kx_un (kx_wc who h') j (kx_wc who h' j - kr_gk g l 2))) = false at hno
            generalize kx_gd (fun l => kr_gk g l 2) D S n l (kx_wc who h') = dd at hgv hyes hno hgaX
            have hwd : ∀ e, kr_gk g l 2 ≤ kx_wc who h' e → who.testBit e = true := by
              intro e he
              apply Decidable.byContradiction
              intro z
              unfold kx_wc at he
              rw [if_neg z] at he
              omega
            have hwv : ∀ e, who.testBit e = true → kx_wc who h' e = h' e := fun e he => if_pos he
            simp only [Bool.and_eq_true, decide_eq_true_eq] at hyes
            -- can draw the rest, with d's yards given
            have cdr : ∀ dr μ'', dr < D → who.testBit dr = true → kr_gk g l 2 ≤ h' dr → kr_keep [79, 80, 81] [(65, 33)] μ μ'' → kr_Rw μ'' who D → (∀ e, e < D → μ''.1 80 e = nI (h' e)) → ∀ Q' : kr_Q, (∀ μ3, kr_keep [79, 80, 81] [(65, 33)] μ μ3 → kr_Rw μ3 who D → (∀ e, e < D → μ3.1 80 e = nI (kx_un h' dr (h' dr - kr_gk g l 2) e)) → Q' (some (.int (if kx_gv (fun l => kr_gk g l 2) D S n (l + 1) (kx_un (kx_wc who h') dr (kx_wc who h' dr - kr_gk g l 2)) = true then 1 else 0))) μ3) → kr_c (d + 3) i_M_canDraw [.ref 65, .int (nI (kx_re S (l + 1)))] (kr_u μ'' 80 dr (nI (h' dr) - nI (kr_gk g l 2))) Q' := by
              intro dr μ'' hdr hbd hle hk4 hr4 h84 Q' hQ'
              have hk5 : kr_keep [79, 80, 81] [(65, 33)] μ (kr_u μ'' 80 dr (nI (h' dr) - nI (kr_gk g l 2))) := hk4.u _ _ (by decide)
              have hu8 : ∀ e, e < D → (kr_u μ'' 80 dr (nI (h' dr) - nI (kr_gk g l 2))).1 80 e = nI (kx_un h' dr (h' dr - kr_gk g l 2) e) := by
                intro e he
                rw [kr_u_s]
                by_cases ce : e = dr
                · rw [ce, kr_upd_s, kx_un_s, pk_sub hle]
                · rw [kr_upd_n _ _ ce, kx_un_n _ _ ce]; exact h84 e he
              have hr5 : kr_Rw (kr_u μ'' 80 dr (nI (h' dr) - nI (kr_gk g l 2))) who D := ⟨by rw [kr_u_n _ _ _ (by decide)]; exact hr4.1, fun e he hb => by rw [kr_u_n _ _ _ (by decide)]; exact hr4.2 e he hb⟩
              refine c_M_canDraw (d := d + 1) (h := kx_un h' dr (h' dr - kr_gk g l 2)) (hM.kp hk5 (by decide)) hg hr5 hD5 hu8 (fun e he => ?_) (kx_re_sb hS hN) (fun μ3 hk3 => ?_)
              · by_cases ce : e = dr
                · rw [ce, kx_un_s]; have := hh dr hdr; omega
                · rw [kx_un_n _ _ ce]; exact hh e he
              rw [kx_gv_re (by omega) (by omega), hn', kx_wc_un hbd, ← hwv dr hbd]
              refine hQ' μ3 (hk5.tr (hk3.wk (by decide) (by decide))) (hr5.kp hk3 (by decide)) (fun e he => ?_)
              rw [hk3.row (o := 80) (by decide) (by decide)]
              exact hu8 e he
            have inner : ∀ dr, dr ≤ dd → ∀ μ'', kr_keep [79, 80, 81] [(65, 33)] μ μ'' → kr_Rw μ'' who D → (∀ e, e < D → μ''.1 80 e = nI (h' e)) → kr_Wp C_M_share (kr_c (d + 3)) Q 139 [some (.ref 65), some (.int (nI S)), some (.int what), some (.int (nI who)), some (.int (nI (kx_re S (l + 1)))), some (.int (-4)), some (.int (nI l)), some (.int (nI dr))] [] μ'' := by
              refine kr_up (I := fun dr => ∀ μ'', kr_keep [79, 80, 81] [(65, 33)] μ μ'' → kr_Rw μ'' who D → (∀ e, e < D → μ''.1 80 e = nI (h' e)) → kr_Wp C_M_share (kr_c (d + 3)) Q 139 [some (.ref 65), some (.int (nI S)), some (.int what), some (.int (nI who)), some (.int (nI (kx_re S (l + 1)))), some (.int (-4)), some (.int (nI l)), some (.int (nI dr))] [] μ'') dd ?_ ?_
              · intro μ'' hk4 hr4 h84
                have hbd := hwd dd hyes.1
                have hle : kr_gk g l 2 ≤ h' dd := by have := hyes.1; rw [hwv dd hbd] at this; exact this
                have hM4 := hM.kp hk4 (by decide)
                have hD4 : μ''.1 65 3 = nI D := by rw [hk4.2 65 3 (by decide) (by decide), hD]
                have v5 : vp_in (nI dd) 5 := vp_in_nI (by omega) (by decide)
                have hd1000 := hh dd hgv
                refine v_M_share_139 (br_f (by rw [hD4]; exact nI_ge hgv (by omega)) ⟨fun z => absurd rfl z, fun _ => ⟨fun z => ?_, fun _ => ⟨v5, kr_ofv2 (by omega), ?_⟩⟩⟩)
                · rw [kr_bit1 (by omega) (by omega)] at z; exact absurd hbd z
                rw [nI_clamp (by omega), h84 dd hgv, kr_ofg2 hM4 (by omega)]
                refine br_f (nI_nlt hle (by omega)) ⟨v5, kr_ofv2 (by omega), v5, ?_⟩
                refine cdr dd μ'' hgv hbd hle hk4 hr4 h84 _ (fun μ3 hk3 hr3 h83 => v_M_share_205 ?_)
                rw [if_pos hyes.2]
                refine br_f (by decide) ⟨v5, fun _ => ⟨v5, ?_⟩, fun z => absurd z (kx_neg4 (by omega))⟩
                rw [nI_clamp (by omega), h83 dd hgv, kr_n1, kx_un_s, show ∀ z : Int32, z + 0 = z from fun z => by simp]
                have hk6 : kr_keep [79, 80, 81] [(65, 33)] μ (kr_u μ3 80 dd (nI (h' dd - kr_gk g l 2))) := hk3.u _ _ (by decide)
                have hr6 : kr_Rw (kr_u μ3 80 dd (nI (h' dd - kr_gk g l 2))) who D := ⟨by rw [kr_u_n _ _ _ (by decide)]; exact hr3.1, fun e he hb => by rw [kr_u_n _ _ _ (by decide)]; exact hr3.2 e he hb⟩
                have fin : kr_Wp C_M_share (kr_c (d + 3)) Q 102 [some (.ref 65), some (.int (nI S)), some (.int what), some (.int (nI who)), some (.int (nI (kx_re S (l + 1)))), some (.int (nI dd)), some (.int (nI (l + 1))), none] [] (kr_u μ3 80 dd (nI (h' dd - kr_gk g l 2))) := by
                  refine ih _ (kx_un h' dd (h' dd - kr_gk g l 2)) (nI dd) hk6 hr6 (fun e he => ?_) (fun e he => ?_) ?_ (fun j hj1 hj2 => ?_) (fun j hj hbj => ?_)
                  · rw [kr_u_s]
                    by_cases ce : e = dd
                    · rw [ce, kr_upd_s, kx_un_s]
                    · rw [kr_upd_n _ _ ce]; exact h83 e he
                  · by_cases ce : e = dd
                    · rw [ce, kx_un_s]; omega
                    · rw [kx_un_n _ _ ce]; exact hh e he
                  · rw [hn', kx_wc_un hbd, ← hwv dd hbd]; exact hyes.2
                  · rw [hga j (by omega) hj2, hn, hgaX, hn', kx_wc_un hbd, ← hwv dd hbd]
                    exact if_neg (by omega)
                  · rw [show j = l by omega, hga l (Nat.le_refl l) (by omega), hn, hgaX]
                    exact congrArg nI (if_pos rfl).symm
                refine v_M_share_139 ⟨fun _ => ?_, fun _ => ⟨fun _ => ?_, fun z => absurd z (kx_neg4 (by omega))⟩⟩ <;> rw [kr_n1] <;> exact fin
              · intro dr hdr ih2 μ'' hk4 hr4 h84
                have hno2 := hno dr (Nat.zero_le _) hdr
                have hM4 := hM.kp hk4 (by decide)
                have hD4 : μ''.1 65 3 = nI D := by rw [hk4.2 65 3 (by decide) (by decide), hD]
                have v5 : vp_in (nI dr) 5 := vp_in_nI (by omega) (by decide)
                have hd1000 := hh dr (by omega)
                refine v_M_share_139 (br_f (by rw [hD4]; exact nI_ge (show dr < D by omega) (by omega)) ⟨fun z => absurd rfl z, fun _ => ?_⟩)
                rw [kr_bit1 (by omega) (by omega), kr_n1]
                refine ⟨fun z => ih2 μ'' hk4 hr4 h84, fun hbd => ⟨v5, kr_ofv2 (by omega), ?_⟩⟩
                rw [nI_clamp (by omega), h84 dr (by omega), kr_ofg2 hM4 (by omega), nI_ltI (by omega) (by omega)]
                refine ⟨fun z => ih2 μ'' hk4 hr4 h84, fun z => ⟨v5, kr_ofv2 (by omega), v5, ?_⟩⟩
                have hle : kr_gk g l 2 ≤ h' dr := by omega
                refine cdr dr μ'' (by omega) hbd hle hk4 hr4 h84 _ (fun μ3 hk3 hr3 h83 => v_M_share_205 ?_)
                have hgf : ¬ kx_gv (fun l => kr_gk g l 2) D S n (l + 1) (kx_un (kx_wc who h') dr (kx_wc who h' dr - kr_gk g l 2)) = true := by
                  intro y
                  rw [y, hwv dr hbd] at hno2
                  simp [hle] at hno2
                rw [if_neg hgf]
                refine br_t rfl ⟨v5, kr_ofv2 (by omega), v5, ?_⟩
                rw [nI_clamp (by omega), h83 dr (by omega), kr_ofg2 (hM.kp hk3 (by decide)) (by omega), kr_n1, kx_un_s, nI_add, show h' dr - kr_gk g l 2 + kr_gk g l 2 = h' dr by omega]
                refine ih2 _ (hk3.u _ _ (by decide)) ⟨by rw [kr_u_n _ _ _ (by decide)]; exact hr3.1, fun e he hb => by rw [kr_u_n _ _ _ (by decide)]; exact hr3.2 e he hb⟩ (fun e he => ?_)
                rw [kr_u_s]
                by_cases ce : e = dr
                · rw [ce, kr_upd_s]
                · rw [kr_upd_n _ _ ce, h83 e he, kx_un_n _ _ ce]
            exact inner 0 (Nat.zero_le _) μ' hk hr h8
      have st := main 0 (Nat.zero_le _) μ2 (kx_hc g) (-4) (hk1.tr (hk2.wk (by decide) (by decide))) hr2 (fun e he => by rw [hk2.row (o := 80) (by decide) (by decide)]; exact h80 e he) (fun e he => by have := hc e he; unfold kx_hc; omega) (by rw [Nat.sub_zero]; exact hok) (fun j _ _ => by rw [Nat.sub_zero]) (fun j hj => by omega)
      rw [kx_re_0 (by omega)] at st
      exact st
  refine ⟨fun c1 => go (c1.elim Or.inl (fun z => Or.inr (Or.inl z))), fun c1 => ⟨fun c2 => go (Or.inr (Or.inr c2)), fun c2 => ?_⟩⟩
  rw [if_neg (fun z => by
    rcases z with z | z | z
    · exact c1 (Or.inl z)
    · exact c1 (Or.inr z)
    · exact c2 z)] at k
  exact k μ kr_keep.rf
