/-! a run in the reference -/
theorem st_M_startRun {d : Nat} {Q : kr_Q} {pc : Nat} {ls : kr_L} {st : List Value} {μ : kr_M} (h : C_M_startRun pc (kr_Wp C_M_startRun (kr_c d) Q) (kr_c d) Q ls st μ) : kr_Wp C_M_startRun (kr_c d) Q pc ls st μ := kr_Wp.step (fun pc => (kr_ok_M_startRun pc).2) (kr_c_om d) h
theorem v_M_startRun {d : Nat} {Q : kr_Q} {μ : kr_M}  (h : kr_c (d + 2) i_M_strongNow [.ref 65] μ (kr_bk (kr_Wp C_M_startRun (kr_c (d + 2)) Q) 4 [some (.ref 65), none] [])) : kr_c (d + 3) i_M_startRun [.ref 65] μ Q := ⟨rfl, (st_M_startRun (st_M_startRun (And.intro rfl h)))⟩
theorem v_M_startRun_11 {d : Nat} {Q : kr_Q} {μ : kr_M} {a1 : Int32} (h : (((μ.1 65 4) ≤ a1 → Q none μ) ∧ (¬ ((μ.1 65 4) ≤ a1) → vp_in ((3 : Int32) * a1) 15 ∧ vp_in a1 5 ∧ vp_in a1 5 ∧ vp_in a1 5 ∧ vp_in a1 5 ∧ vp_in a1 5 ∧ kr_Wp C_M_startRun (kr_c (d + 2)) Q 11 [some (.ref 65), some (.int (a1 + 1))] [] (kr_u (kr_u (kr_u (kr_u (kr_u μ 74 a1.toNatClampNeg (μ.1 68 (((3 : Int32) * a1).toNatClampNeg))) 75 a1.toNatClampNeg (-4)) 76 a1.toNatClampNeg 0) 77 a1.toNatClampNeg (-4)) 78 a1.toNatClampNeg 0)))) : kr_Wp C_M_startRun (kr_c (d + 2)) Q 11 [some (.ref 65), some (.int a1)] [] μ := (st_M_startRun (st_M_startRun (st_M_startRun (And.intro rfl (st_M_startRun (And.intro (fun z1x => (st_M_startRun (h.1 z1x))) (fun z1x => (st_M_startRun (st_M_startRun (And.intro rfl (st_M_startRun (st_M_startRun (st_M_startRun (And.intro rfl (st_M_startRun (st_M_startRun (st_M_startRun (st_M_startRun (And.intro ⟨15, rfl, (h.2 z1x).1⟩ (st_M_startRun (And.intro ⟨5, rfl, (h.2 z1x).2.1⟩ (st_M_startRun (st_M_startRun (And.intro rfl (st_M_startRun (st_M_startRun (st_M_startRun (And.intro ⟨5, rfl, (h.2 z1x).2.2.1⟩ (st_M_startRun (st_M_startRun (And.intro rfl (st_M_startRun (st_M_startRun (st_M_startRun (And.intro ⟨5, rfl, (h.2 z1x).2.2.2.1⟩ (st_M_startRun (st_M_startRun (And.intro rfl (st_M_startRun (st_M_startRun (st_M_startRun (And.intro ⟨5, rfl, (h.2 z1x).2.2.2.2.1⟩ (st_M_startRun (st_M_startRun (And.intro rfl (st_M_startRun (st_M_startRun (st_M_startRun (And.intro ⟨5, rfl, (h.2 z1x).2.2.2.2.2.1⟩ (st_M_startRun (st_M_startRun (h.2 z1x).2.2.2.2.2.2)))))))))))))))))))))))))))))))))))))))))))))))))))
theorem v_M_startRun_4 {d : Nat} {Q : kr_Q} {μ : kr_M}  (h : kr_Wp C_M_startRun (kr_c (d + 2)) Q 11 [some (.ref 65), some (.int 0)] [] (kr_u μ 65 28 0)) : kr_Wp C_M_startRun (kr_c (d + 2)) Q 4 [some (.ref 65), none] [] μ := (st_M_startRun (st_M_startRun (st_M_startRun (And.intro rfl (st_M_startRun (st_M_startRun h))))))
theorem st_M_loses {d : Nat} {Q : kr_Q} {pc : Nat} {ls : kr_L} {st : List Value} {μ : kr_M} (h : C_M_loses pc (kr_Wp C_M_loses (kr_c d) Q) (kr_c d) Q ls st μ) : kr_Wp C_M_loses (kr_c d) Q pc ls st μ := kr_Wp.step (fun pc => (kr_ok_M_loses pc).2) (kr_c_om d) h
theorem v_M_loses {d : Nat} {Q : kr_Q} {μ : kr_M}  (h : kr_Wp C_M_loses (kr_c d) Q 2 [some (.ref 65), some (.int 0)] [] μ) : kr_c (d + 1) i_M_loses [.ref 65] μ Q := ⟨rfl, (st_M_loses (st_M_loses h))⟩
theorem v_M_loses_2 {d : Nat} {Q : kr_Q} {μ : kr_M} {a1 : Int32} (h : (((μ.1 65 4) ≤ a1 → Q none μ) ∧ (¬ ((μ.1 65 4) ≤ a1) → vp_in a1 5 ∧ (((μ.1 75 a1.toNatClampNeg) = (-4) → kr_Wp C_M_loses (kr_c d) Q 2 [some (.ref 65), some (.int (a1 + 1))] [] μ) ∧ (¬ ((μ.1 75 a1.toNatClampNeg) = (-4)) → vp_in a1 5 ∧ vp_in (μ.1 75 a1.toNatClampNeg) 12 ∧ ((¬ (μ.1 72 ((μ.1 75 a1.toNatClampNeg).toNatClampNeg)) = 0 → kr_Wp C_M_loses (kr_c d) Q 2 [some (.ref 65), some (.int (a1 + 1))] [] μ) ∧ ((μ.1 72 ((μ.1 75 a1.toNatClampNeg).toNatClampNeg)) = 0 → vp_in a1 5 ∧ kr_Wp C_M_loses (kr_c d) Q 2 [some (.ref 65), some (.int (a1 + 1))] [] (kr_u (kr_u μ 65 28 ((μ.1 65 28) ||| ((1 : Int32) <<< (a1 &&& 31)))) 75 a1.toNatClampNeg (-4))))))))) : kr_Wp C_M_loses (kr_c d) Q 2 [some (.ref 65), some (.int a1)] [] μ := (st_M_loses (st_M_loses (st_M_loses (And.intro rfl (st_M_loses (And.intro (fun z1x => (st_M_loses (h.1 z1x))) (fun z1x => (st_M_loses (st_M_loses (And.intro rfl (st_M_loses (st_M_loses (And.intro ⟨5, rfl, (h.2 z1x).1⟩ (st_M_loses (st_M_loses (And.intro (fun z2x => (st_M_loses (st_M_loses ((h.2 z1x).2.1 z2x)))) (fun z2x => (st_M_loses (st_M_loses (And.intro rfl (st_M_loses (st_M_loses (And.intro rfl (st_M_loses (st_M_loses (And.intro ⟨5, rfl, ((h.2 z1x).2.2 z2x).1⟩ (st_M_loses (And.intro ⟨12, rfl, ((h.2 z1x).2.2 z2x).2.1⟩ (st_M_loses (And.intro (fun z3x => (st_M_loses (st_M_loses (((h.2 z1x).2.2 z2x).2.2.1 z3x)))) (fun z3x => (st_M_loses (st_M_loses (st_M_loses (And.intro rfl (st_M_loses (st_M_loses (st_M_loses (st_M_loses (st_M_loses (And.intro rfl (st_M_loses (st_M_loses (And.intro rfl (st_M_loses (st_M_loses (st_M_loses (And.intro ⟨5, rfl, (((h.2 z1x).2.2 z2x).2.2.2 (Decidable.not_not.mp z3x)).1⟩ (st_M_loses (st_M_loses (((h.2 z1x).2.2 z2x).2.2.2 (Decidable.not_not.mp z3x)).2))))))))))))))))))))))))))))))))))))))))))))))))))
theorem st_M_rains {d : Nat} {Q : kr_Q} {pc : Nat} {ls : kr_L} {st : List Value} {μ : kr_M} (h : C_M_rains pc (kr_Wp C_M_rains (kr_c d) Q) (kr_c d) Q ls st μ) : kr_Wp C_M_rains (kr_c d) Q pc ls st μ := kr_Wp.step (fun pc => (kr_ok_M_rains pc).2) (kr_c_om d) h
theorem v_M_rains {d : Nat} {Q : kr_Q} {μ : kr_M}  (h : kr_Wp C_M_rains (kr_c (d + 1)) Q 2 [some (.ref 65), some (.int 0)] [] μ) : kr_c (d + 2) i_M_rains [.ref 65] μ Q := ⟨rfl, (st_M_rains (st_M_rains h))⟩
theorem v_M_rains_2 {d : Nat} {Q : kr_Q} {μ : kr_M} {a1 : Int32} (h : (((μ.1 66 0) ≤ a1 → kr_c (d + 1) i_M_loses [.ref 65] μ (kr_bk (kr_Wp C_M_rains (kr_c (d + 1)) Q) 54 [some (.ref 65), some (.int a1)] [])) ∧ (¬ ((μ.1 66 0) ≤ a1) → vp_in a1 12 ∧ vp_in (((1 : Int32) + ((5 : Int32) * a1)) + (4 : Int32)) 375 ∧ ((¬ (μ.1 66 ((((1 : Int32) + ((5 : Int32) * a1)) + (4 : Int32)).toNatClampNeg)) = 0 → vp_in a1 12 ∧ kr_Wp C_M_rains (kr_c (d + 1)) Q 2 [some (.ref 65), some (.int (a1 + 1))] [] (kr_u μ 72 a1.toNatClampNeg ((μ.1 72 a1.toNatClampNeg) - (0 : Int32)))) ∧ ((μ.1 66 ((((1 : Int32) + ((5 : Int32) * a1)) + (4 : Int32)).toNatClampNeg)) = 0 → vp_in a1 12 ∧ (((μ.1 72 a1.toNatClampNeg) ≤ 0 → vp_in a1 12 ∧ kr_Wp C_M_rains (kr_c (d + 1)) Q 2 [some (.ref 65), some (.int (a1 + 1))] [] (kr_u μ 72 a1.toNatClampNeg ((μ.1 72 a1.toNatClampNeg) - (0 : Int32)))) ∧ (¬ ((μ.1 72 a1.toNatClampNeg) ≤ 0) → vp_in a1 12 ∧ kr_Wp C_M_rains (kr_c (d + 1)) Q 2 [some (.ref 65), some (.int (a1 + 1))] [] (kr_u μ 72 a1.toNatClampNeg ((μ.1 72 a1.toNatClampNeg) - (1 : Int32)))))))))) : kr_Wp C_M_rains (kr_c (d + 1)) Q 2 [some (.ref 65), some (.int a1)] [] μ := (st_M_rains (st_M_rains (st_M_rains (And.intro rfl (st_M_rains (st_M_rains (And.intro ⟨375, rfl, kr_vp rfl⟩ (st_M_rains (And.intro (fun z1x => (st_M_rains (st_M_rains (And.intro rfl (h.1 z1x))))) (fun z1x => (st_M_rains (st_M_rains (And.intro rfl (st_M_rains (st_M_rains (st_M_rains (And.intro ⟨12, rfl, (h.2 z1x).1⟩ (st_M_rains (st_M_rains (st_M_rains (st_M_rains (And.intro rfl (c_M_of (h.2 z1x).2.1 (st_M_rains (And.intro (fun z2x => (st_M_rains (st_M_rains (st_M_rains (And.intro ⟨12, rfl, ((h.2 z1x).2.2.1 z2x).1⟩ (st_M_rains (st_M_rains ((h.2 z1x).2.2.1 z2x).2))))))) (fun z2x => (st_M_rains (st_M_rains (And.intro rfl (st_M_rains (st_M_rains (And.intro ⟨12, rfl, ((h.2 z1x).2.2.2 (Decidable.not_not.mp z2x)).1⟩ (st_M_rains (And.intro (fun z3x => (st_M_rains (st_M_rains (st_M_rains (And.intro ⟨12, rfl, (((h.2 z1x).2.2.2 (Decidable.not_not.mp z2x)).2.1 z3x).1⟩ (st_M_rains (st_M_rains (((h.2 z1x).2.2.2 (Decidable.not_not.mp z2x)).2.1 z3x).2))))))) (fun z3x => (st_M_rains (st_M_rains (st_M_rains (st_M_rains (And.intro ⟨12, rfl, (((h.2 z1x).2.2.2 (Decidable.not_not.mp z2x)).2.2 z3x).1⟩ (st_M_rains (st_M_rains (((h.2 z1x).2.2.2 (Decidable.not_not.mp z2x)).2.2 z3x).2))))))))))))))))))))))))))))))))))))))))))
theorem v_M_rains_54 {d : Nat} {Q : kr_Q} {μ : kr_M} {a1 : Int32} (h : Q none μ) : kr_Wp C_M_rains (kr_c (d + 1)) Q 54 [some (.ref 65), some (.int a1)] [] μ := (st_M_rains h)
theorem st_M_arrives {d : Nat} {Q : kr_Q} {pc : Nat} {ls : kr_L} {st : List Value} {μ : kr_M} (h : C_M_arrives pc (kr_Wp C_M_arrives (kr_c d) Q) (kr_c d) Q ls st μ) : kr_Wp C_M_arrives (kr_c d) Q pc ls st μ := kr_Wp.step (fun pc => (kr_ok_M_arrives pc).2) (kr_c_om d) h
theorem v_M_arrives {d : Nat} {Q : kr_Q} {μ : kr_M} {a1 : Int32} {a2 : Int32} (h : vp_in a1 5 ∧ vp_in a1 5 ∧ kr_c (d + 2) i_M_otherEnd [.ref 65, .int (μ.1 75 a1.toNatClampNeg), .int (μ.1 74 a1.toNatClampNeg)] μ (kr_bk (kr_Wp C_M_arrives (kr_c (d + 2)) Q) 23 [some (.ref 65), some (.int a1), some (.int a2), some (.int (μ.1 75 a1.toNatClampNeg))] [.int a1, .ref 74])) : kr_c (d + 3) i_M_arrives [.ref 65, .int a1, .int a2] μ Q := ⟨rfl, (st_M_arrives (st_M_arrives (And.intro rfl (st_M_arrives (st_M_arrives (And.intro ⟨5, rfl, h.1⟩ (st_M_arrives (st_M_arrives (st_M_arrives (And.intro rfl (st_M_arrives (st_M_arrives (st_M_arrives (st_M_arrives (st_M_arrives (And.intro rfl (st_M_arrives (st_M_arrives (And.intro ⟨5, rfl, h.2.1⟩ (st_M_arrives (And.intro rfl h.2.2)))))))))))))))))))))⟩
theorem v_M_arrives_23 {d : Nat} {Q : kr_Q} {μ : kr_M} {a1 : Int32} {a2 : Int32} {a3 : Int32} {r : Int32} {s0 : Int32} (h : vp_in s0 5 ∧ vp_in a1 5 ∧ vp_in a3 12 ∧ vp_in a3 12 ∧ (((μ.1 72 a3.toNatClampNeg) ≤ 0 → vp_in a3 12 ∧ vp_in a1 5 ∧ vp_in (((3 : Int32) * a1) + (1 : Int32)) 15 ∧ ((¬ (upd (μ.1 74) s0.toNatClampNeg r a1.toNatClampNeg) = (μ.1 68 ((((3 : Int32) * a1) + (1 : Int32)).toNatClampNeg)) → vp_in a1 5 ∧ vp_in a1 5 ∧ kr_c (d + 2) i_M_loses [.ref 65] (kr_u (kr_u (kr_u (kr_u μ 74 s0.toNatClampNeg r) 75 a1.toNatClampNeg (-4)) 72 a3.toNatClampNeg ((μ.1 72 a3.toNatClampNeg) - (0 : Int32))) 77 a1.toNatClampNeg (μ.1 77 a1.toNatClampNeg)) (kr_bk (kr_Wp C_M_arrives (kr_c (d + 2)) Q) 105 [some (.ref 65), some (.int a1), some (.int a2), some (.int a3)] [])) ∧ ((upd (μ.1 74) s0.toNatClampNeg r a1.toNatClampNeg) = (μ.1 68 ((((3 : Int32) * a1) + (1 : Int32)).toNatClampNeg)) → vp_in a1 5 ∧ ((¬ (μ.1 77 a1.toNatClampNeg) = (-4) → vp_in a1 5 ∧ vp_in a1 5 ∧ kr_c (d + 2) i_M_loses [.ref 65] (kr_u (kr_u (kr_u (kr_u μ 74 s0.toNatClampNeg r) 75 a1.toNatClampNeg (-4)) 72 a3.toNatClampNeg ((μ.1 72 a3.toNatClampNeg) - (0 : Int32))) 77 a1.toNatClampNeg (μ.1 77 a1.toNatClampNeg)) (kr_bk (kr_Wp C_M_arrives (kr_c (d + 2)) Q) 105 [some (.ref 65), some (.int a1), some (.int a2), some (.int a3)] [])) ∧ ((μ.1 77 a1.toNatClampNeg) = (-4) → vp_in a1 5 ∧ kr_c (d + 2) i_M_loses [.ref 65] (kr_u (kr_u (kr_u (kr_u μ 74 s0.toNatClampNeg r) 75 a1.toNatClampNeg (-4)) 72 a3.toNatClampNeg ((μ.1 72 a3.toNatClampNeg) - (0 : Int32))) 77 a1.toNatClampNeg a2) (kr_bk (kr_Wp C_M_arrives (kr_c (d + 2)) Q) 105 [some (.ref 65), some (.int a1), some (.int a2), some (.int a3)] [])))))) ∧ (¬ ((μ.1 72 a3.toNatClampNeg) ≤ 0) → vp_in a3 12 ∧ vp_in a1 5 ∧ vp_in (((3 : Int32) * a1) + (1 : Int32)) 15 ∧ ((¬ (upd (μ.1 74) s0.toNatClampNeg r a1.toNatClampNeg) = (μ.1 68 ((((3 : Int32) * a1) + (1 : Int32)).toNatClampNeg)) → vp_in a1 5 ∧ vp_in a1 5 ∧ kr_c (d + 2) i_M_loses [.ref 65] (kr_u (kr_u (kr_u (kr_u μ 74 s0.toNatClampNeg r) 75 a1.toNatClampNeg (-4)) 72 a3.toNatClampNeg ((μ.1 72 a3.toNatClampNeg) - (1 : Int32))) 77 a1.toNatClampNeg (μ.1 77 a1.toNatClampNeg)) (kr_bk (kr_Wp C_M_arrives (kr_c (d + 2)) Q) 105 [some (.ref 65), some (.int a1), some (.int a2), some (.int a3)] [])) ∧ ((upd (μ.1 74) s0.toNatClampNeg r a1.toNatClampNeg) = (μ.1 68 ((((3 : Int32) * a1) + (1 : Int32)).toNatClampNeg)) → vp_in a1 5 ∧ ((¬ (μ.1 77 a1.toNatClampNeg) = (-4) → vp_in a1 5 ∧ vp_in a1 5 ∧ kr_c (d + 2) i_M_loses [.ref 65] (kr_u (kr_u (kr_u (kr_u μ 74 s0.toNatClampNeg r) 75 a1.toNatClampNeg (-4)) 72 a3.toNatClampNeg ((μ.1 72 a3.toNatClampNeg) - (1 : Int32))) 77 a1.toNatClampNeg (μ.1 77 a1.toNatClampNeg)) (kr_bk (kr_Wp C_M_arrives (kr_c (d + 2)) Q) 105 [some (.ref 65), some (.int a1), some (.int a2), some (.int a3)] [])) ∧ ((μ.1 77 a1.toNatClampNeg) = (-4) → vp_in a1 5 ∧ kr_c (d + 2) i_M_loses [.ref 65] (kr_u (kr_u (kr_u (kr_u μ 74 s0.toNatClampNeg r) 75 a1.toNatClampNeg (-4)) 72 a3.toNatClampNeg ((μ.1 72 a3.toNatClampNeg) - (1 : Int32))) 77 a1.toNatClampNeg a2) (kr_bk (kr_Wp C_M_arrives (kr_c (d + 2)) Q) 105 [some (.ref 65), some (.int a1), some (.int a2), some (.int a3)] [])))))))) : kr_Wp C_M_arrives (kr_c (d + 2)) Q 23 [some (.ref 65), some (.int a1), some (.int a2), some (.int a3)] [.int r, .int s0, .ref 74] μ := (st_M_arrives (And.intro ⟨5, rfl, h.1⟩ (st_M_arrives (st_M_arrives (And.intro rfl (st_M_arrives (st_M_arrives (st_M_arrives (And.intro ⟨5, rfl, h.2.1⟩ (st_M_arrives (st_M_arrives (And.intro rfl (st_M_arrives (st_M_arrives (st_M_arrives (And.intro ⟨12, rfl, h.2.2.1⟩ (st_M_arrives (st_M_arrives (And.intro rfl (st_M_arrives (st_M_arrives (And.intro ⟨12, rfl, h.2.2.2.1⟩ (st_M_arrives (And.intro (fun z1x => (st_M_arrives (st_M_arrives (st_M_arrives (And.intro ⟨12, rfl, (h.2.2.2.2.1 z1x).1⟩ (st_M_arrives (st_M_arrives (And.intro rfl (st_M_arrives (st_M_arrives (st_M_arrives (And.intro rfl (st_M_arrives (st_M_arrives (And.intro ⟨5, rfl, (h.2.2.2.2.1 z1x).2.1⟩ (st_M_arrives (st_M_arrives (And.intro rfl (st_M_arrives (st_M_arrives (st_M_arrives (st_M_arrives (st_M_arrives (st_M_arrives (And.intro ⟨15, rfl, (h.2.2.2.2.1 z1x).2.2.1⟩ (st_M_arrives (And.intro (fun z2x => (st_M_arrives (st_M_arrives (And.intro rfl (st_M_arrives (st_M_arrives (And.intro ⟨5, rfl, ((h.2.2.2.2.1 z1x).2.2.2.1 z2x).1⟩ (st_M_arrives (And.intro ⟨5, rfl, ((h.2.2.2.2.1 z1x).2.2.2.1 z2x).2.1⟩ (st_M_arrives (st_M_arrives (And.intro rfl ((h.2.2.2.2.1 z1x).2.2.2.1 z2x).2.2)))))))))))) (fun z2x => (st_M_arrives (st_M_arrives (And.intro rfl (st_M_arrives (st_M_arrives (And.intro ⟨5, rfl, ((h.2.2.2.2.1 z1x).2.2.2.2 (Decidable.not_not.mp z2x)).1⟩ (st_M_arrives (st_M_arrives (And.intro (fun z3x => (st_M_arrives (st_M_arrives (And.intro rfl (st_M_arrives (st_M_arrives (And.intro ⟨5, rfl, (((h.2.2.2.2.1 z1x).2.2.2.2 (Decidable.not_not.mp z2x)).2.1 z3x).1⟩ (st_M_arrives (And.intro ⟨5, rfl, (((h.2.2.2.2.1 z1x).2.2.2.2 (Decidable.not_not.mp z2x)).2.1 z3x).2.1⟩ (st_M_arrives (st_M_arrives (And.intro rfl (((h.2.2.2.2.1 z1x).2.2.2.2 (Decidable.not_not.mp z2x)).2.1 z3x).2.2)))))))))))) (fun z3x => (st_M_arrives (st_M_arrives (st_M_arrives (And.intro ⟨5, rfl, (((h.2.2.2.2.1 z1x).2.2.2.2 (Decidable.not_not.mp z2x)).2.2 (Decidable.not_not.mp z3x)).1⟩ (st_M_arrives (st_M_arrives (And.intro rfl (((h.2.2.2.2.1 z1x).2.2.2.2 (Decidable.not_not.mp z2x)).2.2 (Decidable.not_not.mp z3x)).2))))))))))))))))))))))))))))))))))))))))))))) (fun z1x => (st_M_arrives (st_M_arrives (st_M_arrives (st_M_arrives (And.intro ⟨12, rfl, (h.2.2.2.2.2 z1x).1⟩ (st_M_arrives (st_M_arrives (And.intro rfl (st_M_arrives (st_M_arrives (st_M_arrives (And.intro rfl (st_M_arrives (st_M_arrives (And.intro ⟨5, rfl, (h.2.2.2.2.2 z1x).2.1⟩ (st_M_arrives (st_M_arrives (And.intro rfl (st_M_arrives (st_M_arrives (st_M_arrives (st_M_arrives (st_M_arrives (st_M_arrives (And.intro ⟨15, rfl, (h.2.2.2.2.2 z1x).2.2.1⟩ (st_M_arrives (And.intro (fun z4x => (st_M_arrives (st_M_arrives (And.intro rfl (st_M_arrives (st_M_arrives (And.intro ⟨5, rfl, ((h.2.2.2.2.2 z1x).2.2.2.1 z4x).1⟩ (st_M_arrives (And.intro ⟨5, rfl, ((h.2.2.2.2.2 z1x).2.2.2.1 z4x).2.1⟩ (st_M_arrives (st_M_arrives (And.intro rfl ((h.2.2.2.2.2 z1x).2.2.2.1 z4x).2.2)))))))))))) (fun z4x => (st_M_arrives (st_M_arrives (And.intro rfl (st_M_arrives (st_M_arrives (And.intro ⟨5, rfl, ((h.2.2.2.2.2 z1x).2.2.2.2 (Decidable.not_not.mp z4x)).1⟩ (st_M_arrives (st_M_arrives (And.intro (fun z5x => (st_M_arrives (st_M_arrives (And.intro rfl (st_M_arrives (st_M_arrives (And.intro ⟨5, rfl, (((h.2.2.2.2.2 z1x).2.2.2.2 (Decidable.not_not.mp z4x)).2.1 z5x).1⟩ (st_M_arrives (And.intro ⟨5, rfl, (((h.2.2.2.2.2 z1x).2.2.2.2 (Decidable.not_not.mp z4x)).2.1 z5x).2.1⟩ (st_M_arrives (st_M_arrives (And.intro rfl (((h.2.2.2.2.2 z1x).2.2.2.2 (Decidable.not_not.mp z4x)).2.1 z5x).2.2)))))))))))) (fun z5x => (st_M_arrives (st_M_arrives (st_M_arrives (And.intro ⟨5, rfl, (((h.2.2.2.2.2 z1x).2.2.2.2 (Decidable.not_not.mp z4x)).2.2 (Decidable.not_not.mp z5x)).1⟩ (st_M_arrives (st_M_arrives (And.intro rfl (((h.2.2.2.2.2 z1x).2.2.2.2 (Decidable.not_not.mp z4x)).2.2 (Decidable.not_not.mp z5x)).2))))))))))))))))))))))))))))))))))))))))))))))))))))))))))))))))))))))
theorem v_M_arrives_105 {d : Nat} {Q : kr_Q} {μ : kr_M} {a1 : Int32} {a2 : Int32} {a3 : Int32} (h : Q none μ) : kr_Wp C_M_arrives (kr_c (d + 2)) Q 105 [some (.ref 65), some (.int a1), some (.int a2), some (.int a3)] [] μ := (st_M_arrives h)
theorem st_M_goesOne {d : Nat} {Q : kr_Q} {pc : Nat} {ls : kr_L} {st : List Value} {μ : kr_M} (h : C_M_goesOne pc (kr_Wp C_M_goesOne (kr_c d) Q) (kr_c d) Q ls st μ) : kr_Wp C_M_goesOne (kr_c d) Q pc ls st μ := kr_Wp.step (fun pc => (kr_ok_M_goesOne pc).2) (kr_c_om d) h
theorem v_M_goesOne {d : Nat} {Q : kr_Q} {μ : kr_M} {a1 : Int32} {a2 : Int32} (h : ((¬ (((μ.1 65 28) >>> (a1 &&& 31)) &&& (1 : Int32)) = 1 → vp_in a1 5 ∧ (((μ.1 75 a1.toNatClampNeg) = (-4) → vp_in a1 5 ∧ vp_in (((3 : Int32) * a1) + (1 : Int32)) 15 ∧ (((μ.1 74 a1.toNatClampNeg) = (μ.1 68 ((((3 : Int32) * a1) + (1 : Int32)).toNatClampNeg)) → Q none μ) ∧ (¬ ((μ.1 74 a1.toNatClampNeg) = (μ.1 68 ((((3 : Int32) * a1) + (1 : Int32)).toNatClampNeg))) → vp_in (((3 : Int32) * a1) + (2 : Int32)) 15 ∧ (((μ.1 68 ((((3 : Int32) * a1) + (2 : Int32)).toNatClampNeg)) < a2 → vp_in (((3 : Int32) * a1) + (1 : Int32)) 15 ∧ kr_c (d + 3) i_M_findLeast [.ref 65, .int (μ.1 68 ((((3 : Int32) * a1) + (1 : Int32)).toNatClampNeg))] μ (kr_bk (kr_Wp C_M_goesOne (kr_c (d + 3)) Q) 98 [some (.ref 65), some (.int a1), some (.int a2)] [])) ∧ (¬ ((μ.1 68 ((((3 : Int32) * a1) + (2 : Int32)).toNatClampNeg)) < a2) → Q none μ))))) ∧ (¬ ((μ.1 75 a1.toNatClampNeg) = (-4)) → vp_in a1 5 ∧ vp_in a1 5 ∧ vp_in a1 5 ∧ ((¬ (upd (μ.1 76) a1.toNatClampNeg ((μ.1 76 a1.toNatClampNeg) - (1 : Int32)) a1.toNatClampNeg) = 0 → Q none (kr_u μ 76 a1.toNatClampNeg ((μ.1 76 a1.toNatClampNeg) - (1 : Int32)))) ∧ ((upd (μ.1 76) a1.toNatClampNeg ((μ.1 76 a1.toNatClampNeg) - (1 : Int32)) a1.toNatClampNeg) = 0 → kr_c (d + 3) i_M_arrives [.ref 65, .int a1, .int a2] (kr_u μ 76 a1.toNatClampNeg ((μ.1 76 a1.toNatClampNeg) - (1 : Int32))) (kr_bk (kr_Wp C_M_goesOne (kr_c (d + 3)) Q) 49 [some (.ref 65), some (.int a1), some (.int a2)] [])))))) ∧ ((((μ.1 65 28) >>> (a1 &&& 31)) &&& (1 : Int32)) = 1 → Q none μ))) : kr_c (d + 4) i_M_goesOne [.ref 65, .int a1, .int a2] μ Q := ⟨rfl, (st_M_goesOne (st_M_goesOne (And.intro rfl (st_M_goesOne (st_M_goesOne (st_M_goesOne (st_M_goesOne (st_M_goesOne (st_M_goesOne (And.intro (fun z1x => (st_M_goesOne (st_M_goesOne (And.intro rfl (st_M_goesOne (st_M_goesOne (And.intro ⟨5, rfl, (h.1 z1x).1⟩ (st_M_goesOne (st_M_goesOne (And.intro (fun z2x => (st_M_goesOne (st_M_goesOne (And.intro rfl (st_M_goesOne (st_M_goesOne (And.intro ⟨5, rfl, ((h.1 z1x).2.1 z2x).1⟩ (st_M_goesOne (st_M_goesOne (And.intro rfl (st_M_goesOne (st_M_goesOne (st_M_goesOne (st_M_goesOne (st_M_goesOne (st_M_goesOne (And.intro ⟨15, rfl, ((h.1 z1x).2.1 z2x).2.1⟩ (st_M_goesOne (And.intro (fun z3x => (st_M_goesOne (((h.1 z1x).2.1 z2x).2.2.1 z3x))) (fun z3x => (st_M_goesOne (st_M_goesOne (st_M_goesOne (And.intro rfl (st_M_goesOne (st_M_goesOne (st_M_goesOne (st_M_goesOne (st_M_goesOne (st_M_goesOne (And.intro ⟨15, rfl, (((h.1 z1x).2.1 z2x).2.2.2 z3x).1⟩ (st_M_goesOne (And.intro (fun z4x => (st_M_goesOne (st_M_goesOne (st_M_goesOne (And.intro rfl (st_M_goesOne (st_M_goesOne (st_M_goesOne (st_M_goesOne (st_M_goesOne (st_M_goesOne (And.intro ⟨15, rfl, ((((h.1 z1x).2.1 z2x).2.2.2 z3x).2.1 z4x).1⟩ (st_M_goesOne (And.intro rfl ((((h.1 z1x).2.1 z2x).2.2.2 z3x).2.1 z4x).2)))))))))))))) (fun z4x => (st_M_goesOne ((((h.1 z1x).2.1 z2x).2.2.2 z3x).2.2 z4x)))))))))))))))))))))))))))))))))))) (fun z2x => (st_M_goesOne (st_M_goesOne (And.intro rfl (st_M_goesOne (st_M_goesOne (st_M_goesOne (And.intro ⟨5, rfl, ((h.1 z1x).2.2 z2x).1⟩ (st_M_goesOne (st_M_goesOne (st_M_goesOne (And.intro ⟨5, rfl, ((h.1 z1x).2.2 z2x).2.1⟩ (st_M_goesOne (st_M_goesOne (And.intro rfl (st_M_goesOne (st_M_goesOne (And.intro ⟨5, rfl, ((h.1 z1x).2.2 z2x).2.2.1⟩ (st_M_goesOne (And.intro (fun z5x => (st_M_goesOne (((h.1 z1x).2.2 z2x).2.2.2.1 z5x))) (fun z5x => (st_M_goesOne (st_M_goesOne (st_M_goesOne (st_M_goesOne (And.intro rfl (((h.1 z1x).2.2 z2x).2.2.2.2 (Decidable.not_not.mp z5x)))))))))))))))))))))))))))))))))))))) (fun z1x => (st_M_goesOne (h.2 (Decidable.not_not.mp z1x))))))))))))))⟩
theorem v_M_goesOne_98 {d : Nat} {Q : kr_Q} {μ : kr_M} {a1 : Int32} {a2 : Int32} (h : vp_in a1 5 ∧ vp_in (μ.1 74 a1.toNatClampNeg) 9 ∧ ((¬ (μ.1 73 ((μ.1 74 a1.toNatClampNeg).toNatClampNeg)) = 1000000000 → vp_in a1 5 ∧ kr_c (d + 3) i_M_firstLine [.ref 65, .int (μ.1 74 a1.toNatClampNeg)] μ (kr_bk (kr_Wp C_M_goesOne (kr_c (d + 3)) Q) 140 [some (.ref 65), some (.int a1), some (.int a2)] [.int a1, .ref 75])) ∧ ((μ.1 73 ((μ.1 74 a1.toNatClampNeg).toNatClampNeg)) = 1000000000 → vp_in a1 5 ∧ vp_in a1 5 ∧ Q none (kr_u μ 78 a1.toNatClampNeg ((μ.1 78 a1.toNatClampNeg) + (1 : Int32)))))) : kr_Wp C_M_goesOne (kr_c (d + 3)) Q 98 [some (.ref 65), some (.int a1), some (.int a2)] [] μ := (st_M_goesOne (st_M_goesOne (And.intro rfl (st_M_goesOne (st_M_goesOne (And.intro rfl (st_M_goesOne (st_M_goesOne (And.intro ⟨5, rfl, h.1⟩ (st_M_goesOne (And.intro ⟨9, rfl, h.2.1⟩ (st_M_goesOne (st_M_goesOne (And.intro (fun z1x => (st_M_goesOne (st_M_goesOne (And.intro rfl (st_M_goesOne (st_M_goesOne (st_M_goesOne (st_M_goesOne (And.intro rfl (st_M_goesOne (st_M_goesOne (And.intro ⟨5, rfl, (h.2.2.1 z1x).1⟩ (st_M_goesOne (And.intro rfl (h.2.2.1 z1x).2)))))))))))))) (fun z1x => (st_M_goesOne (st_M_goesOne (And.intro rfl (st_M_goesOne (st_M_goesOne (st_M_goesOne (And.intro ⟨5, rfl, (h.2.2.2 (Decidable.not_not.mp z1x)).1⟩ (st_M_goesOne (st_M_goesOne (st_M_goesOne (And.intro ⟨5, rfl, (h.2.2.2 (Decidable.not_not.mp z1x)).2.1⟩ (st_M_goesOne (h.2.2.2 (Decidable.not_not.mp z1x)).2.2)))))))))))))))))))))))))))
theorem v_M_goesOne_49 {d : Nat} {Q : kr_Q} {μ : kr_M} {a1 : Int32} {a2 : Int32} (h : Q none μ) : kr_Wp C_M_goesOne (kr_c (d + 3)) Q 49 [some (.ref 65), some (.int a1), some (.int a2)] [] μ := (st_M_goesOne h)
theorem v_M_goesOne_140 {d : Nat} {Q : kr_Q} {μ : kr_M} {a1 : Int32} {a2 : Int32} {r : Int32} {s0 : Int32} (h : vp_in s0 5 ∧ vp_in a1 5 ∧ vp_in (((1 : Int32) + ((5 : Int32) * (upd (μ.1 75) s0.toNatClampNeg r a1.toNatClampNeg))) + (2 : Int32)) 375 ∧ vp_in a1 5 ∧ Q none (kr_u (kr_u μ 75 s0.toNatClampNeg r) 76 a1.toNatClampNeg (μ.1 66 ((((1 : Int32) + ((5 : Int32) * (upd (μ.1 75) s0.toNatClampNeg r a1.toNatClampNeg))) + (2 : Int32)).toNatClampNeg)))) : kr_Wp C_M_goesOne (kr_c (d + 3)) Q 140 [some (.ref 65), some (.int a1), some (.int a2)] [.int r, .int s0, .ref 75] μ := (st_M_goesOne (And.intro ⟨5, rfl, h.1⟩ (st_M_goesOne (st_M_goesOne (And.intro rfl (st_M_goesOne (st_M_goesOne (st_M_goesOne (st_M_goesOne (And.intro rfl (st_M_goesOne (st_M_goesOne (And.intro ⟨5, rfl, h.2.1⟩ (st_M_goesOne (st_M_goesOne (And.intro rfl (c_M_of h.2.2.1 (st_M_goesOne (And.intro ⟨5, rfl, h.2.2.2.1⟩ (st_M_goesOne h.2.2.2.2))))))))))))))))))))
theorem st_M_runs {d : Nat} {Q : kr_Q} {pc : Nat} {ls : kr_L} {st : List Value} {μ : kr_M} (h : C_M_runs pc (kr_Wp C_M_runs (kr_c d) Q) (kr_c d) Q ls st μ) : kr_Wp C_M_runs (kr_c d) Q pc ls st μ := kr_Wp.step (fun pc => (kr_ok_M_runs pc).2) (kr_c_om d) h
theorem v_M_runs {d : Nat} {Q : kr_Q} {μ : kr_M} {a1 : Int32} (h : kr_c (d + 4) i_M_startRun [.ref 65] μ (kr_bk (kr_Wp C_M_runs (kr_c (d + 4)) Q) 4 [some (.ref 65), some (.int a1), none, none] [])) : kr_c (d + 5) i_M_runs [.ref 65, .int a1] μ Q := ⟨rfl, (st_M_runs (st_M_runs (And.intro rfl h)))⟩
theorem v_M_runs_6 {d : Nat} {Q : kr_Q} {μ : kr_M} {a1 : Int32} {a2 : Int32} (h : ((a1 < a2 → Q none μ) ∧ (¬ (a1 < a2) → (((40 : Int32) < a2 → ((¬ a2 = (μ.1 65 29) → kr_Wp C_M_runs (kr_c (d + 4)) Q 44 [some (.ref 65), some (.int a1), some (.int a2), some (.int 0)] [] μ) ∧ (a2 = (μ.1 65 29) → kr_c (d + 4) i_M_rains [.ref 65] μ (kr_bk (kr_Wp C_M_runs (kr_c (d + 4)) Q) 42 [some (.ref 65), some (.int a1), some (.int a2), none] [])))) ∧ (¬ ((40 : Int32) < a2) → vp_in ((67 : Int32) + a2) 375 ∧ (((μ.1 66 (((67 : Int32) + a2).toNatClampNeg)) = 1 → kr_c (d + 4) i_M_rains [.ref 65] μ (kr_bk (kr_Wp C_M_runs (kr_c (d + 4)) Q) 42 [some (.ref 65), some (.int a1), some (.int a2), none] [])) ∧ (¬ ((μ.1 66 (((67 : Int32) + a2).toNatClampNeg)) = 1) → ((¬ a2 = (μ.1 65 29) → kr_Wp C_M_runs (kr_c (d + 4)) Q 44 [some (.ref 65), some (.int a1), some (.int a2), some (.int 0)] [] μ) ∧ (a2 = (μ.1 65 29) → kr_c (d + 4) i_M_rains [.ref 65] μ (kr_bk (kr_Wp C_M_runs (kr_c (d + 4)) Q) 42 [some (.ref 65), some (.int a1), some (.int a2), none] [])))))))))) : kr_Wp C_M_runs (kr_c (d + 4)) Q 6 [some (.ref 65), some (.int a1), some (.int a2), none] [] μ := (st_M_runs (st_M_runs (st_M_runs (And.intro (fun z1x => (st_M_runs (h.1 z1x))) (fun z1x => (st_M_runs (st_M_runs (st_M_runs (And.intro (fun z2x => (st_M_runs (st_M_runs (st_M_runs (And.intro rfl (st_M_runs (And.intro (fun z3x => (st_M_runs (st_M_runs (((h.2 z1x).1 z2x).1 z3x)))) (fun z3x => (st_M_runs (st_M_runs (And.intro rfl (((h.2 z1x).1 z2x).2 (Decidable.not_not.mp z3x))))))))))))) (fun z2x => (st_M_runs (st_M_runs (And.intro rfl (st_M_runs (st_M_runs (st_M_runs (st_M_runs (And.intro ⟨375, rfl, ((h.2 z1x).2 z2x).1⟩ (st_M_runs (st_M_runs (And.intro (fun z4x => (st_M_runs (st_M_runs (And.intro rfl (((h.2 z1x).2 z2x).2.1 z4x))))) (fun z4x => (st_M_runs (st_M_runs (st_M_runs (And.intro rfl (st_M_runs (And.intro (fun z5x => (st_M_runs (st_M_runs ((((h.2 z1x).2 z2x).2.2 z4x).1 z5x)))) (fun z5x => (st_M_runs (st_M_runs (And.intro rfl ((((h.2 z1x).2 z2x).2.2 z4x).2 (Decidable.not_not.mp z5x))))))))))))))))))))))))))))))))))
theorem v_M_runs_44 {d : Nat} {Q : kr_Q} {μ : kr_M} {a1 : Int32} {a2 : Int32} {a3 : Int32} (h : (((μ.1 65 4) ≤ a3 → kr_Wp C_M_runs (kr_c (d + 4)) Q 6 [some (.ref 65), some (.int a1), some (.int (a2 + 1)), none] [] μ) ∧ (¬ ((μ.1 65 4) ≤ a3) → kr_c (d + 4) i_M_goesOne [.ref 65, .int a3, .int a2] μ (kr_bk (kr_Wp C_M_runs (kr_c (d + 4)) Q) 58 [some (.ref 65), some (.int a1), some (.int a2), some (.int a3)] [])))) : kr_Wp C_M_runs (kr_c (d + 4)) Q 44 [some (.ref 65), some (.int a1), some (.int a2), some (.int a3)] [] μ := (st_M_runs (st_M_runs (st_M_runs (And.intro rfl (st_M_runs (And.intro (fun z1x => (st_M_runs (st_M_runs (kr_Wp.lm [true, true, true, false] (h.1 z1x))))) (fun z1x => (st_M_runs (st_M_runs (st_M_runs (st_M_runs (And.intro rfl (h.2 z1x)))))))))))))
theorem v_M_runs_4 {d : Nat} {Q : kr_Q} {μ : kr_M} {a1 : Int32} (h : kr_Wp C_M_runs (kr_c (d + 4)) Q 6 [some (.ref 65), some (.int a1), some (.int 1), none] [] μ) : kr_Wp C_M_runs (kr_c (d + 4)) Q 4 [some (.ref 65), some (.int a1), none, none] [] μ := (st_M_runs (st_M_runs h))
theorem v_M_runs_42 {d : Nat} {Q : kr_Q} {μ : kr_M} {a1 : Int32} {a2 : Int32} (h : kr_Wp C_M_runs (kr_c (d + 4)) Q 44 [some (.ref 65), some (.int a1), some (.int a2), some (.int 0)] [] μ) : kr_Wp C_M_runs (kr_c (d + 4)) Q 42 [some (.ref 65), some (.int a1), some (.int a2), none] [] μ := (st_M_runs (st_M_runs h))
theorem v_M_runs_58 {d : Nat} {Q : kr_Q} {μ : kr_M} {a1 : Int32} {a2 : Int32} {a3 : Int32} (h : kr_Wp C_M_runs (kr_c (d + 4)) Q 44 [some (.ref 65), some (.int a1), some (.int a2), some (.int (a3 + 1))] [] μ) : kr_Wp C_M_runs (kr_c (d + 4)) Q 58 [some (.ref 65), some (.int a1), some (.int a2), some (.int a3)] [] μ := (st_M_runs (st_M_runs h))
theorem kx_bm_set {n i : Nat} {P P' : Nat → Bool} (hi : i < n) (h1 : P' i = true) (h2 : ∀ j, j ≠ i → P' j = P j) : kr_bm n P' = kr_bm n P ||| 2 ^ i := by
  apply Nat.eq_of_testBit_eq
  intro j
  rw [Nat.testBit_or, kr_bm_bit, kr_bm_bit, Nat.testBit_two_pow]
  by_cases e : j = i
  · subst e; simp [h1, hi]
  · have e2 : ¬ i = j := fun z => e z.symm
    rw [h2 j e]
    simp [e2]
def kx_on (a : Nat) : Int32 := if 100 ≤ a ∧ a < 1000 then nI (a - 100) else -4
def kx_mm (m : Nat) : Int32 := if m = 0 then -4 else nI m
/-- the reference's rows in a run -/
def kr_RM (μ : kr_M) (N K : Nat) (R : kx_R) : Prop := (∀ l, l < N → μ.1 72 l = nI (R.1 l)) ∧ μ.1 65 28 = nI (kr_bm K (fun p => R.2.1 p == 1000)) ∧
  ∀ p, p < K → μ.1 75 p = kx_on (R.2.1 p) ∧ (R.2.1 p < 1000 → μ.1 74 p = nI (if R.2.1 p < 100 then R.2.1 p else R.2.2.1 p)) ∧ (100 ≤ R.2.1 p → R.2.1 p < 1000 → μ.1 76 p = nI (R.2.2.2.1 p)) ∧ μ.1 78 p = nI (R.2.2.2.2.1 p) ∧ μ.1 77 p = kx_mm (R.2.2.2.2.2 p)
/-- who they are -/
def kr_PM (μ : kr_M) (K : Nat) (t : Nat → Nat) : Prop := μ.1 65 4 = nI K ∧ ∀ j, j < 3 * K → μ.1 68 j = nI (t j)
theorem kr_PM.kp {W : List Nat} {F : List (Nat × Nat)} {μ μ' : kr_M} {K : Nat} {t : Nat → Nat} (h : kr_PM μ K t) (k : kr_keep W F μ μ') (hW : (65 ∉ W ∧ (65, 4) ∉ F) ∧ 68 ∉ W ∧ ∀ q ∈ F, q.1 ≠ 68) : kr_PM μ' K t := by
  unfold kr_PM
  rw [k.2 65 4 hW.1.1 hW.1.2, k.row hW.2.1 hW.2.2]
  exact h
theorem kx_on_n {a : Nat} (ha : a ≤ 1000) : kx_on a = -4 ↔ ¬ (100 ≤ a ∧ a < 1000) := by
  unfold kx_on
  by_cases c : 100 ≤ a ∧ a < 1000
  · rw [if_pos c]
    refine ⟨fun z => ?_, fun z => absurd c z⟩
    exfalso
    have h1 := congrArg Int32.toInt z
    rw [nI_toInt (by omega)] at h1
    have h4 : (-4 : Int32).toInt = -4 := rfl
    omega
  · rw [if_neg c]
    exact ⟨fun _ => c, fun _ => rfl⟩
theorem kx_neg4 {a : Nat} (ha : a < 2 ^ 31) : ¬ nI a = (-4 : Int32) := by
  intro z
  have h1 := congrArg Int32.toInt z
  rw [nI_toInt (by omega)] at h1
  have h4 : (-4 : Int32).toInt = -4 := rfl
  omega
theorem c_M_loses {d : Nat} {Q : kr_Q} {μ : kr_M} {N K : Nat} {R : kx_R} (hN : N ≤ 12) (hK : μ.1 65 4 = nI K) (hK5 : K ≤ 5) (hR : kr_RM μ N K R) (hA : ∀ p, p < K → R.2.1 p ≤ 1000 ∧ (100 ≤ R.2.1 p → R.2.1 p < 1000 → R.2.1 p - 100 < N)) (hs : ∀ l, l < N → R.1 l < 2 ^ 31) (k : ∀ μ', kr_keep [75] [(65, 28)] μ μ' → kr_RM μ' N K (kx_lo K R) → Q none μ') : kr_c (d + 1) i_M_loses [.ref 65] μ Q := by
  refine v_M_loses ?_
  have main : ∀ i, i ≤ K → ∀ μ', kr_keep [75] [(65, 28)] μ μ' → kr_RM μ' N K (kx_lo i R) → kr_Wp C_M_loses (kr_c d) Q 2 [some (.ref 65), some (.int (nI i))] [] μ' := by
    refine kr_up (I := fun i => ∀ μ', kr_keep [75] [(65, 28)] μ μ' → kr_RM μ' N K (kx_lo i R) → kr_Wp C_M_loses (kr_c d) Q 2 [some (.ref 65), some (.int (nI i))] [] μ') K ?_ ?_
    · intro μ' hk hr
      refine v_M_loses_2 (br_t ?_ (k μ' hk hr))
      rw [hk.2 65 4 (by decide) (by decide), hK]
      exact Int32.le_refl _
    · intro i hi ih μ' hk hr
      obtain ⟨r1, r2, r3⟩ := hr
      obtain ⟨p1, p2, p3, p4, p5⟩ := r3 i hi
      obtain ⟨a1, a2⟩ := hA i hi
      have ei : (kx_lo i R).2.1 i = R.2.1 i := if_neg (fun z => absurd z.1 (Nat.lt_irrefl _))
      have vi : vp_in (nI i) 5 := vp_in_nI (by omega) (by decide)
      rw [ei] at p1
      refine v_M_loses_2 (br_f ?_ ⟨vi, ?_⟩)
      · rw [hk.2 65 4 (by decide) (by decide), hK]
        exact nI_ge hi (by omega)
      rw [nI_clamp (by omega), p1, kx_on_n a1, kr_n1]
      have same : ¬ (100 ≤ R.2.1 i ∧ R.2.1 i < 1000 ∧ R.1 (R.2.1 i - 100) = 0) → kx_lo (i + 1) R = kx_lo i R := by
        intro c
        unfold kx_lo
        congr 2
        funext p
        by_cases e : p = i
        · subst e
          rw [if_neg (fun z => c z.2), if_neg (fun z => c z.2)]
        · have : (p < i + 1 ∧ 100 ≤ R.2.1 p ∧ R.2.1 p < 1000 ∧ R.1 (R.2.1 p - 100) = 0) ↔ (p < i ∧ 100 ≤ R.2.1 p ∧ R.2.1 p < 1000 ∧ R.1 (R.2.1 p - 100) = 0) := ⟨fun z => ⟨by omega, z.2⟩, fun z => ⟨by omega, z.2⟩⟩
          simp only [this]
      refine ⟨fun c => ?_, fun c => ?_⟩
      · rw [same (fun z => c ⟨z.1, z.2.1⟩)] at ih
        exact ih μ' hk ⟨r1, r2, r3⟩
      have c := Decidable.not_not.mp c
      have hl := a2 c.1 c.2
      have eon : kx_on (R.2.1 i) = nI (R.2.1 i - 100) := if_pos c
      rw [eon, nI_clamp (by omega), r1 _ hl, show (kx_lo i R).1 = R.1 from rfl, kr_eq0 (hs _ hl)]
      refine ⟨vi, vp_in_nI (by omega) (by decide), fun c2 => ?_, fun c2 => ⟨vi, ?_⟩⟩
      · rw [same (fun z => c2 z.2.2)] at ih
        exact ih μ' hk ⟨r1, r2, r3⟩
      · have lost : (kx_lo (i + 1) R).2.1 i = 1000 := if_pos ⟨Nat.lt_succ_self i, c.1, c.2, c2⟩
        have oth : ∀ p, p ≠ i → (kx_lo (i + 1) R).2.1 p = (kx_lo i R).2.1 p := by
          intro p e
          have : (p < i + 1 ∧ 100 ≤ R.2.1 p ∧ R.2.1 p < 1000 ∧ R.1 (R.2.1 p - 100) = 0) ↔ (p < i ∧ 100 ≤ R.2.1 p ∧ R.2.1 p < 1000 ∧ R.1 (R.2.1 p - 100) = 0) := ⟨fun z => ⟨by omega, z.2⟩, fun z => ⟨by omega, z.2⟩⟩
          show (if _ then _ else _) = (if _ then _ else _)
          simp only [this]
        refine ih _ ((hk.f _ (by decide)).u _ _ (by decide)) ⟨fun l hl => ?_, ?_, fun p hp => ?_⟩
        · rw [kr_u_n _ _ _ (by decide), kr_u_n _ _ _ (by decide)]; exact r1 l hl
        · rw [kr_u_n _ _ _ (by decide), kr_u_s, kr_upd_s, r2, kr_1sh i (by omega), kr_or]
          congr 1
          refine (kx_bm_set hi (by rw [lost]; rfl) (fun j hj => ?_)).symm
          rw [oth j hj]
        · rw [kr_u_s, kr_u_n _ _ _ (by decide), kr_u_n _ _ _ (by decide), kr_u_n _ _ _ (by decide), kr_u_n _ _ _ (by decide), kr_u_n _ _ _ (by decide), kr_u_n _ _ _ (by decide), kr_u_n _ _ _ (by decide), kr_u_n _ _ _ (by decide)]
          by_cases e : p = i
          · rw [e, kr_upd_s, lost]
            exact ⟨rfl, fun z => absurd z (Nat.lt_irrefl _), fun _ z => absurd z (Nat.lt_irrefl _), p4, p5⟩
          · rw [kr_upd_n _ _ e, kr_u_n _ _ _ (by decide), oth p e]
            exact r3 p hp
  refine main 0 (Nat.zero_le _) μ kr_keep.rf ?_
  have : kx_lo 0 R = R := by
    have e : (fun p => if p < 0 ∧ 100 ≤ R.2.1 p ∧ R.2.1 p < 1000 ∧ R.1 (R.2.1 p - 100) = 0 then 1000 else R.2.1 p) = R.2.1 := funext fun p => if_neg (fun z => absurd z.1 (Nat.not_lt_zero p))
    show (R.1, (fun p => if p < 0 ∧ 100 ≤ R.2.1 p ∧ R.2.1 p < 1000 ∧ R.1 (R.2.1 p - 100) = 0 then 1000 else R.2.1 p), R.2.2) = R
    rw [e]
  rw [this]
  exact hR
theorem c_M_rains {d : Nat} {Q : kr_Q} {μ : kr_M} {g t : Nat → Nat} {K n : Nat} {R : kx_R} (hM : kr_Mg μ g) (hg : kx_gb g) (hK : μ.1 65 4 = nI K) (hK5 : K ≤ 5) (hR : kr_RM μ (g 0) K R) (hJ : kx_J false g t K n R) (k : ∀ μ', kr_keep [72, 75] [(65, 28)] μ μ' → kr_RM μ' (g 0) K (kx_lo K (kx_ra g R)) → Q none μ') : kr_c (d + 2) i_M_rains [.ref 65] μ Q := by
  obtain ⟨hN, h61, hlb⟩ := id hg
  refine v_M_rains ?_
  have main : ∀ l, l ≤ g 0 → ∀ μ', kr_keep [72] [] μ μ' → (∀ j, j < g 0 → μ'.1 72 j = nI (if j < l then (kx_ra g R).1 j else R.1 j)) → kr_Wp C_M_rains (kr_c (d + 1)) Q 2 [some (.ref 65), some (.int (nI l))] [] μ' := by
    refine kr_up (I := fun l => ∀ μ', kr_keep [72] [] μ μ' → (∀ j, j < g 0 → μ'.1 72 j = nI (if j < l then (kx_ra g R).1 j else R.1 j)) → kr_Wp C_M_rains (kr_c (d + 1)) Q 2 [some (.ref 65), some (.int (nI l))] [] μ') (g 0) ?_ ?_
    · intro μ' hk hj
      refine v_M_rains_2 (br_t ?_ ?_)
      · rw [(hM.kp hk (by decide)) 0 (by decide)]
        exact Int32.le_refl _
      have hw := hJ.ra
      refine c_M_loses (R := kx_ra g R) hN (by rw [hk.2 65 4 (by decide) (by decide)]; exact hK) hK5 ⟨fun l hl => ?_, ?_, ?_⟩ (fun p hp => ?_) (fun l hl => ?_) (fun μ2 hk2 hr2 => v_M_rains_54 (k μ2 ((hk.wk (by decide) (by decide)).tr (hk2.wk (by decide) (by decide))) hr2))
      · have := hj l hl
        rw [if_pos hl] at this
        exact this
      · rw [hk.2 65 28 (by decide) (by decide)]; exact hR.2.1
      · rw [hk.row (o := 75) (by decide) (by decide), hk.row (o := 74) (by decide) (by decide), hk.row (o := 76) (by decide) (by decide), hk.row (o := 77) (by decide) (by decide), hk.row (o := 78) (by decide) (by decide)]
        exact hR.2.2
      · rcases (hw.2 p hp).1 with z | z | z
        · exact ⟨by omega, fun y => by omega⟩
        · exact ⟨by omega, fun _ y => by omega⟩
        · have := z.1.2.1
          exact ⟨by omega, fun _ _ => this⟩
      · have := hw.1 l hl
        omega
    · intro l hl ih μ' hk hj
      have hM' := hM.kp hk (by decide)
      have hl2 : l < 12 := by omega
      have vl : vp_in (nI l) 12 := vp_in_nI hl2 (by decide)
      have hb := hlb l hl
      have hs := hJ.1 l hl
      refine v_M_rains_2 (br_f ?_ ⟨vl, kr_ofv4 hl2, ?_⟩)
      · rw [hM' 0 (by decide)]
        exact nI_ge hl (by omega)
      have e := hj l hl
      rw [if_neg (Nat.lt_irrefl _)] at e
      rw [nI_clamp (by omega), kr_ofg4 hM' hl2, kr_eq0 (by omega), e, kr_n1, show (0 : Int32) = nI 0 from rfl, nI_leI (by omega) (by decide)]
      have nxt : ∀ v, v = nI ((kx_ra g R).1 l) → kr_Wp C_M_rains (kr_c (d + 1)) Q 2 [some (.ref 65), some (.int (nI (l + 1)))] [] (kr_u μ' 72 l v) := by
        intro v hv
        refine ih _ (hk.u _ _ (by decide)) (fun j hj2 => ?_)
        rw [kr_u_s]
        by_cases e2 : j = l
        · rw [e2, kr_upd_s, hv, if_pos (Nat.lt_succ_self l)]
        · rw [kr_upd_n _ _ e2, hj j hj2]
          by_cases e3 : j < l
          · rw [if_pos e3, if_pos (by omega)]
          · rw [if_neg e3, if_neg (by omega)]
      refine ⟨fun c => ⟨vl, nxt _ ?_⟩, fun c => ⟨vl, fun c2 => ⟨vl, nxt _ ?_⟩, fun c2 => ⟨vl, nxt _ ?_⟩⟩⟩
      · rw [pk_sub (Nat.zero_le _)]
        congr 1
        show R.1 l - 0 = if l < g 0 ∧ kr_gk g l 4 = 0 then R.1 l - 1 else R.1 l
        rw [if_neg (fun z => c z.2)]
        rfl
      · rw [pk_sub (Nat.zero_le _)]
        congr 1
        show R.1 l - 0 = if l < g 0 ∧ kr_gk g l 4 = 0 then R.1 l - 1 else R.1 l
        rw [if_pos ⟨hl, c⟩]
        omega
      · rw [show (1 : Int32) = nI 1 from rfl, pk_sub (by omega)]
        congr 1
        show R.1 l - 1 = if l < g 0 ∧ kr_gk g l 4 = 0 then R.1 l - 1 else R.1 l
        rw [if_pos ⟨hl, c⟩]
  refine main 0 (Nat.zero_le _) μ kr_keep.rf (fun j hj => ?_)
  rw [if_neg (Nat.not_lt_zero j)]
  exact hR.1 j hj
