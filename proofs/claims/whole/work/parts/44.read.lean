/-! sheets read as what was heard -/
theorem st_S_faultOfTaking {d : Nat} {Q : kr_Q} {pc : Nat} {ls : kr_L} {st : List Value} {μ : kr_M} (h : C_S_faultOfTaking pc (kr_Wp C_S_faultOfTaking (kr_c d) Q) (kr_c d) Q ls st μ) : kr_Wp C_S_faultOfTaking (kr_c d) Q pc ls st μ := kr_Wp.step (fun pc => (kr_ok_S_faultOfTaking pc).2) (kr_c_om d) h
theorem v_S_faultOfTaking {d : Nat} {Q : kr_Q} {μ : kr_M} {a1 : Int32} {a2 : Int32} (h : vp_in a1 4 ∧ ((¬ ((μ.1 43 a1.toNatClampNeg) = -1) → vp_in a1 4 ∧ ((¬ (μ.1 42 a1.toNatClampNeg) = a2 → Q (some (.int 3)) μ) ∧ ((μ.1 42 a1.toNatClampNeg) = a2 → Q (some (.int 0)) μ))) ∧ ((μ.1 43 a1.toNatClampNeg) = -1 → Q (some (.int 1)) μ))) : kr_c (d + 2) i_S_faultOfTaking [.ref 40, .int a1, .int a2] μ Q := ⟨rfl, (st_S_faultOfTaking (st_S_faultOfTaking (st_S_faultOfTaking (And.intro rfl (c_S_isNothing h.1 (st_S_faultOfTaking (And.intro (fun z1x => (st_S_faultOfTaking (st_S_faultOfTaking (And.intro rfl (st_S_faultOfTaking (st_S_faultOfTaking (And.intro ⟨4, rfl, (h.2.1 (kr_b0 z1x)).1⟩ (st_S_faultOfTaking (st_S_faultOfTaking (And.intro (fun z2x => (st_S_faultOfTaking (st_S_faultOfTaking ((h.2.1 (kr_b0 z1x)).2.1 z2x)))) (fun z2x => (st_S_faultOfTaking (st_S_faultOfTaking (st_S_faultOfTaking ((h.2.1 (kr_b0 z1x)).2.2 (Decidable.not_not.mp z2x)))))))))))))))) (fun z1x => (st_S_faultOfTaking (st_S_faultOfTaking (h.2.2 (kr_b1 z1x))))))))))))⟩
theorem st_S_hasTwoCells {d : Nat} {Q : kr_Q} {pc : Nat} {ls : kr_L} {st : List Value} {μ : kr_M} (h : C_S_hasTwoCells pc (kr_Wp C_S_hasTwoCells (kr_c d) Q) (kr_c d) Q ls st μ) : kr_Wp C_S_hasTwoCells (kr_c d) Q pc ls st μ := kr_Wp.step (fun pc => (kr_ok_S_hasTwoCells pc).2) (kr_c_om d) h
theorem v_S_hasTwoCells {d : Nat} {Q : kr_Q} {μ : kr_M} {a1 : Int32} {a2 : Int32} (h : vp_in a1 4 ∧ ((¬ (0 ≤ a2 ∧ a2 < (μ.1 43 a1.toNatClampNeg)) → Q (some (.int 0)) μ) ∧ (0 ≤ a2 ∧ a2 < (μ.1 43 a1.toNatClampNeg) → vp_in a1 4 ∧ ((¬ (0 ≤ (a2 + (1 : Int32)) ∧ (a2 + (1 : Int32)) < (μ.1 43 a1.toNatClampNeg)) → Q (some (.int 0)) μ) ∧ (0 ≤ (a2 + (1 : Int32)) ∧ (a2 + (1 : Int32)) < (μ.1 43 a1.toNatClampNeg) → Q (some (.int 1)) μ))))) : kr_c (d + 2) i_S_hasTwoCells [.ref 40, .int a1, .int a2] μ Q := ⟨rfl, (st_S_hasTwoCells (st_S_hasTwoCells (st_S_hasTwoCells (st_S_hasTwoCells (And.intro rfl (c_S_hasCell h.1 (st_S_hasTwoCells (And.intro (fun z1x => (st_S_hasTwoCells (st_S_hasTwoCells (And.intro (by decide) (h.2.1 (kr_b0 z1x)))))) (fun z1x => (st_S_hasTwoCells (st_S_hasTwoCells (st_S_hasTwoCells (st_S_hasTwoCells (st_S_hasTwoCells (st_S_hasTwoCells (And.intro rfl (c_S_hasCell (h.2.2 (kr_b1 z1x)).1 (st_S_hasTwoCells (And.intro (fun z2x => (st_S_hasTwoCells (st_S_hasTwoCells (And.intro (by decide) ((h.2.2 (kr_b1 z1x)).2.1 (kr_b0 z2x)))))) (fun z2x => (st_S_hasTwoCells (st_S_hasTwoCells (st_S_hasTwoCells (And.intro (by decide) ((h.2.2 (kr_b1 z1x)).2.2 (kr_b1 z2x))))))))))))))))))))))))))⟩
theorem st_C_hearCells {d : Nat} {Q : kr_Q} {pc : Nat} {ls : kr_L} {st : List Value} {μ : kr_M} (h : C_C_hearCells pc (kr_Wp C_C_hearCells (kr_c d) Q) (kr_c d) Q ls st μ) : kr_Wp C_C_hearCells (kr_c d) Q pc ls st μ := kr_Wp.step (fun pc => (kr_ok_C_hearCells pc).2) (kr_c_om d) h
theorem v_C_hearCells {d : Nat} {Q : kr_Q} {μ : kr_M} {a1 : Int32} {a2 : Int32} (h : vp_in (a1 * 40 + (a2 + (1 : Int32))) 160 ∧ (((μ.1 41 ((a1 * 40 + (a2 + (1 : Int32))).toNatClampNeg)) = 0 → vp_in (a1 * 40 + a2) 160 ∧ ((¬ (μ.1 41 ((a1 * 40 + (a2 + (1 : Int32))).toNatClampNeg)) = 1 → kr_c (d + 3) i_R_addHeard [.ref 1, .int (μ.1 41 ((a1 * 40 + a2).toNatClampNeg)), .int 0] μ (kr_bk (kr_Wp C_C_hearCells (kr_c (d + 3)) Q) 49 [some (.ref 0), some (.int a1), some (.int a2), some (.int (μ.1 41 ((a1 * 40 + (a2 + (1 : Int32))).toNatClampNeg)))] [])) ∧ ((μ.1 41 ((a1 * 40 + (a2 + (1 : Int32))).toNatClampNeg)) = 1 → kr_c (d + 3) i_R_addHeard [.ref 1, .int (μ.1 41 ((a1 * 40 + a2).toNatClampNeg)), .int 1] μ (kr_bk (kr_Wp C_C_hearCells (kr_c (d + 3)) Q) 49 [some (.ref 0), some (.int a1), some (.int a2), some (.int (μ.1 41 ((a1 * 40 + (a2 + (1 : Int32))).toNatClampNeg)))] [])))) ∧ (¬ ((μ.1 41 ((a1 * 40 + (a2 + (1 : Int32))).toNatClampNeg)) = 0) → (((μ.1 41 ((a1 * 40 + (a2 + (1 : Int32))).toNatClampNeg)) = 1 → vp_in (a1 * 40 + a2) 160 ∧ ((¬ (μ.1 41 ((a1 * 40 + (a2 + (1 : Int32))).toNatClampNeg)) = 1 → kr_c (d + 3) i_R_addHeard [.ref 1, .int (μ.1 41 ((a1 * 40 + a2).toNatClampNeg)), .int 0] μ (kr_bk (kr_Wp C_C_hearCells (kr_c (d + 3)) Q) 49 [some (.ref 0), some (.int a1), some (.int a2), some (.int (μ.1 41 ((a1 * 40 + (a2 + (1 : Int32))).toNatClampNeg)))] [])) ∧ ((μ.1 41 ((a1 * 40 + (a2 + (1 : Int32))).toNatClampNeg)) = 1 → kr_c (d + 3) i_R_addHeard [.ref 1, .int (μ.1 41 ((a1 * 40 + a2).toNatClampNeg)), .int 1] μ (kr_bk (kr_Wp C_C_hearCells (kr_c (d + 3)) Q) 49 [some (.ref 0), some (.int a1), some (.int a2), some (.int (μ.1 41 ((a1 * 40 + (a2 + (1 : Int32))).toNatClampNeg)))] [])))) ∧ (¬ ((μ.1 41 ((a1 * 40 + (a2 + (1 : Int32))).toNatClampNeg)) = 1) → Q (some (.int 0)) μ))))) : kr_c (d + 4) i_C_hearCells [.ref 0, .int a1, .int a2] μ Q := ⟨rfl, (st_C_hearCells (st_C_hearCells (And.intro rfl (st_C_hearCells (st_C_hearCells (st_C_hearCells (st_C_hearCells (st_C_hearCells (And.intro rfl (c_S_cell h.1 (st_C_hearCells (st_C_hearCells (st_C_hearCells (And.intro (fun z1x => (st_C_hearCells (st_C_hearCells (And.intro rfl (st_C_hearCells (st_C_hearCells (And.intro rfl (st_C_hearCells (st_C_hearCells (st_C_hearCells (And.intro rfl (c_S_cell (h.2.1 z1x).1 (st_C_hearCells (st_C_hearCells (st_C_hearCells (And.intro (fun z2x => (st_C_hearCells (st_C_hearCells (And.intro rfl ((h.2.1 z1x).2.1 z2x))))) (fun z2x => (st_C_hearCells (st_C_hearCells (st_C_hearCells (And.intro rfl ((h.2.1 z1x).2.2 (Decidable.not_not.mp z2x))))))))))))))))))))))) (fun z1x => (st_C_hearCells (st_C_hearCells (st_C_hearCells (And.intro (fun z3x => (st_C_hearCells (st_C_hearCells (And.intro rfl (st_C_hearCells (st_C_hearCells (And.intro rfl (st_C_hearCells (st_C_hearCells (st_C_hearCells (And.intro rfl (c_S_cell ((h.2.2 z1x).1 z3x).1 (st_C_hearCells (st_C_hearCells (st_C_hearCells (And.intro (fun z4x => (st_C_hearCells (st_C_hearCells (And.intro rfl (((h.2.2 z1x).1 z3x).2.1 z4x))))) (fun z4x => (st_C_hearCells (st_C_hearCells (st_C_hearCells (And.intro rfl (((h.2.2 z1x).1 z3x).2.2 (Decidable.not_not.mp z4x))))))))))))))))))))))) (fun z3x => (st_C_hearCells (st_C_hearCells (And.intro (by decide) ((h.2.2 z1x).2 z3x))))))))))))))))))))))))⟩
theorem v_C_hearCells_49 {d : Nat} {Q : kr_Q} {μ : kr_M} {a1 : Int32} {a2 : Int32} {a3 : Int32} {r : Int32} (h : ((r ≤ 0 → Q (some (.int 0)) μ) ∧ (¬ (r ≤ 0) → Q (some (.int 1)) μ))) : kr_Wp C_C_hearCells (kr_c (d + 3)) Q 49 [some (.ref 0), some (.int a1), some (.int a2), some (.int a3)] [.int r] μ := (st_C_hearCells (And.intro (fun z1x => (st_C_hearCells (st_C_hearCells (And.intro (by decide) (h.1 z1x))))) (fun z1x => (st_C_hearCells (st_C_hearCells (st_C_hearCells (And.intro (by decide) (h.2 z1x))))))))
theorem st_C_read {d : Nat} {Q : kr_Q} {pc : Nat} {ls : kr_L} {st : List Value} {μ : kr_M} (h : C_C_read pc (kr_Wp C_C_read (kr_c d) Q) (kr_c d) Q ls st μ) : kr_Wp C_C_read (kr_c d) Q pc ls st μ := kr_Wp.step (fun pc => (kr_ok_C_read pc).2) (kr_c_om d) h
theorem v_C_read {d : Nat} {Q : kr_Q} {μ : kr_M} {a1 : Int32} {a2 : Int32} {a3 : Int32} {a4 : Int32} (h : ((¬ ((0 : Int32) ≤ a1 ∧ a1 < 4) → Q (some (.int (-1))) μ) ∧ ((0 : Int32) ≤ a1 ∧ a1 < 4 → ((¬ ((0 : Int32) ≤ a2 ∧ a2 ≤ 2) → Q (some (.int (-1))) μ) ∧ ((0 : Int32) ≤ a2 ∧ a2 ≤ 2 → ((a4 < 0 → Q (some (.int (-1))) μ) ∧ (¬ (a4 < 0) → ((a4 ≤ 8 → ((¬ a4 = 0 → kr_c (d + 4) i_S_faultOfTaking [.ref 40, .int a1, .int a2] μ (kr_bk (kr_Wp C_C_read (kr_c (d + 4)) Q) 63 [some (.ref 0), some (.int a1), some (.int a2), some (.int a3), some (.int a4), some (.int (μ.1 1 15)), none, none] [])) ∧ (a4 = 0 → kr_Wp C_C_read (kr_c (d + 4)) Q 68 [some (.ref 0), some (.int a1), some (.int a2), some (.int a3), some (.int a4), some (.int (μ.1 1 15)), some (.int 0), some (.int 0)] [] μ))) ∧ (¬ (a4 ≤ 8) → Q (some (.int (-1))) μ))))))))) : kr_c (d + 5) i_C_read [.ref 0, .int a1, .int a2, .int a3, .int a4] μ Q := ⟨rfl, (st_C_read (st_C_read (And.intro rfl (st_C_read (st_C_read (And.intro rfl (c_S_hasSheet (st_C_read (And.intro (fun z1x => (st_C_read (st_C_read (h.1 (kr_b0 z1x))))) (fun z1x => (st_C_read (st_C_read (And.intro rfl (st_C_read (st_C_read (And.intro rfl (c_S_hasLane (st_C_read (And.intro (fun z2x => (st_C_read (st_C_read ((h.2 (kr_b1 z1x)).1 (kr_b0 z2x))))) (fun z2x => (st_C_read (st_C_read (And.intro (fun z3x => (st_C_read (st_C_read (((h.2 (kr_b1 z1x)).2 (kr_b1 z2x)).1 z3x)))) (fun z3x => (st_C_read (st_C_read (st_C_read (And.intro (fun z4x => (st_C_read (st_C_read (And.intro rfl (st_C_read (And.intro rfl (st_C_read (st_C_read (st_C_read (And.intro (fun z5x => (st_C_read (st_C_read (And.intro rfl (st_C_read (st_C_read (st_C_read (And.intro rfl (((((h.2 (kr_b1 z1x)).2 (kr_b1 z2x)).2 z3x).1 z4x).1 z5x))))))))) (fun z5x => (st_C_read (st_C_read (st_C_read (st_C_read (st_C_read (((((h.2 (kr_b1 z1x)).2 (kr_b1 z2x)).2 z3x).1 z4x).2 (Decidable.not_not.mp z5x)))))))))))))))))) (fun z4x => (st_C_read (st_C_read ((((h.2 (kr_b1 z1x)).2 (kr_b1 z2x)).2 z3x).2 z4x))))))))))))))))))))))))))))))))⟩
theorem v_C_read_68 {d : Nat} {Q : kr_Q} {μ : kr_M} {a1 : Int32} {a2 : Int32} {a3 : Int32} {a4 : Int32} {a5 : Int32} {a6 : Int32} {a7 : Int32} (h : ((a4 ≤ a7 → Q (some (.int ((μ.1 1 15) - a5))) (kr_u μ 0 11 a6)) ∧ (¬ (a4 ≤ a7) → ((¬ a6 = 0 → Q (some (.int ((μ.1 1 15) - a5))) (kr_u μ 0 11 a6)) ∧ (a6 = 0 → kr_c (d + 4) i_S_hasTwoCells [.ref 40, .int a1, .int (a3 + ((2 : Int32) * a7))] μ (kr_bk (kr_Wp C_C_read (kr_c (d + 4)) Q) 94 [some (.ref 0), some (.int a1), some (.int a2), some (.int a3), some (.int a4), some (.int a5), some (.int a6), some (.int a7)] [])))))) : kr_Wp C_C_read (kr_c (d + 4)) Q 68 [some (.ref 0), some (.int a1), some (.int a2), some (.int a3), some (.int a4), some (.int a5), some (.int a6), some (.int a7)] [] μ := (st_C_read (st_C_read (st_C_read (And.intro (fun z1x => (st_C_read (st_C_read (st_C_read (And.intro rfl (st_C_read (st_C_read (And.intro rfl (st_C_read (And.intro rfl (st_C_read (st_C_read (st_C_read (h.1 z1x)))))))))))))) (fun z1x => (st_C_read (st_C_read (And.intro (fun z2x => (st_C_read (st_C_read (st_C_read (And.intro rfl (st_C_read (st_C_read (And.intro rfl (st_C_read (And.intro rfl (st_C_read (st_C_read (st_C_read ((h.2 z1x).1 z2x)))))))))))))) (fun z2x => (st_C_read (st_C_read (And.intro rfl (st_C_read (st_C_read (st_C_read (st_C_read (st_C_read (st_C_read (st_C_read (And.intro rfl ((h.2 z1x).2 (Decidable.not_not.mp z2x))))))))))))))))))))))
theorem v_C_read_63 {d : Nat} {Q : kr_Q} {μ : kr_M} {a1 : Int32} {a2 : Int32} {a3 : Int32} {a4 : Int32} {a5 : Int32} {r : Int32} (h : kr_Wp C_C_read (kr_c (d + 4)) Q 68 [some (.ref 0), some (.int a1), some (.int a2), some (.int a3), some (.int a4), some (.int a5), some (.int r), some (.int 0)] [] μ) : kr_Wp C_C_read (kr_c (d + 4)) Q 63 [some (.ref 0), some (.int a1), some (.int a2), some (.int a3), some (.int a4), some (.int a5), none, none] [.int r] μ := (st_C_read (st_C_read (st_C_read h)))
theorem v_C_read_94 {d : Nat} {Q : kr_Q} {μ : kr_M} {a1 : Int32} {a2 : Int32} {a3 : Int32} {a4 : Int32} {a5 : Int32} {a6 : Int32} {a7 : Int32} {r : Int32} (h : ((¬ r = 0 → kr_c (d + 4) i_C_hearCells [.ref 0, .int a1, .int (a3 + ((2 : Int32) * a7))] μ (kr_bk (kr_Wp C_C_read (kr_c (d + 4)) Q) 114 [some (.ref 0), some (.int a1), some (.int a2), some (.int a3), some (.int a4), some (.int a5), some (.int a6), some (.int a7)] [])) ∧ (r = 0 → kr_Wp C_C_read (kr_c (d + 4)) Q 68 [some (.ref 0), some (.int a1), some (.int a2), some (.int a3), some (.int a4), some (.int a5), some (.int 2), some (.int (a7 + 1))] [] μ))) : kr_Wp C_C_read (kr_c (d + 4)) Q 94 [some (.ref 0), some (.int a1), some (.int a2), some (.int a3), some (.int a4), some (.int a5), some (.int a6), some (.int a7)] [.int r] μ := (st_C_read (And.intro (fun z1x => (st_C_read (st_C_read (st_C_read (st_C_read (st_C_read (st_C_read (st_C_read (st_C_read (And.intro rfl (h.1 z1x))))))))))) (fun z1x => (st_C_read (st_C_read (st_C_read (st_C_read (st_C_read (h.2 (Decidable.not_not.mp z1x))))))))))
theorem v_C_read_114 {d : Nat} {Q : kr_Q} {μ : kr_M} {a1 : Int32} {a2 : Int32} {a3 : Int32} {a4 : Int32} {a5 : Int32} {a6 : Int32} {a7 : Int32} {r : Int32} (h : ((¬ r = 0 → kr_Wp C_C_read (kr_c (d + 4)) Q 68 [some (.ref 0), some (.int a1), some (.int a2), some (.int a3), some (.int a4), some (.int a5), some (.int a6), some (.int (a7 + 1))] [] μ) ∧ (r = 0 → Q (some (.int ((-20 : Int32) - a7))) (kr_u μ 1 15 a5)))) : kr_Wp C_C_read (kr_c (d + 4)) Q 114 [some (.ref 0), some (.int a1), some (.int a2), some (.int a3), some (.int a4), some (.int a5), some (.int a6), some (.int a7)] [.int r] μ := (st_C_read (And.intro (fun z1x => (st_C_read (st_C_read (h.1 z1x)))) (fun z1x => (st_C_read (st_C_read (And.intro rfl (st_C_read (st_C_read (And.intro rfl (st_C_read (st_C_read (st_C_read (st_C_read (h.2 (Decidable.not_not.mp z1x)))))))))))))))
theorem st_M_read {d : Nat} {Q : kr_Q} {pc : Nat} {ls : kr_L} {st : List Value} {μ : kr_M} (h : C_M_read pc (kr_Wp C_M_read (kr_c d) Q) (kr_c d) Q ls st μ) : kr_Wp C_M_read (kr_c d) Q pc ls st μ := kr_Wp.step (fun pc => (kr_ok_M_read pc).2) (kr_c_om d) h
theorem v_M_read {d : Nat} {Q : kr_Q} {μ : kr_M} {a1 : Int32} {a2 : Int32} {a3 : Int32} {a4 : Int32} (h : ((¬ ((0 ≤ a1 ∧ a1 ≤ 3) ∧ (0 ≤ a2 ∧ a2 ≤ 2)) → Q (some (.int (-1))) μ) ∧ ((0 ≤ a1 ∧ a1 ≤ 3) ∧ (0 ≤ a2 ∧ a2 ≤ 2) → (((0 : Int64) ≤ a4.toInt64 ∧ a4.toInt64 ≤ (8 : Int64) → kr_Wp C_M_read (kr_c (d + 3)) Q 41 [some (.ref 65), some (.int a1), some (.int a2), some (.int a3), some (.int a4), some (.int (μ.1 66 108)), some (.int 0), some (.int 0), some (.int 0), none, none, none] [] μ) ∧ (¬ ((0 : Int64) ≤ a4.toInt64 ∧ a4.toInt64 ≤ (8 : Int64)) → Q (some (.int (-1))) μ))))) : kr_c (d + 4) i_M_read [.ref 65, .int a1, .int a2, .int a3, .int a4] μ Q := ⟨rfl, (st_M_read (st_M_read (st_M_read (c_M_isSheet (st_M_read (And.intro (fun z1x => (st_M_read (st_M_read (h.1 (kr_b0 z1x))))) (fun z1x => (st_M_read (st_M_read (st_M_read (st_M_read (st_M_read (c_M_in (st_M_read (And.intro (fun z2x => (st_M_read (st_M_read (And.intro rfl (st_M_read (st_M_read (And.intro ⟨375, rfl, kr_vp rfl⟩ (st_M_read (st_M_read (st_M_read (st_M_read (st_M_read (st_M_read (st_M_read ((h.2 (kr_b1 z1x)).1 (kr_b1 z2x)))))))))))))))) (fun z2x => (st_M_read (st_M_read ((h.2 (kr_b1 z1x)).2 (kr_b2 z2x))))))))))))))))))))⟩
theorem v_M_read_41 {d : Nat} {Q : kr_Q} {μ : kr_M} {a1 : Int32} {a2 : Int32} {a3 : Int32} {a4 : Int32} {a5 : Int32} {a6 : Int32} {a7 : Int32} {a8 : Int32} (h : ((a4 ≤ a8 → Q (some (.int a7)) (kr_u μ 65 44 a6)) ∧ (¬ (a4 ≤ a8) → ((¬ a6 = 0 → Q (some (.int a7)) (kr_u μ 65 44 a6)) ∧ (a6 = 0 → kr_Wp C_M_read (kr_c (d + 3)) Q 56 [some (.ref 65), some (.int a1), some (.int a2), some (.int a3), some (.int a4), some (.int a5), some (.int a6), some (.int a7), some (.int a8), some (.int 0), none, none] [] μ))))) : kr_Wp C_M_read (kr_c (d + 3)) Q 41 [some (.ref 65), some (.int a1), some (.int a2), some (.int a3), some (.int a4), some (.int a5), some (.int a6), some (.int a7), some (.int a8), none, none, none] [] μ := (st_M_read (st_M_read (st_M_read (And.intro (fun z1x => (st_M_read (st_M_read (st_M_read (And.intro rfl (st_M_read (st_M_read (h.1 z1x)))))))) (fun z1x => (st_M_read (st_M_read (And.intro (fun z2x => (st_M_read (st_M_read (st_M_read (And.intro rfl (st_M_read (st_M_read ((h.2 z1x).1 z2x)))))))) (fun z2x => (st_M_read (st_M_read ((h.2 z1x).2 (Decidable.not_not.mp z2x)))))))))))))
theorem v_M_read_56 {d : Nat} {Q : kr_Q} {μ : kr_M} {a1 : Int32} {a2 : Int32} {a3 : Int32} {a4 : Int32} {a5 : Int32} {a6 : Int32} {a7 : Int32} {a8 : Int32} {a9 : Int32} (h : (((2 : Int32) ≤ a9 → kr_Wp C_M_read (kr_c (d + 3)) Q 143 [some (.ref 65), some (.int a1), some (.int a2), some (.int a3), some (.int a4), some (.int a5), some (.int a6), some (.int a7), some (.int a8), none, none, none] [] μ) ∧ (¬ ((2 : Int32) ≤ a9) → ((¬ a6 = 0 → kr_Wp C_M_read (kr_c (d + 3)) Q 143 [some (.ref 65), some (.int a1), some (.int a2), some (.int a3), some (.int a4), some (.int a5), some (.int a6), some (.int a7), some (.int a8), none, none, none] [] μ) ∧ (a6 = 0 → vp_in a1 4 ∧ ((¬ (μ.1 83 a1.toNatClampNeg) = (-4) → vp_in a1 4 ∧ (((μ.1 83 a1.toNatClampNeg) = a2 → (((lg_cmp ((a3.toInt64 + (((2 : Int32) * a8).toInt64)) + a9.toInt64) (0 : Int64)) < 0 → kr_Wp C_M_read (kr_c (d + 3)) Q 56 [some (.ref 65), some (.int a1), some (.int a2), some (.int a3), some (.int a4), some (.int a5), some (.int 2), some (.int a7), some (.int a8), some (.int (a9 + 1)), none, none] [] μ) ∧ (¬ ((lg_cmp ((a3.toInt64 + (((2 : Int32) * a8).toInt64)) + a9.toInt64) (0 : Int64)) < 0) → vp_in a1 4 ∧ (((lg_cmp ((a3.toInt64 + (((2 : Int32) * a8).toInt64)) + a9.toInt64) ((μ.1 84 a1.toNatClampNeg).toInt64)) < 0 → kr_Wp C_M_read (kr_c (d + 3)) Q 56 [some (.ref 65), some (.int a1), some (.int a2), some (.int a3), some (.int a4), some (.int a5), some (.int 0), some (.int a7), some (.int a8), some (.int (a9 + 1)), none, none] [] μ) ∧ (¬ ((lg_cmp ((a3.toInt64 + (((2 : Int32) * a8).toInt64)) + a9.toInt64) ((μ.1 84 a1.toNatClampNeg).toInt64)) < 0) → kr_Wp C_M_read (kr_c (d + 3)) Q 56 [some (.ref 65), some (.int a1), some (.int a2), some (.int a3), some (.int a4), some (.int a5), some (.int 2), some (.int a7), some (.int a8), some (.int (a9 + 1)), none, none] [] μ))))) ∧ (¬ ((μ.1 83 a1.toNatClampNeg) = a2) → kr_Wp C_M_read (kr_c (d + 3)) Q 56 [some (.ref 65), some (.int a1), some (.int a2), some (.int a3), some (.int a4), some (.int a5), some (.int 3), some (.int a7), some (.int a8), some (.int (a9 + 1)), none, none] [] μ))) ∧ ((μ.1 83 a1.toNatClampNeg) = (-4) → kr_Wp C_M_read (kr_c (d + 3)) Q 56 [some (.ref 65), some (.int a1), some (.int a2), some (.int a3), some (.int a4), some (.int a5), some (.int 1), some (.int a7), some (.int a8), some (.int (a9 + 1)), none, none] [] μ))))))) : kr_Wp C_M_read (kr_c (d + 3)) Q 56 [some (.ref 65), some (.int a1), some (.int a2), some (.int a3), some (.int a4), some (.int a5), some (.int a6), some (.int a7), some (.int a8), some (.int a9), none, none] [] μ := (st_M_read (st_M_read (st_M_read (And.intro (fun z1x => (kr_Wp.lm [true, true, true, true, true, true, true, true, true, false, false, false] (h.1 z1x))) (fun z1x => (st_M_read (st_M_read (And.intro (fun z2x => (kr_Wp.lm [true, true, true, true, true, true, true, true, true, false, false, false] ((h.2 z1x).1 z2x))) (fun z2x => (st_M_read (st_M_read (st_M_read (st_M_read (st_M_read (st_M_read (st_M_read (st_M_read (st_M_read (st_M_read (st_M_read (st_M_read (st_M_read (And.intro rfl (st_M_read (st_M_read (And.intro ⟨4, rfl, ((h.2 z1x).2 (Decidable.not_not.mp z2x)).1⟩ (st_M_read (st_M_read (And.intro (fun z3x => (st_M_read (st_M_read (And.intro rfl (st_M_read (st_M_read (And.intro ⟨4, rfl, (((h.2 z1x).2 (Decidable.not_not.mp z2x)).2.1 z3x).1⟩ (st_M_read (st_M_read (And.intro (fun z4x => (st_M_read (st_M_read (st_M_read (st_M_read (And.intro (fun z5x => (st_M_read (st_M_read (st_M_read (st_M_read (st_M_read (kr_Wp.lm [true, true, true, true, true, true, true, true, true, true, false, false] (((((h.2 z1x).2 (Decidable.not_not.mp z2x)).2.1 z3x).2.1 z4x).1 z5x)))))))) (fun z5x => (st_M_read (st_M_read (st_M_read (And.intro rfl (st_M_read (st_M_read (And.intro ⟨4, rfl, (((((h.2 z1x).2 (Decidable.not_not.mp z2x)).2.1 z3x).2.1 z4x).2 z5x).1⟩ (st_M_read (st_M_read (st_M_read (And.intro (fun z6x => (st_M_read (st_M_read (st_M_read (st_M_read (kr_Wp.lm [true, true, true, true, true, true, true, true, true, true, false, false] ((((((h.2 z1x).2 (Decidable.not_not.mp z2x)).2.1 z3x).2.1 z4x).2 z5x).2.1 z6x))))))) (fun z6x => (st_M_read (st_M_read (st_M_read (st_M_read (st_M_read (kr_Wp.lm [true, true, true, true, true, true, true, true, true, true, false, false] ((((((h.2 z1x).2 (Decidable.not_not.mp z2x)).2.1 z3x).2.1 z4x).2 z5x).2.2 z6x)))))))))))))))))))))))))) (fun z4x => (st_M_read (st_M_read (st_M_read (st_M_read (st_M_read (kr_Wp.lm [true, true, true, true, true, true, true, true, true, true, false, false] ((((h.2 z1x).2 (Decidable.not_not.mp z2x)).2.1 z3x).2.2 z4x)))))))))))))))))) (fun z3x => (st_M_read (st_M_read (st_M_read (st_M_read (st_M_read (kr_Wp.lm [true, true, true, true, true, true, true, true, true, true, false, false] (((h.2 z1x).2 (Decidable.not_not.mp z2x)).2.2 (Decidable.not_not.mp z3x))))))))))))))))))))))))))))))))))))))
theorem v_M_read_143 {d : Nat} {Q : kr_Q} {μ : kr_M} {a1 : Int32} {a2 : Int32} {a3 : Int32} {a4 : Int32} {a5 : Int32} {a6 : Int32} {a7 : Int32} {a8 : Int32} (h : ((¬ a6 = 0 → kr_Wp C_M_read (kr_c (d + 3)) Q 41 [some (.ref 65), some (.int a1), some (.int a2), some (.int a3), some (.int a4), some (.int a5), some (.int a6), some (.int a7), some (.int (a8 + 1)), none, none, none] [] μ) ∧ (a6 = 0 → vp_in (((((40 : Int32) * a1) + a3) + ((2 : Int32) * a8)) + (1 : Int32)) 160 ∧ ((¬ ((0 : Int64) ≤ (μ.1 85 ((((((40 : Int32) * a1) + a3) + ((2 : Int32) * a8)) + (1 : Int32)).toNatClampNeg)).toInt64 ∧ (μ.1 85 ((((((40 : Int32) * a1) + a3) + ((2 : Int32) * a8)) + (1 : Int32)).toNatClampNeg)).toInt64 ≤ (1 : Int64)) → Q (some (.int ((-20 : Int32) - a8))) (kr_u μ 66 108 a5)) ∧ ((0 : Int64) ≤ (μ.1 85 ((((((40 : Int32) * a1) + a3) + ((2 : Int32) * a8)) + (1 : Int32)).toNatClampNeg)).toInt64 ∧ (μ.1 85 ((((((40 : Int32) * a1) + a3) + ((2 : Int32) * a8)) + (1 : Int32)).toNatClampNeg)).toInt64 ≤ (1 : Int64) → vp_in ((((40 : Int32) * a1) + a3) + ((2 : Int32) * a8)) 160 ∧ vp_in (((((40 : Int32) * a1) + a3) + ((2 : Int32) * a8)) + (1 : Int32)) 160 ∧ ((¬ (μ.1 85 ((((((40 : Int32) * a1) + a3) + ((2 : Int32) * a8)) + (1 : Int32)).toNatClampNeg)) = 1 → kr_c (d + 3) i_M_hear [.ref 65, .int (μ.1 85 (((((40 : Int32) * a1) + a3) + ((2 : Int32) * a8)).toNatClampNeg)), .int 0] μ (kr_bk (kr_Wp C_M_read (kr_c (d + 3)) Q) 208 [some (.ref 65), some (.int a1), some (.int a2), some (.int a3), some (.int a4), some (.int a5), some (.int a6), some (.int a7), some (.int a8), some (.int ((((40 : Int32) * a1) + a3) + ((2 : Int32) * a8))), none, none] [])) ∧ ((μ.1 85 ((((((40 : Int32) * a1) + a3) + ((2 : Int32) * a8)) + (1 : Int32)).toNatClampNeg)) = 1 → kr_c (d + 3) i_M_hear [.ref 65, .int (μ.1 85 (((((40 : Int32) * a1) + a3) + ((2 : Int32) * a8)).toNatClampNeg)), .int 1] μ (kr_bk (kr_Wp C_M_read (kr_c (d + 3)) Q) 208 [some (.ref 65), some (.int a1), some (.int a2), some (.int a3), some (.int a4), some (.int a5), some (.int a6), some (.int a7), some (.int a8), some (.int ((((40 : Int32) * a1) + a3) + ((2 : Int32) * a8))), none, none] [])))))))) : kr_Wp C_M_read (kr_c (d + 3)) Q 143 [some (.ref 65), some (.int a1), some (.int a2), some (.int a3), some (.int a4), some (.int a5), some (.int a6), some (.int a7), some (.int a8), none, none, none] [] μ := (st_M_read (st_M_read (And.intro (fun z1x => (st_M_read (st_M_read (h.1 z1x)))) (fun z1x => (st_M_read (st_M_read (st_M_read (st_M_read (st_M_read (st_M_read (st_M_read (st_M_read (st_M_read (st_M_read (st_M_read (st_M_read (And.intro rfl (st_M_read (st_M_read (st_M_read (st_M_read (And.intro ⟨160, rfl, (h.2 (Decidable.not_not.mp z1x)).1⟩ (st_M_read (st_M_read (st_M_read (st_M_read (c_M_in (st_M_read (And.intro (fun z2x => (st_M_read (st_M_read (And.intro rfl (st_M_read (st_M_read (st_M_read (And.intro ⟨375, rfl, kr_vp rfl⟩ (st_M_read (st_M_read (st_M_read (st_M_read ((h.2 (Decidable.not_not.mp z1x)).2.1 (kr_b0 z2x)))))))))))))) (fun z2x => (st_M_read (st_M_read (st_M_read (And.intro rfl (st_M_read (st_M_read (And.intro ⟨160, rfl, ((h.2 (Decidable.not_not.mp z1x)).2.2 (kr_b1 z2x)).1⟩ (st_M_read (st_M_read (And.intro rfl (st_M_read (st_M_read (st_M_read (st_M_read (And.intro ⟨160, rfl, ((h.2 (Decidable.not_not.mp z1x)).2.2 (kr_b1 z2x)).2.1⟩ (st_M_read (st_M_read (And.intro (fun z3x => (st_M_read (st_M_read (And.intro rfl (((h.2 (Decidable.not_not.mp z1x)).2.2 (kr_b1 z2x)).2.2.1 z3x))))) (fun z3x => (st_M_read (st_M_read (st_M_read (And.intro rfl (((h.2 (Decidable.not_not.mp z1x)).2.2 (kr_b1 z2x)).2.2.2 (Decidable.not_not.mp z3x)))))))))))))))))))))))))))))))))))))))))))))))))))))))
theorem v_M_read_208 {d : Nat} {Q : kr_Q} {μ : kr_M} {a1 : Int32} {a2 : Int32} {a3 : Int32} {a4 : Int32} {a5 : Int32} {a6 : Int32} {a7 : Int32} {a8 : Int32} {a9 : Int32} {r : Int32} (h : (((0 : Int32) ≤ r → kr_Wp C_M_read (kr_c (d + 3)) Q 41 [some (.ref 65), some (.int a1), some (.int a2), some (.int a3), some (.int a4), some (.int a5), some (.int a6), some (.int (a7 + 1)), some (.int (a8 + 1)), none, none, none] [] μ) ∧ (¬ ((0 : Int32) ≤ r) → Q (some (.int ((-20 : Int32) - a8))) (kr_u μ 66 108 a5)))) : kr_Wp C_M_read (kr_c (d + 3)) Q 208 [some (.ref 65), some (.int a1), some (.int a2), some (.int a3), some (.int a4), some (.int a5), some (.int a6), some (.int a7), some (.int a8), some (.int a9), none, none] [.int r] μ := (st_M_read (And.intro (fun z1x => (st_M_read (st_M_read (st_M_read (kr_Wp.lm [true, true, true, true, true, true, true, true, true, false, false, false] (h.1 z1x)))))) (fun z1x => (st_M_read (st_M_read (And.intro rfl (st_M_read (st_M_read (st_M_read (And.intro ⟨375, rfl, kr_vp rfl⟩ (st_M_read (st_M_read (st_M_read (st_M_read (h.2 z1x)))))))))))))))
theorem kz_fadd (f : Int32) {m : Nat} (hm : m ≤ 20) : (f + nI m).toInt = if f.toInt + m < 2 ^ 31 then f.toInt + m else f.toInt + m - 2 ^ 32 := by
  have h1 := Int32.le_toInt f
  have h2 := Int32.toInt_lt f
  rw [Int32.toInt_add, nI_toInt (by omega), Int.bmod_def]
  split <;> split <;> omega
theorem kz_in (f : Int32) {m s : Nat} (hm : m ≤ 20) (hs : s ≤ 40) : (0 ≤ f + nI m ∧ f + nI m < nI s) ↔ (0 ≤ f.toInt + m ∧ f.toInt + m < s) := by
  have h1 := Int32.le_toInt f
  have h2 := Int32.toInt_lt f
  rw [kr_le, kr_lt, kz_fadd f hm, nI_toInt (by omega), show (0 : Int32).toInt = 0 from rfl]
  split <;> omega
theorem kz_feq {f : Int32} {m : Nat} (hm : m ≤ 20) (h0 : 0 ≤ f.toInt + m) (h1 : f.toInt + m < 40) : f + nI m = nI (f.toInt + m).toNat := by
  apply Int32.toInt_inj.mp
  rw [kz_fadd f hm, nI_toInt (by omega), if_pos (by omega)]
  omega
theorem kz_ladd (f : Int32) {a c : Nat} (ha : a ≤ 20) (hc : c ≤ 20) : ((f.toInt64 + (nI a).toInt64) + (nI c).toInt64).toInt = f.toInt + a + c := by
  have h1 := Int32.le_toInt f
  have h2 := Int32.toInt_lt f
  rw [Int64.toInt_add, Int64.toInt_add, Int32.toInt_toInt64, Int32.toInt_toInt64, Int32.toInt_toInt64, nI_toInt (by omega), nI_toInt (by omega), Int.bmod_def, Int.bmod_def]
  split <;> split <;> omega
def kz_ok (f : Int32) (s : kz_H) (k i : Nat) : Bool := decide (0 ≤ f.toInt + ((2 * i : Nat) : Int) ∧ f.toInt + ((2 * i + 1 : Nat) : Int) < s.2.1 k)
def kz_px (f : Int32) (k i : Nat) : Nat := 40 * k + (f.toInt + ((2 * i : Nat) : Int)).toNat
/-- is the i-th taken -/
def kz_tk (g : Nat → Nat) (f : Int32) (s : kz_H) (k i : Nat) : Prop := (s.2.2 (kz_px f k i + 1) = 0 ∨ s.2.2 (kz_px f k i + 1) = 1) ∧ 0 < (pz_hear g (s.2.2 (kz_px f k i)) (s.2.2 (kz_px f k i + 1))).1
theorem kz_tk_dec (g : Nat → Nat) (f : Int32) (s : kz_H) (k i : Nat) : kz_tk g f s k i ∨ ¬ kz_tk g f s k i := Classical.em _
abbrev kz_R : Type := Int32 × (Nat → Nat) × Option Nat
def kz_rd (f : Int32) (s : kz_H) (k : Nat) : Nat → Nat → (Nat → Nat) → kz_R
  | 0, i, g => (nI i, g, some 0)
  | m + 1, i, g => if kz_ok f s k i = true then (if (s.2.2 (kz_px f k i + 1) = 0 ∨ s.2.2 (kz_px f k i + 1) = 1) ∧ 0 < (pz_hear g (s.2.2 (kz_px f k i)) (s.2.2 (kz_px f k i + 1))).1 then kz_rd f s k m (i + 1) (pz_hear g (s.2.2 (kz_px f k i)) (s.2.2 (kz_px f k i + 1))).2 else (-20 - nI i, kx_un g 108 (g 108 - i), none)) else (nI i, g, some 2)
def pz_read (g : Nat → Nat) (s : kz_H) (x y f n : Int32) : kz_R :=
  if (((0 : Int32) ≤ x ∧ x < 4) ∧ ((0 : Int32) ≤ y ∧ y ≤ 2)) ∧ (0 ≤ n ∧ n ≤ 8) then (if n = 0 then (0, g, some 0) else if s.1 x.toNatClampNeg = 3 then (0, g, some 1) else if ¬ nI (s.1 x.toNatClampNeg) = y then (0, g, some 3) else kz_rd f s x.toNatClampNeg n.toNatClampNeg 0 g) else (-1, g, none)
def kz_tn (r : Nat) : Option Nat → Nat
  | none => r
  | some v => v
section
variable {d : Nat} {Q : kr_Q} {μ : kr_M} {g t : Nat → Nat} {P D K : Nat} {x y z w : Int32}
theorem pz_hear_wf (hw : kr_wf g P D K t) : kr_wf (pz_hear g x z).2 P D K t := by
  unfold pz_hear
  split
  · rename_i c
    split
    · exact hw
    · rename_i c2
      obtain ⟨S, hS, rfl⟩ := kr_set hw.1.1 c.2
      have := kx_p12 hw.1.1
      rw [nI_clamp (by omega)]
      have h8 := hw.2.2.2.2.2.2.1
      refine kz_wf_hear hw (by omega) ?_ (by omega) (by split <;> decide)
      apply Decidable.byContradiction
      intro z
      exact c.1 (by rw [show S = 0 by omega]; rfl)
  · exact hw
theorem pz_hear_pos (hw : kr_wf g P D K t) (h : 0 < (pz_hear g x z).1) : (pz_hear g x z).2 108 = g 108 + 1 ∧ g 108 < 8 := by
  have h8 := hw.2.2.2.2.2.2.1
  unfold pz_hear at h ⊢
  split
  · rename_i c
    rw [if_pos c] at h
    split
    · rename_i c2
      rw [if_pos c2] at h
      exact absurd h (by show ¬ (0 : Int32) < -3; decide)
    · exact ⟨kz_hear_0 (s := x.toNatClampNeg) (c := if z = 0 then 0 else 1), by omega⟩
  · rename_i c
    rw [if_neg c] at h
    exact absurd h (by show ¬ (0 : Int32) < -1; decide)
theorem pz_hear_no (h : ¬ 0 < (pz_hear g x z).1) (h8 : g 108 ≤ 8) : (pz_hear g x z).2 = g := by
  unfold pz_hear at h ⊢
  split
  · rename_i c
    rw [if_pos c] at h
    split
    · rfl
    · rename_i c2
      rw [if_neg c2] at h
      exact absurd (nI_lt (a := 0) (b := g 108 + 1) (by omega) (by omega)) h
  · rfl
theorem kz_rd_wf {f : Int32} {s : kz_H} {k : Nat} : ∀ m i g, kr_wf g P D K t → kr_wf (kz_rd f s k m i g).2.1 P D K t := by
  intro m
  induction m with
  | zero => intro i g h; exact h
  | succ m ih =>
    intro i g h
    unfold kz_rd
    split
    · split
      · exact ih _ _ (pz_hear_wf h)
      · exact kz_wf_forget h (Nat.sub_le _ _)
    · exact h
theorem pz_read_wf {s : kz_H} {f n : Int32} (h : kr_wf g P D K t) : kr_wf (pz_read g s x y f n).2.1 P D K t := by
  unfold pz_read
  split
  · split
    · exact h
    · split
      · exact h
      · split
        · exact h
        · exact kz_rd_wf _ _ _ h
  · exact h
theorem kz_rd_n {f : Int32} {s : kz_H} {k m i : Nat} (h : kz_ok f s k i = false) : kz_rd f s k (m + 1) i g = (nI i, g, some 2) := by
  show (if kz_ok f s k i = true then _ else _) = _
  rw [if_neg (by rw [h]; simp)]
theorem kz_rd_y {f : Int32} {s : kz_H} {k m i : Nat} (h : kz_ok f s k i = true) (h2 : kz_tk g f s k i) : kz_rd f s k (m + 1) i g = kz_rd f s k m (i + 1) (pz_hear g (s.2.2 (kz_px f k i)) (s.2.2 (kz_px f k i + 1))).2 := by
  show (if kz_ok f s k i = true then _ else _) = _
  rw [if_pos h]
  exact if_pos h2
theorem kz_rd_b {f : Int32} {s : kz_H} {k m i : Nat} (h : kz_ok f s k i = true) (h2 : ¬ kz_tk g f s k i) : kz_rd f s k (m + 1) i g = (-20 - nI i, kx_un g 108 (g 108 - i), none) := by
  show (if kz_ok f s k i = true then _ else _) = _
  rw [if_pos h]
  exact if_neg h2
/-- what read may change in the class -/
def kr_fT (μ μ' : kr_M) : Prop := (∀ o, 10 < o → μ'.1 o = μ.1 o) ∧ (∀ k, k ≠ 11 → μ'.1 0 k = μ.1 0 k) ∧ ∀ o, o ≠ 1 → μ'.2 o = μ.2 o
theorem kr_fT.rf (μ : kr_M) : kr_fT μ μ := ⟨fun _ _ => rfl, fun _ _ => rfl, fun _ _ => rfl⟩
theorem kr_fT.R {μ' μ'' : kr_M} (h : kr_fT μ μ') (h2 : kr_fR μ' μ'') : kr_fT μ μ'' := ⟨fun o ho => (h2.1 o (Or.inr ho)).trans (h.1 o ho), fun k hk => by rw [h2.1 0 (Or.inl rfl)]; exact h.2.1 k hk, fun o ho => (h2.2 o ho).trans (h.2.2 o ho)⟩
theorem kr_fT.tt {μ' : kr_M} (h : kr_fT μ μ') (v : Int32) : kr_fT μ (kr_u μ' 0 11 v) := ⟨fun o ho => by rw [kr_u_n _ _ _ (by omega)]; exact h.1 o ho, fun k hk => by rw [kr_u_s, kr_upd_n _ _ hk]; exact h.2.1 k hk, h.2.2⟩
theorem kr_SC.fr {μ' : kr_M} {s : kz_H} (h : kr_SC μ s) (hf : ∀ o, 10 < o → μ'.1 o = μ.1 o) : kr_SC μ' s := by
  intro k hk
  rw [hf 43 (by decide), hf 42 (by decide), hf 41 (by decide)]
  exact h k hk
theorem c_C_hearCells {s : kz_H} {k q : Nat} (hw : kr_wf g P D K t) (hR : kr_Rg μ 1 g P D K t) (hS : kr_SC μ s) (hsw : kx_sw s) (hk : k < 4) (h3 : s.1 k ≠ 3) (hq : q + 1 < s.2.1 k) (kk : ∀ μ', kr_fR μ μ' → kr_Rg μ' 1 (if s.2.2 (40 * k + q + 1) = 0 ∨ s.2.2 (40 * k + q + 1) = 1 then (pz_hear g (s.2.2 (40 * k + q)) (s.2.2 (40 * k + q + 1))).2 else g) P D K t → Q (some (.int (if (s.2.2 (40 * k + q + 1) = 0 ∨ s.2.2 (40 * k + q + 1) = 1) ∧ 0 < (pz_hear g (s.2.2 (40 * k + q)) (s.2.2 (40 * k + q + 1))).1 then 1 else 0))) μ') : kr_c (d + 4) i_C_hearCells [.ref 0, .int (nI k), .int (nI q)] μ Q := by
  obtain ⟨-, p2⟩ := hS k hk
  obtain ⟨-, -, q3⟩ := p2 h3
  have h40 := (hsw k hk).2
  have c0 := q3 q (by omega)
  have c1 := q3 (q + 1) hq
  refine v_C_hearCells ?_
  rw [kr_n1, kz_ci, kz_ci, nI_clamp (by omega), nI_clamp (by omega), c0, c1, show 40 * k + (q + 1) = 40 * k + q + 1 by omega]
  have v1 : vp_in (nI (40 * k + q + 1)) 160 := vp_in_nI (by omega) (by decide)
  have v0 : vp_in (nI (40 * k + q)) 160 := vp_in_nI (by omega) (by decide)
  have h8 := hw.2.2.2.2.2.2.1
  generalize s.2.2 (40 * k + q) = c at *
  generalize s.2.2 (40 * k + q + 1) = v at *
  have go : ∀ e, (v = 0 ∨ v = 1) → kr_c (d + 3) i_R_addHeard [.ref 1, .int c, .int v] μ (kr_bk (kr_Wp C_C_hearCells (kr_c (d + 3)) Q) 49 [some (.ref 0), some (.int (nI k)), some (.int (nI q)), some (.int e)] []) := by
    intro e hv
    refine c_R_addHeard hw hR (fun μ' hf hr => v_C_hearCells_49 ?_)
    have k1 := kk μ' hf (by rw [if_pos hv]; exact hr)
    by_cases cp : 0 < (pz_hear g c v).1
    · rw [if_pos ⟨hv, cp⟩] at k1
      exact br_f (fun z => by rw [kr_le] at z; rw [kr_lt] at cp; omega) k1
    · rw [if_neg (fun z => cp z.2)] at k1
      exact br_t (kr_nlt.mp cp) k1
  refine ⟨v1, fun z => ⟨v0, fun z1 => ?_, fun z1 => absurd (z.symm.trans z1) (by decide)⟩, fun z => ⟨fun z1 => ⟨v0, fun z2 => absurd z1 z2, fun _ => ?_⟩, fun z1 => ?_⟩⟩
  · have := go v (Or.inl z)
    rw [z] at this ⊢
    exact this
  · have := go v (Or.inr z1)
    rw [z1] at this ⊢
    exact this
  · have hn : ¬ (v = 0 ∨ v = 1) := fun q => q.elim z z1
    have k1 := kk μ ⟨fun _ _ => rfl, fun _ _ => rfl⟩ (by rw [if_neg hn]; exact hR)
    rw [if_neg (fun q => hn q.1)] at k1
    exact k1
theorem c_C_read {s : kz_H} {f n : Int32} {r : Nat} (hw : kr_wf g P D K t) (hR : kr_Rg μ 1 g P D K t) (hS : kr_SC μ s) (hsw : kx_sw s) (hr : μ.1 0 11 = nI r) (k : ∀ μ', kr_fT μ μ' → kr_Rg μ' 1 (pz_read g s x y f n).2.1 P D K t → μ'.1 0 11 = nI (kz_tn r (pz_read g s x y f n).2.2) → Q (some (.int (pz_read g s x y f n).1)) μ') : kr_c (d + 5) i_C_read [.ref 0, .int x, .int y, .int f, .int n] μ Q := by
  refine v_C_read ?_
  unfold pz_read at k
  have no : ¬ ((((0 : Int32) ≤ x ∧ x < 4) ∧ ((0 : Int32) ≤ y ∧ y ≤ 2)) ∧ (0 ≤ n ∧ n ≤ 8)) → Q (some (.int (-1))) μ := fun c => by rw [if_neg c] at k; exact k μ (kr_fT.rf μ) hR hr
  refine ⟨fun c => no (fun q => c q.1.1), fun c1 => ⟨fun c => no (fun q => c q.1.2), fun c2 => ⟨fun c => no (fun q => kr_nlt.mpr q.2.1 c), fun c3 => ⟨fun c4 => ?_, fun c => no (fun q => c q.2.2)⟩⟩⟩⟩
  rw [if_pos ⟨⟨c1, c2⟩, kr_nlt.mp c3, c4⟩] at k
  obtain ⟨e, he, rfl⟩ := kr_ix (n := 4) (by decide) c1
  obtain ⟨l, hl, rfl⟩ := kr_ixm (n := 2) (by decide) c2
  obtain ⟨m, hm, rfl⟩ := kr_ixm (n := 8) (by decide) ⟨kr_nlt.mp c3, c4⟩
  rw [nI_clamp (by omega), nI_clamp (by omega)] at k
  rw [kr_eq0 (by omega), hR.1.2.2.2.2.2]
  have h8 := hw.2.2.2.2.2.2.1
  obtain ⟨p1, p2⟩ := hS e he
  obtain ⟨w1, w2⟩ := hsw e he
  have v4 : vp_in (nI e) 4 := vp_in_nI he (by decide)
  -- the end of the loop
  have out : ∀ μ' g' i fd a, kr_fT μ μ' → kr_Rg μ' 1 g' P D K t → g' 108 = g 108 + i → (nI i, g', some fd) = a → (∀ μ', kr_fT μ μ' → kr_Rg μ' 1 a.2.1 P D K t → μ'.1 0 11 = nI (kz_tn r a.2.2) → Q (some (.int a.1)) μ') → Q (some (.int (μ'.1 1 15 - nI (g 108)))) (kr_u μ' 0 11 (nI fd)) := by
    intro μ' g' i fd a hf hr' hg' ha kk
    subst ha
    have k1 := kk _ (hf.tt (nI fd)) (hr'.mem (fun a h1 h2 => kr_u_n _ _ _ (by omega)) rfl) (by rw [kr_u_s, kr_upd_s]; rfl)
    rw [hr'.1.2.2.2.2.2, hg', pk_sub (by omega), show g 108 + i - g 108 = i by omega]
    exact k1
  refine ⟨fun m0 => ?_, fun m0 => ?_⟩
  · rw [if_neg (fun z => m0 ((kr_eq0 (by omega)).mp z))] at k
    refine v_S_faultOfTaking (d := d + 2) ⟨v4, ?_⟩
    rw [nI_clamp (by omega)]
    -- a fault at once
    have bad : ∀ fd, 0 < fd → fd < 4 → (∀ μ', kr_fT μ μ' → kr_Rg μ' 1 g P D K t → μ'.1 0 11 = nI fd → Q (some (.int 0)) μ') → kr_Wp C_C_read (kr_c (d + 4)) Q 63 [some (.ref 0), some (.int (nI e)), some (.int (nI l)), some (.int f), some (.int (nI m)), some (.int (nI (g 108))), none, none] [.int (nI fd)] μ := by
      intro fd hf0 hf4 kk
      refine v_C_read_63 (v_C_read_68 ?_)
      refine br_f (by rw [show (0 : Int32) = nI 0 from rfl, nI_leI (by omega) (by omega)]; omega) ⟨fun _ => ?_, fun z => by rw [kr_eq0 (by omega)] at z; omega⟩
      exact out μ g 0 fd (0, g, some fd) (kr_fT.rf μ) hR (by omega) rfl kk
    refine ⟨fun c3 => ⟨v4, fun cl => ?_, fun cl => ?_⟩, fun c3 => ?_⟩
    · have c3 : s.1 e ≠ 3 := fun z => c3 (p1 z)
      obtain ⟨q1, q2, q3⟩ := p2 c3
      rw [q2] at cl
      rw [if_neg c3, if_pos cl] at k
      exact bad 3 (by decide) (by decide) k
    · have c3 : s.1 e ≠ 3 := fun z => c3 (p1 z)
      obtain ⟨q1, q2, q3⟩ := p2 c3
      rw [q2] at cl
      rw [if_neg c3, if_neg (fun z => z cl)] at k
      refine v_C_read_63 ?_
      have main : ∀ mm i μ' g', i + mm = m → kr_fT μ μ' → kr_Rg μ' 1 g' P D K t → kr_wf g' P D K t → g' 108 = g 108 + i → μ'.1 0 11 = nI r → (∀ μ', kr_fT μ μ' → kr_Rg μ' 1 (kz_rd f s e mm i g').2.1 P D K t → μ'.1 0 11 = nI (kz_tn r (kz_rd f s e mm i g').2.2) → Q (some (.int (kz_rd f s e mm i g').1)) μ') → kr_Wp C_C_read (kr_c (d + 4)) Q 68 [some (.ref 0), some (.int (nI e)), some (.int (nI l)), some (.int f), some (.int (nI m)), some (.int (nI (g 108))), some (.int 0), some (.int (nI i))] [] μ' := by
        intro mm
        induction mm with
        | zero =>
          intro i μ' g' hi hf hr' hw' hg' h11 kk
          refine v_C_read_68 (br_t (nI_le (by omega) (by omega)) ?_)
          exact out μ' g' i 0 _ hf hr' hg' rfl kk
        | succ mm ih =>
          intro i μ' g' hi hf hr' hw' hg' h11 kk
          refine v_C_read_68 (br_f (nI_ge (by omega) (by omega)) ⟨fun z => absurd rfl z, fun _ => ?_⟩)
          rw [show (2 : Int32) = nI 2 from rfl, pk_mul]
          have e43 : μ'.1 43 e = nI (s.2.1 e) := by rw [hf.1 43 (by decide)]; exact q1
          refine v_S_hasTwoCells (d := d + 2) ⟨v4, ?_⟩
          rw [nI_clamp (by omega), e43, Int32.add_assoc, kr_n1, kz_in f (by omega) w2, kz_in f (by omega) w2]
          have nocell : kz_ok f s e i = false → kr_Wp C_C_read (kr_c (d + 4)) Q 94 [some (.ref 0), some (.int (nI e)), some (.int (nI l)), some (.int f), some (.int (nI m)), some (.int (nI (g 108))), some (.int 0), some (.int (nI i))] [.int 0] μ' := by
            intro hno
            rw [kz_rd_n hno] at kk
            refine v_C_read_94 ⟨fun z => absurd rfl z, fun _ => v_C_read_68 ?_⟩
            have o := out μ' g' i 2 _ hf hr' hg' rfl kk
            exact ⟨fun _ => o, fun _ => ⟨fun _ => o, fun z => absurd z (by decide)⟩⟩
          refine ⟨fun z => nocell (by unfold kz_ok; rw [decide_eq_false_iff_not]; omega), fun z => ⟨v4, fun z2 => nocell (by unfold kz_ok; rw [decide_eq_false_iff_not]; omega), fun z2 => ?_⟩⟩
          have hok : kz_ok f s e i = true := by unfold kz_ok; rw [decide_eq_true_eq]; omega
          refine v_C_read_94 ⟨fun _ => ?_, fun y => absurd y (by decide)⟩
          rw [show (2 : Int32) = nI 2 from rfl, pk_mul, kz_feq (f := f) (m := 2 * i) (by omega) z.1 (by omega)]
          have hpx : 40 * e + (f.toInt + ((2 * i : Nat) : Int)).toNat = kz_px f e i := rfl
          have hS' := hS.fr hf.1
          refine c_C_hearCells hw' hr' hS' hsw he c3 (by omega) (fun μ2 hf2 hr2 => v_C_read_114 ?_)
          rw [hpx] at hr2 ⊢
          have h82 := hw'.2.2.2.2.2.2.1
          have hf3 := hf.R hf2
          have h112 : μ2.1 0 11 = nI r := by rw [hf2.1 0 (Or.inl rfl)]; exact h11
          by_cases ct : kz_tk g' f s e i
          · rw [kz_rd_y hok ct] at kk
            rw [if_pos ct.1] at hr2
            rw [if_pos (show (s.2.2 (kz_px f e i + 1) = 0 ∨ s.2.2 (kz_px f e i + 1) = 1) ∧ 0 < (pz_hear g' (s.2.2 (kz_px f e i)) (s.2.2 (kz_px f e i + 1))).1 from ct), kr_n1]
            refine ⟨fun _ => ih (i + 1) μ2 _ (by omega) hf3 hr2 (pz_hear_wf hw') (by rw [(pz_hear_pos hw' ct.2).1]; omega) h112 kk, fun y => absurd y (by decide)⟩
          · rw [kz_rd_b hok ct] at kk
            rw [if_neg (show ¬ ((s.2.2 (kz_px f e i + 1) = 0 ∨ s.2.2 (kz_px f e i + 1) = 1) ∧ 0 < (pz_hear g' (s.2.2 (kz_px f e i)) (s.2.2 (kz_px f e i + 1))).1) from ct)]
            have hr3 : kr_Rg μ2 1 g' P D K t := by
              by_cases cv : s.2.2 (kz_px f e i + 1) = 0 ∨ s.2.2 (kz_px f e i + 1) = 1
              · rw [if_pos cv, pz_hear_no (fun y => ct ⟨cv, y⟩) h82] at hr2
                exact hr2
              · rw [if_neg cv] at hr2
                exact hr2
            refine ⟨fun y => absurd rfl y, fun _ => ?_⟩
            refine kk _ ⟨fun o ho => by rw [kr_u_n _ _ _ (by omega)]; exact hf3.1 o ho, hf3.2.1, hf3.2.2⟩ ?_ h112
            show kr_Rg _ 1 (kx_un g' 108 (g' 108 - i)) P D K t
            rw [show g' 108 - i = g 108 by omega]
            exact hr3.forget hw' (by omega)
      exact main m 0 μ g (by omega) (kr_fT.rf μ) hR hw (by omega) hr k
    · by_cases c5 : s.1 e = 3
      · rw [if_pos c5] at k
        exact bad 1 (by decide) (by decide) k
      · rw [(p2 c5).1] at c3; exact absurd c3 (kz_n1 (by omega))
  · rw [if_pos (by rw [m0]; rfl)] at k
    refine v_C_read_68 (br_t (by rw [m0]; exact Int32.le_refl _) ?_)
    exact out μ g 0 0 (0, g, some 0) (kr_fT.rf μ) hR (by omega) rfl k
theorem kx_08 (x : Int32) : ((0 : Int64) ≤ x.toInt64 ∧ x.toInt64 ≤ (8 : Int64)) ↔ (0 ≤ x ∧ x ≤ 8) := kx_lb x 8 8 (by decide)
theorem kr_SM.fr {μ' : kr_M} {s : kz_H} {W : List Nat} {F : List (Nat × Nat)} (h : kr_SM μ s) (k : kr_keep W F μ μ') (hW : (83 ∉ W ∧ 84 ∉ W ∧ 85 ∉ W) ∧ ∀ q ∈ F, q.1 < 83) : kr_SM μ' s := by
  intro j hj
  rw [k.row hW.1.1 (fun q hq z => by have := hW.2 q hq; omega), k.row hW.1.2.1 (fun q hq z => by have := hW.2 q hq; omega), k.row hW.1.2.2 (fun q hq z => by have := hW.2 q hq; omega)]
  exact h j hj
theorem c_M_read {s : kz_H} {f n : Int32} {r : Nat} (hw : kr_wf g P D K t) (hM : kr_Mg μ g) (hS : kr_SM μ s) (hsw : kx_sw s) (hr : μ.1 65 44 = nI r) (k : ∀ μ', kr_keep [66] [(65, 44)] μ μ' → kr_Mg μ' (pz_read g s x y f n).2.1 → μ'.1 65 44 = nI (kz_tn r (pz_read g s x y f n).2.2) → Q (some (.int (pz_read g s x y f n).1)) μ') : kr_c (d + 4) i_M_read [.ref 65, .int x, .int y, .int f, .int n] μ Q := by
  refine v_M_read ?_
  rw [kr_lt4, kx_08]
  unfold pz_read at k
  have no : ¬ ((((0 : Int32) ≤ x ∧ x < 4) ∧ ((0 : Int32) ≤ y ∧ y ≤ 2)) ∧ (0 ≤ n ∧ n ≤ 8)) → Q (some (.int (-1))) μ := fun c => by rw [if_neg c] at k; exact k μ kr_keep.rf hM hr
  refine ⟨fun c => no (fun q => c q.1), fun c1 => ⟨fun c4 => ?_, fun c => no (fun q => c q.2)⟩⟩
  rw [if_pos ⟨c1, c4⟩] at k
  obtain ⟨e, he, rfl⟩ := kr_ix (n := 4) (by decide) c1.1
  obtain ⟨l, hl, rfl⟩ := kr_ixm (n := 2) (by decide) c1.2
  obtain ⟨m, hm, rfl⟩ := kr_ixm (n := 8) (by decide) c4
  rw [nI_clamp (by omega), nI_clamp (by omega)] at k
  rw [hM 108 (by decide)]
  have h8 := hw.2.2.2.2.2.2.1
  obtain ⟨p1, p2⟩ := hS e he
  obtain ⟨w1, w2⟩ := hsw e he
  have v4 : vp_in (nI e) 4 := vp_in_nI he (by decide)
  have out : ∀ μ' g' i fd a, kr_keep [66] [(65, 44)] μ μ' → kr_Mg μ' g' → (nI i, g', some fd) = a → (∀ μ', kr_keep [66] [(65, 44)] μ μ' → kr_Mg μ' a.2.1 → μ'.1 65 44 = nI (kz_tn r a.2.2) → Q (some (.int a.1)) μ') → Q (some (.int (nI i))) (kr_u μ' 65 44 (nI fd)) := by
    intro μ' g' i fd a hf hr' ha kk
    subst ha
    exact kk _ (hf.f _ (by decide)) (fun j hj => by rw [kr_u_n _ _ _ (by decide)]; exact hr' j hj) (by rw [kr_u_s, kr_upd_s]; rfl)
  by_cases m0 : m = 0
  · rw [if_pos (by rw [m0]; rfl)] at k
    refine v_M_read_41 (br_t (by rw [m0]; exact Int32.le_refl _) ?_)
    exact out μ g 0 0 (0, g, some 0) kr_keep.rf hM rfl k
  rw [if_neg (fun z => m0 ((kr_eq0 (by omega)).mp z))] at k
  have bad : ∀ fd i, 0 < fd → fd < 4 → i < 8 → ∀ μ' g', kr_keep [66] [(65, 44)] μ μ' → kr_Mg μ' g' → (∀ μ', kr_keep [66] [(65, 44)] μ μ' → kr_Mg μ' g' → μ'.1 65 44 = nI fd → Q (some (.int (nI i))) μ') → kr_Wp C_M_read (kr_c (d + 3)) Q 143 [some (.ref 65), some (.int (nI e)), some (.int (nI l)), some (.int f), some (.int (nI m)), some (.int (nI (g 108))), some (.int (nI fd)), some (.int (nI i)), some (.int (nI i)), none, none, none] [] μ' := by
    intro fd i hf0 hf4 hi8 μ' g' hk' hM' kk
    have o := out μ' g' i fd (nI i, g', some fd) hk' hM' rfl kk
    have hne : ¬ nI fd = 0 := fun z => by rw [kr_eq0 (by omega)] at z; omega
    exact v_M_read_143 ⟨fun _ => v_M_read_41 ⟨fun _ => o, fun _ => ⟨fun _ => o, fun z => absurd z hne⟩⟩, fun z => absurd z hne⟩
  -- from the inner loop, with a fault
  have leave : ∀ fd i c, 0 < fd → fd < 4 → c ≤ 2 → i < 8 → ∀ μ' g', kr_keep [66] [(65, 44)] μ μ' → kr_Mg μ' g' → (∀ μ', kr_keep [66] [(65, 44)] μ μ' → kr_Mg μ' g' → μ'.1 65 44 = nI fd → Q (some (.int (nI i))) μ') → kr_Wp C_M_read (kr_c (d + 3)) Q 56 [some (.ref 65), some (.int (nI e)), some (.int (nI l)), some (.int f), some (.int (nI m)), some (.int (nI (g 108))), some (.int (nI fd)), some (.int (nI i)), some (.int (nI i)), some (.int (nI c)), none, none] [] μ' := by
    intro fd i c hf0 hf4 hc hi8 μ' g' hk' hM' kk
    have b := bad fd i hf0 hf4 hi8 μ' g' hk' hM' kk
    have hne : ¬ nI fd = 0 := fun z => by rw [kr_eq0 (by omega)] at z; omega
    exact v_M_read_56 ⟨fun _ => b, fun _ => ⟨fun _ => b, fun z => absurd z hne⟩⟩
  by_cases c3 : s.1 e = 3
  · rw [if_pos c3] at k
    refine v_M_read_41 (br_f (by rw [show (0 : Int32) = nI 0 from rfl, nI_leI (by omega) (by omega)]; omega) ⟨fun z => absurd rfl z, fun _ => v_M_read_56 (br_f (by decide) ⟨fun z => absurd rfl z, fun _ => ⟨v4, ?_⟩⟩)⟩)
    rw [nI_clamp (by omega), p1 c3]
    exact ⟨fun z => absurd rfl z, fun _ => leave 1 0 1 (by decide) (by decide) (by decide) (by decide) μ g kr_keep.rf hM k⟩
  rw [if_neg c3] at k
  obtain ⟨q1, q2, q3⟩ := p2 c3
  by_cases cl : nI (s.1 e) = nI l
  · rw [if_neg (fun z => z cl)] at k
    have main : ∀ mm i μ' g', i + mm = m → kr_keep [66] [(65, 44)] μ μ' → kr_Mg μ' g' → kr_wf g' P D K t → g' 108 = g 108 + i → μ'.1 65 44 = nI r → (∀ μ', kr_keep [66] [(65, 44)] μ μ' → kr_Mg μ' (kz_rd f s e mm i g').2.1 → μ'.1 65 44 = nI (kz_tn r (kz_rd f s e mm i g').2.2) → Q (some (.int (kz_rd f s e mm i g').1)) μ') → kr_Wp C_M_read (kr_c (d + 3)) Q 41 [some (.ref 65), some (.int (nI e)), some (.int (nI l)), some (.int f), some (.int (nI m)), some (.int (nI (g 108))), some (.int 0), some (.int (nI i)), some (.int (nI i)), none, none, none] [] μ' := by
      intro mm
      induction mm with
      | zero =>
        intro i μ' g' hi hk' hM' hw' hg' h44 kk
        refine v_M_read_41 (br_t (nI_le (by omega) (by omega)) ?_)
        exact out μ' g' i 0 _ hk' hM' rfl kk
      | succ mm ih =>
        intro i μ' g' hi hk' hM' hw' hg' h44 kk
        have e83 : μ'.1 83 e = nI (s.1 e) := by rw [hk'.row (o := 83) (by decide) (by decide)]; exact q2
        have e84 : μ'.1 84 e = nI (s.2.1 e) := by rw [hk'.row (o := 84) (by decide) (by decide)]; exact q1
        have n4 : ¬ nI (s.1 e) = -4 := kx_neg4 (by omega)
        refine v_M_read_41 (br_f (nI_ge (by omega) (by omega)) ⟨fun z => absurd rfl z, fun _ => ?_⟩)
        have nocell : kz_ok f s e i = false → ∀ c, c ≤ 2 → kr_Wp C_M_read (kr_c (d + 3)) Q 56 [some (.ref 65), some (.int (nI e)), some (.int (nI l)), some (.int f), some (.int (nI m)), some (.int (nI (g 108))), some (.int 2), some (.int (nI i)), some (.int (nI i)), some (.int (nI c)), none, none] [] μ' := by
          intro hno c hc
          rw [kz_rd_n hno] at kk
          exact leave 2 i c (by decide) (by decide) hc (by omega) μ' g' hk' hM' kk
        -- one cell looked at
        have look : ∀ c : Nat, c < 2 → (¬ (0 ≤ f.toInt + ((2 * i : Nat) : Int) + (c : Int) ∧ f.toInt + ((2 * i : Nat) : Int) + (c : Int) < s.2.1 e) → kz_ok f s e i = false) → ((0 ≤ f.toInt + ((2 * i : Nat) : Int) + (c : Int) ∧ f.toInt + ((2 * i : Nat) : Int) + (c : Int) < s.2.1 e) → kr_Wp C_M_read (kr_c (d + 3)) Q 56 [some (.ref 65), some (.int (nI e)), some (.int (nI l)), some (.int f), some (.int (nI m)), some (.int (nI (g 108))), some (.int 0), some (.int (nI i)), some (.int (nI i)), some (.int (nI (c + 1))), none, none] [] μ') → kr_Wp C_M_read (kr_c (d + 3)) Q 56 [some (.ref 65), some (.int (nI e)), some (.int (nI l)), some (.int f), some (.int (nI m)), some (.int (nI (g 108))), some (.int 0), some (.int (nI i)), some (.int (nI i)), some (.int (nI c)), none, none] [] μ' := by
          intro c hc hno hyes
          refine v_M_read_56 (br_f (nI_ge (b := 2) hc (by decide)) ⟨fun z => absurd rfl z, fun _ => ⟨v4, ?_⟩⟩)
          rw [nI_clamp (by omega), e83, e84, show (2 : Int32) = nI 2 from rfl, pk_mul, kr_cmp_lt, kr_cmp_lt, Int64.lt_iff_toInt_lt, Int64.lt_iff_toInt_lt, kz_ladd f (by omega) (by omega), Int32.toInt_toInt64, nI_toInt (by omega), show (0 : Int64).toInt = 0 from rfl, kr_n1]
          refine ⟨fun _ => ⟨v4, fun _ => ⟨fun z => nocell (hno (by omega)) (c + 1) (by omega), fun z => ⟨v4, fun z2 => hyes (by omega), fun z2 => nocell (hno (by omega)) (c + 1) (by omega)⟩⟩, fun z => absurd cl z⟩, fun z => absurd z n4⟩
        refine look 0 (by decide) (fun z => by unfold kz_ok; rw [decide_eq_false_iff_not]; omega) (fun z0 => look 1 (by decide) (fun z => by unfold kz_ok; rw [decide_eq_false_iff_not]; omega) (fun z1 => v_M_read_56 (br_t (Int32.le_refl _) (v_M_read_143 ⟨fun z => absurd rfl z, fun _ => ?_⟩))))
        have hok : kz_ok f s e i = true := by unfold kz_ok; rw [decide_eq_true_eq]; omega
        have ix : ((40 : Int32) * nI e + f) + 2 * nI i = nI (kz_px f e i) := by
          rw [show (2 : Int32) = nI 2 from rfl, pk_mul, Int32.add_assoc, kz_feq (f := f) (m := 2 * i) (by omega) (by omega) (by omega), kz_ci2]
          rfl
        have hpl : kz_px f e i + 1 < 40 * e + s.2.1 e := by unfold kz_px; omega
        have hpl0 : 40 * e ≤ kz_px f e i := by unfold kz_px; omega
        have e85 : ∀ j, 40 * e ≤ j → j < 40 * e + s.2.1 e → μ'.1 85 j = s.2.2 j := fun j h1 h2 => by
          rw [hk'.row (o := 85) (by decide) (by decide)]
          have := q3 (j - 40 * e) (by omega)
          rwa [show 40 * e + (j - 40 * e) = j by omega] at this
        rw [ix, kr_n1, nI_clamp (by omega), nI_clamp (by omega), e85 _ hpl0 (by omega), e85 _ (by omega) hpl, kx_01]
        have vp0 : vp_in (nI (kz_px f e i)) 160 := vp_in_nI (by omega) (by decide)
        have vp1 : vp_in (nI (kz_px f e i + 1)) 160 := vp_in_nI (by omega) (by decide)
        have rest : ∀ μ2, kr_keep [66] [(65, 44)] μ μ2 → kr_Mg μ2 g' → μ2.1 65 44 = nI r → ¬ kz_tk g' f s e i → Q (some (.int (-20 - nI i))) (kr_u μ2 66 108 (nI (g 108))) := by
          intro μ2 hk2 hM2 h2 ct
          rw [kz_rd_b hok ct] at kk
          refine kk _ (hk2.u _ _ (by decide)) ?_ h2
          show kr_Mg _ (kx_un g' 108 (g' 108 - i))
          rw [show g' 108 - i = g 108 by omega]
          exact hM2.un
        have go : (s.2.2 (kz_px f e i + 1) = 0 ∨ s.2.2 (kz_px f e i + 1) = 1) → kr_c (d + 3) i_M_hear [.ref 65, .int (s.2.2 (kz_px f e i)), .int (s.2.2 (kz_px f e i + 1))] μ' (kr_bk (kr_Wp C_M_read (kr_c (d + 3)) Q) 208 [some (.ref 65), some (.int (nI e)), some (.int (nI l)), some (.int f), some (.int (nI m)), some (.int (nI (g 108))), some (.int 0), some (.int (nI i)), some (.int (nI i)), some (.int (nI (kz_px f e i))), none, none] []) := by
          intro hv
          refine c_M_hear hw' hM' (fun μ2 hk2 hM2 => v_M_read_208 ?_)
          have hk3 := hk'.tr (hk2.wk (W' := [66]) (F' := [(65, 44)]) (by decide) (by decide))
          have h442 : μ2.1 65 44 = nI r := by rw [hk2.2 65 44 (by decide) (by decide)]; exact h44
          by_cases ct : kz_tk g' f s e i
          · have hpos := pz_hear_pos hw' ct.2
            rw [kz_rd_y hok ct] at kk
            rw [kr_n1]
            refine br_t (by have := ct.2; rw [kr_lt] at this; rw [kr_le]; omega) (ih (i + 1) μ2 _ (by omega) hk3 hM2 (pz_hear_wf hw') (by rw [hpos.1]; omega) h442 kk)
          · have hn : ¬ 0 < (pz_hear g' (s.2.2 (kz_px f e i)) (s.2.2 (kz_px f e i + 1))).1 := fun z => ct ⟨hv, z⟩
            rw [pz_hear_no hn hw'.2.2.2.2.2.2.1] at hM2
            refine br_f (fun z => ?_) (rest μ2 hk3 hM2 h442 ct)
            -- refused answers are below 0
            unfold pz_hear at z hn
            split at z
            · rename_i cc
              rw [if_pos cc] at hn
              split at z
              · exact absurd z (by show ¬ (0 : Int32) ≤ -3; decide)
              · rename_i cc2
                rw [if_neg cc2] at hn
                exact hn (nI_lt (a := 0) (b := g' 108 + 1) (by omega) (by have := hw'.2.2.2.2.2.2.1; omega))
            · exact absurd z (by show ¬ (0 : Int32) ≤ -1; decide)
        refine ⟨vp1, fun z => rest μ' hk' hM' h44 (fun ct => z ct.1), fun z => ⟨vp0, vp1, fun z2 => ?_, fun z2 => ?_⟩⟩
        · have := go z
          rw [z.resolve_right z2] at this
          exact this
        · have := go z
          rw [z2] at this
          exact this
    exact main m 0 μ g (by omega) kr_keep.rf hM hw (by omega) hr k
  · rw [if_pos cl] at k
    refine v_M_read_41 (br_f (by rw [show (0 : Int32) = nI 0 from rfl, nI_leI (by omega) (by omega)]; omega) ⟨fun z => absurd rfl z, fun _ => v_M_read_56 (br_f (by decide) ⟨fun z => absurd rfl z, fun _ => ⟨v4, ?_⟩⟩)⟩)
    rw [nI_clamp (by omega), q2]
    exact ⟨fun _ => ⟨v4, fun z => absurd z cl, fun _ => leave 3 0 1 (by decide) (by decide) (by decide) (by decide) μ g kr_keep.rf hM k⟩, fun z => absurd z (kx_neg4 (by omega))⟩
end
