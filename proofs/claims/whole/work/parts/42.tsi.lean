/-! tape, sheets, images -/
theorem st_T_append {d : Nat} {Q : kr_Q} {pc : Nat} {ls : kr_L} {st : List Value} {μ : kr_M} (h : C_T_append pc (kr_Wp C_T_append (kr_c d) Q) (kr_c d) Q ls st μ) : kr_Wp C_T_append (kr_c d) Q pc ls st μ := kr_Wp.step (fun pc => (kr_ok_T_append pc).2) (kr_c_om d) h
theorem v_T_append {d : Nat} {Q : kr_Q} {μ : kr_M} {a1 : Int64} (h : ((((μ.1 11 1) + (8 : Int32)) ≤ 400 → kr_Wp C_T_append (kr_c d) Q 18 [some (.ref 11), some (.long a1), none, some (.int 0)] [] μ) ∧ (¬ (((μ.1 11 1) + (8 : Int32)) ≤ 400) → Q (some (.int (-3))) μ))) : kr_c (d + 1) i_T_append [.ref 11, .long a1] μ Q := ⟨rfl, (st_T_append (st_T_append (And.intro rfl (st_T_append (st_T_append (st_T_append (st_T_append (And.intro (fun z1x => (st_T_append (st_T_append (h.1 z1x)))) (fun z1x => (st_T_append (st_T_append (h.2 z1x))))))))))))⟩
theorem v_T_append_18 {d : Nat} {Q : kr_Q} {μ : kr_M} {a1 : Int64} {a3 : Int32} (h : (((8 : Int32) ≤ a3 → Q (some (.int ((μ.1 11 1) + (8 : Int32)))) (kr_u μ 11 1 ((μ.1 11 1) + (8 : Int32)))) ∧ (¬ ((8 : Int32) ≤ a3) → vp_in ((μ.1 11 1) + a3) 400 ∧ kr_Wp C_T_append (kr_c d) Q 18 [some (.ref 11), some (.long a1), none, some (.int (a3 + 1))] [] (kr_u μ 12 (((μ.1 11 1) + a3).toNatClampNeg) (((a1 >>> (((56 : Int32) - ((8 : Int32) * a3)).toInt64 &&& 63)) &&& (255 : Int64)).toInt32))))) : kr_Wp C_T_append (kr_c d) Q 18 [some (.ref 11), some (.long a1), none, some (.int a3)] [] μ := (st_T_append (st_T_append (st_T_append (And.intro (fun z1x => (st_T_append (st_T_append (st_T_append (And.intro rfl (st_T_append (st_T_append (st_T_append (And.intro rfl (st_T_append (st_T_append (And.intro rfl (st_T_append (h.1 z1x)))))))))))))) (fun z1x => (st_T_append (st_T_append (And.intro rfl (st_T_append (st_T_append (And.intro rfl (st_T_append (st_T_append (st_T_append (st_T_append (st_T_append (st_T_append (st_T_append (st_T_append (st_T_append (st_T_append (st_T_append (st_T_append (st_T_append (And.intro ⟨400, rfl, (h.2 z1x).1⟩ (st_T_append (st_T_append (h.2 z1x).2)))))))))))))))))))))))))))
theorem st_M_feed {d : Nat} {Q : kr_Q} {pc : Nat} {ls : kr_L} {st : List Value} {μ : kr_M} (h : C_M_feed pc (kr_Wp C_M_feed (kr_c d) Q) (kr_c d) Q ls st μ) : kr_Wp C_M_feed (kr_c d) Q pc ls st μ := kr_Wp.step (fun pc => (kr_ok_M_feed pc).2) (kr_c_om d) h
theorem v_M_feed {d : Nat} {Q : kr_Q} {μ : kr_M} {a1 : Int64} (h : ((((μ.1 65 14) + (8 : Int32)) ≤ 400 → kr_Wp C_M_feed (kr_c d) Q 19 [some (.ref 65), some (.long a1), none, some (.int 56)] [] μ) ∧ (¬ (((μ.1 65 14) + (8 : Int32)) ≤ 400) → Q (some (.int (-3))) μ))) : kr_c (d + 1) i_M_feed [.ref 65, .long a1] μ Q := ⟨rfl, (st_M_feed (st_M_feed (And.intro rfl (st_M_feed (st_M_feed (st_M_feed (st_M_feed (And.intro (fun z1x => (st_M_feed (st_M_feed (h.1 z1x)))) (fun z1x => (st_M_feed (st_M_feed (h.2 z1x))))))))))))⟩
theorem v_M_feed_19 {d : Nat} {Q : kr_Q} {μ : kr_M} {a1 : Int64} {a3 : Int32} (h : ((a3 < 0 → Q (some (.int (μ.1 65 14))) μ) ∧ (¬ (a3 < 0) → vp_in (μ.1 65 14) 400 ∧ kr_Wp C_M_feed (kr_c d) Q 19 [some (.ref 65), some (.long a1), none, some (.int (a3 + (-8)))] [] (kr_u (kr_u μ 71 ((μ.1 65 14).toNatClampNeg) (((a1 >>> (a3.toInt64 &&& 63)) &&& (255 : Int64)).toInt32)) 65 14 ((μ.1 65 14) + (1 : Int32)))))) : kr_Wp C_M_feed (kr_c d) Q 19 [some (.ref 65), some (.long a1), none, some (.int a3)] [] μ := (st_M_feed (st_M_feed (And.intro (fun z1x => (st_M_feed (st_M_feed (And.intro rfl (st_M_feed (h.1 z1x)))))) (fun z1x => (st_M_feed (st_M_feed (And.intro rfl (st_M_feed (st_M_feed (And.intro rfl (st_M_feed (st_M_feed (st_M_feed (st_M_feed (st_M_feed (st_M_feed (st_M_feed (And.intro ⟨400, rfl, (h.2 z1x).1⟩ (st_M_feed (st_M_feed (st_M_feed (And.intro rfl (st_M_feed (st_M_feed (st_M_feed (And.intro rfl (st_M_feed (st_M_feed (h.2 z1x).2))))))))))))))))))))))))))))
theorem st_T_cut {d : Nat} {Q : kr_Q} {pc : Nat} {ls : kr_L} {st : List Value} {μ : kr_M} (h : C_T_cut pc (kr_Wp C_T_cut (kr_c d) Q) (kr_c d) Q ls st μ) : kr_Wp C_T_cut (kr_c d) Q pc ls st μ := kr_Wp.step (fun pc => (kr_ok_T_cut pc).2) (kr_c_om d) h
theorem v_T_cut {d : Nat} {Q : kr_Q} {μ : kr_M} {a1 : Int32} (h : ((a1 < 0 → Q (some (.int (-1))) μ) ∧ (¬ (a1 < 0) → ((a1 ≤ (μ.1 11 1) → Q (some (.int (μ.1 11 1))) (kr_u μ 11 1 a1)) ∧ (¬ (a1 ≤ (μ.1 11 1)) → Q (some (.int (-1))) μ))))) : kr_c (d + 1) i_T_cut [.ref 11, .int a1] μ Q := ⟨rfl, (st_T_cut (st_T_cut (And.intro (fun z1x => (st_T_cut (st_T_cut (h.1 z1x)))) (fun z1x => (st_T_cut (st_T_cut (st_T_cut (And.intro rfl (st_T_cut (And.intro (fun z2x => (st_T_cut (st_T_cut (And.intro rfl (st_T_cut (st_T_cut (st_T_cut (st_T_cut (And.intro rfl (st_T_cut (st_T_cut ((h.2 z1x).1 z2x)))))))))))) (fun z2x => (st_T_cut (st_T_cut ((h.2 z1x).2 z2x))))))))))))))⟩
theorem st_C_feed {d : Nat} {Q : kr_Q} {pc : Nat} {ls : kr_L} {st : List Value} {μ : kr_M} (h : C_C_feed pc (kr_Wp C_C_feed (kr_c d) Q) (kr_c d) Q ls st μ) : kr_Wp C_C_feed (kr_c d) Q pc ls st μ := kr_Wp.step (fun pc => (kr_ok_C_feed pc).2) (kr_c_om d) h
theorem v_C_feed {d : Nat} {Q : kr_Q} {μ : kr_M} {a1 : Int64} (h : kr_c (d + 1) i_T_append [.ref 11, .long a1] μ (kr_bk (kr_Wp C_C_feed (kr_c (d + 1)) Q) 8 [some (.ref 0), some (.long a1), none] [])) : kr_c (d + 2) i_C_feed [.ref 0, .long a1] μ Q := ⟨rfl, (st_C_feed (st_C_feed (And.intro rfl (st_C_feed (st_C_feed (And.intro rfl h))))))⟩
theorem v_C_feed_8 {d : Nat} {Q : kr_Q} {μ : kr_M} {a1 : Int64} {r : Int32} (h : Q (some (.int r)) μ) : kr_Wp C_C_feed (kr_c (d + 1)) Q 8 [some (.ref 0), some (.long a1), none] [.int r] μ := (st_C_feed h)
theorem st_C_end {d : Nat} {Q : kr_Q} {pc : Nat} {ls : kr_L} {st : List Value} {μ : kr_M} (h : C_C_end pc (kr_Wp C_C_end (kr_c d) Q) (kr_c d) Q ls st μ) : kr_Wp C_C_end (kr_c d) Q pc ls st μ := kr_Wp.step (fun pc => (kr_ok_C_end pc).2) (kr_c_om d) h
theorem v_C_end {d : Nat} {Q : kr_Q} {μ : kr_M} {a1 : Int32} (h : kr_c (d + 1) i_T_cut [.ref 11, .int a1] μ (kr_bk (kr_Wp C_C_end (kr_c (d + 1)) Q) 8 [some (.ref 0), some (.int a1)] [])) : kr_c (d + 2) i_C_end [.ref 0, .int a1] μ Q := ⟨rfl, (st_C_end (st_C_end (And.intro rfl (st_C_end (st_C_end (And.intro rfl h))))))⟩
theorem v_C_end_8 {d : Nat} {Q : kr_Q} {μ : kr_M} {a1 : Int32} {r : Int32} (h : Q (some (.int r)) μ) : kr_Wp C_C_end (kr_c (d + 1)) Q 8 [some (.ref 0), some (.int a1)] [.int r] μ := (st_C_end h)
theorem st_M_end {d : Nat} {Q : kr_Q} {pc : Nat} {ls : kr_L} {st : List Value} {μ : kr_M} (h : C_M_end pc (kr_Wp C_M_end (kr_c d) Q) (kr_c d) Q ls st μ) : kr_Wp C_M_end (kr_c d) Q pc ls st μ := kr_Wp.step (fun pc => (kr_ok_M_end pc).2) (kr_c_om d) h
theorem v_M_end {d : Nat} {Q : kr_Q} {μ : kr_M} {a1 : Int32} (h : (((0 : Int64) ≤ a1.toInt64 ∧ a1.toInt64 ≤ (μ.1 65 14).toInt64 → Q (some (.int (μ.1 65 14))) (kr_u μ 65 14 a1)) ∧ (¬ ((0 : Int64) ≤ a1.toInt64 ∧ a1.toInt64 ≤ (μ.1 65 14).toInt64) → Q (some (.int (-1))) μ))) : kr_c (d + 2) i_M_end [.ref 65, .int a1] μ Q := ⟨rfl, (st_M_end (st_M_end (st_M_end (st_M_end (st_M_end (And.intro rfl (st_M_end (st_M_end (c_M_in (st_M_end (And.intro (fun z1x => (st_M_end (st_M_end (And.intro rfl (st_M_end (st_M_end (st_M_end (st_M_end (And.intro rfl (st_M_end (st_M_end (h.1 (kr_b1 z1x))))))))))))) (fun z1x => (st_M_end (st_M_end (h.2 (kr_b2 z1x))))))))))))))))⟩
theorem st_S_setCell {d : Nat} {Q : kr_Q} {pc : Nat} {ls : kr_L} {st : List Value} {μ : kr_M} (h : C_S_setCell pc (kr_Wp C_S_setCell (kr_c d) Q) (kr_c d) Q ls st μ) : kr_Wp C_S_setCell (kr_c d) Q pc ls st μ := kr_Wp.step (fun pc => (kr_ok_S_setCell pc).2) (kr_c_om d) h
theorem v_S_setCell {d : Nat} {Q : kr_Q} {μ : kr_M} {a1 : Int32} {a2 : Int32} {a3 : Int32} (h : vp_in a1 4 ∧ ((¬ (μ.1 42 a1.toNatClampNeg) = 0 → vp_in a1 4 ∧ ((¬ (μ.1 42 a1.toNatClampNeg) = 1 → vp_in ((a1 * (40 : Int32)) + a2) 160 ∧ Q none (kr_u μ 41 (((a1 * (40 : Int32)) + a2).toNatClampNeg) a3)) ∧ ((μ.1 42 a1.toNatClampNeg) = 1 → vp_in ((a1 * (40 : Int32)) + a2) 160 ∧ Q none (kr_u μ 41 (((a1 * (40 : Int32)) + a2).toNatClampNeg) (a3.toInt16.toInt32))))) ∧ ((μ.1 42 a1.toNatClampNeg) = 0 → vp_in ((a1 * (40 : Int32)) + a2) 160 ∧ Q none (kr_u μ 41 (((a1 * (40 : Int32)) + a2).toNatClampNeg) (a3.toInt8.toInt32))))) : kr_c (d + 1) i_S_setCell [.ref 40, .int a1, .int a2, .int a3] μ Q := ⟨rfl, (st_S_setCell (st_S_setCell (st_S_setCell (st_S_setCell (And.intro rfl (st_S_setCell (st_S_setCell (And.intro ⟨4, rfl, h.1⟩ (st_S_setCell (And.intro (fun z1x => (st_S_setCell (st_S_setCell (And.intro rfl (st_S_setCell (st_S_setCell (And.intro ⟨4, rfl, (h.2.1 z1x).1⟩ (st_S_setCell (st_S_setCell (And.intro (fun z2x => (st_S_setCell (st_S_setCell (And.intro rfl (st_S_setCell (st_S_setCell (st_S_setCell (st_S_setCell (st_S_setCell (st_S_setCell (st_S_setCell (And.intro ⟨160, rfl, ((h.2.1 z1x).2.1 z2x).1⟩ (st_S_setCell ((h.2.1 z1x).2.1 z2x).2))))))))))))) (fun z2x => (st_S_setCell (st_S_setCell (st_S_setCell (st_S_setCell (st_S_setCell (And.intro rfl (st_S_setCell (st_S_setCell (st_S_setCell (st_S_setCell (st_S_setCell (st_S_setCell (st_S_setCell (And.intro ⟨160, rfl, ((h.2.1 z1x).2.2 (Decidable.not_not.mp z2x)).1⟩ (st_S_setCell ((h.2.1 z1x).2.2 (Decidable.not_not.mp z2x)).2)))))))))))))))))))))))))) (fun z1x => (st_S_setCell (st_S_setCell (st_S_setCell (st_S_setCell (st_S_setCell (st_S_setCell (And.intro rfl (st_S_setCell (st_S_setCell (st_S_setCell (st_S_setCell (st_S_setCell (st_S_setCell (st_S_setCell (And.intro ⟨160, rfl, (h.2.2 (Decidable.not_not.mp z1x)).1⟩ (st_S_setCell (h.2.2 (Decidable.not_not.mp z1x)).2)))))))))))))))))))))))))))⟩
theorem st_C_sheet {d : Nat} {Q : kr_Q} {pc : Nat} {ls : kr_L} {st : List Value} {μ : kr_M} (h : C_C_sheet pc (kr_Wp C_C_sheet (kr_c d) Q) (kr_c d) Q ls st μ) : kr_Wp C_C_sheet (kr_c d) Q pc ls st μ := kr_Wp.step (fun pc => (kr_ok_C_sheet pc).2) (kr_c_om d) h
theorem v_C_sheet {d : Nat} {Q : kr_Q} {μ : kr_M} {a1 : Int32} {a2 : Int32} {a3 : Int32} (h : ((¬ ((0 : Int32) ≤ a1 ∧ a1 < 4) → Q (some (.int (-1))) μ) ∧ ((0 : Int32) ≤ a1 ∧ a1 < 4 → ((¬ ((0 : Int32) ≤ a2 ∧ a2 ≤ 2) → Q (some (.int (-1))) μ) ∧ ((0 : Int32) ≤ a2 ∧ a2 ≤ 2 → ((a3 ≤ 40 → (((0 : Int32) ≤ a3 → kr_c (d + 1) i_S_makeAnew [.ref 40, .int a1, .int a2, .int a3] μ (kr_bk (kr_Wp C_C_sheet (kr_c (d + 1)) Q) 47 [some (.ref 0), some (.int a1), some (.int a2), some (.int a3)] [])) ∧ (¬ ((0 : Int32) ≤ a3) → Q (some (.int (-14))) μ))) ∧ (¬ (a3 ≤ 40) → Q (some (.int (-1))) μ))))))) : kr_c (d + 2) i_C_sheet [.ref 0, .int a1, .int a2, .int a3] μ Q := ⟨rfl, (st_C_sheet (st_C_sheet (And.intro rfl (st_C_sheet (st_C_sheet (And.intro rfl (c_S_hasSheet (st_C_sheet (And.intro (fun z1x => (st_C_sheet (st_C_sheet (h.1 (kr_b0 z1x))))) (fun z1x => (st_C_sheet (st_C_sheet (And.intro rfl (st_C_sheet (st_C_sheet (And.intro rfl (c_S_hasLane (st_C_sheet (And.intro (fun z2x => (st_C_sheet (st_C_sheet ((h.2 (kr_b1 z1x)).1 (kr_b0 z2x))))) (fun z2x => (st_C_sheet (st_C_sheet (st_C_sheet (And.intro (fun z3x => (st_C_sheet (st_C_sheet (And.intro (fun z4x => (st_C_sheet (st_C_sheet (And.intro rfl (st_C_sheet (st_C_sheet (st_C_sheet (st_C_sheet (And.intro rfl ((((h.2 (kr_b1 z1x)).2 (kr_b1 z2x)).1 z3x).1 z4x)))))))))) (fun z4x => (st_C_sheet (st_C_sheet ((((h.2 (kr_b1 z1x)).2 (kr_b1 z2x)).1 z3x).2 z4x)))))))) (fun z3x => (st_C_sheet (st_C_sheet (((h.2 (kr_b1 z1x)).2 (kr_b1 z2x)).2 z3x))))))))))))))))))))))))))))⟩
theorem v_C_sheet_47 {d : Nat} {Q : kr_Q} {μ : kr_M} {a1 : Int32} {a2 : Int32} {a3 : Int32} (h : Q (some (.int 1)) μ) : kr_Wp C_C_sheet (kr_c (d + 1)) Q 47 [some (.ref 0), some (.int a1), some (.int a2), some (.int a3)] [] μ := (st_C_sheet (st_C_sheet h))
theorem st_C_lay {d : Nat} {Q : kr_Q} {pc : Nat} {ls : kr_L} {st : List Value} {μ : kr_M} (h : C_C_lay pc (kr_Wp C_C_lay (kr_c d) Q) (kr_c d) Q ls st μ) : kr_Wp C_C_lay (kr_c d) Q pc ls st μ := kr_Wp.step (fun pc => (kr_ok_C_lay pc).2) (kr_c_om d) h
theorem v_C_lay {d : Nat} {Q : kr_Q} {μ : kr_M} {a1 : Int32} {a2 : Int32} {a3 : Int32} (h : (((0 : Int32) ≤ a1 ∧ a1 < 4 → vp_in a1 4 ∧ ((¬ ((μ.1 43 a1.toNatClampNeg) = -1) → vp_in a1 4 ∧ ((0 ≤ a2 ∧ a2 < (μ.1 43 a1.toNatClampNeg) → kr_c (d + 1) i_S_setCell [.ref 40, .int a1, .int a2, .int a3] μ (kr_bk (kr_Wp C_C_lay (kr_c (d + 1)) Q) 52 [some (.ref 0), some (.int a1), some (.int a2), some (.int a3)] [])) ∧ (¬ (0 ≤ a2 ∧ a2 < (μ.1 43 a1.toNatClampNeg)) → Q (some (.int (-12))) μ))) ∧ ((μ.1 43 a1.toNatClampNeg) = -1 → Q (some (.int (-11))) μ))) ∧ (¬ ((0 : Int32) ≤ a1 ∧ a1 < 4) → Q (some (.int (-1))) μ))) : kr_c (d + 2) i_C_lay [.ref 0, .int a1, .int a2, .int a3] μ Q := ⟨rfl, (st_C_lay (st_C_lay (And.intro rfl (st_C_lay (st_C_lay (And.intro rfl (c_S_hasSheet (st_C_lay (And.intro (fun z1x => (st_C_lay (st_C_lay (And.intro rfl (st_C_lay (st_C_lay (And.intro rfl (c_S_isNothing (h.1 (kr_b1 z1x)).1 (st_C_lay (And.intro (fun z2x => (st_C_lay (st_C_lay (And.intro rfl (st_C_lay (st_C_lay (st_C_lay (And.intro rfl (c_S_hasCell ((h.1 (kr_b1 z1x)).2.1 (kr_b0 z2x)).1 (st_C_lay (And.intro (fun z3x => (st_C_lay (st_C_lay (And.intro rfl (st_C_lay (st_C_lay (st_C_lay (st_C_lay (And.intro rfl (((h.1 (kr_b1 z1x)).2.1 (kr_b0 z2x)).2.1 (kr_b1 z3x))))))))))) (fun z3x => (st_C_lay (st_C_lay (((h.1 (kr_b1 z1x)).2.1 (kr_b0 z2x)).2.2 (kr_b2 z3x)))))))))))))))) (fun z2x => (st_C_lay (st_C_lay ((h.1 (kr_b1 z1x)).2.2 (kr_b1 z2x))))))))))))))) (fun z1x => (st_C_lay (st_C_lay (h.2 (kr_b2 z1x))))))))))))))⟩
theorem v_C_lay_52 {d : Nat} {Q : kr_Q} {μ : kr_M} {a1 : Int32} {a2 : Int32} {a3 : Int32} (h : Q (some (.int 1)) μ) : kr_Wp C_C_lay (kr_c (d + 1)) Q 52 [some (.ref 0), some (.int a1), some (.int a2), some (.int a3)] [] μ := (st_C_lay (st_C_lay h))
theorem st_M_lay {d : Nat} {Q : kr_Q} {pc : Nat} {ls : kr_L} {st : List Value} {μ : kr_M} (h : C_M_lay pc (kr_Wp C_M_lay (kr_c d) Q) (kr_c d) Q ls st μ) : kr_Wp C_M_lay (kr_c d) Q pc ls st μ := kr_Wp.step (fun pc => (kr_ok_M_lay pc).2) (kr_c_om d) h
theorem v_M_lay {d : Nat} {Q : kr_Q} {μ : kr_M} {a1 : Int32} {a2 : Int32} {a3 : Int32} (h : (((0 ≤ a1 ∧ a1 ≤ 3) ∧ (0 ≤ (0 : Int32) ∧ (0 : Int32) ≤ 2) → vp_in a1 4 ∧ ((¬ (μ.1 83 a1.toNatClampNeg) = (-4) → vp_in a1 4 ∧ (((0 : Int64) ≤ a2.toInt64 ∧ a2.toInt64 ≤ ((μ.1 84 a1.toNatClampNeg) - (1 : Int32)).toInt64 → vp_in a1 4 ∧ ((¬ (μ.1 83 a1.toNatClampNeg) = 0 → vp_in a1 4 ∧ ((¬ (μ.1 83 a1.toNatClampNeg) = 1 → vp_in (((40 : Int32) * a1) + a2) 160 ∧ Q (some (.int 1)) (kr_u μ 85 ((((40 : Int32) * a1) + a2).toNatClampNeg) a3)) ∧ ((μ.1 83 a1.toNatClampNeg) = 1 → vp_in (((40 : Int32) * a1) + a2) 160 ∧ Q (some (.int 1)) (kr_u μ 85 ((((40 : Int32) * a1) + a2).toNatClampNeg) (a3.toInt16.toInt32))))) ∧ ((μ.1 83 a1.toNatClampNeg) = 0 → vp_in (((40 : Int32) * a1) + a2) 160 ∧ Q (some (.int 1)) (kr_u μ 85 ((((40 : Int32) * a1) + a2).toNatClampNeg) (a3.toInt8.toInt32))))) ∧ (¬ ((0 : Int64) ≤ a2.toInt64 ∧ a2.toInt64 ≤ ((μ.1 84 a1.toNatClampNeg) - (1 : Int32)).toInt64) → Q (some (.int (-12))) μ))) ∧ ((μ.1 83 a1.toNatClampNeg) = (-4) → Q (some (.int (-11))) μ))) ∧ (¬ ((0 ≤ a1 ∧ a1 ≤ 3) ∧ (0 ≤ (0 : Int32) ∧ (0 : Int32) ≤ 2)) → Q (some (.int (-1))) μ))) : kr_c (d + 3) i_M_lay [.ref 65, .int a1, .int a2, .int a3] μ Q := ⟨rfl, (st_M_lay (st_M_lay (st_M_lay (c_M_isSheet (st_M_lay (And.intro (fun z1x => (st_M_lay (st_M_lay (And.intro rfl (st_M_lay (st_M_lay (And.intro ⟨4, rfl, (h.1 (kr_b1 z1x)).1⟩ (st_M_lay (st_M_lay (And.intro (fun z2x => (st_M_lay (st_M_lay (st_M_lay (st_M_lay (st_M_lay (And.intro rfl (st_M_lay (st_M_lay (And.intro ⟨4, rfl, ((h.1 (kr_b1 z1x)).2.1 z2x).1⟩ (st_M_lay (st_M_lay (st_M_lay (st_M_lay (c_M_in (st_M_lay (And.intro (fun z3x => (st_M_lay (st_M_lay (And.intro rfl (st_M_lay (st_M_lay (st_M_lay (st_M_lay (st_M_lay (st_M_lay (st_M_lay (And.intro rfl (st_M_lay (st_M_lay (And.intro ⟨4, rfl, (((h.1 (kr_b1 z1x)).2.1 z2x).2.1 (kr_b1 z3x)).1⟩ (st_M_lay (And.intro (fun z4x => (st_M_lay (st_M_lay (And.intro rfl (st_M_lay (st_M_lay (And.intro ⟨4, rfl, ((((h.1 (kr_b1 z1x)).2.1 z2x).2.1 (kr_b1 z3x)).2.1 z4x).1⟩ (st_M_lay (st_M_lay (And.intro (fun z5x => (st_M_lay (st_M_lay (And.intro ⟨160, rfl, (((((h.1 (kr_b1 z1x)).2.1 z2x).2.1 (kr_b1 z3x)).2.1 z4x).2.1 z5x).1⟩ (st_M_lay (st_M_lay (((((h.1 (kr_b1 z1x)).2.1 z2x).2.1 (kr_b1 z3x)).2.1 z4x).2.1 z5x).2)))))) (fun z5x => (st_M_lay (st_M_lay (st_M_lay (st_M_lay (And.intro ⟨160, rfl, (((((h.1 (kr_b1 z1x)).2.1 z2x).2.1 (kr_b1 z3x)).2.1 z4x).2.2 (Decidable.not_not.mp z5x)).1⟩ (st_M_lay (st_M_lay (((((h.1 (kr_b1 z1x)).2.1 z2x).2.1 (kr_b1 z3x)).2.1 z4x).2.2 (Decidable.not_not.mp z5x)).2)))))))))))))))))) (fun z4x => (st_M_lay (st_M_lay (st_M_lay (st_M_lay (And.intro ⟨160, rfl, ((((h.1 (kr_b1 z1x)).2.1 z2x).2.1 (kr_b1 z3x)).2.2 (Decidable.not_not.mp z4x)).1⟩ (st_M_lay (st_M_lay ((((h.1 (kr_b1 z1x)).2.1 z2x).2.1 (kr_b1 z3x)).2.2 (Decidable.not_not.mp z4x)).2))))))))))))))))))))))))) (fun z3x => (st_M_lay (st_M_lay (((h.1 (kr_b1 z1x)).2.1 z2x).2.2 (kr_b2 z3x)))))))))))))))))))))) (fun z2x => (st_M_lay (st_M_lay ((h.1 (kr_b1 z1x)).2.2 (Decidable.not_not.mp z2x))))))))))))))) (fun z1x => (st_M_lay (st_M_lay (h.2 (kr_b2 z1x)))))))))))⟩
theorem st_C_back {d : Nat} {Q : kr_Q} {pc : Nat} {ls : kr_L} {st : List Value} {μ : kr_M} (h : C_C_back pc (kr_Wp C_C_back (kr_c d) Q) (kr_c d) Q ls st μ) : kr_Wp C_C_back (kr_c d) Q pc ls st μ := kr_Wp.step (fun pc => (kr_ok_C_back pc).2) (kr_c_om d) h
theorem v_C_back {d : Nat} {Q : kr_Q} {μ : kr_M} {a1 : Int32} (h : ((a1 < 0 → Q (some (.int (-1))) μ) ∧ (¬ (a1 < 0) → ((a1 < 2 → ((¬ ((μ.1 0 10) >>> (a1 &&& 31)) &&& 1 = 0 → vp_in a1 2 ∧ kr_c (d + 1) i_R_copyOf [.ref 1, .ref (kr_rf 44 a1.toNatClampNeg)] μ (kr_bk (kr_Wp C_C_back (kr_c (d + 1)) Q) 38 [some (.ref 0), some (.int a1)] [])) ∧ (¬ (¬ ((μ.1 0 10) >>> (a1 &&& 31)) &&& 1 = 0) → Q (some (.int (-2))) μ))) ∧ (¬ (a1 < 2) → Q (some (.int (-1))) μ))))) : kr_c (d + 2) i_C_back [.ref 0, .int a1] μ Q := ⟨rfl, (st_C_back (st_C_back (And.intro (fun z1x => (st_C_back (st_C_back (h.1 z1x)))) (fun z1x => (st_C_back (st_C_back (st_C_back (And.intro (fun z2x => (st_C_back (st_C_back (And.intro rfl (st_C_back (st_C_back (c_C_has (st_C_back (And.intro (fun z3x => (st_C_back (st_C_back (And.intro rfl (st_C_back (st_C_back (And.intro rfl (st_C_back (st_C_back (And.intro ⟨2, rfl, (((h.2 z1x).1 z2x).1 (kr_b1 z3x)).1⟩ (st_C_back (And.intro rfl (((h.2 z1x).1 z2x).1 (kr_b1 z3x)).2)))))))))))) (fun z3x => (st_C_back (st_C_back (((h.2 z1x).1 z2x).2 (kr_b2 z3x)))))))))))))) (fun z2x => (st_C_back (st_C_back ((h.2 z1x).2 z2x))))))))))))⟩
theorem v_C_back_38 {d : Nat} {Q : kr_Q} {μ : kr_M} {a1 : Int32} (h : Q (some (.int (μ.1 1 2))) μ) : kr_Wp C_C_back (kr_c (d + 1)) Q 38 [some (.ref 0), some (.int a1)] [] μ := (st_C_back (st_C_back (And.intro rfl (st_C_back (And.intro rfl (st_C_back h))))))
theorem st_M_keep {d : Nat} {Q : kr_Q} {pc : Nat} {ls : kr_L} {st : List Value} {μ : kr_M} (h : C_M_keep pc (kr_Wp C_M_keep (kr_c d) Q) (kr_c d) Q ls st μ) : kr_Wp C_M_keep (kr_c d) Q pc ls st μ := kr_Wp.step (fun pc => (kr_ok_M_keep pc).2) (kr_c_om d) h
theorem v_M_keep {d : Nat} {Q : kr_Q} {μ : kr_M} {a1 : Int32} (h : (((0 : Int64) ≤ a1.toInt64 ∧ a1.toInt64 ≤ (1 : Int64) → vp_in a1 2 ∧ vp_in a1 2 ∧ kr_c (d + 1) i_M_copies [.ref 65, .int ((125 : Int32) * (a1 + (1 : Int32))), .int 0] (kr_u μ 67 a1.toNatClampNeg 1) (kr_bk (kr_Wp C_M_keep (kr_c (d + 1)) Q) 40 [some (.ref 65), some (.int a1), some (.int (if ¬ (μ.1 67 a1.toNatClampNeg) = 0 then 1 else 0))] [])) ∧ (¬ ((0 : Int64) ≤ a1.toInt64 ∧ a1.toInt64 ≤ (1 : Int64)) → Q (some (.int (-1))) μ))) : kr_c (d + 2) i_M_keep [.ref 65, .int a1] μ Q := ⟨rfl, (st_M_keep (st_M_keep (st_M_keep (st_M_keep (st_M_keep (c_M_in (st_M_keep (And.intro (fun z1x => (st_M_keep (st_M_keep (And.intro rfl (st_M_keep (st_M_keep (And.intro ⟨2, rfl, (h.1 (kr_b1 z1x)).1⟩ (st_M_keep (c_M_flag (st_M_keep (st_M_keep (st_M_keep (And.intro rfl (st_M_keep (st_M_keep (st_M_keep (And.intro ⟨⟨2, rfl, (h.1 (kr_b1 z1x)).2.1⟩, by decide⟩ (st_M_keep (st_M_keep (st_M_keep (st_M_keep (st_M_keep (st_M_keep (st_M_keep (st_M_keep (And.intro rfl (h.1 (kr_b1 z1x)).2.2)))))))))))))))))))))))))) (fun z1x => (st_M_keep (st_M_keep (h.2 (kr_b2 z1x)))))))))))))⟩
theorem v_M_keep_40 {d : Nat} {Q : kr_Q} {μ : kr_M} {a1 : Int32} {a2 : Int32} (h : Q (some (.int a2)) μ) : kr_Wp C_M_keep (kr_c (d + 1)) Q 40 [some (.ref 65), some (.int a1), some (.int a2)] [] μ := (st_M_keep (st_M_keep h))
theorem st_M_back {d : Nat} {Q : kr_Q} {pc : Nat} {ls : kr_L} {st : List Value} {μ : kr_M} (h : C_M_back pc (kr_Wp C_M_back (kr_c d) Q) (kr_c d) Q ls st μ) : kr_Wp C_M_back (kr_c d) Q pc ls st μ := kr_Wp.step (fun pc => (kr_ok_M_back pc).2) (kr_c_om d) h
theorem v_M_back {d : Nat} {Q : kr_Q} {μ : kr_M} {a1 : Int32} (h : (((0 : Int64) ≤ a1.toInt64 ∧ a1.toInt64 ≤ (1 : Int64) → vp_in a1 2 ∧ ((¬ (μ.1 67 a1.toNatClampNeg) = 0 → kr_c (d + 1) i_M_copies [.ref 65, .int 0, .int ((125 : Int32) * (a1 + (1 : Int32)))] μ (kr_bk (kr_Wp C_M_back (kr_c (d + 1)) Q) 35 [some (.ref 65), some (.int a1)] [])) ∧ ((μ.1 67 a1.toNatClampNeg) = 0 → Q (some (.int (-2))) μ))) ∧ (¬ ((0 : Int64) ≤ a1.toInt64 ∧ a1.toInt64 ≤ (1 : Int64)) → Q (some (.int (-1))) μ))) : kr_c (d + 2) i_M_back [.ref 65, .int a1] μ Q := ⟨rfl, (st_M_back (st_M_back (st_M_back (st_M_back (st_M_back (c_M_in (st_M_back (And.intro (fun z1x => (st_M_back (st_M_back (And.intro rfl (st_M_back (st_M_back (And.intro ⟨2, rfl, (h.1 (kr_b1 z1x)).1⟩ (st_M_back (And.intro (fun z2x => (st_M_back (st_M_back (st_M_back (st_M_back (st_M_back (st_M_back (st_M_back (st_M_back (And.intro rfl ((h.1 (kr_b1 z1x)).2.1 z2x))))))))))) (fun z2x => (st_M_back (st_M_back ((h.1 (kr_b1 z1x)).2.2 (Decidable.not_not.mp z2x)))))))))))))) (fun z1x => (st_M_back (st_M_back (h.2 (kr_b2 z1x)))))))))))))⟩
theorem v_M_back_35 {d : Nat} {Q : kr_Q} {μ : kr_M} {a1 : Int32} (h : Q (some (.int (μ.1 66 0))) μ) : kr_Wp C_M_back (kr_c (d + 1)) Q 35 [some (.ref 65), some (.int a1)] [] μ := (st_M_back (st_M_back (And.intro rfl (st_M_back (st_M_back (And.intro ⟨375, rfl, kr_vp rfl⟩ (st_M_back h)))))))
theorem st_S_makeAnew {d : Nat} {Q : kr_Q} {pc : Nat} {ls : kr_L} {st : List Value} {μ : kr_M} (h : C_S_makeAnew pc (kr_Wp C_S_makeAnew (kr_c d) Q) (kr_c d) Q ls st μ) : kr_Wp C_S_makeAnew (kr_c d) Q pc ls st μ := kr_Wp.step (fun pc => (kr_ok_S_makeAnew pc).2) (kr_c_om d) h
theorem v_S_makeAnew {d : Nat} {Q : kr_Q} {μ : kr_M} {a1 : Int32} {a2 : Int32} {a3 : Int32} (h : vp_in a1 4 ∧ vp_in a1 4 ∧ kr_Wp C_S_makeAnew (kr_c d) Q 17 [some (.ref 40), some (.int a1), some (.int a2), some (.int a3), some (.int 0)] [] (kr_u (kr_u μ 42 a1.toNatClampNeg a2) 43 a1.toNatClampNeg a3)) : kr_c (d + 1) i_S_makeAnew [.ref 40, .int a1, .int a2, .int a3] μ Q := ⟨rfl, (st_S_makeAnew (st_S_makeAnew (And.intro rfl (st_S_makeAnew (st_S_makeAnew (st_S_makeAnew (And.intro ⟨4, rfl, h.1⟩ (st_S_makeAnew (st_S_makeAnew (And.intro rfl (st_S_makeAnew (st_S_makeAnew (st_S_makeAnew (And.intro ⟨4, rfl, h.2.1⟩ (st_S_makeAnew (st_S_makeAnew h.2.2))))))))))))))))⟩
theorem v_S_makeAnew_17 {d : Nat} {Q : kr_Q} {μ : kr_M} {a1 : Int32} {a2 : Int32} {a3 : Int32} {a4 : Int32} (h : ((a3 ≤ a4 → Q none μ) ∧ (¬ (a3 ≤ a4) → vp_in ((a1 * (40 : Int32)) + a4) 160 ∧ kr_Wp C_S_makeAnew (kr_c d) Q 17 [some (.ref 40), some (.int a1), some (.int a2), some (.int a3), some (.int (a4 + 1))] [] (kr_u μ 41 (((a1 * (40 : Int32)) + a4).toNatClampNeg) 0)))) : kr_Wp C_S_makeAnew (kr_c d) Q 17 [some (.ref 40), some (.int a1), some (.int a2), some (.int a3), some (.int a4)] [] μ := (st_S_makeAnew (st_S_makeAnew (st_S_makeAnew (And.intro (fun z1x => (st_S_makeAnew (h.1 z1x))) (fun z1x => (st_S_makeAnew (st_S_makeAnew (And.intro rfl (st_S_makeAnew (st_S_makeAnew (st_S_makeAnew (st_S_makeAnew (st_S_makeAnew (st_S_makeAnew (st_S_makeAnew (And.intro ⟨160, rfl, (h.2 z1x).1⟩ (st_S_makeAnew (st_S_makeAnew (h.2 z1x).2))))))))))))))))))
theorem st_M_sheet {d : Nat} {Q : kr_Q} {pc : Nat} {ls : kr_L} {st : List Value} {μ : kr_M} (h : C_M_sheet pc (kr_Wp C_M_sheet (kr_c d) Q) (kr_c d) Q ls st μ) : kr_Wp C_M_sheet (kr_c d) Q pc ls st μ := kr_Wp.step (fun pc => (kr_ok_M_sheet pc).2) (kr_c_om d) h
theorem v_M_sheet {d : Nat} {Q : kr_Q} {μ : kr_M} {a1 : Int32} {a2 : Int32} {a3 : Int32} (h : ((¬ ((0 ≤ a1 ∧ a1 ≤ 3) ∧ (0 ≤ a2 ∧ a2 ≤ 2)) → Q (some (.int (-1))) μ) ∧ ((0 ≤ a1 ∧ a1 ≤ 3) ∧ (0 ≤ a2 ∧ a2 ≤ 2) → ((a3 ≤ 40 → (((0 : Int32) ≤ a3 → vp_in a1 4 ∧ vp_in a1 4 ∧ kr_Wp C_M_sheet (kr_c (d + 2)) Q 40 [some (.ref 65), some (.int a1), some (.int a2), some (.int a3), some (.int 0)] [] (kr_u (kr_u μ 83 a1.toNatClampNeg a2) 84 a1.toNatClampNeg a3)) ∧ (¬ ((0 : Int32) ≤ a3) → Q (some (.int (-14))) μ))) ∧ (¬ (a3 ≤ 40) → Q (some (.int (-1))) μ))))) : kr_c (d + 3) i_M_sheet [.ref 65, .int a1, .int a2, .int a3] μ Q := ⟨rfl, (st_M_sheet (st_M_sheet (st_M_sheet (c_M_isSheet (st_M_sheet (And.intro (fun z1x => (st_M_sheet (st_M_sheet (h.1 (kr_b0 z1x))))) (fun z1x => (st_M_sheet (st_M_sheet (st_M_sheet (And.intro (fun z2x => (st_M_sheet (st_M_sheet (And.intro (fun z3x => (st_M_sheet (st_M_sheet (And.intro rfl (st_M_sheet (st_M_sheet (st_M_sheet (And.intro ⟨4, rfl, (((h.2 (kr_b1 z1x)).1 z2x).1 z3x).1⟩ (st_M_sheet (st_M_sheet (And.intro rfl (st_M_sheet (st_M_sheet (st_M_sheet (And.intro ⟨4, rfl, (((h.2 (kr_b1 z1x)).1 z2x).1 z3x).2.1⟩ (st_M_sheet (st_M_sheet (((h.2 (kr_b1 z1x)).1 z2x).1 z3x).2.2))))))))))))))))) (fun z3x => (st_M_sheet (st_M_sheet (((h.2 (kr_b1 z1x)).1 z2x).2 z3x)))))))) (fun z2x => (st_M_sheet (st_M_sheet ((h.2 (kr_b1 z1x)).2 z2x)))))))))))))))⟩
theorem v_M_sheet_40 {d : Nat} {Q : kr_Q} {μ : kr_M} {a1 : Int32} {a2 : Int32} {a3 : Int32} {a4 : Int32} (h : (((40 : Int32) ≤ a4 → Q (some (.int 1)) μ) ∧ (¬ ((40 : Int32) ≤ a4) → vp_in (((40 : Int32) * a1) + a4) 160 ∧ kr_Wp C_M_sheet (kr_c (d + 2)) Q 40 [some (.ref 65), some (.int a1), some (.int a2), some (.int a3), some (.int (a4 + 1))] [] (kr_u μ 85 ((((40 : Int32) * a1) + a4).toNatClampNeg) 0)))) : kr_Wp C_M_sheet (kr_c (d + 2)) Q 40 [some (.ref 65), some (.int a1), some (.int a2), some (.int a3), some (.int a4)] [] μ := (st_M_sheet (st_M_sheet (st_M_sheet (And.intro (fun z1x => (st_M_sheet (st_M_sheet (h.1 z1x)))) (fun z1x => (st_M_sheet (st_M_sheet (And.intro rfl (st_M_sheet (st_M_sheet (st_M_sheet (st_M_sheet (st_M_sheet (st_M_sheet (st_M_sheet (And.intro ⟨160, rfl, (h.2 z1x).1⟩ (st_M_sheet (st_M_sheet (h.2 z1x).2))))))))))))))))))
theorem st_M_copies {d : Nat} {Q : kr_Q} {pc : Nat} {ls : kr_L} {st : List Value} {μ : kr_M} (h : C_M_copies pc (kr_Wp C_M_copies (kr_c d) Q) (kr_c d) Q ls st μ) : kr_Wp C_M_copies (kr_c d) Q pc ls st μ := kr_Wp.step (fun pc => (kr_ok_M_copies pc).2) (kr_c_om d) h
theorem v_M_copies {d : Nat} {Q : kr_Q} {μ : kr_M} {a1 : Int32} {a2 : Int32} (h : kr_Wp C_M_copies (kr_c d) Q 2 [some (.ref 65), some (.int a1), some (.int a2), some (.int 0)] [] μ) : kr_c (d + 1) i_M_copies [.ref 65, .int a1, .int a2] μ Q := ⟨rfl, (st_M_copies (st_M_copies h))⟩
theorem v_M_copies_2 {d : Nat} {Q : kr_Q} {μ : kr_M} {a1 : Int32} {a2 : Int32} {a3 : Int32} (h : (((125 : Int32) ≤ a3 → Q none μ) ∧ (¬ ((125 : Int32) ≤ a3) → vp_in (a2 + a3) 375 ∧ vp_in (a1 + a3) 375 ∧ kr_Wp C_M_copies (kr_c d) Q 2 [some (.ref 65), some (.int a1), some (.int a2), some (.int (a3 + 1))] [] (kr_u μ 66 ((a1 + a3).toNatClampNeg) (μ.1 66 ((a2 + a3).toNatClampNeg)))))) : kr_Wp C_M_copies (kr_c d) Q 2 [some (.ref 65), some (.int a1), some (.int a2), some (.int a3)] [] μ := (st_M_copies (st_M_copies (st_M_copies (And.intro (fun z1x => (st_M_copies (h.1 z1x))) (fun z1x => (st_M_copies (st_M_copies (And.intro rfl (st_M_copies (st_M_copies (st_M_copies (st_M_copies (st_M_copies (And.intro rfl (st_M_copies (st_M_copies (st_M_copies (st_M_copies (And.intro ⟨375, rfl, (h.2 z1x).1⟩ (st_M_copies (And.intro ⟨375, rfl, (h.2 z1x).2.1⟩ (st_M_copies (st_M_copies (h.2 z1x).2.2)))))))))))))))))))))))
theorem st_C_keep {d : Nat} {Q : kr_Q} {pc : Nat} {ls : kr_L} {st : List Value} {μ : kr_M} (h : C_C_keep pc (kr_Wp C_C_keep (kr_c d) Q) (kr_c d) Q ls st μ) : kr_Wp C_C_keep (kr_c d) Q pc ls st μ := kr_Wp.step (fun pc => (kr_ok_C_keep pc).2) (kr_c_om d) h
theorem v_C_keep {d : Nat} {Q : kr_Q} {μ : kr_M} {a1 : Int32} (hkc : ¬ a1 < 0 → a1 < 2 → kr_kc (kr_rf 44 a1.toNatClampNeg) 3) (h : ((a1 < 0 → Q (some (.int (-1))) μ) ∧ (¬ (a1 < 0) → ((a1 < 2 → vp_in a1 2 ∧ kr_c (d + 1) i_R_copyOf [.ref (kr_rf 44 a1.toNatClampNeg), .ref 1] μ (kr_bk (kr_Wp C_C_keep (kr_c (d + 1)) Q) 36 [some (.ref 0), some (.int a1), some (.int (if ¬ ((μ.1 0 10) >>> (a1 &&& 31)) &&& 1 = 0 then 1 else 0))] [])) ∧ (¬ (a1 < 2) → Q (some (.int (-1))) μ))))) : kr_c (d + 2) i_C_keep [.ref 0, .int a1] μ Q := ⟨rfl, (st_C_keep (st_C_keep (And.intro (fun z1x => (st_C_keep (st_C_keep (h.1 z1x)))) (fun z1x => (st_C_keep (st_C_keep (st_C_keep (And.intro (fun z2x => (st_C_keep (st_C_keep (And.intro rfl (st_C_keep (st_C_keep (c_C_has (st_C_keep (c_C_bitP (st_C_keep (st_C_keep (st_C_keep (And.intro rfl (st_C_keep (st_C_keep (And.intro ⟨2, rfl, ((h.2 z1x).1 z2x).1⟩ (st_C_keep (st_C_keep (And.intro rfl (st_C_keep (And.intro (hkc z1x z2x) ((h.2 z1x).1 z2x).2))))))))))))))))))))) (fun z2x => (st_C_keep (st_C_keep ((h.2 z1x).2 z2x))))))))))))⟩
theorem v_C_keep_36 {d : Nat} {Q : kr_Q} {μ : kr_M} {a1 : Int32} {a2 : Int32} (h : Q (some (.int a2)) (kr_u μ 0 10 ((μ.1 0 10) ||| ((1 : Int32) <<< (a1 &&& 31))))) : kr_Wp C_C_keep (kr_c (d + 1)) Q 36 [some (.ref 0), some (.int a1), some (.int a2)] [] μ := (st_C_keep (st_C_keep (st_C_keep (And.intro rfl (st_C_keep (st_C_keep (st_C_keep (st_C_keep (st_C_keep (And.intro rfl (st_C_keep (st_C_keep h))))))))))))
theorem st_R_copyOf {d : Nat} {Q : kr_Q} {pc : Nat} {ls : kr_L} {st : List Value} {μ : kr_M} (h : C_R_copyOf pc (kr_Wp C_R_copyOf (kr_c d) Q) (kr_c d) Q ls st μ) : kr_Wp C_R_copyOf (kr_c d) Q pc ls st μ := kr_Wp.step (fun pc => (kr_ok_R_copyOf pc).2) (kr_c_om d) h
theorem v_R_copyOf_45_1 {d : Nat} {Q : kr_Q} {μ : kr_M}  (h : Q none (kr_ur (kr_ur (kr_ur (kr_ur (kr_ur (kr_ur (kr_ur (kr_ur (kr_ur (kr_u (kr_u (kr_uL (kr_u (kr_u (kr_u (kr_u (kr_u (kr_u μ 45 0 (μ.1 1 0)) 45 1 (μ.1 1 1)) 45 2 (μ.1 1 2)) 45 7 (μ.1 1 7)) 45 8 (μ.1 1 8)) 45 10 (μ.1 1 10)) 45 (μ.2 1)) 45 15 (μ.1 1 15)) 45 17 (μ.1 1 17)) 46 (va_cpy (μ.1 2) (μ.1 46) 0 0 12)) 47 (va_cpy (μ.1 3) (μ.1 47) 0 0 12)) 48 (va_cpy (μ.1 4) (μ.1 48) 0 0 12)) 49 (va_cpy (μ.1 5) (μ.1 49) 0 0 12)) 50 (va_cpy (μ.1 6) (μ.1 50) 0 0 5)) 51 (va_cpy (μ.1 7) (μ.1 51) 0 0 5)) 52 (va_cpy (μ.1 8) (μ.1 52) 0 0 5)) 53 (va_cpy (μ.1 9) (μ.1 53) 0 0 5)) 54 (va_cpy (μ.1 10) (μ.1 54) 0 0 8))) : kr_c (d + 1) i_R_copyOf [.ref 45, .ref 1] μ Q := ⟨rfl, (st_R_copyOf (st_R_copyOf (st_R_copyOf (And.intro rfl (st_R_copyOf (And.intro rfl (st_R_copyOf (st_R_copyOf (st_R_copyOf (And.intro rfl (st_R_copyOf (And.intro rfl (st_R_copyOf (st_R_copyOf (st_R_copyOf (And.intro rfl (st_R_copyOf (And.intro rfl (st_R_copyOf (st_R_copyOf (st_R_copyOf (And.intro rfl (st_R_copyOf (And.intro rfl (st_R_copyOf (st_R_copyOf (st_R_copyOf (And.intro rfl (st_R_copyOf (And.intro rfl (st_R_copyOf (st_R_copyOf (st_R_copyOf (And.intro rfl (st_R_copyOf (And.intro rfl (st_R_copyOf (st_R_copyOf (st_R_copyOf (And.intro rfl (st_R_copyOf (And.intro rfl (st_R_copyOf (st_R_copyOf (st_R_copyOf (And.intro rfl (st_R_copyOf (And.intro rfl (st_R_copyOf (st_R_copyOf (st_R_copyOf (And.intro rfl (st_R_copyOf (And.intro rfl (st_R_copyOf (st_R_copyOf (And.intro rfl (st_R_copyOf (st_R_copyOf (st_R_copyOf (And.intro rfl (st_R_copyOf (st_R_copyOf (st_R_copyOf (And.intro ⟨⟨rfl, rfl⟩, 12, rfl, rfl, by decide, by decide⟩ (st_R_copyOf (st_R_copyOf (And.intro rfl (st_R_copyOf (st_R_copyOf (st_R_copyOf (And.intro rfl (st_R_copyOf (st_R_copyOf (st_R_copyOf (And.intro ⟨⟨rfl, rfl⟩, 12, rfl, rfl, by decide, by decide⟩ (st_R_copyOf (st_R_copyOf (And.intro rfl (st_R_copyOf (st_R_copyOf (st_R_copyOf (And.intro rfl (st_R_copyOf (st_R_copyOf (st_R_copyOf (And.intro ⟨⟨rfl, rfl⟩, 12, rfl, rfl, by decide, by decide⟩ (st_R_copyOf (st_R_copyOf (And.intro rfl (st_R_copyOf (st_R_copyOf (st_R_copyOf (And.intro rfl (st_R_copyOf (st_R_copyOf (st_R_copyOf (And.intro ⟨⟨rfl, rfl⟩, 12, rfl, rfl, by decide, by decide⟩ (st_R_copyOf (st_R_copyOf (And.intro rfl (st_R_copyOf (st_R_copyOf (st_R_copyOf (And.intro rfl (st_R_copyOf (st_R_copyOf (st_R_copyOf (And.intro ⟨⟨rfl, rfl⟩, 5, rfl, rfl, by decide, by decide⟩ (st_R_copyOf (st_R_copyOf (And.intro rfl (st_R_copyOf (st_R_copyOf (st_R_copyOf (And.intro rfl (st_R_copyOf (st_R_copyOf (st_R_copyOf (And.intro ⟨⟨rfl, rfl⟩, 5, rfl, rfl, by decide, by decide⟩ (st_R_copyOf (st_R_copyOf (And.intro rfl (st_R_copyOf (st_R_copyOf (st_R_copyOf (And.intro rfl (st_R_copyOf (st_R_copyOf (st_R_copyOf (And.intro ⟨⟨rfl, rfl⟩, 5, rfl, rfl, by decide, by decide⟩ (st_R_copyOf (st_R_copyOf (And.intro rfl (st_R_copyOf (st_R_copyOf (st_R_copyOf (And.intro rfl (st_R_copyOf (st_R_copyOf (st_R_copyOf (And.intro ⟨⟨rfl, rfl⟩, 5, rfl, rfl, by decide, by decide⟩ (st_R_copyOf (st_R_copyOf (And.intro rfl (st_R_copyOf (st_R_copyOf (st_R_copyOf (And.intro rfl (st_R_copyOf (st_R_copyOf (st_R_copyOf (And.intro ⟨⟨rfl, rfl⟩, 8, rfl, rfl, by decide, by decide⟩ (st_R_copyOf h))))))))))))))))))))))))))))))))))))))))))))))))))))))))))))))))))))))))))))))))))))))))))))))))))))))))))))))))))))))))))))))))))))))))))))))))))))))))))⟩
theorem v_R_copyOf_55_1 {d : Nat} {Q : kr_Q} {μ : kr_M}  (h : Q none (kr_ur (kr_ur (kr_ur (kr_ur (kr_ur (kr_ur (kr_ur (kr_ur (kr_ur (kr_u (kr_u (kr_uL (kr_u (kr_u (kr_u (kr_u (kr_u (kr_u μ 55 0 (μ.1 1 0)) 55 1 (μ.1 1 1)) 55 2 (μ.1 1 2)) 55 7 (μ.1 1 7)) 55 8 (μ.1 1 8)) 55 10 (μ.1 1 10)) 55 (μ.2 1)) 55 15 (μ.1 1 15)) 55 17 (μ.1 1 17)) 56 (va_cpy (μ.1 2) (μ.1 56) 0 0 12)) 57 (va_cpy (μ.1 3) (μ.1 57) 0 0 12)) 58 (va_cpy (μ.1 4) (μ.1 58) 0 0 12)) 59 (va_cpy (μ.1 5) (μ.1 59) 0 0 12)) 60 (va_cpy (μ.1 6) (μ.1 60) 0 0 5)) 61 (va_cpy (μ.1 7) (μ.1 61) 0 0 5)) 62 (va_cpy (μ.1 8) (μ.1 62) 0 0 5)) 63 (va_cpy (μ.1 9) (μ.1 63) 0 0 5)) 64 (va_cpy (μ.1 10) (μ.1 64) 0 0 8))) : kr_c (d + 1) i_R_copyOf [.ref 55, .ref 1] μ Q := ⟨rfl, (st_R_copyOf (st_R_copyOf (st_R_copyOf (And.intro rfl (st_R_copyOf (And.intro rfl (st_R_copyOf (st_R_copyOf (st_R_copyOf (And.intro rfl (st_R_copyOf (And.intro rfl (st_R_copyOf (st_R_copyOf (st_R_copyOf (And.intro rfl (st_R_copyOf (And.intro rfl (st_R_copyOf (st_R_copyOf (st_R_copyOf (And.intro rfl (st_R_copyOf (And.intro rfl (st_R_copyOf (st_R_copyOf (st_R_copyOf (And.intro rfl (st_R_copyOf (And.intro rfl (st_R_copyOf (st_R_copyOf (st_R_copyOf (And.intro rfl (st_R_copyOf (And.intro rfl (st_R_copyOf (st_R_copyOf (st_R_copyOf (And.intro rfl (st_R_copyOf (And.intro rfl (st_R_copyOf (st_R_copyOf (st_R_copyOf (And.intro rfl (st_R_copyOf (And.intro rfl (st_R_copyOf (st_R_copyOf (st_R_copyOf (And.intro rfl (st_R_copyOf (And.intro rfl (st_R_copyOf (st_R_copyOf (And.intro rfl (st_R_copyOf (st_R_copyOf (st_R_copyOf (And.intro rfl (st_R_copyOf (st_R_copyOf (st_R_copyOf (And.intro ⟨⟨rfl, rfl⟩, 12, rfl, rfl, by decide, by decide⟩ (st_R_copyOf (st_R_copyOf (And.intro rfl (st_R_copyOf (st_R_copyOf (st_R_copyOf (And.intro rfl (st_R_copyOf (st_R_copyOf (st_R_copyOf (And.intro ⟨⟨rfl, rfl⟩, 12, rfl, rfl, by decide, by decide⟩ (st_R_copyOf (st_R_copyOf (And.intro rfl (st_R_copyOf (st_R_copyOf (st_R_copyOf (And.intro rfl (st_R_copyOf (st_R_copyOf (st_R_copyOf (And.intro ⟨⟨rfl, rfl⟩, 12, rfl, rfl, by decide, by decide⟩ (st_R_copyOf (st_R_copyOf (And.intro rfl (st_R_copyOf (st_R_copyOf (st_R_copyOf (And.intro rfl (st_R_copyOf (st_R_copyOf (st_R_copyOf (And.intro ⟨⟨rfl, rfl⟩, 12, rfl, rfl, by decide, by decide⟩ (st_R_copyOf (st_R_copyOf (And.intro rfl (st_R_copyOf (st_R_copyOf (st_R_copyOf (And.intro rfl (st_R_copyOf (st_R_copyOf (st_R_copyOf (And.intro ⟨⟨rfl, rfl⟩, 5, rfl, rfl, by decide, by decide⟩ (st_R_copyOf (st_R_copyOf (And.intro rfl (st_R_copyOf (st_R_copyOf (st_R_copyOf (And.intro rfl (st_R_copyOf (st_R_copyOf (st_R_copyOf (And.intro ⟨⟨rfl, rfl⟩, 5, rfl, rfl, by decide, by decide⟩ (st_R_copyOf (st_R_copyOf (And.intro rfl (st_R_copyOf (st_R_copyOf (st_R_copyOf (And.intro rfl (st_R_copyOf (st_R_copyOf (st_R_copyOf (And.intro ⟨⟨rfl, rfl⟩, 5, rfl, rfl, by decide, by decide⟩ (st_R_copyOf (st_R_copyOf (And.intro rfl (st_R_copyOf (st_R_copyOf (st_R_copyOf (And.intro rfl (st_R_copyOf (st_R_copyOf (st_R_copyOf (And.intro ⟨⟨rfl, rfl⟩, 5, rfl, rfl, by decide, by decide⟩ (st_R_copyOf (st_R_copyOf (And.intro rfl (st_R_copyOf (st_R_copyOf (st_R_copyOf (And.intro rfl (st_R_copyOf (st_R_copyOf (st_R_copyOf (And.intro ⟨⟨rfl, rfl⟩, 8, rfl, rfl, by decide, by decide⟩ (st_R_copyOf h))))))))))))))))))))))))))))))))))))))))))))))))))))))))))))))))))))))))))))))))))))))))))))))))))))))))))))))))))))))))))))))))))))))))))))))))))))))))))⟩
theorem v_R_copyOf_1_45 {d : Nat} {Q : kr_Q} {μ : kr_M}  (h : Q none (kr_ur (kr_ur (kr_ur (kr_ur (kr_ur (kr_ur (kr_ur (kr_ur (kr_ur (kr_u (kr_u (kr_uL (kr_u (kr_u (kr_u (kr_u (kr_u (kr_u μ 1 0 (μ.1 45 0)) 1 1 (μ.1 45 1)) 1 2 (μ.1 45 2)) 1 7 (μ.1 45 7)) 1 8 (μ.1 45 8)) 1 10 (μ.1 45 10)) 1 (μ.2 45)) 1 15 (μ.1 45 15)) 1 17 (μ.1 45 17)) 2 (va_cpy (μ.1 46) (μ.1 2) 0 0 12)) 3 (va_cpy (μ.1 47) (μ.1 3) 0 0 12)) 4 (va_cpy (μ.1 48) (μ.1 4) 0 0 12)) 5 (va_cpy (μ.1 49) (μ.1 5) 0 0 12)) 6 (va_cpy (μ.1 50) (μ.1 6) 0 0 5)) 7 (va_cpy (μ.1 51) (μ.1 7) 0 0 5)) 8 (va_cpy (μ.1 52) (μ.1 8) 0 0 5)) 9 (va_cpy (μ.1 53) (μ.1 9) 0 0 5)) 10 (va_cpy (μ.1 54) (μ.1 10) 0 0 8))) : kr_c (d + 1) i_R_copyOf [.ref 1, .ref 45] μ Q := ⟨rfl, (st_R_copyOf (st_R_copyOf (st_R_copyOf (And.intro rfl (st_R_copyOf (And.intro rfl (st_R_copyOf (st_R_copyOf (st_R_copyOf (And.intro rfl (st_R_copyOf (And.intro rfl (st_R_copyOf (st_R_copyOf (st_R_copyOf (And.intro rfl (st_R_copyOf (And.intro rfl (st_R_copyOf (st_R_copyOf (st_R_copyOf (And.intro rfl (st_R_copyOf (And.intro rfl (st_R_copyOf (st_R_copyOf (st_R_copyOf (And.intro rfl (st_R_copyOf (And.intro rfl (st_R_copyOf (st_R_copyOf (st_R_copyOf (And.intro rfl (st_R_copyOf (And.intro rfl (st_R_copyOf (st_R_copyOf (st_R_copyOf (And.intro rfl (st_R_copyOf (And.intro rfl (st_R_copyOf (st_R_copyOf (st_R_copyOf (And.intro rfl (st_R_copyOf (And.intro rfl (st_R_copyOf (st_R_copyOf (st_R_copyOf (And.intro rfl (st_R_copyOf (And.intro rfl (st_R_copyOf (st_R_copyOf (And.intro rfl (st_R_copyOf (st_R_copyOf (st_R_copyOf (And.intro rfl (st_R_copyOf (st_R_copyOf (st_R_copyOf (And.intro ⟨⟨rfl, rfl⟩, 12, rfl, rfl, by decide, by decide⟩ (st_R_copyOf (st_R_copyOf (And.intro rfl (st_R_copyOf (st_R_copyOf (st_R_copyOf (And.intro rfl (st_R_copyOf (st_R_copyOf (st_R_copyOf (And.intro ⟨⟨rfl, rfl⟩, 12, rfl, rfl, by decide, by decide⟩ (st_R_copyOf (st_R_copyOf (And.intro rfl (st_R_copyOf (st_R_copyOf (st_R_copyOf (And.intro rfl (st_R_copyOf (st_R_copyOf (st_R_copyOf (And.intro ⟨⟨rfl, rfl⟩, 12, rfl, rfl, by decide, by decide⟩ (st_R_copyOf (st_R_copyOf (And.intro rfl (st_R_copyOf (st_R_copyOf (st_R_copyOf (And.intro rfl (st_R_copyOf (st_R_copyOf (st_R_copyOf (And.intro ⟨⟨rfl, rfl⟩, 12, rfl, rfl, by decide, by decide⟩ (st_R_copyOf (st_R_copyOf (And.intro rfl (st_R_copyOf (st_R_copyOf (st_R_copyOf (And.intro rfl (st_R_copyOf (st_R_copyOf (st_R_copyOf (And.intro ⟨⟨rfl, rfl⟩, 5, rfl, rfl, by decide, by decide⟩ (st_R_copyOf (st_R_copyOf (And.intro rfl (st_R_copyOf (st_R_copyOf (st_R_copyOf (And.intro rfl (st_R_copyOf (st_R_copyOf (st_R_copyOf (And.intro ⟨⟨rfl, rfl⟩, 5, rfl, rfl, by decide, by decide⟩ (st_R_copyOf (st_R_copyOf (And.intro rfl (st_R_copyOf (st_R_copyOf (st_R_copyOf (And.intro rfl (st_R_copyOf (st_R_copyOf (st_R_copyOf (And.intro ⟨⟨rfl, rfl⟩, 5, rfl, rfl, by decide, by decide⟩ (st_R_copyOf (st_R_copyOf (And.intro rfl (st_R_copyOf (st_R_copyOf (st_R_copyOf (And.intro rfl (st_R_copyOf (st_R_copyOf (st_R_copyOf (And.intro ⟨⟨rfl, rfl⟩, 5, rfl, rfl, by decide, by decide⟩ (st_R_copyOf (st_R_copyOf (And.intro rfl (st_R_copyOf (st_R_copyOf (st_R_copyOf (And.intro rfl (st_R_copyOf (st_R_copyOf (st_R_copyOf (And.intro ⟨⟨rfl, rfl⟩, 8, rfl, rfl, by decide, by decide⟩ (st_R_copyOf h))))))))))))))))))))))))))))))))))))))))))))))))))))))))))))))))))))))))))))))))))))))))))))))))))))))))))))))))))))))))))))))))))))))))))))))))))))))))))⟩
theorem v_R_copyOf_1_55 {d : Nat} {Q : kr_Q} {μ : kr_M}  (h : Q none (kr_ur (kr_ur (kr_ur (kr_ur (kr_ur (kr_ur (kr_ur (kr_ur (kr_ur (kr_u (kr_u (kr_uL (kr_u (kr_u (kr_u (kr_u (kr_u (kr_u μ 1 0 (μ.1 55 0)) 1 1 (μ.1 55 1)) 1 2 (μ.1 55 2)) 1 7 (μ.1 55 7)) 1 8 (μ.1 55 8)) 1 10 (μ.1 55 10)) 1 (μ.2 55)) 1 15 (μ.1 55 15)) 1 17 (μ.1 55 17)) 2 (va_cpy (μ.1 56) (μ.1 2) 0 0 12)) 3 (va_cpy (μ.1 57) (μ.1 3) 0 0 12)) 4 (va_cpy (μ.1 58) (μ.1 4) 0 0 12)) 5 (va_cpy (μ.1 59) (μ.1 5) 0 0 12)) 6 (va_cpy (μ.1 60) (μ.1 6) 0 0 5)) 7 (va_cpy (μ.1 61) (μ.1 7) 0 0 5)) 8 (va_cpy (μ.1 62) (μ.1 8) 0 0 5)) 9 (va_cpy (μ.1 63) (μ.1 9) 0 0 5)) 10 (va_cpy (μ.1 64) (μ.1 10) 0 0 8))) : kr_c (d + 1) i_R_copyOf [.ref 1, .ref 55] μ Q := ⟨rfl, (st_R_copyOf (st_R_copyOf (st_R_copyOf (And.intro rfl (st_R_copyOf (And.intro rfl (st_R_copyOf (st_R_copyOf (st_R_copyOf (And.intro rfl (st_R_copyOf (And.intro rfl (st_R_copyOf (st_R_copyOf (st_R_copyOf (And.intro rfl (st_R_copyOf (And.intro rfl (st_R_copyOf (st_R_copyOf (st_R_copyOf (And.intro rfl (st_R_copyOf (And.intro rfl (st_R_copyOf (st_R_copyOf (st_R_copyOf (And.intro rfl (st_R_copyOf (And.intro rfl (st_R_copyOf (st_R_copyOf (st_R_copyOf (And.intro rfl (st_R_copyOf (And.intro rfl (st_R_copyOf (st_R_copyOf (st_R_copyOf (And.intro rfl (st_R_copyOf (And.intro rfl (st_R_copyOf (st_R_copyOf (st_R_copyOf (And.intro rfl (st_R_copyOf (And.intro rfl (st_R_copyOf (st_R_copyOf (st_R_copyOf (And.intro rfl (st_R_copyOf (And.intro rfl (st_R_copyOf (st_R_copyOf (And.intro rfl (st_R_copyOf (st_R_copyOf (st_R_copyOf (And.intro rfl (st_R_copyOf (st_R_copyOf (st_R_copyOf (And.intro ⟨⟨rfl, rfl⟩, 12, rfl, rfl, by decide, by decide⟩ (st_R_copyOf (st_R_copyOf (And.intro rfl (st_R_copyOf (st_R_copyOf (st_R_copyOf (And.intro rfl (st_R_copyOf (st_R_copyOf (st_R_copyOf (And.intro ⟨⟨rfl, rfl⟩, 12, rfl, rfl, by decide, by decide⟩ (st_R_copyOf (st_R_copyOf (And.intro rfl (st_R_copyOf (st_R_copyOf (st_R_copyOf (And.intro rfl (st_R_copyOf (st_R_copyOf (st_R_copyOf (And.intro ⟨⟨rfl, rfl⟩, 12, rfl, rfl, by decide, by decide⟩ (st_R_copyOf (st_R_copyOf (And.intro rfl (st_R_copyOf (st_R_copyOf (st_R_copyOf (And.intro rfl (st_R_copyOf (st_R_copyOf (st_R_copyOf (And.intro ⟨⟨rfl, rfl⟩, 12, rfl, rfl, by decide, by decide⟩ (st_R_copyOf (st_R_copyOf (And.intro rfl (st_R_copyOf (st_R_copyOf (st_R_copyOf (And.intro rfl (st_R_copyOf (st_R_copyOf (st_R_copyOf (And.intro ⟨⟨rfl, rfl⟩, 5, rfl, rfl, by decide, by decide⟩ (st_R_copyOf (st_R_copyOf (And.intro rfl (st_R_copyOf (st_R_copyOf (st_R_copyOf (And.intro rfl (st_R_copyOf (st_R_copyOf (st_R_copyOf (And.intro ⟨⟨rfl, rfl⟩, 5, rfl, rfl, by decide, by decide⟩ (st_R_copyOf (st_R_copyOf (And.intro rfl (st_R_copyOf (st_R_copyOf (st_R_copyOf (And.intro rfl (st_R_copyOf (st_R_copyOf (st_R_copyOf (And.intro ⟨⟨rfl, rfl⟩, 5, rfl, rfl, by decide, by decide⟩ (st_R_copyOf (st_R_copyOf (And.intro rfl (st_R_copyOf (st_R_copyOf (st_R_copyOf (And.intro rfl (st_R_copyOf (st_R_copyOf (st_R_copyOf (And.intro ⟨⟨rfl, rfl⟩, 5, rfl, rfl, by decide, by decide⟩ (st_R_copyOf (st_R_copyOf (And.intro rfl (st_R_copyOf (st_R_copyOf (st_R_copyOf (And.intro rfl (st_R_copyOf (st_R_copyOf (st_R_copyOf (And.intro ⟨⟨rfl, rfl⟩, 8, rfl, rfl, by decide, by decide⟩ (st_R_copyOf h))))))))))))))))))))))))))))))))))))))))))))))))))))))))))))))))))))))))))))))))))))))))))))))))))))))))))))))))))))))))))))))))))))))))))))))))))))))))))⟩
theorem v_R_copyOf_1_14 {d : Nat} {Q : kr_Q} {μ : kr_M}  (h : Q none (kr_ur (kr_ur (kr_ur (kr_ur (kr_ur (kr_ur (kr_ur (kr_ur (kr_ur (kr_u (kr_u (kr_uL (kr_u (kr_u (kr_u (kr_u (kr_u (kr_u μ 1 0 (μ.1 14 0)) 1 1 (μ.1 14 1)) 1 2 (μ.1 14 2)) 1 7 (μ.1 14 7)) 1 8 (μ.1 14 8)) 1 10 (μ.1 14 10)) 1 (μ.2 14)) 1 15 (μ.1 14 15)) 1 17 (μ.1 14 17)) 2 (va_cpy (μ.1 15) (μ.1 2) 0 0 12)) 3 (va_cpy (μ.1 16) (μ.1 3) 0 0 12)) 4 (va_cpy (μ.1 17) (μ.1 4) 0 0 12)) 5 (va_cpy (μ.1 18) (μ.1 5) 0 0 12)) 6 (va_cpy (μ.1 19) (μ.1 6) 0 0 5)) 7 (va_cpy (μ.1 20) (μ.1 7) 0 0 5)) 8 (va_cpy (μ.1 21) (μ.1 8) 0 0 5)) 9 (va_cpy (μ.1 22) (μ.1 9) 0 0 5)) 10 (va_cpy (μ.1 23) (μ.1 10) 0 0 8))) : kr_c (d + 1) i_R_copyOf [.ref 1, .ref 14] μ Q := ⟨rfl, (st_R_copyOf (st_R_copyOf (st_R_copyOf (And.intro rfl (st_R_copyOf (And.intro rfl (st_R_copyOf (st_R_copyOf (st_R_copyOf (And.intro rfl (st_R_copyOf (And.intro rfl (st_R_copyOf (st_R_copyOf (st_R_copyOf (And.intro rfl (st_R_copyOf (And.intro rfl (st_R_copyOf (st_R_copyOf (st_R_copyOf (And.intro rfl (st_R_copyOf (And.intro rfl (st_R_copyOf (st_R_copyOf (st_R_copyOf (And.intro rfl (st_R_copyOf (And.intro rfl (st_R_copyOf (st_R_copyOf (st_R_copyOf (And.intro rfl (st_R_copyOf (And.intro rfl (st_R_copyOf (st_R_copyOf (st_R_copyOf (And.intro rfl (st_R_copyOf (And.intro rfl (st_R_copyOf (st_R_copyOf (st_R_copyOf (And.intro rfl (st_R_copyOf (And.intro rfl (st_R_copyOf (st_R_copyOf (st_R_copyOf (And.intro rfl (st_R_copyOf (And.intro rfl (st_R_copyOf (st_R_copyOf (And.intro rfl (st_R_copyOf (st_R_copyOf (st_R_copyOf (And.intro rfl (st_R_copyOf (st_R_copyOf (st_R_copyOf (And.intro ⟨⟨rfl, rfl⟩, 12, rfl, rfl, by decide, by decide⟩ (st_R_copyOf (st_R_copyOf (And.intro rfl (st_R_copyOf (st_R_copyOf (st_R_copyOf (And.intro rfl (st_R_copyOf (st_R_copyOf (st_R_copyOf (And.intro ⟨⟨rfl, rfl⟩, 12, rfl, rfl, by decide, by decide⟩ (st_R_copyOf (st_R_copyOf (And.intro rfl (st_R_copyOf (st_R_copyOf (st_R_copyOf (And.intro rfl (st_R_copyOf (st_R_copyOf (st_R_copyOf (And.intro ⟨⟨rfl, rfl⟩, 12, rfl, rfl, by decide, by decide⟩ (st_R_copyOf (st_R_copyOf (And.intro rfl (st_R_copyOf (st_R_copyOf (st_R_copyOf (And.intro rfl (st_R_copyOf (st_R_copyOf (st_R_copyOf (And.intro ⟨⟨rfl, rfl⟩, 12, rfl, rfl, by decide, by decide⟩ (st_R_copyOf (st_R_copyOf (And.intro rfl (st_R_copyOf (st_R_copyOf (st_R_copyOf (And.intro rfl (st_R_copyOf (st_R_copyOf (st_R_copyOf (And.intro ⟨⟨rfl, rfl⟩, 5, rfl, rfl, by decide, by decide⟩ (st_R_copyOf (st_R_copyOf (And.intro rfl (st_R_copyOf (st_R_copyOf (st_R_copyOf (And.intro rfl (st_R_copyOf (st_R_copyOf (st_R_copyOf (And.intro ⟨⟨rfl, rfl⟩, 5, rfl, rfl, by decide, by decide⟩ (st_R_copyOf (st_R_copyOf (And.intro rfl (st_R_copyOf (st_R_copyOf (st_R_copyOf (And.intro rfl (st_R_copyOf (st_R_copyOf (st_R_copyOf (And.intro ⟨⟨rfl, rfl⟩, 5, rfl, rfl, by decide, by decide⟩ (st_R_copyOf (st_R_copyOf (And.intro rfl (st_R_copyOf (st_R_copyOf (st_R_copyOf (And.intro rfl (st_R_copyOf (st_R_copyOf (st_R_copyOf (And.intro ⟨⟨rfl, rfl⟩, 5, rfl, rfl, by decide, by decide⟩ (st_R_copyOf (st_R_copyOf (And.intro rfl (st_R_copyOf (st_R_copyOf (st_R_copyOf (And.intro rfl (st_R_copyOf (st_R_copyOf (st_R_copyOf (And.intro ⟨⟨rfl, rfl⟩, 8, rfl, rfl, by decide, by decide⟩ (st_R_copyOf h))))))))))))))))))))))))))))))))))))))))))))))))))))))))))))))))))))))))))))))))))))))))))))))))))))))))))))))))))))))))))))))))))))))))))))))))))))))))))⟩
section
variable {d : Nat} {Q : kr_Q} {μ : kr_M} {g t : Nat → Nat} {P D K : Nat} {x y z w : Int32}
/-- the tape: n bytes b -/
def kr_TC (μ : kr_M) (n : Nat) (b : Nat → Nat) : Prop := μ.1 11 1 = nI n ∧ ∀ j, j < n → μ.1 12 j = nI (b j)
def kr_TM (μ : kr_M) (n : Nat) (b : Nat → Nat) : Prop := μ.1 65 14 = nI n ∧ ∀ j, j < n → μ.1 71 j = nI (b j)
def kx_tw (n : Nat) (b : Nat → Nat) : Prop := n ≤ 400 ∧ ∀ j, j < n → b j < 256
/-- byte i of v, the highest first -/
def kz_bI (v : Int64) (i : Nat) : Int32 := ((v >>> ((nI (56 - 8 * i)).toInt64 &&& 63)) &&& (255 : Int64)).toInt32
def kz_by (v : Int64) (i : Nat) : Nat := (kz_bI v i).toNatClampNeg
theorem kz_by_sp (v : Int64) (i : Nat) : kz_bI v i = nI (kz_by v i) ∧ kz_by v i < 256 := by
  have e : ∃ j : Nat, j < 2 ^ 8 ∧ kz_bI v i = nI j := by
    unfold kz_bI
    rw [Int64.toInt32_and, show (255 : Int64).toInt32 = (255 : Int32) from by decide]
    exact pk_andE _ 8 (by decide)
  obtain ⟨j, h1, h2⟩ := e
  unfold kz_by
  rw [h2, nI_clamp (by omega)]
  exact ⟨rfl, h1⟩
abbrev kz_T : Type := Nat × (Nat → Nat)
def kz_ap (n : Nat) (b : Nat → Nat) (v : Int64) (i : Nat) : Nat → Nat := fun j => if n ≤ j ∧ j < n + i then kz_by v (j - n) else b j
theorem kz_ap_s (n : Nat) (b : Nat → Nat) (v : Int64) (i : Nat) : kz_ap n b v (i + 1) = kx_un (kz_ap n b v i) (n + i) (kz_by v i) := by
  funext j
  by_cases e : j = n + i
  · rw [e, kx_un_s]
    unfold kz_ap
    rw [if_pos ⟨by omega, by omega⟩, show n + i - n = i by omega]
  · rw [kx_un_n _ _ e]
    unfold kz_ap
    by_cases c : n ≤ j ∧ j < n + i
    · rw [if_pos c, if_pos ⟨c.1, by omega⟩]
    · rw [if_neg c, if_neg (fun z => c ⟨z.1, by omega⟩)]
theorem kz_ap_0 (n : Nat) (b : Nat → Nat) (v : Int64) : kz_ap n b v 0 = b := by
  funext j
  exact if_neg (fun z => by omega)
def pz_feed (n : Nat) (b : Nat → Nat) (v : Int64) : Int32 × kz_T := if n + 8 ≤ 400 then (nI (n + 8), (n + 8, kz_ap n b v 8)) else (-3, (n, b))
def pz_end (n : Nat) (b : Nat → Nat) (x : Int32) : Int32 × kz_T := if 0 ≤ x ∧ x ≤ nI n then (nI n, (x.toNatClampNeg, b)) else (-1, (n, b))
theorem kx_tw_feed {n : Nat} {b : Nat → Nat} {v : Int64} (h : kx_tw n b) : kx_tw (pz_feed n b v).2.1 (pz_feed n b v).2.2 := by
  unfold pz_feed
  split
  · rename_i c
    refine ⟨c, fun j hj => ?_⟩
    show kz_ap n b v 8 j < 256
    unfold kz_ap
    split
    · exact (kz_by_sp v _).2
    · exact h.2 j (by have hj : j < n + 8 := hj; omega)
  · exact h
theorem kx_tw_end {n : Nat} {b : Nat → Nat} (h : kx_tw n b) : kx_tw (pz_end n b x).2.1 (pz_end n b x).2.2 := by
  have := h.1
  unfold pz_end
  split
  · rename_i c
    obtain ⟨j, hj, rfl⟩ := kr_ixm (by omega) c
    show kx_tw ((nI j).toNatClampNeg) b
    rw [nI_clamp (by omega)]
    exact ⟨by omega, fun i hi => h.2 i (by omega)⟩
  · exact h
theorem c_C_feed {n : Nat} {b : Nat → Nat} {v : Int64} (hw : kx_tw n b) (h : kr_TC μ n b) (k : ∀ μ', kr_keep [11, 12] [] μ μ' → kr_TC μ' (pz_feed n b v).2.1 (pz_feed n b v).2.2 → Q (some (.int (pz_feed n b v).1)) μ') : kr_c (d + 2) i_C_feed [.ref 0, .long v] μ Q := by
  have h400 := hw.1
  refine v_C_feed (v_T_append (d := d) ?_)
  unfold pz_feed at k
  rw [h.1, show (8 : Int32) = nI 8 from rfl, nI_add, show (400 : Int32) = nI 400 from rfl, nI_leI (by omega) (by decide)]
  refine ⟨fun c => ?_, fun c => v_C_feed_8 (by rw [if_neg c] at k; exact k μ kr_keep.rf h)⟩
  rw [if_pos c] at k
  have main : ∀ i, i ≤ 8 → ∀ μ', kr_keep [11, 12] [] μ μ' → μ'.1 11 1 = nI n → (∀ j, j < n + i → μ'.1 12 j = nI (kz_ap n b v i j)) → kr_Wp C_T_append (kr_c d) (kr_bk (kr_Wp C_C_feed (kr_c (d + 1)) Q) 8 [some (.ref 0), some (.long v), none] []) 18 [some (.ref 11), some (.long v), none, some (.int (nI i))] [] μ' := by
    refine kr_up (I := fun i => ∀ μ', kr_keep [11, 12] [] μ μ' → μ'.1 11 1 = nI n → (∀ j, j < n + i → μ'.1 12 j = nI (kz_ap n b v i j)) → kr_Wp C_T_append (kr_c d) (kr_bk (kr_Wp C_C_feed (kr_c (d + 1)) Q) 8 [some (.ref 0), some (.long v), none] []) 18 [some (.ref 11), some (.long v), none, some (.int (nI i))] [] μ') 8 ?_ ?_
    · intro μ' hk e h12
      refine v_T_append_18 (br_t (Int32.le_refl _) (v_C_feed_8 ?_))
      rw [e, show (8 : Int32) = nI 8 from rfl, nI_add]
      refine k _ (hk.u _ _ (by decide)) ⟨?_, fun j hj => ?_⟩
      · rw [kr_u_s, kr_upd_s]
      · rw [kr_u_n _ _ _ (by decide)]
        exact h12 j hj
    · intro i hi ih μ' hk e h12
      refine v_T_append_18 (br_f (nI_ge (b := 8) hi (by decide)) ?_)
      rw [e, nI_add, nI_clamp (by omega), kr_n1, show (8 : Int32) = nI 8 from rfl, pk_mul, show (56 : Int32) = nI 56 from rfl, pk_sub (by omega)]
      refine ⟨vp_in_nI (by omega) (by decide), ih _ (hk.u _ _ (by decide)) (by rw [kr_u_n _ _ _ (by decide)]; exact e) (fun j hj => ?_)⟩
      rw [kr_u_s, kz_ap_s]
      by_cases ej : j = n + i
      · rw [ej, kr_upd_s, kx_un_s]
        exact (kz_by_sp v i).1
      · rw [kr_upd_n _ _ ej, kx_un_n _ _ ej]; exact h12 j (by omega)
  exact main 0 (by decide) μ kr_keep.rf h.1 (fun j hj => by rw [kz_ap_0]; exact h.2 j hj)
theorem c_M_feed {n : Nat} {b : Nat → Nat} {v : Int64} (hw : kx_tw n b) (h : kr_TM μ n b) (k : ∀ μ', kr_keep [71] [(65, 14)] μ μ' → kr_TM μ' (pz_feed n b v).2.1 (pz_feed n b v).2.2 → Q (some (.int (pz_feed n b v).1)) μ') : kr_c (d + 1) i_M_feed [.ref 65, .long v] μ Q := by
  have h400 := hw.1
  refine v_M_feed (d := d) ?_
  unfold pz_feed at k
  rw [h.1, show (8 : Int32) = nI 8 from rfl, nI_add, show (400 : Int32) = nI 400 from rfl, nI_leI (by omega) (by decide)]
  refine ⟨fun c => ?_, fun c => by rw [if_neg c] at k; exact k μ kr_keep.rf h⟩
  rw [if_pos c] at k
  have main : ∀ i, i ≤ 8 → ∀ μ' s, (i < 8 → s = nI (56 - 8 * i)) → (i = 8 → s = -8) → kr_keep [71] [(65, 14)] μ μ' → μ'.1 65 14 = nI (n + i) → (∀ j, j < n + i → μ'.1 71 j = nI (kz_ap n b v i j)) → kr_Wp C_M_feed (kr_c d) Q 19 [some (.ref 65), some (.long v), none, some (.int s)] [] μ' := by
    refine kr_up (I := fun i => ∀ μ' s, (i < 8 → s = nI (56 - 8 * i)) → (i = 8 → s = -8) → kr_keep [71] [(65, 14)] μ μ' → μ'.1 65 14 = nI (n + i) → (∀ j, j < n + i → μ'.1 71 j = nI (kz_ap n b v i j)) → kr_Wp C_M_feed (kr_c d) Q 19 [some (.ref 65), some (.long v), none, some (.int s)] [] μ') 8 ?_ ?_
    · intro μ' s _ hs hk e h12
      rw [hs rfl]
      refine v_M_feed_19 (br_t (by decide) ?_)
      rw [e]
      exact k _ hk ⟨e, h12⟩
    · intro i hi ih μ' s hs _ hk e h12
      rw [hs hi]
      refine v_M_feed_19 (br_f (nI_pos (by omega)) ?_)
      rw [e, nI_clamp (by omega), kr_n1]
      refine ⟨vp_in_nI (by omega) (by decide), ih _ _ (fun hi2 => ?_) (fun hi2 => ?_) ((hk.u _ _ (by decide)).f _ (by decide)) (by rw [kr_u_s, kr_upd_s]; rfl) (fun j hj => ?_)⟩
      · rw [show 56 - 8 * i = (56 - 8 * (i + 1)) + 8 by omega, ← nI_add, Int32.add_assoc, show nI 8 + (-8) = 0 from by decide]
        simp
      · rw [show i = 7 by omega]; decide
      · rw [kr_u_n _ _ _ (by decide), kr_u_s, kz_ap_s]
        by_cases ej : j = n + i
        · rw [ej, kr_upd_s, kx_un_s]
          exact (kz_by_sp v i).1
        · rw [kr_upd_n _ _ ej, kx_un_n _ _ ej]; exact h12 j (by omega)
  exact main 0 (by decide) μ 56 (fun _ => rfl) (fun z => by omega) kr_keep.rf h.1 (fun j hj => by rw [kz_ap_0]; exact h.2 j hj)
theorem c_T_cut {n : Nat} {b : Nat → Nat} (hw : kx_tw n b) (h : kr_TC μ n b) (k : ∀ μ', kr_keep [11, 12] [] μ μ' → kr_TC μ' (pz_end n b x).2.1 (pz_end n b x).2.2 → Q (some (.int (pz_end n b x).1)) μ') : kr_c (d + 1) i_T_cut [.ref 11, .int x] μ Q := by
  have h400 := hw.1
  refine v_T_cut ?_
  rw [h.1]
  unfold pz_end at k
  refine ⟨fun c => ?_, fun c => ⟨fun c2 => ?_, fun c2 => ?_⟩⟩
  · rw [if_neg (fun q => kr_nlt.mpr q.1 c)] at k; exact k μ kr_keep.rf h
  · rw [if_pos ⟨kr_nlt.mp c, c2⟩] at k
    obtain ⟨j, hj, rfl⟩ := kr_ixm (by omega) ⟨kr_nlt.mp c, c2⟩
    rw [nI_clamp (by omega)] at k
    refine k _ (kr_keep.rf.u _ _ (by decide)) ⟨?_, fun i hi => ?_⟩
    · rw [kr_u_s, kr_upd_s]
    · rw [kr_u_n _ _ _ (by decide)]
      exact h.2 i (by have hi : i < j := hi; omega)
  · rw [if_neg (fun q => c2 q.2)] at k; exact k μ kr_keep.rf h
theorem c_C_end {n : Nat} {b : Nat → Nat} (hw : kx_tw n b) (h : kr_TC μ n b) (k : ∀ μ', kr_keep [11, 12] [] μ μ' → kr_TC μ' (pz_end n b x).2.1 (pz_end n b x).2.2 → Q (some (.int (pz_end n b x).1)) μ') : kr_c (d + 2) i_C_end [.ref 0, .int x] μ Q :=
  v_C_end (c_T_cut hw h (fun μ' a b => v_C_end_8 (k μ' a b)))
theorem c_M_end {n : Nat} {b : Nat → Nat} (hw : kx_tw n b) (h : kr_TM μ n b) (k : ∀ μ', kr_keep [71] [(65, 14)] μ μ' → kr_TM μ' (pz_end n b x).2.1 (pz_end n b x).2.2 → Q (some (.int (pz_end n b x).1)) μ') : kr_c (d + 2) i_M_end [.ref 65, .int x] μ Q := by
  have h400 := hw.1
  refine v_M_end ?_
  rw [h.1, kx_lb x _ (nI n) rfl]
  unfold pz_end at k
  refine ⟨fun c => ?_, fun c => by rw [if_neg c] at k; exact k μ kr_keep.rf h⟩
  rw [if_pos c] at k
  obtain ⟨j, hj, rfl⟩ := kr_ixm (by omega) c
  rw [nI_clamp (by omega)] at k
  refine k _ (kr_keep.rf.f _ (by decide)) ⟨?_, fun i hi => ?_⟩
  · rw [kr_u_s, kr_upd_s]
  · rw [kr_u_n _ _ _ (by decide)]
    exact h.2 i (by have hi : i < j := hi; omega)
/-! sheets: lanes (3: nothing), sizes, cells -/
abbrev kz_H : Type := (Nat → Nat) × (Nat → Nat) × (Nat → Int32)
def kr_SC (μ : kr_M) (s : kz_H) : Prop := ∀ k, k < 4 → (s.1 k = 3 → μ.1 43 k = -1) ∧ (s.1 k ≠ 3 → μ.1 43 k = nI (s.2.1 k) ∧ μ.1 42 k = nI (s.1 k) ∧ ∀ j, j < s.2.1 k → μ.1 41 (40 * k + j) = s.2.2 (40 * k + j))
def kr_SM (μ : kr_M) (s : kz_H) : Prop := ∀ k, k < 4 → (s.1 k = 3 → μ.1 83 k = -4) ∧ (s.1 k ≠ 3 → μ.1 84 k = nI (s.2.1 k) ∧ μ.1 83 k = nI (s.1 k) ∧ ∀ j, j < s.2.1 k → μ.1 85 (40 * k + j) = s.2.2 (40 * k + j))
def kx_sw (s : kz_H) : Prop := ∀ k, k < 4 → s.1 k ≤ 3 ∧ s.2.1 k ≤ 40
def kz_new (s : kz_H) (k y n : Nat) : kz_H := (kx_un s.1 k y, kx_un s.2.1 k n, fun j => if 40 * k ≤ j ∧ j < 40 * k + 40 then 0 else s.2.2 j)
def pz_sheet (s : kz_H) (x y n : Int32) : Int32 × kz_H := if ((0 : Int32) ≤ x ∧ x < 4) ∧ ((0 : Int32) ≤ y ∧ y ≤ 2) ∧ n ≤ 40 then (if (0 : Int32) ≤ n then (1, kz_new s x.toNatClampNeg y.toNatClampNeg n.toNatClampNeg) else (-14, s)) else (-1, s)
def kz_cv (l : Nat) (v : Int32) : Int32 := if l = 0 then v.toInt8.toInt32 else if l = 1 then v.toInt16.toInt32 else v
def pz_lay (s : kz_H) (x i v : Int32) : Int32 × kz_H := if (0 : Int32) ≤ x ∧ x < 4 then (if s.1 x.toNatClampNeg = 3 then (-11, s) else if 0 ≤ i ∧ i < nI (s.2.1 x.toNatClampNeg) then (1, (s.1, s.2.1, upd s.2.2 (40 * x.toNatClampNeg + i.toNatClampNeg) (kz_cv (s.1 x.toNatClampNeg) v))) else (-12, s)) else (-1, s)
theorem kx_sw_sheet {s : kz_H} {n : Int32} (h : kx_sw s) : kx_sw (pz_sheet s x y n).2 := by
  unfold pz_sheet
  split
  · rename_i c
    split
    · rename_i c2
      obtain ⟨k, hk, rfl⟩ := kr_ix (n := 4) (by decide) c.1
      obtain ⟨l, hl, rfl⟩ := kr_ixm (n := 2) (by decide) c.2.1
      obtain ⟨m, hm, rfl⟩ := kr_ixm (n := 40) (by decide) ⟨c2, c.2.2⟩
      rw [nI_clamp (by omega), nI_clamp (by omega), nI_clamp (by omega)]
      intro j hj
      by_cases e : j = k
      · rw [e]
        show kx_un s.1 k l k ≤ 3 ∧ kx_un s.2.1 k m k ≤ 40
        rw [kx_un_s, kx_un_s]; omega
      · show kx_un s.1 k l j ≤ 3 ∧ kx_un s.2.1 k m j ≤ 40
        rw [kx_un_n _ _ e, kx_un_n _ _ e]; exact h j hj
    · exact h
  · exact h
theorem kx_sw_lay {s : kz_H} {i v : Int32} (h : kx_sw s) : kx_sw (pz_lay s x i v).2 := by
  unfold pz_lay
  split
  · split
    · exact h
    · split <;> exact h
  · exact h
theorem kr_lt4 {x : Int32} : (0 ≤ x ∧ x ≤ 3) ↔ (0 ≤ x ∧ x < 4) := by
  rw [kr_le, kr_le, kr_lt]
  have e0 : (0 : Int32).toInt = 0 := rfl
  have e3 : (3 : Int32).toInt = 3 := rfl
  have e4 : (4 : Int32).toInt = 4 := rfl
  omega
theorem kz_ci (k j : Nat) : nI k * (40 : Int32) + nI j = nI (40 * k + j) := by
  rw [show (40 : Int32) = nI 40 from rfl, pk_mul, nI_add, Nat.mul_comm]
theorem kz_ci2 (k j : Nat) : (40 : Int32) * nI k + nI j = nI (40 * k + j) := by
  rw [show (40 : Int32) = nI 40 from rfl, pk_mul, nI_add]
theorem c_C_sheet {s : kz_H} {n : Int32} (h : kr_SC μ s) (hw : kx_sw s) (k : ∀ μ', kr_keep [41, 42, 43] [] μ μ' → kr_SC μ' (pz_sheet s x y n).2 → Q (some (.int (pz_sheet s x y n).1)) μ') : kr_c (d + 2) i_C_sheet [.ref 0, .int x, .int y, .int n] μ Q := by
  refine v_C_sheet ?_
  unfold pz_sheet at k
  have no : ¬ (((0 : Int32) ≤ x ∧ x < 4) ∧ ((0 : Int32) ≤ y ∧ y ≤ 2) ∧ n ≤ 40) → Q (some (.int (-1))) μ := fun c => by rw [if_neg c] at k; exact k μ kr_keep.rf h
  refine ⟨fun c => no (fun q => c q.1), fun c1 => ⟨fun c => no (fun q => c q.2.1), fun c2 => ⟨fun c3 => ⟨fun c4 => ?_, fun c4 => ?_⟩, fun c => no (fun q => c q.2.2)⟩⟩⟩
  · rw [if_pos ⟨c1, c2, c3⟩, if_pos c4] at k
    obtain ⟨e, he, rfl⟩ := kr_ix (n := 4) (by decide) c1
    obtain ⟨l, hl, rfl⟩ := kr_ixm (n := 2) (by decide) c2
    obtain ⟨m, hm, rfl⟩ := kr_ixm (n := 40) (by decide) ⟨c4, c3⟩
    rw [nI_clamp (by omega), nI_clamp (by omega), nI_clamp (by omega)] at k
    have v4 : vp_in (nI e) 4 := vp_in_nI he (by decide)
    refine v_S_makeAnew (d := d) ⟨v4, v4, ?_⟩
    rw [nI_clamp (by omega)]
    have main : ∀ i, i ≤ m → ∀ μ', kr_keep [41, 42, 43] [] μ μ' → μ'.1 42 = upd (μ.1 42) e (nI l) → μ'.1 43 = upd (μ.1 43) e (nI m) → (∀ j, (j < 40 * e ∨ 40 * e + 40 ≤ j) → μ'.1 41 j = μ.1 41 j) → (∀ j, j < i → μ'.1 41 (40 * e + j) = 0) → kr_Wp C_S_makeAnew (kr_c d) (kr_bk (kr_Wp C_C_sheet (kr_c (d + 1)) Q) 47 [some (.ref 0), some (.int (nI e)), some (.int (nI l)), some (.int (nI m))] []) 17 [some (.ref 40), some (.int (nI e)), some (.int (nI l)), some (.int (nI m)), some (.int (nI i))] [] μ' := by
      refine kr_up (I := fun i => ∀ μ', kr_keep [41, 42, 43] [] μ μ' → μ'.1 42 = upd (μ.1 42) e (nI l) → μ'.1 43 = upd (μ.1 43) e (nI m) → (∀ j, (j < 40 * e ∨ 40 * e + 40 ≤ j) → μ'.1 41 j = μ.1 41 j) → (∀ j, j < i → μ'.1 41 (40 * e + j) = 0) → kr_Wp C_S_makeAnew (kr_c d) (kr_bk (kr_Wp C_C_sheet (kr_c (d + 1)) Q) 47 [some (.ref 0), some (.int (nI e)), some (.int (nI l)), some (.int (nI m))] []) 17 [some (.ref 40), some (.int (nI e)), some (.int (nI l)), some (.int (nI m)), some (.int (nI i))] [] μ') m ?_ ?_
      · intro μ' hk h42 h43 ho hz
        refine v_S_makeAnew_17 (br_t (Int32.le_refl _) (v_C_sheet_47 (k μ' hk (fun j hj => ?_))))
        by_cases ej : j = e
        · subst ej
          show (kx_un s.1 j l j = 3 → _) ∧ (kx_un s.1 j l j ≠ 3 → μ'.1 43 j = nI (kx_un s.2.1 j m j) ∧ μ'.1 42 j = nI (kx_un s.1 j l j) ∧ ∀ i, i < kx_un s.2.1 j m j → μ'.1 41 (40 * j + i) = (if 40 * j ≤ 40 * j + i ∧ 40 * j + i < 40 * j + 40 then 0 else s.2.2 (40 * j + i)))
          rw [kx_un_s, kx_un_s, h42, h43, kr_upd_s, kr_upd_s]
          exact ⟨fun z => by omega, fun _ => ⟨rfl, rfl, fun i hi => by rw [if_pos ⟨by omega, by omega⟩]; exact hz i hi⟩⟩
        · show (kx_un s.1 e l j = 3 → μ'.1 43 j = -1) ∧ (kx_un s.1 e l j ≠ 3 → μ'.1 43 j = nI (kx_un s.2.1 e m j) ∧ μ'.1 42 j = nI (kx_un s.1 e l j) ∧ ∀ i, i < kx_un s.2.1 e m j → μ'.1 41 (40 * j + i) = (if 40 * e ≤ 40 * j + i ∧ 40 * j + i < 40 * e + 40 then 0 else s.2.2 (40 * j + i)))
          rw [kx_un_n _ _ ej, kx_un_n _ _ ej, h42, h43, kr_upd_n _ _ ej, kr_upd_n _ _ ej]
          obtain ⟨p1, p2⟩ := h j hj
          refine ⟨p1, fun z => ⟨(p2 z).1, (p2 z).2.1, fun i hi => ?_⟩⟩
          have := (hw j hj).2
          rw [if_neg (by omega), ho _ (by omega)]
          exact (p2 z).2.2 i hi
      · intro i hi ih μ' hk h42 h43 ho hz
        refine v_S_makeAnew_17 (br_f (nI_ge hi (by omega)) ?_)
        rw [kz_ci, nI_clamp (by omega), kr_n1]
        refine ⟨vp_in_nI (by omega) (by decide), ih _ (hk.u _ _ (by decide)) (by rw [kr_u_n _ _ _ (by decide)]; exact h42) (by rw [kr_u_n _ _ _ (by decide)]; exact h43) (fun j hj => ?_) (fun j hj => ?_)⟩
        · rw [kr_u_s, kr_upd_n _ _ (by omega)]; exact ho j hj
        · rw [kr_u_s]
          by_cases ej : j = i
          · rw [ej, kr_upd_s]
          · rw [kr_upd_n _ _ (by omega)]; exact hz j (by omega)
    refine main 0 (Nat.zero_le _) _ ((kr_keep.rf.u _ _ (by decide)).u _ _ (by decide)) rfl rfl (fun _ _ => rfl) (fun j hj => absurd hj (Nat.not_lt_zero j))
  · rw [if_pos ⟨c1, c2, c3⟩, if_neg c4] at k
    exact k μ kr_keep.rf h
theorem c_M_sheet {s : kz_H} {n : Int32} (h : kr_SM μ s) (hw : kx_sw s) (k : ∀ μ', kr_keep [83, 84, 85] [] μ μ' → kr_SM μ' (pz_sheet s x y n).2 → Q (some (.int (pz_sheet s x y n).1)) μ') : kr_c (d + 3) i_M_sheet [.ref 65, .int x, .int y, .int n] μ Q := by
  refine v_M_sheet ?_
  rw [kr_lt4]
  unfold pz_sheet at k
  have no : ¬ (((0 : Int32) ≤ x ∧ x < 4) ∧ ((0 : Int32) ≤ y ∧ y ≤ 2) ∧ n ≤ 40) → Q (some (.int (-1))) μ := fun c => by rw [if_neg c] at k; exact k μ kr_keep.rf h
  refine ⟨fun c => no (fun q => c ⟨q.1, q.2.1⟩), fun c => ⟨fun c3 => ⟨fun c4 => ?_, fun c4 => ?_⟩, fun c3 => no (fun q => c3 q.2.2)⟩⟩
  · rw [if_pos ⟨c.1, c.2, c3⟩, if_pos c4] at k
    obtain ⟨e, he, rfl⟩ := kr_ix (n := 4) (by decide) c.1
    obtain ⟨l, hl, rfl⟩ := kr_ixm (n := 2) (by decide) c.2
    obtain ⟨m, hm, rfl⟩ := kr_ixm (n := 40) (by decide) ⟨c4, c3⟩
    rw [nI_clamp (by omega), nI_clamp (by omega), nI_clamp (by omega)] at k
    have v4 : vp_in (nI e) 4 := vp_in_nI he (by decide)
    refine ⟨v4, v4, ?_⟩
    rw [nI_clamp (by omega)]
    have main : ∀ i, i ≤ 40 → ∀ μ', kr_keep [83, 84, 85] [] μ μ' → μ'.1 83 = upd (μ.1 83) e (nI l) → μ'.1 84 = upd (μ.1 84) e (nI m) → (∀ j, (j < 40 * e ∨ 40 * e + 40 ≤ j) → μ'.1 85 j = μ.1 85 j) → (∀ j, j < i → μ'.1 85 (40 * e + j) = 0) → kr_Wp C_M_sheet (kr_c (d + 2)) Q 40 [some (.ref 65), some (.int (nI e)), some (.int (nI l)), some (.int (nI m)), some (.int (nI i))] [] μ' := by
      refine kr_up (I := fun i => ∀ μ', kr_keep [83, 84, 85] [] μ μ' → μ'.1 83 = upd (μ.1 83) e (nI l) → μ'.1 84 = upd (μ.1 84) e (nI m) → (∀ j, (j < 40 * e ∨ 40 * e + 40 ≤ j) → μ'.1 85 j = μ.1 85 j) → (∀ j, j < i → μ'.1 85 (40 * e + j) = 0) → kr_Wp C_M_sheet (kr_c (d + 2)) Q 40 [some (.ref 65), some (.int (nI e)), some (.int (nI l)), some (.int (nI m)), some (.int (nI i))] [] μ') 40 ?_ ?_
      · intro μ' hk h42 h43 ho hz
        refine v_M_sheet_40 (br_t (Int32.le_refl _) (k μ' hk (fun j hj => ?_)))
        by_cases ej : j = e
        · subst ej
          show (kx_un s.1 j l j = 3 → _) ∧ (kx_un s.1 j l j ≠ 3 → μ'.1 84 j = nI (kx_un s.2.1 j m j) ∧ μ'.1 83 j = nI (kx_un s.1 j l j) ∧ ∀ i, i < kx_un s.2.1 j m j → μ'.1 85 (40 * j + i) = (if 40 * j ≤ 40 * j + i ∧ 40 * j + i < 40 * j + 40 then 0 else s.2.2 (40 * j + i)))
          rw [kx_un_s, kx_un_s, h42, h43, kr_upd_s, kr_upd_s]
          exact ⟨fun z => by omega, fun _ => ⟨rfl, rfl, fun i hi => by rw [if_pos ⟨by omega, by omega⟩]; exact hz i (by omega)⟩⟩
        · show (kx_un s.1 e l j = 3 → μ'.1 83 j = -4) ∧ (kx_un s.1 e l j ≠ 3 → μ'.1 84 j = nI (kx_un s.2.1 e m j) ∧ μ'.1 83 j = nI (kx_un s.1 e l j) ∧ ∀ i, i < kx_un s.2.1 e m j → μ'.1 85 (40 * j + i) = (if 40 * e ≤ 40 * j + i ∧ 40 * j + i < 40 * e + 40 then 0 else s.2.2 (40 * j + i)))
          rw [kx_un_n _ _ ej, kx_un_n _ _ ej, h42, h43, kr_upd_n _ _ ej, kr_upd_n _ _ ej]
          obtain ⟨p1, p2⟩ := h j hj
          refine ⟨p1, fun z => ⟨(p2 z).1, (p2 z).2.1, fun i hi => ?_⟩⟩
          have := (hw j hj).2
          rw [if_neg (by omega), ho _ (by omega)]
          exact (p2 z).2.2 i hi
      · intro i hi ih μ' hk h42 h43 ho hz
        refine v_M_sheet_40 (br_f (nI_ge (b := 40) hi (by omega)) ?_)
        rw [kz_ci2, nI_clamp (by omega), kr_n1]
        refine ⟨vp_in_nI (by omega) (by decide), ih _ (hk.u _ _ (by decide)) (by rw [kr_u_n _ _ _ (by decide)]; exact h42) (by rw [kr_u_n _ _ _ (by decide)]; exact h43) (fun j hj => ?_) (fun j hj => ?_)⟩
        · rw [kr_u_s, kr_upd_n _ _ (by omega)]; exact ho j hj
        · rw [kr_u_s]
          by_cases ej : j = i
          · rw [ej, kr_upd_s]
          · rw [kr_upd_n _ _ (by omega)]; exact hz j (by omega)
    refine main 0 (Nat.zero_le _) _ ((kr_keep.rf.u _ _ (by decide)).u _ _ (by decide)) rfl rfl (fun _ _ => rfl) (fun j hj => absurd hj (Nat.not_lt_zero j))
  · rw [if_pos ⟨c.1, c.2, c3⟩, if_neg c4] at k
    exact k μ kr_keep.rf h
theorem kz_SC_cell {s : kz_H} {e m : Nat} {v : Int32} (h : kr_SC μ s) (hw : kx_sw s) (he : e < 4) (hm : m < s.2.1 e) : kr_SC (kr_u μ 41 (40 * e + m) v) (s.1, s.2.1, upd s.2.2 (40 * e + m) v) := by
  intro j hj
  obtain ⟨p1, p2⟩ := h j hj
  refine ⟨p1, fun z => ⟨(p2 z).1, (p2 z).2.1, fun i hi => ?_⟩⟩
  rw [kr_u_s]
  by_cases c : 40 * j + i = 40 * e + m
  · rw [c, kr_upd_s]; exact (kr_upd_s _ _ _).symm
  · rw [kr_upd_n _ _ c]
    show μ.1 41 (40 * j + i) = upd s.2.2 (40 * e + m) v (40 * j + i)
    rw [kr_upd_n _ _ c]
    exact (p2 z).2.2 i hi
theorem kz_SM_cell {s : kz_H} {e m : Nat} {v : Int32} (h : kr_SM μ s) (hw : kx_sw s) (he : e < 4) (hm : m < s.2.1 e) : kr_SM (kr_u μ 85 (40 * e + m) v) (s.1, s.2.1, upd s.2.2 (40 * e + m) v) := by
  intro j hj
  obtain ⟨p1, p2⟩ := h j hj
  refine ⟨p1, fun z => ⟨(p2 z).1, (p2 z).2.1, fun i hi => ?_⟩⟩
  rw [kr_u_s]
  by_cases c : 40 * j + i = 40 * e + m
  · rw [c, kr_upd_s]; exact (kr_upd_s _ _ _).symm
  · rw [kr_upd_n _ _ c]
    show μ.1 85 (40 * j + i) = upd s.2.2 (40 * e + m) v (40 * j + i)
    rw [kr_upd_n _ _ c]
    exact (p2 z).2.2 i hi
theorem kz_n1 {m : Nat} (h : m < 2 ^ 31) : ¬ nI m = (-1 : Int32) := by
  intro z
  have := congrArg Int32.toInt z
  rw [nI_toInt h, show (-1 : Int32).toInt = -1 from rfl] at this
  omega
theorem c_C_lay {s : kz_H} {i v : Int32} (h : kr_SC μ s) (hw : kx_sw s) (k : ∀ μ', kr_keep [41] [] μ μ' → kr_SC μ' (pz_lay s x i v).2 → Q (some (.int (pz_lay s x i v).1)) μ') : kr_c (d + 2) i_C_lay [.ref 0, .int x, .int i, .int v] μ Q := by
  refine v_C_lay ?_
  unfold pz_lay at k
  refine ⟨fun c => ?_, fun c => by rw [if_neg c] at k; exact k μ kr_keep.rf h⟩
  rw [if_pos c] at k
  obtain ⟨e, he, rfl⟩ := kr_ix (n := 4) (by decide) c
  rw [nI_clamp (by omega)] at k ⊢
  have v4 : vp_in (nI e) 4 := vp_in_nI he (by decide)
  obtain ⟨p1, p2⟩ := h e he
  obtain ⟨w1, w2⟩ := hw e he
  refine ⟨v4, fun c3 => ?_, fun c3 => ?_⟩
  · have c3 : s.1 e ≠ 3 := fun z => c3 (p1 z)
    obtain ⟨q1, q2, q3⟩ := p2 c3
    rw [if_neg c3] at k
    rw [q1]
    refine ⟨v4, fun c4 => ?_, fun c4 => by rw [if_neg c4] at k; exact k μ kr_keep.rf h⟩
    rw [if_pos c4] at k
    obtain ⟨m, hm, rfl⟩ := kr_ix (by omega) c4
    rw [nI_clamp (by omega)] at k
    have v160 : vp_in (nI (40 * e + m)) 160 := vp_in_nI (by omega) (by decide)
    refine v_S_setCell (d := d) ⟨v4, ?_⟩
    rw [nI_clamp (by omega), q2, kz_ci, nI_clamp (by omega), kr_eq0 (by omega), show (1 : Int32) = nI 1 from rfl, nI_eq (by omega) (by decide)]
    have fin : ∀ u, u = kz_cv (s.1 e) v → Q (some (.int 1)) (kr_u μ 41 (40 * e + m) u) := fun u hu => by
      rw [hu]
      exact k _ (kr_keep.rf.u _ _ (by decide)) (kz_SC_cell h hw he hm)
    refine ⟨fun c0 => ⟨v4, fun c1 => ⟨v160, v_C_lay_52 (fin _ ?_)⟩, fun c1 => ⟨v160, v_C_lay_52 (fin _ ?_)⟩⟩, fun c0 => ⟨v160, v_C_lay_52 (fin _ ?_)⟩⟩
    · unfold kz_cv; rw [if_neg c0, if_neg c1]
    · unfold kz_cv; rw [if_neg c0, if_pos c1]
    · unfold kz_cv; rw [if_pos c0]
  · by_cases c5 : s.1 e = 3
    · rw [if_pos c5] at k; exact k μ kr_keep.rf h
    · rw [(p2 c5).1] at c3
      exact absurd c3 (kz_n1 (by omega))
theorem c_M_lay {s : kz_H} {i v : Int32} (h : kr_SM μ s) (hw : kx_sw s) (k : ∀ μ', kr_keep [85] [] μ μ' → kr_SM μ' (pz_lay s x i v).2 → Q (some (.int (pz_lay s x i v).1)) μ') : kr_c (d + 3) i_M_lay [.ref 65, .int x, .int i, .int v] μ Q := by
  refine v_M_lay ?_
  rw [kr_lt4]
  unfold pz_lay at k
  refine ⟨fun c => ?_, fun c => by rw [if_neg (fun q => c ⟨q, by decide⟩)] at k; exact k μ kr_keep.rf h⟩
  have c := c.1
  rw [if_pos c] at k
  obtain ⟨e, he, rfl⟩ := kr_ix (n := 4) (by decide) c
  rw [nI_clamp (by omega)] at k ⊢
  have v4 : vp_in (nI e) 4 := vp_in_nI he (by decide)
  obtain ⟨p1, p2⟩ := h e he
  obtain ⟨w1, w2⟩ := hw e he
  refine ⟨v4, fun c3 => ?_, fun c3 => ?_⟩
  · have c3 : s.1 e ≠ 3 := fun z => c3 (p1 z)
    obtain ⟨q1, q2, q3⟩ := p2 c3
    rw [if_neg c3] at k
    rw [q1, q2, kx_lb i _ (nI (s.2.1 e) - 1) rfl, kr_le1 (by omega)]
    refine ⟨v4, fun c4 => ?_, fun c4 => by rw [if_neg c4] at k; exact k μ kr_keep.rf h⟩
    rw [if_pos c4] at k
    obtain ⟨m, hm, rfl⟩ := kr_ix (by omega) c4
    rw [nI_clamp (by omega)] at k
    have v160 : vp_in (nI (40 * e + m)) 160 := vp_in_nI (by omega) (by decide)
    rw [kz_ci2, nI_clamp (by omega), kr_eq0 (by omega), show (1 : Int32) = nI 1 from rfl, nI_eq (by omega) (by decide)]
    have fin : ∀ u, u = kz_cv (s.1 e) v → Q (some (.int 1)) (kr_u μ 85 (40 * e + m) u) := fun u hu => by
      rw [hu]
      exact k _ (kr_keep.rf.u _ _ (by decide)) (kz_SM_cell h hw he hm)
    refine ⟨v4, fun c0 => ⟨v4, fun c1 => ⟨v160, fin _ ?_⟩, fun c1 => ⟨v160, fin _ ?_⟩⟩, fun c0 => ⟨v160, fin _ ?_⟩⟩
    · unfold kz_cv; rw [if_neg c0, if_neg c1]
    · unfold kz_cv; rw [if_neg c0, if_pos c1]
    · unfold kz_cv; rw [if_pos c0]
  · by_cases c5 : s.1 e = 3
    · rw [if_pos c5] at k; exact k μ kr_keep.rf h
    · rw [(p2 c5).2.1] at c3
      exact absurd c3 (kx_neg4 (by omega))
/-! images -/
def kr_fA (a : Nat) (μ μ' : kr_M) : Prop := (∀ o, (o < a ∨ a + 9 < o) → μ'.1 o = μ.1 o) ∧ ∀ o, o ≠ a → μ'.2 o = μ.2 o
def kx_im (g : Nat → Nat) (k j : Nat) : Nat := g (125 * (k + 1) + j)
theorem kz_cp {f h : Nat → Int32} {n j : Nat} (hj : j < n) : va_cpy f h 0 0 n j = f j := by
  rw [pk_cpy_in (Nat.zero_le j) (by omega)]
  congr 1
  omega
theorem c_R_copyOf_45_1 (hw : kr_wf g P D K t) (h : kr_Rg μ 1 g P D K t) (k : ∀ μ', kr_fA 45 μ μ' → kr_Rg μ' 45 g P D K t → Q none μ') : kr_c (d + 1) i_R_copyOf [.ref 45, .ref 1] μ Q := by
  obtain ⟨⟨n12, -, -, d5, k5⟩, -, -, -, -, -, h8, -⟩ := hw
  obtain ⟨⟨a1, a2, a3, a4, a5, a6⟩, b, r, h6, h7, hl, h10, c, c1, c2, c3⟩ := h
  refine v_R_copyOf_45_1 (k _ ⟨fun o ho => ?_, fun o ho => ?_⟩ ⟨⟨a1, a2, a3, a4, a5, a6⟩, fun l hl => ?_, r, fun d hd => ?_, fun p hp => ?_, ?_, fun m hm => ?_, c, c1, c2, c3⟩)
  · simp only [kr_ur_n _ _ (show o ≠ 46 by omega), kr_ur_n _ _ (show o ≠ 47 by omega), kr_ur_n _ _ (show o ≠ 48 by omega), kr_ur_n _ _ (show o ≠ 49 by omega), kr_ur_n _ _ (show o ≠ 50 by omega), kr_ur_n _ _ (show o ≠ 51 by omega), kr_ur_n _ _ (show o ≠ 52 by omega), kr_ur_n _ _ (show o ≠ 53 by omega), kr_ur_n _ _ (show o ≠ 54 by omega), kr_u_n _ _ _ (show o ≠ 45 by omega), kr_uL_1]
  · show (if o = 45 then _ else μ.2 o) = _
    rw [if_neg ho]
  · obtain ⟨b1, b2, b3, b4⟩ := b l hl
    refine ⟨?_, ?_, ?_, ?_⟩
    · show va_cpy (μ.1 2) (μ.1 46) 0 0 12 l = _
      rw [kz_cp (by omega)]; exact b1
    · show va_cpy (μ.1 3) (μ.1 47) 0 0 12 l = _
      rw [kz_cp (by omega)]; exact b2
    · show va_cpy (μ.1 4) (μ.1 48) 0 0 12 l = _
      rw [kz_cp (by omega)]; exact b3
    · show va_cpy (μ.1 5) (μ.1 49) 0 0 12 l = _
      rw [kz_cp (by omega)]; exact b4
  · show va_cpy (μ.1 6) (μ.1 50) 0 0 5 d = _
    rw [kz_cp (by omega)]; exact h6 d hd
  · obtain ⟨b1, b2, b3⟩ := h7 p hp
    refine ⟨?_, ?_, ?_⟩
    · show va_cpy (μ.1 7) (μ.1 51) 0 0 5 p = _
      rw [kz_cp (by omega)]; exact b1
    · show va_cpy (μ.1 8) (μ.1 52) 0 0 5 p = _
      rw [kz_cp (by omega)]; exact b2
    · show va_cpy (μ.1 9) (μ.1 53) 0 0 5 p = _
      rw [kz_cp (by omega)]; exact b3
  · show (if 45 = 45 then μ.2 1 else μ.2 45) = _
    rw [if_pos rfl]; exact hl
  · show va_cpy (μ.1 10) (μ.1 54) 0 0 8 m = _
    rw [kz_cp (by omega)]; exact h10 m hm
theorem c_R_copyOf_55_1 (hw : kr_wf g P D K t) (h : kr_Rg μ 1 g P D K t) (k : ∀ μ', kr_fA 55 μ μ' → kr_Rg μ' 55 g P D K t → Q none μ') : kr_c (d + 1) i_R_copyOf [.ref 55, .ref 1] μ Q := by
  obtain ⟨⟨n12, -, -, d5, k5⟩, -, -, -, -, -, h8, -⟩ := hw
  obtain ⟨⟨a1, a2, a3, a4, a5, a6⟩, b, r, h6, h7, hl, h10, c, c1, c2, c3⟩ := h
  refine v_R_copyOf_55_1 (k _ ⟨fun o ho => ?_, fun o ho => ?_⟩ ⟨⟨a1, a2, a3, a4, a5, a6⟩, fun l hl => ?_, r, fun d hd => ?_, fun p hp => ?_, ?_, fun m hm => ?_, c, c1, c2, c3⟩)
  · simp only [kr_ur_n _ _ (show o ≠ 56 by omega), kr_ur_n _ _ (show o ≠ 57 by omega), kr_ur_n _ _ (show o ≠ 58 by omega), kr_ur_n _ _ (show o ≠ 59 by omega), kr_ur_n _ _ (show o ≠ 60 by omega), kr_ur_n _ _ (show o ≠ 61 by omega), kr_ur_n _ _ (show o ≠ 62 by omega), kr_ur_n _ _ (show o ≠ 63 by omega), kr_ur_n _ _ (show o ≠ 64 by omega), kr_u_n _ _ _ (show o ≠ 55 by omega), kr_uL_1]
  · show (if o = 55 then _ else μ.2 o) = _
    rw [if_neg ho]
  · obtain ⟨b1, b2, b3, b4⟩ := b l hl
    refine ⟨?_, ?_, ?_, ?_⟩
    · show va_cpy (μ.1 2) (μ.1 56) 0 0 12 l = _
      rw [kz_cp (by omega)]; exact b1
    · show va_cpy (μ.1 3) (μ.1 57) 0 0 12 l = _
      rw [kz_cp (by omega)]; exact b2
    · show va_cpy (μ.1 4) (μ.1 58) 0 0 12 l = _
      rw [kz_cp (by omega)]; exact b3
    · show va_cpy (μ.1 5) (μ.1 59) 0 0 12 l = _
      rw [kz_cp (by omega)]; exact b4
  · show va_cpy (μ.1 6) (μ.1 60) 0 0 5 d = _
    rw [kz_cp (by omega)]; exact h6 d hd
  · obtain ⟨b1, b2, b3⟩ := h7 p hp
    refine ⟨?_, ?_, ?_⟩
    · show va_cpy (μ.1 7) (μ.1 61) 0 0 5 p = _
      rw [kz_cp (by omega)]; exact b1
    · show va_cpy (μ.1 8) (μ.1 62) 0 0 5 p = _
      rw [kz_cp (by omega)]; exact b2
    · show va_cpy (μ.1 9) (μ.1 63) 0 0 5 p = _
      rw [kz_cp (by omega)]; exact b3
  · show (if 55 = 55 then μ.2 1 else μ.2 55) = _
    rw [if_pos rfl]; exact hl
  · show va_cpy (μ.1 10) (μ.1 64) 0 0 8 m = _
    rw [kz_cp (by omega)]; exact h10 m hm
theorem c_R_copyOf_1_45 (hw : kr_wf g P D K t) (h : kr_Rg μ 45 g P D K t) (k : ∀ μ', kr_fA 1 μ μ' → kr_Rg μ' 1 g P D K t → Q none μ') : kr_c (d + 1) i_R_copyOf [.ref 1, .ref 45] μ Q := by
  obtain ⟨⟨n12, -, -, d5, k5⟩, -, -, -, -, -, h8, -⟩ := hw
  obtain ⟨⟨a1, a2, a3, a4, a5, a6⟩, b, r, h6, h7, hl, h10, c, c1, c2, c3⟩ := h
  refine v_R_copyOf_1_45 (k _ ⟨fun o ho => ?_, fun o ho => ?_⟩ ⟨⟨a1, a2, a3, a4, a5, a6⟩, fun l hl => ?_, r, fun d hd => ?_, fun p hp => ?_, ?_, fun m hm => ?_, c, c1, c2, c3⟩)
  · simp only [kr_ur_n _ _ (show o ≠ 2 by omega), kr_ur_n _ _ (show o ≠ 3 by omega), kr_ur_n _ _ (show o ≠ 4 by omega), kr_ur_n _ _ (show o ≠ 5 by omega), kr_ur_n _ _ (show o ≠ 6 by omega), kr_ur_n _ _ (show o ≠ 7 by omega), kr_ur_n _ _ (show o ≠ 8 by omega), kr_ur_n _ _ (show o ≠ 9 by omega), kr_ur_n _ _ (show o ≠ 10 by omega), kr_u_n _ _ _ (show o ≠ 1 by omega), kr_uL_1]
  · show (if o = 1 then _ else μ.2 o) = _
    rw [if_neg ho]
  · obtain ⟨b1, b2, b3, b4⟩ := b l hl
    refine ⟨?_, ?_, ?_, ?_⟩
    · show va_cpy (μ.1 46) (μ.1 2) 0 0 12 l = _
      rw [kz_cp (by omega)]; exact b1
    · show va_cpy (μ.1 47) (μ.1 3) 0 0 12 l = _
      rw [kz_cp (by omega)]; exact b2
    · show va_cpy (μ.1 48) (μ.1 4) 0 0 12 l = _
      rw [kz_cp (by omega)]; exact b3
    · show va_cpy (μ.1 49) (μ.1 5) 0 0 12 l = _
      rw [kz_cp (by omega)]; exact b4
  · show va_cpy (μ.1 50) (μ.1 6) 0 0 5 d = _
    rw [kz_cp (by omega)]; exact h6 d hd
  · obtain ⟨b1, b2, b3⟩ := h7 p hp
    refine ⟨?_, ?_, ?_⟩
    · show va_cpy (μ.1 51) (μ.1 7) 0 0 5 p = _
      rw [kz_cp (by omega)]; exact b1
    · show va_cpy (μ.1 52) (μ.1 8) 0 0 5 p = _
      rw [kz_cp (by omega)]; exact b2
    · show va_cpy (μ.1 53) (μ.1 9) 0 0 5 p = _
      rw [kz_cp (by omega)]; exact b3
  · show (if 1 = 1 then μ.2 45 else μ.2 1) = _
    rw [if_pos rfl]; exact hl
  · show va_cpy (μ.1 54) (μ.1 10) 0 0 8 m = _
    rw [kz_cp (by omega)]; exact h10 m hm
theorem c_R_copyOf_1_55 (hw : kr_wf g P D K t) (h : kr_Rg μ 55 g P D K t) (k : ∀ μ', kr_fA 1 μ μ' → kr_Rg μ' 1 g P D K t → Q none μ') : kr_c (d + 1) i_R_copyOf [.ref 1, .ref 55] μ Q := by
  obtain ⟨⟨n12, -, -, d5, k5⟩, -, -, -, -, -, h8, -⟩ := hw
  obtain ⟨⟨a1, a2, a3, a4, a5, a6⟩, b, r, h6, h7, hl, h10, c, c1, c2, c3⟩ := h
  refine v_R_copyOf_1_55 (k _ ⟨fun o ho => ?_, fun o ho => ?_⟩ ⟨⟨a1, a2, a3, a4, a5, a6⟩, fun l hl => ?_, r, fun d hd => ?_, fun p hp => ?_, ?_, fun m hm => ?_, c, c1, c2, c3⟩)
  · simp only [kr_ur_n _ _ (show o ≠ 2 by omega), kr_ur_n _ _ (show o ≠ 3 by omega), kr_ur_n _ _ (show o ≠ 4 by omega), kr_ur_n _ _ (show o ≠ 5 by omega), kr_ur_n _ _ (show o ≠ 6 by omega), kr_ur_n _ _ (show o ≠ 7 by omega), kr_ur_n _ _ (show o ≠ 8 by omega), kr_ur_n _ _ (show o ≠ 9 by omega), kr_ur_n _ _ (show o ≠ 10 by omega), kr_u_n _ _ _ (show o ≠ 1 by omega), kr_uL_1]
  · show (if o = 1 then _ else μ.2 o) = _
    rw [if_neg ho]
  · obtain ⟨b1, b2, b3, b4⟩ := b l hl
    refine ⟨?_, ?_, ?_, ?_⟩
    · show va_cpy (μ.1 56) (μ.1 2) 0 0 12 l = _
      rw [kz_cp (by omega)]; exact b1
    · show va_cpy (μ.1 57) (μ.1 3) 0 0 12 l = _
      rw [kz_cp (by omega)]; exact b2
    · show va_cpy (μ.1 58) (μ.1 4) 0 0 12 l = _
      rw [kz_cp (by omega)]; exact b3
    · show va_cpy (μ.1 59) (μ.1 5) 0 0 12 l = _
      rw [kz_cp (by omega)]; exact b4
  · show va_cpy (μ.1 60) (μ.1 6) 0 0 5 d = _
    rw [kz_cp (by omega)]; exact h6 d hd
  · obtain ⟨b1, b2, b3⟩ := h7 p hp
    refine ⟨?_, ?_, ?_⟩
    · show va_cpy (μ.1 61) (μ.1 7) 0 0 5 p = _
      rw [kz_cp (by omega)]; exact b1
    · show va_cpy (μ.1 62) (μ.1 8) 0 0 5 p = _
      rw [kz_cp (by omega)]; exact b2
    · show va_cpy (μ.1 63) (μ.1 9) 0 0 5 p = _
      rw [kz_cp (by omega)]; exact b3
  · show (if 1 = 1 then μ.2 55 else μ.2 1) = _
    rw [if_pos rfl]; exact hl
  · show va_cpy (μ.1 64) (μ.1 10) 0 0 8 m = _
    rw [kz_cp (by omega)]; exact h10 m hm
theorem c_R_copyOf_1_14 (hw : kr_wf g P D K t) (h : kr_Rg μ 14 g P D K t) (k : ∀ μ', kr_fA 1 μ μ' → kr_Rg μ' 1 g P D K t → Q none μ') : kr_c (d + 1) i_R_copyOf [.ref 1, .ref 14] μ Q := by
  obtain ⟨⟨n12, -, -, d5, k5⟩, -, -, -, -, -, h8, -⟩ := hw
  obtain ⟨⟨a1, a2, a3, a4, a5, a6⟩, b, r, h6, h7, hl, h10, c, c1, c2, c3⟩ := h
  refine v_R_copyOf_1_14 (k _ ⟨fun o ho => ?_, fun o ho => ?_⟩ ⟨⟨a1, a2, a3, a4, a5, a6⟩, fun l hl => ?_, r, fun d hd => ?_, fun p hp => ?_, ?_, fun m hm => ?_, c, c1, c2, c3⟩)
  · simp only [kr_ur_n _ _ (show o ≠ 2 by omega), kr_ur_n _ _ (show o ≠ 3 by omega), kr_ur_n _ _ (show o ≠ 4 by omega), kr_ur_n _ _ (show o ≠ 5 by omega), kr_ur_n _ _ (show o ≠ 6 by omega), kr_ur_n _ _ (show o ≠ 7 by omega), kr_ur_n _ _ (show o ≠ 8 by omega), kr_ur_n _ _ (show o ≠ 9 by omega), kr_ur_n _ _ (show o ≠ 10 by omega), kr_u_n _ _ _ (show o ≠ 1 by omega), kr_uL_1]
  · show (if o = 1 then _ else μ.2 o) = _
    rw [if_neg ho]
  · obtain ⟨b1, b2, b3, b4⟩ := b l hl
    refine ⟨?_, ?_, ?_, ?_⟩
    · show va_cpy (μ.1 15) (μ.1 2) 0 0 12 l = _
      rw [kz_cp (by omega)]; exact b1
    · show va_cpy (μ.1 16) (μ.1 3) 0 0 12 l = _
      rw [kz_cp (by omega)]; exact b2
    · show va_cpy (μ.1 17) (μ.1 4) 0 0 12 l = _
      rw [kz_cp (by omega)]; exact b3
    · show va_cpy (μ.1 18) (μ.1 5) 0 0 12 l = _
      rw [kz_cp (by omega)]; exact b4
  · show va_cpy (μ.1 19) (μ.1 6) 0 0 5 d = _
    rw [kz_cp (by omega)]; exact h6 d hd
  · obtain ⟨b1, b2, b3⟩ := h7 p hp
    refine ⟨?_, ?_, ?_⟩
    · show va_cpy (μ.1 20) (μ.1 7) 0 0 5 p = _
      rw [kz_cp (by omega)]; exact b1
    · show va_cpy (μ.1 21) (μ.1 8) 0 0 5 p = _
      rw [kz_cp (by omega)]; exact b2
    · show va_cpy (μ.1 22) (μ.1 9) 0 0 5 p = _
      rw [kz_cp (by omega)]; exact b3
  · show (if 1 = 1 then μ.2 14 else μ.2 1) = _
    rw [if_pos rfl]; exact hl
  · show va_cpy (μ.1 23) (μ.1 10) 0 0 8 m = _
    rw [kz_cp (by omega)]; exact h10 m hm
end
