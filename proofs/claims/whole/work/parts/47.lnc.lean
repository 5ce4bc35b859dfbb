/-! lines of the text: the class -/
theorem st_D_readPoints {d : Nat} {Q : kr_Q} {pc : Nat} {ls : kr_L} {st : List Value} {μ : kr_M} (h : C_D_readPoints pc (kr_Wp C_D_readPoints (kr_c d) Q) (kr_c d) Q ls st μ) : kr_Wp C_D_readPoints (kr_c d) Q pc ls st μ := kr_Wp.step (fun pc => (kr_ok_D_readPoints pc).2) (kr_c_om d) h
theorem v_D_readPoints {d : Nat} {Q : kr_Q} {μ : kr_M}  (h : (((μ.1 13 5) = 0 → kr_c (d + 3) i_D_nextNumber [.ref 13, .int 2, .int 9] (kr_u μ 13 5 1) (kr_bk (kr_Wp C_D_readPoints (kr_c (d + 3)) Q) 29 [some (.ref 13)] [])) ∧ (¬ ((μ.1 13 5) = 0) → kr_c (d + 3) i_D_fail [.ref 13, .int 4, .int (μ.1 13 7)] μ (kr_bk (kr_Wp C_D_readPoints (kr_c (d + 3)) Q) 16 [some (.ref 13)] [])))) : kr_c (d + 4) i_D_readPoints [.ref 13] μ Q := ⟨rfl, (st_D_readPoints (st_D_readPoints (And.intro rfl (st_D_readPoints (And.intro (fun z1x => (st_D_readPoints (st_D_readPoints (st_D_readPoints (And.intro ⟨rfl, by decide⟩ (st_D_readPoints (st_D_readPoints (st_D_readPoints (st_D_readPoints (And.intro rfl (h.1 z1x))))))))))) (fun z1x => (st_D_readPoints (st_D_readPoints (st_D_readPoints (st_D_readPoints (And.intro rfl (st_D_readPoints (And.intro rfl (h.2 z1x))))))))))))))⟩
theorem v_D_readPoints_29 {d : Nat} {Q : kr_Q} {μ : kr_M} {r : Int32} (h : ((¬ r = 0 → kr_c (d + 3) i_D_nextSign [.ref 13] (kr_u μ 14 0 (μ.1 13 9)) (kr_bk (kr_Wp C_D_readPoints (kr_c (d + 3)) Q) 49 [some (.ref 13)] [])) ∧ (r = 0 → Q (some (.int 0)) μ))) : kr_Wp C_D_readPoints (kr_c (d + 3)) Q 29 [some (.ref 13)] [.int r] μ := (st_D_readPoints (And.intro (fun z1x => (st_D_readPoints (st_D_readPoints (And.intro rfl (st_D_readPoints (st_D_readPoints (And.intro rfl (st_D_readPoints (And.intro rfl (st_D_readPoints (st_D_readPoints (And.intro rfl (h.1 z1x))))))))))))) (fun z1x => (st_D_readPoints (st_D_readPoints (And.intro (by decide) (h.2 (Decidable.not_not.mp z1x))))))))
theorem v_D_readPoints_16 {d : Nat} {Q : kr_Q} {μ : kr_M} {r : Int32} (h : (r = 0 ∨ r = 1) ∧ Q (some (.int r)) μ) : kr_Wp C_D_readPoints (kr_c (d + 3)) Q 16 [some (.ref 13)] [.int r] μ := (st_D_readPoints h)
theorem v_D_readPoints_49 {d : Nat} {Q : kr_Q} {μ : kr_M} {r : Int32} (h : (r = 0 ∨ r = 1) ∧ Q (some (.int r)) μ) : kr_Wp C_D_readPoints (kr_c (d + 3)) Q 49 [some (.ref 13)] [.int r] μ := (st_D_readPoints h)
theorem st_D_readHouse {d : Nat} {Q : kr_Q} {pc : Nat} {ls : kr_L} {st : List Value} {μ : kr_M} (h : C_D_readHouse pc (kr_Wp C_D_readHouse (kr_c d) Q) (kr_c d) Q ls st μ) : kr_Wp C_D_readHouse (kr_c d) Q pc ls st μ := kr_Wp.step (fun pc => (kr_ok_D_readHouse pc).2) (kr_c_om d) h
theorem v_D_readHouse {d : Nat} {Q : kr_Q} {μ : kr_M}  (h : kr_c (d + 3) i_D_nextNumber [.ref 13, .int 0, .int 8] μ (kr_bk (kr_Wp C_D_readHouse (kr_c (d + 3)) Q) 7 [some (.ref 13)] [])) : kr_c (d + 4) i_D_readHouse [.ref 13] μ Q := ⟨rfl, (st_D_readHouse (st_D_readHouse (st_D_readHouse (st_D_readHouse (And.intro rfl h)))))⟩
theorem v_D_readHouse_7 {d : Nat} {Q : kr_Q} {μ : kr_M} {r : Int32} (h : ((¬ r = 0 → ((¬ (¬ ((μ.1 14 1) >>> ((μ.1 13 9) &&& 31)) &&& 1 = 0) → kr_c (d + 3) i_R_setHouse [.ref 14, .int (μ.1 13 9), .int 1] μ (kr_bk (kr_Wp C_D_readHouse (kr_c (d + 3)) Q) 48 [some (.ref 13)] [])) ∧ (¬ ((μ.1 14 1) >>> ((μ.1 13 9) &&& 31)) &&& 1 = 0 → kr_c (d + 3) i_D_fail [.ref 13, .int 4, .int (μ.1 13 7)] μ (kr_bk (kr_Wp C_D_readHouse (kr_c (d + 3)) Q) 35 [some (.ref 13)] [])))) ∧ (r = 0 → Q (some (.int 0)) μ))) : kr_Wp C_D_readHouse (kr_c (d + 3)) Q 7 [some (.ref 13)] [.int r] μ := (st_D_readHouse (And.intro (fun z1x => (st_D_readHouse (st_D_readHouse (And.intro rfl (st_D_readHouse (st_D_readHouse (And.intro rfl (st_D_readHouse (And.intro rfl (v_R_isHouse14 (st_D_readHouse (And.intro (fun z2x => (st_D_readHouse (st_D_readHouse (And.intro rfl (st_D_readHouse (st_D_readHouse (And.intro rfl (st_D_readHouse (st_D_readHouse (And.intro rfl ((h.1 z1x).1 (kr_b0 z2x)))))))))))) (fun z2x => (st_D_readHouse (st_D_readHouse (st_D_readHouse (st_D_readHouse (And.intro rfl (st_D_readHouse (And.intro rfl ((h.1 z1x).2 (kr_b1 z2x)))))))))))))))))))))) (fun z1x => (st_D_readHouse (st_D_readHouse (And.intro (by decide) (h.2 (Decidable.not_not.mp z1x))))))))
theorem v_D_readHouse_48 {d : Nat} {Q : kr_Q} {μ : kr_M}  (h : kr_c (d + 3) i_D_nextSign [.ref 13] μ (kr_bk (kr_Wp C_D_readHouse (kr_c (d + 3)) Q) 52 [some (.ref 13)] [])) : kr_Wp C_D_readHouse (kr_c (d + 3)) Q 48 [some (.ref 13)] [] μ := (st_D_readHouse (st_D_readHouse (And.intro rfl h)))
theorem v_D_readHouse_35 {d : Nat} {Q : kr_Q} {μ : kr_M} {r : Int32} (h : (r = 0 ∨ r = 1) ∧ Q (some (.int r)) μ) : kr_Wp C_D_readHouse (kr_c (d + 3)) Q 35 [some (.ref 13)] [.int r] μ := (st_D_readHouse h)
theorem v_D_readHouse_52 {d : Nat} {Q : kr_Q} {μ : kr_M} {r : Int32} (h : (r = 0 ∨ r = 1) ∧ Q (some (.int r)) μ) : kr_Wp C_D_readHouse (kr_c (d + 3)) Q 52 [some (.ref 13)] [.int r] μ := (st_D_readHouse h)
theorem st_D_readLine {d : Nat} {Q : kr_Q} {pc : Nat} {ls : kr_L} {st : List Value} {μ : kr_M} (h : C_D_readLine pc (kr_Wp C_D_readLine (kr_c d) Q) (kr_c d) Q ls st μ) : kr_Wp C_D_readLine (kr_c d) Q pc ls st μ := kr_Wp.step (fun pc => (kr_ok_D_readLine pc).2) (kr_c_om d) h
theorem v_D_readLine {d : Nat} {Q : kr_Q} {μ : kr_M}  (h : (((μ.1 14 2) < 12 → kr_c (d + 6) i_D_nextNumber [.ref 13, .int 0, .int 8] μ (kr_bk (kr_Wp C_D_readLine (kr_c (d + 6)) Q) 29 [some (.ref 13), none, none, none] [])) ∧ (¬ ((μ.1 14 2) < 12) → kr_c (d + 6) i_D_fail [.ref 13, .int 5, .int (μ.1 13 7)] μ (kr_bk (kr_Wp C_D_readLine (kr_c (d + 6)) Q) 21 [some (.ref 13), none, none, none] [])))) : kr_c (d + 7) i_D_readLine [.ref 13] μ Q := ⟨rfl, (st_D_readLine (st_D_readLine (And.intro rfl (st_D_readLine (And.intro rfl (st_D_readLine (st_D_readLine (And.intro (fun z1x => (st_D_readLine (st_D_readLine (st_D_readLine (st_D_readLine (And.intro rfl (h.1 z1x))))))) (fun z1x => (st_D_readLine (st_D_readLine (st_D_readLine (st_D_readLine (And.intro rfl (st_D_readLine (And.intro rfl (h.2 z1x)))))))))))))))))⟩
theorem v_D_readLine_29 {d : Nat} {Q : kr_Q} {μ : kr_M} {r : Int32} (h : ((¬ r = 0 → kr_c (d + 6) i_D_nextNumber [.ref 13, .int 0, .int 8] μ (kr_bk (kr_Wp C_D_readLine (kr_c (d + 6)) Q) 46 [some (.ref 13), some (.int (μ.1 13 9)), none, none] [])) ∧ (r = 0 → Q (some (.int 0)) μ))) : kr_Wp C_D_readLine (kr_c (d + 6)) Q 29 [some (.ref 13), none, none, none] [.int r] μ := (st_D_readLine (And.intro (fun z1x => (st_D_readLine (st_D_readLine (And.intro rfl (st_D_readLine (st_D_readLine (st_D_readLine (st_D_readLine (st_D_readLine (And.intro rfl (h.1 z1x))))))))))) (fun z1x => (st_D_readLine (st_D_readLine (And.intro (by decide) (h.2 (Decidable.not_not.mp z1x))))))))
theorem v_D_readLine_21 {d : Nat} {Q : kr_Q} {μ : kr_M} {r : Int32} (h : (r = 0 ∨ r = 1) ∧ Q (some (.int r)) μ) : kr_Wp C_D_readLine (kr_c (d + 6)) Q 21 [some (.ref 13), none, none, none] [.int r] μ := (st_D_readLine h)
theorem v_D_readLine_46 {d : Nat} {Q : kr_Q} {μ : kr_M} {a1 : Int32} {r : Int32} (h : ((¬ r = 0 → ((¬ a1 = (μ.1 13 9) → kr_c (d + 6) i_D_nextNumber [.ref 13, .int 1, .int 9] μ (kr_bk (kr_Wp C_D_readLine (kr_c (d + 6)) Q) 78 [some (.ref 13), some (.int a1), some (.int (μ.1 13 9)), none] [])) ∧ (a1 = (μ.1 13 9) → kr_c (d + 6) i_D_fail [.ref 13, .int 4, .int (μ.1 13 7)] μ (kr_bk (kr_Wp C_D_readLine (kr_c (d + 6)) Q) 70 [some (.ref 13), some (.int a1), some (.int (μ.1 13 9)), none] [])))) ∧ (r = 0 → Q (some (.int 0)) μ))) : kr_Wp C_D_readLine (kr_c (d + 6)) Q 46 [some (.ref 13), some (.int a1), none, none] [.int r] μ := (st_D_readLine (And.intro (fun z1x => (st_D_readLine (st_D_readLine (And.intro rfl (st_D_readLine (st_D_readLine (st_D_readLine (st_D_readLine (And.intro (fun z2x => (st_D_readLine (st_D_readLine (st_D_readLine (st_D_readLine (And.intro rfl ((h.1 z1x).1 z2x))))))) (fun z2x => (st_D_readLine (st_D_readLine (st_D_readLine (st_D_readLine (And.intro rfl (st_D_readLine (And.intro rfl ((h.1 z1x).2 (Decidable.not_not.mp z2x))))))))))))))))))) (fun z1x => (st_D_readLine (st_D_readLine (And.intro (by decide) (h.2 (Decidable.not_not.mp z1x))))))))
theorem v_D_readLine_78 {d : Nat} {Q : kr_Q} {μ : kr_M} {a1 : Int32} {a2 : Int32} {r : Int32} (h : ((¬ r = 0 → kr_c (d + 6) i_D_nextNumber [.ref 13, .int 0, .int 9] μ (kr_bk (kr_Wp C_D_readLine (kr_c (d + 6)) Q) 95 [some (.ref 13), some (.int a1), some (.int a2), some (.int (μ.1 13 9))] [])) ∧ (r = 0 → Q (some (.int 0)) μ))) : kr_Wp C_D_readLine (kr_c (d + 6)) Q 78 [some (.ref 13), some (.int a1), some (.int a2), none] [.int r] μ := (st_D_readLine (And.intro (fun z1x => (st_D_readLine (st_D_readLine (And.intro rfl (st_D_readLine (st_D_readLine (st_D_readLine (st_D_readLine (st_D_readLine (And.intro rfl (h.1 z1x))))))))))) (fun z1x => (st_D_readLine (st_D_readLine (And.intro (by decide) (h.2 (Decidable.not_not.mp z1x))))))))
theorem v_D_readLine_70 {d : Nat} {Q : kr_Q} {μ : kr_M} {a1 : Int32} {a2 : Int32} {r : Int32} (h : (r = 0 ∨ r = 1) ∧ Q (some (.int r)) μ) : kr_Wp C_D_readLine (kr_c (d + 6)) Q 70 [some (.ref 13), some (.int a1), some (.int a2), none] [.int r] μ := (st_D_readLine h)
theorem v_D_readLine_95 {d : Nat} {Q : kr_Q} {μ : kr_M} {a1 : Int32} {a2 : Int32} {a3 : Int32} {r : Int32} (h : ((¬ r = 0 → kr_c (d + 6) i_R_addLine [.ref 14, .int a1, .int a2, .int a3, .int (μ.1 13 9)] μ (kr_bk (kr_Wp C_D_readLine (kr_c (d + 6)) Q) 114 [some (.ref 13), some (.int a1), some (.int a2), some (.int a3)] [])) ∧ (r = 0 → Q (some (.int 0)) μ))) : kr_Wp C_D_readLine (kr_c (d + 6)) Q 95 [some (.ref 13), some (.int a1), some (.int a2), some (.int a3)] [.int r] μ := (st_D_readLine (And.intro (fun z1x => (st_D_readLine (st_D_readLine (And.intro rfl (st_D_readLine (st_D_readLine (st_D_readLine (st_D_readLine (st_D_readLine (And.intro rfl (st_D_readLine (And.intro rfl (h.1 z1x))))))))))))) (fun z1x => (st_D_readLine (st_D_readLine (And.intro (by decide) (h.2 (Decidable.not_not.mp z1x))))))))
theorem v_D_readLine_114 {d : Nat} {Q : kr_Q} {μ : kr_M} {a1 : Int32} {a2 : Int32} {a3 : Int32} {r : Int32} (h : kr_c (d + 6) i_D_nextRoof [.ref 13] μ (kr_bk (kr_Wp C_D_readLine (kr_c (d + 6)) Q) 119 [some (.ref 13), some (.int a1), some (.int a2), some (.int a3)] [])) : kr_Wp C_D_readLine (kr_c (d + 6)) Q 114 [some (.ref 13), some (.int a1), some (.int a2), some (.int a3)] [.int r] μ := (st_D_readLine (st_D_readLine (st_D_readLine (And.intro rfl h))))
theorem v_D_readLine_119 {d : Nat} {Q : kr_Q} {μ : kr_M} {a1 : Int32} {a2 : Int32} {a3 : Int32} {r : Int32} (h : (r = 0 ∨ r = 1) ∧ Q (some (.int r)) μ) : kr_Wp C_D_readLine (kr_c (d + 6)) Q 119 [some (.ref 13), some (.int a1), some (.int a2), some (.int a3)] [.int r] μ := (st_D_readLine h)
theorem st_D_readDrawer {d : Nat} {Q : kr_Q} {pc : Nat} {ls : kr_L} {st : List Value} {μ : kr_M} (h : C_D_readDrawer pc (kr_Wp C_D_readDrawer (kr_c d) Q) (kr_c d) Q ls st μ) : kr_Wp C_D_readDrawer (kr_c d) Q pc ls st μ := kr_Wp.step (fun pc => (kr_ok_D_readDrawer pc).2) (kr_c_om d) h
theorem v_D_readDrawer {d : Nat} {Q : kr_Q} {μ : kr_M}  (h : (((μ.1 14 8) < 5 → kr_c (d + 3) i_D_nextNumber [.ref 13, .int 0, .int 50] μ (kr_bk (kr_Wp C_D_readDrawer (kr_c (d + 3)) Q) 28 [some (.ref 13)] [])) ∧ (¬ ((μ.1 14 8) < 5) → kr_c (d + 3) i_D_fail [.ref 13, .int 5, .int (μ.1 13 7)] μ (kr_bk (kr_Wp C_D_readDrawer (kr_c (d + 3)) Q) 20 [some (.ref 13)] [])))) : kr_c (d + 4) i_D_readDrawer [.ref 13] μ Q := ⟨rfl, (st_D_readDrawer (st_D_readDrawer (And.intro rfl (st_D_readDrawer (And.intro rfl (st_D_readDrawer (st_D_readDrawer (And.intro (fun z1x => (st_D_readDrawer (st_D_readDrawer (st_D_readDrawer (st_D_readDrawer (And.intro rfl (h.1 z1x))))))) (fun z1x => (st_D_readDrawer (st_D_readDrawer (st_D_readDrawer (st_D_readDrawer (And.intro rfl (st_D_readDrawer (And.intro rfl (h.2 z1x)))))))))))))))))⟩
theorem v_D_readDrawer_28 {d : Nat} {Q : kr_Q} {μ : kr_M} {r : Int32} (h : ((¬ r = 0 → kr_c (d + 3) i_R_addDrawer [.ref 14, .int (μ.1 13 9)] μ (kr_bk (kr_Wp C_D_readDrawer (kr_c (d + 3)) Q) 44 [some (.ref 13)] [])) ∧ (r = 0 → Q (some (.int 0)) μ))) : kr_Wp C_D_readDrawer (kr_c (d + 3)) Q 28 [some (.ref 13)] [.int r] μ := (st_D_readDrawer (And.intro (fun z1x => (st_D_readDrawer (st_D_readDrawer (And.intro rfl (st_D_readDrawer (st_D_readDrawer (And.intro rfl (st_D_readDrawer (And.intro rfl (h.1 z1x)))))))))) (fun z1x => (st_D_readDrawer (st_D_readDrawer (And.intro (by decide) (h.2 (Decidable.not_not.mp z1x))))))))
theorem v_D_readDrawer_20 {d : Nat} {Q : kr_Q} {μ : kr_M} {r : Int32} (h : (r = 0 ∨ r = 1) ∧ Q (some (.int r)) μ) : kr_Wp C_D_readDrawer (kr_c (d + 3)) Q 20 [some (.ref 13)] [.int r] μ := (st_D_readDrawer h)
theorem v_D_readDrawer_44 {d : Nat} {Q : kr_Q} {μ : kr_M}  (h : kr_c (d + 3) i_D_nextSign [.ref 13] μ (kr_bk (kr_Wp C_D_readDrawer (kr_c (d + 3)) Q) 48 [some (.ref 13)] [])) : kr_Wp C_D_readDrawer (kr_c (d + 3)) Q 44 [some (.ref 13)] [] μ := (st_D_readDrawer (st_D_readDrawer (And.intro rfl h)))
theorem v_D_readDrawer_48 {d : Nat} {Q : kr_Q} {μ : kr_M} {r : Int32} (h : (r = 0 ∨ r = 1) ∧ Q (some (.int r)) μ) : kr_Wp C_D_readDrawer (kr_c (d + 3)) Q 48 [some (.ref 13)] [.int r] μ := (st_D_readDrawer h)
theorem st_D_readOne {d : Nat} {Q : kr_Q} {pc : Nat} {ls : kr_L} {st : List Value} {μ : kr_M} (h : C_D_readOne pc (kr_Wp C_D_readOne (kr_c d) Q) (kr_c d) Q ls st μ) : kr_Wp C_D_readOne (kr_c d) Q pc ls st μ := kr_Wp.step (fun pc => (kr_ok_D_readOne pc).2) (kr_c_om d) h
theorem v_D_readOne {d : Nat} {Q : kr_Q} {μ : kr_M}  (h : (((μ.1 14 10) < 5 → kr_c (d + 3) i_D_nextNumber [.ref 13, .int 0, .int 8] μ (kr_bk (kr_Wp C_D_readOne (kr_c (d + 3)) Q) 28 [some (.ref 13), none, none] [])) ∧ (¬ ((μ.1 14 10) < 5) → kr_c (d + 3) i_D_fail [.ref 13, .int 5, .int (μ.1 13 7)] μ (kr_bk (kr_Wp C_D_readOne (kr_c (d + 3)) Q) 20 [some (.ref 13), none, none] [])))) : kr_c (d + 4) i_D_readOne [.ref 13] μ Q := ⟨rfl, (st_D_readOne (st_D_readOne (And.intro rfl (st_D_readOne (And.intro rfl (st_D_readOne (st_D_readOne (And.intro (fun z1x => (st_D_readOne (st_D_readOne (st_D_readOne (st_D_readOne (And.intro rfl (h.1 z1x))))))) (fun z1x => (st_D_readOne (st_D_readOne (st_D_readOne (st_D_readOne (And.intro rfl (st_D_readOne (And.intro rfl (h.2 z1x)))))))))))))))))⟩
theorem v_D_readOne_28 {d : Nat} {Q : kr_Q} {μ : kr_M} {r : Int32} (h : ((¬ r = 0 → kr_c (d + 3) i_D_nextNumber [.ref 13, .int 0, .int 8] μ (kr_bk (kr_Wp C_D_readOne (kr_c (d + 3)) Q) 45 [some (.ref 13), some (.int (μ.1 13 9)), none] [])) ∧ (r = 0 → Q (some (.int 0)) μ))) : kr_Wp C_D_readOne (kr_c (d + 3)) Q 28 [some (.ref 13), none, none] [.int r] μ := (st_D_readOne (And.intro (fun z1x => (st_D_readOne (st_D_readOne (And.intro rfl (st_D_readOne (st_D_readOne (st_D_readOne (st_D_readOne (st_D_readOne (And.intro rfl (h.1 z1x))))))))))) (fun z1x => (st_D_readOne (st_D_readOne (And.intro (by decide) (h.2 (Decidable.not_not.mp z1x))))))))
theorem v_D_readOne_20 {d : Nat} {Q : kr_Q} {μ : kr_M} {r : Int32} (h : (r = 0 ∨ r = 1) ∧ Q (some (.int r)) μ) : kr_Wp C_D_readOne (kr_c (d + 3)) Q 20 [some (.ref 13), none, none] [.int r] μ := (st_D_readOne h)
theorem v_D_readOne_45 {d : Nat} {Q : kr_Q} {μ : kr_M} {a1 : Int32} {r : Int32} (h : ((¬ r = 0 → ((¬ a1 = (μ.1 13 9) → kr_c (d + 3) i_D_nextNumber [.ref 13, .int 0, .int 40] μ (kr_bk (kr_Wp C_D_readOne (kr_c (d + 3)) Q) 77 [some (.ref 13), some (.int a1), some (.int (μ.1 13 9))] [])) ∧ (a1 = (μ.1 13 9) → kr_c (d + 3) i_D_fail [.ref 13, .int 4, .int (μ.1 13 7)] μ (kr_bk (kr_Wp C_D_readOne (kr_c (d + 3)) Q) 69 [some (.ref 13), some (.int a1), some (.int (μ.1 13 9))] [])))) ∧ (r = 0 → Q (some (.int 0)) μ))) : kr_Wp C_D_readOne (kr_c (d + 3)) Q 45 [some (.ref 13), some (.int a1), none] [.int r] μ := (st_D_readOne (And.intro (fun z1x => (st_D_readOne (st_D_readOne (And.intro rfl (st_D_readOne (st_D_readOne (st_D_readOne (st_D_readOne (And.intro (fun z2x => (st_D_readOne (st_D_readOne (st_D_readOne (st_D_readOne (And.intro rfl ((h.1 z1x).1 z2x))))))) (fun z2x => (st_D_readOne (st_D_readOne (st_D_readOne (st_D_readOne (And.intro rfl (st_D_readOne (And.intro rfl ((h.1 z1x).2 (Decidable.not_not.mp z2x))))))))))))))))))) (fun z1x => (st_D_readOne (st_D_readOne (And.intro (by decide) (h.2 (Decidable.not_not.mp z1x))))))))
theorem v_D_readOne_77 {d : Nat} {Q : kr_Q} {μ : kr_M} {a1 : Int32} {a2 : Int32} {r : Int32} (h : ((¬ r = 0 → kr_c (d + 3) i_R_addOne [.ref 14, .int a1, .int a2, .int (μ.1 13 9)] μ (kr_bk (kr_Wp C_D_readOne (kr_c (d + 3)) Q) 95 [some (.ref 13), some (.int a1), some (.int a2)] [])) ∧ (r = 0 → Q (some (.int 0)) μ))) : kr_Wp C_D_readOne (kr_c (d + 3)) Q 77 [some (.ref 13), some (.int a1), some (.int a2)] [.int r] μ := (st_D_readOne (And.intro (fun z1x => (st_D_readOne (st_D_readOne (And.intro rfl (st_D_readOne (st_D_readOne (st_D_readOne (st_D_readOne (And.intro rfl (st_D_readOne (And.intro rfl (h.1 z1x)))))))))))) (fun z1x => (st_D_readOne (st_D_readOne (And.intro (by decide) (h.2 (Decidable.not_not.mp z1x))))))))
theorem v_D_readOne_69 {d : Nat} {Q : kr_Q} {μ : kr_M} {a1 : Int32} {a2 : Int32} {r : Int32} (h : (r = 0 ∨ r = 1) ∧ Q (some (.int r)) μ) : kr_Wp C_D_readOne (kr_c (d + 3)) Q 69 [some (.ref 13), some (.int a1), some (.int a2)] [.int r] μ := (st_D_readOne h)
theorem v_D_readOne_95 {d : Nat} {Q : kr_Q} {μ : kr_M} {a1 : Int32} {a2 : Int32} (h : kr_c (d + 3) i_D_nextSign [.ref 13] μ (kr_bk (kr_Wp C_D_readOne (kr_c (d + 3)) Q) 99 [some (.ref 13), some (.int a1), some (.int a2)] [])) : kr_Wp C_D_readOne (kr_c (d + 3)) Q 95 [some (.ref 13), some (.int a1), some (.int a2)] [] μ := (st_D_readOne (st_D_readOne (And.intro rfl h)))
theorem v_D_readOne_99 {d : Nat} {Q : kr_Q} {μ : kr_M} {a1 : Int32} {a2 : Int32} {r : Int32} (h : (r = 0 ∨ r = 1) ∧ Q (some (.int r)) μ) : kr_Wp C_D_readOne (kr_c (d + 3)) Q 99 [some (.ref 13), some (.int a1), some (.int a2)] [.int r] μ := (st_D_readOne h)
theorem st_D_readRain {d : Nat} {Q : kr_Q} {pc : Nat} {ls : kr_L} {st : List Value} {μ : kr_M} (h : C_D_readRain pc (kr_Wp C_D_readRain (kr_c d) Q) (kr_c d) Q ls st μ) : kr_Wp C_D_readRain (kr_c d) Q pc ls st μ := kr_Wp.step (fun pc => (kr_ok_D_readRain pc).2) (kr_c_om d) h
theorem v_D_readRain {d : Nat} {Q : kr_Q} {μ : kr_M}  (h : kr_c (d + 3) i_D_nextNumber [.ref 13, .int 1, .int 40] μ (kr_bk (kr_Wp C_D_readRain (kr_c (d + 3)) Q) 7 [some (.ref 13)] [])) : kr_c (d + 4) i_D_readRain [.ref 13] μ Q := ⟨rfl, (st_D_readRain (st_D_readRain (st_D_readRain (st_D_readRain (And.intro rfl h)))))⟩
theorem v_D_readRain_7 {d : Nat} {Q : kr_Q} {μ : kr_M} {r : Int32} (h : ((¬ r = 0 → kr_c (d + 3) i_R_rainsIn [.ref 14, .int (μ.1 13 9)] μ (kr_bk (kr_Wp C_D_readRain (kr_c (d + 3)) Q) 23 [some (.ref 13)] [])) ∧ (r = 0 → Q (some (.int 0)) μ))) : kr_Wp C_D_readRain (kr_c (d + 3)) Q 7 [some (.ref 13)] [.int r] μ := (st_D_readRain (And.intro (fun z1x => (st_D_readRain (st_D_readRain (And.intro rfl (st_D_readRain (st_D_readRain (And.intro rfl (st_D_readRain (And.intro rfl (h.1 z1x)))))))))) (fun z1x => (st_D_readRain (st_D_readRain (And.intro (by decide) (h.2 (Decidable.not_not.mp z1x))))))))
theorem v_D_readRain_23 {d : Nat} {Q : kr_Q} {μ : kr_M} {r : Int32} (h : ((r = 0 → kr_c (d + 3) i_R_setRain [.ref 14, .int (μ.1 13 9), .int 1] μ (kr_bk (kr_Wp C_D_readRain (kr_c (d + 3)) Q) 48 [some (.ref 13)] [])) ∧ (¬ (r = 0) → kr_c (d + 3) i_D_fail [.ref 13, .int 4, .int (μ.1 13 7)] μ (kr_bk (kr_Wp C_D_readRain (kr_c (d + 3)) Q) 35 [some (.ref 13)] [])))) : kr_Wp C_D_readRain (kr_c (d + 3)) Q 23 [some (.ref 13)] [.int r] μ := (st_D_readRain (And.intro (fun z1x => (st_D_readRain (st_D_readRain (And.intro rfl (st_D_readRain (st_D_readRain (And.intro rfl (st_D_readRain (st_D_readRain (And.intro rfl (h.1 z1x))))))))))) (fun z1x => (st_D_readRain (st_D_readRain (st_D_readRain (st_D_readRain (And.intro rfl (st_D_readRain (And.intro rfl (h.2 z1x)))))))))))
theorem v_D_readRain_48 {d : Nat} {Q : kr_Q} {μ : kr_M}  (h : kr_c (d + 3) i_D_nextSign [.ref 13] μ (kr_bk (kr_Wp C_D_readRain (kr_c (d + 3)) Q) 52 [some (.ref 13)] [])) : kr_Wp C_D_readRain (kr_c (d + 3)) Q 48 [some (.ref 13)] [] μ := (st_D_readRain (st_D_readRain (And.intro rfl h)))
theorem v_D_readRain_35 {d : Nat} {Q : kr_Q} {μ : kr_M} {r : Int32} (h : (r = 0 ∨ r = 1) ∧ Q (some (.int r)) μ) : kr_Wp C_D_readRain (kr_c (d + 3)) Q 35 [some (.ref 13)] [.int r] μ := (st_D_readRain h)
theorem v_D_readRain_52 {d : Nat} {Q : kr_Q} {μ : kr_M} {r : Int32} (h : (r = 0 ∨ r = 1) ∧ Q (some (.int r)) μ) : kr_Wp C_D_readRain (kr_c (d + 3)) Q 52 [some (.ref 13)] [.int r] μ := (st_D_readRain h)
theorem st_D_nextRoof {d : Nat} {Q : kr_Q} {pc : Nat} {ls : kr_L} {st : List Value} {μ : kr_M} (h : C_D_nextRoof pc (kr_Wp C_D_nextRoof (kr_c d) Q) (kr_c d) Q ls st μ) : kr_Wp C_D_nextRoof (kr_c d) Q pc ls st μ := kr_Wp.step (fun pc => (kr_ok_D_nextRoof pc).2) (kr_c_om d) h
theorem v_D_nextRoof {d : Nat} {Q : kr_Q} {μ : kr_M}  (h : kr_c (d + 5) i_D_nextToken [.ref 13] μ (kr_bk (kr_Wp C_D_nextRoof (kr_c (d + 5)) Q) 4 [some (.ref 13)] [])) : kr_c (d + 6) i_D_nextRoof [.ref 13] μ Q := ⟨rfl, (st_D_nextRoof (st_D_nextRoof (And.intro rfl h)))⟩
theorem v_D_nextRoof_4 {d : Nat} {Q : kr_Q} {μ : kr_M} {r : Int32} (h : ((¬ r = 0 → kr_c (d + 5) i_D_nameIs [.ref 13, .ref 92] μ (kr_bk (kr_Wp C_D_nextRoof (kr_c (d + 5)) Q) 15 [some (.ref 13)] [])) ∧ (r = 0 → Q (some (.int 0)) μ))) : kr_Wp C_D_nextRoof (kr_c (d + 5)) Q 4 [some (.ref 13)] [.int r] μ := (st_D_nextRoof (And.intro (fun z1x => (st_D_nextRoof (st_D_nextRoof (st_D_nextRoof (And.intro rfl (h.1 z1x)))))) (fun z1x => (st_D_nextRoof (st_D_nextRoof (And.intro (by decide) (h.2 (Decidable.not_not.mp z1x))))))))
theorem v_D_nextRoof_15 {d : Nat} {Q : kr_Q} {μ : kr_M} {r : Int32} (h : ((r = 0 → (((μ.1 13 6) = 3 → Q (some (.int 1)) μ) ∧ (¬ ((μ.1 13 6) = 3) → kr_c (d + 5) i_D_fail [.ref 13, .int 2, .int (μ.1 13 7)] μ (kr_bk (kr_Wp C_D_nextRoof (kr_c (d + 5)) Q) 67 [some (.ref 13)] [])))) ∧ (¬ (r = 0) → kr_c (d + 5) i_D_nextToken [.ref 13] (kr_u μ 14 7 ((μ.1 14 7) ||| ((1 : Int32) <<< (((μ.1 14 2) - (1 : Int32)) &&& 31)))) (kr_bk (kr_Wp C_D_nextRoof (kr_c (d + 5)) Q) 45 [some (.ref 13)] [])))) : kr_Wp C_D_nextRoof (kr_c (d + 5)) Q 15 [some (.ref 13)] [.int r] μ := (st_D_nextRoof (And.intro (fun z1x => (st_D_nextRoof (st_D_nextRoof (And.intro rfl (st_D_nextRoof (st_D_nextRoof (And.intro (fun z2x => (st_D_nextRoof (st_D_nextRoof (st_D_nextRoof (And.intro (by decide) ((h.1 z1x).1 z2x)))))) (fun z2x => (st_D_nextRoof (st_D_nextRoof (st_D_nextRoof (st_D_nextRoof (And.intro rfl (st_D_nextRoof (And.intro rfl ((h.1 z1x).2 z2x)))))))))))))))) (fun z1x => (st_D_nextRoof (st_D_nextRoof (And.intro rfl (st_D_nextRoof (st_D_nextRoof (And.intro rfl (st_D_nextRoof (st_D_nextRoof (st_D_nextRoof (And.intro rfl (st_D_nextRoof (And.intro rfl (st_D_nextRoof (st_D_nextRoof (st_D_nextRoof (st_D_nextRoof (st_D_nextRoof (And.intro rfl (st_D_nextRoof (st_D_nextRoof (And.intro rfl (h.2 z1x)))))))))))))))))))))))))
theorem v_D_nextRoof_67 {d : Nat} {Q : kr_Q} {μ : kr_M} {r : Int32} (h : ((r = 0 → Q (some (.int 0)) μ) ∧ (¬ (r = 0) → Q (some (.int 1)) μ))) : kr_Wp C_D_nextRoof (kr_c (d + 5)) Q 67 [some (.ref 13)] [.int r] μ := (st_D_nextRoof (And.intro (fun z1x => (st_D_nextRoof (st_D_nextRoof (And.intro (by decide) (h.1 z1x))))) (fun z1x => (st_D_nextRoof (st_D_nextRoof (st_D_nextRoof (And.intro (by decide) (h.2 z1x))))))))
theorem v_D_nextRoof_45 {d : Nat} {Q : kr_Q} {μ : kr_M} {r : Int32} (h : ((¬ r = 0 → (((μ.1 13 6) = 3 → Q (some (.int 1)) μ) ∧ (¬ ((μ.1 13 6) = 3) → kr_c (d + 5) i_D_fail [.ref 13, .int 2, .int (μ.1 13 7)] μ (kr_bk (kr_Wp C_D_nextRoof (kr_c (d + 5)) Q) 67 [some (.ref 13)] [])))) ∧ (r = 0 → Q (some (.int 0)) μ))) : kr_Wp C_D_nextRoof (kr_c (d + 5)) Q 45 [some (.ref 13)] [.int r] μ := (st_D_nextRoof (And.intro (fun z1x => (st_D_nextRoof (st_D_nextRoof (And.intro rfl (st_D_nextRoof (st_D_nextRoof (And.intro (fun z2x => (st_D_nextRoof (st_D_nextRoof (st_D_nextRoof (And.intro (by decide) ((h.1 z1x).1 z2x)))))) (fun z2x => (st_D_nextRoof (st_D_nextRoof (st_D_nextRoof (st_D_nextRoof (And.intro rfl (st_D_nextRoof (And.intro rfl ((h.1 z1x).2 z2x)))))))))))))))) (fun z1x => (st_D_nextRoof (st_D_nextRoof (And.intro (by decide) (h.2 (Decidable.not_not.mp z1x))))))))
section
variable {d : Nat} {Q : kr_Q} {μ : kr_M} {n : Nat} {b : Nat → Nat} {g t : Nat → Nat} {P D K : Nat}
/-- nothing but the Reader at 13 and the Rock that is told changes -/
def kr_fD (μ μ' : kr_M) : Prop := (∀ o, (o < 13 ∨ 23 < o) → μ'.1 o = μ.1 o) ∧ (∀ o, o ≠ 14 → μ'.2 o = μ.2 o) ∧ μ'.1 13 2 = μ.1 13 2
theorem kr_fD.rf (μ : kr_M) : kr_fD μ μ := ⟨fun _ _ => rfl, fun _ _ => rfl, rfl⟩
theorem kr_fD.tr {μ' μ'' : kr_M} (h : kr_fD μ μ') (h' : kr_fD μ' μ'') : kr_fD μ μ'' := ⟨fun o ho => (h'.1 o ho).trans (h.1 o ho), fun o ho => (h'.2.1 o ho).trans (h.2.1 o ho), h'.2.2.trans h.2.2⟩
theorem kr_fD.u {μ' : kr_M} (h : kr_fD μ μ') {o j : Nat} (v : Int32) (ho : (14 ≤ o ∧ o ≤ 23) ∨ (o = 13 ∧ j ≠ 2)) : kr_fD μ (kr_u μ' o j v) := ⟨fun a ha => by rw [kr_u_n _ _ _ (by omega)]; exact h.1 a ha, h.2.1, by
  by_cases e : o = 13
  · subst e
    rw [kr_u_s, kr_upd_n _ _ (by omega)]; exact h.2.2
  · rw [kr_u_n _ _ _ (by omega)]; exact h.2.2⟩
theorem kr_fD.kp {μ' : kr_M} {F : List (Nat × Nat)} (h : kr_keep [] F μ μ') (hF : ∀ q ∈ F, q.1 = 13 ∧ q.2 ≠ 2) : kr_fD μ μ' := ⟨fun o ho => h.row (by simp) (fun q hq z => by have := (hF q hq).1; omega), fun o _ => by rw [h.1], h.2 13 2 (by simp) (fun z => (hF _ z).2 rfl)⟩
def kr_Ro (μ : kr_M) (D : kp_D) : Prop := kr_Rg μ 14 D.1 D.2.1.1 D.2.1.2.1 D.2.1.2.2 D.2.2.1 ∧ μ.1 13 5 = nI D.2.2.2.toNat ∧ μ.1 13 3 = 0 ∧ kp_pw D
def kr_DS (μ : kr_M) (n : Nat) (b : Nat → Nat) (p : Nat) (D : kp_D) : Prop := p ≤ n ∧ μ.1 13 8 = nI p ∧ kr_Ro μ D
theorem kr_Ro.kp {μ' : kr_M} {E : kp_D} (h : kr_Ro μ E) (k : kr_keep [] kr_dT μ μ') : kr_Ro μ' E := by
  refine ⟨h.1.mem (fun a h1 h2 => k.row (by simp) (fun q hq z => ?_)) (by rw [k.1]), by rw [k.2 13 5 (by decide) (by decide)]; exact h.2.1, by rw [k.2 13 3 (by decide) (by decide)]; exact h.2.2.1, h.2.2.2⟩
  have : ∀ q ∈ kr_dT, q.1 = 13 := by decide
  have := this q hq
  omega
theorem kr_TC.fD {μ' : kr_M} (h : kr_TC μ n b) (k : kr_fD μ μ') : kr_TC μ' n b := by
  unfold kr_TC
  rw [k.1 11 (by decide), k.1 12 (by decide)]
  exact h
/-- what a line of the text leads to -/
def kr_out (Q : kr_Q) (μ : kr_M) (n : Nat) (b : Nat → Nat) (x : kp_L) : Prop := (∀ p' D', x = .inr (p', D') → ∀ μ', kr_fD μ μ' → kr_DS μ' n b p' D' → Q (some (.int 1)) μ') ∧ (∀ c w, x = .inl (c, w) → ∀ μ', kr_fD μ μ' → kr_DF μ' c w → Q (some (.int 0)) μ')
theorem kr_out.tr {μ' : kr_M} {x : kp_L} (h : kr_out Q μ n b x) (k : kr_fD μ μ') : kr_out Q μ' n b x := ⟨fun p D e μ'' hf => h.1 p D e μ'' (k.tr hf), fun c w e μ'' hf => h.2 c w e μ'' (k.tr hf)⟩
theorem kr_out.bad {x : kp_L} {c w : Nat} (h : kr_out Q μ n b x) (e : x = .inl (c, w)) : Q (some (.int 0)) (kr_u (kr_u μ 13 3 (nI c)) 13 4 (nI w)) :=
  h.2 c w e _ (((kr_fD.rf μ).u _ (by omega)).u _ (by omega)) ⟨rfl, rfl⟩
theorem kr_fDT : ∀ q ∈ kr_dT, q.1 = 13 ∧ q.2 ≠ 2 := by decide
theorem kr_fDF : ∀ q ∈ kr_dF, q.1 = 13 ∧ q.2 ≠ 2 := by decide
theorem c_D_fin {E : kp_D} {p : Nat} (hT : kr_TC μ n b) (hw : kx_tw n b) (hp : p ≤ n) (h8 : μ.1 13 8 = nI p) (hR : kr_Ro μ E) (k : kr_out Q μ n b (kp_fin n b p E)) : kr_c (d + 3) i_D_nextSign [.ref 13] μ Q := by
  refine c_D_nextSign hT hw hp h8 (fun s hs μ' hk h => ?_) (fun c w hs μ' hk h => ?_)
  · exact k.1 (kt_e n b s) E (kp_bd_r hs) μ' (kr_fD.kp hk kr_fDT) ⟨(kp_sg_r hp hs).2.2.1, h, hR.kp hk⟩
  · exact k.2 c w (kp_bd_l hs) μ' (kr_fD.kp hk kr_fDF) h
theorem c_D_readPoints {E : kp_D} {s : Nat} (hT : kr_TC μ n b) (hw : kx_tw n b) (hs : kt_e n b s ≤ n) (h7 : μ.1 13 7 = nI s) (h8 : μ.1 13 8 = nI (kt_e n b s)) (hR : kr_Ro μ E) (k : kr_out Q μ n b (kp_points n b s E)) : kr_c (d + 4) i_D_readPoints [.ref 13] μ Q := by
  obtain ⟨g, ⟨P, D, K⟩, t, hp⟩ := E
  refine v_D_readPoints ?_
  unfold kp_points at k
  rw [hR.2.1]
  cases hp with
  | true =>
    rw [if_pos rfl] at k
    refine br_f (by show ¬ nI 1 = 0; decide) (v_D_fail (d := d + 2) (v_D_readPoints_16 ⟨Or.inl rfl, ?_⟩))
    rw [h7]
    exact k.bad rfl
  | false =>
    rw [if_neg (by simp)] at k
    have f1 : kr_fD μ (kr_u μ 13 5 1) := (kr_fD.rf μ).u _ (by omega)
    have k := k.tr f1
    refine br_t rfl (c_D_nextNumber (lo := 2) (hi := 9) (hT.fD f1) hw hs (by decide) (by decide) h8 (fun a ha μ2 hk2 h2 => v_D_readPoints_29 ⟨fun _ => ?_, fun z => absurd z (by decide)⟩) (fun c w ha μ2 hk2 h2 => v_D_readPoints_29 ⟨fun z => absurd rfl z, fun _ => ?_⟩))
    · obtain ⟨i1, i2, i3, i4, i5, i6⟩ := kp_nm_r hs ha
      rw [h2.2.2]
      have f2 := kr_fD.kp hk2 kr_fDT
      have f3 : kr_fD μ2 (kr_u μ2 14 0 (nI (kt_v n b a))) := (kr_fD.rf μ2).u _ (by omega)
      rw [kp_bd_r ha] at k
      have k := (k.tr f2).tr f3
      refine c_D_fin (((hT.fD f1).fD f2).fD f3) hw i3 h2.2.1 ?_ (p := kt_e n b a) (E := (g, (kt_v n b a, D, K), t, true)) ⟨fun p' D' e μ' hf h => v_D_readPoints_49 ⟨Or.inr rfl, k.1 p' D' e μ' hf h⟩, fun c w e μ' hf h => v_D_readPoints_49 ⟨Or.inl rfl, k.2 c w e μ' hf h⟩⟩
      obtain ⟨r1, r2, r3, r4⟩ := hR
      have r1' : kr_Rg μ2 14 g P D K t := r1.mem (fun o h1 h3 => by rw [hk2.row (by simp) (fun q hq z => by have := (kr_fDT q hq).1; omega), kr_u_n _ _ _ (by omega)]) (by rw [hk2.1]; rfl)
      obtain ⟨⟨a1, a2, a3, a4, a5, a6⟩, rest⟩ := r1'
      refine ⟨⟨⟨rfl, a2, a3, a4, a5, a6⟩, rest⟩, ?_, ?_, r4.1, i5, i6, r4.2.2.2⟩
      · show μ2.1 13 5 = _
        rw [hk2.2 13 5 (by decide) (by decide)]; rfl
      · show μ2.1 13 3 = _
        rw [hk2.2 13 3 (by decide) (by decide)]; exact r3
    · exact k.2 c w (kp_bd_l ha) μ2 (kr_fD.kp hk2 kr_fDF) h2
theorem c_D_readHouse {E : kp_D} {s : Nat} (hT : kr_TC μ n b) (hw : kx_tw n b) (hs : kt_e n b s ≤ n) (h8 : μ.1 13 8 = nI (kt_e n b s)) (hR : kr_Ro μ E) (k : kr_out Q μ n b (kp_house n b s E)) : kr_c (d + 4) i_D_readHouse [.ref 13] μ Q := by
  obtain ⟨g, ⟨P, D, K⟩, t, hp⟩ := E
  refine v_D_readHouse ?_
  unfold kp_house at k
  refine c_D_nextNumber (lo := 0) (hi := 8) hT hw hs (by decide) (by decide) h8 (fun a ha μ2 hk2 h2 => v_D_readHouse_7 ⟨fun _ => ?_, fun z => absurd z (by decide)⟩) (fun c w ha μ2 hk2 h2 => v_D_readHouse_7 ⟨fun z => absurd rfl z, fun _ => k.2 c w (kp_bd_l ha) μ2 (kr_fD.kp hk2 kr_fDF) h2⟩)
  obtain ⟨i1, i2, i3, i4, i5, i6⟩ := kp_nm_r hs ha
  have f2 := kr_fD.kp hk2 kr_fDT
  have hR2 := hR.kp hk2
  have k := k.tr f2
  rw [kp_bd_r ha] at k
  obtain ⟨r1, r2, r3, r4⟩ := hR2
  have h61 : g 61 < 512 := r4.1.2.2.1
  have e1 : μ2.1 14 1 = nI (g 61) := r1.1.2.1
  rw [h2.2.2, h2.1, e1, kr_bit0 (by omega) (by omega)]
  refine ⟨fun c => ?_, fun c => v_D_fail (d := d + 2) (v_D_readHouse_35 ⟨Or.inl rfl, ?_⟩)⟩
  · have c : (g 61).testBit (kt_v n b a) = false := by
      have := Decidable.not_not.mp c
      exact this
    rw [if_neg (by rw [c]; simp)] at k
    refine v_R_setHouse14 (d := d + 2) ⟨fun z => absurd z (by decide), fun _ => v_D_readHouse_48 ?_⟩
    rw [e1, kr_1sh _ (by omega), kr_or]
    have f3 : kr_fD μ2 (kr_u μ2 14 1 (nI (g 61 ||| 2 ^ kt_v n b a))) := (kr_fD.rf μ2).u _ (by omega)
    have k := k.tr f3
    refine c_D_fin ((hT.fD f2).fD f3) hw i3 h2.2.1 ?_ (p := kt_e n b a) (E := (kx_un g 61 (g 61 ||| 2 ^ kt_v n b a), (P, D, K), t, hp)) ⟨fun p' D' e μ' hf h => v_D_readHouse_52 ⟨Or.inr rfl, k.1 p' D' e μ' hf h⟩, fun c w e μ' hf h => v_D_readHouse_52 ⟨Or.inl rfl, k.2 c w e μ' hf h⟩⟩
    refine ⟨r1.house14 r4.1, r2, r3, kz_wf_build r4.1 (Nat.or_lt_two_pow (n := 9) h61 (Nat.pow_lt_pow_right (by decide) (by omega))), r4.2.1, r4.2.2.1, ?_⟩
    show kx_un g 61 (g 61 ||| 2 ^ kt_v n b a) 108 = 0
    rw [kx_un_n _ _ (by decide)]; exact r4.2.2.2
  · rw [if_pos (by
      apply Decidable.byContradiction
      intro z
      exact c (by simpa using z))] at k
    exact k.bad rfl
theorem c_D_readDrawer {E : kp_D} {s : Nat} (hT : kr_TC μ n b) (hw : kx_tw n b) (hs : kt_e n b s ≤ n) (h7 : μ.1 13 7 = nI s) (h8 : μ.1 13 8 = nI (kt_e n b s)) (hR : kr_Ro μ E) (k : kr_out Q μ n b (kp_drawer n b s E)) : kr_c (d + 4) i_D_readDrawer [.ref 13] μ Q := by
  obtain ⟨g, ⟨P, D, K⟩, t, hp⟩ := E
  have hD5 : D ≤ 5 := hR.2.2.2.1.1.2.2.2.1
  refine v_D_readDrawer ?_
  unfold kp_drawer at k
  have e8 : μ.1 14 8 = nI D := hR.1.1.2.2.2.1
  rw [e8, show (5 : Int32) = nI 5 from rfl, nI_ltI (by omega) (by decide), h7]
  refine ⟨fun c5 => ?_, fun c5 => v_D_fail (d := d + 2) (v_D_readDrawer_20 ⟨Or.inl rfl, by rw [if_pos (show 5 ≤ D by omega)] at k; exact k.bad rfl⟩)⟩
  rw [if_neg (show ¬ 5 ≤ D by omega)] at k
  refine c_D_nextNumber (lo := 0) (hi := 50) hT hw hs (by decide) (by decide) h8 (fun a ha μ2 hk2 h2 => v_D_readDrawer_28 ⟨fun _ => ?_, fun z => absurd z (by decide)⟩) (fun c w ha μ2 hk2 h2 => v_D_readDrawer_28 ⟨fun z => absurd rfl z, fun _ => k.2 c w (kp_bd_l ha) μ2 (kr_fD.kp hk2 kr_fDF) h2⟩)
  obtain ⟨i1, i2, i3, i4, i5, i6⟩ := kp_nm_r hs ha
  have f2 := kr_fD.kp hk2 kr_fDT
  obtain ⟨r1, r2, r3, r4⟩ := hR.kp hk2
  rw [kp_bd_r ha] at k
  have e82 : μ2.1 14 8 = nI D := r1.1.2.2.2.1
  refine v_R_addDrawer14 (d := d + 2) ?_
  rw [e82, h2.2.2, nI_clamp (by omega), kr_n1]
  refine br_f (nI_ge (b := 5) c5 (by decide)) ⟨vp_in_nI c5 (by decide), v_D_readDrawer_44 ?_⟩
  have f3 : kr_fD μ2 (kr_u (kr_u μ2 19 D (nI (kt_v n b a))) 14 8 (nI (D + 1))) := ((kr_fD.rf μ2).u _ (by omega)).u _ (by omega)
  have k := (k.tr f2).tr f3
  refine c_D_fin ((hT.fD f2).fD f3) hw i3 h2.2.1 ?_ (p := kt_e n b a) (E := (kx_un g (62 + D) (kt_v n b a), (P, D + 1, K), t, hp)) ⟨fun p' D' e μ' hf h => v_D_readDrawer_48 ⟨Or.inr rfl, k.1 p' D' e μ' hf h⟩, fun c w e μ' hf h => v_D_readDrawer_48 ⟨Or.inl rfl, k.2 c w e μ' hf h⟩⟩
  refine ⟨?_, r2, r3, kz_wf_dr r4.1 c5 i6, r4.2.1, r4.2.2.1, ?_⟩
  · have hw2 := r4.1
    obtain ⟨⟨n12, -, -, d5, -⟩, -, -, -, -, -, h8', -⟩ := hw2
    obtain ⟨⟨a1, a2, a3, a4, a5, a6⟩, bb, r, h6, h7', hl, h10, c, c1, c2, c3⟩ := r1
    have hn : ∀ j, j ≠ 62 + D → kx_un g (62 + D) (kt_v n b a) j = g j := fun j hj => kx_un_n _ _ hj
    have n12 : g 0 ≤ 12 := n12
    have h8' : g 108 ≤ 8 := h8'
    have gk : ∀ l w, l < g 0 → w < 5 → kr_gk (kx_un g (62 + D) (kt_v n b a)) l w = kr_gk g l w := fun l w hl h1 => hn _ (by omega)
    have g0 := hn 0 (by omega)
    have g108 := hn 108 (by omega)
    refine ⟨⟨a1, ?_, ?_, rfl, a5, ?_⟩, fun l hl => ?_, ?_, fun d hd => ?_, h7', ?_, fun m hm => ?_, c, c1, c2, fun m hm => ?_⟩
    · show μ2.1 14 1 = nI (kx_un g (62 + D) (kt_v n b a) 61)
      rw [hn 61 (by omega)]; exact a2
    · show μ2.1 14 2 = nI (kx_un g (62 + D) (kt_v n b a) 0)
      rw [g0]; exact a3
    · show μ2.1 14 15 = nI (kx_un g (62 + D) (kt_v n b a) 108)
      rw [g108]; exact a6
    · have hl : l < kx_un g (62 + D) (kt_v n b a) 0 := hl
      rw [g0] at hl
      show _ = nI (kr_gk (kx_un g (62 + D) (kt_v n b a)) l 0) ∧ _ = nI (kr_gk (kx_un g (62 + D) (kt_v n b a)) l 1) ∧ _ = nI (kr_gk (kx_un g (62 + D) (kt_v n b a)) l 2) ∧ _ = nI (kr_gk (kx_un g (62 + D) (kt_v n b a)) l 3)
      rw [gk l 0 hl (by decide), gk l 1 hl (by decide), gk l 2 hl (by decide), gk l 3 hl (by decide)]
      exact bb l hl
    · show μ2.1 14 7 = nI (kr_bm (kx_un g (62 + D) (kt_v n b a) 0) (fun l => kr_gk (kx_un g (62 + D) (kt_v n b a)) l 4 == 1))
      rw [r, g0]
      exact congrArg nI (kr_bm_congr (fun l hl => by rw [gk l 4 hl (by decide)]))
    · show upd (μ2.1 19) D (nI (kt_v n b a)) d = nI (kx_un g (62 + D) (kt_v n b a) (62 + d))
      by_cases ed : d = D
      · rw [ed, kr_upd_s, kx_un_s]
      · rw [kr_upd_n _ _ ed, hn _ (by omega)]
        have hd : d < D + 1 := hd
        exact h6 d (show d < D by omega)
    · show μ2.2 14 = _
      rw [hl]
      exact congrArg lN (kr_bm_congr (fun q hq => by
        show _ = (decide (1 ≤ q) && kx_un g (62 + D) (kt_v n b a) (67 + q) == 1)
        rw [hn (67 + q) (by omega)]))
    · have hm : m < kx_un g (62 + D) (kt_v n b a) 108 := hm
      rw [g108] at hm
      show μ2.1 23 m = nI (kx_un g (62 + D) (kt_v n b a) (109 + 2 * m))
      rw [hn _ (by omega)]; exact h10 m hm
    · have hm : m < kx_un g (62 + D) (kt_v n b a) 108 := hm
      rw [g108] at hm
      show c.testBit m = (kx_un g (62 + D) (kt_v n b a) (110 + 2 * m) == 1)
      rw [hn _ (by omega)]; exact c3 m hm
  · show kx_un g (62 + D) (kt_v n b a) 108 = 0
    rw [kx_un_n _ _ (by omega)]; exact r4.2.2.2
theorem c_D_readOne {E : kp_D} {s : Nat} (hT : kr_TC μ n b) (hw : kx_tw n b) (hs : kt_e n b s ≤ n) (h7 : μ.1 13 7 = nI s) (h8 : μ.1 13 8 = nI (kt_e n b s)) (hR : kr_Ro μ E) (k : kr_out Q μ n b (kp_one n b s E)) : kr_c (d + 4) i_D_readOne [.ref 13] μ Q := by
  obtain ⟨g, ⟨P, D, K⟩, t, hp⟩ := E
  have hK5 : K ≤ 5 := hR.2.2.2.1.1.2.2.2.2
  refine v_D_readOne ?_
  unfold kp_one at k
  have e10 : μ.1 14 10 = nI K := hR.1.1.2.2.2.2.1
  rw [e10, show (5 : Int32) = nI 5 from rfl, nI_ltI (by omega) (by decide), h7]
  refine ⟨fun c5 => ?_, fun c5 => v_D_fail (d := d + 2) (v_D_readOne_20 ⟨Or.inl rfl, by rw [if_pos (show 5 ≤ K by omega)] at k; exact k.bad rfl⟩)⟩
  rw [if_neg (show ¬ 5 ≤ K by omega)] at k
  refine c_D_nextNumber (lo := 0) (hi := 8) hT hw hs (by decide) (by decide) h8 (fun a ha μ2 hk2 h2 => v_D_readOne_28 ⟨fun _ => ?_, fun z => absurd z (by decide)⟩) (fun c w ha μ2 hk2 h2 => v_D_readOne_28 ⟨fun z => absurd rfl z, fun _ => k.2 c w (kp_bd_l ha) μ2 (kr_fD.kp hk2 kr_fDF) h2⟩)
  obtain ⟨i1, i2, i3, i4, i5, i6⟩ := kp_nm_r hs ha
  have f2 := kr_fD.kp hk2 kr_fDT
  rw [kp_bd_r ha] at k
  have k := k.tr f2
  rw [h2.2.2]
  refine c_D_nextNumber (lo := 0) (hi := 8) (hT.fD f2) hw i3 (by decide) (by decide) h2.2.1 (fun a2 ha2 μ3 hk3 h3 => v_D_readOne_45 ⟨fun _ => ?_, fun z => absurd z (by decide)⟩) (fun c w ha2 μ3 hk3 h3 => v_D_readOne_45 ⟨fun z => absurd rfl z, fun _ => k.2 c w (kp_bd_l ha2) μ3 (kr_fD.kp hk3 kr_fDF) h3⟩)
  obtain ⟨j1, j2, j3, j4, j5, j6⟩ := kp_nm_r i3 ha2
  have f3 := kr_fD.kp hk3 kr_fDT
  rw [kp_bd_r ha2] at k
  have k := k.tr f3
  rw [h3.2.2, h3.1, nI_eq (by omega) (by omega)]
  refine ⟨fun cne => ?_, fun cne => v_D_fail (d := d + 2) (v_D_readOne_69 ⟨Or.inl rfl, by rw [if_pos cne] at k; exact k.bad rfl⟩)⟩
  rw [if_neg cne] at k
  refine c_D_nextNumber (lo := 0) (hi := 40) ((hT.fD f2).fD f3) hw j3 (by decide) (by decide) h3.2.1 (fun a3 ha3 μ4 hk4 h4 => v_D_readOne_77 ⟨fun _ => ?_, fun z => absurd z (by decide)⟩) (fun c w ha3 μ4 hk4 h4 => v_D_readOne_77 ⟨fun z => absurd rfl z, fun _ => k.2 c w (kp_bd_l ha3) μ4 (kr_fD.kp hk4 kr_fDF) h4⟩)
  obtain ⟨l1, l2, l3, l4, l5, l6⟩ := kp_nm_r j3 ha3
  have f4 := kr_fD.kp hk4 kr_fDT
  rw [kp_bd_r ha3] at k
  have k := k.tr f4
  obtain ⟨r1, r2, r3, r4⟩ := ((hR.kp hk2).kp hk3).kp hk4
  have e104 : μ4.1 14 10 = nI K := r1.1.2.2.2.2.1
  refine v_R_addOne14 (d := d + 2) ?_
  rw [e104, h4.2.2, nI_clamp (by omega), kr_n1]
  have v5 : vp_in (nI K) 5 := vp_in_nI c5 (by decide)
  refine br_f (nI_ge (b := 5) c5 (by decide)) ⟨v5, v5, v5, v_D_readOne_95 ?_⟩
  have f5 : kr_fD μ4 (kr_u (kr_u (kr_u (kr_u μ4 20 K (nI (kt_v n b a))) 21 K (nI (kt_v n b a2))) 22 K (nI (kt_v n b a3))) 14 10 (nI (K + 1))) := ((((kr_fD.rf μ4).u _ (by omega)).u _ (by omega)).u _ (by omega)).u _ (by omega)
  have k := k.tr f5
  refine c_D_fin ((((hT.fD f2).fD f3).fD f4).fD f5) hw l3 h4.2.1 ?_ (p := kt_e n b a3) (E := (g, (P, D, K + 1), kz_on t K (kt_v n b a) (kt_v n b a2) (kt_v n b a3), hp)) ⟨fun p' D' e μ' hf h => v_D_readOne_99 ⟨Or.inr rfl, k.1 p' D' e μ' hf h⟩, fun c w e μ' hf h => v_D_readOne_99 ⟨Or.inl rfl, k.2 c w e μ' hf h⟩⟩
  refine ⟨?_, r2, r3, kz_wf_on r4.1 c5 (by omega) (by omega) cne l6, r4.2.1, r4.2.2.1, r4.2.2.2⟩
  obtain ⟨⟨a1, a2', a3', a4, a5, a6⟩, bb, r, h6, h7', hl, h10, c, c1, c2, c3⟩ := r1
  refine ⟨⟨a1, a2', a3', a4, rfl, a6⟩, bb, r, h6, fun p hp => ?_, hl, h10, c, c1, c2, c3⟩
  have hp : p < K + 1 := hp
  obtain ⟨q0, q1, q2⟩ := kz_on_s (t := t) (K := K) (a := kt_v n b a) (b' := kt_v n b a2) (q := kt_v n b a3)
  show upd (μ4.1 20) K (nI (kt_v n b a)) p = nI (kz_on t K (kt_v n b a) (kt_v n b a2) (kt_v n b a3) (3 * p)) ∧ upd (μ4.1 21) K (nI (kt_v n b a2)) p = nI (kz_on t K (kt_v n b a) (kt_v n b a2) (kt_v n b a3) (3 * p + 1)) ∧ upd (μ4.1 22) K (nI (kt_v n b a3)) p = nI (kz_on t K (kt_v n b a) (kt_v n b a2) (kt_v n b a3) (3 * p + 2))
  by_cases ep : p = K
  · rw [ep, kr_upd_s, kr_upd_s, kr_upd_s, q0, q1, q2]
    exact ⟨rfl, rfl, rfl⟩
  · have e0 := kz_on_l (t := t) (K := K) (a := kt_v n b a) (b' := kt_v n b a2) (q := kt_v n b a3) (p := p) (w := 0) (by omega) (by decide)
    rw [Nat.add_zero] at e0
    rw [kr_upd_n _ _ ep, kr_upd_n _ _ ep, kr_upd_n _ _ ep, e0, kz_on_l (by omega) (by decide), kz_on_l (by omega) (by decide)]
    exact h7' p (show p < K by omega)
theorem c_D_readRain {E : kp_D} {s : Nat} (hT : kr_TC μ n b) (hw : kx_tw n b) (hs : kt_e n b s ≤ n) (h8 : μ.1 13 8 = nI (kt_e n b s)) (hR : kr_Ro μ E) (k : kr_out Q μ n b (kp_rain n b s E)) : kr_c (d + 4) i_D_readRain [.ref 13] μ Q := by
  obtain ⟨g, ⟨P, D, K⟩, t, hp⟩ := E
  refine v_D_readRain ?_
  unfold kp_rain at k
  refine c_D_nextNumber (lo := 1) (hi := 40) hT hw hs (by decide) (by decide) h8 (fun a ha μ2 hk2 h2 => v_D_readRain_7 ⟨fun _ => ?_, fun z => absurd z (by decide)⟩) (fun c w ha μ2 hk2 h2 => v_D_readRain_7 ⟨fun z => absurd rfl z, fun _ => k.2 c w (kp_bd_l ha) μ2 (kr_fD.kp hk2 kr_fDF) h2⟩)
  obtain ⟨i1, i2, i3, i4, i5, i6⟩ := kp_nm_r hs ha
  have f2 := kr_fD.kp hk2 kr_fDT
  obtain ⟨r1, r2, r3, r4⟩ := hR.kp hk2
  rw [kp_bd_r ha] at k
  have k := k.tr f2
  have hrb : kx_rb g < 2 ^ 41 := kr_bm_lt _ _
  have hB : μ2.2 14 = lN (kx_rb g) := r1.2.2.2.2.2.1
  rw [h2.2.2]
  refine v_R_rainsIn14 (d := d + 1) ⟨fun z => absurd z (fun y => y ?_), fun _ => ?_⟩
  · rw [show (1 : Int32) = nI 1 from rfl, show (40 : Int32) = nI 40 from rfl, nI_leI (by decide) (by omega), nI_leI (by omega) (by decide)]
    omega
  rw [kl_cmp0, hB, kl_bit (by omega) (by omega)]
  have hbit : (kx_rb g).testBit (kt_v n b a) = (g (67 + kt_v n b a) == 1) := by
    unfold kx_rb
    rw [kr_bm_bit, show decide (kt_v n b a < 41) = true from decide_eq_true (by omega), show decide (1 ≤ kt_v n b a) = true from decide_eq_true (by omega), Bool.true_and, Bool.true_and]
  rw [hbit]
  refine ⟨fun c => v_D_readRain_23 (br_t rfl ?_), fun c => v_D_readRain_23 (br_f (by decide) (v_D_fail (d := d + 2) (v_D_readRain_35 ⟨Or.inl rfl, ?_⟩)))⟩
  · have c : ¬ g (67 + kt_v n b a) = 1 := by simpa using c
    rw [if_neg c] at k
    rw [h2.2.2]
    refine v_R_setRain14 (d := d + 2) ⟨fun z => absurd z (by decide), fun _ => v_D_readRain_48 ?_⟩
    rw [hB, kl_1sh _ (by omega), kl_or]
    have f3 : kr_fD μ2 (kr_uL μ2 14 (lN (kx_rb g ||| 2 ^ kt_v n b a))) := ⟨fun _ _ => rfl, fun o ho => kr_uL_n _ _ ho, rfl⟩
    have k := k.tr f3
    refine c_D_fin ((hT.fD f2).fD f3) hw i3 h2.2.1 ?_ (p := kt_e n b a) (E := (kx_un g (67 + kt_v n b a) 1, (P, D, K), t, hp)) ⟨fun p' D' e μ' hf h => v_D_readRain_52 ⟨Or.inr rfl, k.1 p' D' e μ' hf h⟩, fun c w e μ' hf h => v_D_readRain_52 ⟨Or.inl rfl, k.2 c w e μ' hf h⟩⟩
    refine ⟨r1.rain14 r4.1 i6 (kz_rb_set i5 i6), r2, r3, kz_wf_cloud r4.1 (by omega) (Nat.le_refl 1), r4.2.1, r4.2.2.1, ?_⟩
    show kx_un g (67 + kt_v n b a) 1 108 = 0
    rw [kx_un_n _ _ (by omega)]; exact r4.2.2.2
  · have c : g (67 + kt_v n b a) = 1 := by simpa using c
    rw [if_pos c] at k
    rw [h2.1]
    exact k.bad rfl
theorem c_D_nextRoof {E E1 : kp_D} {p : Nat} (hT : kr_TC μ n b) (hw : kx_tw n b) (hp : p ≤ n) (h8 : μ.1 13 8 = nI p) (hR : kr_Ro μ E) (hR1 : ∀ μ', kr_Ro μ' E → kr_Ro (kr_u μ' 14 7 ((μ'.1 14 7) ||| ((1 : Int32) <<< (((μ'.1 14 2) - (1 : Int32)) &&& 31)))) E1) (k : kr_out Q μ n b (kp_roof n b p E E1)) : kr_c (d + 6) i_D_nextRoof [.ref 13] μ Q := by
  unfold kp_roof at k
  refine v_D_nextRoof (c_D_nextToken (d := d + 3) hT hw hp h8 (fun s hs μ2 hk2 h2 => v_D_nextRoof_4 ⟨fun _ => ?_, fun z => absurd z (by decide)⟩) (fun s hs μ2 hk2 h2 => v_D_nextRoof_4 ⟨fun z => absurd rfl z, fun _ => k.2 1 s (kp_bd_l hs) μ2 (kr_fD.kp hk2 kr_fDF) h2⟩))
  obtain ⟨n1, n2, n3⟩ := kt_nx_r hp hs
  obtain ⟨t1, t2, t3, t4⟩ := h2
  have f2 := kr_fD.kp hk2 kr_fDT
  have hT2 := hT.fD f2
  have hR2 := hR.kp hk2
  rw [kp_bd_r hs] at k
  have k := k.tr f2
  have hkb : kt_k n b s ≤ 4 := by unfold kt_k; split; omega; split; omega; split; omega; split <;> omega
  refine c_D_nameIs (j := 6) hT2 hw n2 n3 (by decide) t2 t3 (v_D_nextRoof_15 ?_)
  by_cases c6 : kt_is n b s 6 = true
  · rw [if_pos c6] at k
    rw [if_pos c6]
    obtain ⟨q1, q2, q3, -⟩ := kt_is_1 (by decide) n3 c6
    obtain ⟨e1, e2, e3⟩ := kt_e_1 (Or.inl q1)
    refine br_f (by decide) ?_
    have hR3 := hR1 μ2 hR2
    have f3 : kr_fD μ2 (kr_u μ2 14 7 ((μ2.1 14 7) ||| ((1 : Int32) <<< (((μ2.1 14 2) - (1 : Int32)) &&& 31)))) := (kr_fD.rf μ2).u _ (by omega)
    have k := k.tr f3
    have h83 : (kr_u μ2 14 7 ((μ2.1 14 7) ||| ((1 : Int32) <<< (((μ2.1 14 2) - (1 : Int32)) &&& 31)))).1 13 8 = nI (kt_e n b s) := t3
    generalize kr_u μ2 14 7 ((μ2.1 14 7) ||| ((1 : Int32) <<< (((μ2.1 14 2) - (1 : Int32)) &&& 31))) = μ3 at *
    refine c_D_nextToken (d := d + 3) (hT2.fD f3) hw e3 ?_ (fun z hz μ4 hk4 h4 => v_D_nextRoof_45 ⟨fun _ => ?_, fun y => absurd y (by decide)⟩) (fun z hz μ4 hk4 h4 => v_D_nextRoof_45 ⟨fun y => absurd rfl y, fun _ => k.2 1 z ?_ μ4 (kr_fD.kp hk4 kr_fDF) h4⟩)
    · exact h83
    · obtain ⟨m1, m2, m3⟩ := kt_nx_r e3 hz
      obtain ⟨u1, u2, u3, u4⟩ := h4
      have hkb2 : kt_k n b z ≤ 4 := by unfold kt_k; split; omega; split; omega; split; omega; split <;> omega
      rw [u1, u2, show (3 : Int32) = nI 3 from rfl, nI_eq (by omega) (by decide)]
      have f4 := kr_fD.kp hk4 kr_fDT
      refine ⟨fun c => k.1 (kt_e n b z) E1 ?_ μ4 f4 ⟨?_, u3, hR3.kp hk4⟩, fun c => v_D_fail (d := d + 4) (v_D_nextRoof_67 (br_t rfl ((k.tr f4).bad ?_)))⟩
      · unfold kp_fin kp_sg kp_st; rw [kp_bd_r hz, if_pos c]; rfl
      · have := kt_k3 c; omega
      · unfold kp_fin kp_sg kp_st; rw [kp_bd_r hz, if_neg c]; rfl
    · unfold kp_fin kp_sg kp_st; rw [kp_bd_l hz]; rfl
  · rw [if_neg c6] at k
    rw [if_neg c6]
    refine br_t rfl ?_
    rw [t1, t2, show (3 : Int32) = nI 3 from rfl, nI_eq (by omega) (by decide)]
    refine ⟨fun c => k.1 (kt_e n b s) E (by rw [if_pos c]) μ2 (kr_fD.rf μ2) ⟨?_, t3, hR2⟩, fun c => v_D_fail (d := d + 4) (v_D_nextRoof_67 (br_t rfl (k.bad (by rw [if_neg c]))))⟩
    have := kt_k3 c; omega
theorem kr_Ro_ln {a b' y s : Nat} {hp : Bool} {μ' : kr_M} (hN : g 0 < 12) (ha : a < 9) (hb : b' < 9) (hab : a ≠ b') (hy1 : 1 ≤ y) (hy : y ≤ 9) (hs : s ≤ 9) (h : kr_Ro μ' (kz_ln g a b' y s 0, (P, D, K), t, hp)) (h0 : kr_wf g 9 D K t) : kr_Ro (kr_u μ' 14 7 ((μ'.1 14 7) ||| ((1 : Int32) <<< (((μ'.1 14 2) - (1 : Int32)) &&& 31)))) (kz_ln g a b' y s 1, (P, D, K), t, hp) := by
  obtain ⟨r1, r2, r3, r4⟩ := h
  obtain ⟨⟨a1, a2, a3, a4, a5, a6⟩, bb, r, h6, h7', hl, h10, c, c1, c2, c3⟩ := r1
  have e2 : μ'.1 14 2 = nI (g 0 + 1) := by rw [a3]; exact congrArg nI (kz_ln_0 (g := g) (a := a) (b' := b') (y := y) (s := s) (r := 0))
  have e7 : μ'.1 14 7 = nI (kr_bm (kz_ln g a b' y s 0 0) (fun l => kr_gk (kz_ln g a b' y s 0) l 4 == 1)) := r
  have hD5 := h0.1.2.2.2.1
  have h8 := h0.2.2.2.2.2.2.1
  rw [e2, e7, show nI (g 0 + 1) - 1 = nI (g 0) from pk_sub (b := 1) (by omega), kr_1sh _ (by omega), kr_or]
  have hn : ∀ j, j ≠ 0 → (j < 1 + 5 * g 0 ∨ 6 + 5 * g 0 ≤ j) → kz_ln g a b' y s 1 j = kz_ln g a b' y s 0 j := fun j h1 h2 => by rw [kz_ln_n h1 h2, kz_ln_n h1 h2]
  have gk : ∀ l w, w < 4 → l ≤ g 0 → kr_gk (kz_ln g a b' y s 1) l w = kr_gk (kz_ln g a b' y s 0) l w := by
    intro l w hw hl
    by_cases e : l = g 0
    · obtain ⟨p0, p1, p2, p3, p4⟩ := kz_ln_s (g := g) (a := a) (b' := b') (y := y) (s := s) (r := 1)
      obtain ⟨q0, q1, q2, q3, q4⟩ := kz_ln_s (g := g) (a := a) (b' := b') (y := y) (s := s) (r := 0)
      rw [e]
      rcases (by omega : w = 0 ∨ w = 1 ∨ w = 2 ∨ w = 3) with rfl | rfl | rfl | rfl
      · rw [p0, q0]
      · rw [p1, q1]
      · rw [p2, q2]
      · rw [p3, q3]
    · rw [kz_ln_l (by omega) (by omega), kz_ln_l (by omega) (by omega)]
  refine ⟨⟨⟨a1, ?_, ?_, a4, a5, ?_⟩, fun l hl => ?_, ?_, fun d hd => ?_, h7', ?_, fun m hm => ?_, c, c1, c2, fun m hm => ?_⟩, r2, r3, kz_wf_ln h0 hN ha hb hab hy1 hy hs (Nat.le_refl 1), r4.2.1, r4.2.2.1, ?_⟩
  · show μ'.1 14 1 = nI (kz_ln g a b' y s 1 61)
    rw [hn 61 (by omega) (by omega)]; exact a2
  · show μ'.1 14 2 = nI (kz_ln g a b' y s 1 0)
    rw [kz_ln_0]; exact e2
  · show μ'.1 14 15 = nI (kz_ln g a b' y s 1 108)
    rw [hn 108 (by omega) (by omega)]; exact a6
  · have hl : l < kz_ln g a b' y s 1 0 := hl
    rw [kz_ln_0] at hl
    show _ = nI (kr_gk (kz_ln g a b' y s 1) l 0) ∧ _ = nI (kr_gk (kz_ln g a b' y s 1) l 1) ∧ _ = nI (kr_gk (kz_ln g a b' y s 1) l 2) ∧ _ = nI (kr_gk (kz_ln g a b' y s 1) l 3)
    rw [gk l 0 (by decide) (by omega), gk l 1 (by decide) (by omega), gk l 2 (by decide) (by omega), gk l 3 (by decide) (by omega)]
    exact bb l (by show l < kz_ln g a b' y s 0 0; rw [kz_ln_0]; omega)
  · show nI _ = nI (kr_bm (kz_ln g a b' y s 1 0) (fun l => kr_gk (kz_ln g a b' y s 1) l 4 == 1))
    rw [kz_ln_0, kz_ln_0, kx_bl, kx_bl]
    obtain ⟨-, -, -, -, p4⟩ := kz_ln_s (g := g) (a := a) (b' := b') (y := y) (s := s) (r := 1)
    obtain ⟨-, -, -, -, q4⟩ := kz_ln_s (g := g) (a := a) (b' := b') (y := y) (s := s) (r := 0)
    rw [p4, q4, show (if (0 == 1) = true then 2 ^ g 0 else 0) = 0 from rfl, show (if (1 == 1) = true then 2 ^ g 0 else 0) = 2 ^ g 0 from rfl, Nat.or_zero]
    rw [show kr_bm (g 0) (fun l => kr_gk (kz_ln g a b' y s 0) l 4 == 1) = kr_bm (g 0) (fun l => kr_gk (kz_ln g a b' y s 1) l 4 == 1) from kr_bm_congr (fun l hl => by rw [kz_ln_l hl (by decide), kz_ln_l hl (by decide)])]
  · show μ'.1 19 d = nI (kz_ln g a b' y s 1 (62 + d))
    rw [hn _ (by omega) (by omega)]; exact h6 d hd
  · show μ'.2 14 = _
    rw [hl]
    exact congrArg lN (kr_bm_congr (fun q hq => by
      show (decide (1 ≤ q) && kz_ln g a b' y s 0 (67 + q) == 1) = (decide (1 ≤ q) && kz_ln g a b' y s 1 (67 + q) == 1)
      rw [hn (67 + q) (by omega) (by omega)]))
  · have hm : m < kz_ln g a b' y s 1 108 := hm
    rw [hn 108 (by omega) (by omega)] at hm
    show μ'.1 23 m = nI (kz_ln g a b' y s 1 (109 + 2 * m))
    rw [hn _ (by omega) (by omega)]; exact h10 m hm
  · have hm : m < kz_ln g a b' y s 1 108 := hm
    rw [hn 108 (by omega) (by omega)] at hm
    show c.testBit m = (kz_ln g a b' y s 1 (110 + 2 * m) == 1)
    rw [hn _ (by omega) (by omega)]; exact c3 m hm
  · show kz_ln g a b' y s 1 108 = 0
    rw [hn 108 (by omega) (by omega)]; exact r4.2.2.2
theorem c_D_readLine {E : kp_D} {s : Nat} (hT : kr_TC μ n b) (hw : kx_tw n b) (hs : kt_e n b s ≤ n) (h7 : μ.1 13 7 = nI s) (h8 : μ.1 13 8 = nI (kt_e n b s)) (hR : kr_Ro μ E) (k : kr_out Q μ n b (kp_line n b s E)) : kr_c (d + 7) i_D_readLine [.ref 13] μ Q := by
  obtain ⟨g, ⟨P, D, K⟩, t, hp⟩ := E
  have hN : g 0 ≤ 12 := hR.2.2.2.1.1.1
  refine v_D_readLine ?_
  unfold kp_line at k
  have e2 : μ.1 14 2 = nI (g 0) := hR.1.1.2.2.1
  rw [e2, show (12 : Int32) = nI 12 from rfl, nI_ltI (by omega) (by decide), h7]
  refine ⟨fun c5 => ?_, fun c5 => v_D_fail (d := d + 5) (v_D_readLine_21 ⟨Or.inl rfl, by rw [if_pos (show 12 ≤ g 0 by omega)] at k; exact k.bad rfl⟩)⟩
  rw [if_neg (show ¬ 12 ≤ g 0 by omega)] at k
  refine c_D_nextNumber (d := d + 3) (lo := 0) (hi := 8) hT hw hs (by decide) (by decide) h8 (fun a ha μ2 hk2 h2 => v_D_readLine_29 ⟨fun _ => ?_, fun z => absurd z (by decide)⟩) (fun c w ha μ2 hk2 h2 => v_D_readLine_29 ⟨fun z => absurd rfl z, fun _ => k.2 c w (kp_bd_l ha) μ2 (kr_fD.kp hk2 kr_fDF) h2⟩)
  obtain ⟨i1, i2, i3, i4, i5, i6⟩ := kp_nm_r hs ha
  have f2 := kr_fD.kp hk2 kr_fDT
  rw [kp_bd_r ha] at k
  have k := k.tr f2
  rw [h2.2.2]
  refine c_D_nextNumber (d := d + 3) (lo := 0) (hi := 8) (hT.fD f2) hw i3 (by decide) (by decide) h2.2.1 (fun a2 ha2 μ3 hk3 h3 => v_D_readLine_46 ⟨fun _ => ?_, fun z => absurd z (by decide)⟩) (fun c w ha2 μ3 hk3 h3 => v_D_readLine_46 ⟨fun z => absurd rfl z, fun _ => k.2 c w (kp_bd_l ha2) μ3 (kr_fD.kp hk3 kr_fDF) h3⟩)
  obtain ⟨j1, j2, j3, j4, j5, j6⟩ := kp_nm_r i3 ha2
  have f3 := kr_fD.kp hk3 kr_fDT
  rw [kp_bd_r ha2] at k
  have k := k.tr f3
  rw [h3.2.2, h3.1, nI_eq (by omega) (by omega)]
  refine ⟨fun cne => ?_, fun cne => v_D_fail (d := d + 5) (v_D_readLine_70 ⟨Or.inl rfl, by rw [if_pos cne] at k; exact k.bad rfl⟩)⟩
  rw [if_neg cne] at k
  refine c_D_nextNumber (d := d + 3) (lo := 1) (hi := 9) ((hT.fD f2).fD f3) hw j3 (by decide) (by decide) h3.2.1 (fun a3 ha3 μ4 hk4 h4 => v_D_readLine_78 ⟨fun _ => ?_, fun z => absurd z (by decide)⟩) (fun c w ha3 μ4 hk4 h4 => v_D_readLine_78 ⟨fun z => absurd rfl z, fun _ => k.2 c w (kp_bd_l ha3) μ4 (kr_fD.kp hk4 kr_fDF) h4⟩)
  obtain ⟨l1, l2, l3, l4, l5, l6⟩ := kp_nm_r j3 ha3
  have f4 := kr_fD.kp hk4 kr_fDT
  rw [kp_bd_r ha3] at k
  have k := k.tr f4
  rw [h4.2.2]
  refine c_D_nextNumber (d := d + 3) (lo := 0) (hi := 9) (((hT.fD f2).fD f3).fD f4) hw l3 (by decide) (by decide) h4.2.1 (fun a4 ha4 μ5 hk5 h5 => v_D_readLine_95 ⟨fun _ => ?_, fun z => absurd z (by decide)⟩) (fun c w ha4 μ5 hk5 h5 => v_D_readLine_95 ⟨fun z => absurd rfl z, fun _ => k.2 c w (kp_bd_l ha4) μ5 (kr_fD.kp hk5 kr_fDF) h5⟩)
  obtain ⟨o1, o2, o3, o4, o5, o6⟩ := kp_nm_r l3 ha4
  have f5 := kr_fD.kp hk5 kr_fDT
  rw [kp_bd_r ha4] at k
  have k := k.tr f5
  obtain ⟨r1, r2, r3, r4⟩ := (((hR.kp hk2).kp hk3).kp hk4).kp hk5
  have e25 : μ5.1 14 2 = nI (g 0) := r1.1.2.2.1
  refine v_R_addLine14 (d := d + 5) ?_
  rw [e25, h5.2.2, nI_clamp (by omega), kr_n1]
  have v12 : vp_in (nI (g 0)) 12 := vp_in_nI c5 (by decide)
  refine br_t (nI_lt c5 (by decide)) ⟨v12, v12, v12, v12, v_D_readLine_114 ?_⟩
  have f6 : kr_fD μ5 (kr_u (kr_u (kr_u (kr_u (kr_u μ5 15 (g 0) (nI (kt_v n b a))) 16 (g 0) (nI (kt_v n b a2))) 17 (g 0) (nI (kt_v n b a3))) 18 (g 0) (nI (kt_v n b a4))) 14 2 (nI (g 0 + 1))) := (((((kr_fD.rf μ5).u _ (by omega)).u _ (by omega)).u _ (by omega)).u _ (by omega)).u _ (by omega)
  have k := k.tr f6
  have hwf : kr_wf g 9 D K t := r4.1
  have hD5 := hwf.1.2.2.2.1
  have h8' := hwf.2.2.2.2.2.2.1
  refine c_D_nextRoof (((((hT.fD f2).fD f3).fD f4).fD f5).fD f6) hw o3 h5.2.1 ?_ (fun μ' h' => kr_Ro_ln c5 (by omega) (by omega) cne l5 l6 o6 h' hwf) ⟨fun p' D' e μ' hf h => v_D_readLine_119 ⟨Or.inr rfl, k.1 p' D' e μ' hf h⟩, fun c w e μ' hf h => v_D_readLine_119 ⟨Or.inl rfl, k.2 c w e μ' hf h⟩⟩
  obtain ⟨⟨a1, a2', a3', a4', a5, a6⟩, bb, r, h6, h7', hl, h10, c, c1, c2, c3⟩ := r1
  have hn : ∀ j, j ≠ 0 → 6 + 5 * g 0 ≤ j → kz_ln g (kt_v n b a) (kt_v n b a2) (kt_v n b a3) (kt_v n b a4) 0 j = g j := fun j h1 h2 => kz_ln_n h1 (Or.inr h2)
  obtain ⟨p0, p1, p2, p3, p4⟩ := kz_ln_s (g := g) (a := kt_v n b a) (b' := kt_v n b a2) (y := kt_v n b a3) (s := kt_v n b a4) (r := 0)
  refine ⟨⟨⟨a1, ?_, ?_, a4', a5, ?_⟩, fun l hl => ?_, ?_, fun d hd => ?_, h7', ?_, fun m hm => ?_, c, c1, c2, fun m hm => ?_⟩, r2, r3, kz_wf_ln hwf c5 (by omega) (by omega) cne l5 l6 o6 (by decide), r4.2.1, r4.2.2.1, ?_⟩
  · show μ5.1 14 1 = nI (kz_ln g (kt_v n b a) (kt_v n b a2) (kt_v n b a3) (kt_v n b a4) 0 61)
    rw [hn 61 (by omega) (by omega)]; exact a2'
  · show nI (g 0 + 1) = nI (kz_ln g (kt_v n b a) (kt_v n b a2) (kt_v n b a3) (kt_v n b a4) 0 0)
    rw [kz_ln_0]
  · show μ5.1 14 15 = nI (kz_ln g (kt_v n b a) (kt_v n b a2) (kt_v n b a3) (kt_v n b a4) 0 108)
    rw [hn 108 (by omega) (by omega)]; exact a6
  · have hl : l < kz_ln g (kt_v n b a) (kt_v n b a2) (kt_v n b a3) (kt_v n b a4) 0 0 := hl
    rw [kz_ln_0] at hl
    show upd (μ5.1 15) (g 0) (nI (kt_v n b a)) l = nI (kr_gk (kz_ln g (kt_v n b a) (kt_v n b a2) (kt_v n b a3) (kt_v n b a4) 0) l 0) ∧ upd (μ5.1 16) (g 0) (nI (kt_v n b a2)) l = nI (kr_gk (kz_ln g (kt_v n b a) (kt_v n b a2) (kt_v n b a3) (kt_v n b a4) 0) l 1) ∧ upd (μ5.1 17) (g 0) (nI (kt_v n b a3)) l = nI (kr_gk (kz_ln g (kt_v n b a) (kt_v n b a2) (kt_v n b a3) (kt_v n b a4) 0) l 2) ∧ upd (μ5.1 18) (g 0) (nI (kt_v n b a4)) l = nI (kr_gk (kz_ln g (kt_v n b a) (kt_v n b a2) (kt_v n b a3) (kt_v n b a4) 0) l 3)
    by_cases el : l = g 0
    · rw [el, kr_upd_s, kr_upd_s, kr_upd_s, kr_upd_s, p0, p1, p2, p3]
      exact ⟨rfl, rfl, rfl, rfl⟩
    · have hl2 : l < g 0 := by omega
      rw [kr_upd_n _ _ el, kr_upd_n _ _ el, kr_upd_n _ _ el, kr_upd_n _ _ el, kz_ln_l hl2 (by decide), kz_ln_l hl2 (by decide), kz_ln_l hl2 (by decide), kz_ln_l hl2 (by decide)]
      exact bb l hl2
  · show μ5.1 14 7 = nI (kr_bm (kz_ln g (kt_v n b a) (kt_v n b a2) (kt_v n b a3) (kt_v n b a4) 0 0) (fun l => kr_gk (kz_ln g (kt_v n b a) (kt_v n b a2) (kt_v n b a3) (kt_v n b a4) 0) l 4 == 1))
    rw [r, kz_ln_0, kx_bl, p4, show (if (0 == 1) = true then 2 ^ g 0 else 0) = 0 from rfl, Nat.or_zero]
    exact congrArg nI (kr_bm_congr (fun l hl => by rw [kz_ln_l hl (by decide)]))
  · show μ5.1 19 d = nI (kz_ln g (kt_v n b a) (kt_v n b a2) (kt_v n b a3) (kt_v n b a4) 0 (62 + d))
    rw [hn _ (by omega) (by omega)]; exact h6 d hd
  · show μ5.2 14 = _
    rw [hl]
    exact congrArg lN (kr_bm_congr (fun q hq => by
      show (decide (1 ≤ q) && g (67 + q) == 1) = (decide (1 ≤ q) && kz_ln g (kt_v n b a) (kt_v n b a2) (kt_v n b a3) (kt_v n b a4) 0 (67 + q) == 1)
      rw [hn (67 + q) (by omega) (by omega)]))
  · have hm : m < kz_ln g (kt_v n b a) (kt_v n b a2) (kt_v n b a3) (kt_v n b a4) 0 108 := hm
    rw [hn 108 (by omega) (by omega)] at hm
    show μ5.1 23 m = nI (kz_ln g (kt_v n b a) (kt_v n b a2) (kt_v n b a3) (kt_v n b a4) 0 (109 + 2 * m))
    rw [hn _ (by omega) (by omega)]; exact h10 m hm
  · have hm : m < kz_ln g (kt_v n b a) (kt_v n b a2) (kt_v n b a3) (kt_v n b a4) 0 108 := hm
    rw [hn 108 (by omega) (by omega)] at hm
    show c.testBit m = (kz_ln g (kt_v n b a) (kt_v n b a2) (kt_v n b a3) (kt_v n b a4) 0 (110 + 2 * m) == 1)
    rw [hn _ (by omega) (by omega)]; exact c3 m hm
  · show kz_ln g (kt_v n b a) (kt_v n b a2) (kt_v n b a3) (kt_v n b a4) 0 108 = 0
    rw [hn 108 (by omega) (by omega)]; exact r4.2.2.2
end
