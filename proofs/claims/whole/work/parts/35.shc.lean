/-! who draws what: the class -/
theorem st_G_give {d : Nat} {Q : kr_Q} {pc : Nat} {ls : kr_L} {st : List Value} {μ : kr_M} (h : C_G_give pc (kr_Wp C_G_give (kr_c d) Q) (kr_c d) Q ls st μ) : kr_Wp C_G_give (kr_c d) Q pc ls st μ := kr_Wp.step (fun pc => (kr_ok_G_give pc).2) (kr_c_om d) h
theorem v_G_give {d : Nat} {Q : kr_Q} {μ : kr_M} {a1 : Int32} {a2 : Int32} (h : ((a2 < (μ.1 1 2) → ((¬ (a1 >>> (a2 &&& 31)) &&& 1 = 0 → vp_in a2 12 ∧ kr_Wp C_G_give (kr_c (d + 1)) Q 41 [some (.ref 1), some (.int a1), some (.int a2), some (.ref 36), some (.ref 37), some (.int (μ.1 4 a2.toNatClampNeg)), some (.int 0)] [] μ) ∧ (¬ (¬ (a1 >>> (a2 &&& 31)) &&& 1 = 0) → kr_c (d + 1) i_G_give [.ref 1, .int a1, .int (a2 + (1 : Int32)), .ref 36, .ref 37] μ (kr_bk (kr_Wp C_G_give (kr_c (d + 1)) Q) 29 [some (.ref 1), some (.int a1), some (.int a2), some (.ref 36), some (.ref 37), none, none] [])))) ∧ (¬ (a2 < (μ.1 1 2)) → Q (some (.int 1)) μ))) : kr_c (d + 2) i_G_give [.ref 1, .int a1, .int a2, .ref 36, .ref 37] μ Q := ⟨rfl, (st_G_give (st_G_give (st_G_give (And.intro rfl (st_G_give (And.intro (fun z1x => (st_G_give (st_G_give (st_G_give (c_C_has (st_G_give (And.intro (fun z2x => (st_G_give (st_G_give (And.intro rfl (st_G_give (st_G_give (And.intro ⟨12, rfl, ((h.1 z1x).1 (kr_b1 z2x)).1⟩ (st_G_give (st_G_give (st_G_give ((h.1 z1x).1 (kr_b1 z2x)).2)))))))))) (fun z2x => (st_G_give (st_G_give (st_G_give (st_G_give (st_G_give (st_G_give (st_G_give (st_G_give ((h.1 z1x).2 (kr_b2 z2x)))))))))))))))))) (fun z1x => (st_G_give (st_G_give (And.intro (by decide) (h.2 z1x)))))))))))⟩
theorem v_G_give_41 {d : Nat} {Q : kr_Q} {μ : kr_M} {a1 : Int32} {a2 : Int32} {a5 : Int32} {a6 : Int32} (h : (((μ.1 1 8) ≤ a6 → Q (some (.int 0)) μ) ∧ (¬ ((μ.1 1 8) ≤ a6) → vp_in a6 5 ∧ (((μ.1 36 a6.toNatClampNeg) < a5 → kr_Wp C_G_give (kr_c (d + 1)) Q 41 [some (.ref 1), some (.int a1), some (.int a2), some (.ref 36), some (.ref 37), some (.int a5), some (.int (a6 + 1))] [] μ) ∧ (¬ ((μ.1 36 a6.toNatClampNeg) < a5) → vp_in a6 5 ∧ vp_in a6 5 ∧ vp_in a2 12 ∧ kr_c (d + 1) i_G_give [.ref 1, .int a1, .int (a2 + (1 : Int32)), .ref 36, .ref 37] (kr_u (kr_u μ 36 a6.toNatClampNeg ((μ.1 36 a6.toNatClampNeg) - a5)) 37 a2.toNatClampNeg a6) (kr_bk (kr_Wp C_G_give (kr_c (d + 1)) Q) 85 [some (.ref 1), some (.int a1), some (.int a2), some (.ref 36), some (.ref 37), some (.int a5), some (.int a6)] [])))))) : kr_Wp C_G_give (kr_c (d + 1)) Q 41 [some (.ref 1), some (.int a1), some (.int a2), some (.ref 36), some (.ref 37), some (.int a5), some (.int a6)] [] μ := (st_G_give (st_G_give (st_G_give (And.intro rfl (st_G_give (And.intro (fun z1x => (st_G_give (st_G_give (And.intro (by decide) (h.1 z1x))))) (fun z1x => (st_G_give (st_G_give (st_G_give (And.intro ⟨5, rfl, (h.2 z1x).1⟩ (st_G_give (st_G_give (And.intro (fun z2x => (st_G_give (st_G_give ((h.2 z1x).2.1 z2x)))) (fun z2x => (st_G_give (st_G_give (st_G_give (st_G_give (And.intro ⟨5, rfl, ((h.2 z1x).2.2 z2x).1⟩ (st_G_give (st_G_give (st_G_give (And.intro ⟨5, rfl, ((h.2 z1x).2.2 z2x).2.1⟩ (st_G_give (st_G_give (st_G_give (st_G_give (And.intro ⟨12, rfl, ((h.2 z1x).2.2 z2x).2.2.1⟩ (st_G_give (st_G_give (st_G_give (st_G_give (st_G_give (st_G_give (st_G_give (st_G_give ((h.2 z1x).2.2 z2x).2.2.2)))))))))))))))))))))))))))))))))))))
theorem v_G_give_29 {d : Nat} {Q : kr_Q} {μ : kr_M} {a1 : Int32} {a2 : Int32} {r : Int32} (h : (r = 0 ∨ r = 1) ∧ Q (some (.int r)) μ) : kr_Wp C_G_give (kr_c (d + 1)) Q 29 [some (.ref 1), some (.int a1), some (.int a2), some (.ref 36), some (.ref 37), none, none] [.int r] μ := (st_G_give h)
theorem v_G_give_85 {d : Nat} {Q : kr_Q} {μ : kr_M} {a1 : Int32} {a2 : Int32} {a5 : Int32} {a6 : Int32} {r : Int32} (h : ((r = 0 → vp_in a6 5 ∧ vp_in a6 5 ∧ kr_Wp C_G_give (kr_c (d + 1)) Q 41 [some (.ref 1), some (.int a1), some (.int a2), some (.ref 36), some (.ref 37), some (.int a5), some (.int (a6 + 1))] [] (kr_u μ 36 a6.toNatClampNeg ((μ.1 36 a6.toNatClampNeg) + a5))) ∧ (¬ (r = 0) → Q (some (.int 1)) μ))) : kr_Wp C_G_give (kr_c (d + 1)) Q 85 [some (.ref 1), some (.int a1), some (.int a2), some (.ref 36), some (.ref 37), some (.int a5), some (.int a6)] [.int r] μ := (st_G_give (And.intro (fun z1x => (st_G_give (st_G_give (st_G_give (st_G_give (And.intro ⟨5, rfl, (h.1 z1x).1⟩ (st_G_give (st_G_give (st_G_give (And.intro ⟨5, rfl, (h.1 z1x).2.1⟩ (st_G_give (st_G_give (h.1 z1x).2.2)))))))))))) (fun z1x => (st_G_give (st_G_give (And.intro (by decide) (h.2 z1x)))))))
theorem st_G_canDraw {d : Nat} {Q : kr_Q} {pc : Nat} {ls : kr_L} {st : List Value} {μ : kr_M} (h : C_G_canDraw pc (kr_Wp C_G_canDraw (kr_c d) Q) (kr_c d) Q ls st μ) : kr_Wp C_G_canDraw (kr_c d) Q pc ls st μ := kr_Wp.step (fun pc => (kr_ok_G_canDraw pc).2) (kr_c_om d) h
theorem v_G_canDraw {d : Nat} {Q : kr_Q} {μ : kr_M} {a1 : Int32} {a2 : Int32} (h : kr_Wp C_G_canDraw (kr_c (d + 2)) Q 5 [some (.ref 35), some (.int a1), some (.int a2), some (.int 0), some (.int 0)] [] μ) : kr_c (d + 3) i_G_canDraw [.ref 35, .int a1, .int a2] μ Q := ⟨rfl, (st_G_canDraw (st_G_canDraw (st_G_canDraw (st_G_canDraw h))))⟩
theorem v_G_canDraw_5 {d : Nat} {Q : kr_Q} {μ : kr_M} {a1 : Int32} {a2 : Int32} {a3 : Int32} {a4 : Int32} (h : (((μ.1 1 8) ≤ a4 → kr_c (d + 2) i_R_yardsOf [.ref 1, .int a1] μ (kr_bk (kr_Wp C_G_canDraw (kr_c (d + 2)) Q) 72 [some (.ref 35), some (.int a1), some (.int a2), some (.int a3), some (.int a4)] [.int a3])) ∧ (¬ ((μ.1 1 8) ≤ a4) → ((¬ (¬ (a2 >>> (a4 &&& 31)) &&& 1 = 0) → vp_in a4 5 ∧ vp_in a4 5 ∧ kr_Wp C_G_canDraw (kr_c (d + 2)) Q 5 [some (.ref 35), some (.int a1), some (.int a2), some (.int (a3 + (upd (μ.1 36) a4.toNatClampNeg 0 a4.toNatClampNeg))), some (.int (a4 + 1))] [] (kr_u μ 36 a4.toNatClampNeg 0)) ∧ (¬ (a2 >>> (a4 &&& 31)) &&& 1 = 0 → vp_in a4 5 ∧ vp_in a4 5 ∧ vp_in a4 5 ∧ kr_Wp C_G_canDraw (kr_c (d + 2)) Q 5 [some (.ref 35), some (.int a1), some (.int a2), some (.int (a3 + (upd (μ.1 36) a4.toNatClampNeg (μ.1 6 a4.toNatClampNeg) a4.toNatClampNeg))), some (.int (a4 + 1))] [] (kr_u μ 36 a4.toNatClampNeg (μ.1 6 a4.toNatClampNeg))))))) : kr_Wp C_G_canDraw (kr_c (d + 2)) Q 5 [some (.ref 35), some (.int a1), some (.int a2), some (.int a3), some (.int a4)] [] μ := (st_G_canDraw (st_G_canDraw (st_G_canDraw (And.intro rfl (st_G_canDraw (And.intro rfl (st_G_canDraw (And.intro (fun z1x => (st_G_canDraw (st_G_canDraw (st_G_canDraw (And.intro rfl (st_G_canDraw (st_G_canDraw (And.intro rfl (h.1 z1x))))))))) (fun z1x => (st_G_canDraw (st_G_canDraw (And.intro rfl (st_G_canDraw (st_G_canDraw (st_G_canDraw (st_G_canDraw (c_C_has (st_G_canDraw (And.intro (fun z2x => (st_G_canDraw (st_G_canDraw (And.intro ⟨5, rfl, ((h.2 z1x).1 (kr_b0 z2x)).1⟩ (st_G_canDraw (st_G_canDraw (st_G_canDraw (And.intro rfl (st_G_canDraw (st_G_canDraw (And.intro ⟨5, rfl, ((h.2 z1x).1 (kr_b0 z2x)).2.1⟩ (st_G_canDraw (st_G_canDraw (st_G_canDraw (st_G_canDraw ((h.2 z1x).1 (kr_b0 z2x)).2.2))))))))))))))) (fun z2x => (st_G_canDraw (st_G_canDraw (And.intro rfl (st_G_canDraw (And.intro rfl (st_G_canDraw (st_G_canDraw (And.intro ⟨5, rfl, ((h.2 z1x).2 (kr_b1 z2x)).1⟩ (st_G_canDraw (st_G_canDraw (And.intro ⟨5, rfl, ((h.2 z1x).2 (kr_b1 z2x)).2.1⟩ (st_G_canDraw (st_G_canDraw (st_G_canDraw (And.intro rfl (st_G_canDraw (st_G_canDraw (And.intro ⟨5, rfl, ((h.2 z1x).2 (kr_b1 z2x)).2.2.1⟩ (st_G_canDraw (st_G_canDraw (st_G_canDraw (st_G_canDraw ((h.2 z1x).2 (kr_b1 z2x)).2.2.2))))))))))))))))))))))))))))))))))))))))))
theorem v_G_canDraw_72 {d : Nat} {Q : kr_Q} {μ : kr_M} {a1 : Int32} {a2 : Int32} {a3 : Int32} {a4 : Int32} {r : Int32} {s0 : Int32} (h : ((s0 < r → Q (some (.int 0)) μ) ∧ (¬ (s0 < r) → kr_c (d + 2) i_G_give [.ref 1, .int a1, .int 0, .ref 36, .ref 37] μ (kr_bk (kr_Wp C_G_canDraw (kr_c (d + 2)) Q) 92 [some (.ref 35), some (.int a1), some (.int a2), some (.int a3), some (.int a4)] [])))) : kr_Wp C_G_canDraw (kr_c (d + 2)) Q 72 [some (.ref 35), some (.int a1), some (.int a2), some (.int a3), some (.int a4)] [.int r, .int s0] μ := (st_G_canDraw (And.intro (fun z1x => (st_G_canDraw (st_G_canDraw (And.intro (by decide) (h.1 z1x))))) (fun z1x => (st_G_canDraw (st_G_canDraw (And.intro rfl (st_G_canDraw (st_G_canDraw (st_G_canDraw (st_G_canDraw (And.intro rfl (st_G_canDraw (st_G_canDraw (And.intro rfl (st_G_canDraw (h.2 z1x))))))))))))))))
theorem v_G_canDraw_92 {d : Nat} {Q : kr_Q} {μ : kr_M} {a1 : Int32} {a2 : Int32} {a3 : Int32} {a4 : Int32} {r : Int32} (h : ((r = 0 → Q (some (.int 0)) μ) ∧ (¬ (r = 0) → Q (some (.int 1)) μ))) : kr_Wp C_G_canDraw (kr_c (d + 2)) Q 92 [some (.ref 35), some (.int a1), some (.int a2), some (.int a3), some (.int a4)] [.int r] μ := (st_G_canDraw (And.intro (fun z1x => (st_G_canDraw (st_G_canDraw (And.intro (by decide) (h.1 z1x))))) (fun z1x => (st_G_canDraw (st_G_canDraw (st_G_canDraw (And.intro (by decide) (h.2 z1x))))))))
theorem st_G_fewestDrawers {d : Nat} {Q : kr_Q} {pc : Nat} {ls : kr_L} {st : List Value} {μ : kr_M} (h : C_G_fewestDrawers pc (kr_Wp C_G_fewestDrawers (kr_c d) Q) (kr_c d) Q ls st μ) : kr_Wp C_G_fewestDrawers (kr_c d) Q pc ls st μ := kr_Wp.step (fun pc => (kr_ok_G_fewestDrawers pc).2) (kr_c_om d) h
theorem v_G_fewestDrawers {d : Nat} {Q : kr_Q} {μ : kr_M} {a1 : Int32} (h : kr_Wp C_G_fewestDrawers (kr_c (d + 3)) Q 2 [some (.ref 35), some (.int a1), some (.int 0), none] [] μ) : kr_c (d + 4) i_G_fewestDrawers [.ref 35, .int a1] μ Q := ⟨rfl, (st_G_fewestDrawers (st_G_fewestDrawers h))⟩
theorem v_G_fewestDrawers_2 {d : Nat} {Q : kr_Q} {μ : kr_M} {a1 : Int32} {a2 : Int32} (h : (((μ.1 1 8) < a2 → Q (some (.int (-4))) μ) ∧ (¬ ((μ.1 1 8) < a2) → kr_Wp C_G_fewestDrawers (kr_c (d + 3)) Q 15 [some (.ref 35), some (.int a1), some (.int a2), some (.int 0)] [] μ))) : kr_Wp C_G_fewestDrawers (kr_c (d + 3)) Q 2 [some (.ref 35), some (.int a1), some (.int a2), none] [] μ := (st_G_fewestDrawers (st_G_fewestDrawers (st_G_fewestDrawers (And.intro rfl (st_G_fewestDrawers (And.intro rfl (st_G_fewestDrawers (And.intro (fun z1x => (st_G_fewestDrawers (st_G_fewestDrawers (h.1 z1x)))) (fun z1x => (st_G_fewestDrawers (st_G_fewestDrawers (h.2 z1x))))))))))))
theorem v_G_fewestDrawers_15 {d : Nat} {Q : kr_Q} {μ : kr_M} {a1 : Int32} {a2 : Int32} {a3 : Int32} (h : ((((1 : Int32) <<< ((μ.1 1 8) &&& 31)) ≤ a3 → kr_Wp C_G_fewestDrawers (kr_c (d + 3)) Q 2 [some (.ref 35), some (.int a1), some (.int (a2 + 1)), none] [] μ) ∧ (¬ (((1 : Int32) <<< ((μ.1 1 8) &&& 31)) ≤ a3) → kr_c (d + 3) i_J6_bitCount [.int a3] μ (kr_bk (kr_Wp C_G_fewestDrawers (kr_c (d + 3)) Q) 32 [some (.ref 35), some (.int a1), some (.int a2), some (.int a3)] [])))) : kr_Wp C_G_fewestDrawers (kr_c (d + 3)) Q 15 [some (.ref 35), some (.int a1), some (.int a2), some (.int a3)] [] μ := (st_G_fewestDrawers (st_G_fewestDrawers (st_G_fewestDrawers (st_G_fewestDrawers (And.intro rfl (st_G_fewestDrawers (And.intro rfl (st_G_fewestDrawers (st_G_fewestDrawers (And.intro (fun z1x => (st_G_fewestDrawers (st_G_fewestDrawers (kr_Wp.lm [true, true, true, false] (h.1 z1x))))) (fun z1x => (st_G_fewestDrawers (st_G_fewestDrawers (h.2 z1x))))))))))))))
theorem v_G_fewestDrawers_32 {d : Nat} {Q : kr_Q} {μ : kr_M} {a1 : Int32} {a2 : Int32} {a3 : Int32} {r : Int32} (h : ((¬ r = a2 → kr_Wp C_G_fewestDrawers (kr_c (d + 3)) Q 15 [some (.ref 35), some (.int a1), some (.int a2), some (.int (a3 + 1))] [] μ) ∧ (r = a2 → kr_c (d + 3) i_G_canDraw [.ref 35, .int a1, .int a3] μ (kr_bk (kr_Wp C_G_fewestDrawers (kr_c (d + 3)) Q) 42 [some (.ref 35), some (.int a1), some (.int a2), some (.int a3)] [])))) : kr_Wp C_G_fewestDrawers (kr_c (d + 3)) Q 32 [some (.ref 35), some (.int a1), some (.int a2), some (.int a3)] [.int r] μ := (st_G_fewestDrawers (st_G_fewestDrawers (And.intro (fun z1x => (st_G_fewestDrawers (st_G_fewestDrawers (h.1 z1x)))) (fun z1x => (st_G_fewestDrawers (st_G_fewestDrawers (st_G_fewestDrawers (st_G_fewestDrawers (And.intro rfl (h.2 (Decidable.not_not.mp z1x)))))))))))
theorem v_G_fewestDrawers_42 {d : Nat} {Q : kr_Q} {μ : kr_M} {a1 : Int32} {a2 : Int32} {a3 : Int32} {r : Int32} (h : ((r = 0 → kr_Wp C_G_fewestDrawers (kr_c (d + 3)) Q 15 [some (.ref 35), some (.int a1), some (.int a2), some (.int (a3 + 1))] [] μ) ∧ (¬ (r = 0) → Q (some (.int a3)) μ))) : kr_Wp C_G_fewestDrawers (kr_c (d + 3)) Q 42 [some (.ref 35), some (.int a1), some (.int a2), some (.int a3)] [.int r] μ := (st_G_fewestDrawers (And.intro (fun z1x => (st_G_fewestDrawers (st_G_fewestDrawers (h.1 z1x)))) (fun z1x => (st_G_fewestDrawers (st_G_fewestDrawers (h.2 z1x))))))
theorem st_C_share {d : Nat} {Q : kr_Q} {pc : Nat} {ls : kr_L} {st : List Value} {μ : kr_M} (h : C_C_share pc (kr_Wp C_C_share (kr_c d) Q) (kr_c d) Q ls st μ) : kr_Wp C_C_share (kr_c d) Q pc ls st μ := kr_Wp.step (fun pc => (kr_ok_C_share pc).2) (kr_c_om d) h
theorem v_C_share {d : Nat} {Q : kr_Q} {μ : kr_M} {a1 : Int32} {a2 : Int32} (h : ((¬ (0 ≤ a1 ∧ a1 ≤ ((1 : Int32) <<< ((μ.1 1 2) &&& 31)) - 1) → Q (some (.int (-1))) μ) ∧ (0 ≤ a1 ∧ a1 ≤ ((1 : Int32) <<< ((μ.1 1 2) &&& 31)) - 1 → kr_c (d + 4) i_J6_bitCount [.int a1] μ (kr_bk (kr_Wp C_C_share (kr_c (d + 4)) Q) 20 [some (.ref 0), some (.int a1), some (.int a2), some (.int (a2 - (10 : Int32))), none] [])))) : kr_c (d + 5) i_C_share [.ref 0, .int a1, .int a2] μ Q := ⟨rfl, (st_C_share (st_C_share (st_C_share (st_C_share (st_C_share (st_C_share (And.intro rfl (st_C_share (st_C_share (And.intro rfl (c_R_hasLines (st_C_share (And.intro (fun z1x => (st_C_share (st_C_share (h.1 (kr_b0 z1x))))) (fun z1x => (st_C_share (st_C_share (h.2 (kr_b1 z1x))))))))))))))))))⟩
theorem v_C_share_20 {d : Nat} {Q : kr_Q} {μ : kr_M} {a1 : Int32} {a2 : Int32} {a3 : Int32} {r : Int32} (h : ((r ≤ 8 → ((a2 = 0 → kr_c (d + 4) i_G_fewestDrawers [.ref 35, .int a1] μ (kr_bk (kr_Wp C_C_share (kr_c (d + 4)) Q) 63 [some (.ref 0), some (.int a1), some (.int a2), some (.int a3), none] [])) ∧ (¬ (a2 = 0) → ((a2 = 1 → kr_c (d + 4) i_G_fewestDrawers [.ref 35, .int a1] μ (kr_bk (kr_Wp C_C_share (kr_c (d + 4)) Q) 63 [some (.ref 0), some (.int a1), some (.int a2), some (.int a3), none] [])) ∧ (¬ (a2 = 1) → ((a2 < 10 → Q (some (.int (-1))) μ) ∧ (¬ (a2 < 10) → ((0 ≤ a3 ∧ a3 < (μ.1 1 2) → kr_c (d + 4) i_G_fewestDrawers [.ref 35, .int a1] μ (kr_bk (kr_Wp C_C_share (kr_c (d + 4)) Q) 63 [some (.ref 0), some (.int a1), some (.int a2), some (.int a3), none] [])) ∧ (¬ (0 ≤ a3 ∧ a3 < (μ.1 1 2)) → Q (some (.int (-1))) μ))))))))) ∧ (¬ (r ≤ 8) → Q (some (.int (-1))) μ))) : kr_Wp C_C_share (kr_c (d + 4)) Q 20 [some (.ref 0), some (.int a1), some (.int a2), some (.int a3), none] [.int r] μ := (st_C_share (st_C_share (And.intro (fun z1x => (st_C_share (st_C_share (And.intro (fun z2x => (st_C_share (st_C_share (And.intro rfl (st_C_share (st_C_share (And.intro rfl ((h.1 z1x).1 z2x)))))))) (fun z2x => (st_C_share (st_C_share (st_C_share (And.intro (fun z3x => (st_C_share (st_C_share (And.intro rfl (st_C_share (st_C_share (And.intro rfl (((h.1 z1x).2 z2x).1 z3x)))))))) (fun z3x => (st_C_share (st_C_share (st_C_share (And.intro (fun z4x => (st_C_share (st_C_share ((((h.1 z1x).2 z2x).2 z3x).1 z4x)))) (fun z4x => (st_C_share (st_C_share (And.intro rfl (st_C_share (st_C_share (And.intro rfl (c_R_hasLine (st_C_share (And.intro (fun z5x => (st_C_share (st_C_share (And.intro rfl (st_C_share (st_C_share (And.intro rfl (((((h.1 z1x).2 z2x).2 z3x).2 z4x).1 (kr_b1 z5x))))))))) (fun z5x => (st_C_share (st_C_share (((((h.1 z1x).2 z2x).2 z3x).2 z4x).2 (kr_b2 z5x))))))))))))))))))))))))))))) (fun z1x => (st_C_share (st_C_share (h.2 z1x)))))))
theorem v_C_share_63 {d : Nat} {Q : kr_Q} {μ : kr_M} {a1 : Int32} {a2 : Int32} {a3 : Int32} {r : Int32} (h : ((r = (-4) → Q (some (.int r)) μ) ∧ (¬ (r = (-4)) → ((¬ a2 = 1 → ((¬ a2 = 0 → ((¬ (¬ (a1 >>> (a3 &&& 31)) &&& 1 = 0) → Q (some (.int (-4))) μ) ∧ (¬ (a1 >>> (a3 &&& 31)) &&& 1 = 0 → vp_in a3 12 ∧ Q (some (.int (μ.1 37 a3.toNatClampNeg))) μ))) ∧ (a2 = 0 → kr_c (d + 4) i_J6_bitCount [.int r] μ (kr_bk (kr_Wp C_C_share (kr_c (d + 4)) Q) 89 [some (.ref 0), some (.int a1), some (.int a2), some (.int a3), some (.int r)] [])))) ∧ (a2 = 1 → Q (some (.int r)) μ))))) : kr_Wp C_C_share (kr_c (d + 4)) Q 63 [some (.ref 0), some (.int a1), some (.int a2), some (.int a3), none] [.int r] μ := (st_C_share (st_C_share (st_C_share (st_C_share (And.intro (fun z1x => (st_C_share (st_C_share (h.1 z1x)))) (fun z1x => (st_C_share (st_C_share (st_C_share (And.intro (fun z2x => (st_C_share (st_C_share (And.intro (fun z3x => (st_C_share (st_C_share (st_C_share (c_C_has (st_C_share (And.intro (fun z4x => (st_C_share (st_C_share ((((h.2 z1x).1 z2x).1 z3x).1 (kr_b0 z4x))))) (fun z4x => (st_C_share (st_C_share (And.intro rfl (st_C_share (And.intro rfl (st_C_share (st_C_share (And.intro ⟨12, rfl, ((((h.2 z1x).1 z2x).1 z3x).2 (kr_b1 z4x)).1⟩ (st_C_share (st_C_share ((((h.2 z1x).1 z2x).1 z3x).2 (kr_b1 z4x)).2)))))))))))))))))) (fun z3x => (st_C_share (st_C_share (((h.2 z1x).1 z2x).2 (Decidable.not_not.mp z3x))))))))) (fun z2x => (st_C_share (st_C_share ((h.2 z1x).2 (Decidable.not_not.mp z2x)))))))))))))))
theorem v_C_share_89 {d : Nat} {Q : kr_Q} {μ : kr_M} {a1 : Int32} {a2 : Int32} {a3 : Int32} {a4 : Int32} {r : Int32} (h : Q (some (.int r)) μ) : kr_Wp C_C_share (kr_c (d + 4)) Q 89 [some (.ref 0), some (.int a1), some (.int a2), some (.int a3), some (.int a4)] [.int r] μ := (st_C_share h)
def kr_gvP (μ μ' : kr_M) (g : Nat → Nat) (D S n l : Nat) (c : Nat → Nat) : Prop := kr_keep [36, 37] [] μ μ' ∧ (∀ j, j < l → μ'.1 37 j = μ.1 37 j) ∧ (kx_gv (fun l => kr_gk g l 2) D S n l c = true → ∀ j, l ≤ j → j < l + n → S.testBit j = true → μ'.1 37 j = nI (kx_ga (fun l => kr_gk g l 2) D S n l c j)) ∧ (kx_gv (fun l => kr_gk g l 2) D S n l c = false → ∀ e, e < D → μ'.1 36 e = nI (c e))
theorem c_G_give {g : Nat → Nat} {D S : Nat} (hg : kx_gb g) (hD5 : D ≤ 5) (hS : S < 4096) : ∀ n l {d : Nat} {Q : kr_Q} {μ : kr_M} (c : Nat → Nat), l + n = g 0 → μ.1 1 2 = nI (g 0) → μ.1 1 8 = nI D → (∀ l, l < g 0 → μ.1 4 l = nI (kr_gk g l 2)) → (∀ e, e < D → μ.1 36 e = nI (c e)) → (∀ e, e < D → c e < 1000) → (∀ μ', kr_gvP μ μ' g D S n l c → Q (some (.int (if kx_gv (fun l => kr_gk g l 2) D S n l c = true then 1 else 0))) μ') → kr_c (d + 2 + n) i_G_give [.ref 1, .int (nI S), .int (nI l), .ref 36, .ref 37] μ Q := by
  have hN := hg.1
  intro n
  induction n with
  | zero =>
    intro l d Q μ c hl h2 h8 h4 h36 hb k
    refine v_G_give (br_f (by rw [h2]; exact nI_nlt (by omega) (by omega)) ?_)
    have k1 := k μ ⟨kr_keep.rf, fun _ _ => rfl, fun _ j h1 h2 => by omega, fun z => by cases z⟩
    exact k1
  | succ n ih =>
    intro l d Q μ c hl h2 h8 h4 h36 hb k
    have hy := hg.2.2 l (by omega)
    rw [show d + 2 + (n + 1) = (d + n + 1) + 2 by omega]
    refine v_G_give (br_t (by rw [h2]; exact nI_lt (by omega) (by omega)) ?_)
    rw [kr_bit0 (by omega) (by omega), nI_clamp (by omega), h4 l (by omega), show (nI l + 1 : Int32) = nI (l + 1) from kr_n1 l, show d + n + 1 + 1 = d + 2 + n by omega]
    refine ⟨fun cb => ⟨vp_in_nI (by omega) (by decide), ?_⟩, fun cb => ?_⟩
    · have cb : S.testBit l = true := by simpa using cb
      have inner : ∀ dr, dr ≤ D → ∀ μ', kr_keep [36, 37] [] μ μ' → (∀ e, e < D → μ'.1 36 e = nI (c e)) → (∀ j, j < l → μ'.1 37 j = μ.1 37 j) → (∀ i, i < dr → (decide (kr_gk g l 2 ≤ c i) && kx_gv (fun l => kr_gk g l 2) D S n (l + 1) (kx_un c i (c i - kr_gk g l 2))) = false) → kr_Wp C_G_give (kr_c (d + 2 + n)) Q 41 [some (.ref 1), some (.int (nI S)), some (.int (nI l)), some (.ref 36), some (.ref 37), some (.int (nI (kr_gk g l 2))), some (.int (nI dr))] [] μ' := by
        refine kr_up (I := fun dr => ∀ μ', kr_keep [36, 37] [] μ μ' → (∀ e, e < D → μ'.1 36 e = nI (c e)) → (∀ j, j < l → μ'.1 37 j = μ.1 37 j) → (∀ i, i < dr → (decide (kr_gk g l 2 ≤ c i) && kx_gv (fun l => kr_gk g l 2) D S n (l + 1) (kx_un c i (c i - kr_gk g l 2))) = false) → kr_Wp C_G_give (kr_c (d + 2 + n)) Q 41 [some (.ref 1), some (.int (nI S)), some (.int (nI l)), some (.ref 36), some (.ref 37), some (.int (nI (kr_gk g l 2))), some (.int (nI dr))] [] μ') D ?_ ?_
        · intro μ' hk h6 h7 hf
          rw [show d + 2 + n = (d + n + 1) + 1 by omega]
          refine v_G_give_41 (br_t (by rw [hk.2 1 8 (by decide) (by decide), h8]; exact Int32.le_refl _) ?_)
          have hgf : kx_gv (fun l => kr_gk g l 2) D S (n + 1) l c = false := by
            rw [kx_gv_s, if_pos cb]
            apply Decidable.byContradiction
            intro z
            have z : kx_gd (fun l => kr_gk g l 2) D S n l c < D := by simpa using z
            have z2 := kx_ff_yes (fun d => decide (kr_gk g l 2 ≤ c d) && kx_gv (fun l => kr_gk g l 2) D S n (l + 1) (kx_un c d (c d - kr_gk g l 2))) D 0 (by rw [Nat.zero_add]; exact z)
            have z3 := hf _ z
            unfold kx_gd at z3
            rw [z3] at z2
            cases z2
          have k1 := k μ' ⟨hk, h7, fun z => by (rw [hgf] at z; cases z), fun _ => h6⟩
          rw [hgf] at k1
          exact k1
        · intro dr hdr ih2 μ' hk h6 h7 hf
          have v5 : vp_in (nI dr) 5 := vp_in_nI (by omega) (by decide)
          have hcb := hb dr hdr
          have ih2' : ∀ μ', kr_keep [36, 37] [] μ μ' → (∀ e, e < D → μ'.1 36 e = nI (c e)) → (∀ j, j < l → μ'.1 37 j = μ.1 37 j) → (decide (kr_gk g l 2 ≤ c dr) && kx_gv (fun l => kr_gk g l 2) D S n (l + 1) (kx_un c dr (c dr - kr_gk g l 2))) = false → kr_Wp C_G_give (kr_c (d + n + 1 + 1)) Q 41 [some (.ref 1), some (.int (nI S)), some (.int (nI l)), some (.ref 36), some (.ref 37), some (.int (nI (kr_gk g l 2))), some (.int (nI (dr + 1)))] [] μ' := by
            intro μ' a1 a2 a3 a4
            rw [show d + n + 1 + 1 = d + 2 + n by omega]
            refine ih2 μ' a1 a2 a3 (fun i hi => ?_)
            by_cases e : i = dr
            · rw [e]; exact a4
            · exact hf i (by omega)
          rw [show d + 2 + n = (d + n + 1) + 1 by omega]
          refine v_G_give_41 (br_f (by rw [hk.2 1 8 (by decide) (by decide), h8]; exact nI_ge hdr (by omega)) ⟨v5, ?_⟩)
          rw [nI_clamp (by omega), h6 dr hdr, nI_ltI (by omega) (by omega), kr_n1]
          refine ⟨fun z => ih2' μ' hk h6 h7 (by simp; omega), fun z => ⟨v5, v5, vp_in_nI (by omega) (by decide), ?_⟩⟩
          have hle : kr_gk g l 2 ≤ c dr := by omega
          rw [pk_sub hle, nI_clamp (by omega), show (nI l + 1 : Int32) = nI (l + 1) from kr_n1 l, show d + n + 1 + 1 = d + 2 + n by omega]
          have hk2 : kr_keep [36, 37] [] μ (kr_u (kr_u μ' 36 dr (nI (c dr - kr_gk g l 2))) 37 l (nI dr)) := (hk.u _ _ (by decide)).u _ _ (by decide)
          refine ih (l + 1) (kx_un c dr (c dr - kr_gk g l 2)) (by omega) (by rw [hk2.2 1 2 (by decide) (by decide)]; exact h2) (by rw [hk2.2 1 8 (by decide) (by decide)]; exact h8) (fun l hl => by rw [hk2.row (o := 4) (by decide) (by decide)]; exact h4 l hl) (fun e he => ?_) (fun e he => ?_) (fun μ2 hp => ?_)
          · rw [kr_u_n _ _ _ (by decide), kr_u_s]
            by_cases ce : e = dr
            · rw [ce, kr_upd_s, kx_un_s]
            · rw [kr_upd_n _ _ ce, kx_un_n _ _ ce]; exact h6 e he
          · by_cases ce : e = dr
            · rw [ce, kx_un_s]; omega
            · rw [kx_un_n _ _ ce]; exact hb e he
          obtain ⟨p1, p2, p3, p4⟩ := hp
          have hk3 := hk2.tr p1
          have e37 : ∀ j, j < l → μ2.1 37 j = μ.1 37 j := fun j hj => by
            rw [p2 j (by omega), kr_u_s, kr_upd_n _ _ (by omega)]
            exact h7 j hj
          show kr_Wp C_G_give (kr_c (d + 2 + n)) Q 85 _ _ μ2
          rw [show d + 2 + n = (d + n + 1) + 1 by omega]
          refine v_G_give_85 ?_
          by_cases cg : kx_gv (fun l => kr_gk g l 2) D S n (l + 1) (kx_un c dr (c dr - kr_gk g l 2)) = true
          · rw [if_pos cg]
            refine br_f (by decide) ?_
            have hgd : kx_gd (fun l => kr_gk g l 2) D S n l c = dr := kx_ff_eq hdr (by simp [hle, cg]) hf
            have hgt : kx_gv (fun l => kr_gk g l 2) D S (n + 1) l c = true := by
              rw [kx_gv_s, if_pos cb, hgd]; simp [hdr]
            have k1 := k μ2 ⟨hk3, e37, fun _ j h1 h2 h3 => ?_, fun z => by (rw [hgt] at z; cases z)⟩
            · rw [if_pos hgt] at k1; exact k1
            · rw [kx_ga_s, if_pos cb, hgd]
              by_cases ej : j = l
              · rw [ej]
                show μ2.1 37 l = nI (if l = l then dr else _)
                rw [if_pos rfl, p2 l (by omega), kr_u_s, kr_upd_s]
              · show μ2.1 37 j = nI (if j = l then dr else _)
                rw [if_neg ej]
                exact p3 cg j (by omega) (by omega) h3
          · rw [if_neg cg]
            have cg : kx_gv (fun l => kr_gk g l 2) D S n (l + 1) (kx_un c dr (c dr - kr_gk g l 2)) = false := by simpa using cg
            have p4' := p4 cg
            refine br_t rfl ⟨v5, v5, ?_⟩
            rw [nI_clamp (by omega), p4' dr hdr, kx_un_s, nI_add, show c dr - kr_gk g l 2 + kr_gk g l 2 = c dr by omega, kr_n1]
            refine ih2' _ (hk3.u _ _ (by decide)) (fun e he => ?_) (fun j hj => ?_) (by simp [cg])
            · rw [kr_u_s]
              by_cases ce : e = dr
              · rw [ce, kr_upd_s]
              · rw [kr_upd_n _ _ ce, p4' e he, kx_un_n _ _ ce]
            · rw [kr_u_n _ _ _ (by decide)]; exact e37 j hj
      exact inner 0 (Nat.zero_le _) μ kr_keep.rf h36 (fun _ _ => rfl) (fun i hi => absurd hi (Nat.not_lt_zero i))
    · have cb : ¬ S.testBit l = true := by simpa using cb
      refine ih (l + 1) c (by omega) h2 h8 h4 h36 hb (fun μ' hp => ?_)
      show kr_Wp C_G_give (kr_c (d + 2 + n)) Q 29 _ _ μ'
      rw [show d + 2 + n = (d + n + 1) + 1 by omega]
      refine v_G_give_29 ⟨kr_bz, ?_⟩
      have e1 : kx_gv (fun l => kr_gk g l 2) D S (n + 1) l c = kx_gv (fun l => kr_gk g l 2) D S n (l + 1) c := by rw [kx_gv_s, if_neg cb]
      have k1 := k μ' ⟨hp.1, fun j hj => hp.2.1 j (by omega), fun z j h1 h2 h3 => ?_, fun z => hp.2.2.2 (by rw [← e1]; exact z)⟩
      · rw [e1] at k1; exact k1
      · rw [kx_ga_s, if_neg cb]
        refine hp.2.2.1 (by rw [← e1]; exact z) j ?_ (by omega) h3
        have : j ≠ l := fun e => cb (by rw [← e]; exact h3)
        omega
theorem kx_ys_yz (g : Nat → Nat) (S n : Nat) : kx_ys g S n = kx_yz (fun l => kr_gk g l 2) S n 0 := by
  have h := kx_yo_ys (fun l => kr_gk g l 2) S n 0
  rw [Nat.zero_add] at h
  have e : ∀ n, kx_ys g S n = kx_yo (fun l => kr_gk g l 2) S n := by
    intro n
    induction n with
    | zero => rfl
    | succ n ih =>
      unfold kx_ys kx_yo
      rw [ih]
  rw [e n, h]
  show 0 + _ = _
  omega
theorem c_G_canDraw {d : Nat} {Q : kr_Q} {μ : kr_M} {g : Nat → Nat} {D T who : Nat} (hY : kr_Wy μ g) (hg : kx_gb g) (h8 : μ.1 1 8 = nI D) (hD5 : D ≤ 5) (hc : ∀ e, e < D → g (62 + e) ≤ 50) (h6 : ∀ e, e < D → μ.1 6 e = nI (g (62 + e))) (hT : T < 2 ^ g 0) (hw : who < 2 ^ D) (k : ∀ μ', kr_keep [36, 37] [] μ μ' → (kx_cd g D T who = true → ∀ j, j < g 0 → T.testBit j = true → μ'.1 37 j = nI (kx_ga (fun l => kr_gk g l 2) D T (g 0) 0 (kx_wc who (kx_hc g)) j)) → Q (some (.int (if kx_cd g D T who = true then 1 else 0))) μ') : kr_c (d + 15) i_G_canDraw [.ref 35, .int (nI T), .int (nI who)] μ Q := by
  have hN := hg.1
  have hpD := kx_p5 hD5
  have hpN := kx_p12 hN
  refine v_G_canDraw (d := d + 12) ?_
  have hwb : ∀ e, e < D → kx_wc who (kx_hc g) e ≤ 50 := by
    intro e he
    unfold kx_wc
    have := hc e he
    split
    · exact this
    · omega
  have hcs : ∀ i, i ≤ D → kx_cs (kx_wc who (kx_hc g)) i ≤ 50 * i := by
    intro i
    induction i with
    | zero => intro _; exact Nat.le_refl _
    | succ i ih =>
      intro hi
      unfold kx_cs
      have := ih (by omega)
      have := hwb i (by omega)
      omega
  have main : ∀ i, i ≤ D → ∀ μ', kr_keep [36, 37] [] μ μ' → (∀ e, e < i → μ'.1 36 e = nI (kx_wc who (kx_hc g) e)) → kr_Wp C_G_canDraw (kr_c (d + 12 + 2)) Q 5 [some (.ref 35), some (.int (nI T)), some (.int (nI who)), some (.int (nI (kx_cs (kx_wc who (kx_hc g)) i))), some (.int (nI i))] [] μ' := by
    refine kr_up (I := fun i => ∀ μ', kr_keep [36, 37] [] μ μ' → (∀ e, e < i → μ'.1 36 e = nI (kx_wc who (kx_hc g) e)) → kr_Wp C_G_canDraw (kr_c (d + 12 + 2)) Q 5 [some (.ref 35), some (.int (nI T)), some (.int (nI who)), some (.int (nI (kx_cs (kx_wc who (kx_hc g)) i))), some (.int (nI i))] [] μ') D ?_ ?_
    · intro μ' hk h
      have hY' : kr_Wy μ' g := by
        refine ⟨⟨by rw [hk.2 1 2 (by decide) (by decide)]; exact hY.1.1, by rw [hk.2 1 1 (by decide) (by decide)]; exact hY.1.2⟩, fun l hl => ?_⟩
        rw [hk.row (o := 2) (by decide) (by decide), hk.row (o := 3) (by decide) (by decide), hk.row (o := 4) (by decide) (by decide), hk.row (o := 5) (by decide) (by decide)]
        exact hY.2 l hl
      refine v_G_canDraw_5 (br_t (by rw [hk.2 1 8 (by decide) (by decide), h8]; exact Int32.le_refl _) (c_R_yardsOf hY' hg (by omega) (v_G_canDraw_72 ?_)))
      have hcsD := hcs D (Nat.le_refl D)
      have hys : kx_ys g T (g 0) < 2 ^ 31 := by
        have := kx_ys_le (S := T) hg (g 0) (Nat.le_refl _)
        omega
      rw [nI_ltI (by omega) hys]
      refine ⟨fun c => ?_, fun c => ?_⟩
      · have hcd : kx_cd g D T who = false := by
          apply Decidable.byContradiction
          intro z
          have z : kx_cd g D T who = true := by simpa using z
          have := kx_gv_sum _ _ _ z
          rw [← kx_ys_yz] at this
          omega
        have k1 := k μ' hk (fun z => by rw [hcd] at z; cases z)
        rw [hcd] at k1
        exact k1
      · have cg := c_G_give hg hD5 (show T < 4096 by omega) (g 0) 0 (d := d + (12 - g 0)) (Q := kr_bk (kr_Wp C_G_canDraw (kr_c (d + 12 + 2)) Q) 92 [some (.ref 35), some (.int (nI T)), some (.int (nI who)), some (.int (nI (kx_cs (kx_wc who (kx_hc g)) D))), some (.int (nI D))] []) (μ := μ') (kx_wc who (kx_hc g)) (by omega) hY'.1.1 (by rw [hk.2 1 8 (by decide) (by decide), h8]) (fun l hl => (hY'.2 l hl).2.2.1) h (fun e he => by have := hwb e he; omega) (fun μ2 hp => v_G_canDraw_92 ?_)
        · rw [show d + (12 - g 0) + 2 + g 0 = d + 12 + 2 by omega] at cg
          exact cg
        · have k1 := k μ2 (hk.tr hp.1) (fun z j hj hb => hp.2.2.1 z j (Nat.zero_le _) (by omega) hb)
          change ((if kx_cd g D T who = true then (1 : Int32) else 0) = 0 → _) ∧ (¬ (if kx_cd g D T who = true then (1 : Int32) else 0) = 0 → _)
          by_cases cc : kx_cd g D T who = true
          · rw [if_pos cc] at k1 ⊢
            exact br_f (by decide) k1
          · rw [if_neg cc] at k1 ⊢
            exact br_t rfl k1
    · intro i hi ih μ' hk h
      have v5 : vp_in (nI i) 5 := vp_in_nI (by omega) (by decide)
      refine v_G_canDraw_5 (br_f (by rw [hk.2 1 8 (by decide) (by decide), h8]; exact nI_ge hi (by omega)) ?_)
      rw [kr_bit0 (by omega) (by omega), nI_clamp (by omega), kr_upd_s, kr_upd_s, hk.row (o := 6) (by decide) (by decide), h6 i hi, nI_add, kr_n1, show nI (kx_cs (kx_wc who (kx_hc g)) i) + 0 = nI (kx_cs (kx_wc who (kx_hc g)) i) from by simp]
      have ih' : ∀ w, kx_wc who (kx_hc g) i = w → kr_Wp C_G_canDraw (kr_c (d + 12 + 2)) Q 5 [some (.ref 35), some (.int (nI T)), some (.int (nI who)), some (.int (nI (kx_cs (kx_wc who (kx_hc g)) i + w))), some (.int (nI (i + 1)))] [] (kr_u μ' 36 i (nI w)) := by
        intro w hw
        have z := ih (kr_u μ' 36 i (nI w)) (hk.u _ _ (by decide)) (fun e he => by
          rw [kr_u_s]
          by_cases ce : e = i
          · rw [ce, kr_upd_s, hw]
          · rw [kr_upd_n _ _ ce]; exact h e (by omega))
        rw [show kx_cs (kx_wc who (kx_hc g)) (i + 1) = kx_cs (kx_wc who (kx_hc g)) i + w by rw [← hw]; rfl] at z
        exact z
      refine ⟨fun cb => ⟨v5, v5, ?_⟩, fun cb => ⟨v5, v5, v5, ?_⟩⟩
      · have cb : who.testBit i = false := by simpa using cb
        exact ih' 0 (if_neg (by simp [cb]))
      · exact ih' (g (62 + i)) (if_pos (by simpa using cb))
  exact main 0 (Nat.zero_le _) μ kr_keep.rf (fun e he => absurd he (Nat.not_lt_zero e))
theorem kr_ones_hi {a D : Nat} (ha : a < 2 ^ D) : ∀ n, D ≤ n → kr_ones n a = kr_ones D a := by
  intro n h
  induction h with
  | refl => rfl
  | step h ih =>
    rw [kr_ones_s, ih, Nat.testBit_lt_two_pow (Nat.lt_of_lt_of_le ha (Nat.pow_le_pow_right (n := 2) (by decide) h))]
    rfl
theorem c_G_fewestDrawers {d : Nat} {Q : kr_Q} {μ : kr_M} {g : Nat → Nat} {D T : Nat} (hY : kr_Wy μ g) (hg : kx_gb g) (h8 : μ.1 1 8 = nI D) (hD5 : D ≤ 5) (hc : ∀ e, e < D → g (62 + e) ≤ 50) (h6 : ∀ e, e < D → μ.1 6 e = nI (g (62 + e))) (hT : T < 2 ^ g 0) (k : ∀ μ', kr_keep [36, 37] [] μ μ' → (∀ who, kx_bst (kx_cd g D T) (2 ^ D) = some who → ∀ j, j < g 0 → T.testBit j = true → μ'.1 37 j = nI (kx_ga (fun l => kr_gk g l 2) D T (g 0) 0 (kx_wc who (kx_hc g)) j)) → Q (some (.int (kx_od (kx_bst (kx_cd g D T) (2 ^ D))))) μ') : kr_c (d + 16) i_G_fewestDrawers [.ref 35, .int (nI T)] μ Q := by
  have hpD := kx_p5 hD5
  refine v_G_fewestDrawers (d := d + 12) ?_
  have main : ∀ m, m ≤ D + 1 → ∀ μ', kr_keep [36, 37] [] μ μ' → (∀ i, i < 2 ^ D → kr_ones 12 i < m → kx_cd g D T i = false) → kr_Wp C_G_fewestDrawers (kr_c (d + 12 + 3)) Q 2 [some (.ref 35), some (.int (nI T)), some (.int (nI m)), none] [] μ' := by
    refine kr_up (I := fun m => ∀ μ', kr_keep [36, 37] [] μ μ' → (∀ i, i < 2 ^ D → kr_ones 12 i < m → kx_cd g D T i = false) → kr_Wp C_G_fewestDrawers (kr_c (d + 12 + 3)) Q 2 [some (.ref 35), some (.int (nI T)), some (.int (nI m)), none] [] μ') (D + 1) ?_ ?_
    · intro μ' hk h
      refine v_G_fewestDrawers_2 (br_t (by rw [hk.2 1 8 (by decide) (by decide), h8]; exact nI_lt (by omega) (by omega)) ?_)
      have hB : kx_bst (kx_cd g D T) (2 ^ D) = none := (kx_Bst_eq (r := none) (fun i hi => h i hi (by rw [kr_ones_hi hi 12 (by omega)]; have := kr_ones_le i D; omega))).symm
      have k1 := k μ' hk (fun who z => by rw [hB] at z; cases z)
      rw [hB] at k1
      exact k1
    · intro m hm ih μ' hk h
      refine v_G_fewestDrawers_2 (br_f (by rw [hk.2 1 8 (by decide) (by decide), h8]; exact nI_nlt (by omega) (by omega)) ?_)
      have inner : ∀ w, w ≤ 2 ^ D → ∀ μ', kr_keep [36, 37] [] μ μ' → (∀ i, i < w → kr_ones 12 i = m → kx_cd g D T i = false) → kr_Wp C_G_fewestDrawers (kr_c (d + 12 + 3)) Q 15 [some (.ref 35), some (.int (nI T)), some (.int (nI m)), some (.int (nI w))] [] μ' := by
        refine kr_up (I := fun w => ∀ μ', kr_keep [36, 37] [] μ μ' → (∀ i, i < w → kr_ones 12 i = m → kx_cd g D T i = false) → kr_Wp C_G_fewestDrawers (kr_c (d + 12 + 3)) Q 15 [some (.ref 35), some (.int (nI T)), some (.int (nI m)), some (.int (nI w))] [] μ') (2 ^ D) ?_ ?_
        · intro μ' hk h2
          refine v_G_fewestDrawers_15 (br_t (by rw [hk.2 1 8 (by decide) (by decide), h8, kr_1sh D (by omega)]; exact Int32.le_refl _) ?_)
          rw [kr_n1]
          refine ih μ' hk (fun i hi hm2 => ?_)
          by_cases e : kr_ones 12 i = m
          · exact h2 i hi e
          · exact h i hi (by omega)
        · intro w hw ih2 μ' hk h2
          refine v_G_fewestDrawers_15 (br_f (by rw [hk.2 1 8 (by decide) (by decide), h8, kr_1sh D (by omega)]; exact nI_ge hw (by omega)) (c_J6_bitCount (by omega) (v_G_fewestDrawers_32 ?_)))
          have hl := kr_ones_le w 12
          rw [nI_eq (by omega) (by omega), kr_n1]
          refine ⟨fun c => ih2 μ' hk (fun i hi e => ?_), fun c => ?_⟩
          · by_cases ei : i = w
            · rw [ei] at e; exact absurd e c
            · exact h2 i (by omega) e
          · refine c_G_canDraw (hY.kp hk (by decide)) hg (by rw [hk.2 1 8 (by decide) (by decide), h8]) hD5 hc (fun e he => by rw [hk.row (o := 6) (by decide) (by decide)]; exact h6 e he) hT hw (fun μ2 hk2 h37 => v_G_fewestDrawers_42 ?_)
            by_cases cc : kx_cd g D T w = true
            · rw [if_pos cc]
              refine br_f (by decide) ?_
              have hB : kx_bst (kx_cd g D T) (2 ^ D) = some w := (kx_Bst_eq (r := some w) ⟨hw, cc, fun i hi hpi => ?_⟩).symm
              · have k1 := k μ2 (hk.tr hk2) (fun who z => by
                  rw [hB] at z
                  cases z
                  exact h37 cc)
                rw [hB] at k1
                exact k1
              · rcases Nat.lt_trichotomy (kr_ones 12 i) m with q | q | q
                · rw [h i hi q] at hpi; cases hpi
                · by_cases ei : i < w
                  · rw [h2 i ei q] at hpi; cases hpi
                  · exact Or.inr ⟨by omega, by omega⟩
                · exact Or.inl (by omega)
            · rw [if_neg cc, kr_n1]
              refine br_t rfl (ih2 μ2 (hk.tr hk2) (fun i hi e => ?_))
              by_cases ei : i = w
              · rw [ei]; simpa using cc
              · exact h2 i (by omega) e
      exact inner 0 (Nat.zero_le _) μ' hk (fun i hi => absurd hi (Nat.not_lt_zero i))
  exact main 0 (Nat.zero_le _) μ kr_keep.rf (fun i _ hi => absurd hi (Nat.not_lt_zero _))
theorem c_C_share {d : Nat} {Q : kr_Q} {μ : kr_M} {g : Nat → Nat} {D : Nat} (hY : kr_Wy μ g) (hg : kx_gb g) (h8 : μ.1 1 8 = nI D) (hD5 : D ≤ 5) (hc : ∀ e, e < D → g (62 + e) ≤ 50) (h6 : ∀ e, e < D → μ.1 6 e = nI (g (62 + e))) {x what : Int32} (k : ∀ μ', kr_keep [36, 37] [] μ μ' → Q (some (.int (ax_share g D x what))) μ') : kr_c (d + 17) i_C_share [.ref 0, .int x, .int what] μ Q := by
  have hN := hg.1
  have hpD := kx_p5 hD5
  have hpN := kx_p12 hN
  refine v_C_share (d := d + 12) ?_
  rw [hY.1.1]
  unfold ax_share at k
  refine ⟨fun c => by rw [if_neg c] at k; exact k μ kr_keep.rf, fun c => ?_⟩
  rw [if_pos c] at k
  obtain ⟨S, hS, rfl⟩ := kr_set hN c
  rw [nI_clamp (by omega)] at k
  have l1 := kr_ones_le S 12
  refine c_J6_bitCount (by omega) (v_C_share_20 ?_)
  rw [show (8 : Int32) = nI 8 from rfl, nI_leI (by omega) (by omega), hY.1.1]
  refine ⟨fun c8 => ?_, fun c8 => by rw [if_pos (by omega)] at k; exact k μ kr_keep.rf⟩
  rw [if_neg (by omega)] at k
  have go : (what = 0 ∨ what = 1 ∨ (0 ≤ what - 10 ∧ what - 10 < nI (g 0))) → kr_c (d + 12 + 4) i_G_fewestDrawers [.ref 35, .int (nI S)] μ (kr_bk (kr_Wp C_C_share (kr_c (d + 12 + 4)) Q) 63 [some (.ref 0), some (.int (nI S)), some (.int what), some (.int (what - 10)), none] []) := by
    intro hq
    rw [if_pos hq] at k
    refine c_G_fewestDrawers hY hg h8 hD5 hc h6 hS (fun μ1 hk1 h37 => v_C_share_63 ?_)
    have k1 := k μ1 hk1
    cases hb : kx_bst (kx_cd g D S) (2 ^ D) with
    | none =>
      rw [hb] at k1
      exact ⟨fun _ => k1, fun z => absurd rfl z⟩
    | some who =>
      have hwl := kx_bst_lt hb
      rw [hb] at k1
      refine ⟨fun z => absurd z (kx_neg4 (a := who) (by omega)), fun _ => ?_⟩
      by_cases w1 : what = 1
      · subst w1
        exact ⟨fun z => absurd rfl z, fun _ => k1⟩
      by_cases w0 : what = 0
      · subst w0
        exact ⟨fun _ => ⟨fun z => absurd rfl z, fun _ => c_J6_bitCount (by omega) (v_C_share_89 k1)⟩, fun z => absurd z (by decide)⟩
      obtain ⟨L, hL, e⟩ := kr_ix (by omega) (hq.resolve_left w0 |>.resolve_left w1)
      rw [kx_sh2_s, if_neg w1, if_neg w0, e, nI_clamp (by omega)] at k1
      refine ⟨fun _ => ⟨fun _ => ?_, fun z => absurd z w0⟩, fun z => absurd z w1⟩
      rw [e, kr_bit0 (by omega) (by omega), nI_clamp (by omega)]
      refine ⟨fun cb => ?_, fun cb => ⟨vp_in_nI (by omega) (by decide), ?_⟩⟩
      · rw [if_neg (by simpa using cb)] at k1; exact k1
      · have cb : S.testBit L = true := by simpa using cb
        rw [h37 who hb L hL cb]
        rw [if_pos cb] at k1
        exact k1
  refine ⟨fun z => go (Or.inl z), fun z0 => ⟨fun z => go (Or.inr (Or.inl z)), fun z1 => ⟨fun z => ?_, fun z10 => ⟨fun z => ?_, fun z => ?_⟩⟩⟩⟩
  · rw [if_neg (fun q => ?_)] at k
    · exact k μ kr_keep.rf
    · rcases q with q | q | q
      · exact z0 q
      · exact z1 q
      · obtain ⟨L, hL, e⟩ := kr_ix (by omega) q
        have ew : what = nI (L + 10) := by
          rw [← nI_add, ← e, show nI 10 = (10 : Int32) from rfl, Int32.sub_add_cancel]
        rw [ew] at z
        exact absurd z (nI_nlt (a := L + 10) (b := 10) (by omega) (by omega))
  · exact go (Or.inr (Or.inr z))
  · rw [if_neg (fun q => ?_)] at k
    · exact k μ kr_keep.rf
    · rcases q with q | q | q
      · exact z0 q
      · exact z1 q
      · exact z q
