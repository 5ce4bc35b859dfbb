/-! breaks: the reference -/
theorem st_M_isBreak {d : Nat} {Q : kr_Q} {pc : Nat} {ls : kr_L} {st : List Value} {μ : kr_M} (h : C_M_isBreak pc (kr_Wp C_M_isBreak (kr_c d) Q) (kr_c d) Q ls st μ) : kr_Wp C_M_isBreak (kr_c d) Q pc ls st μ := kr_Wp.step (fun pc => (kr_ok_M_isBreak pc).2) (kr_c_om d) h
theorem v_M_isBreak {d : Nat} {Q : kr_Q} {μ : kr_M} {a1 : Int32} (h : kr_Wp C_M_isBreak (kr_c d) Q 4 [some (.ref 65), some (.int a1), some (.int 1), some (.int 0), none] [] μ) : kr_c (d + 1) i_M_isBreak [.ref 65, .int a1] μ Q := ⟨rfl, (st_M_isBreak (st_M_isBreak (st_M_isBreak (st_M_isBreak h))))⟩
theorem v_M_isBreak_4 {d : Nat} {Q : kr_Q} {μ : kr_M} {a1 : Int32} {a2 : Int32} {a3 : Int32} (h : (((μ.1 66 108) ≤ a3 → (a2 = 0 ∨ a2 = 1) ∧ Q (some (.int a2)) μ) ∧ (¬ ((μ.1 66 108) ≤ a3) → ((a2 = 0 → kr_Wp C_M_isBreak (kr_c d) Q 4 [some (.ref 65), some (.int a1), some (.int 0), some (.int (a3 + 1)), none] [] μ) ∧ (¬ (a2 = 0) → vp_in ((109 : Int32) + ((2 : Int32) * a3)) 375 ∧ ((¬ ((μ.1 66 (((109 : Int32) + ((2 : Int32) * a3)).toNatClampNeg)) &&& a1) = 0 → vp_in (((109 : Int32) + ((2 : Int32) * a3)) + (1 : Int32)) 375 ∧ ((¬ (μ.1 66 ((((109 : Int32) + ((2 : Int32) * a3)) + (1 : Int32)).toNatClampNeg)) = 1 → kr_Wp C_M_isBreak (kr_c d) Q 4 [some (.ref 65), some (.int a1), some (.int 1), some (.int (a3 + 1)), none] [] μ) ∧ ((μ.1 66 ((((109 : Int32) + ((2 : Int32) * a3)) + (1 : Int32)).toNatClampNeg)) = 1 → kr_Wp C_M_isBreak (kr_c d) Q 4 [some (.ref 65), some (.int a1), some (.int 0), some (.int (a3 + 1)), none] [] μ))) ∧ (((μ.1 66 (((109 : Int32) + ((2 : Int32) * a3)).toNatClampNeg)) &&& a1) = 0 → vp_in (((109 : Int32) + ((2 : Int32) * a3)) + (1 : Int32)) 375 ∧ ((¬ (μ.1 66 ((((109 : Int32) + ((2 : Int32) * a3)) + (1 : Int32)).toNatClampNeg)) = 1 → kr_Wp C_M_isBreak (kr_c d) Q 4 [some (.ref 65), some (.int a1), some (.int 0), some (.int (a3 + 1)), none] [] μ) ∧ ((μ.1 66 ((((109 : Int32) + ((2 : Int32) * a3)) + (1 : Int32)).toNatClampNeg)) = 1 → kr_Wp C_M_isBreak (kr_c d) Q 4 [some (.ref 65), some (.int a1), some (.int 1), some (.int (a3 + 1)), none] [] μ))))))))) : kr_Wp C_M_isBreak (kr_c d) Q 4 [some (.ref 65), some (.int a1), some (.int a2), some (.int a3), none] [] μ := (st_M_isBreak (st_M_isBreak (st_M_isBreak (And.intro rfl (st_M_isBreak (st_M_isBreak (And.intro ⟨375, rfl, kr_vp rfl⟩ (st_M_isBreak (And.intro (fun z1x => (st_M_isBreak (st_M_isBreak (h.1 z1x)))) (fun z1x => (st_M_isBreak (st_M_isBreak (st_M_isBreak (st_M_isBreak (st_M_isBreak (st_M_isBreak (st_M_isBreak (st_M_isBreak (And.intro (fun z2x => (st_M_isBreak (st_M_isBreak (st_M_isBreak (st_M_isBreak (kr_Wp.lm [true, true, true, true, false] ((h.2 z1x).1 z2x))))))) (fun z2x => (st_M_isBreak (st_M_isBreak (And.intro rfl (st_M_isBreak (st_M_isBreak (And.intro ⟨375, rfl, ((h.2 z1x).2 z2x).1⟩ (st_M_isBreak (st_M_isBreak (st_M_isBreak (And.intro (fun z3x => (st_M_isBreak (st_M_isBreak (st_M_isBreak (And.intro rfl (st_M_isBreak (st_M_isBreak (st_M_isBreak (st_M_isBreak (And.intro ⟨375, rfl, (((h.2 z1x).2 z2x).2.1 z3x).1⟩ (st_M_isBreak (st_M_isBreak (And.intro (fun z4x => (st_M_isBreak (st_M_isBreak (And.intro (fun q => absurd q (by decide)) (fun _ => (st_M_isBreak (st_M_isBreak (st_M_isBreak (st_M_isBreak (st_M_isBreak (kr_Wp.lm [true, true, true, true, false] ((((h.2 z1x).2 z2x).2.1 z3x).2.1 z4x)))))))))))) (fun z4x => (st_M_isBreak (st_M_isBreak (st_M_isBreak (And.intro (fun _ => (st_M_isBreak (st_M_isBreak (st_M_isBreak (st_M_isBreak (kr_Wp.lm [true, true, true, true, false] ((((h.2 z1x).2 z2x).2.1 z3x).2.2 (Decidable.not_not.mp z4x)))))))) (fun q => absurd (by decide) q))))))))))))))))))) (fun z3x => (st_M_isBreak (st_M_isBreak (st_M_isBreak (st_M_isBreak (And.intro rfl (st_M_isBreak (st_M_isBreak (st_M_isBreak (st_M_isBreak (And.intro ⟨375, rfl, (((h.2 z1x).2 z2x).2.2 (Decidable.not_not.mp z3x)).1⟩ (st_M_isBreak (st_M_isBreak (And.intro (fun z7x => (st_M_isBreak (st_M_isBreak (And.intro (fun _ => (st_M_isBreak (st_M_isBreak (st_M_isBreak (st_M_isBreak (kr_Wp.lm [true, true, true, true, false] ((((h.2 z1x).2 z2x).2.2 (Decidable.not_not.mp z3x)).2.1 z7x))))))) (fun q => absurd (by decide) q))))) (fun z7x => (st_M_isBreak (st_M_isBreak (st_M_isBreak (And.intro (fun q => absurd q (by decide)) (fun _ => (st_M_isBreak (st_M_isBreak (st_M_isBreak (st_M_isBreak (st_M_isBreak (kr_Wp.lm [true, true, true, true, false] ((((h.2 z1x).2 z2x).2.2 (Decidable.not_not.mp z3x)).2.2 (Decidable.not_not.mp z7x))))))))))))))))))))))))))))))))))))))))))))))))))))))))))
theorem st_M_findBreaks {d : Nat} {Q : kr_Q} {pc : Nat} {ls : kr_L} {st : List Value} {μ : kr_M} (h : C_M_findBreaks pc (kr_Wp C_M_findBreaks (kr_c d) Q) (kr_c d) Q ls st μ) : kr_Wp C_M_findBreaks (kr_c d) Q pc ls st μ := kr_Wp.step (fun pc => (kr_ok_M_findBreaks pc).2) (kr_c_om d) h
theorem v_M_findBreaks {d : Nat} {Q : kr_Q} {μ : kr_M}  (h : kr_Wp C_M_findBreaks (kr_c (d + 1)) Q 43 [some (.ref 65), some (.int 0), none, none, none] [] (kr_u (kr_u (kr_u (kr_u (kr_u (kr_u μ 65 34 0) 65 35 (-4)) 65 36 (-4)) 65 37 0) 65 38 (((1 : Int32) <<< ((μ.1 66 0) &&& 31)) - (1 : Int32))) 65 39 0)) : kr_c (d + 2) i_M_findBreaks [.ref 65] μ Q := ⟨rfl, (st_M_findBreaks (st_M_findBreaks (st_M_findBreaks (And.intro rfl (st_M_findBreaks (st_M_findBreaks (st_M_findBreaks (And.intro rfl (st_M_findBreaks (st_M_findBreaks (st_M_findBreaks (And.intro rfl (st_M_findBreaks (st_M_findBreaks (st_M_findBreaks (And.intro rfl (st_M_findBreaks (st_M_findBreaks (st_M_findBreaks (st_M_findBreaks (And.intro rfl (st_M_findBreaks (st_M_findBreaks (And.intro ⟨375, rfl, kr_vp rfl⟩ (st_M_findBreaks (st_M_findBreaks (st_M_findBreaks (st_M_findBreaks (And.intro rfl (st_M_findBreaks (st_M_findBreaks (st_M_findBreaks (And.intro rfl (st_M_findBreaks (st_M_findBreaks h)))))))))))))))))))))))))))))))))))⟩
theorem v_M_findBreaks_43 {d : Nat} {Q : kr_Q} {μ : kr_M} {a1 : Int32} (h : (((12 : Int32) ≤ a1 → kr_Wp C_M_findBreaks (kr_c (d + 1)) Q 64 [some (.ref 65), some (.int 0), none, none, none] [] μ) ∧ (¬ ((12 : Int32) ≤ a1) → vp_in a1 12 ∧ kr_Wp C_M_findBreaks (kr_c (d + 1)) Q 43 [some (.ref 65), some (.int (a1 + 1)), none, none, none] [] (kr_u μ 82 a1.toNatClampNeg 0)))) : kr_Wp C_M_findBreaks (kr_c (d + 1)) Q 43 [some (.ref 65), some (.int a1), none, none, none] [] μ := (st_M_findBreaks (st_M_findBreaks (st_M_findBreaks (And.intro (fun z1x => (st_M_findBreaks (st_M_findBreaks (h.1 z1x)))) (fun z1x => (st_M_findBreaks (st_M_findBreaks (And.intro rfl (st_M_findBreaks (st_M_findBreaks (st_M_findBreaks (And.intro ⟨12, rfl, (h.2 z1x).1⟩ (st_M_findBreaks (st_M_findBreaks (h.2 z1x).2))))))))))))))
theorem v_M_findBreaks_64 {d : Nat} {Q : kr_Q} {μ : kr_M} {a1 : Int32} (h : ((((1 : Int32) <<< ((μ.1 66 0) &&& 31)) ≤ a1 → Q none μ) ∧ (¬ (((1 : Int32) <<< ((μ.1 66 0) &&& 31)) ≤ a1) → kr_c (d + 1) i_M_isBreak [.ref 65, .int a1] μ (kr_bk (kr_Wp C_M_findBreaks (kr_c (d + 1)) Q) 81 [some (.ref 65), some (.int a1), none, none, none] [])))) : kr_Wp C_M_findBreaks (kr_c (d + 1)) Q 64 [some (.ref 65), some (.int a1), none, none, none] [] μ := (st_M_findBreaks (st_M_findBreaks (st_M_findBreaks (st_M_findBreaks (And.intro rfl (st_M_findBreaks (st_M_findBreaks (And.intro ⟨375, rfl, kr_vp rfl⟩ (st_M_findBreaks (st_M_findBreaks (And.intro (fun z1x => (st_M_findBreaks (h.1 z1x))) (fun z1x => (st_M_findBreaks (st_M_findBreaks (st_M_findBreaks (And.intro rfl (h.2 z1x)))))))))))))))))
theorem v_M_findBreaks_210 {d : Nat} {Q : kr_Q} {μ : kr_M} {a1 : Int32} {a2 : Int32} {a3 : Int32} {a4 : Int32} (h : (((μ.1 66 0) ≤ a4 → kr_Wp C_M_findBreaks (kr_c (d + 1)) Q 64 [some (.ref 65), some (.int (a1 + 1)), none, none, none] [] μ) ∧ (¬ ((μ.1 66 0) ≤ a4) → vp_in a4 12 ∧ vp_in a4 12 ∧ kr_Wp C_M_findBreaks (kr_c (d + 1)) Q 210 [some (.ref 65), some (.int a1), some (.int a2), some (.int a3), some (.int (a4 + 1))] [] (kr_u μ 82 a4.toNatClampNeg ((μ.1 82 a4.toNatClampNeg) + ((a1 >>> (a4 &&& 31)) &&& (1 : Int32))))))) : kr_Wp C_M_findBreaks (kr_c (d + 1)) Q 210 [some (.ref 65), some (.int a1), some (.int a2), some (.int a3), some (.int a4)] [] μ := (st_M_findBreaks (st_M_findBreaks (st_M_findBreaks (And.intro rfl (st_M_findBreaks (st_M_findBreaks (And.intro ⟨375, rfl, kr_vp rfl⟩ (st_M_findBreaks (And.intro (fun z1x => (st_M_findBreaks (st_M_findBreaks (kr_Wp.lm [true, true, false, false, false] (h.1 z1x))))) (fun z1x => (st_M_findBreaks (st_M_findBreaks (And.intro rfl (st_M_findBreaks (st_M_findBreaks (st_M_findBreaks (And.intro ⟨12, rfl, (h.2 z1x).1⟩ (st_M_findBreaks (st_M_findBreaks (st_M_findBreaks (st_M_findBreaks (st_M_findBreaks (st_M_findBreaks (st_M_findBreaks (And.intro ⟨12, rfl, (h.2 z1x).2.1⟩ (st_M_findBreaks (st_M_findBreaks (h.2 z1x).2.2)))))))))))))))))))))))))))
theorem v_M_findBreaks_81 {d : Nat} {Q : kr_Q} {μ : kr_M} {a1 : Int32} {r : Int32} (h : ((r = 0 → kr_Wp C_M_findBreaks (kr_c (d + 1)) Q 64 [some (.ref 65), some (.int (a1 + 1)), none, none, none] [] μ) ∧ (¬ (r = 0) → kr_c (d + 1) i_M_bitsOf [.int a1] (kr_u (kr_u (kr_u μ 65 34 ((μ.1 65 34) + (1 : Int32))) 65 38 ((μ.1 65 38) &&& a1)) 65 39 ((μ.1 65 39) ||| a1)) (kr_bk (kr_Wp C_M_findBreaks (kr_c (d + 1)) Q) 118 [some (.ref 65), some (.int a1), none, none, none] [])))) : kr_Wp C_M_findBreaks (kr_c (d + 1)) Q 81 [some (.ref 65), some (.int a1), none, none, none] [.int r] μ := (st_M_findBreaks (And.intro (fun z1x => (st_M_findBreaks (st_M_findBreaks (h.1 z1x)))) (fun z1x => (st_M_findBreaks (st_M_findBreaks (st_M_findBreaks (And.intro rfl (st_M_findBreaks (st_M_findBreaks (st_M_findBreaks (And.intro rfl (st_M_findBreaks (st_M_findBreaks (st_M_findBreaks (And.intro rfl (st_M_findBreaks (st_M_findBreaks (st_M_findBreaks (And.intro rfl (st_M_findBreaks (st_M_findBreaks (st_M_findBreaks (And.intro rfl (st_M_findBreaks (st_M_findBreaks (st_M_findBreaks (And.intro rfl (st_M_findBreaks (st_M_findBreaks (h.2 z1x))))))))))))))))))))))))))))))
theorem v_M_findBreaks_118 {d : Nat} {Q : kr_Q} {μ : kr_M} {a1 : Int32} {r : Int32} (h : (((μ.1 65 35) = (-4) → kr_Wp C_M_findBreaks (kr_c (d + 1)) Q 210 [some (.ref 65), some (.int a1), some (.int r), some (.int 1), some (.int 0)] [] (kr_u (kr_u (kr_u μ 65 35 r) 65 36 a1) 65 37 1)) ∧ (¬ ((μ.1 65 35) = (-4)) → (((μ.1 65 35) ≤ r → ((¬ r = (μ.1 65 35) → kr_Wp C_M_findBreaks (kr_c (d + 1)) Q 210 [some (.ref 65), some (.int a1), some (.int r), some (.int 0), some (.int 0)] [] (kr_u (kr_u (kr_u μ 65 35 (μ.1 65 35)) 65 36 (μ.1 65 36)) 65 37 ((μ.1 65 37) + (0 : Int32)))) ∧ (r = (μ.1 65 35) → kr_Wp C_M_findBreaks (kr_c (d + 1)) Q 210 [some (.ref 65), some (.int a1), some (.int r), some (.int 0), some (.int 0)] [] (kr_u (kr_u (kr_u μ 65 35 (μ.1 65 35)) 65 36 (μ.1 65 36)) 65 37 ((μ.1 65 37) + (1 : Int32)))))) ∧ (¬ ((μ.1 65 35) ≤ r) → kr_Wp C_M_findBreaks (kr_c (d + 1)) Q 210 [some (.ref 65), some (.int a1), some (.int r), some (.int 1), some (.int 0)] [] (kr_u (kr_u (kr_u μ 65 35 r) 65 36 a1) 65 37 1)))))) : kr_Wp C_M_findBreaks (kr_c (d + 1)) Q 118 [some (.ref 65), some (.int a1), none, none, none] [.int r] μ := (st_M_findBreaks (st_M_findBreaks (st_M_findBreaks (And.intro rfl (st_M_findBreaks (st_M_findBreaks (And.intro (fun z1x => (st_M_findBreaks (st_M_findBreaks (st_M_findBreaks (st_M_findBreaks (st_M_findBreaks (st_M_findBreaks (And.intro (fun q => absurd q (by decide)) (fun _ => (st_M_findBreaks (st_M_findBreaks (st_M_findBreaks (And.intro rfl (st_M_findBreaks (st_M_findBreaks (st_M_findBreaks (And.intro (fun q => absurd q (by decide)) (fun _ => (st_M_findBreaks (st_M_findBreaks (st_M_findBreaks (And.intro rfl (st_M_findBreaks (st_M_findBreaks (st_M_findBreaks (And.intro (fun q => absurd q (by decide)) (fun _ => (st_M_findBreaks (st_M_findBreaks (st_M_findBreaks (And.intro rfl (st_M_findBreaks (st_M_findBreaks (h.1 z1x)))))))))))))))))))))))))))))))))) (fun z1x => (st_M_findBreaks (st_M_findBreaks (st_M_findBreaks (And.intro rfl (st_M_findBreaks (And.intro (fun z5x => (st_M_findBreaks (st_M_findBreaks (st_M_findBreaks (st_M_findBreaks (st_M_findBreaks (And.intro (fun _ => (st_M_findBreaks (st_M_findBreaks (And.intro rfl (st_M_findBreaks (And.intro rfl (st_M_findBreaks (st_M_findBreaks (st_M_findBreaks (And.intro (fun _ => (st_M_findBreaks (st_M_findBreaks (And.intro rfl (st_M_findBreaks (And.intro rfl (st_M_findBreaks (st_M_findBreaks (st_M_findBreaks (And.intro (fun _ => (st_M_findBreaks (st_M_findBreaks (And.intro rfl (st_M_findBreaks (st_M_findBreaks (st_M_findBreaks (And.intro rfl (st_M_findBreaks (And.intro (fun z9x => (st_M_findBreaks (st_M_findBreaks (c_M_flag0 (st_M_findBreaks (st_M_findBreaks (And.intro rfl (st_M_findBreaks (st_M_findBreaks (((h.2 z1x).1 z5x).1 z9x)))))))))) (fun z9x => (st_M_findBreaks (st_M_findBreaks (st_M_findBreaks (c_M_flag1 (st_M_findBreaks (st_M_findBreaks (And.intro rfl (st_M_findBreaks (st_M_findBreaks (((h.2 z1x).1 z5x).2 (Decidable.not_not.mp z9x)))))))))))))))))))))) (fun q => absurd (by decide) q))))))))))) (fun q => absurd (by decide) q))))))))))) (fun q => absurd (by decide) q)))))))) (fun z5x => (st_M_findBreaks (st_M_findBreaks (st_M_findBreaks (st_M_findBreaks (st_M_findBreaks (st_M_findBreaks (And.intro (fun q => absurd q (by decide)) (fun _ => (st_M_findBreaks (st_M_findBreaks (st_M_findBreaks (And.intro rfl (st_M_findBreaks (st_M_findBreaks (st_M_findBreaks (And.intro (fun q => absurd q (by decide)) (fun _ => (st_M_findBreaks (st_M_findBreaks (st_M_findBreaks (And.intro rfl (st_M_findBreaks (st_M_findBreaks (st_M_findBreaks (And.intro (fun q => absurd q (by decide)) (fun _ => (st_M_findBreaks (st_M_findBreaks (st_M_findBreaks (And.intro rfl (st_M_findBreaks (st_M_findBreaks ((h.2 z1x).2 z5x))))))))))))))))))))))))))))))))))))))))))))))))
theorem st_M_breaks {d : Nat} {Q : kr_Q} {pc : Nat} {ls : kr_L} {st : List Value} {μ : kr_M} (h : C_M_breaks pc (kr_Wp C_M_breaks (kr_c d) Q) (kr_c d) Q ls st μ) : kr_Wp C_M_breaks (kr_c d) Q pc ls st μ := kr_Wp.step (fun pc => (kr_ok_M_breaks pc).2) (kr_c_om d) h
theorem v_M_breaks {d : Nat} {Q : kr_Q} {μ : kr_M} {a1 : Int32} (h : (((0 : Int64) ≤ a1.toInt64 ∧ a1.toInt64 ≤ (3 : Int64) → kr_c (d + 2) i_M_findBreaks [.ref 65] μ (kr_bk (kr_Wp C_M_breaks (kr_c (d + 2)) Q) 18 [some (.ref 65), some (.int a1)] [])) ∧ (¬ ((0 : Int64) ≤ a1.toInt64 ∧ a1.toInt64 ≤ (3 : Int64)) → Q (some (.int (-1))) μ))) : kr_c (d + 3) i_M_breaks [.ref 65, .int a1] μ Q := ⟨rfl, (st_M_breaks (st_M_breaks (st_M_breaks (st_M_breaks (st_M_breaks (c_M_in (st_M_breaks (And.intro (fun z1x => (st_M_breaks (st_M_breaks (And.intro rfl (h.1 (kr_b1 z1x)))))) (fun z1x => (st_M_breaks (st_M_breaks (h.2 (kr_b2 z1x)))))))))))))⟩
theorem v_M_breaks_18 {d : Nat} {Q : kr_Q} {μ : kr_M} {a1 : Int32} (h : ((¬ a1 = 0 → ((¬ a1 = 1 → ((¬ a1 = 2 → Q (some (.int (μ.1 65 37))) μ) ∧ (a1 = 2 → Q (some (.int (μ.1 65 36))) μ))) ∧ (a1 = 1 → Q (some (.int (μ.1 65 35))) μ))) ∧ (a1 = 0 → Q (some (.int (μ.1 65 34))) μ))) : kr_Wp C_M_breaks (kr_c (d + 2)) Q 18 [some (.ref 65), some (.int a1)] [] μ := (st_M_breaks (st_M_breaks (And.intro (fun z1x => (st_M_breaks (st_M_breaks (st_M_breaks (And.intro (fun z2x => (st_M_breaks (st_M_breaks (st_M_breaks (And.intro (fun z3x => (st_M_breaks (st_M_breaks (And.intro rfl (st_M_breaks (((h.1 z1x).1 z2x).1 z3x)))))) (fun z3x => (st_M_breaks (st_M_breaks (And.intro rfl (st_M_breaks (st_M_breaks (((h.1 z1x).1 z2x).2 (Decidable.not_not.mp z3x))))))))))))) (fun z2x => (st_M_breaks (st_M_breaks (And.intro rfl (st_M_breaks (st_M_breaks ((h.1 z1x).2 (Decidable.not_not.mp z2x))))))))))))) (fun z1x => (st_M_breaks (st_M_breaks (And.intro rfl (st_M_breaks (st_M_breaks (h.2 (Decidable.not_not.mp z1x)))))))))))
theorem st_M_known {d : Nat} {Q : kr_Q} {pc : Nat} {ls : kr_L} {st : List Value} {μ : kr_M} (h : C_M_known pc (kr_Wp C_M_known (kr_c d) Q) (kr_c d) Q ls st μ) : kr_Wp C_M_known (kr_c d) Q pc ls st μ := kr_Wp.step (fun pc => (kr_ok_M_known pc).2) (kr_c_om d) h
theorem v_M_known {d : Nat} {Q : kr_Q} {μ : kr_M} {a1 : Int32} (h : (((0 : Int64) ≤ a1.toInt64 ∧ a1.toInt64 ≤ (1 : Int64) → kr_c (d + 2) i_M_findBreaks [.ref 65] μ (kr_bk (kr_Wp C_M_known (kr_c (d + 2)) Q) 16 [some (.ref 65), some (.int a1)] [])) ∧ (¬ ((0 : Int64) ≤ a1.toInt64 ∧ a1.toInt64 ≤ (1 : Int64)) → Q (some (.int (-1))) μ))) : kr_c (d + 3) i_M_known [.ref 65, .int a1] μ Q := ⟨rfl, (st_M_known (st_M_known (st_M_known (st_M_known (st_M_known (c_M_in (st_M_known (And.intro (fun z1x => (st_M_known (st_M_known (And.intro rfl (h.1 (kr_b1 z1x)))))) (fun z1x => (st_M_known (st_M_known (h.2 (kr_b2 z1x)))))))))))))⟩
theorem v_M_known_16 {d : Nat} {Q : kr_Q} {μ : kr_M} {a1 : Int32} (h : ((¬ (μ.1 65 34) = 0 → ((¬ a1 = 0 → Q (some (.int ((((1 : Int32) <<< ((μ.1 66 0) &&& 31)) - (1 : Int32)) &&& ((μ.1 65 39) ^^^ (-1 : Int32))))) μ) ∧ (a1 = 0 → Q (some (.int (μ.1 65 38))) μ))) ∧ ((μ.1 65 34) = 0 → Q (some (.int (-4))) μ))) : kr_Wp C_M_known (kr_c (d + 2)) Q 16 [some (.ref 65), some (.int a1)] [] μ := (st_M_known (st_M_known (And.intro rfl (st_M_known (And.intro (fun z1x => (st_M_known (st_M_known (And.intro (fun z2x => (st_M_known (st_M_known (st_M_known (And.intro rfl (st_M_known (st_M_known (And.intro ⟨375, rfl, kr_vp rfl⟩ (st_M_known (st_M_known (st_M_known (st_M_known (st_M_known (And.intro rfl (st_M_known (st_M_known (st_M_known (st_M_known ((h.1 z1x).1 z2x))))))))))))))))))) (fun z2x => (st_M_known (st_M_known (And.intro rfl (st_M_known (st_M_known ((h.1 z1x).2 (Decidable.not_not.mp z2x)))))))))))) (fun z1x => (st_M_known (st_M_known (st_M_known (h.2 (Decidable.not_not.mp z1x)))))))))))
theorem st_M_ask {d : Nat} {Q : kr_Q} {pc : Nat} {ls : kr_L} {st : List Value} {μ : kr_M} (h : C_M_ask pc (kr_Wp C_M_ask (kr_c d) Q) (kr_c d) Q ls st μ) : kr_Wp C_M_ask (kr_c d) Q pc ls st μ := kr_Wp.step (fun pc => (kr_ok_M_ask pc).2) (kr_c_om d) h
theorem v_M_ask {d : Nat} {Q : kr_Q} {μ : kr_M} {a1 : Int32} (h : (((0 : Int64) ≤ a1.toInt64 ∧ a1.toInt64 ≤ (1 : Int64) → kr_c (d + 2) i_M_findBreaks [.ref 65] μ (kr_bk (kr_Wp C_M_ask (kr_c (d + 2)) Q) 16 [some (.ref 65), some (.int a1), none, none, none, none] [])) ∧ (¬ ((0 : Int64) ≤ a1.toInt64 ∧ a1.toInt64 ≤ (1 : Int64)) → Q (some (.int (-1))) μ))) : kr_c (d + 3) i_M_ask [.ref 65, .int a1] μ Q := ⟨rfl, (st_M_ask (st_M_ask (st_M_ask (st_M_ask (st_M_ask (c_M_in (st_M_ask (And.intro (fun z1x => (st_M_ask (st_M_ask (And.intro rfl (h.1 (kr_b1 z1x)))))) (fun z1x => (st_M_ask (st_M_ask (h.2 (kr_b2 z1x)))))))))))))⟩
theorem v_M_ask_27 {d : Nat} {Q : kr_Q} {μ : kr_M} {a1 : Int32} {a2 : Int32} {a3 : Int32} {a4 : Int32} (h : (((μ.1 66 0) ≤ a4 → ((¬ a2 = (-4) → ((¬ a1 = 0 → Q (some (.int a3)) μ) ∧ (a1 = 0 → Q (some (.int a2)) μ))) ∧ (a2 = (-4) → Q (some (.int (-4))) μ))) ∧ (¬ ((μ.1 66 0) ≤ a4) → vp_in a4 12 ∧ vp_in a4 12 ∧ (((μ.1 82 a4.toNatClampNeg) ≤ ((μ.1 65 34) - (μ.1 82 a4.toNatClampNeg)) → vp_in a4 12 ∧ ((a3 ≤ ((μ.1 65 34) - (μ.1 82 a4.toNatClampNeg)) → ((a3 ≤ ((μ.1 65 34) - (μ.1 82 a4.toNatClampNeg)) → kr_Wp C_M_ask (kr_c (d + 2)) Q 27 [some (.ref 65), some (.int a1), some (.int a2), some (.int a3), some (.int (a4 + 1)), none] [] μ) ∧ (¬ (a3 ≤ ((μ.1 65 34) - (μ.1 82 a4.toNatClampNeg))) → kr_Wp C_M_ask (kr_c (d + 2)) Q 27 [some (.ref 65), some (.int a1), some (.int a2), some (.int ((μ.1 65 34) - (μ.1 82 a4.toNatClampNeg))), some (.int (a4 + 1)), none] [] μ))) ∧ (¬ (a3 ≤ ((μ.1 65 34) - (μ.1 82 a4.toNatClampNeg))) → ((a3 ≤ ((μ.1 65 34) - (μ.1 82 a4.toNatClampNeg)) → kr_Wp C_M_ask (kr_c (d + 2)) Q 27 [some (.ref 65), some (.int a1), some (.int a4), some (.int a3), some (.int (a4 + 1)), none] [] μ) ∧ (¬ (a3 ≤ ((μ.1 65 34) - (μ.1 82 a4.toNatClampNeg))) → kr_Wp C_M_ask (kr_c (d + 2)) Q 27 [some (.ref 65), some (.int a1), some (.int a4), some (.int ((μ.1 65 34) - (μ.1 82 a4.toNatClampNeg))), some (.int (a4 + 1)), none] [] μ))))) ∧ (¬ ((μ.1 82 a4.toNatClampNeg) ≤ ((μ.1 65 34) - (μ.1 82 a4.toNatClampNeg))) → vp_in a4 12 ∧ ((a3 ≤ (μ.1 82 a4.toNatClampNeg) → ((a3 ≤ (μ.1 82 a4.toNatClampNeg) → kr_Wp C_M_ask (kr_c (d + 2)) Q 27 [some (.ref 65), some (.int a1), some (.int a2), some (.int a3), some (.int (a4 + 1)), none] [] μ) ∧ (¬ (a3 ≤ (μ.1 82 a4.toNatClampNeg)) → kr_Wp C_M_ask (kr_c (d + 2)) Q 27 [some (.ref 65), some (.int a1), some (.int a2), some (.int (μ.1 82 a4.toNatClampNeg)), some (.int (a4 + 1)), none] [] μ))) ∧ (¬ (a3 ≤ (μ.1 82 a4.toNatClampNeg)) → ((a3 ≤ (μ.1 82 a4.toNatClampNeg) → kr_Wp C_M_ask (kr_c (d + 2)) Q 27 [some (.ref 65), some (.int a1), some (.int a4), some (.int a3), some (.int (a4 + 1)), none] [] μ) ∧ (¬ (a3 ≤ (μ.1 82 a4.toNatClampNeg)) → kr_Wp C_M_ask (kr_c (d + 2)) Q 27 [some (.ref 65), some (.int a1), some (.int a4), some (.int (μ.1 82 a4.toNatClampNeg)), some (.int (a4 + 1)), none] [] μ))))))))) : kr_Wp C_M_ask (kr_c (d + 2)) Q 27 [some (.ref 65), some (.int a1), some (.int a2), some (.int a3), some (.int a4), none] [] μ := (st_M_ask (st_M_ask (st_M_ask (And.intro rfl (st_M_ask (st_M_ask (And.intro ⟨375, rfl, kr_vp rfl⟩ (st_M_ask (And.intro (fun z1x => (st_M_ask (st_M_ask (st_M_ask (And.intro (fun z2x => (st_M_ask (st_M_ask (And.intro (fun z3x => (st_M_ask (st_M_ask (((h.1 z1x).1 z2x).1 z3x)))) (fun z3x => (st_M_ask (st_M_ask (st_M_ask (((h.1 z1x).1 z2x).2 (Decidable.not_not.mp z3x)))))))))) (fun z2x => (st_M_ask (st_M_ask (st_M_ask ((h.1 z1x).2 (Decidable.not_not.mp z2x))))))))))) (fun z1x => (st_M_ask (st_M_ask (And.intro rfl (st_M_ask (st_M_ask (And.intro ⟨12, rfl, (h.2 z1x).1⟩ (st_M_ask (st_M_ask (And.intro rfl (st_M_ask (st_M_ask (And.intro rfl (st_M_ask (st_M_ask (And.intro ⟨12, rfl, (h.2 z1x).2.1⟩ (st_M_ask (st_M_ask (And.intro (fun z4x => (st_M_ask (st_M_ask (And.intro rfl (st_M_ask (st_M_ask (And.intro rfl (st_M_ask (st_M_ask (And.intro ⟨12, rfl, ((h.2 z1x).2.2.1 z4x).1⟩ (st_M_ask (st_M_ask (st_M_ask (st_M_ask (st_M_ask (And.intro (fun z5x => (st_M_ask (st_M_ask (st_M_ask (st_M_ask (st_M_ask (And.intro (fun z6x => (st_M_ask (st_M_ask (st_M_ask (st_M_ask (kr_Wp.lm [true, true, true, true, true, false] ((((h.2 z1x).2.2.1 z4x).2.1 z5x).1 z6x))))))) (fun z6x => (st_M_ask (st_M_ask (st_M_ask (st_M_ask (st_M_ask (kr_Wp.lm [true, true, true, true, true, false] ((((h.2 z1x).2.2.1 z4x).2.1 z5x).2 z6x))))))))))))))) (fun z5x => (st_M_ask (st_M_ask (st_M_ask (st_M_ask (st_M_ask (st_M_ask (And.intro (fun z7x => (st_M_ask (st_M_ask (st_M_ask (st_M_ask (kr_Wp.lm [true, true, true, true, true, false] ((((h.2 z1x).2.2.1 z4x).2.2 z5x).1 z7x))))))) (fun z7x => (st_M_ask (st_M_ask (st_M_ask (st_M_ask (st_M_ask (kr_Wp.lm [true, true, true, true, true, false] ((((h.2 z1x).2.2.1 z4x).2.2 z5x).2 z7x)))))))))))))))))))))))))))))))) (fun z4x => (st_M_ask (st_M_ask (And.intro rfl (st_M_ask (st_M_ask (And.intro ⟨12, rfl, ((h.2 z1x).2.2.2 z4x).1⟩ (st_M_ask (st_M_ask (st_M_ask (st_M_ask (st_M_ask (And.intro (fun z8x => (st_M_ask (st_M_ask (st_M_ask (st_M_ask (st_M_ask (And.intro (fun z9x => (st_M_ask (st_M_ask (st_M_ask (st_M_ask (kr_Wp.lm [true, true, true, true, true, false] ((((h.2 z1x).2.2.2 z4x).2.1 z8x).1 z9x))))))) (fun z9x => (st_M_ask (st_M_ask (st_M_ask (st_M_ask (st_M_ask (kr_Wp.lm [true, true, true, true, true, false] ((((h.2 z1x).2.2.2 z4x).2.1 z8x).2 z9x))))))))))))))) (fun z8x => (st_M_ask (st_M_ask (st_M_ask (st_M_ask (st_M_ask (st_M_ask (And.intro (fun z10x => (st_M_ask (st_M_ask (st_M_ask (st_M_ask (kr_Wp.lm [true, true, true, true, true, false] ((((h.2 z1x).2.2.2 z4x).2.2 z8x).1 z10x))))))) (fun z10x => (st_M_ask (st_M_ask (st_M_ask (st_M_ask (st_M_ask (kr_Wp.lm [true, true, true, true, true, false] ((((h.2 z1x).2.2.2 z4x).2.2 z8x).2 z10x)))))))))))))))))))))))))))))))))))))))))))))))))))))))))
theorem v_M_ask_16 {d : Nat} {Q : kr_Q} {μ : kr_M} {a1 : Int32} (h : kr_Wp C_M_ask (kr_c (d + 2)) Q 27 [some (.ref 65), some (.int a1), some (.int (-4)), some (.int (μ.1 65 34)), some (.int 0), none] [] μ) : kr_Wp C_M_ask (kr_c (d + 2)) Q 16 [some (.ref 65), some (.int a1), none, none, none, none] [] μ := (st_M_ask (st_M_ask (st_M_ask (st_M_ask (And.intro rfl (st_M_ask (st_M_ask (st_M_ask h))))))))
theorem kr_hi (h : Nat) : (109 : Int32) + 2 * nI h = nI (109 + 2 * h) := by
  rw [show (109 : Int32) = nI 109 from rfl, show (2 : Int32) = nI 2 from rfl, pk_mul, nI_add]
theorem c_M_isBreak {d : Nat} {Q : kr_Q} {μ : kr_M} {g : Nat → Nat} {b : Nat} (hM : kr_Mg μ g) (hb8 : kx_hb g) (hb : b < 4096) (k : Q (some (.int (if kx_ft g b (g 108) = true then 1 else 0))) μ) : kr_c (d + 1) i_M_isBreak [.ref 65, .int (nI b)] μ Q := by
  have h8 := hb8.1
  refine v_M_isBreak ?_
  refine kr_up (I := fun h => kr_Wp C_M_isBreak (kr_c d) Q 4 [some (.ref 65), some (.int (nI b)), some (.int (if kx_ft g b h = true then 1 else 0)), some (.int (nI h)), none] [] μ) (g 108) ?_ ?_ 0 (Nat.zero_le _)
  · exact v_M_isBreak_4 (br_t (by rw [hM 108 (by decide)]; exact Int32.le_refl _) ⟨kr_bz, k⟩)
  · intro h hh ih
    have hg2 := hb8.2 h hh
    refine v_M_isBreak_4 (br_f (by rw [hM 108 (by decide)]; exact nI_ge hh (by omega)) ?_)
    have ho := Nat.and_le_left (n := g (109 + 2 * h)) (m := b)
    rw [kr_n1]
    by_cases c : kx_ft g b h = true
    · have e : kx_ft g b (h + 1) = (((g (109 + 2 * h) &&& b) == 0) == (g (110 + 2 * h) == 1)) := by
        show (kx_ft g b h && _) = _
        rw [c, Bool.true_and]
      rw [if_pos c]
      refine br_f (by decide) ?_
      rw [kr_hi, kr_n1, nI_clamp (by omega), nI_clamp (by omega), hM _ (by omega), hM _ (by omega), kr_and, kr_eq0 (by omega), show 109 + 2 * h + 1 = 110 + 2 * h by omega, show (1 : Int32) = nI 1 from rfl, nI_eq (by omega) (by decide)]
      refine ⟨vp_in_nI (by omega) (by decide), fun c1 => ⟨vp_in_nI (by omega) (by decide), fun c2 => ?_, fun c2 => ?_⟩, fun c1 => ⟨vp_in_nI (by omega) (by decide), fun c2 => ?_, fun c2 => ?_⟩⟩
      · rw [if_pos (by rw [e, show ((g (109 + 2 * h) &&& b) == 0) = false from by simpa using c1, show (g (110 + 2 * h) == 1) = false from by simpa using c2]; rfl)] at ih
        exact ih
      · rw [if_neg (by rw [e, show ((g (109 + 2 * h) &&& b) == 0) = false from by simpa using c1, show (g (110 + 2 * h) == 1) = true from by simpa using c2]; decide)] at ih
        exact ih
      · rw [if_neg (by rw [e, show ((g (109 + 2 * h) &&& b) == 0) = true from by simpa using c1, show (g (110 + 2 * h) == 1) = false from by simpa using c2]; decide)] at ih
        exact ih
      · rw [if_pos (by rw [e, show ((g (109 + 2 * h) &&& b) == 0) = true from by simpa using c1, show (g (110 + 2 * h) == 1) = true from by simpa using c2]; rfl)] at ih
        exact ih
    · rw [if_neg c]
      rw [if_neg (fun z => c (kx_ft_le (Nat.le_succ h) z))] at ih
      exact br_t rfl ih
abbrev kr_bF : List (Nat × Nat) := [(65, 34), (65, 35), (65, 36), (65, 37), (65, 38), (65, 39)]
def kr_BF (μ : kr_M) (s : kx_B) : Prop := μ.1 65 34 = nI s.1 ∧ μ.1 65 35 = (if s.1 = 0 then -4 else nI s.2.1) ∧ μ.1 65 36 = (if s.1 = 0 then -4 else nI s.2.2.1) ∧ μ.1 65 37 = nI s.2.2.2.1 ∧ μ.1 65 38 = nI s.2.2.2.2.1 ∧ μ.1 65 39 = nI s.2.2.2.2.2.1
def kr_BM (μ : kr_M) (N : Nat) (s : kx_B) : Prop := kr_BF μ s ∧ ∀ l, l < N → μ.1 82 l = nI (s.2.2.2.2.2.2 l)
theorem c_M_findBreaks {d : Nat} {Q : kr_Q} {μ : kr_M} {g : Nat → Nat} (hM : kr_Mg μ g) (h12 : g 0 ≤ 12) (hb8 : kx_hb g) (k : ∀ μ', kr_keep [82] kr_bF μ μ' → kr_BM μ' (g 0) (kx_bg g) → Q none μ') : kr_c (d + 2) i_M_findBreaks [.ref 65] μ Q := by
  have hp := kx_p12 h12
  have hp0 := Nat.two_pow_pos (g 0)
  refine v_M_findBreaks ?_
  rw [hM 0 (by decide), kr_all1 _ h12]
  have fold : ∀ b, b ≤ 2 ^ g 0 → ∀ μ', kr_keep [82] kr_bF μ μ' → kr_BM μ' (g 0) (kx_bf g b) → kr_Wp C_M_findBreaks (kr_c (d + 1)) Q 64 [some (.ref 65), some (.int (nI b)), none, none, none] [] μ' := by
    refine kr_up (I := fun b => ∀ μ', kr_keep [82] kr_bF μ μ' → kr_BM μ' (g 0) (kx_bf g b) → kr_Wp C_M_findBreaks (kr_c (d + 1)) Q 64 [some (.ref 65), some (.int (nI b)), none, none, none] [] μ') (2 ^ g 0) ?_ ?_
    · intro μ' hk h
      refine v_M_findBreaks_64 (br_t (by rw [(hM.kp hk (by decide)) 0 (by decide), kr_1sh _ (by omega)]; exact Int32.le_refl _) (k μ' hk h))
    · intro b hb ih μ' hk h
      have hM' := hM.kp hk (by decide)
      refine v_M_findBreaks_64 (br_f (by rw [hM' 0 (by decide), kr_1sh _ (by omega)]; exact nI_ge hb (by omega)) (c_M_isBreak hM' hb8 (by omega) (v_M_findBreaks_81 ?_)))
      rw [kr_n1]
      by_cases c : kx_ft g b (g 108) = true
      · have e : kx_bf g (b + 1) = kx_ba b (kx_bf g b) := if_pos c
        rw [e] at ih
        have hi := kx_bf_i h12 b (by omega)
        generalize kx_bf g b = s at *
        obtain ⟨⟨i1, i2⟩, i3, i4, i5, i6, i7⟩ := hi
        obtain ⟨⟨f1, f2, f3, f4, f5, f6⟩, f7⟩ := h
        have ho := kr_ones_le b 12
        have loop : ∀ x y l, l ≤ g 0 → ∀ μ'', kr_keep [82] kr_bF μ μ'' → kr_BF μ'' (kx_ba b s) → (∀ j, j < g 0 → μ''.1 82 j = nI (if j < l then s.2.2.2.2.2.2 j + (b.testBit j).toNat else s.2.2.2.2.2.2 j)) → kr_Wp C_M_findBreaks (kr_c (d + 1)) Q 210 [some (.ref 65), some (.int (nI b)), some (.int x), some (.int y), some (.int (nI l))] [] μ'' := by
          intro x y
          refine kr_up (I := fun l => ∀ μ'', kr_keep [82] kr_bF μ μ'' → kr_BF μ'' (kx_ba b s) → (∀ j, j < g 0 → μ''.1 82 j = nI (if j < l then s.2.2.2.2.2.2 j + (b.testBit j).toNat else s.2.2.2.2.2.2 j)) → kr_Wp C_M_findBreaks (kr_c (d + 1)) Q 210 [some (.ref 65), some (.int (nI b)), some (.int x), some (.int y), some (.int (nI l))] [] μ'') (g 0) ?_ ?_
          · intro μ'' hk2 hF hw
            refine v_M_findBreaks_210 (br_t (by rw [(hM.kp hk2 (by decide)) 0 (by decide)]; exact Int32.le_refl _) ?_)
            rw [kr_n1]
            exact ih μ'' hk2 ⟨hF, fun l hl => by rw [hw l hl, if_pos hl]; rfl⟩
          · intro l hl ih2 μ'' hk2 hF hw
            have vl : vp_in (nI l) 12 := vp_in_nI (by omega) (by decide)
            refine v_M_findBreaks_210 (br_f (by rw [(hM.kp hk2 (by decide)) 0 (by decide)]; exact nI_ge hl (by omega)) ⟨vl, vl, ?_⟩)
            rw [nI_clamp (by omega), hw l hl, if_neg (Nat.lt_irrefl l), kr_bit (by omega) (by omega), nI_add, kr_n1]
            refine ih2 _ (hk2.u _ _ (by decide)) hF (fun j hj => ?_)
            rw [kr_u_s]
            by_cases ej : j = l
            · rw [ej, kr_upd_s, if_pos (Nat.lt_succ_self l)]
            · rw [kr_upd_n _ _ ej, hw j hj]
              by_cases c : j < l
              · rw [if_pos c, if_pos (by omega)]
              · rw [if_neg c, if_neg (by omega)]
        rw [if_pos c]
        refine br_f (by decide) (c_M_bitsOf (by omega) (v_M_findBreaks_118 ?_))
        rw [f1, f5, f6, kr_n1, kr_and, kr_or]
        generalize hμ1 : kr_u (kr_u (kr_u μ' 65 34 (nI (s.1 + 1))) 65 38 (nI (s.2.2.2.2.1 &&& b))) 65 39 (nI (s.2.2.2.2.2.1 ||| b)) = μ1
        have hk1 : kr_keep [82] kr_bF μ μ1 := by rw [← hμ1]; exact ((hk.f _ (by decide)).f _ (by decide)).f _ (by decide)
        have g1 : μ1.1 65 34 = nI (s.1 + 1) := by rw [← hμ1]; rfl
        have g2 : μ1.1 65 35 = (if s.1 = 0 then -4 else nI s.2.1) := by rw [← hμ1]; exact f2
        have g3 : μ1.1 65 36 = (if s.1 = 0 then -4 else nI s.2.2.1) := by rw [← hμ1]; exact f3
        have g4 : μ1.1 65 37 = nI s.2.2.2.1 := by rw [← hμ1]; exact f4
        have g5 : μ1.1 65 38 = nI (s.2.2.2.2.1 &&& b) := by rw [← hμ1]; rfl
        have g6 : μ1.1 65 39 = nI (s.2.2.2.2.2.1 ||| b) := by rw [← hμ1]; rfl
        have g7 : ∀ l, l < g 0 → μ1.1 82 l = nI (s.2.2.2.2.2.2 l) := by rw [← hμ1]; exact f7
        -- the three fields set anew
        have go : ∀ x y u v w, u = (kx_ba b s).2.1 → v = (kx_ba b s).2.2.1 → w = (kx_ba b s).2.2.2.1 → kr_Wp C_M_findBreaks (kr_c (d + 1)) Q 210 [some (.ref 65), some (.int (nI b)), some (.int x), some (.int y), some (.int 0)] [] (kr_u (kr_u (kr_u μ1 65 35 (nI u)) 65 36 (nI v)) 65 37 (nI w)) := by
          intro x y u v w hu hv hw
          refine loop x y 0 (Nat.zero_le _) _ (((hk1.f _ (by decide)).f _ (by decide)).f _ (by decide)) ⟨?_, ?_, ?_, ?_, ?_, ?_⟩ (fun j hj => ?_)
          · exact g1
          · show nI u = (if s.1 + 1 = 0 then -4 else nI (kx_ba b s).2.1)
            rw [if_neg (Nat.succ_ne_zero _), hu]
          · show nI v = (if s.1 + 1 = 0 then -4 else nI (kx_ba b s).2.2.1)
            rw [if_neg (Nat.succ_ne_zero _), hv]
          · show nI w = _
            rw [hw]
          · exact g5
          · exact g6
          · rw [if_neg (Nat.not_lt_zero j)]; exact g7 j hj
        rw [g2, g3, g4]
        by_cases c0 : s.1 = 0
        · rw [if_pos c0, if_pos c0]
          have h13 : s.2.1 = 13 := by rcases i3 with z | z; exact z.2; exact absurd c0 z.1
          exact br_t rfl (go _ _ (kr_ones 12 b) b 1 (if_pos (by omega)).symm (if_pos (by omega)).symm (if_pos (by omega)).symm)
        · rw [if_neg c0, if_neg c0]
          have h12' : s.2.1 ≤ 12 := by rcases i3 with z | z; exact absurd z.1 c0; exact z.2
          refine br_f (kx_neg4 (by omega)) ?_
          rw [nI_leI (by omega) (by omega), nI_eq (by omega) (by omega), kr_n1, show nI s.2.2.2.1 + 0 = nI s.2.2.2.1 from by simp]
          refine ⟨fun c1 => ⟨fun c2 => ?_, fun c2 => ?_⟩, fun c1 => ?_⟩
          · exact go _ _ s.2.1 s.2.2.1 s.2.2.2.1 (if_neg (by omega)).symm (if_neg (by omega)).symm (by
              show s.2.2.2.1 = (if kr_ones 12 b < s.2.1 then 1 else if kr_ones 12 b = s.2.1 then s.2.2.2.1 + 1 else s.2.2.2.1)
              rw [if_neg (by omega), if_neg c2])
          · exact go _ _ s.2.1 s.2.2.1 (s.2.2.2.1 + 1) (if_neg (by omega)).symm (if_neg (by omega)).symm (by
              show s.2.2.2.1 + 1 = (if kr_ones 12 b < s.2.1 then 1 else if kr_ones 12 b = s.2.1 then s.2.2.2.1 + 1 else s.2.2.2.1)
              rw [if_neg (by omega), if_pos c2])
          · exact go _ _ (kr_ones 12 b) b 1 (if_pos (by omega)).symm (if_pos (by omega)).symm (if_pos (by omega)).symm
      · have e : kx_bf g (b + 1) = kx_bf g b := if_neg c
        rw [if_neg c]
        exact br_t rfl (ih μ' hk (by rw [e]; exact h))
  have zero : ∀ l, l ≤ 12 → ∀ μ', kr_keep [82] kr_bF μ μ' → kr_BF μ' (kx_bf g 0) → (∀ j, j < l → μ'.1 82 j = 0) → kr_Wp C_M_findBreaks (kr_c (d + 1)) Q 43 [some (.ref 65), some (.int (nI l)), none, none, none] [] μ' := by
    refine kr_up (I := fun l => ∀ μ', kr_keep [82] kr_bF μ μ' → kr_BF μ' (kx_bf g 0) → (∀ j, j < l → μ'.1 82 j = 0) → kr_Wp C_M_findBreaks (kr_c (d + 1)) Q 43 [some (.ref 65), some (.int (nI l)), none, none, none] [] μ') 12 ?_ ?_
    · intro μ' hk h0 hz
      exact v_M_findBreaks_43 (br_t (Int32.le_refl _) (fold 0 (Nat.zero_le _) μ' hk ⟨h0, fun l hl => hz l (by omega)⟩))
    · intro l hl ih μ' hk h0 hz
      refine v_M_findBreaks_43 (br_f (nI_ge (b := 12) hl (by decide)) ⟨vp_in_nI hl (by decide), ?_⟩)
      rw [nI_clamp (by omega), kr_n1]
      refine ih _ (hk.u _ _ (by decide)) h0 (fun j hj => ?_)
      rw [kr_u_s]
      by_cases e : j = l
      · rw [e, kr_upd_s]
      · rw [kr_upd_n _ _ e]; exact hz j (by omega)
  exact zero 0 (Nat.zero_le _) _ ((((((kr_keep.rf.f _ (by decide)).f _ (by decide)).f _ (by decide)).f _ (by decide)).f _ (by decide)).f _ (by decide)) ⟨rfl, rfl, rfl, rfl, rfl, rfl⟩ (fun j hj => absurd hj (Nat.not_lt_zero j))
theorem kx_03 (x : Int32) : ((0 : Int64) ≤ x.toInt64 ∧ x.toInt64 ≤ (3 : Int64)) ↔ (0 ≤ x ∧ x ≤ 3) := by
  rw [show (0 : Int64) = ((0 : Int32)).toInt64 from by decide, show (3 : Int64) = ((3 : Int32)).toInt64 from by decide, kr_wle, kr_wle]
theorem kx_in03 {x : Int32} (h : 0 ≤ x ∧ x ≤ 3) : x = 0 ∨ x = 1 ∨ x = 2 ∨ x = 3 := by
  rw [kr_le, kr_le] at h
  simp only [kr_eqi, show (0 : Int32).toInt = 0 from rfl, show (1 : Int32).toInt = 1 from rfl, show (2 : Int32).toInt = 2 from rfl, show (3 : Int32).toInt = 3 from rfl] at h ⊢
  omega
theorem c_M_breaks {d : Nat} {Q : kr_Q} {μ : kr_M} {g : Nat → Nat} (hM : kr_Mg μ g) (h12 : g 0 ≤ 12) (hb8 : kx_hb g) {what : Int32} (k : ∀ μ', kr_keep [82] kr_bF μ μ' → Q (some (.int (ax_breaks g what))) μ') : kr_c (d + 3) i_M_breaks [.ref 65, .int what] μ Q := by
  refine v_M_breaks ?_
  rw [kx_03]
  unfold ax_breaks at k
  refine ⟨fun c => ?_, fun c => by rw [if_neg c] at k; exact k μ kr_keep.rf⟩
  rw [if_pos c] at k
  refine c_M_findBreaks hM h12 hb8 (fun μ' hk h => v_M_breaks_18 ?_)
  have hi := kx_bg_i h12
  have k1 := k μ' hk
  obtain ⟨⟨f1, f2, f3, f4, f5, f6⟩, -⟩ := h
  rw [f1, f2, f3, f4]
  rcases kx_in03 c with rfl | rfl | rfl | rfl
  · exact ⟨fun z => absurd rfl z, fun _ => k1⟩
  · exact ⟨fun _ => ⟨fun z => absurd rfl z, fun _ => k1⟩, fun z => absurd z (by decide)⟩
  · exact ⟨fun _ => ⟨fun _ => ⟨fun z => absurd rfl z, fun _ => k1⟩, fun z => absurd z (by decide)⟩, fun z => absurd z (by decide)⟩
  · exact ⟨fun _ => ⟨fun _ => ⟨fun _ => k1, fun z => absurd z (by decide)⟩, fun z => absurd z (by decide)⟩, fun z => absurd z (by decide)⟩
theorem c_M_known {d : Nat} {Q : kr_Q} {μ : kr_M} {g : Nat → Nat} (hM : kr_Mg μ g) (h12 : g 0 ≤ 12) (hb8 : kx_hb g) {what : Int32} (k : ∀ μ', kr_keep [82] kr_bF μ μ' → Q (some (.int (ax_known g what))) μ') : kr_c (d + 3) i_M_known [.ref 65, .int what] μ Q := by
  have hp := kx_p12 h12
  refine v_M_known ?_
  rw [kx_01]
  unfold ax_known at k
  refine ⟨fun c => ?_, fun c => by rw [if_neg c] at k; exact k μ kr_keep.rf⟩
  rw [if_pos c] at k
  refine c_M_findBreaks hM h12 hb8 (fun μ' hk h => v_M_known_16 ?_)
  have hi := kx_bg_i h12
  have k1 := k μ' hk
  obtain ⟨⟨f1, f2, f3, f4, f5, f6⟩, -⟩ := h
  obtain ⟨⟨i1, i2⟩, -⟩ := hi
  rw [f1, f5, f6, (hM.kp hk (by decide)) 0 (by decide), kr_eq0 (by omega), kr_all1 _ h12, kr_andn _ _ (by omega)]
  refine ⟨fun cm => ?_, fun cm => by rw [if_pos cm] at k1; exact k1⟩
  rw [if_neg cm] at k1
  exact ⟨fun c1 => by rw [if_neg c1] at k1; exact k1, fun c1 => by rw [if_pos c1] at k1; exact k1⟩
theorem c_M_ask {d : Nat} {Q : kr_Q} {μ : kr_M} {g : Nat → Nat} (hM : kr_Mg μ g) (h12 : g 0 ≤ 12) (hb8 : kx_hb g) {what : Int32} (k : ∀ μ', kr_keep [82] kr_bF μ μ' → Q (some (.int (ax_ask g what))) μ') : kr_c (d + 3) i_M_ask [.ref 65, .int what] μ Q := by
  refine v_M_ask ?_
  rw [kx_01]
  unfold ax_ask at k
  refine ⟨fun c => ?_, fun c => by rw [if_neg c] at k; exact k μ kr_keep.rf⟩
  rw [if_pos c] at k
  refine c_M_findBreaks hM h12 hb8 (fun μ' hk h => v_M_ask_16 ?_)
  have hi := kx_bg_i h12
  have k1 := k μ' hk
  have hM' := hM.kp hk (by decide)
  obtain ⟨⟨f1, f2, f3, f4, f5, f6⟩, f7⟩ := h
  generalize kx_bg g = s at *
  obtain ⟨⟨i1, i2⟩, i3, i4, i5, i6, i7⟩ := hi
  rw [f1]
  refine kr_up (I := fun l => kr_Wp C_M_ask (kr_c (d + 2)) Q 27 [some (.ref 65), some (.int what), some (.int (kx_od (kx_ak s l).1)), some (.int (nI (kx_ak s l).2)), some (.int (nI l)), none] [] μ') (g 0) ?_ ?_ 0 (Nat.zero_le _)
  · refine v_M_ask_27 (br_t (by rw [hM' 0 (by decide)]; exact Int32.le_refl _) ?_)
    have hak := kx_ak_i s i7 (g 0)
    obtain ⟨o, w, e⟩ : ∃ o w, kx_ak s (g 0) = (o, w) := ⟨_, _, rfl⟩
    rw [e] at k1 hak ⊢
    cases o with
    | none => exact ⟨fun z => absurd rfl z, fun _ => k1⟩
    | some b =>
      obtain ⟨b1, b2⟩ := hak.2 b rfl
      refine ⟨fun _ => ⟨fun c1 => ?_, fun c1 => ?_⟩, fun z => absurd z (kx_neg4 (a := b) (by omega))⟩
      · change Q (some (.int (if what = 0 then nI b else nI w))) μ' at k1
        rw [if_neg c1] at k1
        exact k1
      · change Q (some (.int (if what = 0 then nI b else nI w))) μ' at k1
        rw [if_pos c1] at k1
        exact k1
  · intro l hl ih
    have vl : vp_in (nI l) 12 := vp_in_nI (by omega) (by decide)
    have hw := i7 l
    have hk2 := (kx_ak_i s i7 l).1
    refine v_M_ask_27 (br_f (by rw [hM' 0 (by decide)]; exact nI_ge hl (by omega)) ⟨vl, vl, ?_⟩)
    rw [nI_clamp (by omega), f7 l hl, f1, pk_sub hw, nI_leI (by omega) (by omega), nI_leI (by omega) (by omega), nI_leI (by omega) (by omega), kr_n1]
    have stay : (kx_ak s l).2 ≤ kx_lw s l → kr_Wp C_M_ask (kr_c (d + 2)) Q 27 [some (.ref 65), some (.int what), some (.int (kx_od (kx_ak s l).1)), some (.int (nI (kx_ak s l).2)), some (.int (nI (l + 1))), none] [] μ' := by
      intro z
      rw [show kx_ak s (l + 1) = kx_ak s l from if_neg (by omega)] at ih
      exact ih
    have take : ∀ v, v = kx_lw s l → ¬ (kx_ak s l).2 ≤ v → kr_Wp C_M_ask (kr_c (d + 2)) Q 27 [some (.ref 65), some (.int what), some (.int (nI l)), some (.int (nI v)), some (.int (nI (l + 1))), none] [] μ' := by
      intro v hv z
      rw [show kx_ak s (l + 1) = (some l, kx_lw s l) from if_pos (by omega)] at ih
      rw [hv]
      exact ih
    refine ⟨fun c1 => ⟨vl, fun c2 => br_t c2 (stay ?_), fun c2 => br_f c2 (take _ ?_ c2)⟩, fun c1 => ⟨vl, fun c2 => br_t c2 (stay ?_), fun c2 => br_f c2 (take _ ?_ c2)⟩⟩ <;> unfold kx_lw <;> split <;> omega
