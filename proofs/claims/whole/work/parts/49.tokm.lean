/-! tokens: the reference -/
theorem st_M_look {d : Nat} {Q : kr_Q} {pc : Nat} {ls : kr_L} {st : List Value} {μ : kr_M} (h : C_M_look pc (kr_Wp C_M_look (kr_c d) Q) (kr_c d) Q ls st μ) : kr_Wp C_M_look (kr_c d) Q pc ls st μ := kr_Wp.step (fun pc => (kr_ok_M_look pc).2) (kr_c_om d) h
theorem v_M_look {d : Nat} {Q : kr_Q} {μ : kr_M} {a1 : Int32} (h : (((μ.1 65 14) ≤ a1 → Q (some (.int (-1))) μ) ∧ (¬ ((μ.1 65 14) ≤ a1) → vp_in a1 400 ∧ Q (some (.int (μ.1 71 a1.toNatClampNeg))) μ))) : kr_c (d + 1) i_M_look [.ref 65, .int a1] μ Q := ⟨rfl, (st_M_look (st_M_look (st_M_look (And.intro rfl (st_M_look (And.intro (fun z1x => (st_M_look (st_M_look (h.1 z1x)))) (fun z1x => (st_M_look (st_M_look (And.intro rfl (st_M_look (st_M_look (And.intro ⟨400, rfl, (h.2 z1x).1⟩ (st_M_look (st_M_look (h.2 z1x).2)))))))))))))))⟩
theorem st_M_needs {d : Nat} {Q : kr_Q} {pc : Nat} {ls : kr_L} {st : List Value} {μ : kr_M} (h : C_M_needs pc (kr_Wp C_M_needs (kr_c d) Q) (kr_c d) Q ls st μ) : kr_Wp C_M_needs (kr_c d) Q pc ls st μ := kr_Wp.step (fun pc => (kr_ok_M_needs pc).2) (kr_c_om d) h
theorem v_M_needs {d : Nat} {Q : kr_Q} {μ : kr_M} {a1 : Int32} {a2 : Int32} (h : ((¬ a1 = 0 → Q none μ) ∧ (a1 = 0 → ((¬ (μ.1 65 19) = 0 → Q none μ) ∧ ((μ.1 65 19) = 0 → Q none (kr_u (kr_u μ 65 19 a2) 65 20 (μ.1 65 16))))))) : kr_c (d + 1) i_M_needs [.ref 65, .int a1, .int a2] μ Q := ⟨rfl, (st_M_needs (st_M_needs (And.intro (fun z1x => (st_M_needs (h.1 z1x))) (fun z1x => (st_M_needs (st_M_needs (And.intro rfl (st_M_needs (And.intro (fun z2x => (st_M_needs ((h.2 (Decidable.not_not.mp z1x)).1 z2x))) (fun z2x => (st_M_needs (st_M_needs (st_M_needs (And.intro rfl (st_M_needs (st_M_needs (st_M_needs (And.intro rfl (st_M_needs (And.intro rfl (st_M_needs ((h.2 (Decidable.not_not.mp z1x)).2 (Decidable.not_not.mp z2x)))))))))))))))))))))))⟩
theorem st_M_next {d : Nat} {Q : kr_Q} {pc : Nat} {ls : kr_L} {st : List Value} {μ : kr_M} (h : C_M_next pc (kr_Wp C_M_next (kr_c d) Q) (kr_c d) Q ls st μ) : kr_Wp C_M_next (kr_c d) Q pc ls st μ := kr_Wp.step (fun pc => (kr_ok_M_next pc).2) (kr_c_om d) h
theorem v_M_next {d : Nat} {Q : kr_Q} {μ : kr_M}  (h : (((μ.1 65 19) ≤ 0 → kr_c (d + 1) i_M_look [.ref 65, .int (μ.1 65 15)] μ (kr_bk (kr_Wp C_M_next (kr_c (d + 1)) Q) 16 [some (.ref 65), none] [])) ∧ (¬ ((μ.1 65 19) ≤ 0) → kr_Wp C_M_next (kr_c (d + 1)) Q 7 [some (.ref 65), none] [] μ))) : kr_c (d + 2) i_M_next [.ref 65] μ Q := ⟨rfl, (st_M_next (st_M_next (And.intro rfl (st_M_next (And.intro (fun z1x => (st_M_next (st_M_next (st_M_next (And.intro rfl (st_M_next (And.intro rfl (h.1 z1x)))))))) (fun z1x => (h.2 z1x)))))))⟩
theorem v_M_next_7 {d : Nat} {Q : kr_Q} {μ : kr_M}  (h : Q none μ) : kr_Wp C_M_next (kr_c (d + 1)) Q 7 [some (.ref 65), none] [] μ := (st_M_next h)
theorem v_M_next_77 {d : Nat} {Q : kr_Q} {μ : kr_M} {a1 : Int32} (h : kr_c (d + 1) i_M_look [.ref 65, .int (μ.1 65 15)] (kr_u μ 65 17 1) (kr_bk (kr_Wp C_M_next (kr_c (d + 1)) Q) 90 [some (.ref 65), some (.int a1)] [])) : kr_Wp C_M_next (kr_c (d + 1)) Q 77 [some (.ref 65), some (.int a1)] [] μ := (st_M_next (st_M_next (st_M_next (And.intro rfl (st_M_next (st_M_next (st_M_next (And.intro rfl (st_M_next (And.intro rfl h))))))))))
theorem v_M_next_130 {d : Nat} {Q : kr_Q} {μ : kr_M} {a1 : Int32} (h : kr_c (d + 1) i_M_look [.ref 65, .int (μ.1 65 15)] (kr_u (kr_u μ 65 17 2) 65 18 0) (kr_bk (kr_Wp C_M_next (kr_c (d + 1)) Q) 148 [some (.ref 65), some (.int a1)] [])) : kr_Wp C_M_next (kr_c (d + 1)) Q 130 [some (.ref 65), some (.int a1)] [] μ := (st_M_next (st_M_next (st_M_next (And.intro rfl (st_M_next (st_M_next (st_M_next (And.intro rfl (st_M_next (st_M_next (st_M_next (And.intro rfl (st_M_next (And.intro rfl h))))))))))))))
theorem v_M_next_16 {d : Nat} {Q : kr_Q} {μ : kr_M} {r : Int32} (h : ((¬ r = 32 → kr_c (d + 1) i_M_look [.ref 65, .int (μ.1 65 15)] (kr_u μ 65 16 (μ.1 65 15)) (kr_bk (kr_Wp C_M_next (kr_c (d + 1)) Q) 50 [some (.ref 65), none] [])) ∧ (r = 32 → kr_c (d + 1) i_M_look [.ref 65, .int ((μ.1 65 15) + (1 : Int32))] (kr_u μ 65 15 ((μ.1 65 15) + (1 : Int32))) (kr_bk (kr_Wp C_M_next (kr_c (d + 1)) Q) 16 [some (.ref 65), none] [])))) : kr_Wp C_M_next (kr_c (d + 1)) Q 16 [some (.ref 65), none] [.int r] μ := (st_M_next (st_M_next (And.intro (fun z1x => (st_M_next (st_M_next (st_M_next (And.intro rfl (st_M_next (And.intro rfl (st_M_next (st_M_next (st_M_next (And.intro rfl (st_M_next (And.intro rfl (h.1 z1x)))))))))))))) (fun z1x => (st_M_next (st_M_next (st_M_next (And.intro rfl (st_M_next (st_M_next (st_M_next (And.intro rfl (st_M_next (st_M_next (st_M_next (st_M_next (And.intro rfl (st_M_next (And.intro rfl (h.2 (Decidable.not_not.mp z1x)))))))))))))))))))))
theorem v_M_next_90 {d : Nat} {Q : kr_Q} {μ : kr_M} {a1 : Int32} {r : Int32} (h : ((¬ ((97 : Int64) ≤ r.toInt64 ∧ r.toInt64 ≤ (122 : Int64)) → Q none μ) ∧ ((97 : Int64) ≤ r.toInt64 ∧ r.toInt64 ≤ (122 : Int64) → kr_c (d + 1) i_M_look [.ref 65, .int ((μ.1 65 15) + (1 : Int32))] (kr_u μ 65 15 ((μ.1 65 15) + (1 : Int32))) (kr_bk (kr_Wp C_M_next (kr_c (d + 1)) Q) 90 [some (.ref 65), some (.int a1)] [])))) : kr_Wp C_M_next (kr_c (d + 1)) Q 90 [some (.ref 65), some (.int a1)] [.int r] μ := (st_M_next (st_M_next (st_M_next (st_M_next (c_M_in (st_M_next (And.intro (fun z1x => (st_M_next (h.1 (kr_b0 z1x)))) (fun z1x => (st_M_next (st_M_next (st_M_next (And.intro rfl (st_M_next (st_M_next (st_M_next (And.intro rfl (st_M_next (st_M_next (st_M_next (st_M_next (And.intro rfl (st_M_next (And.intro rfl (h.2 (kr_b1 z1x)))))))))))))))))))))))))
theorem v_M_next_148 {d : Nat} {Q : kr_Q} {μ : kr_M} {a1 : Int32} {r : Int32} (h : ((¬ ((48 : Int64) ≤ r.toInt64 ∧ r.toInt64 ≤ (57 : Int64)) → (((2 : Int32) < ((μ.1 65 15) - (μ.1 65 16)) → kr_c (d + 1) i_M_needs [.ref 65, .int 0, .int 1] μ (kr_bk (kr_Wp C_M_next (kr_c (d + 1)) Q) 240 [some (.ref 65), some (.int a1)] [])) ∧ (¬ ((2 : Int32) < ((μ.1 65 15) - (μ.1 65 16))) → kr_c (d + 1) i_M_needs [.ref 65, .int 1, .int 1] μ (kr_bk (kr_Wp C_M_next (kr_c (d + 1)) Q) 240 [some (.ref 65), some (.int a1)] [])))) ∧ ((48 : Int64) ≤ r.toInt64 ∧ r.toInt64 ≤ (57 : Int64) → (((2 : Int32) ≤ ((μ.1 65 15) - (μ.1 65 16)) → kr_c (d + 1) i_M_look [.ref 65, .int ((μ.1 65 15) + (1 : Int32))] (kr_u (kr_u μ 65 18 (μ.1 65 18)) 65 15 ((μ.1 65 15) + (1 : Int32))) (kr_bk (kr_Wp C_M_next (kr_c (d + 1)) Q) 148 [some (.ref 65), some (.int a1)] [])) ∧ (¬ ((2 : Int32) ≤ ((μ.1 65 15) - (μ.1 65 16))) → kr_c (d + 1) i_M_look [.ref 65, .int (μ.1 65 15)] μ (kr_bk (kr_Wp C_M_next (kr_c (d + 1)) Q) 190 [some (.ref 65), some (.int a1)] [.int ((10 : Int32) * (μ.1 65 18)), .ref 65])))))) : kr_Wp C_M_next (kr_c (d + 1)) Q 148 [some (.ref 65), some (.int a1)] [.int r] μ := (st_M_next (st_M_next (st_M_next (st_M_next (c_M_in (st_M_next (And.intro (fun z1x => (st_M_next (st_M_next (st_M_next (And.intro rfl (st_M_next (st_M_next (And.intro rfl (st_M_next (st_M_next (st_M_next (And.intro (fun z2x => (st_M_next (st_M_next (st_M_next (And.intro rfl ((h.1 (kr_b0 z1x)).1 z2x)))))) (fun z2x => (st_M_next (st_M_next (st_M_next (st_M_next (And.intro rfl ((h.1 (kr_b0 z1x)).2 z2x))))))))))))))))))) (fun z1x => (st_M_next (st_M_next (st_M_next (And.intro rfl (st_M_next (st_M_next (And.intro rfl (st_M_next (st_M_next (st_M_next (And.intro (fun z3x => (st_M_next (st_M_next (And.intro rfl (st_M_next (And.intro rfl (st_M_next (st_M_next (st_M_next (And.intro rfl (st_M_next (st_M_next (st_M_next (And.intro rfl (st_M_next (st_M_next (st_M_next (st_M_next (And.intro rfl (st_M_next (And.intro rfl ((h.2 (kr_b1 z1x)).1 z3x)))))))))))))))))))))) (fun z3x => (st_M_next (st_M_next (st_M_next (And.intro rfl (st_M_next (st_M_next (st_M_next (st_M_next (And.intro rfl (st_M_next (And.intro rfl ((h.2 (kr_b1 z1x)).2 z3x))))))))))))))))))))))))))))))))
theorem v_M_next_50 {d : Nat} {Q : kr_Q} {μ : kr_M} {r : Int32} (h : (((0 : Int32) ≤ r → ((¬ ((97 : Int64) ≤ r.toInt64 ∧ r.toInt64 ≤ (122 : Int64)) → ((¬ ((48 : Int64) ≤ r.toInt64 ∧ r.toInt64 ≤ (57 : Int64)) → ((¬ r = 59 → kr_c (d + 1) i_M_needs [.ref 65, .int 0, .int 1] (kr_u μ 65 17 3) (kr_bk (kr_Wp C_M_next (kr_c (d + 1)) Q) 264 [some (.ref 65), some (.int r)] [])) ∧ (r = 59 → kr_c (d + 1) i_M_needs [.ref 65, .int 1, .int 1] (kr_u μ 65 17 3) (kr_bk (kr_Wp C_M_next (kr_c (d + 1)) Q) 264 [some (.ref 65), some (.int r)] [])))) ∧ ((48 : Int64) ≤ r.toInt64 ∧ r.toInt64 ≤ (57 : Int64) → kr_Wp C_M_next (kr_c (d + 1)) Q 130 [some (.ref 65), some (.int r)] [] μ))) ∧ ((97 : Int64) ≤ r.toInt64 ∧ r.toInt64 ≤ (122 : Int64) → kr_Wp C_M_next (kr_c (d + 1)) Q 77 [some (.ref 65), some (.int r)] [] μ))) ∧ (¬ ((0 : Int32) ≤ r) → Q none (kr_u μ 65 17 0)))) : kr_Wp C_M_next (kr_c (d + 1)) Q 50 [some (.ref 65), none] [.int r] μ := (st_M_next (st_M_next (st_M_next (And.intro (fun z1x => (st_M_next (st_M_next (st_M_next (st_M_next (st_M_next (c_M_in (st_M_next (And.intro (fun z2x => (st_M_next (st_M_next (st_M_next (st_M_next (st_M_next (c_M_in (st_M_next (And.intro (fun z3x => (st_M_next (st_M_next (st_M_next (And.intro rfl (st_M_next (st_M_next (st_M_next (st_M_next (And.intro (fun z4x => (st_M_next (st_M_next (st_M_next (And.intro rfl ((((h.1 z1x).1 (kr_b0 z2x)).1 (kr_b0 z3x)).1 z4x)))))) (fun z4x => (st_M_next (st_M_next (st_M_next (st_M_next (And.intro rfl ((((h.1 z1x).1 (kr_b0 z2x)).1 (kr_b0 z3x)).2 (Decidable.not_not.mp z4x)))))))))))))))))) (fun z3x => (((h.1 z1x).1 (kr_b0 z2x)).2 (kr_b1 z3x)))))))))))) (fun z2x => ((h.1 z1x).2 (kr_b1 z2x)))))))))))) (fun z1x => (st_M_next (st_M_next (st_M_next (And.intro rfl (st_M_next (st_M_next (h.2 z1x))))))))))))
theorem v_M_next_240 {d : Nat} {Q : kr_Q} {μ : kr_M} {a1 : Int32} (h : Q none μ) : kr_Wp C_M_next (kr_c (d + 1)) Q 240 [some (.ref 65), some (.int a1)] [] μ := (st_M_next (st_M_next h))
theorem v_M_next_190 {d : Nat} {Q : kr_Q} {μ : kr_M} {a1 : Int32} {r : Int32} {s0 : Int32} (h : kr_c (d + 1) i_M_look [.ref 65, .int ((μ.1 65 15) + (1 : Int32))] (kr_u (kr_u μ 65 18 ((s0 + r) - (48 : Int32))) 65 15 ((μ.1 65 15) + (1 : Int32))) (kr_bk (kr_Wp C_M_next (kr_c (d + 1)) Q) 148 [some (.ref 65), some (.int a1)] [])) : kr_Wp C_M_next (kr_c (d + 1)) Q 190 [some (.ref 65), some (.int a1)] [.int r, .int s0, .ref 65] μ := (st_M_next (st_M_next (st_M_next (st_M_next (st_M_next (And.intro rfl (st_M_next (st_M_next (st_M_next (And.intro rfl (st_M_next (st_M_next (st_M_next (And.intro rfl (st_M_next (st_M_next (st_M_next (st_M_next (And.intro rfl (st_M_next (And.intro rfl h)))))))))))))))))))))
theorem v_M_next_264 {d : Nat} {Q : kr_Q} {μ : kr_M} {a1 : Int32} (h : Q none (kr_u μ 65 15 ((μ.1 65 15) + (1 : Int32)))) : kr_Wp C_M_next (kr_c (d + 1)) Q 264 [some (.ref 65), some (.int a1)] [] μ := (st_M_next (st_M_next (st_M_next (And.intro rfl (st_M_next (st_M_next (st_M_next (And.intro rfl (st_M_next h)))))))))
theorem st_M_looked {d : Nat} {Q : kr_Q} {pc : Nat} {ls : kr_L} {st : List Value} {μ : kr_M} (h : C_M_looked pc (kr_Wp C_M_looked (kr_c d) Q) (kr_c d) Q ls st μ) : kr_Wp C_M_looked (kr_c d) Q pc ls st μ := kr_Wp.step (fun pc => (kr_ok_M_looked pc).2) (kr_c_om d) h
theorem v_M_looked {d : Nat} {Q : kr_Q} {μ : kr_M} {a1 : Int32} {a2 : Int32} (h : ((¬ (μ.1 65 19) = 0 → ((¬ (μ.1 65 19) = 0 → ((¬ (μ.1 65 19) = 0 → Q (some (.int 0)) μ) ∧ ((μ.1 65 19) = 0 → Q (some (.int (μ.1 65 18))) μ))) ∧ ((μ.1 65 19) = 0 → kr_c (d + 1) i_M_needs [.ref 65, .int (if a1.toInt64 ≤ (μ.1 65 18).toInt64 ∧ (μ.1 65 18).toInt64 ≤ a2.toInt64 then 1 else 0), .int 3] μ (kr_bk (kr_Wp C_M_looked (kr_c (d + 1)) Q) 49 [some (.ref 65), some (.int a1), some (.int a2)] [])))) ∧ ((μ.1 65 19) = 0 → ((¬ (μ.1 65 17) = 2 → kr_c (d + 1) i_M_needs [.ref 65, .int 0, .int 2] μ (kr_bk (kr_Wp C_M_looked (kr_c (d + 1)) Q) 25 [some (.ref 65), some (.int a1), some (.int a2)] [])) ∧ ((μ.1 65 17) = 2 → kr_c (d + 1) i_M_needs [.ref 65, .int 1, .int 2] μ (kr_bk (kr_Wp C_M_looked (kr_c (d + 1)) Q) 25 [some (.ref 65), some (.int a1), some (.int a2)] [])))))) : kr_c (d + 2) i_M_looked [.ref 65, .int a1, .int a2] μ Q := ⟨rfl, (st_M_looked (st_M_looked (And.intro rfl (st_M_looked (And.intro (fun z1x => (st_M_looked (st_M_looked (And.intro rfl (st_M_looked (And.intro (fun z2x => (st_M_looked (st_M_looked (And.intro rfl (st_M_looked (And.intro (fun z3x => (st_M_looked (st_M_looked (((h.1 z1x).1 z2x).1 z3x)))) (fun z3x => (st_M_looked (st_M_looked (And.intro rfl (st_M_looked (st_M_looked (((h.1 z1x).1 z2x).2 (Decidable.not_not.mp z3x)))))))))))))) (fun z2x => (st_M_looked (st_M_looked (st_M_looked (And.intro rfl (st_M_looked (st_M_looked (st_M_looked (st_M_looked (st_M_looked (st_M_looked (c_M_in (st_M_looked (st_M_looked (And.intro rfl ((h.1 z1x).2 (Decidable.not_not.mp z2x))))))))))))))))))))))) (fun z1x => (st_M_looked (st_M_looked (st_M_looked (And.intro rfl (st_M_looked (st_M_looked (And.intro (fun z4x => (st_M_looked (st_M_looked (st_M_looked (And.intro rfl ((h.2 (Decidable.not_not.mp z1x)).1 z4x)))))) (fun z4x => (st_M_looked (st_M_looked (st_M_looked (st_M_looked (And.intro rfl ((h.2 (Decidable.not_not.mp z1x)).2 (Decidable.not_not.mp z4x)))))))))))))))))))))⟩
theorem v_M_looked_49 {d : Nat} {Q : kr_Q} {μ : kr_M} {a1 : Int32} {a2 : Int32} (h : ((¬ (μ.1 65 19) = 0 → Q (some (.int 0)) μ) ∧ ((μ.1 65 19) = 0 → Q (some (.int (μ.1 65 18))) μ))) : kr_Wp C_M_looked (kr_c (d + 1)) Q 49 [some (.ref 65), some (.int a1), some (.int a2)] [] μ := (st_M_looked (st_M_looked (And.intro rfl (st_M_looked (And.intro (fun z1x => (st_M_looked (st_M_looked (h.1 z1x)))) (fun z1x => (st_M_looked (st_M_looked (And.intro rfl (st_M_looked (st_M_looked (h.2 (Decidable.not_not.mp z1x)))))))))))))
theorem v_M_looked_25 {d : Nat} {Q : kr_Q} {μ : kr_M} {a1 : Int32} {a2 : Int32} (h : ((¬ (μ.1 65 19) = 0 → ((¬ (μ.1 65 19) = 0 → Q (some (.int 0)) μ) ∧ ((μ.1 65 19) = 0 → Q (some (.int (μ.1 65 18))) μ))) ∧ ((μ.1 65 19) = 0 → kr_c (d + 1) i_M_needs [.ref 65, .int (if a1.toInt64 ≤ (μ.1 65 18).toInt64 ∧ (μ.1 65 18).toInt64 ≤ a2.toInt64 then 1 else 0), .int 3] μ (kr_bk (kr_Wp C_M_looked (kr_c (d + 1)) Q) 49 [some (.ref 65), some (.int a1), some (.int a2)] [])))) : kr_Wp C_M_looked (kr_c (d + 1)) Q 25 [some (.ref 65), some (.int a1), some (.int a2)] [] μ := (st_M_looked (st_M_looked (And.intro rfl (st_M_looked (And.intro (fun z1x => (st_M_looked (st_M_looked (And.intro rfl (st_M_looked (And.intro (fun z2x => (st_M_looked (st_M_looked ((h.1 z1x).1 z2x)))) (fun z2x => (st_M_looked (st_M_looked (And.intro rfl (st_M_looked (st_M_looked ((h.1 z1x).2 (Decidable.not_not.mp z2x)))))))))))))) (fun z1x => (st_M_looked (st_M_looked (st_M_looked (And.intro rfl (st_M_looked (st_M_looked (st_M_looked (st_M_looked (st_M_looked (st_M_looked (c_M_in (st_M_looked (st_M_looked (And.intro rfl (h.2 (Decidable.not_not.mp z1x))))))))))))))))))))))
theorem st_M_lookedPoint {d : Nat} {Q : kr_Q} {pc : Nat} {ls : kr_L} {st : List Value} {μ : kr_M} (h : C_M_lookedPoint pc (kr_Wp C_M_lookedPoint (kr_c d) Q) (kr_c d) Q ls st μ) : kr_Wp C_M_lookedPoint (kr_c d) Q pc ls st μ := kr_Wp.step (fun pc => (kr_ok_M_lookedPoint pc).2) (kr_c_om d) h
theorem v_M_lookedPoint {d : Nat} {Q : kr_Q} {μ : kr_M}  (h : kr_c (d + 2) i_M_looked [.ref 65, .int 0, .int 8] μ (kr_bk (kr_Wp C_M_lookedPoint (kr_c (d + 2)) Q) 7 [some (.ref 65), none] [])) : kr_c (d + 3) i_M_lookedPoint [.ref 65] μ Q := ⟨rfl, (st_M_lookedPoint (st_M_lookedPoint (st_M_lookedPoint (st_M_lookedPoint (And.intro rfl h)))))⟩
theorem v_M_lookedPoint_7 {d : Nat} {Q : kr_Q} {μ : kr_M} {r : Int32} (h : ((r ≤ (μ.1 65 12) → Q (some (.int r)) (kr_u μ 65 12 (μ.1 65 12))) ∧ (¬ (r ≤ (μ.1 65 12)) → Q (some (.int r)) (kr_u μ 65 12 r)))) : kr_Wp C_M_lookedPoint (kr_c (d + 2)) Q 7 [some (.ref 65), none] [.int r] μ := (st_M_lookedPoint (st_M_lookedPoint (st_M_lookedPoint (st_M_lookedPoint (st_M_lookedPoint (And.intro rfl (st_M_lookedPoint (And.intro (fun z1x => (st_M_lookedPoint (st_M_lookedPoint (And.intro rfl (st_M_lookedPoint (And.intro rfl (st_M_lookedPoint (st_M_lookedPoint (h.1 z1x))))))))) (fun z1x => (st_M_lookedPoint (st_M_lookedPoint (st_M_lookedPoint (And.intro rfl (st_M_lookedPoint (st_M_lookedPoint (h.2 z1x))))))))))))))))
theorem st_M_readPoint {d : Nat} {Q : kr_Q} {pc : Nat} {ls : kr_L} {st : List Value} {μ : kr_M} (h : C_M_readPoint pc (kr_Wp C_M_readPoint (kr_c d) Q) (kr_c d) Q ls st μ) : kr_Wp C_M_readPoint (kr_c d) Q pc ls st μ := kr_Wp.step (fun pc => (kr_ok_M_readPoint pc).2) (kr_c_om d) h
theorem v_M_readPoint {d : Nat} {Q : kr_Q} {μ : kr_M}  (h : kr_c (d + 3) i_M_lookedPoint [.ref 65] μ (kr_bk (kr_Wp C_M_readPoint (kr_c (d + 3)) Q) 4 [some (.ref 65), none] [])) : kr_c (d + 4) i_M_readPoint [.ref 65] μ Q := ⟨rfl, (st_M_readPoint (st_M_readPoint (And.intro rfl h)))⟩
theorem v_M_readPoint_4 {d : Nat} {Q : kr_Q} {μ : kr_M} {r : Int32} (h : kr_c (d + 3) i_M_next [.ref 65] μ (kr_bk (kr_Wp C_M_readPoint (kr_c (d + 3)) Q) 9 [some (.ref 65), some (.int r)] [])) : kr_Wp C_M_readPoint (kr_c (d + 3)) Q 4 [some (.ref 65), none] [.int r] μ := (st_M_readPoint (st_M_readPoint (st_M_readPoint (And.intro rfl h))))
theorem v_M_readPoint_9 {d : Nat} {Q : kr_Q} {μ : kr_M} {a1 : Int32} (h : Q (some (.int a1)) μ) : kr_Wp C_M_readPoint (kr_c (d + 3)) Q 9 [some (.ref 65), some (.int a1)] [] μ := (st_M_readPoint (st_M_readPoint h))
theorem st_M_readOther {d : Nat} {Q : kr_Q} {pc : Nat} {ls : kr_L} {st : List Value} {μ : kr_M} (h : C_M_readOther pc (kr_Wp C_M_readOther (kr_c d) Q) (kr_c d) Q ls st μ) : kr_Wp C_M_readOther (kr_c d) Q pc ls st μ := kr_Wp.step (fun pc => (kr_ok_M_readOther pc).2) (kr_c_om d) h
theorem v_M_readOther {d : Nat} {Q : kr_Q} {μ : kr_M} {a1 : Int32} (h : kr_c (d + 3) i_M_lookedPoint [.ref 65] μ (kr_bk (kr_Wp C_M_readOther (kr_c (d + 3)) Q) 4 [some (.ref 65), some (.int a1), none] [])) : kr_c (d + 4) i_M_readOther [.ref 65, .int a1] μ Q := ⟨rfl, (st_M_readOther (st_M_readOther (And.intro rfl h)))⟩
theorem v_M_readOther_4 {d : Nat} {Q : kr_Q} {μ : kr_M} {a1 : Int32} {r : Int32} (h : ((r = a1 → kr_c (d + 3) i_M_needs [.ref 65, .int 0, .int 4] μ (kr_bk (kr_Wp C_M_readOther (kr_c (d + 3)) Q) 20 [some (.ref 65), some (.int a1), some (.int r)] [])) ∧ (¬ (r = a1) → kr_c (d + 3) i_M_needs [.ref 65, .int 1, .int 4] μ (kr_bk (kr_Wp C_M_readOther (kr_c (d + 3)) Q) 20 [some (.ref 65), some (.int a1), some (.int r)] [])))) : kr_Wp C_M_readOther (kr_c (d + 3)) Q 4 [some (.ref 65), some (.int a1), none] [.int r] μ := (st_M_readOther (st_M_readOther (st_M_readOther (st_M_readOther (st_M_readOther (And.intro (fun z1x => (st_M_readOther (st_M_readOther (st_M_readOther (And.intro rfl (h.1 z1x)))))) (fun z1x => (st_M_readOther (st_M_readOther (st_M_readOther (st_M_readOther (And.intro rfl (h.2 z1x)))))))))))))
theorem v_M_readOther_20 {d : Nat} {Q : kr_Q} {μ : kr_M} {a1 : Int32} {a2 : Int32} (h : kr_c (d + 3) i_M_next [.ref 65] μ (kr_bk (kr_Wp C_M_readOther (kr_c (d + 3)) Q) 24 [some (.ref 65), some (.int a1), some (.int a2)] [])) : kr_Wp C_M_readOther (kr_c (d + 3)) Q 20 [some (.ref 65), some (.int a1), some (.int a2)] [] μ := (st_M_readOther (st_M_readOther (And.intro rfl h)))
theorem v_M_readOther_24 {d : Nat} {Q : kr_Q} {μ : kr_M} {a1 : Int32} {a2 : Int32} (h : Q (some (.int a2)) μ) : kr_Wp C_M_readOther (kr_c (d + 3)) Q 24 [some (.ref 65), some (.int a1), some (.int a2)] [] μ := (st_M_readOther (st_M_readOther h))
theorem st_M_readNumber {d : Nat} {Q : kr_Q} {pc : Nat} {ls : kr_L} {st : List Value} {μ : kr_M} (h : C_M_readNumber pc (kr_Wp C_M_readNumber (kr_c d) Q) (kr_c d) Q ls st μ) : kr_Wp C_M_readNumber (kr_c d) Q pc ls st μ := kr_Wp.step (fun pc => (kr_ok_M_readNumber pc).2) (kr_c_om d) h
theorem v_M_readNumber {d : Nat} {Q : kr_Q} {μ : kr_M} {a1 : Int32} {a2 : Int32} (h : kr_c (d + 2) i_M_looked [.ref 65, .int a1, .int a2] μ (kr_bk (kr_Wp C_M_readNumber (kr_c (d + 2)) Q) 6 [some (.ref 65), some (.int a1), some (.int a2), none] [])) : kr_c (d + 3) i_M_readNumber [.ref 65, .int a1, .int a2] μ Q := ⟨rfl, (st_M_readNumber (st_M_readNumber (st_M_readNumber (st_M_readNumber (And.intro rfl h)))))⟩
theorem v_M_readNumber_6 {d : Nat} {Q : kr_Q} {μ : kr_M} {a1 : Int32} {a2 : Int32} {r : Int32} (h : kr_c (d + 2) i_M_next [.ref 65] μ (kr_bk (kr_Wp C_M_readNumber (kr_c (d + 2)) Q) 11 [some (.ref 65), some (.int a1), some (.int a2), some (.int r)] [])) : kr_Wp C_M_readNumber (kr_c (d + 2)) Q 6 [some (.ref 65), some (.int a1), some (.int a2), none] [.int r] μ := (st_M_readNumber (st_M_readNumber (st_M_readNumber (And.intro rfl h))))
theorem v_M_readNumber_11 {d : Nat} {Q : kr_Q} {μ : kr_M} {a1 : Int32} {a2 : Int32} {a3 : Int32} (h : Q (some (.int a3)) μ) : kr_Wp C_M_readNumber (kr_c (d + 2)) Q 11 [some (.ref 65), some (.int a1), some (.int a2), some (.int a3)] [] μ := (st_M_readNumber (st_M_readNumber h))
theorem st_M_is {d : Nat} {Q : kr_Q} {pc : Nat} {ls : kr_L} {st : List Value} {μ : kr_M} (h : C_M_is pc (kr_Wp C_M_is (kr_c d) Q) (kr_c d) Q ls st μ) : kr_Wp C_M_is (kr_c d) Q pc ls st μ := kr_Wp.step (fun pc => (kr_ok_M_is pc).2) (kr_c_om d) h
theorem v_M_is {d : Nat} {Q : kr_Q} {μ : kr_M} {a1 : Int32} {a2 : Int32} {a3 : Int32} {a4 : Int32} (h : ((¬ ((μ.1 65 15) - (μ.1 65 16)) = a1 → Q (some (.int 0)) μ) ∧ (((μ.1 65 15) - (μ.1 65 16)) = a1 → kr_c (d + 1) i_M_look [.ref 65, .int (μ.1 65 16)] μ (kr_bk (kr_Wp C_M_is (kr_c (d + 1)) Q) 21 [some (.ref 65), some (.int a1), some (.int a2), some (.int a3), some (.int a4)] [])))) : kr_c (d + 2) i_M_is [.ref 65, .int a1, .int a2, .int a3, .int a4] μ Q := ⟨rfl, (st_M_is (st_M_is (And.intro rfl (st_M_is (st_M_is (And.intro rfl (st_M_is (st_M_is (st_M_is (And.intro (fun z1x => (st_M_is (st_M_is (And.intro (by decide) (h.1 z1x))))) (fun z1x => (st_M_is (st_M_is (st_M_is (And.intro rfl (st_M_is (And.intro rfl (h.2 (Decidable.not_not.mp z1x)))))))))))))))))))⟩
theorem v_M_is_21 {d : Nat} {Q : kr_Q} {μ : kr_M} {a1 : Int32} {a2 : Int32} {a3 : Int32} {a4 : Int32} {r : Int32} (h : ((¬ r = a2 → Q (some (.int 0)) μ) ∧ (r = a2 → kr_c (d + 1) i_M_look [.ref 65, .int ((μ.1 65 16) + (1 : Int32))] μ (kr_bk (kr_Wp C_M_is (kr_c (d + 1)) Q) 35 [some (.ref 65), some (.int a1), some (.int a2), some (.int a3), some (.int a4)] [])))) : kr_Wp C_M_is (kr_c (d + 1)) Q 21 [some (.ref 65), some (.int a1), some (.int a2), some (.int a3), some (.int a4)] [.int r] μ := (st_M_is (st_M_is (And.intro (fun z1x => (st_M_is (st_M_is (And.intro (by decide) (h.1 z1x))))) (fun z1x => (st_M_is (st_M_is (st_M_is (And.intro rfl (st_M_is (st_M_is (st_M_is (And.intro rfl (h.2 (Decidable.not_not.mp z1x))))))))))))))
theorem v_M_is_35 {d : Nat} {Q : kr_Q} {μ : kr_M} {a1 : Int32} {a2 : Int32} {a3 : Int32} {a4 : Int32} {r : Int32} (h : ((¬ r = a3 → Q (some (.int 0)) μ) ∧ (r = a3 → kr_c (d + 1) i_M_look [.ref 65, .int ((μ.1 65 16) + (2 : Int32))] μ (kr_bk (kr_Wp C_M_is (kr_c (d + 1)) Q) 49 [some (.ref 65), some (.int a1), some (.int a2), some (.int a3), some (.int a4)] [])))) : kr_Wp C_M_is (kr_c (d + 1)) Q 35 [some (.ref 65), some (.int a1), some (.int a2), some (.int a3), some (.int a4)] [.int r] μ := (st_M_is (st_M_is (And.intro (fun z1x => (st_M_is (st_M_is (And.intro (by decide) (h.1 z1x))))) (fun z1x => (st_M_is (st_M_is (st_M_is (And.intro rfl (st_M_is (st_M_is (st_M_is (And.intro rfl (h.2 (Decidable.not_not.mp z1x))))))))))))))
theorem v_M_is_49 {d : Nat} {Q : kr_Q} {μ : kr_M} {a1 : Int32} {a2 : Int32} {a3 : Int32} {a4 : Int32} {r : Int32} (h : ((¬ r = a4 → Q (some (.int 0)) μ) ∧ (r = a4 → Q (some (.int 1)) μ))) : kr_Wp C_M_is (kr_c (d + 1)) Q 49 [some (.ref 65), some (.int a1), some (.int a2), some (.int a3), some (.int a4)] [.int r] μ := (st_M_is (st_M_is (And.intro (fun z1x => (st_M_is (st_M_is (And.intro (by decide) (h.1 z1x))))) (fun z1x => (st_M_is (st_M_is (st_M_is (And.intro (by decide) (h.2 (Decidable.not_not.mp z1x))))))))))
theorem st_M_ends {d : Nat} {Q : kr_Q} {pc : Nat} {ls : kr_L} {st : List Value} {μ : kr_M} (h : C_M_ends pc (kr_Wp C_M_ends (kr_c d) Q) (kr_c d) Q ls st μ) : kr_Wp C_M_ends (kr_c d) Q pc ls st μ := kr_Wp.step (fun pc => (kr_ok_M_ends pc).2) (kr_c_om d) h
theorem v_M_ends {d : Nat} {Q : kr_Q} {μ : kr_M} {a1 : Int32} {a2 : Int32} {a3 : Int32} (h : kr_c (d + 1) i_M_look [.ref 65, .int ((μ.1 65 16) + (3 : Int32))] μ (kr_bk (kr_Wp C_M_ends (kr_c (d + 1)) Q) 10 [some (.ref 65), some (.int a1), some (.int a2), some (.int a3)] [])) : kr_c (d + 2) i_M_ends [.ref 65, .int a1, .int a2, .int a3] μ Q := ⟨rfl, (st_M_ends (st_M_ends (st_M_ends (And.intro rfl (st_M_ends (st_M_ends (st_M_ends (And.intro rfl h))))))))⟩
theorem v_M_ends_10 {d : Nat} {Q : kr_Q} {μ : kr_M} {a1 : Int32} {a2 : Int32} {a3 : Int32} {r : Int32} (h : ((¬ r = a1 → Q (some (.int 0)) μ) ∧ (r = a1 → ((a2 = 0 → ((a3 = 0 → Q (some (.int 1)) μ) ∧ (¬ (a3 = 0) → kr_c (d + 1) i_M_look [.ref 65, .int ((μ.1 65 16) + (5 : Int32))] μ (kr_bk (kr_Wp C_M_ends (kr_c (d + 1)) Q) 46 [some (.ref 65), some (.int a1), some (.int a2), some (.int a3)] [])))) ∧ (¬ (a2 = 0) → kr_c (d + 1) i_M_look [.ref 65, .int ((μ.1 65 16) + (4 : Int32))] μ (kr_bk (kr_Wp C_M_ends (kr_c (d + 1)) Q) 28 [some (.ref 65), some (.int a1), some (.int a2), some (.int a3)] [])))))) : kr_Wp C_M_ends (kr_c (d + 1)) Q 10 [some (.ref 65), some (.int a1), some (.int a2), some (.int a3)] [.int r] μ := (st_M_ends (st_M_ends (And.intro (fun z1x => (st_M_ends (st_M_ends (And.intro (by decide) (h.1 z1x))))) (fun z1x => (st_M_ends (st_M_ends (And.intro (fun z2x => (st_M_ends (st_M_ends (And.intro (fun z3x => (st_M_ends (st_M_ends (st_M_ends (And.intro (by decide) (((h.2 (Decidable.not_not.mp z1x)).1 z2x).1 z3x)))))) (fun z3x => (st_M_ends (st_M_ends (st_M_ends (And.intro rfl (st_M_ends (st_M_ends (st_M_ends (And.intro rfl (((h.2 (Decidable.not_not.mp z1x)).1 z2x).2 z3x)))))))))))))) (fun z2x => (st_M_ends (st_M_ends (st_M_ends (And.intro rfl (st_M_ends (st_M_ends (st_M_ends (And.intro rfl ((h.2 (Decidable.not_not.mp z1x)).2 z2x)))))))))))))))))
theorem v_M_ends_46 {d : Nat} {Q : kr_Q} {μ : kr_M} {a1 : Int32} {a2 : Int32} {a3 : Int32} {r : Int32} (h : ((¬ r = a3 → Q (some (.int 0)) μ) ∧ (r = a3 → Q (some (.int 1)) μ))) : kr_Wp C_M_ends (kr_c (d + 1)) Q 46 [some (.ref 65), some (.int a1), some (.int a2), some (.int a3)] [.int r] μ := (st_M_ends (st_M_ends (And.intro (fun z1x => (st_M_ends (st_M_ends (And.intro (by decide) (h.1 z1x))))) (fun z1x => (st_M_ends (st_M_ends (st_M_ends (And.intro (by decide) (h.2 (Decidable.not_not.mp z1x))))))))))
theorem v_M_ends_28 {d : Nat} {Q : kr_Q} {μ : kr_M} {a1 : Int32} {a2 : Int32} {a3 : Int32} {r : Int32} (h : ((¬ r = a2 → Q (some (.int 0)) μ) ∧ (r = a2 → ((a3 = 0 → Q (some (.int 1)) μ) ∧ (¬ (a3 = 0) → kr_c (d + 1) i_M_look [.ref 65, .int ((μ.1 65 16) + (5 : Int32))] μ (kr_bk (kr_Wp C_M_ends (kr_c (d + 1)) Q) 46 [some (.ref 65), some (.int a1), some (.int a2), some (.int a3)] [])))))) : kr_Wp C_M_ends (kr_c (d + 1)) Q 28 [some (.ref 65), some (.int a1), some (.int a2), some (.int a3)] [.int r] μ := (st_M_ends (st_M_ends (And.intro (fun z1x => (st_M_ends (st_M_ends (And.intro (by decide) (h.1 z1x))))) (fun z1x => (st_M_ends (st_M_ends (And.intro (fun z2x => (st_M_ends (st_M_ends (st_M_ends (And.intro (by decide) ((h.2 (Decidable.not_not.mp z1x)).1 z2x)))))) (fun z2x => (st_M_ends (st_M_ends (st_M_ends (And.intro rfl (st_M_ends (st_M_ends (st_M_ends (And.intro rfl ((h.2 (Decidable.not_not.mp z1x)).2 z2x)))))))))))))))))
theorem st_M_isRoof {d : Nat} {Q : kr_Q} {pc : Nat} {ls : kr_L} {st : List Value} {μ : kr_M} (h : C_M_isRoof pc (kr_Wp C_M_isRoof (kr_c d) Q) (kr_c d) Q ls st μ) : kr_Wp C_M_isRoof (kr_c d) Q pc ls st μ := kr_Wp.step (fun pc => (kr_ok_M_isRoof pc).2) (kr_c_om d) h
theorem v_M_isRoof {d : Nat} {Q : kr_Q} {μ : kr_M}  (h : ((¬ (μ.1 65 17) = 1 → Q (some (.int 0)) μ) ∧ ((μ.1 65 17) = 1 → kr_c (d + 2) i_M_is [.ref 65, .int 4, .int 114, .int 111, .int 111] μ (kr_bk (kr_Wp C_M_isRoof (kr_c (d + 2)) Q) 19 [some (.ref 65)] [])))) : kr_c (d + 3) i_M_isRoof [.ref 65] μ Q := ⟨rfl, (st_M_isRoof (st_M_isRoof (And.intro rfl (st_M_isRoof (st_M_isRoof (And.intro (fun z1x => (st_M_isRoof (st_M_isRoof (And.intro (by decide) (h.1 z1x))))) (fun z1x => (st_M_isRoof (st_M_isRoof (st_M_isRoof (st_M_isRoof (st_M_isRoof (st_M_isRoof (And.intro rfl (h.2 (Decidable.not_not.mp z1x))))))))))))))))⟩
theorem v_M_isRoof_19 {d : Nat} {Q : kr_Q} {μ : kr_M} {r : Int32} (h : ((r = 0 → Q (some (.int 0)) μ) ∧ (¬ (r = 0) → kr_c (d + 2) i_M_ends [.ref 65, .int 102, .int 0, .int 0] μ (kr_bk (kr_Wp C_M_isRoof (kr_c (d + 2)) Q) 30 [some (.ref 65)] [])))) : kr_Wp C_M_isRoof (kr_c (d + 2)) Q 19 [some (.ref 65)] [.int r] μ := (st_M_isRoof (And.intro (fun z1x => (st_M_isRoof (st_M_isRoof (And.intro (by decide) (h.1 z1x))))) (fun z1x => (st_M_isRoof (st_M_isRoof (st_M_isRoof (st_M_isRoof (st_M_isRoof (And.intro rfl (h.2 z1x))))))))))
theorem v_M_isRoof_30 {d : Nat} {Q : kr_Q} {μ : kr_M} {r : Int32} (h : ((r = 0 → Q (some (.int 0)) μ) ∧ (¬ (r = 0) → Q (some (.int 1)) μ))) : kr_Wp C_M_isRoof (kr_c (d + 2)) Q 30 [some (.ref 65)] [.int r] μ := (st_M_isRoof (And.intro (fun z1x => (st_M_isRoof (st_M_isRoof (And.intro (by decide) (h.1 z1x))))) (fun z1x => (st_M_isRoof (st_M_isRoof (st_M_isRoof (And.intro (by decide) (h.2 z1x))))))))
theorem st_M_lineNow {d : Nat} {Q : kr_Q} {pc : Nat} {ls : kr_L} {st : List Value} {μ : kr_M} (h : C_M_lineNow pc (kr_Wp C_M_lineNow (kr_c d) Q) (kr_c d) Q ls st μ) : kr_Wp C_M_lineNow (kr_c d) Q pc ls st μ := kr_Wp.step (fun pc => (kr_ok_M_lineNow pc).2) (kr_c_om d) h
theorem v_M_lineNow {d : Nat} {Q : kr_Q} {μ : kr_M}  (h : kr_c (d + 2) i_M_is [.ref 65, .int 6, .int 112, .int 111, .int 105] μ (kr_bk (kr_Wp C_M_lineNow (kr_c (d + 2)) Q) 12 [some (.ref 65)] [])) : kr_c (d + 3) i_M_lineNow [.ref 65] μ Q := ⟨rfl, (st_M_lineNow (st_M_lineNow (st_M_lineNow (st_M_lineNow (st_M_lineNow (st_M_lineNow (And.intro rfl h)))))))⟩
theorem v_M_lineNow_12 {d : Nat} {Q : kr_Q} {μ : kr_M} {r : Int32} (h : ((r = 0 → kr_c (d + 2) i_M_is [.ref 65, .int 5, .int 104, .int 111, .int 117] μ (kr_bk (kr_Wp C_M_lineNow (kr_c (d + 2)) Q) 41 [some (.ref 65)] [])) ∧ (¬ (r = 0) → kr_c (d + 2) i_M_ends [.ref 65, .int 110, .int 116, .int 115] μ (kr_bk (kr_Wp C_M_lineNow (kr_c (d + 2)) Q) 25 [some (.ref 65)] [])))) : kr_Wp C_M_lineNow (kr_c (d + 2)) Q 12 [some (.ref 65)] [.int r] μ := (st_M_lineNow (And.intro (fun z1x => (st_M_lineNow (st_M_lineNow (st_M_lineNow (st_M_lineNow (st_M_lineNow (st_M_lineNow (And.intro rfl (h.1 z1x))))))))) (fun z1x => (st_M_lineNow (st_M_lineNow (st_M_lineNow (st_M_lineNow (st_M_lineNow (And.intro rfl (h.2 z1x))))))))))
theorem v_M_lineNow_41 {d : Nat} {Q : kr_Q} {μ : kr_M} {r : Int32} (h : ((r = 0 → kr_c (d + 2) i_M_is [.ref 65, .int 4, .int 108, .int 105, .int 110] μ (kr_bk (kr_Wp C_M_lineNow (kr_c (d + 2)) Q) 69 [some (.ref 65)] [])) ∧ (¬ (r = 0) → kr_c (d + 2) i_M_ends [.ref 65, .int 115, .int 101, .int 0] μ (kr_bk (kr_Wp C_M_lineNow (kr_c (d + 2)) Q) 53 [some (.ref 65)] [])))) : kr_Wp C_M_lineNow (kr_c (d + 2)) Q 41 [some (.ref 65)] [.int r] μ := (st_M_lineNow (And.intro (fun z1x => (st_M_lineNow (st_M_lineNow (st_M_lineNow (st_M_lineNow (st_M_lineNow (st_M_lineNow (And.intro rfl (h.1 z1x))))))))) (fun z1x => (st_M_lineNow (st_M_lineNow (st_M_lineNow (st_M_lineNow (st_M_lineNow (And.intro rfl (h.2 z1x))))))))))
theorem v_M_lineNow_25 {d : Nat} {Q : kr_Q} {μ : kr_M} {r : Int32} (h : ((r = 0 → kr_c (d + 2) i_M_is [.ref 65, .int 5, .int 104, .int 111, .int 117] μ (kr_bk (kr_Wp C_M_lineNow (kr_c (d + 2)) Q) 41 [some (.ref 65)] [])) ∧ (¬ (r = 0) → Q (some (.int 0)) μ))) : kr_Wp C_M_lineNow (kr_c (d + 2)) Q 25 [some (.ref 65)] [.int r] μ := (st_M_lineNow (And.intro (fun z1x => (st_M_lineNow (st_M_lineNow (st_M_lineNow (st_M_lineNow (st_M_lineNow (st_M_lineNow (And.intro rfl (h.1 z1x))))))))) (fun z1x => (st_M_lineNow (st_M_lineNow (h.2 z1x))))))
theorem v_M_lineNow_69 {d : Nat} {Q : kr_Q} {μ : kr_M} {r : Int32} (h : ((r = 0 → kr_c (d + 2) i_M_is [.ref 65, .int 6, .int 100, .int 114, .int 97] μ (kr_bk (kr_Wp C_M_lineNow (kr_c (d + 2)) Q) 97 [some (.ref 65)] [])) ∧ (¬ (r = 0) → kr_c (d + 2) i_M_ends [.ref 65, .int 101, .int 0, .int 0] μ (kr_bk (kr_Wp C_M_lineNow (kr_c (d + 2)) Q) 80 [some (.ref 65)] [])))) : kr_Wp C_M_lineNow (kr_c (d + 2)) Q 69 [some (.ref 65)] [.int r] μ := (st_M_lineNow (And.intro (fun z1x => (st_M_lineNow (st_M_lineNow (st_M_lineNow (st_M_lineNow (st_M_lineNow (st_M_lineNow (And.intro rfl (h.1 z1x))))))))) (fun z1x => (st_M_lineNow (st_M_lineNow (st_M_lineNow (st_M_lineNow (st_M_lineNow (And.intro rfl (h.2 z1x))))))))))
theorem v_M_lineNow_53 {d : Nat} {Q : kr_Q} {μ : kr_M} {r : Int32} (h : ((r = 0 → kr_c (d + 2) i_M_is [.ref 65, .int 4, .int 108, .int 105, .int 110] μ (kr_bk (kr_Wp C_M_lineNow (kr_c (d + 2)) Q) 69 [some (.ref 65)] [])) ∧ (¬ (r = 0) → Q (some (.int 1)) μ))) : kr_Wp C_M_lineNow (kr_c (d + 2)) Q 53 [some (.ref 65)] [.int r] μ := (st_M_lineNow (And.intro (fun z1x => (st_M_lineNow (st_M_lineNow (st_M_lineNow (st_M_lineNow (st_M_lineNow (st_M_lineNow (And.intro rfl (h.1 z1x))))))))) (fun z1x => (st_M_lineNow (st_M_lineNow (h.2 z1x))))))
theorem v_M_lineNow_97 {d : Nat} {Q : kr_Q} {μ : kr_M} {r : Int32} (h : ((r = 0 → kr_c (d + 2) i_M_is [.ref 65, .int 3, .int 111, .int 110, .int 101] μ (kr_bk (kr_Wp C_M_lineNow (kr_c (d + 2)) Q) 126 [some (.ref 65)] [])) ∧ (¬ (r = 0) → kr_c (d + 2) i_M_ends [.ref 65, .int 119, .int 101, .int 114] μ (kr_bk (kr_Wp C_M_lineNow (kr_c (d + 2)) Q) 110 [some (.ref 65)] [])))) : kr_Wp C_M_lineNow (kr_c (d + 2)) Q 97 [some (.ref 65)] [.int r] μ := (st_M_lineNow (And.intro (fun z1x => (st_M_lineNow (st_M_lineNow (st_M_lineNow (st_M_lineNow (st_M_lineNow (st_M_lineNow (And.intro rfl (h.1 z1x))))))))) (fun z1x => (st_M_lineNow (st_M_lineNow (st_M_lineNow (st_M_lineNow (st_M_lineNow (And.intro rfl (h.2 z1x))))))))))
theorem v_M_lineNow_80 {d : Nat} {Q : kr_Q} {μ : kr_M} {r : Int32} (h : ((r = 0 → kr_c (d + 2) i_M_is [.ref 65, .int 6, .int 100, .int 114, .int 97] μ (kr_bk (kr_Wp C_M_lineNow (kr_c (d + 2)) Q) 97 [some (.ref 65)] [])) ∧ (¬ (r = 0) → Q (some (.int 2)) μ))) : kr_Wp C_M_lineNow (kr_c (d + 2)) Q 80 [some (.ref 65)] [.int r] μ := (st_M_lineNow (And.intro (fun z1x => (st_M_lineNow (st_M_lineNow (st_M_lineNow (st_M_lineNow (st_M_lineNow (st_M_lineNow (And.intro rfl (h.1 z1x))))))))) (fun z1x => (st_M_lineNow (st_M_lineNow (h.2 z1x))))))
theorem v_M_lineNow_126 {d : Nat} {Q : kr_Q} {μ : kr_M} {r : Int32} (h : ((r = 0 → kr_c (d + 2) i_M_is [.ref 65, .int 4, .int 114, .int 97, .int 105] μ (kr_bk (kr_Wp C_M_lineNow (kr_c (d + 2)) Q) 144 [some (.ref 65)] [])) ∧ (¬ (r = 0) → Q (some (.int 4)) μ))) : kr_Wp C_M_lineNow (kr_c (d + 2)) Q 126 [some (.ref 65)] [.int r] μ := (st_M_lineNow (And.intro (fun z1x => (st_M_lineNow (st_M_lineNow (st_M_lineNow (st_M_lineNow (st_M_lineNow (st_M_lineNow (And.intro rfl (h.1 z1x))))))))) (fun z1x => (st_M_lineNow (st_M_lineNow (st_M_lineNow (h.2 z1x)))))))
theorem v_M_lineNow_110 {d : Nat} {Q : kr_Q} {μ : kr_M} {r : Int32} (h : ((r = 0 → kr_c (d + 2) i_M_is [.ref 65, .int 3, .int 111, .int 110, .int 101] μ (kr_bk (kr_Wp C_M_lineNow (kr_c (d + 2)) Q) 126 [some (.ref 65)] [])) ∧ (¬ (r = 0) → Q (some (.int 3)) μ))) : kr_Wp C_M_lineNow (kr_c (d + 2)) Q 110 [some (.ref 65)] [.int r] μ := (st_M_lineNow (And.intro (fun z1x => (st_M_lineNow (st_M_lineNow (st_M_lineNow (st_M_lineNow (st_M_lineNow (st_M_lineNow (And.intro rfl (h.1 z1x))))))))) (fun z1x => (st_M_lineNow (st_M_lineNow (h.2 z1x))))))
theorem v_M_lineNow_144 {d : Nat} {Q : kr_Q} {μ : kr_M} {r : Int32} (h : ((r = 0 → Q (some (.int (-4))) μ) ∧ (¬ (r = 0) → kr_c (d + 2) i_M_ends [.ref 65, .int 110, .int 0, .int 0] μ (kr_bk (kr_Wp C_M_lineNow (kr_c (d + 2)) Q) 155 [some (.ref 65)] [])))) : kr_Wp C_M_lineNow (kr_c (d + 2)) Q 144 [some (.ref 65)] [.int r] μ := (st_M_lineNow (And.intro (fun z1x => (st_M_lineNow (st_M_lineNow (h.1 z1x)))) (fun z1x => (st_M_lineNow (st_M_lineNow (st_M_lineNow (st_M_lineNow (st_M_lineNow (And.intro rfl (h.2 z1x))))))))))
theorem v_M_lineNow_155 {d : Nat} {Q : kr_Q} {μ : kr_M} {r : Int32} (h : ((r = 0 → Q (some (.int (-4))) μ) ∧ (¬ (r = 0) → Q (some (.int 5)) μ))) : kr_Wp C_M_lineNow (kr_c (d + 2)) Q 155 [some (.ref 65)] [.int r] μ := (st_M_lineNow (And.intro (fun z1x => (st_M_lineNow (st_M_lineNow (h.1 z1x)))) (fun z1x => (st_M_lineNow (st_M_lineNow (st_M_lineNow (h.2 z1x)))))))
section
variable {d : Nat} {Q : kr_Q} {μ : kr_M} {n : Nat} {b : Nat → Nat} {g t : Nat → Nat} {P D K : Nat}
abbrev kr_mN : List (Nat × Nat) := [(65, 15), (65, 16), (65, 17), (65, 18), (65, 19), (65, 20)]
abbrev kr_mF : List (Nat × Nat) := [(65, 19), (65, 20)]
abbrev kr_mH : List (Nat × Nat) := [(65, 12), (65, 15), (65, 16), (65, 17), (65, 18), (65, 19), (65, 20)]
theorem kr_TM.kp {μ' : kr_M} {W : List Nat} {F : List (Nat × Nat)} (h : kr_TM μ n b) (k : kr_keep W F μ μ') (hW : (65 ∉ W ∧ (65, 14) ∉ F) ∧ 71 ∉ W ∧ ∀ q ∈ F, q.1 ≠ 71) : kr_TM μ' n b := by
  unfold kr_TM
  rw [k.2 65 14 hW.1.1 hW.1.2, k.row hW.2.1 hW.2.2]
  exact h
theorem c_M_look (hT : kr_TM μ n b) (hw : kx_tw n b) {i : Nat} (hi : i < 2 ^ 31) (k : Q (some (.int (if i < n then nI (b i) else -1))) μ) : kr_c (d + 1) i_M_look [.ref 65, .int (nI i)] μ Q := by
  have h400 := hw.1
  refine v_M_look ?_
  rw [hT.1, nI_leI (by omega) hi]
  refine ⟨fun c => by rw [if_neg (by omega)] at k; exact k, fun c => ?_⟩
  rw [if_pos (by omega)] at k
  rw [nI_clamp hi, hT.2 i (by omega)]
  exact ⟨vp_in_nI (by omega) (by decide), k⟩
def kr_MS (μ : kr_M) (n : Nat) (b : Nat → Nat) : kp_X → Prop
  | .inl (c, w) => (1 ≤ c ∧ c ≤ 6) ∧ μ.1 65 19 = nI c ∧ μ.1 65 20 = nI w
  | .inr s => (s ≤ n ∧ kt_ok n b s = true) ∧ μ.1 65 19 = 0 ∧ μ.1 65 16 = nI s ∧ μ.1 65 17 = nI (kt_k n b s) ∧ (kt_k n b s ≠ 0 → μ.1 65 15 = nI (kt_e n b s)) ∧ (kt_k n b s = 2 → μ.1 65 18 = nI (kt_v n b s))
theorem kr_MS.kp {μ' : kr_M} {W : List Nat} {F : List (Nat × Nat)} {x : kp_X} (h : kr_MS μ n b x) (k : kr_keep W F μ μ') (hW : 65 ∉ W ∧ ((65, 15) ∉ F ∧ (65, 16) ∉ F) ∧ ((65, 17) ∉ F ∧ (65, 18) ∉ F) ∧ (65, 19) ∉ F ∧ (65, 20) ∉ F) : kr_MS μ' n b x := by
  obtain ⟨h0, ⟨h1, h2⟩, ⟨h3, h4⟩, h5, h6⟩ := hW
  cases x with
  | inl q =>
    obtain ⟨c, w⟩ := q
    exact ⟨h.1, by rw [k.2 65 19 h0 h5]; exact h.2.1, by rw [k.2 65 20 h0 h6]; exact h.2.2⟩
  | inr s =>
    obtain ⟨a0, a1, a2, a3, a4, a5⟩ := h
    exact ⟨a0, by rw [k.2 65 19 h0 h5]; exact a1, by rw [k.2 65 16 h0 h2]; exact a2, by rw [k.2 65 17 h0 h3]; exact a3, fun z => by rw [k.2 65 15 h0 h1]; exact a4 z, fun z => by rw [k.2 65 18 h0 h4]; exact a5 z⟩
theorem kz_w64 {c lo hi : Nat} (hc : c < 2 ^ 31) (hl : lo < 2 ^ 31) (hh : hi < 2 ^ 31) : ((nI lo).toInt64 ≤ (nI c).toInt64 ∧ (nI c).toInt64 ≤ (nI hi).toInt64) ↔ (lo ≤ c ∧ c ≤ hi) := by
  rw [kr_wle, kr_wle, nI_leI hl hc, nI_leI hc hh]
theorem kz_97 : (97 : Int64) = (nI 97).toInt64 ∧ (122 : Int64) = (nI 122).toInt64 ∧ (48 : Int64) = (nI 48).toInt64 ∧ (57 : Int64) = (nI 57).toInt64 := by decide
theorem c_M_needs1 {c : Int32} (k : Q none μ) : kr_c (d + 1) i_M_needs [.ref 65, .int 1, .int c] μ Q := v_M_needs ⟨fun _ => k, fun z => absurd z (by decide)⟩
theorem c_M_needsF {a c : Int32} (h : ¬ μ.1 65 19 = 0) (k : Q none μ) : kr_c (d + 1) i_M_needs [.ref 65, .int a, .int c] μ Q := v_M_needs ⟨fun _ => k, fun _ => ⟨fun _ => k, fun z => absurd z h⟩⟩
theorem c_M_needs0 {s c : Nat} (h : μ.1 65 19 = 0) (h16 : μ.1 65 16 = nI s) (hc : 1 ≤ c ∧ c ≤ 6) (k : ∀ μ', kr_keep [] kr_mF μ μ' → kr_MS μ' n b (.inl (c, s)) → Q none μ') : kr_c (d + 1) i_M_needs [.ref 65, .int 0, .int (nI c)] μ Q := by
  refine v_M_needs ⟨fun z => absurd rfl z, fun _ => ⟨fun z => absurd h z, fun _ => ?_⟩⟩
  rw [h16]
  exact k _ ((kr_keep.rf.f _ (by decide)).f _ (by decide)) ⟨hc, rfl, rfl⟩
theorem c_M_next_p (hT : kr_TM μ n b) (hw : kx_tw n b) {p : Nat} (hp : p ≤ n) (h19 : μ.1 65 19 = 0) (h15 : μ.1 65 15 = nI p) (k : ∀ μ', kr_keep [] kr_mN μ μ' → kr_MS μ' n b (kt_nx n b p) → Q none μ') : kr_c (d + 2) i_M_next [.ref 65] μ Q := by
  have h400 := hw.1
  obtain ⟨z1, z2, z3, z4⟩ := kz_97
  -- from the token's start
  have tok : ∀ s μ', kr_keep [] kr_mN μ μ' → s ≤ n → kt_s n b p = s → μ'.1 65 19 = 0 → μ'.1 65 15 = nI s → μ'.1 65 16 = nI s → kr_Wp C_M_next (kr_c (d + 1)) Q 50 [some (.ref 65), none] [.int (if s < n then nI (b s) else -1)] μ' := by
    intro s μ' hk hs es g19 g15 g16
    have hnx : kt_nx n b p = if kt_ok n b s = true then .inr s else .inl (1, s) := by unfold kt_nx; rw [es]
    have hT' := hT.kp hk (by decide)
    refine v_M_next_50 ?_
    by_cases hsn : s < n
    · rw [if_pos hsn]
      have hb := hw.2 s hsn
      have kd : kt_k n b s = if b s = 59 then 3 else if 97 ≤ b s ∧ b s ≤ 122 then 1 else if 48 ≤ b s ∧ b s ≤ 57 then 2 else 4 := if_neg (by omega)
      refine br_t (nI_pos' (by omega)) ?_
      rw [z1, z2, z3, z4, kz_w64 (by omega) (by decide) (by decide), kz_w64 (by omega) (by decide) (by decide), show (59 : Int32) = nI 59 from rfl, nI_eq (by omega) (by decide)]
      refine ⟨fun c1 => ⟨fun c2 => ⟨fun c3 => ?_, fun c3 => ?_⟩, fun c2 => ?_⟩, fun c1 => ?_⟩
      · -- none
        have hk4 : kt_k n b s = 4 := by rw [kd, if_neg c3, if_neg c1, if_neg c2]
        have h1 : kr_keep [] kr_mN μ (kr_u μ' 65 17 3) := hk.f _ (by decide)
        refine c_M_needs0 (n := n) (b := b) (s := s) (c := 1) g19 g16 (by decide) (fun μ2 hk2 h2 => v_M_next_264 ?_)
        refine k _ ((h1.tr (hk2.wk (by decide) (by decide))).f _ (by decide)) ?_
        rw [hnx, if_neg (by unfold kt_ok; rw [hk4]; simp)]
        exact h2
      · -- a sign
        have hk3 : kt_k n b s = 3 := by rw [kd, if_pos c3]
        obtain ⟨-, he⟩ := kt_k3 hk3
        refine c_M_needs1 (v_M_next_264 ?_)
        refine k _ ((hk.f _ (by decide)).f _ (by decide)) ?_
        rw [hnx, if_pos (by unfold kt_ok; rw [hk3]; rfl)]
        refine ⟨⟨hs, by unfold kt_ok; rw [hk3]; rfl⟩, g19, g16, by rw [hk3]; rfl, fun _ => ?_, fun z => by omega⟩
        show μ'.1 65 15 + 1 = _
        rw [g15, he, kr_n1]
      · -- a number
        have hk2 : kt_k n b s = 2 := by rw [kd, if_neg (by omega), if_neg c1, if_pos c2]
        obtain ⟨-, e1, e2⟩ := kt_e_1 (Or.inr hk2)
        have ee : kt_e n b s = kt_run n b 48 57 s := by unfold kt_e; rw [if_neg (by omega), if_pos hk2]
        refine v_M_next_130 ?_
        rw [g15]
        have loop : ∀ m i μ2, i + m = n → kr_keep [] kr_mN μ μ2 → s ≤ i → i ≤ kt_e n b s → kt_e n b s = kt_run n b 48 57 i → μ2.1 65 19 = 0 → μ2.1 65 15 = nI i → μ2.1 65 16 = nI s → μ2.1 65 17 = nI 2 → μ2.1 65 18 = nI (if i = s then 0 else if i = s + 1 then b s - 48 else 10 * (b s - 48) + b (s + 1) - 48) → kr_Wp C_M_next (kr_c (d + 1)) Q 148 [some (.ref 65), some (.int (nI (b s)))] [.int (if i < n then nI (b i) else -1)] μ2 := by
          intro m
          induction m with
          | zero =>
            intro i μ2 hi hk2' hsi hie he q19 q15 q16 q17 q18
            rw [if_neg (by omega)]
            have hie2 : kt_e n b s = i := by rw [he, kt_run_0 (by omega)]
            refine v_M_next_148 ⟨fun _ => ?_, fun z => absurd z (by rw [z3, z4]; decide)⟩
            rw [q15, q16, pk_sub hsi, show (2 : Int32) = nI 2 from rfl, nI_ltI (by decide) (by omega)]
            refine ⟨fun c => c_M_needs0 (n := n) (b := b) (s := s) (c := 1) q19 q16 (by decide) (fun μ3 hk3 h3 => v_M_next_240 (k μ3 (hk2'.tr (hk3.wk (by decide) (by decide))) ?_)), fun c => c_M_needs1 (v_M_next_240 (k μ2 hk2' ?_))⟩
            · rw [hnx, if_neg (by unfold kt_ok; rw [hk2]; simp; omega)]; exact h3
            · have hok : kt_ok n b s = true := by unfold kt_ok; rw [hk2]; simp; omega
              rw [hnx, if_pos hok]
              refine ⟨⟨hs, hok⟩, q19, q16, by rw [hk2]; exact q17, fun _ => by rw [hie2]; exact q15, fun _ => ?_⟩
              rw [q18]
              unfold kt_v
              congr 1
              rw [if_neg (by omega)]
              by_cases c : i = s + 1
              · rw [if_pos c, if_pos (by omega)]
              · rw [if_neg c, if_neg (by omega)]
          | succ m ih =>
            intro i μ2 hi hk2' hsi hie he q19 q15 q16 q17 q18
            have hbi := hw.2 i (by omega)
            rw [if_pos (show i < n by omega)]
            have hT2 := hT.kp hk2' (by decide)
            refine v_M_next_148 ?_
            rw [z3, z4, kz_w64 (by omega) (by decide) (by decide), q15, q16, pk_sub hsi, show (2 : Int32) = nI 2 from rfl, nI_ltI (by decide) (by omega), nI_leI (by decide) (by omega), kr_n1]
            refine ⟨fun cd => ?_, fun cd => ?_⟩
            · have hie2 : kt_e n b s = i := by rw [he, kt_run_n (by omega)]
              refine ⟨fun c => c_M_needs0 (n := n) (b := b) (s := s) (c := 1) q19 q16 (by decide) (fun μ3 hk3 h3 => v_M_next_240 (k μ3 (hk2'.tr (hk3.wk (by decide) (by decide))) ?_)), fun c => c_M_needs1 (v_M_next_240 (k μ2 hk2' ?_))⟩
              · rw [hnx, if_neg (by unfold kt_ok; rw [hk2]; simp; omega)]; exact h3
              · have hok : kt_ok n b s = true := by unfold kt_ok; rw [hk2]; simp; omega
                rw [hnx, if_pos hok]
                refine ⟨⟨hs, hok⟩, q19, q16, by rw [hk2]; exact q17, fun _ => by rw [hie2]; exact q15, fun _ => ?_⟩
                rw [q18]
                unfold kt_v
                congr 1
                rw [if_neg (by omega)]
                by_cases c : i = s + 1
                · rw [if_pos c, if_pos (by omega)]
                · rw [if_neg c, if_neg (by omega)]
            · have he' : kt_e n b s = kt_run n b 48 57 (i + 1) := by rw [he, kt_run_y (by omega) cd]
              have hie' : i + 1 ≤ kt_e n b s := by rw [he']; exact (kt_run_le (by omega)).1
              have hd0 := kt_dig hk2 (Nat.le_refl s) e1
              refine ⟨fun c => ?_, fun c => ?_⟩
              · have hk3 : kr_keep [] kr_mN μ (kr_u (kr_u μ2 65 18 (μ2.1 65 18)) 65 15 (nI (i + 1))) := (hk2'.f _ (by decide)).f _ (by decide)
                refine c_M_look (hT.kp hk3 (by decide)) hw (by omega) (ih (i + 1) _ (by omega) hk3 (by omega) hie' he' q19 rfl q16 q17 ?_)
                show μ2.1 65 18 = _
                rw [q18, if_neg (by omega), if_neg (by omega), if_neg (by omega), if_neg (by omega)]
              · refine c_M_look hT2 hw (by omega) (v_M_next_190 ?_)
                rw [if_pos (show i < n by omega), q15, q18, kr_n1]
                have hval : ((10 : Int32) * nI (if i = s then 0 else if i = s + 1 then b s - 48 else 10 * (b s - 48) + b (s + 1) - 48) + nI (b i)) - 48 = nI (if i + 1 = s then 0 else if i + 1 = s + 1 then b s - 48 else 10 * (b s - 48) + b (s + 1) - 48) := by
                  rw [show (10 : Int32) = nI 10 from rfl, pk_mul, nI_add, show (48 : Int32) = nI 48 from rfl, if_neg (show ¬ i + 1 = s by omega)]
                  by_cases c1 : i = s
                  · rw [if_pos c1, if_pos (by omega), c1, pk_sub (by omega)]
                    congr 1
                    omega
                  · have eb : b i = b (s + 1) := congrArg b (by omega)
                    rw [if_neg c1, if_pos (show i = s + 1 by omega), if_neg (show ¬ i + 1 = s + 1 by omega), eb, pk_sub (by omega)]
                rw [hval]
                have hk3 : kr_keep [] kr_mN μ (kr_u (kr_u μ2 65 18 (nI (if i + 1 = s then 0 else if i + 1 = s + 1 then b s - 48 else 10 * (b s - 48) + b (s + 1) - 48))) 65 15 (nI (i + 1))) := (hk2'.f _ (by decide)).f _ (by decide)
                exact c_M_look (hT.kp hk3 (by decide)) hw (by omega) (ih (i + 1) _ (by omega) hk3 (by omega) hie' he' q19 rfl q16 q17 rfl)
        have hk3 : kr_keep [] kr_mN μ (kr_u (kr_u μ' 65 17 2) 65 18 0) := (hk.f _ (by decide)).f _ (by decide)
        refine c_M_look (hT.kp hk3 (by decide)) hw (by omega) (loop (n - s) s _ (by omega) hk3 (Nat.le_refl s) (by omega) ee g19 g15 g16 rfl ?_)
        show (0 : Int32) = _
        rw [if_pos rfl]; rfl
      · -- a name
        have hk1 : kt_k n b s = 1 := by rw [kd, if_neg (by omega), if_pos c1]
        obtain ⟨-, e1, e2⟩ := kt_e_1 (Or.inl hk1)
        have ee : kt_e n b s = kt_run n b 97 122 s := by unfold kt_e; rw [if_pos hk1]
        have hok : kt_ok n b s = true := by unfold kt_ok; rw [hk1]; rfl
        refine v_M_next_77 ?_
        rw [g15]
        have fin : ∀ i μ2, kr_keep [] kr_mN μ μ2 → kt_e n b s = i → μ2.1 65 19 = 0 → μ2.1 65 15 = nI i → μ2.1 65 16 = nI s → μ2.1 65 17 = nI 1 → Q none μ2 := by
          intro i μ2 hk2' he q19 q15 q16 q17
          refine k μ2 hk2' ?_
          rw [hnx, if_pos hok]
          exact ⟨⟨hs, hok⟩, q19, q16, by rw [hk1]; exact q17, fun _ => by rw [he]; exact q15, fun z => by omega⟩
        have loop : ∀ m i μ2, i + m = n → kr_keep [] kr_mN μ μ2 → kt_e n b s = kt_run n b 97 122 i → μ2.1 65 19 = 0 → μ2.1 65 15 = nI i → μ2.1 65 16 = nI s → μ2.1 65 17 = nI 1 → kr_Wp C_M_next (kr_c (d + 1)) Q 90 [some (.ref 65), some (.int (nI (b s)))] [.int (if i < n then nI (b i) else -1)] μ2 := by
          intro m
          induction m with
          | zero =>
            intro i μ2 hi hk2' he q19 q15 q16 q17
            rw [if_neg (by omega)]
            exact v_M_next_90 ⟨fun _ => fin i μ2 hk2' (by rw [he, kt_run_0 (by omega)]) q19 q15 q16 q17, fun z => absurd z (by rw [z1, z2]; decide)⟩
          | succ m ih =>
            intro i μ2 hi hk2' he q19 q15 q16 q17
            have hbi := hw.2 i (by omega)
            rw [if_pos (show i < n by omega)]
            refine v_M_next_90 ?_
            rw [z1, z2, kz_w64 (by omega) (by decide) (by decide), q15, kr_n1]
            refine ⟨fun c => fin i μ2 hk2' (by rw [he, kt_run_n c]) q19 q15 q16 q17, fun c => ?_⟩
            have hk3 : kr_keep [] kr_mN μ (kr_u μ2 65 15 (nI (i + 1))) := hk2'.f _ (by decide)
            exact c_M_look (hT.kp hk3 (by decide)) hw (by omega) (ih (i + 1) _ (by omega) hk3 (by rw [he, kt_run_y (by omega) c]) q19 rfl q16 q17)
        have hk3 : kr_keep [] kr_mN μ (kr_u μ' 65 17 1) := hk.f _ (by decide)
        exact c_M_look (hT.kp hk3 (by decide)) hw (by omega) (loop (n - s) s _ (by omega) hk3 ee g19 g15 g16 rfl)
    · rw [if_neg hsn]
      have hk0 : kt_k n b s = 0 := if_pos (by omega)
      have hok : kt_ok n b s = true := by unfold kt_ok; rw [hk0]; rfl
      refine br_f (by decide) (k _ (hk.f _ (by decide)) ?_)
      rw [hnx, if_pos hok]
      exact ⟨⟨hs, hok⟩, g19, g16, by rw [hk0]; rfl, fun z => absurd hk0 z, fun z => by omega⟩
  -- blanks
  have blank : ∀ m i μ', i + m = n → kr_keep [] kr_mN μ μ' → kt_s n b p = kt_run n b 32 32 i → μ'.1 65 19 = 0 → μ'.1 65 15 = nI i → kr_Wp C_M_next (kr_c (d + 1)) Q 16 [some (.ref 65), none] [.int (if i < n then nI (b i) else -1)] μ' := by
    intro m
    induction m with
    | zero =>
      intro i μ' hi hk e g19 g15
      refine v_M_next_16 ⟨fun _ => ?_, fun z => ?_⟩
      · rw [g15]
        have hk2 : kr_keep [] kr_mN μ (kr_u μ' 65 16 (nI i)) := hk.f _ (by decide)
        exact c_M_look (hT.kp hk2 (by decide)) hw (by omega) (tok i _ hk2 (by omega) (by rw [e, kt_run_0 (by omega)]) g19 g15 rfl)
      · rw [if_neg (by omega)] at z
        exact absurd z (by decide)
    | succ m ih =>
      intro i μ' hi hk e g19 g15
      have hbi := hw.2 i (by omega)
      refine v_M_next_16 ?_
      rw [g15, kr_n1]
      have ce : ((if i < n then nI (b i) else (-1 : Int32)) = 32) ↔ b i = 32 := by
        rw [if_pos (by omega), show (32 : Int32) = nI 32 from rfl, nI_eq (by omega) (by decide)]
      rw [ce]
      refine ⟨fun c => ?_, fun c => ?_⟩
      · have hk2 : kr_keep [] kr_mN μ (kr_u μ' 65 16 (nI i)) := hk.f _ (by decide)
        exact c_M_look (hT.kp hk2 (by decide)) hw (by omega) (tok i _ hk2 (by omega) (by rw [e, kt_run_n (by omega)]) g19 g15 rfl)
      · have hk2 : kr_keep [] kr_mN μ (kr_u μ' 65 15 (nI (i + 1))) := hk.f _ (by decide)
        exact c_M_look (hT.kp hk2 (by decide)) hw (by omega) (ih (i + 1) _ (by omega) hk2 (by rw [e, kt_run_y (by omega) (by omega)]) g19 rfl)
  refine v_M_next ⟨fun _ => ?_, fun z => absurd z (by rw [h19]; decide)⟩
  rw [h15]
  exact c_M_look hT hw (by omega) (blank (n - p) p μ (by omega) kr_keep.rf rfl h19 h15)
theorem c_M_nextF (h : ∃ c, (1 ≤ c ∧ c ≤ 6) ∧ μ.1 65 19 = nI c) (k : Q none μ) : kr_c (d + 2) i_M_next [.ref 65] μ Q := by
  obtain ⟨c, hc, h⟩ := h
  refine v_M_next (br_f ?_ (v_M_next_7 k))
  rw [h, show (0 : Int32) = nI 0 from rfl, nI_leI (by omega) (by decide)]
  omega
/-- the token behind -/
def kp_ad (n : Nat) (b : Nat → Nat) (x : kp_X) : kp_X := kp_bd x (fun s => kt_nx n b (kt_e n b s))
def kp_vl (n : Nat) (b : Nat → Nat) : kp_X → Nat
  | .inl _ => 0
  | .inr s => kt_v n b s
def kp_df (n : Nat) (b : Nat → Nat) (a : Nat) (x : kp_X) : kp_X := kp_bd x (fun s => if kt_v n b s = a then .inl (4, s) else .inr s)
theorem c_M_next (hT : kr_TM μ n b) (hw : kx_tw n b) {x : kp_X} (hS : kr_MS μ n b x) (hx : ∀ s, x = .inr s → kt_k n b s ≠ 0 ∧ kt_e n b s ≤ n) (k : ∀ μ', kr_keep [] kr_mN μ μ' → kr_MS μ' n b (kp_ad n b x) → Q none μ') : kr_c (d + 2) i_M_next [.ref 65] μ Q := by
  cases x with
  | inl q =>
    obtain ⟨c, w⟩ := q
    exact c_M_nextF ⟨c, hS.1, hS.2.1⟩ (k μ kr_keep.rf hS)
  | inr s =>
    obtain ⟨x1, x2⟩ := hx s rfl
    exact c_M_next_p hT hw x2 hS.2.1 (hS.2.2.2.2.1 x1) k
theorem kt_v_lt {s : Nat} (hk : kt_k n b s = 2) : kt_v n b s < 1000 := by
  obtain ⟨-, e1, e2⟩ := kt_e_1 (Or.inr hk)
  have d0 := kt_dig hk (Nat.le_refl s) e1
  unfold kt_v
  split
  · omega
  · have d1 := kt_dig (i := s + 1) hk (by omega) (by omega)
    omega
theorem kp_lk_k {lo hi s : Nat} {x : kp_X} (h : kp_lk n b lo hi x = .inr s) : kt_k n b s ≠ 0 ∧ kt_e n b s ≤ n := by
  obtain ⟨-, h2, -, -⟩ := kp_lk_r h
  exact ⟨by omega, (kt_e_1 (Or.inr h2)).2.2⟩
theorem kp_vl_le {lo hi : Nat} {x : kp_X} : kp_vl n b (kp_lk n b lo hi x) ≤ hi := by
  cases h : kp_lk n b lo hi x with
  | inl q => exact Nat.zero_le _
  | inr s => exact (kp_lk_r h).2.2.2
theorem kr_kb {s : Nat} : kt_k n b s ≤ 4 := by unfold kt_k; split; omega; split; omega; split; omega; split <;> omega
theorem c_M_looked {lo hi : Nat} {x : kp_X} (hS : kr_MS μ n b x) (hlo : lo < 100) (hhi : hi < 100) (k : ∀ μ', kr_keep [] kr_mF μ μ' → kr_MS μ' n b (kp_lk n b lo hi x) → Q (some (.int (nI (kp_vl n b (kp_lk n b lo hi x))))) μ') : kr_c (d + 2) i_M_looked [.ref 65, .int (nI lo), .int (nI hi)] μ Q := by
  cases x with
  | inl q =>
    obtain ⟨c, w⟩ := q
    obtain ⟨h1, h2, h3⟩ := hS
    have ne : ¬ μ.1 65 19 = 0 := by rw [h2, kr_eq0 (by omega)]; omega
    exact v_M_looked ⟨fun _ => ⟨fun _ => ⟨fun _ => k μ kr_keep.rf ⟨h1, h2, h3⟩, fun z => absurd z ne⟩, fun z => absurd z ne⟩, fun z => absurd z ne⟩
  | inr s =>
    obtain ⟨a0, a1, a2, a3, a4, a5⟩ := hS
    have hkb := kr_kb (n := n) (b := b) (s := s)
    refine v_M_looked ⟨fun z => absurd a1 z, fun _ => ?_⟩
    rw [a3, show (2 : Int32) = nI 2 from rfl, nI_eq (by omega) (by decide)]
    refine ⟨fun c2 => ?_, fun c2 => ?_⟩
    · have e : kp_lk n b lo hi (.inr s) = .inl (2, s) := by unfold kp_lk; exact if_neg c2
      rw [e] at k
      refine c_M_needs0 (n := n) (b := b) (s := s) (c := 2) a1 a2 (by decide) (fun μ2 hk2 h2 => v_M_looked_25 ?_)
      have ne : ¬ μ2.1 65 19 = 0 := by rw [h2.2.1, kr_eq0 (by decide)]; decide
      exact ⟨fun _ => ⟨fun _ => k μ2 hk2 h2, fun z => absurd z ne⟩, fun z => absurd z ne⟩
    · have hv := kt_v_lt c2
      refine c_M_needs1 (v_M_looked_25 ⟨fun z => absurd a1 z, fun _ => ?_⟩)
      rw [a5 c2]
      by_cases cr : lo ≤ kt_v n b s ∧ kt_v n b s ≤ hi
      · have e : kp_lk n b lo hi (.inr s) = .inr s := by
          unfold kp_lk
          show (if kt_k n b s = 2 then _ else _) = _
          rw [if_pos c2, if_pos cr]
        rw [e] at k
        rw [if_pos ((kz_w64 (by omega) (by omega) (by omega)).mpr cr)]
        refine c_M_needs1 (v_M_looked_49 ⟨fun z => absurd a1 z, fun _ => ?_⟩)
        rw [a5 c2]
        exact k μ kr_keep.rf ⟨a0, a1, a2, a3, a4, a5⟩
      · have e : kp_lk n b lo hi (.inr s) = .inl (3, s) := by
          unfold kp_lk
          show (if kt_k n b s = 2 then _ else _) = _
          rw [if_pos c2, if_neg cr]
        rw [e] at k
        rw [if_neg (fun z => cr ((kz_w64 (by omega) (by omega) (by omega)).mp z))]
        refine c_M_needs0 (n := n) (b := b) (s := s) (c := 3) a1 a2 (by decide) (fun μ2 hk2 h2 => v_M_looked_49 ?_)
        have ne : ¬ μ2.1 65 19 = 0 := by rw [h2.2.1, kr_eq0 (by decide)]; decide
        exact ⟨fun _ => k μ2 hk2 h2, fun z => absurd z ne⟩
/-- the highest point so far -/
def kr_hx (μ : kr_M) (h : Nat) : Prop := h ≤ 8 ∧ ((μ.1 65 12 = -4 ∧ h = 0) ∨ μ.1 65 12 = nI h)
theorem c_M_lookedPoint {h : Nat} {x : kp_X} (hS : kr_MS μ n b x) (hh : kr_hx μ h) (k : ∀ μ', kr_keep [] [(65, 12), (65, 19), (65, 20)] μ μ' → kr_MS μ' n b (kp_lk n b 0 8 x) → kr_hx μ' (max h (kp_vl n b (kp_lk n b 0 8 x))) → Q (some (.int (nI (kp_vl n b (kp_lk n b 0 8 x))))) μ') : kr_c (d + 3) i_M_lookedPoint [.ref 65] μ Q := by
  refine v_M_lookedPoint (c_M_looked (lo := 0) (hi := 8) hS (by decide) (by decide) (fun μ2 hk2 h2 => v_M_lookedPoint_7 ?_))
  have hv := kp_vl_le (n := n) (b := b) (lo := 0) (hi := 8) (x := x)
  have hk3 : kr_keep [] [(65, 12), (65, 19), (65, 20)] μ μ2 := hk2.wk (by decide) (by decide)
  generalize kp_vl n b (kp_lk n b 0 8 x) = v at *
  have e12 : μ2.1 65 12 = μ.1 65 12 := hk2.2 65 12 (by decide) (by decide)
  have put : ∀ u, kr_keep [] [(65, 12), (65, 19), (65, 20)] μ (kr_u μ2 65 12 u) ∧ kr_MS (kr_u μ2 65 12 u) n b (kp_lk n b 0 8 x) := fun u => ⟨hk3.f _ (by decide), h2.kp ((kr_keep.rf (W := []) (F := [(65, 12)]) (μ := μ2)).f u (by decide)) (by decide)⟩
  obtain ⟨hh8, hh⟩ := hh
  rw [e12]
  rcases hh with ⟨q1, q2⟩ | q
  · rw [q1]
    refine ⟨fun z => ?_, fun _ => k _ (put _).1 (put _).2 ⟨by omega, Or.inr ?_⟩⟩
    · rw [kr_le, nI_toInt (by omega), show (-4 : Int32).toInt = -4 from rfl] at z
      omega
    · rw [kr_u_s, kr_upd_s, q2, Nat.zero_max]
  · rw [q, nI_leI (by omega) (by omega)]
    refine ⟨fun z => k _ (put _).1 (put _).2 ⟨by omega, Or.inr ?_⟩, fun z => k _ (put _).1 (put _).2 ⟨by omega, Or.inr ?_⟩⟩
    · rw [kr_u_s, kr_upd_s, Nat.max_eq_left z]
    · rw [kr_u_s, kr_upd_s, Nat.max_eq_right (by omega)]
theorem c_M_readNumber {lo hi : Nat} {x : kp_X} (hT : kr_TM μ n b) (hw : kx_tw n b) (hS : kr_MS μ n b x) (hlo : lo < 100) (hhi : hi < 100) (k : ∀ μ', kr_keep [] kr_mN μ μ' → kr_MS μ' n b (kp_ad n b (kp_lk n b lo hi x)) → Q (some (.int (nI (kp_vl n b (kp_lk n b lo hi x))))) μ') : kr_c (d + 3) i_M_readNumber [.ref 65, .int (nI lo), .int (nI hi)] μ Q :=
  v_M_readNumber (c_M_looked hS hlo hhi (fun μ2 hk2 h2 => v_M_readNumber_6 (c_M_next (hT.kp hk2 (by decide)) hw h2 (fun s hs => kp_lk_k hs) (fun μ3 hk3 h3 => v_M_readNumber_11 (k μ3 ((hk2.wk (by decide) (by decide)).tr hk3) h3)))))
theorem c_M_readPoint {h : Nat} {x : kp_X} (hT : kr_TM μ n b) (hw : kx_tw n b) (hS : kr_MS μ n b x) (hh : kr_hx μ h) (k : ∀ μ', kr_keep [] kr_mH μ μ' → kr_MS μ' n b (kp_ad n b (kp_lk n b 0 8 x)) → kr_hx μ' (max h (kp_vl n b (kp_lk n b 0 8 x))) → Q (some (.int (nI (kp_vl n b (kp_lk n b 0 8 x))))) μ') : kr_c (d + 4) i_M_readPoint [.ref 65] μ Q :=
  v_M_readPoint (c_M_lookedPoint hS hh (fun μ2 hk2 h2 hh2 => v_M_readPoint_4 (c_M_next (hT.kp hk2 (by decide)) hw h2 (fun s hs => kp_lk_k hs) (fun μ3 hk3 h3 => v_M_readPoint_9 (k μ3 ((hk2.wk (by decide) (by decide)).tr (hk3.wk (by decide) (by decide))) h3 ⟨hh2.1, by rw [hk3.2 65 12 (by decide) (by decide)]; exact hh2.2⟩)))))
theorem c_M_readOther {h a : Nat} {x : kp_X} (ha : a ≤ 8) (hT : kr_TM μ n b) (hw : kx_tw n b) (hS : kr_MS μ n b x) (hh : kr_hx μ h) (k : ∀ μ', kr_keep [] kr_mH μ μ' → kr_MS μ' n b (kp_ad n b (kp_df n b a (kp_lk n b 0 8 x))) → kr_hx μ' (max h (kp_vl n b (kp_lk n b 0 8 x))) → Q (some (.int (nI (kp_vl n b (kp_lk n b 0 8 x))))) μ') : kr_c (d + 4) i_M_readOther [.ref 65, .int (nI a)] μ Q := by
  refine v_M_readOther (c_M_lookedPoint hS hh (fun μ2 hk2 h2 hh2 => v_M_readOther_4 ?_))
  have hv := kp_vl_le (n := n) (b := b) (lo := 0) (hi := 8) (x := x)
  have go : ∀ μ3, kr_keep [] kr_mF μ2 μ3 → kr_MS μ3 n b (kp_df n b a (kp_lk n b 0 8 x)) → kr_Wp C_M_readOther (kr_c (d + 3)) Q 20 [some (.ref 65), some (.int (nI a)), some (.int (nI (kp_vl n b (kp_lk n b 0 8 x))))] [] μ3 := by
    intro μ3 hk3 h3
    have hk23 : kr_keep [] kr_mH μ μ3 := (hk2.wk (by decide) (by decide)).tr (hk3.wk (by decide) (by decide))
    refine v_M_readOther_20 (c_M_next (hT.kp hk23 (by decide)) hw h3 (fun s hs => ?_) (fun μ4 hk4 h4 => v_M_readOther_24 (k μ4 (hk23.tr (hk4.wk (by decide) (by decide))) h4 ⟨hh2.1, by rw [hk4.2 65 12 (by decide) (by decide), hk3.2 65 12 (by decide) (by decide)]; exact hh2.2⟩)))
    unfold kp_df at hs
    obtain ⟨s', e1, e2⟩ := kp_bd_i hs
    split at e2
    · cases e2
    · cases e2
      exact kp_lk_k e1
  cases e : kp_lk n b 0 8 x with
  | inl q =>
    obtain ⟨c, w⟩ := q
    rw [e] at h2 go
    have ne : ¬ μ2.1 65 19 = 0 := by
      have := h2.1
      rw [h2.2.1, kr_eq0 (by omega)]; omega
    exact ⟨fun _ => c_M_needsF ne (go μ2 kr_keep.rf h2), fun _ => c_M_needsF ne (go μ2 kr_keep.rf h2)⟩
  | inr s =>
    rw [e] at h2 go hv
    have hv : kt_v n b s ≤ 8 := hv
    show (nI (kt_v n b s) = nI a → _) ∧ (¬ nI (kt_v n b s) = nI a → _)
    rw [nI_eq (by omega) (by omega)]
    refine ⟨fun c => ?_, fun c => ?_⟩
    · have ed : kp_df n b a (.inr s) = .inl (4, s) := if_pos c
      rw [ed] at go
      exact c_M_needs0 (n := n) (b := b) (s := s) (c := 4) h2.2.1 h2.2.2.1 (by decide) (fun μ3 hk3 h3 => go μ3 hk3 h3)
    · have ed : kp_df n b a (.inr s) = .inr s := if_neg c
      rw [ed] at go
      exact c_M_needs1 (go μ2 kr_keep.rf h2)
end
