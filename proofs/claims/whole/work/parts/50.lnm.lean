/-! names and lines of the text: the reference -/
theorem st_M_readLineAt {d : Nat} {Q : kr_Q} {pc : Nat} {ls : kr_L} {st : List Value} {μ : kr_M} (h : C_M_readLineAt pc (kr_Wp C_M_readLineAt (kr_c d) Q) (kr_c d) Q ls st μ) : kr_Wp C_M_readLineAt (kr_c d) Q pc ls st μ := kr_Wp.step (fun pc => (kr_ok_M_readLineAt pc).2) (kr_c_om d) h
theorem v_M_readLineAt {d : Nat} {Q : kr_Q} {μ : kr_M}  (h : kr_c (d + 4) i_M_readPoint [.ref 65] μ (kr_bk (kr_Wp C_M_readLineAt (kr_c (d + 4)) Q) 22 [some (.ref 65), some (.int ((1 : Int32) + ((5 : Int32) * (μ.1 69 0))))] [.int (((1 : Int32) + ((5 : Int32) * (μ.1 69 0))) + (0 : Int32)), .ref 69])) : kr_c (d + 5) i_M_readLineAt [.ref 65] μ Q := ⟨rfl, (st_M_readLineAt (st_M_readLineAt (st_M_readLineAt (st_M_readLineAt (And.intro rfl (st_M_readLineAt (st_M_readLineAt (And.intro ⟨125, rfl, kr_vp rfl⟩ (st_M_readLineAt (st_M_readLineAt (st_M_readLineAt (st_M_readLineAt (st_M_readLineAt (And.intro rfl (st_M_readLineAt (st_M_readLineAt (st_M_readLineAt (st_M_readLineAt (st_M_readLineAt (And.intro rfl h))))))))))))))))))))⟩
theorem v_M_readLineAt_22 {d : Nat} {Q : kr_Q} {μ : kr_M} {a1 : Int32} {r : Int32} {s0 : Int32} (h : vp_in s0 125 ∧ vp_in (a1 + (0 : Int32)) 125 ∧ kr_c (d + 4) i_M_readOther [.ref 65, .int (upd (μ.1 69) s0.toNatClampNeg r ((a1 + (0 : Int32)).toNatClampNeg))] (kr_u μ 69 s0.toNatClampNeg r) (kr_bk (kr_Wp C_M_readLineAt (kr_c (d + 4)) Q) 42 [some (.ref 65), some (.int a1)] [.int (a1 + (1 : Int32)), .ref 69])) : kr_Wp C_M_readLineAt (kr_c (d + 4)) Q 22 [some (.ref 65), some (.int a1)] [.int r, .int s0, .ref 69] μ := (st_M_readLineAt (And.intro ⟨125, rfl, h.1⟩ (st_M_readLineAt (st_M_readLineAt (And.intro rfl (st_M_readLineAt (st_M_readLineAt (st_M_readLineAt (st_M_readLineAt (st_M_readLineAt (st_M_readLineAt (And.intro rfl (st_M_readLineAt (st_M_readLineAt (st_M_readLineAt (st_M_readLineAt (And.intro ⟨125, rfl, h.2.1⟩ (st_M_readLineAt (And.intro rfl h.2.2)))))))))))))))))))
theorem v_M_readLineAt_42 {d : Nat} {Q : kr_Q} {μ : kr_M} {a1 : Int32} {r : Int32} {s0 : Int32} (h : vp_in s0 125 ∧ kr_c (d + 4) i_M_readNumber [.ref 65, .int 1, .int 9] (kr_u μ 69 s0.toNatClampNeg r) (kr_bk (kr_Wp C_M_readLineAt (kr_c (d + 4)) Q) 57 [some (.ref 65), some (.int a1)] [.int (a1 + (2 : Int32)), .ref 69])) : kr_Wp C_M_readLineAt (kr_c (d + 4)) Q 42 [some (.ref 65), some (.int a1)] [.int r, .int s0, .ref 69] μ := (st_M_readLineAt (And.intro ⟨125, rfl, h.1⟩ (st_M_readLineAt (st_M_readLineAt (And.intro rfl (st_M_readLineAt (st_M_readLineAt (st_M_readLineAt (st_M_readLineAt (st_M_readLineAt (st_M_readLineAt (st_M_readLineAt (And.intro rfl h.2)))))))))))))
theorem v_M_readLineAt_57 {d : Nat} {Q : kr_Q} {μ : kr_M} {a1 : Int32} {r : Int32} {s0 : Int32} (h : vp_in s0 125 ∧ kr_c (d + 4) i_M_readNumber [.ref 65, .int 0, .int 9] (kr_u μ 69 s0.toNatClampNeg r) (kr_bk (kr_Wp C_M_readLineAt (kr_c (d + 4)) Q) 72 [some (.ref 65), some (.int a1)] [.int (a1 + (3 : Int32)), .ref 69])) : kr_Wp C_M_readLineAt (kr_c (d + 4)) Q 57 [some (.ref 65), some (.int a1)] [.int r, .int s0, .ref 69] μ := (st_M_readLineAt (And.intro ⟨125, rfl, h.1⟩ (st_M_readLineAt (st_M_readLineAt (And.intro rfl (st_M_readLineAt (st_M_readLineAt (st_M_readLineAt (st_M_readLineAt (st_M_readLineAt (st_M_readLineAt (st_M_readLineAt (And.intro rfl h.2)))))))))))))
theorem v_M_readLineAt_72 {d : Nat} {Q : kr_Q} {μ : kr_M} {a1 : Int32} {r : Int32} {s0 : Int32} (h : vp_in s0 125 ∧ vp_in (a1 + (4 : Int32)) 125 ∧ ((¬ (μ.1 65 19) = 0 → Q none (kr_u (kr_u (kr_u μ 69 s0.toNatClampNeg r) 69 ((a1 + (4 : Int32)).toNatClampNeg) 0) 69 0 ((upd (upd (μ.1 69) s0.toNatClampNeg r) ((a1 + (4 : Int32)).toNatClampNeg) 0 0) + (1 : Int32)))) ∧ ((μ.1 65 19) = 0 → ((¬ (μ.1 65 17) = 1 → Q none (kr_u (kr_u (kr_u μ 69 s0.toNatClampNeg r) 69 ((a1 + (4 : Int32)).toNatClampNeg) 0) 69 0 ((upd (upd (μ.1 69) s0.toNatClampNeg r) ((a1 + (4 : Int32)).toNatClampNeg) 0 0) + (1 : Int32)))) ∧ ((μ.1 65 17) = 1 → kr_c (d + 4) i_M_isRoof [.ref 65] (kr_u (kr_u μ 69 s0.toNatClampNeg r) 69 ((a1 + (4 : Int32)).toNatClampNeg) 0) (kr_bk (kr_Wp C_M_readLineAt (kr_c (d + 4)) Q) 102 [some (.ref 65), some (.int a1)] [.ref 65])))))) : kr_Wp C_M_readLineAt (kr_c (d + 4)) Q 72 [some (.ref 65), some (.int a1)] [.int r, .int s0, .ref 69] μ := (st_M_readLineAt (And.intro ⟨125, rfl, h.1⟩ (st_M_readLineAt (st_M_readLineAt (And.intro rfl (st_M_readLineAt (st_M_readLineAt (st_M_readLineAt (st_M_readLineAt (st_M_readLineAt (And.intro ⟨125, rfl, h.2.1⟩ (st_M_readLineAt (st_M_readLineAt (And.intro rfl (st_M_readLineAt (And.intro (fun z1x => (st_M_readLineAt (st_M_readLineAt (And.intro rfl (st_M_readLineAt (st_M_readLineAt (st_M_readLineAt (And.intro ⟨125, rfl, kr_vp rfl⟩ (st_M_readLineAt (st_M_readLineAt (st_M_readLineAt (And.intro ⟨125, rfl, kr_vp rfl⟩ (st_M_readLineAt (h.2.2.1 z1x)))))))))))))) (fun z1x => (st_M_readLineAt (st_M_readLineAt (And.intro rfl (st_M_readLineAt (st_M_readLineAt (And.intro (fun z2x => (st_M_readLineAt (st_M_readLineAt (And.intro rfl (st_M_readLineAt (st_M_readLineAt (st_M_readLineAt (And.intro ⟨125, rfl, kr_vp rfl⟩ (st_M_readLineAt (st_M_readLineAt (st_M_readLineAt (And.intro ⟨125, rfl, kr_vp rfl⟩ (st_M_readLineAt ((h.2.2.2 (Decidable.not_not.mp z1x)).1 z2x)))))))))))))) (fun z2x => (st_M_readLineAt (st_M_readLineAt (st_M_readLineAt (And.intro rfl ((h.2.2.2 (Decidable.not_not.mp z1x)).2 (Decidable.not_not.mp z2x))))))))))))))))))))))))))))))
theorem v_M_readLineAt_102 {d : Nat} {Q : kr_Q} {μ : kr_M} {a1 : Int32} {r : Int32} (h : kr_c (d + 4) i_M_needs [.ref 65, .int r, .int 2] μ (kr_bk (kr_Wp C_M_readLineAt (kr_c (d + 4)) Q) 106 [some (.ref 65), some (.int a1)] [])) : kr_Wp C_M_readLineAt (kr_c (d + 4)) Q 102 [some (.ref 65), some (.int a1)] [.int r, .ref 65] μ := (st_M_readLineAt (st_M_readLineAt (And.intro rfl h)))
theorem v_M_readLineAt_106 {d : Nat} {Q : kr_Q} {μ : kr_M} {a1 : Int32} (h : vp_in (a1 + (4 : Int32)) 125 ∧ kr_c (d + 4) i_M_next [.ref 65] (kr_u μ 69 ((a1 + (4 : Int32)).toNatClampNeg) 1) (kr_bk (kr_Wp C_M_readLineAt (kr_c (d + 4)) Q) 119 [some (.ref 65), some (.int a1)] [])) : kr_Wp C_M_readLineAt (kr_c (d + 4)) Q 106 [some (.ref 65), some (.int a1)] [] μ := (st_M_readLineAt (st_M_readLineAt (And.intro rfl (st_M_readLineAt (st_M_readLineAt (st_M_readLineAt (st_M_readLineAt (st_M_readLineAt (And.intro ⟨125, rfl, h.1⟩ (st_M_readLineAt (st_M_readLineAt (And.intro rfl h.2))))))))))))
theorem v_M_readLineAt_119 {d : Nat} {Q : kr_Q} {μ : kr_M} {a1 : Int32} (h : Q none (kr_u μ 69 0 ((μ.1 69 0) + (1 : Int32)))) : kr_Wp C_M_readLineAt (kr_c (d + 4)) Q 119 [some (.ref 65), some (.int a1)] [] μ := (st_M_readLineAt (st_M_readLineAt (And.intro rfl (st_M_readLineAt (st_M_readLineAt (st_M_readLineAt (And.intro ⟨125, rfl, kr_vp rfl⟩ (st_M_readLineAt (st_M_readLineAt (st_M_readLineAt (And.intro ⟨125, rfl, kr_vp rfl⟩ (st_M_readLineAt h))))))))))))
theorem st_M_readOne {d : Nat} {Q : kr_Q} {pc : Nat} {ls : kr_L} {st : List Value} {μ : kr_M} (h : C_M_readOne pc (kr_Wp C_M_readOne (kr_c d) Q) (kr_c d) Q ls st μ) : kr_Wp C_M_readOne (kr_c d) Q pc ls st μ := kr_Wp.step (fun pc => (kr_ok_M_readOne pc).2) (kr_c_om d) h
theorem v_M_readOne {d : Nat} {Q : kr_Q} {μ : kr_M}  (h : kr_c (d + 4) i_M_readPoint [.ref 65] μ (kr_bk (kr_Wp C_M_readOne (kr_c (d + 4)) Q) 16 [some (.ref 65), some (.int ((3 : Int32) * (μ.1 65 9)))] [.int ((3 : Int32) * (μ.1 65 9)), .ref 70])) : kr_c (d + 5) i_M_readOne [.ref 65] μ Q := ⟨rfl, (st_M_readOne (st_M_readOne (st_M_readOne (And.intro rfl (st_M_readOne (st_M_readOne (st_M_readOne (st_M_readOne (And.intro rfl (st_M_readOne (st_M_readOne (st_M_readOne (And.intro rfl h)))))))))))))⟩
theorem v_M_readOne_16 {d : Nat} {Q : kr_Q} {μ : kr_M} {a1 : Int32} {r : Int32} {s0 : Int32} (h : vp_in s0 15 ∧ vp_in a1 15 ∧ kr_c (d + 4) i_M_readOther [.ref 65, .int (upd (μ.1 70) s0.toNatClampNeg r a1.toNatClampNeg)] (kr_u μ 70 s0.toNatClampNeg r) (kr_bk (kr_Wp C_M_readOne (kr_c (d + 4)) Q) 34 [some (.ref 65), some (.int a1)] [.int (a1 + (1 : Int32)), .ref 70])) : kr_Wp C_M_readOne (kr_c (d + 4)) Q 16 [some (.ref 65), some (.int a1)] [.int r, .int s0, .ref 70] μ := (st_M_readOne (And.intro ⟨15, rfl, h.1⟩ (st_M_readOne (st_M_readOne (And.intro rfl (st_M_readOne (st_M_readOne (st_M_readOne (st_M_readOne (st_M_readOne (st_M_readOne (And.intro rfl (st_M_readOne (st_M_readOne (And.intro ⟨15, rfl, h.2.1⟩ (st_M_readOne (And.intro rfl h.2.2)))))))))))))))))
theorem v_M_readOne_34 {d : Nat} {Q : kr_Q} {μ : kr_M} {a1 : Int32} {r : Int32} {s0 : Int32} (h : vp_in s0 15 ∧ kr_c (d + 4) i_M_readNumber [.ref 65, .int 0, .int 40] (kr_u μ 70 s0.toNatClampNeg r) (kr_bk (kr_Wp C_M_readOne (kr_c (d + 4)) Q) 49 [some (.ref 65), some (.int a1)] [.int (a1 + (2 : Int32)), .ref 70])) : kr_Wp C_M_readOne (kr_c (d + 4)) Q 34 [some (.ref 65), some (.int a1)] [.int r, .int s0, .ref 70] μ := (st_M_readOne (And.intro ⟨15, rfl, h.1⟩ (st_M_readOne (st_M_readOne (And.intro rfl (st_M_readOne (st_M_readOne (st_M_readOne (st_M_readOne (st_M_readOne (st_M_readOne (st_M_readOne (And.intro rfl h.2)))))))))))))
theorem v_M_readOne_49 {d : Nat} {Q : kr_Q} {μ : kr_M} {a1 : Int32} {r : Int32} {s0 : Int32} (h : vp_in s0 15 ∧ Q none (kr_u (kr_u μ 70 s0.toNatClampNeg r) 65 9 ((μ.1 65 9) + (1 : Int32)))) : kr_Wp C_M_readOne (kr_c (d + 4)) Q 49 [some (.ref 65), some (.int a1)] [.int r, .int s0, .ref 70] μ := (st_M_readOne (And.intro ⟨15, rfl, h.1⟩ (st_M_readOne (st_M_readOne (st_M_readOne (And.intro rfl (st_M_readOne (st_M_readOne (st_M_readOne (And.intro rfl (st_M_readOne h.2)))))))))))
theorem st_M_readLineOf {d : Nat} {Q : kr_Q} {pc : Nat} {ls : kr_L} {st : List Value} {μ : kr_M} (h : C_M_readLineOf pc (kr_Wp C_M_readLineOf (kr_c d) Q) (kr_c d) Q ls st μ) : kr_Wp C_M_readLineOf (kr_c d) Q pc ls st μ := kr_Wp.step (fun pc => (kr_ok_M_readLineOf pc).2) (kr_c_om d) h
theorem v_M_readLineOf {d : Nat} {Q : kr_Q} {μ : kr_M} {a1 : Int32} (h : ((a1 = 0 → kr_c (d + 5) i_M_readNumber [.ref 65, .int 2, .int 9] (kr_u μ 65 11 1) (kr_bk (kr_Wp C_M_readLineOf (kr_c (d + 5)) Q) 49 [some (.ref 65), some (.int a1), none] [.ref 65])) ∧ (¬ a1 = 0 → ((a1 = 1 → kr_c (d + 5) i_M_lookedPoint [.ref 65] μ (kr_bk (kr_Wp C_M_readLineOf (kr_c (d + 5)) Q) 59 [some (.ref 65), some (.int a1), none] [])) ∧ (¬ a1 = 1 → ((a1 = 2 → kr_c (d + 5) i_M_readLineAt [.ref 65] μ (kr_bk (kr_Wp C_M_readLineOf (kr_c (d + 5)) Q) 108 [some (.ref 65), some (.int a1), none] [])) ∧ (¬ a1 = 2 → ((a1 = 3 → kr_c (d + 5) i_M_readNumber [.ref 65, .int 0, .int 50] μ (kr_bk (kr_Wp C_M_readLineOf (kr_c (d + 5)) Q) 129 [some (.ref 65), some (.int a1), none] [.int ((62 : Int32) + (μ.1 65 8)), .ref 69])) ∧ (¬ a1 = 3 → ((a1 = 4 → kr_c (d + 5) i_M_readOne [.ref 65] μ (kr_bk (kr_Wp C_M_readLineOf (kr_c (d + 5)) Q) 147 [some (.ref 65), some (.int a1), none] [])) ∧ (¬ a1 = 4 → kr_c (d + 5) i_M_looked [.ref 65, .int 1, .int 40] μ (kr_bk (kr_Wp C_M_readLineOf (kr_c (d + 5)) Q) 157 [some (.ref 65), some (.int a1), none] [])))))))))))) : kr_c (d + 6) i_M_readLineOf [.ref 65, .int a1] μ Q := ⟨rfl, (st_M_readLineOf (st_M_readLineOf (kr_tsel [36, 55, 104, 111, 143] rfl (by decide) (And.intro (fun z0 => (st_M_readLineOf (st_M_readLineOf (st_M_readLineOf (And.intro ⟨rfl, by decide⟩ (st_M_readLineOf (st_M_readLineOf (st_M_readLineOf (st_M_readLineOf (st_M_readLineOf (And.intro rfl (h.1 z0)))))))))))) (fun z0 => (And.intro (fun z1 => (st_M_readLineOf (st_M_readLineOf (And.intro rfl ((h.2 z0).1 z1))))) (fun z1 => (And.intro (fun z2 => (st_M_readLineOf (st_M_readLineOf (And.intro rfl (((h.2 z0).2 z1).1 z2))))) (fun z2 => (And.intro (fun z3 => (st_M_readLineOf (st_M_readLineOf (And.intro rfl (st_M_readLineOf (st_M_readLineOf (st_M_readLineOf (And.intro rfl (st_M_readLineOf (st_M_readLineOf (st_M_readLineOf (st_M_readLineOf (st_M_readLineOf (And.intro rfl ((((h.2 z0).2 z1).2 z2).1 z3))))))))))))))) (fun z3 => (And.intro (fun z4 => (st_M_readLineOf (st_M_readLineOf (And.intro rfl (((((h.2 z0).2 z1).2 z2).2 z3).1 z4))))) (fun z4 => (st_M_readLineOf (st_M_readLineOf (st_M_readLineOf (st_M_readLineOf (And.intro rfl (((((h.2 z0).2 z1).2 z2).2 z3).2 z4)))))))))))))))))))⟩
theorem v_M_readLineOf_49 {d : Nat} {Q : kr_Q} {μ : kr_M} {a1 : Int32} {r : Int32} (h : Q none (kr_u μ 65 7 r)) : kr_Wp C_M_readLineOf (kr_c (d + 5)) Q 49 [some (.ref 65), some (.int a1), none] [.int r, .ref 65] μ := (st_M_readLineOf (And.intro rfl (st_M_readLineOf (st_M_readLineOf h))))
theorem v_M_readLineOf_59 {d : Nat} {Q : kr_Q} {μ : kr_M} {a1 : Int32} {r : Int32} (h : ((¬ (((μ.1 69 61) >>> (r &&& 31)) &&& (1 : Int32)) = 0 → kr_c (d + 5) i_M_needs [.ref 65, .int 0, .int 4] μ (kr_bk (kr_Wp C_M_readLineOf (kr_c (d + 5)) Q) 84 [some (.ref 65), some (.int a1), some (.int r)] [])) ∧ ((((μ.1 69 61) >>> (r &&& 31)) &&& (1 : Int32)) = 0 → kr_c (d + 5) i_M_needs [.ref 65, .int 1, .int 4] μ (kr_bk (kr_Wp C_M_readLineOf (kr_c (d + 5)) Q) 84 [some (.ref 65), some (.int a1), some (.int r)] [])))) : kr_Wp C_M_readLineOf (kr_c (d + 5)) Q 59 [some (.ref 65), some (.int a1), none] [.int r] μ := (st_M_readLineOf (st_M_readLineOf (st_M_readLineOf (st_M_readLineOf (And.intro rfl (st_M_readLineOf (st_M_readLineOf (And.intro ⟨125, rfl, kr_vp rfl⟩ (st_M_readLineOf (st_M_readLineOf (st_M_readLineOf (st_M_readLineOf (st_M_readLineOf (And.intro (fun z1x => (st_M_readLineOf (st_M_readLineOf (st_M_readLineOf (And.intro rfl (h.1 z1x)))))) (fun z1x => (st_M_readLineOf (st_M_readLineOf (st_M_readLineOf (st_M_readLineOf (And.intro rfl (h.2 (Decidable.not_not.mp z1x))))))))))))))))))))))
theorem v_M_readLineOf_108 {d : Nat} {Q : kr_Q} {μ : kr_M} {a1 : Int32} (h : Q none μ) : kr_Wp C_M_readLineOf (kr_c (d + 5)) Q 108 [some (.ref 65), some (.int a1), none] [] μ := (st_M_readLineOf (st_M_readLineOf h))
theorem v_M_readLineOf_129 {d : Nat} {Q : kr_Q} {μ : kr_M} {a1 : Int32} {r : Int32} {s0 : Int32} (h : vp_in s0 125 ∧ Q none (kr_u (kr_u μ 69 s0.toNatClampNeg r) 65 8 ((μ.1 65 8) + (1 : Int32)))) : kr_Wp C_M_readLineOf (kr_c (d + 5)) Q 129 [some (.ref 65), some (.int a1), none] [.int r, .int s0, .ref 69] μ := (st_M_readLineOf (And.intro ⟨125, rfl, h.1⟩ (st_M_readLineOf (st_M_readLineOf (st_M_readLineOf (And.intro rfl (st_M_readLineOf (st_M_readLineOf (st_M_readLineOf (And.intro rfl (st_M_readLineOf (st_M_readLineOf h.2))))))))))))
theorem v_M_readLineOf_147 {d : Nat} {Q : kr_Q} {μ : kr_M} {a1 : Int32} (h : Q none μ) : kr_Wp C_M_readLineOf (kr_c (d + 5)) Q 147 [some (.ref 65), some (.int a1), none] [] μ := (st_M_readLineOf (st_M_readLineOf h))
theorem v_M_readLineOf_157 {d : Nat} {Q : kr_Q} {μ : kr_M} {a1 : Int32} {r : Int32} (h : vp_in ((67 : Int32) + r) 125 ∧ ((¬ (μ.1 69 (((67 : Int32) + r).toNatClampNeg)) = 0 → kr_c (d + 5) i_M_needs [.ref 65, .int 0, .int 4] μ (kr_bk (kr_Wp C_M_readLineOf (kr_c (d + 5)) Q) 180 [some (.ref 65), some (.int a1), some (.int r)] [])) ∧ ((μ.1 69 (((67 : Int32) + r).toNatClampNeg)) = 0 → kr_c (d + 5) i_M_needs [.ref 65, .int 1, .int 4] μ (kr_bk (kr_Wp C_M_readLineOf (kr_c (d + 5)) Q) 180 [some (.ref 65), some (.int a1), some (.int r)] [])))) : kr_Wp C_M_readLineOf (kr_c (d + 5)) Q 157 [some (.ref 65), some (.int a1), none] [.int r] μ := (st_M_readLineOf (st_M_readLineOf (st_M_readLineOf (st_M_readLineOf (And.intro rfl (st_M_readLineOf (st_M_readLineOf (st_M_readLineOf (st_M_readLineOf (And.intro ⟨125, rfl, h.1⟩ (st_M_readLineOf (And.intro (fun z1x => (st_M_readLineOf (st_M_readLineOf (st_M_readLineOf (And.intro rfl (h.2.1 z1x)))))) (fun z1x => (st_M_readLineOf (st_M_readLineOf (st_M_readLineOf (st_M_readLineOf (And.intro rfl (h.2.2 (Decidable.not_not.mp z1x))))))))))))))))))))
theorem v_M_readLineOf_84 {d : Nat} {Q : kr_Q} {μ : kr_M} {a1 : Int32} {a2 : Int32} (h : kr_c (d + 5) i_M_next [.ref 65] (kr_u μ 69 61 ((μ.1 69 61) ||| ((1 : Int32) <<< (a2 &&& 31)))) (kr_bk (kr_Wp C_M_readLineOf (kr_c (d + 5)) Q) 101 [some (.ref 65), some (.int a1), some (.int a2)] [])) : kr_Wp C_M_readLineOf (kr_c (d + 5)) Q 84 [some (.ref 65), some (.int a1), some (.int a2)] [] μ := (st_M_readLineOf (st_M_readLineOf (And.intro rfl (st_M_readLineOf (st_M_readLineOf (st_M_readLineOf (And.intro ⟨125, rfl, kr_vp rfl⟩ (st_M_readLineOf (st_M_readLineOf (st_M_readLineOf (st_M_readLineOf (st_M_readLineOf (And.intro ⟨125, rfl, kr_vp rfl⟩ (st_M_readLineOf (st_M_readLineOf (And.intro rfl h))))))))))))))))
theorem v_M_readLineOf_180 {d : Nat} {Q : kr_Q} {μ : kr_M} {a1 : Int32} {a2 : Int32} (h : vp_in ((67 : Int32) + a2) 125 ∧ kr_c (d + 5) i_M_next [.ref 65] (kr_u μ 69 (((67 : Int32) + a2).toNatClampNeg) 1) (kr_bk (kr_Wp C_M_readLineOf (kr_c (d + 5)) Q) 194 [some (.ref 65), some (.int a1), some (.int a2)] [])) : kr_Wp C_M_readLineOf (kr_c (d + 5)) Q 180 [some (.ref 65), some (.int a1), some (.int a2)] [] μ := (st_M_readLineOf (st_M_readLineOf (And.intro rfl (st_M_readLineOf (st_M_readLineOf (st_M_readLineOf (st_M_readLineOf (st_M_readLineOf (And.intro ⟨125, rfl, h.1⟩ (st_M_readLineOf (st_M_readLineOf (And.intro rfl h.2))))))))))))
theorem v_M_readLineOf_101 {d : Nat} {Q : kr_Q} {μ : kr_M} {a1 : Int32} {a2 : Int32} (h : Q none μ) : kr_Wp C_M_readLineOf (kr_c (d + 5)) Q 101 [some (.ref 65), some (.int a1), some (.int a2)] [] μ := (st_M_readLineOf (st_M_readLineOf h))
theorem v_M_readLineOf_194 {d : Nat} {Q : kr_Q} {μ : kr_M} {a1 : Int32} {a2 : Int32} (h : Q none μ) : kr_Wp C_M_readLineOf (kr_c (d + 5)) Q 194 [some (.ref 65), some (.int a1), some (.int a2)] [] μ := (st_M_readLineOf h)
theorem st_M_readLine {d : Nat} {Q : kr_Q} {pc : Nat} {ls : kr_L} {st : List Value} {μ : kr_M} (h : C_M_readLine pc (kr_Wp C_M_readLine (kr_c d) Q) (kr_c d) Q ls st μ) : kr_Wp C_M_readLine (kr_c d) Q pc ls st μ := kr_Wp.step (fun pc => (kr_ok_M_readLine pc).2) (kr_c_om d) h
theorem v_M_readLine {d : Nat} {Q : kr_Q} {μ : kr_M}  (h : ((¬ (μ.1 65 17) = 1 → kr_c (d + 6) i_M_needs [.ref 65, .int 0, .int 2] μ (kr_bk (kr_Wp C_M_readLine (kr_c (d + 6)) Q) 34 [some (.ref 65), some (.int (-4))] [])) ∧ ((μ.1 65 17) = 1 → kr_c (d + 6) i_M_lineNow [.ref 65] μ (kr_bk (kr_Wp C_M_readLine (kr_c (d + 6)) Q) 12 [some (.ref 65), none] [])))) : kr_c (d + 7) i_M_readLine [.ref 65] μ Q := ⟨rfl, (st_M_readLine (st_M_readLine (And.intro rfl (st_M_readLine (st_M_readLine (And.intro (fun z1x => (st_M_readLine (st_M_readLine (st_M_readLine (st_M_readLine (st_M_readLine (st_M_readLine (And.intro (fun _ => (st_M_readLine (st_M_readLine (st_M_readLine (And.intro rfl (h.1 z1x)))))) (fun q => absurd (by decide) q))))))))) (fun z1x => (st_M_readLine (st_M_readLine (And.intro rfl (h.2 (Decidable.not_not.mp z1x))))))))))))⟩
theorem v_M_readLine_34 {d : Nat} {Q : kr_Q} {μ : kr_M} {a1 : Int32} (h : ((¬ a1 = 2 → ((¬ a1 = 3 → ((¬ a1 = 4 → kr_c (d + 6) i_M_needs [.ref 65, .int 1, .int 5] μ (kr_bk (kr_Wp C_M_readLine (kr_c (d + 6)) Q) 86 [some (.ref 65), some (.int a1)] [])) ∧ (a1 = 4 → (((5 : Int32) ≤ (μ.1 65 9) → kr_c (d + 6) i_M_needs [.ref 65, .int 0, .int 5] μ (kr_bk (kr_Wp C_M_readLine (kr_c (d + 6)) Q) 86 [some (.ref 65), some (.int a1)] [])) ∧ (¬ ((5 : Int32) ≤ (μ.1 65 9)) → kr_c (d + 6) i_M_needs [.ref 65, .int 1, .int 5] μ (kr_bk (kr_Wp C_M_readLine (kr_c (d + 6)) Q) 86 [some (.ref 65), some (.int a1)] [])))))) ∧ (a1 = 3 → (((5 : Int32) ≤ (μ.1 65 8) → kr_c (d + 6) i_M_needs [.ref 65, .int 0, .int 5] μ (kr_bk (kr_Wp C_M_readLine (kr_c (d + 6)) Q) 86 [some (.ref 65), some (.int a1)] [])) ∧ (¬ ((5 : Int32) ≤ (μ.1 65 8)) → ((¬ a1 = 4 → kr_c (d + 6) i_M_needs [.ref 65, .int 1, .int 5] μ (kr_bk (kr_Wp C_M_readLine (kr_c (d + 6)) Q) 86 [some (.ref 65), some (.int a1)] [])) ∧ (a1 = 4 → (((5 : Int32) ≤ (μ.1 65 9) → kr_c (d + 6) i_M_needs [.ref 65, .int 0, .int 5] μ (kr_bk (kr_Wp C_M_readLine (kr_c (d + 6)) Q) 86 [some (.ref 65), some (.int a1)] [])) ∧ (¬ ((5 : Int32) ≤ (μ.1 65 9)) → kr_c (d + 6) i_M_needs [.ref 65, .int 1, .int 5] μ (kr_bk (kr_Wp C_M_readLine (kr_c (d + 6)) Q) 86 [some (.ref 65), some (.int a1)] [])))))))))) ∧ (a1 = 2 → (((12 : Int32) ≤ (μ.1 69 0) → kr_c (d + 6) i_M_needs [.ref 65, .int 0, .int 5] μ (kr_bk (kr_Wp C_M_readLine (kr_c (d + 6)) Q) 86 [some (.ref 65), some (.int a1)] [])) ∧ (¬ ((12 : Int32) ≤ (μ.1 69 0)) → ((¬ a1 = 3 → ((¬ a1 = 4 → kr_c (d + 6) i_M_needs [.ref 65, .int 1, .int 5] μ (kr_bk (kr_Wp C_M_readLine (kr_c (d + 6)) Q) 86 [some (.ref 65), some (.int a1)] [])) ∧ (a1 = 4 → (((5 : Int32) ≤ (μ.1 65 9) → kr_c (d + 6) i_M_needs [.ref 65, .int 0, .int 5] μ (kr_bk (kr_Wp C_M_readLine (kr_c (d + 6)) Q) 86 [some (.ref 65), some (.int a1)] [])) ∧ (¬ ((5 : Int32) ≤ (μ.1 65 9)) → kr_c (d + 6) i_M_needs [.ref 65, .int 1, .int 5] μ (kr_bk (kr_Wp C_M_readLine (kr_c (d + 6)) Q) 86 [some (.ref 65), some (.int a1)] [])))))) ∧ (a1 = 3 → (((5 : Int32) ≤ (μ.1 65 8) → kr_c (d + 6) i_M_needs [.ref 65, .int 0, .int 5] μ (kr_bk (kr_Wp C_M_readLine (kr_c (d + 6)) Q) 86 [some (.ref 65), some (.int a1)] [])) ∧ (¬ ((5 : Int32) ≤ (μ.1 65 8)) → ((¬ a1 = 4 → kr_c (d + 6) i_M_needs [.ref 65, .int 1, .int 5] μ (kr_bk (kr_Wp C_M_readLine (kr_c (d + 6)) Q) 86 [some (.ref 65), some (.int a1)] [])) ∧ (a1 = 4 → (((5 : Int32) ≤ (μ.1 65 9) → kr_c (d + 6) i_M_needs [.ref 65, .int 0, .int 5] μ (kr_bk (kr_Wp C_M_readLine (kr_c (d + 6)) Q) 86 [some (.ref 65), some (.int a1)] [])) ∧ (¬ ((5 : Int32) ≤ (μ.1 65 9)) → kr_c (d + 6) i_M_needs [.ref 65, .int 1, .int 5] μ (kr_bk (kr_Wp C_M_readLine (kr_c (d + 6)) Q) 86 [some (.ref 65), some (.int a1)] [])))))))))))))) : kr_Wp C_M_readLine (kr_c (d + 6)) Q 34 [some (.ref 65), some (.int a1)] [] μ := (st_M_readLine (st_M_readLine (st_M_readLine (st_M_readLine (And.intro (fun z1x => (st_M_readLine (st_M_readLine (st_M_readLine (And.intro (fun z2x => (st_M_readLine (st_M_readLine (st_M_readLine (And.intro (fun z3x => (st_M_readLine (st_M_readLine (st_M_readLine (st_M_readLine (And.intro rfl (((h.1 z1x).1 z2x).1 z3x))))))) (fun z3x => (st_M_readLine (st_M_readLine (And.intro rfl (st_M_readLine (st_M_readLine (And.intro (fun z4x => (st_M_readLine (st_M_readLine (st_M_readLine (And.intro rfl ((((h.1 z1x).1 z2x).2 (Decidable.not_not.mp z3x)).1 z4x)))))) (fun z4x => (st_M_readLine (st_M_readLine (st_M_readLine (st_M_readLine (And.intro rfl ((((h.1 z1x).1 z2x).2 (Decidable.not_not.mp z3x)).2 z4x))))))))))))))))))) (fun z2x => (st_M_readLine (st_M_readLine (And.intro rfl (st_M_readLine (st_M_readLine (And.intro (fun z5x => (st_M_readLine (st_M_readLine (st_M_readLine (And.intro rfl (((h.1 z1x).2 (Decidable.not_not.mp z2x)).1 z5x)))))) (fun z5x => (st_M_readLine (st_M_readLine (st_M_readLine (And.intro (fun z6x => (st_M_readLine (st_M_readLine (st_M_readLine (st_M_readLine (And.intro rfl ((((h.1 z1x).2 (Decidable.not_not.mp z2x)).2 z5x).1 z6x))))))) (fun z6x => (st_M_readLine (st_M_readLine (And.intro rfl (st_M_readLine (st_M_readLine (And.intro (fun z7x => (st_M_readLine (st_M_readLine (st_M_readLine (And.intro rfl (((((h.1 z1x).2 (Decidable.not_not.mp z2x)).2 z5x).2 (Decidable.not_not.mp z6x)).1 z7x)))))) (fun z7x => (st_M_readLine (st_M_readLine (st_M_readLine (st_M_readLine (And.intro rfl (((((h.1 z1x).2 (Decidable.not_not.mp z2x)).2 z5x).2 (Decidable.not_not.mp z6x)).2 z7x))))))))))))))))))))))))))))))) (fun z1x => (st_M_readLine (st_M_readLine (And.intro rfl (st_M_readLine (st_M_readLine (And.intro ⟨125, rfl, kr_vp rfl⟩ (st_M_readLine (st_M_readLine (And.intro (fun z8x => (st_M_readLine (st_M_readLine (st_M_readLine (And.intro rfl ((h.2 (Decidable.not_not.mp z1x)).1 z8x)))))) (fun z8x => (st_M_readLine (st_M_readLine (st_M_readLine (And.intro (fun z9x => (st_M_readLine (st_M_readLine (st_M_readLine (And.intro (fun z10x => (st_M_readLine (st_M_readLine (st_M_readLine (st_M_readLine (And.intro rfl ((((h.2 (Decidable.not_not.mp z1x)).2 z8x).1 z9x).1 z10x))))))) (fun z10x => (st_M_readLine (st_M_readLine (And.intro rfl (st_M_readLine (st_M_readLine (And.intro (fun z11x => (st_M_readLine (st_M_readLine (st_M_readLine (And.intro rfl (((((h.2 (Decidable.not_not.mp z1x)).2 z8x).1 z9x).2 (Decidable.not_not.mp z10x)).1 z11x)))))) (fun z11x => (st_M_readLine (st_M_readLine (st_M_readLine (st_M_readLine (And.intro rfl (((((h.2 (Decidable.not_not.mp z1x)).2 z8x).1 z9x).2 (Decidable.not_not.mp z10x)).2 z11x))))))))))))))))))) (fun z9x => (st_M_readLine (st_M_readLine (And.intro rfl (st_M_readLine (st_M_readLine (And.intro (fun z12x => (st_M_readLine (st_M_readLine (st_M_readLine (And.intro rfl ((((h.2 (Decidable.not_not.mp z1x)).2 z8x).2 (Decidable.not_not.mp z9x)).1 z12x)))))) (fun z12x => (st_M_readLine (st_M_readLine (st_M_readLine (And.intro (fun z13x => (st_M_readLine (st_M_readLine (st_M_readLine (st_M_readLine (And.intro rfl (((((h.2 (Decidable.not_not.mp z1x)).2 z8x).2 (Decidable.not_not.mp z9x)).2 z12x).1 z13x))))))) (fun z13x => (st_M_readLine (st_M_readLine (And.intro rfl (st_M_readLine (st_M_readLine (And.intro (fun z14x => (st_M_readLine (st_M_readLine (st_M_readLine (And.intro rfl ((((((h.2 (Decidable.not_not.mp z1x)).2 z8x).2 (Decidable.not_not.mp z9x)).2 z12x).2 (Decidable.not_not.mp z13x)).1 z14x)))))) (fun z14x => (st_M_readLine (st_M_readLine (st_M_readLine (st_M_readLine (And.intro rfl ((((((h.2 (Decidable.not_not.mp z1x)).2 z8x).2 (Decidable.not_not.mp z9x)).2 z12x).2 (Decidable.not_not.mp z13x)).2 z14x))))))))))))))))))))))))))))))))))))))))))))))
theorem v_M_readLine_12 {d : Nat} {Q : kr_Q} {μ : kr_M} {r : Int32} (h : ((r = (-4) → kr_c (d + 6) i_M_needs [.ref 65, .int 0, .int 2] μ (kr_bk (kr_Wp C_M_readLine (kr_c (d + 6)) Q) 34 [some (.ref 65), some (.int r)] [])) ∧ (¬ (r = (-4)) → kr_c (d + 6) i_M_needs [.ref 65, .int 1, .int 2] μ (kr_bk (kr_Wp C_M_readLine (kr_c (d + 6)) Q) 34 [some (.ref 65), some (.int r)] [])))) : kr_Wp C_M_readLine (kr_c (d + 6)) Q 12 [some (.ref 65), none] [.int r] μ := (st_M_readLine (st_M_readLine (st_M_readLine (st_M_readLine (st_M_readLine (st_M_readLine (And.intro (fun z1x => (st_M_readLine (st_M_readLine (st_M_readLine (And.intro rfl (h.1 z1x)))))) (fun z1x => (st_M_readLine (st_M_readLine (st_M_readLine (st_M_readLine (And.intro rfl (h.2 z1x))))))))))))))
theorem v_M_readLine_86 {d : Nat} {Q : kr_Q} {μ : kr_M} {a1 : Int32} (h : ((¬ a1 = 0 → kr_c (d + 6) i_M_needs [.ref 65, .int 1, .int 4] μ (kr_bk (kr_Wp C_M_readLine (kr_c (d + 6)) Q) 107 [some (.ref 65), some (.int a1)] [])) ∧ (a1 = 0 → ((¬ (μ.1 65 11) = 0 → kr_c (d + 6) i_M_needs [.ref 65, .int 0, .int 4] μ (kr_bk (kr_Wp C_M_readLine (kr_c (d + 6)) Q) 107 [some (.ref 65), some (.int a1)] [])) ∧ ((μ.1 65 11) = 0 → kr_c (d + 6) i_M_needs [.ref 65, .int 1, .int 4] μ (kr_bk (kr_Wp C_M_readLine (kr_c (d + 6)) Q) 107 [some (.ref 65), some (.int a1)] [])))))) : kr_Wp C_M_readLine (kr_c (d + 6)) Q 86 [some (.ref 65), some (.int a1)] [] μ := (st_M_readLine (st_M_readLine (st_M_readLine (And.intro (fun z1x => (st_M_readLine (st_M_readLine (st_M_readLine (st_M_readLine (And.intro rfl (h.1 z1x))))))) (fun z1x => (st_M_readLine (st_M_readLine (And.intro rfl (st_M_readLine (And.intro (fun z2x => (st_M_readLine (st_M_readLine (st_M_readLine (And.intro rfl ((h.2 (Decidable.not_not.mp z1x)).1 z2x)))))) (fun z2x => (st_M_readLine (st_M_readLine (st_M_readLine (st_M_readLine (And.intro rfl ((h.2 (Decidable.not_not.mp z1x)).2 (Decidable.not_not.mp z2x))))))))))))))))))
theorem v_M_readLine_107 {d : Nat} {Q : kr_Q} {μ : kr_M} {a1 : Int32} (h : kr_c (d + 6) i_M_next [.ref 65] μ (kr_bk (kr_Wp C_M_readLine (kr_c (d + 6)) Q) 111 [some (.ref 65), some (.int a1)] [])) : kr_Wp C_M_readLine (kr_c (d + 6)) Q 107 [some (.ref 65), some (.int a1)] [] μ := (st_M_readLine (st_M_readLine (And.intro rfl h)))
theorem v_M_readLine_111 {d : Nat} {Q : kr_Q} {μ : kr_M} {a1 : Int32} (h : (((μ.1 65 19) ≤ 0 → kr_c (d + 6) i_M_readLineOf [.ref 65, .int a1] μ (kr_bk (kr_Wp C_M_readLine (kr_c (d + 6)) Q) 124 [some (.ref 65), some (.int a1)] [])) ∧ (¬ ((μ.1 65 19) ≤ 0) → Q none μ))) : kr_Wp C_M_readLine (kr_c (d + 6)) Q 111 [some (.ref 65), some (.int a1)] [] μ := (st_M_readLine (st_M_readLine (And.intro rfl (st_M_readLine (And.intro (fun z1x => (st_M_readLine (st_M_readLine (st_M_readLine (And.intro rfl (h.1 z1x)))))) (fun z1x => (st_M_readLine (h.2 z1x))))))))
theorem v_M_readLine_124 {d : Nat} {Q : kr_Q} {μ : kr_M} {a1 : Int32} (h : ((¬ (μ.1 65 19) = 0 → kr_c (d + 6) i_M_next [.ref 65] μ (kr_bk (kr_Wp C_M_readLine (kr_c (d + 6)) Q) 153 [some (.ref 65), some (.int a1)] [])) ∧ ((μ.1 65 19) = 0 → ((¬ (μ.1 65 17) = 3 → kr_c (d + 6) i_M_needs [.ref 65, .int 0, .int 2] μ (kr_bk (kr_Wp C_M_readLine (kr_c (d + 6)) Q) 149 [some (.ref 65), some (.int a1)] [])) ∧ ((μ.1 65 17) = 3 → kr_c (d + 6) i_M_needs [.ref 65, .int 1, .int 2] μ (kr_bk (kr_Wp C_M_readLine (kr_c (d + 6)) Q) 149 [some (.ref 65), some (.int a1)] [])))))) : kr_Wp C_M_readLine (kr_c (d + 6)) Q 124 [some (.ref 65), some (.int a1)] [] μ := (st_M_readLine (st_M_readLine (And.intro rfl (st_M_readLine (And.intro (fun z1x => (st_M_readLine (st_M_readLine (And.intro rfl (h.1 z1x))))) (fun z1x => (st_M_readLine (st_M_readLine (st_M_readLine (And.intro rfl (st_M_readLine (st_M_readLine (And.intro (fun z2x => (st_M_readLine (st_M_readLine (st_M_readLine (And.intro rfl ((h.2 (Decidable.not_not.mp z1x)).1 z2x)))))) (fun z2x => (st_M_readLine (st_M_readLine (st_M_readLine (st_M_readLine (And.intro rfl ((h.2 (Decidable.not_not.mp z1x)).2 (Decidable.not_not.mp z2x)))))))))))))))))))))
theorem v_M_readLine_153 {d : Nat} {Q : kr_Q} {μ : kr_M} {a1 : Int32} (h : Q none μ) : kr_Wp C_M_readLine (kr_c (d + 6)) Q 153 [some (.ref 65), some (.int a1)] [] μ := (st_M_readLine h)
theorem v_M_readLine_149 {d : Nat} {Q : kr_Q} {μ : kr_M} {a1 : Int32} (h : kr_c (d + 6) i_M_next [.ref 65] μ (kr_bk (kr_Wp C_M_readLine (kr_c (d + 6)) Q) 153 [some (.ref 65), some (.int a1)] [])) : kr_Wp C_M_readLine (kr_c (d + 6)) Q 149 [some (.ref 65), some (.int a1)] [] μ := (st_M_readLine (st_M_readLine (And.intro rfl h)))
section
variable {d : Nat} {Q : kr_Q} {μ : kr_M} {n : Nat} {b : Nat → Nat} {g t : Nat → Nat} {P D K : Nat}
theorem kt_is_iff {s j : Nat} : kt_is n b s j = true ↔ kt_e n b s = s + (kt_w j).length ∧ ∀ i, i < (kt_w j).length → b (s + i) = (kt_w j).getD i 0 := by
  unfold kt_is
  simp only [Bool.and_eq_true, beq_iff_eq, List.all_eq_true, List.mem_range]
theorem kt_is0 {s : Nat} : kt_is n b s 0 = true ↔ (kt_e n b s = s + 6 ∧ b s = 112 ∧ b (s + 1) = 111 ∧ b (s + 2) = 105 ∧ b (s + 3) = 110 ∧ b (s + 4) = 116 ∧ b (s + 5) = 115) := by
  rw [kt_is_iff]
  constructor
  · rintro ⟨h, k⟩
    exact ⟨h, k 0 (by decide), k 1 (by decide), k 2 (by decide), k 3 (by decide), k 4 (by decide), k 5 (by decide)⟩
  · rintro ⟨h, h0, h1, h2, h3, h4, h5⟩
    refine ⟨h, fun i hi => ?_⟩
    have hi : i < 6 := hi
    rcases (by omega : i = 0 ∨ i = 1 ∨ i = 2 ∨ i = 3 ∨ i = 4 ∨ i = 5) with rfl | rfl | rfl | rfl | rfl | rfl
    · exact h0
    · exact h1
    · exact h2
    · exact h3
    · exact h4
    · exact h5
theorem kt_is1 {s : Nat} : kt_is n b s 1 = true ↔ (kt_e n b s = s + 5 ∧ b s = 104 ∧ b (s + 1) = 111 ∧ b (s + 2) = 117 ∧ b (s + 3) = 115 ∧ b (s + 4) = 101) := by
  rw [kt_is_iff]
  constructor
  · rintro ⟨h, k⟩
    exact ⟨h, k 0 (by decide), k 1 (by decide), k 2 (by decide), k 3 (by decide), k 4 (by decide)⟩
  · rintro ⟨h, h0, h1, h2, h3, h4⟩
    refine ⟨h, fun i hi => ?_⟩
    have hi : i < 5 := hi
    rcases (by omega : i = 0 ∨ i = 1 ∨ i = 2 ∨ i = 3 ∨ i = 4) with rfl | rfl | rfl | rfl | rfl
    · exact h0
    · exact h1
    · exact h2
    · exact h3
    · exact h4
theorem kt_is2 {s : Nat} : kt_is n b s 2 = true ↔ (kt_e n b s = s + 4 ∧ b s = 108 ∧ b (s + 1) = 105 ∧ b (s + 2) = 110 ∧ b (s + 3) = 101) := by
  rw [kt_is_iff]
  constructor
  · rintro ⟨h, k⟩
    exact ⟨h, k 0 (by decide), k 1 (by decide), k 2 (by decide), k 3 (by decide)⟩
  · rintro ⟨h, h0, h1, h2, h3⟩
    refine ⟨h, fun i hi => ?_⟩
    have hi : i < 4 := hi
    rcases (by omega : i = 0 ∨ i = 1 ∨ i = 2 ∨ i = 3) with rfl | rfl | rfl | rfl
    · exact h0
    · exact h1
    · exact h2
    · exact h3
theorem kt_is3 {s : Nat} : kt_is n b s 3 = true ↔ (kt_e n b s = s + 6 ∧ b s = 100 ∧ b (s + 1) = 114 ∧ b (s + 2) = 97 ∧ b (s + 3) = 119 ∧ b (s + 4) = 101 ∧ b (s + 5) = 114) := by
  rw [kt_is_iff]
  constructor
  · rintro ⟨h, k⟩
    exact ⟨h, k 0 (by decide), k 1 (by decide), k 2 (by decide), k 3 (by decide), k 4 (by decide), k 5 (by decide)⟩
  · rintro ⟨h, h0, h1, h2, h3, h4, h5⟩
    refine ⟨h, fun i hi => ?_⟩
    have hi : i < 6 := hi
    rcases (by omega : i = 0 ∨ i = 1 ∨ i = 2 ∨ i = 3 ∨ i = 4 ∨ i = 5) with rfl | rfl | rfl | rfl | rfl | rfl
    · exact h0
    · exact h1
    · exact h2
    · exact h3
    · exact h4
    · exact h5
theorem kt_is4 {s : Nat} : kt_is n b s 4 = true ↔ (kt_e n b s = s + 3 ∧ b s = 111 ∧ b (s + 1) = 110 ∧ b (s + 2) = 101) := by
  rw [kt_is_iff]
  constructor
  · rintro ⟨h, k⟩
    exact ⟨h, k 0 (by decide), k 1 (by decide), k 2 (by decide)⟩
  · rintro ⟨h, h0, h1, h2⟩
    refine ⟨h, fun i hi => ?_⟩
    have hi : i < 3 := hi
    rcases (by omega : i = 0 ∨ i = 1 ∨ i = 2) with rfl | rfl | rfl
    · exact h0
    · exact h1
    · exact h2
theorem kt_is5 {s : Nat} : kt_is n b s 5 = true ↔ (kt_e n b s = s + 4 ∧ b s = 114 ∧ b (s + 1) = 97 ∧ b (s + 2) = 105 ∧ b (s + 3) = 110) := by
  rw [kt_is_iff]
  constructor
  · rintro ⟨h, k⟩
    exact ⟨h, k 0 (by decide), k 1 (by decide), k 2 (by decide), k 3 (by decide)⟩
  · rintro ⟨h, h0, h1, h2, h3⟩
    refine ⟨h, fun i hi => ?_⟩
    have hi : i < 4 := hi
    rcases (by omega : i = 0 ∨ i = 1 ∨ i = 2 ∨ i = 3) with rfl | rfl | rfl | rfl
    · exact h0
    · exact h1
    · exact h2
    · exact h3
theorem kt_is6 {s : Nat} : kt_is n b s 6 = true ↔ (kt_e n b s = s + 4 ∧ b s = 114 ∧ b (s + 1) = 111 ∧ b (s + 2) = 111 ∧ b (s + 3) = 102) := by
  rw [kt_is_iff]
  constructor
  · rintro ⟨h, k⟩
    exact ⟨h, k 0 (by decide), k 1 (by decide), k 2 (by decide), k 3 (by decide)⟩
  · rintro ⟨h, h0, h1, h2, h3⟩
    refine ⟨h, fun i hi => ?_⟩
    have hi : i < 4 := hi
    rcases (by omega : i = 0 ∨ i = 1 ∨ i = 2 ∨ i = 3) with rfl | rfl | rfl | rfl
    · exact h0
    · exact h1
    · exact h2
    · exact h3
/-- the token looked at is a name -/
theorem c_M_is {s len w0 w1 w2 : Nat} (hT : kr_TM μ n b) (hw : kx_tw n b) (h15 : μ.1 65 15 = nI (kt_e n b s)) (h16 : μ.1 65 16 = nI s) (he : s ≤ kt_e n b s ∧ kt_e n b s ≤ n) (hl : 3 ≤ len ∧ len < 10) (h0 : w0 < 256) (h1 : w1 < 256) (h2 : w2 < 256) (k : Q (some (.int (if kt_e n b s = s + len ∧ b s = w0 ∧ b (s + 1) = w1 ∧ b (s + 2) = w2 then 1 else 0))) μ) : kr_c (d + 2) i_M_is [.ref 65, .int (nI len), .int (nI w0), .int (nI w1), .int (nI w2)] μ Q := by
  have h400 := hw.1
  refine v_M_is ?_
  rw [h15, h16, pk_sub he.1, nI_eq (by omega) (by omega)]
  refine ⟨fun c => by rw [if_neg (fun z => c (by omega))] at k; exact k, fun c => ?_⟩
  have b0 := hw.2 s (by omega)
  have b1 := hw.2 (s + 1) (by omega)
  have b2 := hw.2 (s + 2) (by omega)
  refine c_M_look hT hw (by omega) (v_M_is_21 ?_)
  rw [if_pos (show s < n by omega), nI_eq (by omega) (by omega), h16, kr_n1]
  refine ⟨fun c0 => by rw [if_neg (fun z => c0 z.2.1)] at k; exact k, fun c0 => c_M_look hT hw (by omega) (v_M_is_35 ?_)⟩
  rw [if_pos (show s + 1 < n by omega), nI_eq (by omega) (by omega), h16, show (2 : Int32) = nI 2 from rfl, nI_add]
  refine ⟨fun c1 => by rw [if_neg (fun z => c1 z.2.2.1)] at k; exact k, fun c1 => c_M_look hT hw (by omega) (v_M_is_49 ?_)⟩
  rw [if_pos (show s + 2 < n by omega), nI_eq (by omega) (by omega)]
  exact ⟨fun c2 => by rw [if_neg (fun z => c2 z.2.2.2)] at k; exact k, fun c2 => by rw [if_pos ⟨by omega, c0, c1, c2⟩] at k; exact k⟩
theorem c_M_ends4 {s w3 : Nat} (hT : kr_TM μ n b) (hw : kx_tw n b) (h16 : μ.1 65 16 = nI s) (he : s + 4 ≤ n) (h3 : w3 < 256) (k : Q (some (.int (if b (s + 3) = w3 then 1 else 0))) μ) : kr_c (d + 2) i_M_ends [.ref 65, .int (nI w3), .int 0, .int 0] μ Q := by
  have h400 := hw.1
  have b3 := hw.2 (s + 3) (by omega)
  refine v_M_ends ?_
  rw [h16, show (3 : Int32) = nI 3 from rfl, nI_add]
  refine c_M_look hT hw (by omega) (v_M_ends_10 ?_)
  rw [if_pos (show s + 3 < n by omega), nI_eq (by omega) (by omega)]
  exact ⟨fun c => by rw [if_neg c] at k; exact k, fun c => br_t rfl (br_t rfl (by rw [if_pos c] at k; exact k))⟩
theorem c_M_ends5 {s w3 w4 : Nat} (hT : kr_TM μ n b) (hw : kx_tw n b) (h16 : μ.1 65 16 = nI s) (he : s + 5 ≤ n) (h3 : w3 < 256) (h4 : 0 < w4 ∧ w4 < 256) (k : Q (some (.int (if b (s + 3) = w3 ∧ b (s + 4) = w4 then 1 else 0))) μ) : kr_c (d + 2) i_M_ends [.ref 65, .int (nI w3), .int (nI w4), .int 0] μ Q := by
  have h400 := hw.1
  have b3 := hw.2 (s + 3) (by omega)
  have b4 := hw.2 (s + 4) (by omega)
  refine v_M_ends ?_
  rw [h16, show (3 : Int32) = nI 3 from rfl, nI_add]
  refine c_M_look hT hw (by omega) (v_M_ends_10 ?_)
  rw [if_pos (show s + 3 < n by omega), nI_eq (by omega) (by omega), h16, show (4 : Int32) = nI 4 from rfl, nI_add]
  refine ⟨fun c => by rw [if_neg (fun z => c z.1)] at k; exact k, fun c => br_f (nI_ne0 h4.1 (by omega)) (c_M_look hT hw (by omega) (v_M_ends_28 ?_))⟩
  rw [if_pos (show s + 4 < n by omega), nI_eq (by omega) (by omega)]
  exact ⟨fun c2 => by rw [if_neg (fun z => c2 z.2)] at k; exact k, fun c2 => br_t rfl (by rw [if_pos ⟨c, c2⟩] at k; exact k)⟩
theorem c_M_ends6 {s w3 w4 w5 : Nat} (hT : kr_TM μ n b) (hw : kx_tw n b) (h16 : μ.1 65 16 = nI s) (he : s + 6 ≤ n) (h3 : w3 < 256) (h4 : 0 < w4 ∧ w4 < 256) (h5 : 0 < w5 ∧ w5 < 256) (k : Q (some (.int (if b (s + 3) = w3 ∧ b (s + 4) = w4 ∧ b (s + 5) = w5 then 1 else 0))) μ) : kr_c (d + 2) i_M_ends [.ref 65, .int (nI w3), .int (nI w4), .int (nI w5)] μ Q := by
  have h400 := hw.1
  have b3 := hw.2 (s + 3) (by omega)
  have b4 := hw.2 (s + 4) (by omega)
  have b5 := hw.2 (s + 5) (by omega)
  refine v_M_ends ?_
  rw [h16, show (3 : Int32) = nI 3 from rfl, nI_add]
  refine c_M_look hT hw (by omega) (v_M_ends_10 ?_)
  rw [if_pos (show s + 3 < n by omega), nI_eq (by omega) (by omega), h16, show (4 : Int32) = nI 4 from rfl, nI_add]
  refine ⟨fun c => by rw [if_neg (fun z => c z.1)] at k; exact k, fun c => br_f (nI_ne0 h4.1 (by omega)) (c_M_look hT hw (by omega) (v_M_ends_28 ?_))⟩
  rw [if_pos (show s + 4 < n by omega), nI_eq (by omega) (by omega), h16, show (5 : Int32) = nI 5 from rfl, nI_add]
  refine ⟨fun c2 => by rw [if_neg (fun z => c2 z.2.1)] at k; exact k, fun c2 => br_f (nI_ne0 h5.1 (by omega)) (c_M_look hT hw (by omega) (v_M_ends_46 ?_))⟩
  rw [if_pos (show s + 5 < n by omega), nI_eq (by omega) (by omega)]
  exact ⟨fun c3 => by rw [if_neg (fun z => c3 z.2.2)] at k; exact k, fun c3 => by rw [if_pos ⟨c, c2, c3⟩] at k; exact k⟩
theorem c_M_isRoof {s : Nat} (hT : kr_TM μ n b) (hw : kx_tw n b) (h15 : μ.1 65 15 = nI (kt_e n b s)) (h16 : μ.1 65 16 = nI s) (h17 : μ.1 65 17 = nI 1) (hk : kt_k n b s = 1) (k : Q (some (.int (if kt_is n b s 6 = true then 1 else 0))) μ) : kr_c (d + 3) i_M_isRoof [.ref 65] μ Q := by
  obtain ⟨e0, e1, e2⟩ := kt_e_1 (Or.inl hk)
  refine v_M_isRoof ⟨fun z => absurd h17 z, fun _ => c_M_is (len := 4) (w0 := 114) (w1 := 111) (w2 := 111) hT hw h15 h16 ⟨by omega, e2⟩ (by decide) (by decide) (by decide) (by decide) (v_M_isRoof_19 ?_)⟩
  by_cases c : kt_e n b s = s + 4 ∧ b s = 114 ∧ b (s + 1) = 111 ∧ b (s + 2) = 111
  · rw [if_pos c]
    refine br_f (by decide) (c_M_ends4 (w3 := 102) hT hw h16 (by omega) (by decide) (v_M_isRoof_30 ?_))
    by_cases c2 : b (s + 3) = 102
    · rw [if_pos (kt_is6.mpr ⟨c.1, c.2.1, c.2.2.1, c.2.2.2, c2⟩)] at k
      rw [if_pos c2]
      exact br_f (by decide) k
    · rw [if_neg (fun z => c2 (kt_is6.mp z).2.2.2.2)] at k
      rw [if_neg c2]
      exact br_t rfl k
  · rw [if_neg (fun z => by have y := kt_is6.mp z; exact c ⟨y.1, y.2.1, y.2.2.1, y.2.2.2.1⟩)] at k
    rw [if_neg c]
    exact br_t rfl k
theorem c_M_lineNow {s : Nat} (hT : kr_TM μ n b) (hw : kx_tw n b) (h15 : μ.1 65 15 = nI (kt_e n b s)) (h16 : μ.1 65 16 = nI s) (hk : kt_k n b s = 1) (k : ∀ j, j < 6 → kt_is n b s j = true → (∀ i, i < j → ¬ kt_is n b s i = true) → Q (some (.int (nI j))) μ) (k' : (∀ i, i < 6 → ¬ kt_is n b s i = true) → Q (some (.int (-4))) μ) : kr_c (d + 3) i_M_lineNow [.ref 65] μ Q := by
  obtain ⟨e0, e1, e2⟩ := kt_e_1 (Or.inl hk)
  refine v_M_lineNow ?_
  have go0 : (¬ kt_is n b s 0 = true → kr_c (d + 2) i_M_is [.ref 65, .int 5, .int 104, .int 111, .int 117] μ (kr_bk (kr_Wp C_M_lineNow (kr_c (d + 2)) Q) 41 [some (.ref 65)] [])) → kr_c (d + 2) i_M_is [.ref 65, .int 6, .int 112, .int 111, .int 105] μ (kr_bk (kr_Wp C_M_lineNow (kr_c (d + 2)) Q) 12 [some (.ref 65)] []) := by
    intro hn
    refine c_M_is (len := 6) (w0 := 112) (w1 := 111) (w2 := 105) hT hw h15 h16 ⟨by omega, e2⟩ (by decide) (by decide) (by decide) (by decide) (v_M_lineNow_12 ?_)
    by_cases c : kt_e n b s = s + 6 ∧ b s = 112 ∧ b (s + 1) = 111 ∧ b (s + 2) = 105
    · rw [if_pos c]
      refine br_f (by decide) (c_M_ends6 (w3 := 110) (w4 := 116) (w5 := 115) hT hw h16 (by omega) (by decide) (by decide) (by decide) (v_M_lineNow_25 ?_))
      by_cases c2 : b (s + 3) = 110 ∧ b (s + 4) = 116 ∧ b (s + 5) = 115
      · rw [if_pos c2]
        exact br_f (by decide) (k 0 (by decide) (kt_is0.mpr ⟨c.1, c.2.1, c.2.2.1, c.2.2.2, c2.1, c2.2.1, c2.2.2⟩) (fun i hi => absurd hi (Nat.not_lt_zero i)))
      · rw [if_neg c2]
        exact br_t rfl (hn (fun z => c2 (kt_is0.mp z).2.2.2.2))
    · rw [if_neg c]
      exact br_t rfl (hn (fun z => by have y := kt_is0.mp z; exact c ⟨y.1, y.2.1, y.2.2.1, y.2.2.2.1⟩))
  refine go0 (fun n0 => ?_)
  have prev1 : ∀ i, i < 1 → ¬ kt_is n b s i = true := fun i hi => by
      rcases (by omega : i = 0) with rfl
      · exact n0
  have go1 : (¬ kt_is n b s 1 = true → kr_c (d + 2) i_M_is [.ref 65, .int 4, .int 108, .int 105, .int 110] μ (kr_bk (kr_Wp C_M_lineNow (kr_c (d + 2)) Q) 69 [some (.ref 65)] [])) → kr_c (d + 2) i_M_is [.ref 65, .int 5, .int 104, .int 111, .int 117] μ (kr_bk (kr_Wp C_M_lineNow (kr_c (d + 2)) Q) 41 [some (.ref 65)] []) := by
    intro hn
    refine c_M_is (len := 5) (w0 := 104) (w1 := 111) (w2 := 117) hT hw h15 h16 ⟨by omega, e2⟩ (by decide) (by decide) (by decide) (by decide) (v_M_lineNow_41 ?_)
    by_cases c : kt_e n b s = s + 5 ∧ b s = 104 ∧ b (s + 1) = 111 ∧ b (s + 2) = 117
    · rw [if_pos c]
      refine br_f (by decide) (c_M_ends5 (w3 := 115) (w4 := 101) hT hw h16 (by omega) (by decide) (by decide) (v_M_lineNow_53 ?_))
      by_cases c2 : b (s + 3) = 115 ∧ b (s + 4) = 101
      · rw [if_pos c2]
        exact br_f (by decide) (k 1 (by decide) (kt_is1.mpr ⟨c.1, c.2.1, c.2.2.1, c.2.2.2, c2.1, c2.2⟩) prev1)
      · rw [if_neg c2]
        exact br_t rfl (hn (fun z => c2 (kt_is1.mp z).2.2.2.2))
    · rw [if_neg c]
      exact br_t rfl (hn (fun z => by have y := kt_is1.mp z; exact c ⟨y.1, y.2.1, y.2.2.1, y.2.2.2.1⟩))
  refine go1 (fun n1 => ?_)
  have prev2 : ∀ i, i < 2 → ¬ kt_is n b s i = true := fun i hi => by
      rcases (by omega : i = 0 ∨ i = 1) with rfl | rfl
      · exact n0
      · exact n1
  have go2 : (¬ kt_is n b s 2 = true → kr_c (d + 2) i_M_is [.ref 65, .int 6, .int 100, .int 114, .int 97] μ (kr_bk (kr_Wp C_M_lineNow (kr_c (d + 2)) Q) 97 [some (.ref 65)] [])) → kr_c (d + 2) i_M_is [.ref 65, .int 4, .int 108, .int 105, .int 110] μ (kr_bk (kr_Wp C_M_lineNow (kr_c (d + 2)) Q) 69 [some (.ref 65)] []) := by
    intro hn
    refine c_M_is (len := 4) (w0 := 108) (w1 := 105) (w2 := 110) hT hw h15 h16 ⟨by omega, e2⟩ (by decide) (by decide) (by decide) (by decide) (v_M_lineNow_69 ?_)
    by_cases c : kt_e n b s = s + 4 ∧ b s = 108 ∧ b (s + 1) = 105 ∧ b (s + 2) = 110
    · rw [if_pos c]
      refine br_f (by decide) (c_M_ends4 (w3 := 101) hT hw h16 (by omega) (by decide) (v_M_lineNow_80 ?_))
      by_cases c2 : b (s + 3) = 101
      · rw [if_pos c2]
        exact br_f (by decide) (k 2 (by decide) (kt_is2.mpr ⟨c.1, c.2.1, c.2.2.1, c.2.2.2, c2⟩) prev2)
      · rw [if_neg c2]
        exact br_t rfl (hn (fun z => c2 (kt_is2.mp z).2.2.2.2))
    · rw [if_neg c]
      exact br_t rfl (hn (fun z => by have y := kt_is2.mp z; exact c ⟨y.1, y.2.1, y.2.2.1, y.2.2.2.1⟩))
  refine go2 (fun n2 => ?_)
  have prev3 : ∀ i, i < 3 → ¬ kt_is n b s i = true := fun i hi => by
      rcases (by omega : i = 0 ∨ i = 1 ∨ i = 2) with rfl | rfl | rfl
      · exact n0
      · exact n1
      · exact n2
  have go3 : (¬ kt_is n b s 3 = true → kr_c (d + 2) i_M_is [.ref 65, .int 3, .int 111, .int 110, .int 101] μ (kr_bk (kr_Wp C_M_lineNow (kr_c (d + 2)) Q) 126 [some (.ref 65)] [])) → kr_c (d + 2) i_M_is [.ref 65, .int 6, .int 100, .int 114, .int 97] μ (kr_bk (kr_Wp C_M_lineNow (kr_c (d + 2)) Q) 97 [some (.ref 65)] []) := by
    intro hn
    refine c_M_is (len := 6) (w0 := 100) (w1 := 114) (w2 := 97) hT hw h15 h16 ⟨by omega, e2⟩ (by decide) (by decide) (by decide) (by decide) (v_M_lineNow_97 ?_)
    by_cases c : kt_e n b s = s + 6 ∧ b s = 100 ∧ b (s + 1) = 114 ∧ b (s + 2) = 97
    · rw [if_pos c]
      refine br_f (by decide) (c_M_ends6 (w3 := 119) (w4 := 101) (w5 := 114) hT hw h16 (by omega) (by decide) (by decide) (by decide) (v_M_lineNow_110 ?_))
      by_cases c2 : b (s + 3) = 119 ∧ b (s + 4) = 101 ∧ b (s + 5) = 114
      · rw [if_pos c2]
        exact br_f (by decide) (k 3 (by decide) (kt_is3.mpr ⟨c.1, c.2.1, c.2.2.1, c.2.2.2, c2.1, c2.2.1, c2.2.2⟩) prev3)
      · rw [if_neg c2]
        exact br_t rfl (hn (fun z => c2 (kt_is3.mp z).2.2.2.2))
    · rw [if_neg c]
      exact br_t rfl (hn (fun z => by have y := kt_is3.mp z; exact c ⟨y.1, y.2.1, y.2.2.1, y.2.2.2.1⟩))
  refine go3 (fun n3 => ?_)
  have prev4 : ∀ i, i < 4 → ¬ kt_is n b s i = true := fun i hi => by
      rcases (by omega : i = 0 ∨ i = 1 ∨ i = 2 ∨ i = 3) with rfl | rfl | rfl | rfl
      · exact n0
      · exact n1
      · exact n2
      · exact n3
  have go4 : (¬ kt_is n b s 4 = true → kr_c (d + 2) i_M_is [.ref 65, .int 4, .int 114, .int 97, .int 105] μ (kr_bk (kr_Wp C_M_lineNow (kr_c (d + 2)) Q) 144 [some (.ref 65)] [])) → kr_c (d + 2) i_M_is [.ref 65, .int 3, .int 111, .int 110, .int 101] μ (kr_bk (kr_Wp C_M_lineNow (kr_c (d + 2)) Q) 126 [some (.ref 65)] []) := by
    intro hn
    refine c_M_is (len := 3) (w0 := 111) (w1 := 110) (w2 := 101) hT hw h15 h16 ⟨by omega, e2⟩ (by decide) (by decide) (by decide) (by decide) (v_M_lineNow_126 ?_)
    by_cases c : kt_e n b s = s + 3 ∧ b s = 111 ∧ b (s + 1) = 110 ∧ b (s + 2) = 101
    · rw [if_pos c]
      exact br_f (by decide) (k 4 (by decide) (kt_is4.mpr ⟨c.1, c.2.1, c.2.2.1, c.2.2.2⟩) prev4)
    · rw [if_neg c]
      exact br_t rfl (hn (fun z => by have y := kt_is4.mp z; exact c ⟨y.1, y.2.1, y.2.2.1, y.2.2.2⟩))
  refine go4 (fun n4 => ?_)
  have prev5 : ∀ i, i < 5 → ¬ kt_is n b s i = true := fun i hi => by
      rcases (by omega : i = 0 ∨ i = 1 ∨ i = 2 ∨ i = 3 ∨ i = 4) with rfl | rfl | rfl | rfl | rfl
      · exact n0
      · exact n1
      · exact n2
      · exact n3
      · exact n4
  have go5 : (¬ kt_is n b s 5 = true → Q (some (.int (-4))) μ) → kr_c (d + 2) i_M_is [.ref 65, .int 4, .int 114, .int 97, .int 105] μ (kr_bk (kr_Wp C_M_lineNow (kr_c (d + 2)) Q) 144 [some (.ref 65)] []) := by
    intro hn
    refine c_M_is (len := 4) (w0 := 114) (w1 := 97) (w2 := 105) hT hw h15 h16 ⟨by omega, e2⟩ (by decide) (by decide) (by decide) (by decide) (v_M_lineNow_144 ?_)
    by_cases c : kt_e n b s = s + 4 ∧ b s = 114 ∧ b (s + 1) = 97 ∧ b (s + 2) = 105
    · rw [if_pos c]
      refine br_f (by decide) (c_M_ends4 (w3 := 110) hT hw h16 (by omega) (by decide) (v_M_lineNow_155 ?_))
      by_cases c2 : b (s + 3) = 110
      · rw [if_pos c2]
        exact br_f (by decide) (k 5 (by decide) (kt_is5.mpr ⟨c.1, c.2.1, c.2.2.1, c.2.2.2, c2⟩) prev5)
      · rw [if_neg c2]
        exact br_t rfl (hn (fun z => c2 (kt_is5.mp z).2.2.2.2))
    · rw [if_neg c]
      exact br_t rfl (hn (fun z => by have y := kt_is5.mp z; exact c ⟨y.1, y.2.1, y.2.2.1, y.2.2.2.1⟩))
  refine go5 (fun n5 => ?_)
  exact k' (fun i hi => by
    rcases (by omega : i = 0 ∨ i = 1 ∨ i = 2 ∨ i = 3 ∨ i = 4 ∨ i = 5) with rfl | rfl | rfl | rfl | rfl | rfl
    · exact n0
    · exact n1
    · exact n2
    · exact n3
    · exact n4
    · exact n5)
/-! what is told so far -/
def kr_dr (μ : kr_M) (G : Nat → Nat) : Prop := ∀ j, j < 125 → μ.1 69 j = nI (G j)
theorem kr_dr.un {G : Nat → Nat} (h : kr_dr μ G) {i v : Nat} : kr_dr (kr_u μ 69 i (nI v)) (kx_un G i v) := by
  intro j hj
  rw [kr_u_s]
  by_cases e : j = i
  · rw [e, kr_upd_s, kx_un_s]
  · rw [kr_upd_n _ _ e, kx_un_n _ _ e]; exact h j hj
theorem kr_dr.kp {μ' : kr_M} {G : Nat → Nat} {W : List Nat} {F : List (Nat × Nat)} (h : kr_dr μ G) (k : kr_keep W F μ μ') (hW : 69 ∉ W ∧ ∀ q ∈ F, q.1 ≠ 69) : kr_dr μ' G := by
  intro j hj
  rw [k.row hW.1 hW.2]
  exact h j hj
def kr_Mv (μ : kr_M) (E : kp_D) : Prop := kr_dr μ E.1 ∧ (μ.1 65 7 = nI E.2.1.1 ∧ μ.1 65 8 = nI E.2.1.2.1 ∧ μ.1 65 9 = nI E.2.1.2.2) ∧ (∀ j, j < 3 * E.2.1.2.2 → μ.1 70 j = nI (E.2.2.1 j)) ∧ μ.1 65 11 = nI E.2.2.2.toNat
theorem kr_Mv.kp {μ' : kr_M} {E : kp_D} {F : List (Nat × Nat)} (h : kr_Mv μ E) (k : kr_keep [] F μ μ') (hF : (∀ q ∈ F, q.1 = 65) ∧ (65, 7) ∉ F ∧ (65, 8) ∉ F ∧ (65, 9) ∉ F ∧ (65, 11) ∉ F) : kr_Mv μ' E := by
  obtain ⟨a, ⟨b1, b2, b3⟩, c, e⟩ := h
  obtain ⟨f0, f1, f2, f3, f4⟩ := hF
  refine ⟨a.kp k ⟨by simp, fun q hq z => by have := f0 q hq; omega⟩, ⟨by rw [k.2 65 7 (by simp) f1]; exact b1, by rw [k.2 65 8 (by simp) f2]; exact b2, by rw [k.2 65 9 (by simp) f3]; exact b3⟩, fun j hj => ?_, by rw [k.2 65 11 (by simp) f4]; exact e⟩
  rw [k.row (o := 70) (by simp) (fun q hq z => by have := f0 q hq; omega)]
  exact c j hj
def kp_rx (n : Nat) (b : Nat → Nat) (x : kp_X) : kp_X := kp_bd x (fun r => if kt_k n b r = 1 then (if kt_is n b r 6 = true then kt_nx n b (kt_e n b r) else .inl (2, r)) else .inr r)
def kp_ro (n : Nat) (b : Nat → Nat) : kp_X → Nat
  | .inl _ => 0
  | .inr r => if kt_k n b r = 1 then 1 else 0
theorem c_M_readLineAt {x1 : kp_X} {E : kp_D} {h : Nat} (hT : kr_TM μ n b) (hw : kx_tw n b) (hS : kr_MS μ n b x1) (hv : kr_Mv μ E) (hN : E.1 0 < 12) (hh : kr_hx μ h) (k : ∀ y1 y2 y3 y4 x2 x3 x4 x5, y1 = kp_lk n b 0 8 x1 → x2 = kp_ad n b y1 → y2 = kp_lk n b 0 8 x2 → x3 = kp_ad n b (kp_df n b (kp_vl n b y1) y2) → y3 = kp_lk n b 1 9 x3 → x4 = kp_ad n b y3 → y4 = kp_lk n b 0 9 x4 → x5 = kp_ad n b y4 → ∀ μ', kr_keep [69] kr_mH μ μ' → kr_MS μ' n b (kp_rx n b x5) → kr_Mv μ' (kz_ln E.1 (kp_vl n b y1) (kp_vl n b y2) (kp_vl n b y3) (kp_vl n b y4) (kp_ro n b x5), E.2) → kr_hx μ' (max (max h (kp_vl n b y1)) (kp_vl n b y2)) → Q none μ') : kr_c (d + 5) i_M_readLineAt [.ref 65] μ Q := by
  obtain ⟨g, ⟨P, D, K⟩, t, hp⟩ := E
  have hN : g 0 < 12 := hN
  obtain ⟨v1, v2, v3, v4⟩ := hv
  have v1 : kr_dr μ g := v1
  have io : ∀ m, m < 5 → ((1 : Int32) + 5 * nI (g 0)) + nI m = nI (1 + m + 5 * g 0) := fun m hm => by rw [kr_ofi]; congr 1; omega
  have o0 : ((1 : Int32) + 5 * nI (g 0)) + 0 = nI (1 + 5 * g 0) := io 0 (by decide)
  have o1 : ((1 : Int32) + 5 * nI (g 0)) + 1 = nI (2 + 5 * g 0) := io 1 (by decide)
  have o2 : ((1 : Int32) + 5 * nI (g 0)) + 2 = nI (3 + 5 * g 0) := io 2 (by decide)
  have o3 : ((1 : Int32) + 5 * nI (g 0)) + 3 = nI (4 + 5 * g 0) := io 3 (by decide)
  have o4 : ((1 : Int32) + 5 * nI (g 0)) + 4 = nI (5 + 5 * g 0) := io 4 (by decide)
  refine v_M_readLineAt ?_
  rw [v1 0 (by decide), o0]
  refine c_M_readPoint hT hw hS hh (fun μ1 hk1 hS1 hh1 => v_M_readLineAt_22 ?_)
  have hv1 := kp_vl_le (n := n) (b := b) (lo := 0) (hi := 8) (x := x1)
  generalize hy1 : kp_lk n b 0 8 x1 = y1 at *
  rw [o0, o1, nI_clamp (by omega), kr_upd_s]
  have vi : ∀ m, m < 6 → vp_in (nI (m + 5 * g 0)) 125 := fun m hm => vp_in_nI (by omega) (by decide)
  refine ⟨vi 1 (by decide), vi 1 (by decide), ?_⟩
  have d1 : kr_dr (kr_u μ1 69 (1 + 5 * g 0) (nI (kp_vl n b y1))) (kx_un g (1 + 5 * g 0) (kp_vl n b y1)) := (v1.kp hk1 (by decide)).un
  have u1 : ∀ {μ0 : kr_M} {i v}, kr_keep [69] kr_mH μ0 (kr_u μ0 69 i v) := fun {μ0 i v} => (kr_keep.rf (W := [69]) (F := kr_mH) (μ := μ0)).u i v (by decide)
  have q1 : kr_keep [69] kr_mH μ (kr_u μ1 69 (1 + 5 * g 0) (nI (kp_vl n b y1))) := (hk1.wk (by decide) (by decide)).tr u1
  have su : ∀ {μ0 : kr_M} {i v x}, kr_MS μ0 n b x → kr_MS (kr_u μ0 69 i v) n b x := fun {μ0 i v x} hs => hs.kp ((kr_keep.rf (W := [69]) (F := []) (μ := μ0)).u i v (by decide)) (by decide)
  have hhu : ∀ {μ0 : kr_M} {i v z}, kr_hx μ0 z → kr_hx (kr_u μ0 69 i v) z := fun {μ0 i v z} hz => hz
  refine c_M_readOther hv1 (hT.kp q1 (by decide)) hw (su hS1) (hhu hh1) (fun μ2 hk2 hS2 hh2 => v_M_readLineAt_42 ?_)
  generalize hx2 : kp_ad n b y1 = x2 at *
  generalize hy2 : kp_lk n b 0 8 x2 = y2 at *
  rw [o2, nI_clamp (by omega)]
  refine ⟨vi 2 (by decide), ?_⟩
  have d2 := ((d1.kp hk2 (by decide)).un (i := 2 + 5 * g 0) (v := kp_vl n b y2))
  have q2 : kr_keep [69] kr_mH μ (kr_u μ2 69 (2 + 5 * g 0) (nI (kp_vl n b y2))) := (q1.tr (hk2.wk (by decide) (by decide))).tr u1
  refine c_M_readNumber (lo := 1) (hi := 9) (hT.kp q2 (by decide)) hw (su hS2) (by decide) (by decide) (fun μ3 hk3 hS3 => v_M_readLineAt_57 ?_)
  generalize hx3 : kp_ad n b (kp_df n b (kp_vl n b y1) y2) = x3 at *
  generalize hy3 : kp_lk n b 1 9 x3 = y3 at *
  rw [o3, nI_clamp (by omega)]
  refine ⟨vi 3 (by decide), ?_⟩
  have d3 := ((d2.kp hk3 (by decide)).un (i := 3 + 5 * g 0) (v := kp_vl n b y3))
  have q3 : kr_keep [69] kr_mH μ (kr_u μ3 69 (3 + 5 * g 0) (nI (kp_vl n b y3))) := (q2.tr (hk3.wk (by decide) (by decide))).tr u1
  refine c_M_readNumber (lo := 0) (hi := 9) (hT.kp q3 (by decide)) hw (su hS3) (by decide) (by decide) (fun μ4 hk4 hS4 => v_M_readLineAt_72 ?_)
  generalize hx4 : kp_ad n b y3 = x4 at *
  generalize hy4 : kp_lk n b 0 9 x4 = y4 at *
  generalize hx5 : kp_ad n b y4 = x5 at *
  rw [o4, nI_clamp (by omega), nI_clamp (by omega)]
  refine ⟨vi 4 (by decide), vi 5 (by decide), ?_⟩
  have d4 := (((d3.kp hk4 (by decide)).un (i := 4 + 5 * g 0) (v := kp_vl n b y4)).un (i := 5 + 5 * g 0) (v := 0))
  have q4 : kr_keep [69] kr_mH μ (kr_u (kr_u μ4 69 (4 + 5 * g 0) (nI (kp_vl n b y4))) 69 (5 + 5 * g 0) (nI 0)) := ((q3.tr (hk4.wk (by decide) (by decide))).tr u1).tr u1
  have hh4 : kr_hx (kr_u (kr_u μ4 69 (4 + 5 * g 0) (nI (kp_vl n b y4))) 69 (5 + 5 * g 0) (nI 0)) (max (max h (kp_vl n b y1)) (kp_vl n b y2)) := by
    refine ⟨hh2.1, ?_⟩
    show (μ4.1 65 12 = _ ∧ _) ∨ μ4.1 65 12 = _
    rw [hk4.2 65 12 (by decide) (by decide)]
    show (μ3.1 65 12 = _ ∧ _) ∨ μ3.1 65 12 = _
    rw [hk3.2 65 12 (by decide) (by decide)]
    exact hh2.2
  have hS4' := su (i := 5 + 5 * g 0) (v := nI 0) (su (i := 4 + 5 * g 0) (v := nI (kp_vl n b y4)) hS4)
  have e0 : upd (upd (μ4.1 69) (4 + 5 * g 0) (nI (kp_vl n b y4))) (5 + 5 * g 0) 0 0 = nI (g 0) := by
    have := d4 0 (by decide)
    rw [kx_un_n _ _ (by omega), kx_un_n _ _ (by omega), kx_un_n _ _ (by omega), kx_un_n _ _ (by omega), kx_un_n _ _ (by omega)] at this
    rw [← this]; rfl
  rw [e0, kr_n1]
  change (¬ (kr_u (kr_u μ4 69 (4 + 5 * g 0) (nI (kp_vl n b y4))) 69 (5 + 5 * g 0) (nI 0)).1 65 19 = 0 → Q none (kr_u (kr_u (kr_u μ4 69 (4 + 5 * g 0) (nI (kp_vl n b y4))) 69 (5 + 5 * g 0) (nI 0)) 69 0 (nI (g 0 + 1)))) ∧ ((kr_u (kr_u μ4 69 (4 + 5 * g 0) (nI (kp_vl n b y4))) 69 (5 + 5 * g 0) (nI 0)).1 65 19 = 0 → ((¬ (kr_u (kr_u μ4 69 (4 + 5 * g 0) (nI (kp_vl n b y4))) 69 (5 + 5 * g 0) (nI 0)).1 65 17 = 1 → Q none (kr_u (kr_u (kr_u μ4 69 (4 + 5 * g 0) (nI (kp_vl n b y4))) 69 (5 + 5 * g 0) (nI 0)) 69 0 (nI (g 0 + 1)))) ∧ ((kr_u (kr_u μ4 69 (4 + 5 * g 0) (nI (kp_vl n b y4))) 69 (5 + 5 * g 0) (nI 0)).1 65 17 = 1 → kr_c (d + 4) i_M_isRoof [.ref 65] (kr_u (kr_u μ4 69 (4 + 5 * g 0) (nI (kp_vl n b y4))) 69 (5 + 5 * g 0) (nI 0)) _)))
  clear e0
  generalize kr_u (kr_u μ4 69 (4 + 5 * g 0) (nI (kp_vl n b y4))) 69 (5 + 5 * g 0) (nI 0) = μ5 at *
  have k := k y1 y2 y3 y4 x2 x3 x4 x5 rfl hx2.symm hy2.symm hx3.symm hy3.symm hx4.symm hy4.symm hx5.symm
  -- the draft, at the end
  have endv : ∀ μ6 r, kr_keep [69] kr_mH μ μ6 → kr_dr μ6 (kx_un (kx_un (kx_un (kx_un (kx_un g (1 + 5 * g 0) (kp_vl n b y1)) (2 + 5 * g 0) (kp_vl n b y2)) (3 + 5 * g 0) (kp_vl n b y3)) (4 + 5 * g 0) (kp_vl n b y4)) (5 + 5 * g 0) r) → kr_Mv (kr_u μ6 69 0 (nI (g 0 + 1))) (kz_ln g (kp_vl n b y1) (kp_vl n b y2) (kp_vl n b y3) (kp_vl n b y4) r, (P, D, K), t, hp) := by
    intro μ6 r hq hd
    have m : ∀ j, j ≠ 12 → (65, j) ∉ kr_mH → μ6.1 65 j = μ.1 65 j := fun j _ hj => hq.2 65 j (by decide) hj
    refine ⟨hd.un, ⟨?_, ?_, ?_⟩, fun j hj => ?_, ?_⟩
    · show μ6.1 65 7 = _
      rw [m 7 (by decide) (by decide)]; exact v2.1
    · show μ6.1 65 8 = _
      rw [m 8 (by decide) (by decide)]; exact v2.2.1
    · show μ6.1 65 9 = _
      rw [m 9 (by decide) (by decide)]; exact v2.2.2
    · show μ6.1 70 j = _
      rw [hq.row (o := 70) (by decide) (by decide)]; exact v3 j hj
    · show μ6.1 65 11 = _
      rw [m 11 (by decide) (by decide)]; exact v4
  have stay : kp_rx n b x5 = x5 → kp_ro n b x5 = 0 → Q none (kr_u μ5 69 0 (nI (g 0 + 1))) := by
    intro e1 e2
    rw [e1, e2] at k
    exact k _ (q4.tr u1) (su hS4') (endv μ5 0 q4 d4) (hhu hh4)
  cases x5 with
  | inl q =>
    obtain ⟨c, w⟩ := q
    have ne : ¬ μ5.1 65 19 = 0 := by
      have := hS4'.1
      rw [hS4'.2.1, kr_eq0 (by omega)]; omega
    exact ⟨fun _ => stay rfl rfl, fun z => absurd z ne⟩
  | inr r =>
    obtain ⟨a0, a1, a2, a3, a4, a5⟩ := hS4'
    have hkb := kr_kb (n := n) (b := b) (s := r)
    refine ⟨fun z => absurd a1 z, fun _ => ?_⟩
    rw [a3, show (1 : Int32) = nI 1 from rfl, nI_eq (by omega) (by decide)]
    refine ⟨fun c1 => stay (if_neg c1) (if_neg c1), fun c1 => ?_⟩
    have er : kp_ro n b (.inr r) = 1 := if_pos c1
    have a15 := a4 (by omega)
    obtain ⟨-, -, e2⟩ := kt_e_1 (Or.inl c1)
    refine c_M_isRoof (d := d + 1) (hT.kp q4 (by decide)) hw a15 a2 (by rw [a3, c1]) c1 (v_M_readLineAt_102 ?_)
    -- behind it, the roof is set, and the next token looked at
    have fin : ∀ μ6 x6, kr_keep [] kr_mF μ5 μ6 → kr_MS μ6 n b x6 → (∀ s, x6 = .inr s → kt_k n b s ≠ 0 ∧ kt_e n b s ≤ n) → kp_ad n b x6 = kp_rx n b (.inr r) → kr_Wp C_M_readLineAt (kr_c (d + 4)) Q 106 [some (.ref 65), some (.int ((1 : Int32) + 5 * nI (g 0)))] [] μ6 := by
      intro μ6 x6 hk6 hS6 hx6 e6
      refine v_M_readLineAt_106 ?_
      rw [o4, nI_clamp (by omega)]
      have q6 : kr_keep [69] kr_mH μ (kr_u μ6 69 (5 + 5 * g 0) 1) := (q4.tr (hk6.wk (by decide) (by decide))).tr u1
      have d6 := (d4.kp hk6 (by decide)).un (i := 5 + 5 * g 0) (v := 1)
      rw [kx_un_un] at d6
      refine ⟨vi 5 (by decide), c_M_next (d := d + 2) (hT.kp q6 (by decide)) hw (su hS6) hx6 (fun μ7 hk7 hS7 => v_M_readLineAt_119 ?_)⟩
      have d7 := d6.kp hk7 (by decide)
      have q7 : kr_keep [69] kr_mH μ μ7 := q6.tr (hk7.wk (by decide) (by decide))
      have e70 : μ7.1 69 0 = nI (g 0) := by
        rw [d7 0 (by decide), kx_un_n _ _ (by omega), kx_un_n _ _ (by omega), kx_un_n _ _ (by omega), kx_un_n _ _ (by omega), kx_un_n _ _ (by omega)]
      rw [e70, kr_n1]
      rw [er] at k
      refine k _ (q7.tr u1) (su (by rw [← e6]; exact hS7)) (endv μ7 1 q7 d7) ⟨hh4.1, ?_⟩
      show (μ7.1 65 12 = _ ∧ _) ∨ μ7.1 65 12 = _
      rw [hk7.2 65 12 (by decide) (by decide)]
      show (μ6.1 65 12 = _ ∧ _) ∨ μ6.1 65 12 = _
      rw [hk6.2 65 12 (by decide) (by decide)]
      exact hh4.2
    by_cases c6 : kt_is n b r 6 = true
    · rw [if_pos c6]
      refine c_M_needs1 (d := d + 3) (fin μ5 (.inr r) kr_keep.rf ⟨a0, a1, a2, a3, a4, a5⟩ (fun s hs => by cases hs; exact ⟨by omega, e2⟩) ?_)
      show kt_nx n b (kt_e n b r) = (if kt_k n b r = 1 then _ else _)
      rw [if_pos c1, if_pos c6]
    · rw [if_neg c6]
      refine c_M_needs0 (d := d + 3) (n := n) (b := b) (s := r) (c := 2) a1 a2 (by decide) (fun μ6 hk6 hS6 => fin μ6 (.inl (2, r)) hk6 hS6 (fun s hs => by cases hs) ?_)
      show Sum.inl (2, r) = (if kt_k n b r = 1 then _ else _)
      rw [if_pos c1, if_neg c6]
end
