/-! the text: the class -/
theorem st_D_readOneLine {d : Nat} {Q : kr_Q} {pc : Nat} {ls : kr_L} {st : List Value} {μ : kr_M} (h : C_D_readOneLine pc (kr_Wp C_D_readOneLine (kr_c d) Q) (kr_c d) Q ls st μ) : kr_Wp C_D_readOneLine (kr_c d) Q pc ls st μ := kr_Wp.step (fun pc => (kr_ok_D_readOneLine pc).2) (kr_c_om d) h
theorem v_D_readOneLine {d : Nat} {Q : kr_Q} {μ : kr_M}  (h : kr_c (d + 7) i_D_nextToken [.ref 13] μ (kr_bk (kr_Wp C_D_readOneLine (kr_c (d + 7)) Q) 4 [some (.ref 13), none] [])) : kr_c (d + 8) i_D_readOneLine [.ref 13] μ Q := ⟨rfl, (st_D_readOneLine (st_D_readOneLine (And.intro rfl h)))⟩
theorem v_D_readOneLine_4 {d : Nat} {Q : kr_Q} {μ : kr_M} {r : Int32} (h : ((r = 0 → Q (some (.int 0)) μ) ∧ (¬ (r = 0) → ((¬ (μ.1 13 6) = 0 → kr_c (d + 7) i_D_nameIs [.ref 13, .ref 86] μ (kr_bk (kr_Wp C_D_readOneLine (kr_c (d + 7)) Q) 22 [some (.ref 13), none] [])) ∧ ((μ.1 13 6) = 0 → Q (some (.int 0)) μ))))) : kr_Wp C_D_readOneLine (kr_c (d + 7)) Q 4 [some (.ref 13), none] [.int r] μ := (st_D_readOneLine (And.intro (fun z1x => (st_D_readOneLine (st_D_readOneLine (And.intro (by decide) (h.1 z1x))))) (fun z1x => (st_D_readOneLine (st_D_readOneLine (And.intro rfl (st_D_readOneLine (And.intro (fun z2x => (st_D_readOneLine (st_D_readOneLine (st_D_readOneLine (And.intro rfl ((h.2 z1x).1 z2x)))))) (fun z2x => (st_D_readOneLine (st_D_readOneLine (And.intro (by decide) ((h.2 z1x).2 (Decidable.not_not.mp z2x))))))))))))))
theorem v_D_readOneLine_22 {d : Nat} {Q : kr_Q} {μ : kr_M} {r : Int32} (h : ((r = 0 → kr_c (d + 7) i_D_nameIs [.ref 13, .ref 87] μ (kr_bk (kr_Wp C_D_readOneLine (kr_c (d + 7)) Q) 39 [some (.ref 13), none] [])) ∧ (¬ (r = 0) → kr_c (d + 7) i_D_readPoints [.ref 13] μ (kr_bk (kr_Wp C_D_readOneLine (kr_c (d + 7)) Q) 29 [some (.ref 13), none] [])))) : kr_Wp C_D_readOneLine (kr_c (d + 7)) Q 22 [some (.ref 13), none] [.int r] μ := (st_D_readOneLine (And.intro (fun z1x => (st_D_readOneLine (st_D_readOneLine (st_D_readOneLine (And.intro rfl (h.1 z1x)))))) (fun z1x => (st_D_readOneLine (st_D_readOneLine (And.intro rfl (h.2 z1x)))))))
theorem v_D_readOneLine_39 {d : Nat} {Q : kr_Q} {μ : kr_M} {r : Int32} (h : ((r = 0 → kr_c (d + 7) i_D_nameIs [.ref 13, .ref 88] μ (kr_bk (kr_Wp C_D_readOneLine (kr_c (d + 7)) Q) 56 [some (.ref 13), none] [])) ∧ (¬ (r = 0) → kr_c (d + 7) i_D_readHouse [.ref 13] μ (kr_bk (kr_Wp C_D_readOneLine (kr_c (d + 7)) Q) 46 [some (.ref 13), none] [])))) : kr_Wp C_D_readOneLine (kr_c (d + 7)) Q 39 [some (.ref 13), none] [.int r] μ := (st_D_readOneLine (And.intro (fun z1x => (st_D_readOneLine (st_D_readOneLine (st_D_readOneLine (And.intro rfl (h.1 z1x)))))) (fun z1x => (st_D_readOneLine (st_D_readOneLine (And.intro rfl (h.2 z1x)))))))
theorem v_D_readOneLine_29 {d : Nat} {Q : kr_Q} {μ : kr_M} {r : Int32} (h : ((r = 0 → (r = 0 ∨ r = 1) ∧ Q (some (.int r)) μ) ∧ (¬ (r = 0) → (r = 0 ∨ r = 1) ∧ Q (some (.int r)) (kr_u μ 13 2 ((μ.1 13 2) + (1 : Int32)))))) : kr_Wp C_D_readOneLine (kr_c (d + 7)) Q 29 [some (.ref 13), none] [.int r] μ := (st_D_readOneLine (st_D_readOneLine (st_D_readOneLine (st_D_readOneLine (And.intro (fun z1x => (st_D_readOneLine (st_D_readOneLine (h.1 z1x)))) (fun z1x => (st_D_readOneLine (st_D_readOneLine (st_D_readOneLine (And.intro rfl (st_D_readOneLine (st_D_readOneLine (st_D_readOneLine (And.intro rfl (st_D_readOneLine (st_D_readOneLine (h.2 z1x)))))))))))))))))
theorem v_D_readOneLine_56 {d : Nat} {Q : kr_Q} {μ : kr_M} {r : Int32} (h : ((r = 0 → kr_c (d + 7) i_D_nameIs [.ref 13, .ref 89] μ (kr_bk (kr_Wp C_D_readOneLine (kr_c (d + 7)) Q) 73 [some (.ref 13), none] [])) ∧ (¬ (r = 0) → kr_c (d + 7) i_D_readLine [.ref 13] μ (kr_bk (kr_Wp C_D_readOneLine (kr_c (d + 7)) Q) 63 [some (.ref 13), none] [])))) : kr_Wp C_D_readOneLine (kr_c (d + 7)) Q 56 [some (.ref 13), none] [.int r] μ := (st_D_readOneLine (And.intro (fun z1x => (st_D_readOneLine (st_D_readOneLine (st_D_readOneLine (And.intro rfl (h.1 z1x)))))) (fun z1x => (st_D_readOneLine (st_D_readOneLine (And.intro rfl (h.2 z1x)))))))
theorem v_D_readOneLine_46 {d : Nat} {Q : kr_Q} {μ : kr_M} {r : Int32} (h : ((r = 0 → (r = 0 ∨ r = 1) ∧ Q (some (.int r)) μ) ∧ (¬ (r = 0) → (r = 0 ∨ r = 1) ∧ Q (some (.int r)) (kr_u μ 13 2 ((μ.1 13 2) + (1 : Int32)))))) : kr_Wp C_D_readOneLine (kr_c (d + 7)) Q 46 [some (.ref 13), none] [.int r] μ := (st_D_readOneLine (st_D_readOneLine (st_D_readOneLine (st_D_readOneLine (And.intro (fun z1x => (st_D_readOneLine (st_D_readOneLine (h.1 z1x)))) (fun z1x => (st_D_readOneLine (st_D_readOneLine (st_D_readOneLine (And.intro rfl (st_D_readOneLine (st_D_readOneLine (st_D_readOneLine (And.intro rfl (st_D_readOneLine (st_D_readOneLine (h.2 z1x)))))))))))))))))
theorem v_D_readOneLine_73 {d : Nat} {Q : kr_Q} {μ : kr_M} {r : Int32} (h : ((r = 0 → kr_c (d + 7) i_D_nameIs [.ref 13, .ref 90] μ (kr_bk (kr_Wp C_D_readOneLine (kr_c (d + 7)) Q) 90 [some (.ref 13), none] [])) ∧ (¬ (r = 0) → kr_c (d + 7) i_D_readDrawer [.ref 13] μ (kr_bk (kr_Wp C_D_readOneLine (kr_c (d + 7)) Q) 80 [some (.ref 13), none] [])))) : kr_Wp C_D_readOneLine (kr_c (d + 7)) Q 73 [some (.ref 13), none] [.int r] μ := (st_D_readOneLine (And.intro (fun z1x => (st_D_readOneLine (st_D_readOneLine (st_D_readOneLine (And.intro rfl (h.1 z1x)))))) (fun z1x => (st_D_readOneLine (st_D_readOneLine (And.intro rfl (h.2 z1x)))))))
theorem v_D_readOneLine_63 {d : Nat} {Q : kr_Q} {μ : kr_M} {r : Int32} (h : ((r = 0 → (r = 0 ∨ r = 1) ∧ Q (some (.int r)) μ) ∧ (¬ (r = 0) → (r = 0 ∨ r = 1) ∧ Q (some (.int r)) (kr_u μ 13 2 ((μ.1 13 2) + (1 : Int32)))))) : kr_Wp C_D_readOneLine (kr_c (d + 7)) Q 63 [some (.ref 13), none] [.int r] μ := (st_D_readOneLine (st_D_readOneLine (st_D_readOneLine (st_D_readOneLine (And.intro (fun z1x => (st_D_readOneLine (st_D_readOneLine (h.1 z1x)))) (fun z1x => (st_D_readOneLine (st_D_readOneLine (st_D_readOneLine (And.intro rfl (st_D_readOneLine (st_D_readOneLine (st_D_readOneLine (And.intro rfl (st_D_readOneLine (st_D_readOneLine (h.2 z1x)))))))))))))))))
theorem v_D_readOneLine_90 {d : Nat} {Q : kr_Q} {μ : kr_M} {r : Int32} (h : ((r = 0 → kr_c (d + 7) i_D_nameIs [.ref 13, .ref 91] μ (kr_bk (kr_Wp C_D_readOneLine (kr_c (d + 7)) Q) 107 [some (.ref 13), none] [])) ∧ (¬ (r = 0) → kr_c (d + 7) i_D_readOne [.ref 13] μ (kr_bk (kr_Wp C_D_readOneLine (kr_c (d + 7)) Q) 97 [some (.ref 13), none] [])))) : kr_Wp C_D_readOneLine (kr_c (d + 7)) Q 90 [some (.ref 13), none] [.int r] μ := (st_D_readOneLine (And.intro (fun z1x => (st_D_readOneLine (st_D_readOneLine (st_D_readOneLine (And.intro rfl (h.1 z1x)))))) (fun z1x => (st_D_readOneLine (st_D_readOneLine (And.intro rfl (h.2 z1x)))))))
theorem v_D_readOneLine_80 {d : Nat} {Q : kr_Q} {μ : kr_M} {r : Int32} (h : ((r = 0 → (r = 0 ∨ r = 1) ∧ Q (some (.int r)) μ) ∧ (¬ (r = 0) → (r = 0 ∨ r = 1) ∧ Q (some (.int r)) (kr_u μ 13 2 ((μ.1 13 2) + (1 : Int32)))))) : kr_Wp C_D_readOneLine (kr_c (d + 7)) Q 80 [some (.ref 13), none] [.int r] μ := (st_D_readOneLine (st_D_readOneLine (st_D_readOneLine (st_D_readOneLine (And.intro (fun z1x => (st_D_readOneLine (st_D_readOneLine (h.1 z1x)))) (fun z1x => (st_D_readOneLine (st_D_readOneLine (st_D_readOneLine (And.intro rfl (st_D_readOneLine (st_D_readOneLine (st_D_readOneLine (And.intro rfl (st_D_readOneLine (st_D_readOneLine (h.2 z1x)))))))))))))))))
theorem v_D_readOneLine_107 {d : Nat} {Q : kr_Q} {μ : kr_M} {r : Int32} (h : ((r = 0 → kr_c (d + 7) i_D_fail [.ref 13, .int 2, .int (μ.1 13 7)] μ (kr_bk (kr_Wp C_D_readOneLine (kr_c (d + 7)) Q) 127 [some (.ref 13), none] [])) ∧ (¬ (r = 0) → kr_c (d + 7) i_D_readRain [.ref 13] μ (kr_bk (kr_Wp C_D_readOneLine (kr_c (d + 7)) Q) 114 [some (.ref 13), none] [])))) : kr_Wp C_D_readOneLine (kr_c (d + 7)) Q 107 [some (.ref 13), none] [.int r] μ := (st_D_readOneLine (And.intro (fun z1x => (st_D_readOneLine (st_D_readOneLine (st_D_readOneLine (st_D_readOneLine (And.intro rfl (st_D_readOneLine (And.intro rfl (h.1 z1x))))))))) (fun z1x => (st_D_readOneLine (st_D_readOneLine (And.intro rfl (h.2 z1x)))))))
theorem v_D_readOneLine_97 {d : Nat} {Q : kr_Q} {μ : kr_M} {r : Int32} (h : ((r = 0 → (r = 0 ∨ r = 1) ∧ Q (some (.int r)) μ) ∧ (¬ (r = 0) → (r = 0 ∨ r = 1) ∧ Q (some (.int r)) (kr_u μ 13 2 ((μ.1 13 2) + (1 : Int32)))))) : kr_Wp C_D_readOneLine (kr_c (d + 7)) Q 97 [some (.ref 13), none] [.int r] μ := (st_D_readOneLine (st_D_readOneLine (st_D_readOneLine (st_D_readOneLine (And.intro (fun z1x => (st_D_readOneLine (st_D_readOneLine (h.1 z1x)))) (fun z1x => (st_D_readOneLine (st_D_readOneLine (st_D_readOneLine (And.intro rfl (st_D_readOneLine (st_D_readOneLine (st_D_readOneLine (And.intro rfl (st_D_readOneLine (st_D_readOneLine (h.2 z1x)))))))))))))))))
theorem v_D_readOneLine_127 {d : Nat} {Q : kr_Q} {μ : kr_M} {r : Int32} (h : ((r = 0 → (r = 0 ∨ r = 1) ∧ Q (some (.int r)) μ) ∧ (¬ (r = 0) → (r = 0 ∨ r = 1) ∧ Q (some (.int r)) (kr_u μ 13 2 ((μ.1 13 2) + (1 : Int32)))))) : kr_Wp C_D_readOneLine (kr_c (d + 7)) Q 127 [some (.ref 13), none] [.int r] μ := (st_D_readOneLine (st_D_readOneLine (st_D_readOneLine (And.intro (fun z1x => (st_D_readOneLine (st_D_readOneLine (h.1 z1x)))) (fun z1x => (st_D_readOneLine (st_D_readOneLine (st_D_readOneLine (And.intro rfl (st_D_readOneLine (st_D_readOneLine (st_D_readOneLine (And.intro rfl (st_D_readOneLine (st_D_readOneLine (h.2 z1x))))))))))))))))
theorem v_D_readOneLine_114 {d : Nat} {Q : kr_Q} {μ : kr_M} {r : Int32} (h : ((r = 0 → (r = 0 ∨ r = 1) ∧ Q (some (.int r)) μ) ∧ (¬ (r = 0) → (r = 0 ∨ r = 1) ∧ Q (some (.int r)) (kr_u μ 13 2 ((μ.1 13 2) + (1 : Int32)))))) : kr_Wp C_D_readOneLine (kr_c (d + 7)) Q 114 [some (.ref 13), none] [.int r] μ := (st_D_readOneLine (st_D_readOneLine (st_D_readOneLine (st_D_readOneLine (And.intro (fun z1x => (st_D_readOneLine (st_D_readOneLine (h.1 z1x)))) (fun z1x => (st_D_readOneLine (st_D_readOneLine (st_D_readOneLine (And.intro rfl (st_D_readOneLine (st_D_readOneLine (st_D_readOneLine (And.intro rfl (st_D_readOneLine (st_D_readOneLine (h.2 z1x)))))))))))))))))
theorem st_R_highestPoint {d : Nat} {Q : kr_Q} {pc : Nat} {ls : kr_L} {st : List Value} {μ : kr_M} (h : C_R_highestPoint pc (kr_Wp C_R_highestPoint (kr_c d) Q) (kr_c d) Q ls st μ) : kr_Wp C_R_highestPoint (kr_c d) Q pc ls st μ := kr_Wp.step (fun pc => (kr_ok_R_highestPoint pc).2) (kr_c_om d) h
theorem v_R_highestPoint {d : Nat} {Q : kr_Q} {μ : kr_M}  (h : kr_Wp C_R_highestPoint (kr_c (d + 2)) Q 4 [some (.ref 14), some (.int 0), some (.int 0)] [] μ) : kr_c (d + 3) i_R_highestPoint [.ref 14] μ Q := ⟨rfl, (st_R_highestPoint (st_R_highestPoint (st_R_highestPoint (st_R_highestPoint h))))⟩
theorem v_R_highestPoint_4 {d : Nat} {Q : kr_Q} {μ : kr_M} {a1 : Int32} {a2 : Int32} (h : (((9 : Int32) ≤ a2 → kr_Wp C_R_highestPoint (kr_c (d + 2)) Q 28 [some (.ref 14), some (.int a1), some (.int 0)] [] μ) ∧ (¬ ((9 : Int32) ≤ a2) → ((¬ (¬ ((μ.1 14 1) >>> (a2 &&& 31)) &&& 1 = 0) → kr_Wp C_R_highestPoint (kr_c (d + 2)) Q 4 [some (.ref 14), some (.int a1), some (.int (a2 + 1))] [] μ) ∧ (¬ ((μ.1 14 1) >>> (a2 &&& 31)) &&& 1 = 0 → kr_Wp C_R_highestPoint (kr_c (d + 2)) Q 4 [some (.ref 14), some (.int a2), some (.int (a2 + 1))] [] μ))))) : kr_Wp C_R_highestPoint (kr_c (d + 2)) Q 4 [some (.ref 14), some (.int a1), some (.int a2)] [] μ := (st_R_highestPoint (st_R_highestPoint (st_R_highestPoint (And.intro (fun z1x => (st_R_highestPoint (st_R_highestPoint (h.1 z1x)))) (fun z1x => (st_R_highestPoint (st_R_highestPoint (st_R_highestPoint (And.intro rfl (v_R_isHouse14 (st_R_highestPoint (And.intro (fun z2x => (st_R_highestPoint (st_R_highestPoint ((h.2 z1x).1 (kr_b0 z2x))))) (fun z2x => (st_R_highestPoint (st_R_highestPoint (st_R_highestPoint (st_R_highestPoint ((h.2 z1x).2 (kr_b1 z2x)))))))))))))))))))
theorem v_R_highestPoint_28 {d : Nat} {Q : kr_Q} {μ : kr_M} {a1 : Int32} {a2 : Int32} (h : (((μ.1 14 2) ≤ a2 → kr_Wp C_R_highestPoint (kr_c (d + 2)) Q 64 [some (.ref 14), some (.int a1), some (.int 0)] [] μ) ∧ (¬ ((μ.1 14 2) ≤ a2) → vp_in a2 12 ∧ vp_in a2 12 ∧ kr_Wp C_R_highestPoint (kr_c (d + 2)) Q 28 [some (.ref 14), some (.int (if a1 < (if (μ.1 15 a2.toNatClampNeg) < (μ.1 16 a2.toNatClampNeg) then (μ.1 16 a2.toNatClampNeg) else (μ.1 15 a2.toNatClampNeg)) then (if (μ.1 15 a2.toNatClampNeg) < (μ.1 16 a2.toNatClampNeg) then (μ.1 16 a2.toNatClampNeg) else (μ.1 15 a2.toNatClampNeg)) else a1)), some (.int (a2 + 1))] [] μ))) : kr_Wp C_R_highestPoint (kr_c (d + 2)) Q 28 [some (.ref 14), some (.int a1), some (.int a2)] [] μ := (st_R_highestPoint (st_R_highestPoint (st_R_highestPoint (And.intro rfl (st_R_highestPoint (And.intro (fun z1x => (st_R_highestPoint (st_R_highestPoint (h.1 z1x)))) (fun z1x => (st_R_highestPoint (st_R_highestPoint (st_R_highestPoint (And.intro rfl (st_R_highestPoint (st_R_highestPoint (And.intro ⟨12, rfl, (h.2 z1x).1⟩ (st_R_highestPoint (st_R_highestPoint (And.intro rfl (st_R_highestPoint (st_R_highestPoint (And.intro ⟨12, rfl, (h.2 z1x).2.1⟩ (st_R_highestPoint (st_R_highestPoint (st_R_highestPoint (st_R_highestPoint (st_R_highestPoint (h.2 z1x).2.2)))))))))))))))))))))))))
theorem v_R_highestPoint_64 {d : Nat} {Q : kr_Q} {μ : kr_M} {a1 : Int32} {a2 : Int32} (h : (((μ.1 14 10) ≤ a2 → Q (some (.int a1)) μ) ∧ (¬ ((μ.1 14 10) ≤ a2) → vp_in a2 5 ∧ vp_in a2 5 ∧ kr_Wp C_R_highestPoint (kr_c (d + 2)) Q 64 [some (.ref 14), some (.int (if a1 < (if (μ.1 20 a2.toNatClampNeg) < (μ.1 21 a2.toNatClampNeg) then (μ.1 21 a2.toNatClampNeg) else (μ.1 20 a2.toNatClampNeg)) then (if (μ.1 20 a2.toNatClampNeg) < (μ.1 21 a2.toNatClampNeg) then (μ.1 21 a2.toNatClampNeg) else (μ.1 20 a2.toNatClampNeg)) else a1)), some (.int (a2 + 1))] [] μ))) : kr_Wp C_R_highestPoint (kr_c (d + 2)) Q 64 [some (.ref 14), some (.int a1), some (.int a2)] [] μ := (st_R_highestPoint (st_R_highestPoint (st_R_highestPoint (And.intro rfl (st_R_highestPoint (And.intro (fun z1x => (st_R_highestPoint (st_R_highestPoint (h.1 z1x)))) (fun z1x => (st_R_highestPoint (st_R_highestPoint (st_R_highestPoint (And.intro rfl (st_R_highestPoint (st_R_highestPoint (And.intro ⟨5, rfl, (h.2 z1x).1⟩ (st_R_highestPoint (st_R_highestPoint (And.intro rfl (st_R_highestPoint (st_R_highestPoint (And.intro ⟨5, rfl, (h.2 z1x).2.1⟩ (st_R_highestPoint (st_R_highestPoint (st_R_highestPoint (st_R_highestPoint (st_R_highestPoint (h.2 z1x).2.2)))))))))))))))))))))))))
theorem st_D_readAll {d : Nat} {Q : kr_Q} {pc : Nat} {ls : kr_L} {st : List Value} {μ : kr_M} (h : C_D_readAll pc (kr_Wp C_D_readAll (kr_c d) Q) (kr_c d) Q ls st μ) : kr_Wp C_D_readAll (kr_c d) Q pc ls st μ := kr_Wp.step (fun pc => (kr_ok_D_readAll pc).2) (kr_c_om d) h
theorem v_D_readAll {d : Nat} {Q : kr_Q} {μ : kr_M}  (h : kr_c (d + 8) i_R_clear [.ref 14] μ (kr_bk (kr_Wp C_D_readAll (kr_c (d + 8)) Q) 7 [some (.ref 13), none, none] [])) : kr_c (d + 9) i_D_readAll [.ref 13] μ Q := ⟨rfl, (st_D_readAll (st_D_readAll (And.intro rfl (st_D_readAll (And.intro rfl h)))))⟩
theorem v_D_readAll_36 {d : Nat} {Q : kr_Q} {μ : kr_M} {a1 : Int32} {a2 : Int32} (h : (((400 : Int32) < a2 → ((¬ (μ.1 13 3) = 0 → Q (some (.int (μ.1 13 3))) μ) ∧ ((μ.1 13 3) = 0 → kr_c (d + 8) i_R_highestPoint [.ref 14] μ (kr_bk (kr_Wp C_D_readAll (kr_c (d + 8)) Q) 72 [some (.ref 13), some (.int a1), some (.int a2)] [])))) ∧ (¬ ((400 : Int32) < a2) → ((a1 = 0 → ((¬ (μ.1 13 3) = 0 → Q (some (.int (μ.1 13 3))) μ) ∧ ((μ.1 13 3) = 0 → kr_c (d + 8) i_R_highestPoint [.ref 14] μ (kr_bk (kr_Wp C_D_readAll (kr_c (d + 8)) Q) 72 [some (.ref 13), some (.int a1), some (.int a2)] [])))) ∧ (¬ (a1 = 0) → kr_c (d + 8) i_D_readOneLine [.ref 13] μ (kr_bk (kr_Wp C_D_readAll (kr_c (d + 8)) Q) 51 [some (.ref 13), some (.int a1), some (.int a2)] [])))))) : kr_Wp C_D_readAll (kr_c (d + 8)) Q 36 [some (.ref 13), some (.int a1), some (.int a2)] [] μ := (st_D_readAll (st_D_readAll (st_D_readAll (And.intro (fun z1x => (st_D_readAll (st_D_readAll (And.intro rfl (st_D_readAll (And.intro (fun z2x => (st_D_readAll (st_D_readAll (And.intro rfl (st_D_readAll ((h.1 z1x).1 z2x)))))) (fun z2x => (st_D_readAll (st_D_readAll (And.intro rfl (st_D_readAll (And.intro rfl ((h.1 z1x).2 (Decidable.not_not.mp z2x)))))))))))))) (fun z1x => (st_D_readAll (st_D_readAll (And.intro (fun z3x => (st_D_readAll (st_D_readAll (And.intro rfl (st_D_readAll (And.intro (fun z4x => (st_D_readAll (st_D_readAll (And.intro rfl (st_D_readAll (((h.2 z1x).1 z3x).1 z4x)))))) (fun z4x => (st_D_readAll (st_D_readAll (And.intro rfl (st_D_readAll (And.intro rfl (((h.2 z1x).1 z3x).2 (Decidable.not_not.mp z4x)))))))))))))) (fun z3x => (st_D_readAll (st_D_readAll (And.intro rfl ((h.2 z1x).2 z3x)))))))))))))
theorem v_D_readAll_7 {d : Nat} {Q : kr_Q} {μ : kr_M}  (h : kr_Wp C_D_readAll (kr_c (d + 8)) Q 36 [some (.ref 13), some (.int 1), some (.int 0)] [] (kr_u (kr_u (kr_u (kr_u (kr_u μ 13 2 0) 13 3 0) 13 4 0) 13 5 0) 13 8 0)) : kr_Wp C_D_readAll (kr_c (d + 8)) Q 7 [some (.ref 13), none, none] [] μ := (st_D_readAll (st_D_readAll (st_D_readAll (And.intro rfl (st_D_readAll (st_D_readAll (st_D_readAll (And.intro rfl (st_D_readAll (st_D_readAll (st_D_readAll (And.intro rfl (st_D_readAll (st_D_readAll (st_D_readAll (And.intro ⟨rfl, by decide⟩ (st_D_readAll (st_D_readAll (st_D_readAll (And.intro rfl (st_D_readAll (st_D_readAll (st_D_readAll (st_D_readAll h))))))))))))))))))))))))
theorem v_D_readAll_72 {d : Nat} {Q : kr_Q} {μ : kr_M} {a1 : Int32} {a2 : Int32} {r : Int32} (h : ((r < (μ.1 14 0) → Q (some (.int (μ.1 13 3))) μ) ∧ (¬ (r < (μ.1 14 0)) → kr_c (d + 8) i_D_fail [.ref 13, .int 6, .int (μ.1 11 1)] μ (kr_bk (kr_Wp C_D_readAll (kr_c (d + 8)) Q) 95 [some (.ref 13), some (.int a1), some (.int a2)] [])))) : kr_Wp C_D_readAll (kr_c (d + 8)) Q 72 [some (.ref 13), some (.int a1), some (.int a2)] [.int r] μ := (st_D_readAll (st_D_readAll (And.intro rfl (st_D_readAll (And.intro rfl (st_D_readAll (And.intro (fun z1x => (st_D_readAll (st_D_readAll (And.intro rfl (st_D_readAll (h.1 z1x)))))) (fun z1x => (st_D_readAll (st_D_readAll (st_D_readAll (st_D_readAll (And.intro rfl (st_D_readAll (And.intro rfl (st_D_readAll (And.intro rfl (h.2 z1x))))))))))))))))))
theorem v_D_readAll_51 {d : Nat} {Q : kr_Q} {μ : kr_M} {a1 : Int32} {a2 : Int32} {r : Int32} (h : kr_Wp C_D_readAll (kr_c (d + 8)) Q 36 [some (.ref 13), some (.int r), some (.int (a2 + 1))] [] μ) : kr_Wp C_D_readAll (kr_c (d + 8)) Q 51 [some (.ref 13), some (.int a1), some (.int a2)] [.int r] μ := (st_D_readAll (st_D_readAll (st_D_readAll h)))
theorem v_D_readAll_95 {d : Nat} {Q : kr_Q} {μ : kr_M} {a1 : Int32} {a2 : Int32} {r : Int32} (h : Q (some (.int (μ.1 13 3))) μ) : kr_Wp C_D_readAll (kr_c (d + 8)) Q 95 [some (.ref 13), some (.int a1), some (.int a2)] [.int r] μ := (st_D_readAll (st_D_readAll (st_D_readAll (And.intro rfl (st_D_readAll h)))))
theorem st_C_text {d : Nat} {Q : kr_Q} {pc : Nat} {ls : kr_L} {st : List Value} {μ : kr_M} (h : C_C_text pc (kr_Wp C_C_text (kr_c d) Q) (kr_c d) Q ls st μ) : kr_Wp C_C_text (kr_c d) Q pc ls st μ := kr_Wp.step (fun pc => (kr_ok_C_text pc).2) (kr_c_om d) h
theorem v_C_text {d : Nat} {Q : kr_Q} {μ : kr_M}  (h : kr_c (d + 9) i_D_readAll [.ref 13] μ (kr_bk (kr_Wp C_C_text (kr_c (d + 9)) Q) 7 [some (.ref 0), none] [])) : kr_c (d + 10) i_C_text [.ref 0] μ Q := ⟨rfl, (st_C_text (st_C_text (And.intro rfl (st_C_text (And.intro rfl h)))))⟩
theorem v_C_text_7 {d : Nat} {Q : kr_Q} {μ : kr_M} {r : Int32} (h : kr_c (d + 9) i_T_cut [.ref 11, .int 0] μ (kr_bk (kr_Wp C_C_text (kr_c (d + 9)) Q) 16 [some (.ref 0), some (.int r)] [])) : kr_Wp C_C_text (kr_c (d + 9)) Q 7 [some (.ref 0), none] [.int r] μ := (st_C_text (st_C_text (st_C_text (And.intro rfl (st_C_text (st_C_text (And.intro rfl h)))))))
theorem v_C_text_16 {d : Nat} {Q : kr_Q} {μ : kr_M} {a1 : Int32} {r : Int32} (h : ((a1 = 0 → kr_c (d + 9) i_R_copyOf [.ref 1, .ref 14] μ (kr_bk (kr_Wp C_C_text (kr_c (d + 9)) Q) 46 [some (.ref 0), some (.int a1)] [])) ∧ (¬ (a1 = 0) → Q (some (.int ((-10 : Int32) - (μ.1 13 4)))) μ))) : kr_Wp C_C_text (kr_c (d + 9)) Q 16 [some (.ref 0), some (.int a1)] [.int r] μ := (st_C_text (st_C_text (st_C_text (And.intro (fun z1x => (st_C_text (st_C_text (And.intro rfl (st_C_text (st_C_text (And.intro rfl (st_C_text (And.intro rfl (st_C_text (And.intro rfl (h.1 z1x)))))))))))) (fun z1x => (st_C_text (st_C_text (st_C_text (And.intro rfl (st_C_text (And.intro rfl (st_C_text (st_C_text (h.2 z1x))))))))))))))
theorem v_C_text_46 {d : Nat} {Q : kr_Q} {μ : kr_M} {a1 : Int32} (h : Q (some (.int (μ.1 13 2))) (kr_u μ 0 10 0)) : kr_Wp C_C_text (kr_c (d + 9)) Q 46 [some (.ref 0), some (.int a1)] [] μ := (st_C_text (st_C_text (st_C_text (And.intro rfl (st_C_text (st_C_text (And.intro rfl (st_C_text (And.intro rfl (st_C_text h))))))))))
section
variable {d : Nat} {Q : kr_Q} {μ : kr_M} {n : Nat} {b : Nat → Nat} {g t : Nat → Nat} {P D K : Nat}
def kp_oc {A : Type} (x : Sum (Nat × Nat) A) : Prop := ∀ c w, x = .inl (c, w) → 1 ≤ c ∧ c ≤ 6
theorem kp_oc_bd {A B : Type} {x : Sum (Nat × Nat) A} {f : A → Sum (Nat × Nat) B} (h : kp_oc x) (hf : ∀ a, kp_oc (f a)) : kp_oc (kp_bd x f) := by
  intro c w e
  cases x with
  | inl q => exact h c w (by cases e; rfl)
  | inr a => exact hf a c w e
theorem kp_oc_l {A : Type} {c w : Nat} (h : 1 ≤ c ∧ c ≤ 6) : kp_oc (A := A) (.inl (c, w)) := fun c' w' e => by cases e; exact h
theorem kp_oc_r {A : Type} {a : A} : kp_oc (.inr a) := fun c' w' e => by cases e
theorem kp_oc_if {A : Type} {p : Prop} [Decidable p] {x y : Sum (Nat × Nat) A} (h1 : kp_oc x) (h2 : kp_oc y) : kp_oc (if p then x else y) := by split <;> assumption
theorem kp_oc_nx {p : Nat} : kp_oc (kt_nx n b p) := kp_oc_if kp_oc_r (kp_oc_l (by decide))
theorem kp_oc_lk {lo hi : Nat} {x : kp_X} (h : kp_oc x) : kp_oc (kp_lk n b lo hi x) := kp_oc_bd h (fun _ => kp_oc_if (kp_oc_if kp_oc_r (kp_oc_l (by decide))) (kp_oc_l (by decide)))
theorem kp_oc_st {x : kp_X} (h : kp_oc x) : kp_oc (kp_st n b x) := kp_oc_bd h (fun _ => kp_oc_if kp_oc_r (kp_oc_l (by decide)))
theorem kp_oc_nm {lo hi p : Nat} : kp_oc (kp_nm n b lo hi p) := kp_oc_lk kp_oc_nx
theorem kp_oc_fin {p : Nat} {E : kp_D} : kp_oc (kp_fin n b p E) := kp_oc_bd (kp_oc_st kp_oc_nx) (fun _ => kp_oc_r)
theorem kp_oc_ln {s : Nat} {E : kp_D} : kp_oc (kp_ln n b s E) := by
  unfold kp_ln
  refine kp_oc_if ?_ (kp_oc_if ?_ (kp_oc_if ?_ (kp_oc_if ?_ (kp_oc_if ?_ (kp_oc_if ?_ (kp_oc_l (by decide)))))))
  · exact kp_oc_if (kp_oc_l (by decide)) (kp_oc_bd kp_oc_nm (fun _ => kp_oc_fin))
  · exact kp_oc_bd kp_oc_nm (fun _ => kp_oc_if (kp_oc_l (by decide)) kp_oc_fin)
  · exact kp_oc_if (kp_oc_l (by decide)) (kp_oc_bd kp_oc_nm (fun _ => kp_oc_bd kp_oc_nm (fun _ => kp_oc_if (kp_oc_l (by decide)) (kp_oc_bd kp_oc_nm (fun _ => kp_oc_bd kp_oc_nm (fun _ => kp_oc_bd kp_oc_nx (fun _ => kp_oc_if kp_oc_fin (kp_oc_if kp_oc_r (kp_oc_l (by decide))))))))))
  · exact kp_oc_if (kp_oc_l (by decide)) (kp_oc_bd kp_oc_nm (fun _ => kp_oc_fin))
  · exact kp_oc_if (kp_oc_l (by decide)) (kp_oc_bd kp_oc_nm (fun _ => kp_oc_bd kp_oc_nm (fun _ => kp_oc_if (kp_oc_l (by decide)) (kp_oc_bd kp_oc_nm (fun _ => kp_oc_fin)))))
  · exact kp_oc_bd kp_oc_nm (fun _ => kp_oc_if (kp_oc_l (by decide)) kp_oc_fin)
/-- a line takes something -/
def kp_gt {n : Nat} (s : Nat) (x : kp_L) : Prop := ∀ p' D', x = .inr (p', D') → s < p' ∧ p' ≤ n
theorem kp_bd_i {A B : Type} {x : Sum (Nat × Nat) A} {f : A → Sum (Nat × Nat) B} {r : B} (h : kp_bd x f = .inr r) : ∃ a, x = .inr a ∧ f a = .inr r := by
  cases x with
  | inl q => cases h
  | inr a => exact ⟨a, rfl, h⟩
theorem kp_gt_fin {s p : Nat} {E : kp_D} (h1 : s < p) (h2 : p ≤ n) : kp_gt (n := n) s (kp_fin n b p E) := by
  intro p' D' e
  obtain ⟨z, e1, e2⟩ := kp_bd_i e
  have := kp_sg_r h2 e1
  cases e2
  omega
theorem kp_ln_gt {s : Nat} {E : kp_D} (hs : s ≤ n) (hok : kt_ok n b s = true) : kp_gt (n := n) s (kp_ln n b s E) := by
  have key : ∀ j, j < 7 → kt_is n b s j = true → s < kt_e n b s ∧ kt_e n b s ≤ n := by
    intro j hj h
    obtain ⟨q1, -, -, -⟩ := kt_is_1 hj hok h
    exact ⟨(kt_e_1 (Or.inl q1)).2.1, (kt_e_1 (Or.inl q1)).2.2⟩
  intro p' D' e
  unfold kp_ln at e
  split at e
  · rename_i c
    obtain ⟨k1, k2⟩ := key 0 (by decide) c
    unfold kp_points at e
    split at e
    · cases e
    · obtain ⟨a, e1, e2⟩ := kp_bd_i e
      have := kp_nm_r k2 e1
      exact kp_gt_fin (s := s) (by omega) (by omega) _ _ e2
  split at e
  · rename_i c
    obtain ⟨k1, k2⟩ := key 1 (by decide) c
    obtain ⟨a, e1, e2⟩ := kp_bd_i e
    have := kp_nm_r k2 e1
    split at e2
    · cases e2
    · exact kp_gt_fin (s := s) (by omega) (by omega) _ _ e2
  split at e
  · rename_i c
    obtain ⟨k1, k2⟩ := key 2 (by decide) c
    unfold kp_line at e
    split at e
    · cases e
    · obtain ⟨a, e1, e2⟩ := kp_bd_i e
      have i1 := kp_nm_r k2 e1
      obtain ⟨a2, e3, e4⟩ := kp_bd_i e2
      have i2 := kp_nm_r i1.2.2.1 e3
      split at e4
      · cases e4
      · obtain ⟨a3, e5, e6⟩ := kp_bd_i e4
        have i3 := kp_nm_r i2.2.2.1 e5
        obtain ⟨a4, e7, e8⟩ := kp_bd_i e6
        have i4 := kp_nm_r i3.2.2.1 e7
        obtain ⟨r, e9, e10⟩ := kp_bd_i e8
        have i5 := kt_nx_r i4.2.2.1 e9
        split at e10
        · rename_i c6
          obtain ⟨q1, -, -, -⟩ := kt_is_1 (by decide) i5.2.2 c6
          have i6 := kt_e_1 (Or.inl q1)
          exact kp_gt_fin (s := s) (by omega) (by omega) _ _ e10
        · split at e10
          · rename_i c3
            have := kt_k3 c3
            cases e10
            omega
          · cases e10
  split at e
  · rename_i c
    obtain ⟨k1, k2⟩ := key 3 (by decide) c
    unfold kp_drawer at e
    split at e
    · cases e
    · obtain ⟨a, e1, e2⟩ := kp_bd_i e
      have := kp_nm_r k2 e1
      exact kp_gt_fin (s := s) (by omega) (by omega) _ _ e2
  split at e
  · rename_i c
    obtain ⟨k1, k2⟩ := key 4 (by decide) c
    unfold kp_one at e
    split at e
    · cases e
    · obtain ⟨a, e1, e2⟩ := kp_bd_i e
      have i1 := kp_nm_r k2 e1
      obtain ⟨a2, e3, e4⟩ := kp_bd_i e2
      have i2 := kp_nm_r i1.2.2.1 e3
      split at e4
      · cases e4
      · obtain ⟨a3, e5, e6⟩ := kp_bd_i e4
        have i3 := kp_nm_r i2.2.2.1 e5
        exact kp_gt_fin (s := s) (by omega) (by omega) _ _ e6
  split at e
  · rename_i c
    obtain ⟨k1, k2⟩ := key 5 (by decide) c
    obtain ⟨a, e1, e2⟩ := kp_bd_i e
    have := kp_nm_r k2 e1
    split at e2
    · cases e2
    · exact kp_gt_fin (s := s) (by omega) (by omega) _ _ e2
  · cases e
def kr_fE (μ μ' : kr_M) : Prop := (∀ o, (o < 13 ∨ 23 < o) → μ'.1 o = μ.1 o) ∧ ∀ o, o ≠ 14 → μ'.2 o = μ.2 o
theorem kr_fD.E {μ' : kr_M} (h : kr_fD μ μ') : kr_fE μ μ' := ⟨h.1, h.2.1⟩
theorem kr_fE.tr {μ' μ'' : kr_M} (h : kr_fE μ μ') (h' : kr_fE μ' μ'') : kr_fE μ μ'' := ⟨fun o ho => (h'.1 o ho).trans (h.1 o ho), fun o ho => (h'.2 o ho).trans (h.2 o ho)⟩
theorem kr_TC.fE {μ' : kr_M} (h : kr_TC μ n b) (k : kr_fE μ μ') : kr_TC μ' n b := by
  unfold kr_TC
  rw [k.1 11 (by decide), k.1 12 (by decide)]
  exact h
theorem c_D_readOneLine {E : kp_D} {p : Nat} (hT : kr_TC μ n b) (hw : kx_tw n b) (hS : kr_DS μ n b p E)
    (k0 : ∀ s, kt_nx n b p = .inr s → kt_k n b s = 0 → ∀ μ', kr_fD μ μ' → kr_Ro μ' E → Q (some (.int 0)) μ')
    (k1 : ∀ s p' D', kt_nx n b p = .inr s → ¬ kt_k n b s = 0 → kp_ln n b s E = .inr (p', D') → ∀ μ', kr_fE μ μ' → μ'.1 13 2 = μ.1 13 2 + 1 → kr_DS μ' n b p' D' → Q (some (.int 1)) μ')
    (k2 : ∀ c w, (kt_nx n b p = .inl (c, w) ∨ ∃ s, kt_nx n b p = .inr s ∧ ¬ kt_k n b s = 0 ∧ kp_ln n b s E = .inl (c, w)) → ∀ μ', kr_fD μ μ' → kr_DF μ' c w → Q (some (.int 0)) μ') : kr_c (d + 8) i_D_readOneLine [.ref 13] μ Q := by
  obtain ⟨hp, h8, hR⟩ := hS
  refine v_D_readOneLine (c_D_nextToken (d := d + 5) hT hw hp h8 (fun s hs μ2 hk2 h2 => v_D_readOneLine_4 (br_f (by decide) ?_)) (fun s hs μ2 hk2 h2 => v_D_readOneLine_4 (br_t rfl (k2 1 s (Or.inl hs) μ2 (kr_fD.kp hk2 kr_fDF) h2))))
  obtain ⟨n1, n2, n3⟩ := kt_nx_r hp hs
  obtain ⟨t1, t2, t3, t4⟩ := h2
  have f2 := kr_fD.kp hk2 kr_fDT
  have hT2 := hT.fD f2
  have hR2 := hR.kp hk2
  have hkb : kt_k n b s ≤ 4 := by unfold kt_k; split; omega; split; omega; split; omega; split <;> omega
  rw [t1, kr_eq0 (by omega)]
  refine ⟨fun ck => ?_, fun ck => k0 s hs ck μ2 f2 hR2⟩
  have key : ∀ j, j < 7 → kt_is n b s j = true → kt_e n b s ≤ n := by
    intro j hj h
    obtain ⟨q1, -, -, -⟩ := kt_is_1 hj n3 h
    exact (kt_e_1 (Or.inl q1)).2.2
  -- what is read of the line
  have out : ∀ (x : kp_L) (W : kr_K) (m : Nat) (ls : kr_L), kp_ln n b s E = x → (∀ (μ3 : kr_M) (r : Int32), (((r = 0 → (r = 0 ∨ r = 1) ∧ Q (some (.int r)) μ3) ∧ (¬ (r = 0) → (r = 0 ∨ r = 1) ∧ Q (some (.int r)) (kr_u μ3 13 2 ((μ3.1 13 2) + (1 : Int32)))))) → W m ls [.int r] μ3) → kr_out (kr_bk W m ls []) μ2 n b x := by
    intro x W m ls hx hW
    refine ⟨fun p' D' e μ3 hf h => hW μ3 1 (br_f (by decide) ⟨Or.inr rfl, ?_⟩), fun c w e μ3 hf h => hW μ3 0 (br_t rfl ⟨Or.inl rfl, k2 c w (Or.inr ⟨s, hs, ck, hx.trans e⟩) μ3 (f2.tr hf) h⟩)⟩
    refine k1 s p' D' hs ck (hx.trans e) _ ⟨fun o ho => by rw [kr_u_n _ _ _ (by omega)]; exact (f2.tr hf).1 o ho, (f2.tr hf).2.1⟩ ?_ ⟨h.1, h.2.1, ?_⟩
    · rw [kr_u_s, kr_upd_s, (f2.tr hf).2.2]
    · obtain ⟨r1, r2, r3, r4⟩ := h.2.2
      exact ⟨r1.mem (fun a h1 h2 => kr_u_n _ _ _ (by omega)) rfl, r2, r3, r4⟩
  refine c_D_nameIs (d := d + 2) (j := 0) hT2 hw n2 n3 (by decide) t2 t3 (v_D_readOneLine_22 ?_)
  by_cases c0 : kt_is n b s 0 = true
  · rw [if_pos c0]
    have hx : kp_ln n b s E = kp_points n b s E := by unfold kp_ln; rw [if_pos c0]
    exact br_f (by decide) (c_D_readPoints (d := d + 3) hT2 hw (key 0 (by decide) c0) t2 t3 hR2 (out _ _ _ _ hx (fun μ3 r h => v_D_readOneLine_29 h)))
  rw [if_neg c0]
  refine br_t rfl ?_
  refine c_D_nameIs (d := d + 2) (j := 1) hT2 hw n2 n3 (by decide) t2 t3 (v_D_readOneLine_39 ?_)
  by_cases c1 : kt_is n b s 1 = true
  · rw [if_pos c1]
    have hx : kp_ln n b s E = kp_house n b s E := by unfold kp_ln; rw [if_neg c0, if_pos c1]
    exact br_f (by decide) (c_D_readHouse (d := d + 3) hT2 hw (key 1 (by decide) c1) t3 hR2 (out _ _ _ _ hx (fun μ3 r h => v_D_readOneLine_46 h)))
  rw [if_neg c1]
  refine br_t rfl ?_
  refine c_D_nameIs (d := d + 2) (j := 2) hT2 hw n2 n3 (by decide) t2 t3 (v_D_readOneLine_56 ?_)
  by_cases c2 : kt_is n b s 2 = true
  · rw [if_pos c2]
    have hx : kp_ln n b s E = kp_line n b s E := by unfold kp_ln; rw [if_neg c0, if_neg c1, if_pos c2]
    exact br_f (by decide) (c_D_readLine (d := d + 0) hT2 hw (key 2 (by decide) c2) t2 t3 hR2 (out _ _ _ _ hx (fun μ3 r h => v_D_readOneLine_63 h)))
  rw [if_neg c2]
  refine br_t rfl ?_
  refine c_D_nameIs (d := d + 2) (j := 3) hT2 hw n2 n3 (by decide) t2 t3 (v_D_readOneLine_73 ?_)
  by_cases c3 : kt_is n b s 3 = true
  · rw [if_pos c3]
    have hx : kp_ln n b s E = kp_drawer n b s E := by unfold kp_ln; rw [if_neg c0, if_neg c1, if_neg c2, if_pos c3]
    exact br_f (by decide) (c_D_readDrawer (d := d + 3) hT2 hw (key 3 (by decide) c3) t2 t3 hR2 (out _ _ _ _ hx (fun μ3 r h => v_D_readOneLine_80 h)))
  rw [if_neg c3]
  refine br_t rfl ?_
  refine c_D_nameIs (d := d + 2) (j := 4) hT2 hw n2 n3 (by decide) t2 t3 (v_D_readOneLine_90 ?_)
  by_cases c4 : kt_is n b s 4 = true
  · rw [if_pos c4]
    have hx : kp_ln n b s E = kp_one n b s E := by unfold kp_ln; rw [if_neg c0, if_neg c1, if_neg c2, if_neg c3, if_pos c4]
    exact br_f (by decide) (c_D_readOne (d := d + 3) hT2 hw (key 4 (by decide) c4) t2 t3 hR2 (out _ _ _ _ hx (fun μ3 r h => v_D_readOneLine_97 h)))
  rw [if_neg c4]
  refine br_t rfl ?_
  refine c_D_nameIs (d := d + 2) (j := 5) hT2 hw n2 n3 (by decide) t2 t3 (v_D_readOneLine_107 ?_)
  by_cases c5 : kt_is n b s 5 = true
  · rw [if_pos c5]
    have hx : kp_ln n b s E = kp_rain n b s E := by unfold kp_ln; rw [if_neg c0, if_neg c1, if_neg c2, if_neg c3, if_neg c4, if_pos c5]
    exact br_f (by decide) (c_D_readRain (d := d + 3) hT2 hw (key 5 (by decide) c5) t3 hR2 (out _ _ _ _ hx (fun μ3 r h => v_D_readOneLine_114 h)))
  rw [if_neg c5]
  refine br_t rfl ?_
  rw [t2]
  refine v_D_fail (d := d + 6) (v_D_readOneLine_127 (br_t rfl ⟨Or.inl rfl, ?_⟩))
  refine k2 2 s (Or.inr ⟨s, hs, ck, by unfold kp_ln; rw [if_neg c0, if_neg c1, if_neg c2, if_neg c3, if_neg c4, if_neg c5]⟩) _ ((f2.u _ (by omega)).u _ (by omega)) ⟨rfl, rfl⟩
theorem kp_mx {a c : Nat} (ha : a < 2 ^ 31) (hc : c < 2 ^ 31) : (if nI a < nI c then nI c else nI a) = nI (max a c) := by
  by_cases h : a < c
  · rw [if_pos ((nI_ltI ha hc).mpr h), Nat.max_eq_right (by omega)]
  · rw [if_neg (fun z => h ((nI_ltI ha hc).mp z)), Nat.max_eq_left (by omega)]
theorem kp_h1_le (h : Nat) : ∀ i, kp_h1 h i ≤ i - 1 := by
  intro i
  induction i with
  | zero => exact Nat.le_refl _
  | succ i ih => unfold kp_h1; split <;> omega
theorem kp_h2_le (hl : ∀ l, l < g 0 → kr_gk g l 0 ≤ 8 ∧ kr_gk g l 1 ≤ 8) {x : Nat} (hx : x ≤ 8) : ∀ l, l ≤ g 0 → kp_h2 g l x ≤ 8 := by
  intro l
  induction l with
  | zero => intro _; exact hx
  | succ l ih =>
    intro h
    have := ih (by omega)
    have := hl l (by omega)
    unfold kp_h2
    omega
theorem kp_h3_le (hl : ∀ p, p < K → t (3 * p) ≤ 8 ∧ t (3 * p + 1) ≤ 8) {x : Nat} (hx : x ≤ 8) : ∀ p, p ≤ K → kp_h3 t p x ≤ 8 := by
  intro l
  induction l with
  | zero => intro _; exact hx
  | succ l ih =>
    intro h
    have := ih (by omega)
    have := hl l (by omega)
    unfold kp_h3
    omega
theorem kp_hi_le {E : kp_D} (h : kp_pw E) : kp_h1 (E.1 61) 9 ≤ 8 ∧ (∀ l, l ≤ E.1 0 → kp_h2 E.1 l (kp_h1 (E.1 61) 9) ≤ 8) ∧ ∀ p, p ≤ E.2.1.2.2 → kp_h3 E.2.2.1 p (kp_h2 E.1 (E.1 0) (kp_h1 (E.1 61) 9)) ≤ 8 := by
  have h1 := kp_h1_le (E.1 61) 9
  have h2 : ∀ l, l ≤ E.1 0 → kp_h2 E.1 l (kp_h1 (E.1 61) 9) ≤ 8 := kp_h2_le (fun l hl => by have := h.1.2.1 l hl; omega) (by omega)
  exact ⟨by omega, h2, kp_h3_le (fun p hp => by have := h.1.2.2.2.2.1 p hp; omega) (h2 _ (Nat.le_refl _))⟩
theorem c_R_highestPoint {E : kp_D} (hR : kr_Ro μ E) (k : Q (some (.int (nI (kp_hi E)))) μ) : kr_c (d + 3) i_R_highestPoint [.ref 14] μ Q := by
  obtain ⟨r1, r2, r3, r4⟩ := hR
  obtain ⟨b1, b2, b3⟩ := kp_hi_le r4
  obtain ⟨g, ⟨P, D, K⟩, t, hp⟩ := E
  have b1 : kp_h1 (g 61) 9 ≤ 8 := b1
  have b2 : ∀ l, l ≤ g 0 → kp_h2 g l (kp_h1 (g 61) 9) ≤ 8 := b2
  have b3 : ∀ p, p ≤ K → kp_h3 t p (kp_h2 g (g 0) (kp_h1 (g 61) 9)) ≤ 8 := b3
  have hwf : kr_wf g 9 D K t := r4.1
  have h61 : g 61 < 512 := hwf.2.2.1
  have hN := hwf.1.1
  have hK := hwf.1.2.2.2.2
  have e1 : μ.1 14 1 = nI (g 61) := r1.1.2.1
  have e2 : μ.1 14 2 = nI (g 0) := r1.1.2.2.1
  have e10 : μ.1 14 10 = nI K := r1.1.2.2.2.2.1
  refine v_R_highestPoint ?_
  refine kr_up (I := fun i => kr_Wp C_R_highestPoint (kr_c (d + 2)) Q 4 [some (.ref 14), some (.int (nI (kp_h1 (g 61) i))), some (.int (nI i))] [] μ) 9 ?_ ?_ 0 (Nat.zero_le _)
  · refine v_R_highestPoint_4 (br_t (Int32.le_refl _) ?_)
    refine kr_up (I := fun l => kr_Wp C_R_highestPoint (kr_c (d + 2)) Q 28 [some (.ref 14), some (.int (nI (kp_h2 g l (kp_h1 (g 61) 9)))), some (.int (nI l))] [] μ) (g 0) ?_ ?_ 0 (Nat.zero_le _)
    · refine v_R_highestPoint_28 (br_t (by rw [e2]; exact Int32.le_refl _) ?_)
      refine kr_up (I := fun p => kr_Wp C_R_highestPoint (kr_c (d + 2)) Q 64 [some (.ref 14), some (.int (nI (kp_h3 t p (kp_h2 g (g 0) (kp_h1 (g 61) 9))))), some (.int (nI p))] [] μ) K ?_ ?_ 0 (Nat.zero_le _)
      · exact v_R_highestPoint_64 (br_t (by rw [e10]; exact Int32.le_refl _) k)
      · intro p hp ih
        have v5 : vp_in (nI p) 5 := vp_in_nI (by omega) (by decide)
        refine v_R_highestPoint_64 (br_f (by rw [e10]; exact nI_ge hp (by omega)) ⟨v5, v5, ?_⟩)
        have hh := r1.2.2.2.2.1 p hp
        have q0 : μ.1 20 p = nI (t (3 * p)) := hh.1
        have q1 : μ.1 21 p = nI (t (3 * p + 1)) := hh.2.1
        have w := hwf.2.2.2.2.1 p hp
        have := b3 p (by omega)
        rw [nI_clamp (by omega), q0, q1, kp_mx (by omega) (by omega), kp_mx (by omega) (by omega), kr_n1]
        exact ih
    · intro l hl ih
      have v5 : vp_in (nI l) 12 := vp_in_nI (by omega) (by decide)
      refine v_R_highestPoint_28 (br_f (by rw [e2]; exact nI_ge hl (by omega)) ⟨v5, v5, ?_⟩)
      have hh := r1.2.1 l hl
      have q0 : μ.1 15 l = nI (kr_gk g l 0) := hh.1
      have q1 : μ.1 16 l = nI (kr_gk g l 1) := hh.2.1
      have w := hwf.2.1 l hl
      have := b2 l (by omega)
      rw [nI_clamp (by omega), q0, q1, kp_mx (by omega) (by omega), kp_mx (by omega) (by omega), kr_n1]
      exact ih
  · intro i hi ih
    have e : kp_h1 (g 61) (i + 1) = if (g 61).testBit i = true then i else kp_h1 (g 61) i := rfl
    refine v_R_highestPoint_4 (br_f (nI_ge (b := 9) hi (by decide)) ?_)
    rw [e1, kr_bit0 (by omega) (by omega), kr_n1]
    refine ⟨fun c => ?_, fun c => ?_⟩
    · rw [e, if_neg (by simpa using c)] at ih; exact ih
    · rw [e, if_pos (by simpa using c)] at ih; exact ih
def kp_D0 : kp_D := (fun _ => 0, (5, 0, 0), fun _ => 0, false)
theorem kp_D0_pw : kp_pw kp_D0 := ⟨⟨by decide, fun l hl => absurd hl (Nat.not_lt_zero l), by decide, fun d hd => absurd hd (Nat.not_lt_zero d), fun d hd => absurd hd (Nat.not_lt_zero d), fun q _ => Nat.zero_le _, by decide, fun h hh => absurd hh (Nat.not_lt_zero h)⟩, by decide, by decide, rfl⟩
theorem c_D_readAll (hT : kr_TC μ n b) (hw : kx_tw n b) (k1 : ∀ m E, kp_tx n b 401 0 kp_D0 0 = .inr (m, E) → ∀ μ', kr_fE μ μ' → μ'.1 13 2 = nI m → kr_Ro μ' E → kp_hi E < E.2.1.1 → Q (some (.int 0)) μ') (k2 : ∀ c w, kp_tx n b 401 0 kp_D0 0 = .inl (c, w) → 1 ≤ c → c ≤ 6 → ∀ μ', kr_fE μ μ' → kr_DF μ' c w → Q (some (.int (nI c))) μ') : kr_c (d + 9) i_D_readAll [.ref 13] μ Q := by
  have h400 := hw.1
  refine v_D_readAll (v_R_clear14 (d := d + 7) (v_D_readAll_7 ?_))
  have main : ∀ F i p E m μ', F + i = 401 → n < p + F → kr_fE μ μ' → kr_DS μ' n b p E → μ'.1 13 2 = nI m → kp_tx n b F p E m = kp_tx n b 401 0 kp_D0 0 → kr_Wp C_D_readAll (kr_c (d + 8)) Q 36 [some (.ref 13), some (.int 1), some (.int (nI i))] [] μ' := by
    intro F
    induction F with
    | zero =>
      intro i p E m μ' hF hn hf hS
      have := hS.1
      omega
    | succ F ih =>
      intro i p E m μ' hF hn hf hS hm he
      refine v_D_readAll_36 (br_f (nI_nlt (a := 400) (b := i) (by omega) (by decide)) (br_f (by decide) ?_))
      have hstep : kp_tx n b (F + 1) p E m = kp_bd (kt_nx n b p) (fun s => if kt_k n b s = 0 then (if kp_hi E < E.2.1.1 then .inr (m, E) else .inl (6, n)) else kp_bd (kp_ln n b s E) (fun r => kp_tx n b F r.1 r.2 (m + 1))) := rfl
      rw [hstep] at he
      refine c_D_readOneLine (hT.fE hf) hw hS (fun s hs ck μ2 f2 hR2 => v_D_readAll_51 ?_) (fun s p' D' hs ck hl μ2 f2 h2 hS2 => v_D_readAll_51 ?_) (fun c w hc μ2 f2 hd => v_D_readAll_51 ?_)
      · -- the end
        have hf2 := hf.tr f2.E
        rw [kp_bd_r hs, if_pos ck] at he
        have fin : kr_c (d + 8) i_R_highestPoint [.ref 14] μ2 (kr_bk (kr_Wp C_D_readAll (kr_c (d + 8)) Q) 72 [some (.ref 13), some (.int 0), some (.int (nI i + 1))] []) := by
          refine c_R_highestPoint (d := d + 5) hR2 (v_D_readAll_72 ?_)
          have hb := (kp_hi_le hR2.2.2.2).2.2 _ (Nat.le_refl _)
          have hb : kp_hi E ≤ 8 := hb
          have hP9 := hR2.2.2.2.2.2.1
          have eP : μ2.1 14 0 = nI E.2.1.1 := hR2.1.1.1
          rw [eP, nI_ltI (by omega) (by omega), hR2.2.2.1]
          refine ⟨fun c => ?_, fun c => v_D_fail (d := d + 7) (v_D_readAll_95 ?_)⟩
          · rw [if_pos c] at he
            exact k1 m E he.symm μ2 hf2 (by rw [f2.2.2]; exact hm) hR2 c
          · rw [if_neg c] at he
            rw [(hT.fE hf2).1]
            exact k2 6 n he.symm (by decide) (by decide) _ ⟨fun o ho => by rw [kr_u_n _ _ _ (by omega), kr_u_n _ _ _ (by omega)]; exact hf2.1 o ho, hf2.2⟩ ⟨rfl, rfl⟩
        have ex := br_f (A := Q (some (.int (μ2.1 13 3))) μ2) (Decidable.not_not.mpr hR2.2.2.1) fin
        have ex2 : (¬ μ2.1 13 3 = 0 → Q (some (.int (μ2.1 13 3))) μ2) ∧ (μ2.1 13 3 = 0 → kr_c (d + 8) i_R_highestPoint [.ref 14] μ2 (kr_bk (kr_Wp C_D_readAll (kr_c (d + 8)) Q) 72 [some (.ref 13), some (.int 0), some (.int (nI i + 1))] [])) := ⟨fun z => absurd hR2.2.2.1 z, fun _ => fin⟩
        exact v_D_readAll_36 ⟨fun _ => ex2, fun _ => ⟨fun _ => ex2, fun z => absurd rfl z⟩⟩
      · -- one line more
        rw [kp_bd_r hs, if_neg ck, kp_bd_r hl] at he
        obtain ⟨n1, n2, n3⟩ := kt_nx_r hS.1 hs
        have hgt := kp_ln_gt n2 n3 p' D' hl
        rw [kr_n1]
        exact ih (i + 1) p' D' (m + 1) μ2 (by omega) (by omega) (hf.tr f2) hS2 (by rw [h2, hm, kr_n1]) he
      · -- a fault
        have hf2 := hf.tr f2.E
        have hc16 : 1 ≤ c ∧ c ≤ 6 := by
          rcases hc with hc | ⟨s, hs, ck, hl⟩
          · exact kp_oc_nx c w hc
          · exact kp_oc_ln c w hl
        have he2 : kp_tx n b 401 0 kp_D0 0 = .inl (c, w) := by
          rw [← he]
          rcases hc with hc | ⟨s, hs, ck, hl⟩
          · exact kp_bd_l hc
          · rw [kp_bd_r hs, if_neg ck]; exact kp_bd_l hl
        have q := k2 c w he2 hc16.1 hc16.2 μ2 hf2 hd
        rw [← hd.1] at q
        have ne : ¬ μ2.1 13 3 = 0 := by rw [hd.1, kr_eq0 (by omega)]; omega
        have ex2 : (¬ μ2.1 13 3 = 0 → Q (some (.int (μ2.1 13 3))) μ2) ∧ (μ2.1 13 3 = 0 → kr_c (d + 8) i_R_highestPoint [.ref 14] μ2 (kr_bk (kr_Wp C_D_readAll (kr_c (d + 8)) Q) 72 [some (.ref 13), some (.int 0), some (.int (nI i + 1))] [])) := ⟨fun _ => q, fun z => absurd z ne⟩
        exact v_D_readAll_36 ⟨fun _ => ex2, fun _ => ⟨fun _ => ex2, fun z => absurd rfl z⟩⟩
  refine main 401 0 0 kp_D0 0 _ (by omega) (by omega) ⟨fun o ho => ?_, fun o ho => ?_⟩ ⟨Nat.zero_le _, rfl, ⟨⟨rfl, rfl, rfl, rfl, rfl, rfl⟩, fun l hl => absurd hl (Nat.not_lt_zero l), rfl, fun l hl => absurd hl (Nat.not_lt_zero l), fun l hl => absurd hl (Nat.not_lt_zero l), ?_, fun l hl => absurd hl (Nat.not_lt_zero l), 0, by decide, rfl, fun l hl => absurd hl (Nat.not_lt_zero l)⟩, rfl, rfl, kp_D0_pw⟩ rfl rfl
  · simp only [kr_u_n _ _ _ (show o ≠ 13 by omega), kr_u_n _ _ _ (show o ≠ 14 by omega), kr_uL_1]
  · show (if o = 14 then _ else μ.2 o) = _
    rw [if_neg ho]
  · show (if 14 = 14 then (0 : Int64) else μ.2 14) = _
    rw [if_pos rfl]
    decide
theorem kp_h1_ge {h : Nat} : ∀ i j, j < i → h.testBit j = true → j ≤ kp_h1 h i := by
  intro i
  induction i with
  | zero => intro j hj; omega
  | succ i ih =>
    intro j hj hb
    unfold kp_h1
    by_cases e : j = i
    · rw [e] at hb
      rw [if_pos hb]; omega
    · have := ih j (by omega) hb
      split <;> omega
theorem kp_h2_ge {x : Nat} : ∀ l, x ≤ kp_h2 g l x ∧ ∀ j, j < l → kr_gk g j 0 ≤ kp_h2 g l x ∧ kr_gk g j 1 ≤ kp_h2 g l x := by
  intro l
  induction l with
  | zero => exact ⟨Nat.le_refl _, fun j hj => absurd hj (Nat.not_lt_zero j)⟩
  | succ l ih =>
    unfold kp_h2
    refine ⟨by have := ih.1; omega, fun j hj => ?_⟩
    by_cases e : j = l
    · rw [e]; omega
    · have := ih.2 j (by omega)
      omega
theorem kp_h3_ge {x : Nat} : ∀ l, x ≤ kp_h3 t l x ∧ ∀ j, j < l → t (3 * j) ≤ kp_h3 t l x ∧ t (3 * j + 1) ≤ kp_h3 t l x := by
  intro l
  induction l with
  | zero => exact ⟨Nat.le_refl _, fun j hj => absurd hj (Nat.not_lt_zero j)⟩
  | succ l ih =>
    unfold kp_h3
    refine ⟨by have := ih.1; omega, fun j hj => ?_⟩
    by_cases e : j = l
    · rw [e]; omega
    · have := ih.2 j (by omega)
      omega
/-- what is taken is as it may be -/
theorem kp_wf {E : kp_D} (h : kp_pw E) (hh : kp_hi E < E.2.1.1) : kr_wf E.1 E.2.1.1 E.2.1.2.1 E.2.1.2.2 E.2.2.1 := by
  obtain ⟨g, ⟨P, D, K⟩, t, hp⟩ := E
  obtain ⟨⟨⟨a1, a2, a3, a4, a5⟩, bb, c, dd, e, f, i, j⟩, q1, q2, q3⟩ := h
  have hh : kp_h3 t K (kp_h2 g (g 0) (kp_h1 (g 61) 9)) < P := hh
  have g3 := kp_h3_ge (t := t) (x := kp_h2 g (g 0) (kp_h1 (g 61) 9)) K
  have g2 := kp_h2_ge (g := g) (x := kp_h1 (g 61) 9) (g 0)
  refine ⟨⟨a1, q1, q2, a4, a5⟩, fun l hl => ?_, ?_, dd, fun p hp => ?_, f, i, j⟩
  · have := g2.2 l hl
    have w := bb l hl
    have := g3.1
    exact ⟨by show kr_gk g l 0 < P; omega, by show kr_gk g l 1 < P; omega, w.2.2⟩
  · apply Nat.lt_pow_two_of_testBit
    intro i hi
    have c : g 61 < 2 ^ 9 := c
    cases hb : (g 61).testBit i
    · rfl
    · have hi9 : i < 9 := by
        apply Decidable.byContradiction
        intro z
        rw [Nat.testBit_lt_two_pow (Nat.lt_of_lt_of_le c (Nat.pow_le_pow_right (n := 2) (by decide) (by omega)))] at hb
        cases hb
      have := kp_h1_ge 9 i hi9 hb
      have := g2.1
      have := g3.1
      have hi : P ≤ i := hi
      omega
  · have := g3.2 p hp
    have := e p hp
    exact ⟨by show t (3 * p) < P; omega, by show t (3 * p + 1) < P; omega, this.2.2.1, this.2.2.2⟩
theorem c_C_text (hT : kr_TC μ n b) (hw : kx_tw n b) (k1 : ∀ m E, kp_tx n b 401 0 kp_D0 0 = .inr (m, E) → kr_wf E.1 E.2.1.1 E.2.1.2.1 E.2.1.2.2 E.2.2.1 → ∀ μ', (∀ o, 24 ≤ o → μ'.1 o = μ.1 o) → (∀ k, k ≠ 10 → μ'.1 0 k = μ.1 0 k) → kr_Rg μ' 1 E.1 E.2.1.1 E.2.1.2.1 E.2.1.2.2 E.2.2.1 → kr_TC μ' 0 b → μ'.1 0 10 = nI 0 → μ'.1 13 3 = nI 0 → Q (some (.int (nI m))) μ') (k2 : ∀ c w, kp_tx n b 401 0 kp_D0 0 = .inl (c, w) → 1 ≤ c → c ≤ 6 → ∀ μ', (∀ o, (o ≤ 10 ∨ 24 ≤ o) → μ'.1 o = μ.1 o) → (∀ o, o ≠ 14 → μ'.2 o = μ.2 o) → kr_TC μ' 0 b → μ'.1 13 3 = nI c → Q (some (.int (-10 - nI w))) μ') : kr_c (d + 10) i_C_text [.ref 0] μ Q := by
  have h400 := hw.1
  have cut0 : ∀ μ', kr_TC μ' n b → ∀ Q' : kr_Q, (∀ v μ'', kr_keep [11, 12] [] μ' μ'' → kr_TC μ'' 0 b → Q' (some (.int v)) μ'') → kr_c (d + 9) i_T_cut [.ref 11, .int 0] μ' Q' := by
    intro μ' hT' Q' h
    refine c_T_cut (d := d + 8) (x := 0) hw hT' (fun μ'' hk ht => h _ μ'' hk ?_)
    have e : pz_end n b 0 = (nI n, (0, b)) := if_pos ⟨Int32.le_refl _, nI_pos' (by omega)⟩
    rw [e] at ht
    exact ht
  refine v_C_text (c_D_readAll hT hw (fun m E he μ2 hf hm hR hh => v_C_text_7 (cut0 μ2 (hT.fE hf) _ (fun v μ3 hk ht => v_C_text_16 (br_t rfl ?_)))) (fun c w he h1 h6 μ2 hf hd => v_C_text_7 (cut0 μ2 (hT.fE hf) _ (fun v μ3 hk ht => v_C_text_16 (br_f (by rw [kr_eq0 (by omega)]; omega) ?_)))))
  · have hwf := kp_wf hR.2.2.2 hh
    have r1 := hR.1.mem (μ' := μ3) (fun a h1 h2 => hk.row (by simp; omega) (fun q hq => by cases hq)) (by rw [hk.1])
    have e13 : μ3.1 13 = μ2.1 13 := hk.row (by decide) (fun q hq => by cases hq)
    refine c_R_copyOf_1_14 (d := d + 8) hwf r1 (fun μ4 hf4 hr4 => v_C_text_46 ?_)
    have e134 : μ4.1 13 = μ3.1 13 := hf4.1 13 (by omega)
    rw [e134, e13, hm]
    refine k1 m E he hwf _ (fun o ho => ?_) (fun k hk2 => ?_) (hr4.mem (fun a h1 h2 => kr_u_n _ _ _ (by omega)) rfl) ⟨?_, fun j hj => absurd hj (Nat.not_lt_zero j)⟩ rfl ?_
    · rw [kr_u_n _ _ _ (by omega), hf4.1 o (by omega), hk.row (by simp; omega) (fun q hq => by cases hq)]; exact hf.1 o (by omega)
    · rw [kr_u_s, kr_upd_n _ _ hk2, hf4.1 0 (by omega), hk.row (by decide) (fun q hq => by cases hq), hf.1 0 (by omega)]
    · rw [kr_u_n _ _ _ (by decide), hf4.1 11 (by omega)]; exact ht.1
    · rw [kr_u_n _ _ _ (by decide), e134, e13]; exact hR.2.2.1
  · have e13 : μ3.1 13 = μ2.1 13 := hk.row (by decide) (fun q hq => by cases hq)
    rw [e13, hd.2]
    refine k2 c w he h1 h6 μ3 (fun o ho => ?_) (fun o ho => by rw [hk.1]; exact hf.2 o ho) ht (by rw [e13]; exact hd.1)
    rw [hk.row (by simp; omega) (fun q hq => by cases hq)]; exact hf.1 o (by omega)
end
