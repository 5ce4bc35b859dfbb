/-! what a run answers -/
theorem st_J6_bitCount {d : Nat} {Q : kr_Q} {pc : Nat} {ls : kr_L} {st : List Value} {μ : kr_M} (h : C_J6_bitCount pc (kr_Wp C_J6_bitCount (kr_c d) Q) (kr_c d) Q ls st μ) : kr_Wp C_J6_bitCount (kr_c d) Q pc ls st μ := kr_Wp.step (fun pc => (kr_ok_J6_bitCount pc).2) (kr_c_om d) h
theorem v_J6_bitCount {d : Nat} {Q : kr_Q} {μ : kr_M} {a1 : Int32} (h : Q (some (.int ((((((((a1 - (((a1.toUInt32 >>> ((1 : Int32).toUInt32 &&& Int32.toUInt32 31)).toInt32) &&& (1431655765 : Int32))) &&& (858993459 : Int32)) + ((((a1 - (((a1.toUInt32 >>> ((1 : Int32).toUInt32 &&& Int32.toUInt32 31)).toInt32) &&& (1431655765 : Int32))).toUInt32 >>> ((2 : Int32).toUInt32 &&& Int32.toUInt32 31)).toInt32) &&& (858993459 : Int32))) + (((((a1 - (((a1.toUInt32 >>> ((1 : Int32).toUInt32 &&& Int32.toUInt32 31)).toInt32) &&& (1431655765 : Int32))) &&& (858993459 : Int32)) + ((((a1 - (((a1.toUInt32 >>> ((1 : Int32).toUInt32 &&& Int32.toUInt32 31)).toInt32) &&& (1431655765 : Int32))).toUInt32 >>> ((2 : Int32).toUInt32 &&& Int32.toUInt32 31)).toInt32) &&& (858993459 : Int32))).toUInt32 >>> ((4 : Int32).toUInt32 &&& Int32.toUInt32 31)).toInt32)) &&& (252645135 : Int32)) + (((((((a1 - (((a1.toUInt32 >>> ((1 : Int32).toUInt32 &&& Int32.toUInt32 31)).toInt32) &&& (1431655765 : Int32))) &&& (858993459 : Int32)) + ((((a1 - (((a1.toUInt32 >>> ((1 : Int32).toUInt32 &&& Int32.toUInt32 31)).toInt32) &&& (1431655765 : Int32))).toUInt32 >>> ((2 : Int32).toUInt32 &&& Int32.toUInt32 31)).toInt32) &&& (858993459 : Int32))) + (((((a1 - (((a1.toUInt32 >>> ((1 : Int32).toUInt32 &&& Int32.toUInt32 31)).toInt32) &&& (1431655765 : Int32))) &&& (858993459 : Int32)) + ((((a1 - (((a1.toUInt32 >>> ((1 : Int32).toUInt32 &&& Int32.toUInt32 31)).toInt32) &&& (1431655765 : Int32))).toUInt32 >>> ((2 : Int32).toUInt32 &&& Int32.toUInt32 31)).toInt32) &&& (858993459 : Int32))).toUInt32 >>> ((4 : Int32).toUInt32 &&& Int32.toUInt32 31)).toInt32)) &&& (252645135 : Int32)).toUInt32 >>> ((8 : Int32).toUInt32 &&& Int32.toUInt32 31)).toInt32)) + ((((((((a1 - (((a1.toUInt32 >>> ((1 : Int32).toUInt32 &&& Int32.toUInt32 31)).toInt32) &&& (1431655765 : Int32))) &&& (858993459 : Int32)) + ((((a1 - (((a1.toUInt32 >>> ((1 : Int32).toUInt32 &&& Int32.toUInt32 31)).toInt32) &&& (1431655765 : Int32))).toUInt32 >>> ((2 : Int32).toUInt32 &&& Int32.toUInt32 31)).toInt32) &&& (858993459 : Int32))) + (((((a1 - (((a1.toUInt32 >>> ((1 : Int32).toUInt32 &&& Int32.toUInt32 31)).toInt32) &&& (1431655765 : Int32))) &&& (858993459 : Int32)) + ((((a1 - (((a1.toUInt32 >>> ((1 : Int32).toUInt32 &&& Int32.toUInt32 31)).toInt32) &&& (1431655765 : Int32))).toUInt32 >>> ((2 : Int32).toUInt32 &&& Int32.toUInt32 31)).toInt32) &&& (858993459 : Int32))).toUInt32 >>> ((4 : Int32).toUInt32 &&& Int32.toUInt32 31)).toInt32)) &&& (252645135 : Int32)) + (((((((a1 - (((a1.toUInt32 >>> ((1 : Int32).toUInt32 &&& Int32.toUInt32 31)).toInt32) &&& (1431655765 : Int32))) &&& (858993459 : Int32)) + ((((a1 - (((a1.toUInt32 >>> ((1 : Int32).toUInt32 &&& Int32.toUInt32 31)).toInt32) &&& (1431655765 : Int32))).toUInt32 >>> ((2 : Int32).toUInt32 &&& Int32.toUInt32 31)).toInt32) &&& (858993459 : Int32))) + (((((a1 - (((a1.toUInt32 >>> ((1 : Int32).toUInt32 &&& Int32.toUInt32 31)).toInt32) &&& (1431655765 : Int32))) &&& (858993459 : Int32)) + ((((a1 - (((a1.toUInt32 >>> ((1 : Int32).toUInt32 &&& Int32.toUInt32 31)).toInt32) &&& (1431655765 : Int32))).toUInt32 >>> ((2 : Int32).toUInt32 &&& Int32.toUInt32 31)).toInt32) &&& (858993459 : Int32))).toUInt32 >>> ((4 : Int32).toUInt32 &&& Int32.toUInt32 31)).toInt32)) &&& (252645135 : Int32)).toUInt32 >>> ((8 : Int32).toUInt32 &&& Int32.toUInt32 31)).toInt32)).toUInt32 >>> ((16 : Int32).toUInt32 &&& Int32.toUInt32 31)).toInt32)) &&& (63 : Int32)))) μ) : kr_c (d + 1) i_J6_bitCount [.int a1] μ Q := ⟨rfl, (st_J6_bitCount (st_J6_bitCount (st_J6_bitCount (st_J6_bitCount (st_J6_bitCount (st_J6_bitCount (st_J6_bitCount (st_J6_bitCount (st_J6_bitCount (st_J6_bitCount (st_J6_bitCount (st_J6_bitCount (st_J6_bitCount (st_J6_bitCount (st_J6_bitCount (st_J6_bitCount (st_J6_bitCount (st_J6_bitCount (st_J6_bitCount (st_J6_bitCount (st_J6_bitCount (st_J6_bitCount (st_J6_bitCount (st_J6_bitCount (st_J6_bitCount (st_J6_bitCount (st_J6_bitCount (st_J6_bitCount (st_J6_bitCount (st_J6_bitCount (st_J6_bitCount (st_J6_bitCount (st_J6_bitCount (st_J6_bitCount (st_J6_bitCount (st_J6_bitCount (st_J6_bitCount (st_J6_bitCount (st_J6_bitCount (st_J6_bitCount (st_J6_bitCount (st_J6_bitCount h))))))))))))))))))))))))))))))))))))))))))⟩
theorem st_M_bitsOf {d : Nat} {Q : kr_Q} {pc : Nat} {ls : kr_L} {st : List Value} {μ : kr_M} (h : C_M_bitsOf pc (kr_Wp C_M_bitsOf (kr_c d) Q) (kr_c d) Q ls st μ) : kr_Wp C_M_bitsOf (kr_c d) Q pc ls st μ := kr_Wp.step (fun pc => (kr_ok_M_bitsOf pc).2) (kr_c_om d) h
theorem v_M_bitsOf {d : Nat} {Q : kr_Q} {μ : kr_M} {a1 : Int32} (h : kr_Wp C_M_bitsOf (kr_c d) Q 4 [some (.int a1), some (.int 0), some (.int 0)] [] μ) : kr_c (d + 1) i_M_bitsOf [.int a1] μ Q := ⟨rfl, (st_M_bitsOf (st_M_bitsOf (st_M_bitsOf (st_M_bitsOf h))))⟩
theorem v_M_bitsOf_4 {d : Nat} {Q : kr_Q} {μ : kr_M} {a1 : Int32} {a2 : Int32} {a3 : Int32} (h : (((12 : Int32) ≤ a3 → Q (some (.int a2)) μ) ∧ (¬ ((12 : Int32) ≤ a3) → kr_Wp C_M_bitsOf (kr_c d) Q 4 [some (.int a1), some (.int (a2 + ((a1 >>> (a3 &&& 31)) &&& (1 : Int32)))), some (.int (a3 + 1))] [] μ))) : kr_Wp C_M_bitsOf (kr_c d) Q 4 [some (.int a1), some (.int a2), some (.int a3)] [] μ := (st_M_bitsOf (st_M_bitsOf (st_M_bitsOf (And.intro (fun z1x => (st_M_bitsOf (st_M_bitsOf (h.1 z1x)))) (fun z1x => (st_M_bitsOf (st_M_bitsOf (st_M_bitsOf (st_M_bitsOf (st_M_bitsOf (st_M_bitsOf (st_M_bitsOf (st_M_bitsOf (st_M_bitsOf (st_M_bitsOf (h.2 z1x))))))))))))))))
theorem st_K_whoIsLost {d : Nat} {Q : kr_Q} {pc : Nat} {ls : kr_L} {st : List Value} {μ : kr_M} (h : C_K_whoIsLost pc (kr_Wp C_K_whoIsLost (kr_c d) Q) (kr_c d) Q ls st μ) : kr_Wp C_K_whoIsLost (kr_c d) Q pc ls st μ := kr_Wp.step (fun pc => (kr_ok_K_whoIsLost pc).2) (kr_c_om d) h
theorem v_K_whoIsLost {d : Nat} {Q : kr_Q} {μ : kr_M}  (h : kr_Wp C_K_whoIsLost (kr_c d) Q 4 [some (.ref 27), some (.int 0), some (.int 0)] [] μ) : kr_c (d + 1) i_K_whoIsLost [.ref 27] μ Q := ⟨rfl, (st_K_whoIsLost (st_K_whoIsLost (st_K_whoIsLost (st_K_whoIsLost h))))⟩
theorem v_K_whoIsLost_4 {d : Nat} {Q : kr_Q} {μ : kr_M} {a1 : Int32} {a2 : Int32} (h : (((μ.1 1 10) ≤ a2 → Q (some (.int a1)) μ) ∧ (¬ ((μ.1 1 10) ≤ a2) → vp_in a2 5 ∧ ((¬ (μ.1 29 a2.toNatClampNeg) = (-4) → kr_Wp C_K_whoIsLost (kr_c d) Q 4 [some (.ref 27), some (.int a1), some (.int (a2 + 1))] [] μ) ∧ ((μ.1 29 a2.toNatClampNeg) = (-4) → kr_Wp C_K_whoIsLost (kr_c d) Q 4 [some (.ref 27), some (.int (a1 ||| ((1 : Int32) <<< (a2 &&& 31)))), some (.int (a2 + 1))] [] μ))))) : kr_Wp C_K_whoIsLost (kr_c d) Q 4 [some (.ref 27), some (.int a1), some (.int a2)] [] μ := (st_K_whoIsLost (st_K_whoIsLost (st_K_whoIsLost (And.intro rfl (st_K_whoIsLost (And.intro rfl (st_K_whoIsLost (And.intro (fun z1x => (st_K_whoIsLost (st_K_whoIsLost (h.1 z1x)))) (fun z1x => (st_K_whoIsLost (st_K_whoIsLost (And.intro rfl (st_K_whoIsLost (st_K_whoIsLost (And.intro ⟨5, rfl, (h.2 z1x).1⟩ (st_K_whoIsLost (st_K_whoIsLost (And.intro (fun z2x => (st_K_whoIsLost (st_K_whoIsLost ((h.2 z1x).2.1 z2x)))) (fun z2x => (st_K_whoIsLost (st_K_whoIsLost (st_K_whoIsLost (st_K_whoIsLost (st_K_whoIsLost (st_K_whoIsLost (st_K_whoIsLost (st_K_whoIsLost ((h.2 z1x).2.2 (Decidable.not_not.mp z2x)))))))))))))))))))))))))))))
theorem st_K_whoIsInTheOpen {d : Nat} {Q : kr_Q} {pc : Nat} {ls : kr_L} {st : List Value} {μ : kr_M} (h : C_K_whoIsInTheOpen pc (kr_Wp C_K_whoIsInTheOpen (kr_c d) Q) (kr_c d) Q ls st μ) : kr_Wp C_K_whoIsInTheOpen (kr_c d) Q pc ls st μ := kr_Wp.step (fun pc => (kr_ok_K_whoIsInTheOpen pc).2) (kr_c_om d) h
theorem v_K_whoIsInTheOpen {d : Nat} {Q : kr_Q} {μ : kr_M}  (h : kr_Wp C_K_whoIsInTheOpen (kr_c (d + 2)) Q 4 [some (.ref 27), some (.int 0), some (.int 0)] [] μ) : kr_c (d + 3) i_K_whoIsInTheOpen [.ref 27] μ Q := ⟨rfl, (st_K_whoIsInTheOpen (st_K_whoIsInTheOpen (st_K_whoIsInTheOpen (st_K_whoIsInTheOpen h))))⟩
theorem v_K_whoIsInTheOpen_4 {d : Nat} {Q : kr_Q} {μ : kr_M} {a1 : Int32} {a2 : Int32} (h : (((μ.1 1 10) ≤ a2 → Q (some (.int a1)) μ) ∧ (¬ ((μ.1 1 10) ≤ a2) → vp_in a2 5 ∧ (((μ.1 29 a2.toNatClampNeg) < 100 → kr_Wp C_K_whoIsInTheOpen (kr_c (d + 2)) Q 4 [some (.ref 27), some (.int a1), some (.int (a2 + 1))] [] μ) ∧ (¬ ((μ.1 29 a2.toNatClampNeg) < 100) → vp_in a2 5 ∧ ((¬ ((μ.1 1 7) >>> (((μ.1 29 a2.toNatClampNeg) - (100 : Int32)) &&& 31)) &&& 1 = 0 → kr_Wp C_K_whoIsInTheOpen (kr_c (d + 2)) Q 4 [some (.ref 27), some (.int a1), some (.int (a2 + 1))] [] μ) ∧ (¬ (¬ ((μ.1 1 7) >>> (((μ.1 29 a2.toNatClampNeg) - (100 : Int32)) &&& 31)) &&& 1 = 0) → kr_Wp C_K_whoIsInTheOpen (kr_c (d + 2)) Q 4 [some (.ref 27), some (.int (a1 ||| ((1 : Int32) <<< (a2 &&& 31)))), some (.int (a2 + 1))] [] μ))))))) : kr_Wp C_K_whoIsInTheOpen (kr_c (d + 2)) Q 4 [some (.ref 27), some (.int a1), some (.int a2)] [] μ := (st_K_whoIsInTheOpen (st_K_whoIsInTheOpen (st_K_whoIsInTheOpen (And.intro rfl (st_K_whoIsInTheOpen (And.intro rfl (st_K_whoIsInTheOpen (And.intro (fun z1x => (st_K_whoIsInTheOpen (st_K_whoIsInTheOpen (h.1 z1x)))) (fun z1x => (st_K_whoIsInTheOpen (st_K_whoIsInTheOpen (And.intro rfl (st_K_whoIsInTheOpen (st_K_whoIsInTheOpen (And.intro ⟨5, rfl, (h.2 z1x).1⟩ (st_K_whoIsInTheOpen (st_K_whoIsInTheOpen (And.intro (fun z2x => (st_K_whoIsInTheOpen (st_K_whoIsInTheOpen ((h.2 z1x).2.1 z2x)))) (fun z2x => (st_K_whoIsInTheOpen (st_K_whoIsInTheOpen (And.intro rfl (st_K_whoIsInTheOpen (st_K_whoIsInTheOpen (And.intro rfl (st_K_whoIsInTheOpen (st_K_whoIsInTheOpen (And.intro ⟨5, rfl, ((h.2 z1x).2.2 z2x).1⟩ (st_K_whoIsInTheOpen (st_K_whoIsInTheOpen (st_K_whoIsInTheOpen (And.intro rfl (v_R_hasRoof (st_K_whoIsInTheOpen (And.intro (fun z3x => (st_K_whoIsInTheOpen (st_K_whoIsInTheOpen (((h.2 z1x).2.2 z2x).2.1 (kr_b1 z3x))))) (fun z3x => (st_K_whoIsInTheOpen (st_K_whoIsInTheOpen (st_K_whoIsInTheOpen (st_K_whoIsInTheOpen (st_K_whoIsInTheOpen (st_K_whoIsInTheOpen (st_K_whoIsInTheOpen (st_K_whoIsInTheOpen (((h.2 z1x).2.2 z2x).2.2 (kr_b2 z3x))))))))))))))))))))))))))))))))))))))))))))))
theorem st_M_storm {d : Nat} {Q : kr_Q} {pc : Nat} {ls : kr_L} {st : List Value} {μ : kr_M} (h : C_M_storm pc (kr_Wp C_M_storm (kr_c d) Q) (kr_c d) Q ls st μ) : kr_Wp C_M_storm (kr_c d) Q pc ls st μ := kr_Wp.step (fun pc => (kr_ok_M_storm pc).2) (kr_c_om d) h
theorem v_M_storm {d : Nat} {Q : kr_Q} {μ : kr_M} {a1 : Int32} (h : (((0 : Int32) ≤ a1 ∧ a1 ≤ 60 → kr_c (d + 5) i_M_runs [.ref 65, .int a1] μ (kr_bk (kr_Wp C_M_storm (kr_c (d + 5)) Q) 14 [some (.ref 65), some (.int a1), none, none] [])) ∧ (¬ ((0 : Int32) ≤ a1 ∧ a1 ≤ 60) → Q (some (.int (-1))) μ))) : kr_c (d + 6) i_M_storm [.ref 65, .int a1] μ Q := ⟨rfl, (st_M_storm (st_M_storm (c_M_isQuarter (st_M_storm (And.intro (fun z1x => (st_M_storm (st_M_storm (st_M_storm (And.intro rfl (h.1 (kr_b1 z1x))))))) (fun z1x => (st_M_storm (st_M_storm (h.2 (kr_b2 z1x))))))))))⟩
theorem v_M_storm_18 {d : Nat} {Q : kr_Q} {μ : kr_M} {a1 : Int32} {a2 : Int32} {a3 : Int32} (h : (((μ.1 65 4) ≤ a3 → Q (some (.int a2)) μ) ∧ (¬ ((μ.1 65 4) ≤ a3) → vp_in a3 5 ∧ (((μ.1 75 a3.toNatClampNeg) = (-4) → kr_Wp C_M_storm (kr_c (d + 5)) Q 18 [some (.ref 65), some (.int a1), some (.int (a2 ||| ((0 : Int32) <<< (a3 &&& 31)))), some (.int (a3 + 1))] [] μ) ∧ (¬ ((μ.1 75 a3.toNatClampNeg) = (-4)) → vp_in a3 5 ∧ vp_in (((1 : Int32) + ((5 : Int32) * (μ.1 75 a3.toNatClampNeg))) + (4 : Int32)) 375 ∧ ((¬ (μ.1 66 ((((1 : Int32) + ((5 : Int32) * (μ.1 75 a3.toNatClampNeg))) + (4 : Int32)).toNatClampNeg)) = 0 → kr_Wp C_M_storm (kr_c (d + 5)) Q 18 [some (.ref 65), some (.int a1), some (.int (a2 ||| ((0 : Int32) <<< (a3 &&& 31)))), some (.int (a3 + 1))] [] μ) ∧ ((μ.1 66 ((((1 : Int32) + ((5 : Int32) * (μ.1 75 a3.toNatClampNeg))) + (4 : Int32)).toNatClampNeg)) = 0 → kr_Wp C_M_storm (kr_c (d + 5)) Q 18 [some (.ref 65), some (.int a1), some (.int (a2 ||| ((1 : Int32) <<< (a3 &&& 31)))), some (.int (a3 + 1))] [] μ))))))) : kr_Wp C_M_storm (kr_c (d + 5)) Q 18 [some (.ref 65), some (.int a1), some (.int a2), some (.int a3)] [] μ := (st_M_storm (st_M_storm (st_M_storm (And.intro rfl (st_M_storm (And.intro (fun z1x => (st_M_storm (st_M_storm (h.1 z1x)))) (fun z1x => (st_M_storm (st_M_storm (st_M_storm (And.intro rfl (st_M_storm (st_M_storm (And.intro ⟨5, rfl, (h.2 z1x).1⟩ (st_M_storm (st_M_storm (And.intro (fun z2x => (st_M_storm (st_M_storm (c_M_flag0 (st_M_storm (st_M_storm (st_M_storm (st_M_storm (st_M_storm (st_M_storm ((h.2 z1x).2.1 z2x))))))))))) (fun z2x => (st_M_storm (st_M_storm (st_M_storm (And.intro rfl (st_M_storm (st_M_storm (And.intro ⟨5, rfl, ((h.2 z1x).2.2 z2x).1⟩ (st_M_storm (st_M_storm (And.intro rfl (c_M_of ((h.2 z1x).2.2 z2x).2.1 (st_M_storm (And.intro (fun z3x => (st_M_storm (st_M_storm (c_M_flag0 (st_M_storm (st_M_storm (st_M_storm (st_M_storm (st_M_storm (st_M_storm (((h.2 z1x).2.2 z2x).2.2.1 z3x))))))))))) (fun z3x => (st_M_storm (st_M_storm (st_M_storm (c_M_flag1 (st_M_storm (st_M_storm (st_M_storm (st_M_storm (st_M_storm (st_M_storm (((h.2 z1x).2.2 z2x).2.2.2 (Decidable.not_not.mp z3x))))))))))))))))))))))))))))))))))))))))))))
theorem v_M_storm_14 {d : Nat} {Q : kr_Q} {μ : kr_M} {a1 : Int32} (h : kr_Wp C_M_storm (kr_c (d + 5)) Q 18 [some (.ref 65), some (.int a1), some (.int 0), some (.int 0)] [] μ) : kr_Wp C_M_storm (kr_c (d + 5)) Q 14 [some (.ref 65), some (.int a1), none, none] [] μ := (st_M_storm (st_M_storm (st_M_storm (st_M_storm h))))
theorem st_C_where {d : Nat} {Q : kr_Q} {pc : Nat} {ls : kr_L} {st : List Value} {μ : kr_M} (h : C_C_where pc (kr_Wp C_C_where (kr_c d) Q) (kr_c d) Q ls st μ) : kr_Wp C_C_where (kr_c d) Q pc ls st μ := kr_Wp.step (fun pc => (kr_ok_C_where pc).2) (kr_c_om d) h
theorem v_C_where {d : Nat} {Q : kr_Q} {μ : kr_M} {a1 : Int32} {a2 : Int32} (h : ((¬ (0 ≤ a1 ∧ a1 < (μ.1 1 10)) → Q (some (.int (-1))) μ) ∧ (0 ≤ a1 ∧ a1 < (μ.1 1 10) → (((0 : Int32) ≤ a2 ∧ a2 ≤ 60 → kr_c (d + 6) i_K_run [.ref 27, .int a2, .int 0] μ (kr_bk (kr_Wp C_C_where (kr_c (d + 6)) Q) 29 [some (.ref 0), some (.int a1), some (.int a2)] [])) ∧ (¬ ((0 : Int32) ≤ a2 ∧ a2 ≤ 60) → Q (some (.int (-1))) μ))))) : kr_c (d + 7) i_C_where [.ref 0, .int a1, .int a2] μ Q := ⟨rfl, (st_C_where (st_C_where (And.intro rfl (st_C_where (st_C_where (And.intro rfl (c_R_hasOne (st_C_where (And.intro (fun z1x => (st_C_where (st_C_where (h.1 (kr_b0 z1x))))) (fun z1x => (st_C_where (st_C_where (c_C_isQuarterBehind (st_C_where (And.intro (fun z2x => (st_C_where (st_C_where (And.intro rfl (st_C_where (st_C_where (st_C_where (And.intro rfl ((h.2 (kr_b1 z1x)).1 (kr_b1 z2x)))))))))) (fun z2x => (st_C_where (st_C_where ((h.2 (kr_b1 z1x)).2 (kr_b2 z2x))))))))))))))))))))⟩
theorem v_C_where_29 {d : Nat} {Q : kr_Q} {μ : kr_M} {a1 : Int32} {a2 : Int32} (h : vp_in a1 5 ∧ Q (some (.int (μ.1 29 a1.toNatClampNeg))) μ) : kr_Wp C_C_where (kr_c (d + 6)) Q 29 [some (.ref 0), some (.int a1), some (.int a2)] [] μ := (st_C_where (st_C_where (And.intro rfl (st_C_where (And.intro rfl (st_C_where (st_C_where (And.intro ⟨5, rfl, h.1⟩ (st_C_where h.2)))))))))
theorem st_C_strength {d : Nat} {Q : kr_Q} {pc : Nat} {ls : kr_L} {st : List Value} {μ : kr_M} (h : C_C_strength pc (kr_Wp C_C_strength (kr_c d) Q) (kr_c d) Q ls st μ) : kr_Wp C_C_strength (kr_c d) Q pc ls st μ := kr_Wp.step (fun pc => (kr_ok_C_strength pc).2) (kr_c_om d) h
theorem v_C_strength {d : Nat} {Q : kr_Q} {μ : kr_M} {a1 : Int32} {a2 : Int32} (h : ((¬ (0 ≤ a1 ∧ a1 < (μ.1 1 2)) → Q (some (.int (-1))) μ) ∧ (0 ≤ a1 ∧ a1 < (μ.1 1 2) → (((0 : Int32) ≤ a2 ∧ a2 ≤ 60 → kr_c (d + 6) i_K_run [.ref 27, .int a2, .int 0] μ (kr_bk (kr_Wp C_C_strength (kr_c (d + 6)) Q) 29 [some (.ref 0), some (.int a1), some (.int a2)] [])) ∧ (¬ ((0 : Int32) ≤ a2 ∧ a2 ≤ 60) → Q (some (.int (-1))) μ))))) : kr_c (d + 7) i_C_strength [.ref 0, .int a1, .int a2] μ Q := ⟨rfl, (st_C_strength (st_C_strength (And.intro rfl (st_C_strength (st_C_strength (And.intro rfl (c_R_hasLine (st_C_strength (And.intro (fun z1x => (st_C_strength (st_C_strength (h.1 (kr_b0 z1x))))) (fun z1x => (st_C_strength (st_C_strength (c_C_isQuarterBehind (st_C_strength (And.intro (fun z2x => (st_C_strength (st_C_strength (And.intro rfl (st_C_strength (st_C_strength (st_C_strength (And.intro rfl ((h.2 (kr_b1 z1x)).1 (kr_b1 z2x)))))))))) (fun z2x => (st_C_strength (st_C_strength ((h.2 (kr_b1 z1x)).2 (kr_b2 z2x))))))))))))))))))))⟩
theorem v_C_strength_29 {d : Nat} {Q : kr_Q} {μ : kr_M} {a1 : Int32} {a2 : Int32} (h : vp_in a1 12 ∧ Q (some (.int (μ.1 28 a1.toNatClampNeg))) μ) : kr_Wp C_C_strength (kr_c (d + 6)) Q 29 [some (.ref 0), some (.int a1), some (.int a2)] [] μ := (st_C_strength (st_C_strength (And.intro rfl (st_C_strength (And.intro rfl (st_C_strength (st_C_strength (And.intro ⟨12, rfl, h.1⟩ (st_C_strength h.2)))))))))
theorem st_C_comes {d : Nat} {Q : kr_Q} {pc : Nat} {ls : kr_L} {st : List Value} {μ : kr_M} (h : C_C_comes pc (kr_Wp C_C_comes (kr_c d) Q) (kr_c d) Q ls st μ) : kr_Wp C_C_comes (kr_c d) Q pc ls st μ := kr_Wp.step (fun pc => (kr_ok_C_comes pc).2) (kr_c_om d) h
theorem v_C_comes {d : Nat} {Q : kr_Q} {μ : kr_M} {a1 : Int32} (h : ((0 ≤ a1 ∧ a1 < (μ.1 1 10) → kr_c (d + 6) i_K_run [.ref 27, .int 60, .int 0] μ (kr_bk (kr_Wp C_C_comes (kr_c (d + 6)) Q) 23 [some (.ref 0), some (.int a1)] [])) ∧ (¬ (0 ≤ a1 ∧ a1 < (μ.1 1 10)) → Q (some (.int (-1))) μ))) : kr_c (d + 7) i_C_comes [.ref 0, .int a1] μ Q := ⟨rfl, (st_C_comes (st_C_comes (And.intro rfl (st_C_comes (st_C_comes (And.intro rfl (c_R_hasOne (st_C_comes (And.intro (fun z1x => (st_C_comes (st_C_comes (And.intro rfl (st_C_comes (st_C_comes (st_C_comes (And.intro rfl (h.1 (kr_b1 z1x)))))))))) (fun z1x => (st_C_comes (st_C_comes (h.2 (kr_b2 z1x))))))))))))))⟩
theorem v_C_comes_23 {d : Nat} {Q : kr_Q} {μ : kr_M} {a1 : Int32} (h : vp_in a1 5 ∧ (((μ.1 33 a1.toNatClampNeg) ≤ 0 → Q (some (.int (-4))) μ) ∧ (¬ ((μ.1 33 a1.toNatClampNeg) ≤ 0) → vp_in a1 5 ∧ Q (some (.int (μ.1 33 a1.toNatClampNeg))) μ))) : kr_Wp C_C_comes (kr_c (d + 6)) Q 23 [some (.ref 0), some (.int a1)] [] μ := (st_C_comes (st_C_comes (And.intro rfl (st_C_comes (And.intro rfl (st_C_comes (st_C_comes (And.intro ⟨5, rfl, h.1⟩ (st_C_comes (And.intro (fun z1x => (st_C_comes (st_C_comes (h.2.1 z1x)))) (fun z1x => (st_C_comes (st_C_comes (And.intro rfl (st_C_comes (And.intro rfl (st_C_comes (st_C_comes (And.intro ⟨5, rfl, (h.2.2 z1x).1⟩ (st_C_comes (st_C_comes (h.2.2 z1x).2)))))))))))))))))))))
theorem st_C_waited {d : Nat} {Q : kr_Q} {pc : Nat} {ls : kr_L} {st : List Value} {μ : kr_M} (h : C_C_waited pc (kr_Wp C_C_waited (kr_c d) Q) (kr_c d) Q ls st μ) : kr_Wp C_C_waited (kr_c d) Q pc ls st μ := kr_Wp.step (fun pc => (kr_ok_C_waited pc).2) (kr_c_om d) h
theorem v_C_waited {d : Nat} {Q : kr_Q} {μ : kr_M} {a1 : Int32} {a2 : Int32} (h : ((¬ (0 ≤ a1 ∧ a1 < (μ.1 1 10)) → Q (some (.int (-1))) μ) ∧ (0 ≤ a1 ∧ a1 < (μ.1 1 10) → (((0 : Int32) ≤ a2 ∧ a2 ≤ 60 → kr_c (d + 6) i_K_run [.ref 27, .int a2, .int 0] μ (kr_bk (kr_Wp C_C_waited (kr_c (d + 6)) Q) 29 [some (.ref 0), some (.int a1), some (.int a2)] [])) ∧ (¬ ((0 : Int32) ≤ a2 ∧ a2 ≤ 60) → Q (some (.int (-1))) μ))))) : kr_c (d + 7) i_C_waited [.ref 0, .int a1, .int a2] μ Q := ⟨rfl, (st_C_waited (st_C_waited (And.intro rfl (st_C_waited (st_C_waited (And.intro rfl (c_R_hasOne (st_C_waited (And.intro (fun z1x => (st_C_waited (st_C_waited (h.1 (kr_b0 z1x))))) (fun z1x => (st_C_waited (st_C_waited (c_C_isQuarterBehind (st_C_waited (And.intro (fun z2x => (st_C_waited (st_C_waited (And.intro rfl (st_C_waited (st_C_waited (st_C_waited (And.intro rfl ((h.2 (kr_b1 z1x)).1 (kr_b1 z2x)))))))))) (fun z2x => (st_C_waited (st_C_waited ((h.2 (kr_b1 z1x)).2 (kr_b2 z2x))))))))))))))))))))⟩
theorem v_C_waited_29 {d : Nat} {Q : kr_Q} {μ : kr_M} {a1 : Int32} {a2 : Int32} (h : vp_in a1 5 ∧ Q (some (.int (μ.1 32 a1.toNatClampNeg))) μ) : kr_Wp C_C_waited (kr_c (d + 6)) Q 29 [some (.ref 0), some (.int a1), some (.int a2)] [] μ := (st_C_waited (st_C_waited (And.intro rfl (st_C_waited (And.intro rfl (st_C_waited (st_C_waited (And.intro ⟨5, rfl, h.1⟩ (st_C_waited h.2)))))))))
theorem st_C_lost {d : Nat} {Q : kr_Q} {pc : Nat} {ls : kr_L} {st : List Value} {μ : kr_M} (h : C_C_lost pc (kr_Wp C_C_lost (kr_c d) Q) (kr_c d) Q ls st μ) : kr_Wp C_C_lost (kr_c d) Q pc ls st μ := kr_Wp.step (fun pc => (kr_ok_C_lost pc).2) (kr_c_om d) h
theorem v_C_lost {d : Nat} {Q : kr_Q} {μ : kr_M} {a1 : Int32} (h : (((0 : Int32) ≤ a1 ∧ a1 ≤ 60 → kr_c (d + 6) i_K_run [.ref 27, .int a1, .int 0] μ (kr_bk (kr_Wp C_C_lost (kr_c (d + 6)) Q) 18 [some (.ref 0), some (.int a1)] [])) ∧ (¬ ((0 : Int32) ≤ a1 ∧ a1 ≤ 60) → Q (some (.int (-1))) μ))) : kr_c (d + 7) i_C_lost [.ref 0, .int a1] μ Q := ⟨rfl, (st_C_lost (st_C_lost (c_C_isQuarterBehind (st_C_lost (And.intro (fun z1x => (st_C_lost (st_C_lost (And.intro rfl (st_C_lost (st_C_lost (st_C_lost (And.intro rfl (h.1 (kr_b1 z1x)))))))))) (fun z1x => (st_C_lost (st_C_lost (h.2 (kr_b2 z1x))))))))))⟩
theorem v_C_lost_18 {d : Nat} {Q : kr_Q} {μ : kr_M} {a1 : Int32} (h : kr_c (d + 6) i_K_whoIsLost [.ref 27] μ (kr_bk (kr_Wp C_C_lost (kr_c (d + 6)) Q) 25 [some (.ref 0), some (.int a1)] [])) : kr_Wp C_C_lost (kr_c (d + 6)) Q 18 [some (.ref 0), some (.int a1)] [] μ := (st_C_lost (st_C_lost (And.intro rfl (st_C_lost (And.intro rfl h)))))
theorem v_C_lost_25 {d : Nat} {Q : kr_Q} {μ : kr_M} {a1 : Int32} {r : Int32} (h : Q (some (.int r)) μ) : kr_Wp C_C_lost (kr_c (d + 6)) Q 25 [some (.ref 0), some (.int a1)] [.int r] μ := (st_C_lost h)
theorem st_C_storm {d : Nat} {Q : kr_Q} {pc : Nat} {ls : kr_L} {st : List Value} {μ : kr_M} (h : C_C_storm pc (kr_Wp C_C_storm (kr_c d) Q) (kr_c d) Q ls st μ) : kr_Wp C_C_storm (kr_c d) Q pc ls st μ := kr_Wp.step (fun pc => (kr_ok_C_storm pc).2) (kr_c_om d) h
theorem v_C_storm {d : Nat} {Q : kr_Q} {μ : kr_M} {a1 : Int32} (h : (((0 : Int32) ≤ a1 ∧ a1 ≤ 60 → kr_c (d + 6) i_K_run [.ref 27, .int a1, .int 0] μ (kr_bk (kr_Wp C_C_storm (kr_c (d + 6)) Q) 18 [some (.ref 0), some (.int a1)] [])) ∧ (¬ ((0 : Int32) ≤ a1 ∧ a1 ≤ 60) → Q (some (.int (-1))) μ))) : kr_c (d + 7) i_C_storm [.ref 0, .int a1] μ Q := ⟨rfl, (st_C_storm (st_C_storm (c_C_isQuarterBehind (st_C_storm (And.intro (fun z1x => (st_C_storm (st_C_storm (And.intro rfl (st_C_storm (st_C_storm (st_C_storm (And.intro rfl (h.1 (kr_b1 z1x)))))))))) (fun z1x => (st_C_storm (st_C_storm (h.2 (kr_b2 z1x))))))))))⟩
theorem v_C_storm_18 {d : Nat} {Q : kr_Q} {μ : kr_M} {a1 : Int32} (h : kr_c (d + 6) i_K_whoIsInTheOpen [.ref 27] μ (kr_bk (kr_Wp C_C_storm (kr_c (d + 6)) Q) 25 [some (.ref 0), some (.int a1)] [])) : kr_Wp C_C_storm (kr_c (d + 6)) Q 18 [some (.ref 0), some (.int a1)] [] μ := (st_C_storm (st_C_storm (And.intro rfl (st_C_storm (And.intro rfl h)))))
theorem v_C_storm_25 {d : Nat} {Q : kr_Q} {μ : kr_M} {a1 : Int32} {r : Int32} (h : Q (some (.int r)) μ) : kr_Wp C_C_storm (kr_c (d + 6)) Q 25 [some (.ref 0), some (.int a1)] [.int r] μ := (st_C_storm h)
theorem st_M_where {d : Nat} {Q : kr_Q} {pc : Nat} {ls : kr_L} {st : List Value} {μ : kr_M} (h : C_M_where pc (kr_Wp C_M_where (kr_c d) Q) (kr_c d) Q ls st μ) : kr_Wp C_M_where (kr_c d) Q pc ls st μ := kr_Wp.step (fun pc => (kr_ok_M_where pc).2) (kr_c_om d) h
theorem v_M_where {d : Nat} {Q : kr_Q} {μ : kr_M} {a1 : Int32} {a2 : Int32} (h : ((¬ (0 ≤ a1 ∧ a1 ≤ (μ.1 65 4) - 1) → Q (some (.int (-1))) μ) ∧ (0 ≤ a1 ∧ a1 ≤ (μ.1 65 4) - 1 → (((0 : Int32) ≤ a2 ∧ a2 ≤ 60 → kr_c (d + 5) i_M_runs [.ref 65, .int a2] μ (kr_bk (kr_Wp C_M_where (kr_c (d + 5)) Q) 22 [some (.ref 65), some (.int a1), some (.int a2)] [])) ∧ (¬ ((0 : Int32) ≤ a2 ∧ a2 ≤ 60) → Q (some (.int (-1))) μ))))) : kr_c (d + 6) i_M_where [.ref 65, .int a1, .int a2] μ Q := ⟨rfl, (st_M_where (st_M_where (st_M_where (And.intro rfl (c_M_isOne (st_M_where (And.intro (fun z1x => (st_M_where (st_M_where (h.1 (kr_b0 z1x))))) (fun z1x => (st_M_where (st_M_where (c_M_isQuarter (st_M_where (And.intro (fun z2x => (st_M_where (st_M_where (st_M_where (And.intro rfl ((h.2 (kr_b1 z1x)).1 (kr_b1 z2x))))))) (fun z2x => (st_M_where (st_M_where ((h.2 (kr_b1 z1x)).2 (kr_b2 z2x))))))))))))))))))⟩
theorem v_M_where_22 {d : Nat} {Q : kr_Q} {μ : kr_M} {a1 : Int32} {a2 : Int32} (h : ((¬ (((μ.1 65 28) >>> (a1 &&& 31)) &&& (1 : Int32)) = 1 → vp_in a1 5 ∧ ((¬ (μ.1 75 a1.toNatClampNeg) = (-4) → vp_in a1 5 ∧ Q (some (.int ((100 : Int32) + (μ.1 75 a1.toNatClampNeg)))) μ) ∧ ((μ.1 75 a1.toNatClampNeg) = (-4) → vp_in a1 5 ∧ Q (some (.int (μ.1 74 a1.toNatClampNeg))) μ))) ∧ ((((μ.1 65 28) >>> (a1 &&& 31)) &&& (1 : Int32)) = 1 → Q (some (.int (-4))) μ))) : kr_Wp C_M_where (kr_c (d + 5)) Q 22 [some (.ref 65), some (.int a1), some (.int a2)] [] μ := (st_M_where (st_M_where (And.intro rfl (st_M_where (st_M_where (st_M_where (st_M_where (st_M_where (st_M_where (And.intro (fun z1x => (st_M_where (st_M_where (And.intro rfl (st_M_where (st_M_where (And.intro ⟨5, rfl, (h.1 z1x).1⟩ (st_M_where (st_M_where (And.intro (fun z2x => (st_M_where (st_M_where (st_M_where (And.intro rfl (st_M_where (st_M_where (And.intro ⟨5, rfl, ((h.1 z1x).2.1 z2x).1⟩ (st_M_where (st_M_where ((h.1 z1x).2.1 z2x).2)))))))))) (fun z2x => (st_M_where (st_M_where (And.intro rfl (st_M_where (st_M_where (And.intro ⟨5, rfl, ((h.1 z1x).2.2 (Decidable.not_not.mp z2x)).1⟩ (st_M_where (st_M_where ((h.1 z1x).2.2 (Decidable.not_not.mp z2x)).2))))))))))))))))))) (fun z1x => (st_M_where (st_M_where (st_M_where (h.2 (Decidable.not_not.mp z1x))))))))))))))))
theorem st_M_strength {d : Nat} {Q : kr_Q} {pc : Nat} {ls : kr_L} {st : List Value} {μ : kr_M} (h : C_M_strength pc (kr_Wp C_M_strength (kr_c d) Q) (kr_c d) Q ls st μ) : kr_Wp C_M_strength (kr_c d) Q pc ls st μ := kr_Wp.step (fun pc => (kr_ok_M_strength pc).2) (kr_c_om d) h
theorem v_M_strength {d : Nat} {Q : kr_Q} {μ : kr_M} {a1 : Int32} {a2 : Int32} (h : ((¬ (0 ≤ a1 ∧ a1 ≤ (μ.1 66 0) - 1) → Q (some (.int (-1))) μ) ∧ (0 ≤ a1 ∧ a1 ≤ (μ.1 66 0) - 1 → (((0 : Int32) ≤ a2 ∧ a2 ≤ 60 → kr_c (d + 5) i_M_runs [.ref 65, .int a2] μ (kr_bk (kr_Wp C_M_strength (kr_c (d + 5)) Q) 22 [some (.ref 65), some (.int a1), some (.int a2)] [])) ∧ (¬ ((0 : Int32) ≤ a2 ∧ a2 ≤ 60) → Q (some (.int (-1))) μ))))) : kr_c (d + 6) i_M_strength [.ref 65, .int a1, .int a2] μ Q := ⟨rfl, (st_M_strength (st_M_strength (st_M_strength (And.intro rfl (c_M_isLine (st_M_strength (And.intro (fun z1x => (st_M_strength (st_M_strength (h.1 (kr_b0 z1x))))) (fun z1x => (st_M_strength (st_M_strength (c_M_isQuarter (st_M_strength (And.intro (fun z2x => (st_M_strength (st_M_strength (st_M_strength (And.intro rfl ((h.2 (kr_b1 z1x)).1 (kr_b1 z2x))))))) (fun z2x => (st_M_strength (st_M_strength ((h.2 (kr_b1 z1x)).2 (kr_b2 z2x))))))))))))))))))⟩
theorem v_M_strength_22 {d : Nat} {Q : kr_Q} {μ : kr_M} {a1 : Int32} {a2 : Int32} (h : vp_in a1 12 ∧ Q (some (.int (μ.1 72 a1.toNatClampNeg))) μ) : kr_Wp C_M_strength (kr_c (d + 5)) Q 22 [some (.ref 65), some (.int a1), some (.int a2)] [] μ := (st_M_strength (st_M_strength (And.intro rfl (st_M_strength (st_M_strength (And.intro ⟨12, rfl, h.1⟩ (st_M_strength h.2)))))))
theorem st_M_comes {d : Nat} {Q : kr_Q} {pc : Nat} {ls : kr_L} {st : List Value} {μ : kr_M} (h : C_M_comes pc (kr_Wp C_M_comes (kr_c d) Q) (kr_c d) Q ls st μ) : kr_Wp C_M_comes (kr_c d) Q pc ls st μ := kr_Wp.step (fun pc => (kr_ok_M_comes pc).2) (kr_c_om d) h
theorem v_M_comes {d : Nat} {Q : kr_Q} {μ : kr_M} {a1 : Int32} (h : ((0 ≤ a1 ∧ a1 ≤ (μ.1 65 4) - 1 → kr_c (d + 5) i_M_runs [.ref 65, .int 60] μ (kr_bk (kr_Wp C_M_comes (kr_c (d + 5)) Q) 16 [some (.ref 65), some (.int a1)] [])) ∧ (¬ (0 ≤ a1 ∧ a1 ≤ (μ.1 65 4) - 1) → Q (some (.int (-1))) μ))) : kr_c (d + 6) i_M_comes [.ref 65, .int a1] μ Q := ⟨rfl, (st_M_comes (st_M_comes (st_M_comes (And.intro rfl (c_M_isOne (st_M_comes (And.intro (fun z1x => (st_M_comes (st_M_comes (st_M_comes (And.intro rfl (h.1 (kr_b1 z1x))))))) (fun z1x => (st_M_comes (st_M_comes (h.2 (kr_b2 z1x))))))))))))⟩
theorem v_M_comes_16 {d : Nat} {Q : kr_Q} {μ : kr_M} {a1 : Int32} (h : vp_in a1 5 ∧ Q (some (.int (μ.1 77 a1.toNatClampNeg))) μ) : kr_Wp C_M_comes (kr_c (d + 5)) Q 16 [some (.ref 65), some (.int a1)] [] μ := (st_M_comes (st_M_comes (And.intro rfl (st_M_comes (st_M_comes (And.intro ⟨5, rfl, h.1⟩ (st_M_comes h.2)))))))
theorem st_M_waited {d : Nat} {Q : kr_Q} {pc : Nat} {ls : kr_L} {st : List Value} {μ : kr_M} (h : C_M_waited pc (kr_Wp C_M_waited (kr_c d) Q) (kr_c d) Q ls st μ) : kr_Wp C_M_waited (kr_c d) Q pc ls st μ := kr_Wp.step (fun pc => (kr_ok_M_waited pc).2) (kr_c_om d) h
theorem v_M_waited {d : Nat} {Q : kr_Q} {μ : kr_M} {a1 : Int32} {a2 : Int32} (h : ((¬ (0 ≤ a1 ∧ a1 ≤ (μ.1 65 4) - 1) → Q (some (.int (-1))) μ) ∧ (0 ≤ a1 ∧ a1 ≤ (μ.1 65 4) - 1 → (((0 : Int32) ≤ a2 ∧ a2 ≤ 60 → kr_c (d + 5) i_M_runs [.ref 65, .int a2] μ (kr_bk (kr_Wp C_M_waited (kr_c (d + 5)) Q) 22 [some (.ref 65), some (.int a1), some (.int a2)] [])) ∧ (¬ ((0 : Int32) ≤ a2 ∧ a2 ≤ 60) → Q (some (.int (-1))) μ))))) : kr_c (d + 6) i_M_waited [.ref 65, .int a1, .int a2] μ Q := ⟨rfl, (st_M_waited (st_M_waited (st_M_waited (And.intro rfl (c_M_isOne (st_M_waited (And.intro (fun z1x => (st_M_waited (st_M_waited (h.1 (kr_b0 z1x))))) (fun z1x => (st_M_waited (st_M_waited (c_M_isQuarter (st_M_waited (And.intro (fun z2x => (st_M_waited (st_M_waited (st_M_waited (And.intro rfl ((h.2 (kr_b1 z1x)).1 (kr_b1 z2x))))))) (fun z2x => (st_M_waited (st_M_waited ((h.2 (kr_b1 z1x)).2 (kr_b2 z2x))))))))))))))))))⟩
theorem v_M_waited_22 {d : Nat} {Q : kr_Q} {μ : kr_M} {a1 : Int32} {a2 : Int32} (h : vp_in a1 5 ∧ Q (some (.int (μ.1 78 a1.toNatClampNeg))) μ) : kr_Wp C_M_waited (kr_c (d + 5)) Q 22 [some (.ref 65), some (.int a1), some (.int a2)] [] μ := (st_M_waited (st_M_waited (And.intro rfl (st_M_waited (st_M_waited (And.intro ⟨5, rfl, h.1⟩ (st_M_waited h.2)))))))
theorem st_M_lost {d : Nat} {Q : kr_Q} {pc : Nat} {ls : kr_L} {st : List Value} {μ : kr_M} (h : C_M_lost pc (kr_Wp C_M_lost (kr_c d) Q) (kr_c d) Q ls st μ) : kr_Wp C_M_lost (kr_c d) Q pc ls st μ := kr_Wp.step (fun pc => (kr_ok_M_lost pc).2) (kr_c_om d) h
theorem v_M_lost {d : Nat} {Q : kr_Q} {μ : kr_M} {a1 : Int32} (h : (((0 : Int32) ≤ a1 ∧ a1 ≤ 60 → kr_c (d + 5) i_M_runs [.ref 65, .int a1] μ (kr_bk (kr_Wp C_M_lost (kr_c (d + 5)) Q) 14 [some (.ref 65), some (.int a1)] [])) ∧ (¬ ((0 : Int32) ≤ a1 ∧ a1 ≤ 60) → Q (some (.int (-1))) μ))) : kr_c (d + 6) i_M_lost [.ref 65, .int a1] μ Q := ⟨rfl, (st_M_lost (st_M_lost (c_M_isQuarter (st_M_lost (And.intro (fun z1x => (st_M_lost (st_M_lost (st_M_lost (And.intro rfl (h.1 (kr_b1 z1x))))))) (fun z1x => (st_M_lost (st_M_lost (h.2 (kr_b2 z1x))))))))))⟩
theorem v_M_lost_14 {d : Nat} {Q : kr_Q} {μ : kr_M} {a1 : Int32} (h : Q (some (.int (μ.1 65 28))) μ) : kr_Wp C_M_lost (kr_c (d + 5)) Q 14 [some (.ref 65), some (.int a1)] [] μ := (st_M_lost (st_M_lost (And.intro rfl (st_M_lost h))))
def kr_bcv (a1 : Int32) : Int32 := ((((((((a1 - (((a1.toUInt32 >>> ((1 : Int32).toUInt32 &&& Int32.toUInt32 31)).toInt32) &&& (1431655765 : Int32))) &&& (858993459 : Int32)) + ((((a1 - (((a1.toUInt32 >>> ((1 : Int32).toUInt32 &&& Int32.toUInt32 31)).toInt32) &&& (1431655765 : Int32))).toUInt32 >>> ((2 : Int32).toUInt32 &&& Int32.toUInt32 31)).toInt32) &&& (858993459 : Int32))) + (((((a1 - (((a1.toUInt32 >>> ((1 : Int32).toUInt32 &&& Int32.toUInt32 31)).toInt32) &&& (1431655765 : Int32))) &&& (858993459 : Int32)) + ((((a1 - (((a1.toUInt32 >>> ((1 : Int32).toUInt32 &&& Int32.toUInt32 31)).toInt32) &&& (1431655765 : Int32))).toUInt32 >>> ((2 : Int32).toUInt32 &&& Int32.toUInt32 31)).toInt32) &&& (858993459 : Int32))).toUInt32 >>> ((4 : Int32).toUInt32 &&& Int32.toUInt32 31)).toInt32)) &&& (252645135 : Int32)) + (((((((a1 - (((a1.toUInt32 >>> ((1 : Int32).toUInt32 &&& Int32.toUInt32 31)).toInt32) &&& (1431655765 : Int32))) &&& (858993459 : Int32)) + ((((a1 - (((a1.toUInt32 >>> ((1 : Int32).toUInt32 &&& Int32.toUInt32 31)).toInt32) &&& (1431655765 : Int32))).toUInt32 >>> ((2 : Int32).toUInt32 &&& Int32.toUInt32 31)).toInt32) &&& (858993459 : Int32))) + (((((a1 - (((a1.toUInt32 >>> ((1 : Int32).toUInt32 &&& Int32.toUInt32 31)).toInt32) &&& (1431655765 : Int32))) &&& (858993459 : Int32)) + ((((a1 - (((a1.toUInt32 >>> ((1 : Int32).toUInt32 &&& Int32.toUInt32 31)).toInt32) &&& (1431655765 : Int32))).toUInt32 >>> ((2 : Int32).toUInt32 &&& Int32.toUInt32 31)).toInt32) &&& (858993459 : Int32))).toUInt32 >>> ((4 : Int32).toUInt32 &&& Int32.toUInt32 31)).toInt32)) &&& (252645135 : Int32)).toUInt32 >>> ((8 : Int32).toUInt32 &&& Int32.toUInt32 31)).toInt32)) + ((((((((a1 - (((a1.toUInt32 >>> ((1 : Int32).toUInt32 &&& Int32.toUInt32 31)).toInt32) &&& (1431655765 : Int32))) &&& (858993459 : Int32)) + ((((a1 - (((a1.toUInt32 >>> ((1 : Int32).toUInt32 &&& Int32.toUInt32 31)).toInt32) &&& (1431655765 : Int32))).toUInt32 >>> ((2 : Int32).toUInt32 &&& Int32.toUInt32 31)).toInt32) &&& (858993459 : Int32))) + (((((a1 - (((a1.toUInt32 >>> ((1 : Int32).toUInt32 &&& Int32.toUInt32 31)).toInt32) &&& (1431655765 : Int32))) &&& (858993459 : Int32)) + ((((a1 - (((a1.toUInt32 >>> ((1 : Int32).toUInt32 &&& Int32.toUInt32 31)).toInt32) &&& (1431655765 : Int32))).toUInt32 >>> ((2 : Int32).toUInt32 &&& Int32.toUInt32 31)).toInt32) &&& (858993459 : Int32))).toUInt32 >>> ((4 : Int32).toUInt32 &&& Int32.toUInt32 31)).toInt32)) &&& (252645135 : Int32)) + (((((((a1 - (((a1.toUInt32 >>> ((1 : Int32).toUInt32 &&& Int32.toUInt32 31)).toInt32) &&& (1431655765 : Int32))) &&& (858993459 : Int32)) + ((((a1 - (((a1.toUInt32 >>> ((1 : Int32).toUInt32 &&& Int32.toUInt32 31)).toInt32) &&& (1431655765 : Int32))).toUInt32 >>> ((2 : Int32).toUInt32 &&& Int32.toUInt32 31)).toInt32) &&& (858993459 : Int32))) + (((((a1 - (((a1.toUInt32 >>> ((1 : Int32).toUInt32 &&& Int32.toUInt32 31)).toInt32) &&& (1431655765 : Int32))) &&& (858993459 : Int32)) + ((((a1 - (((a1.toUInt32 >>> ((1 : Int32).toUInt32 &&& Int32.toUInt32 31)).toInt32) &&& (1431655765 : Int32))).toUInt32 >>> ((2 : Int32).toUInt32 &&& Int32.toUInt32 31)).toInt32) &&& (858993459 : Int32))).toUInt32 >>> ((4 : Int32).toUInt32 &&& Int32.toUInt32 31)).toInt32)) &&& (252645135 : Int32)).toUInt32 >>> ((8 : Int32).toUInt32 &&& Int32.toUInt32 31)).toInt32)).toUInt32 >>> ((16 : Int32).toUInt32 &&& Int32.toUInt32 31)).toInt32)) &&& (63 : Int32))
theorem kr_bc_all : ∀ a, a < 64 → ∀ b, b < 64 → kr_bcv (nI (64 * a + b)) = nI (kr_ones 12 (64 * a + b)) := by decide +kernel
theorem kr_bc_eq {a : Nat} (h : a < 4096) : kr_bcv (nI a) = nI (kr_ones 12 a) := by
  have := kr_bc_all (a / 64) (by omega) (a % 64) (by omega)
  rw [Nat.div_add_mod] at this
  exact this
theorem c_J6_bitCount {d : Nat} {Q : kr_Q} {μ : kr_M} {a : Nat} (h : a < 4096) (k : Q (some (.int (nI (kr_ones 12 a)))) μ) : kr_c (d + 1) i_J6_bitCount [.int (nI a)] μ Q := by
  refine v_J6_bitCount ?_
  rw [← kr_bc_eq h] at k
  exact k
theorem c_M_bitsOf {d : Nat} {Q : kr_Q} {μ : kr_M} {a : Nat} (h : a < 2 ^ 31) (k : Q (some (.int (nI (kr_ones 12 a)))) μ) : kr_c (d + 1) i_M_bitsOf [.int (nI a)] μ Q := by
  refine v_M_bitsOf ?_
  refine kr_up (I := fun i => kr_Wp C_M_bitsOf (kr_c d) Q 4 [some (.int (nI a)), some (.int (nI (kr_ones i a))), some (.int (nI i))] [] μ) 12 ?_ ?_ 0 (Nat.zero_le _)
  · exact v_M_bitsOf_4 (br_t (Int32.le_refl _) k)
  · intro i hi ih
    refine v_M_bitsOf_4 (br_f ?_ ?_)
    · rw [show (12 : Int32) = nI 12 from rfl]; exact nI_ge hi (by decide)
    · rw [kr_bit h (by omega), nI_add, kr_n1]
      exact ih
theorem kr_wf.gb {g : Nat → Nat} {P D K : Nat} {t : Nat → Nat} (h : kr_wf g P D K t) : kx_gb g := by
  obtain ⟨⟨h0, h1, h2, h3, h4⟩, hl, h61, hd, ht, hq, hh⟩ := h
  refine ⟨h0, Nat.lt_of_lt_of_le h61 (Nat.pow_le_pow_right (n := 2) (by decide) h2), fun l hl' => ?_⟩
  have := hl l hl'
  refine ⟨by omega, by omega, this.2.2.1, this.2.2.2.1, this.2.2.2.2.1, this.2.2.2.2.2.1, this.2.2.2.2.2.2⟩
theorem kr_wf.ht {g : Nat → Nat} {P D K : Nat} {t : Nat → Nat} (h : kr_wf g P D K t) : ∀ p, p < K → t (3 * p) < 9 ∧ t (3 * p + 1) < 9 ∧ t (3 * p + 2) ≤ 40 := by
  obtain ⟨⟨h0, h1, h2, h3, h4⟩, hl, h61, hd, ht, hq, hh⟩ := h
  intro p hp
  have := ht p hp
  omega
theorem kr_wf.hr {g : Nat → Nat} {P D K : Nat} {t : Nat → Nat} (h : kr_wf g P D K t) : ∀ q, q < 41 → g (67 + q) ≤ 1 := h.2.2.2.2.2.1
theorem kr_Rg.Wy {μ : kr_M} {g : Nat → Nat} {P D K : Nat} {t : Nat → Nat} (h : kr_Rg μ 1 g P D K t) : kr_Wy μ g := ⟨⟨h.1.2.2.1, h.1.2.1⟩, h.2.1⟩
theorem kr_Rg.PC {μ : kr_M} {g : Nat → Nat} {P D K : Nat} {t : Nat → Nat} (h : kr_Rg μ 1 g P D K t) : kr_PC μ K t := ⟨h.1.2.2.2.2.1, h.2.2.2.2.1⟩
theorem kr_Rg.h7 {μ : kr_M} {g : Nat → Nat} {P D K : Nat} {t : Nat → Nat} (h : kr_Rg μ 1 g P D K t) : μ.1 1 7 = nI (kr_bm (g 0) (fun l => kr_gk g l 4 == 1)) := h.2.2.1
theorem kr_Rg.B {μ : kr_M} {g : Nat → Nat} {P D K : Nat} {t : Nat → Nat} (h : kr_Rg μ 1 g P D K t) : μ.2 1 = lN (kx_rb g) := h.2.2.2.2.2.1
/-- the reference's side -/
def kr_MI (μ : kr_M) (g : Nat → Nat) (P D K : Nat) (t : Nat → Nat) : Prop := kr_Mg μ g ∧ kr_PM μ K t ∧ μ.1 65 2 = nI P ∧ μ.1 65 3 = nI D ∧ μ.1 65 29 = nI 0
/-- a class's run, told -/
theorem c_K_run' {d : Nat} {Q : kr_Q} {μ : kr_M} {g t : Nat → Nat} {P D K ex n : Nat} (hw : kr_wf g P D K t) (hR : kr_Rg μ 1 g P D K t) (hx : ex < 1000) (hn : n ≤ 60) (k : ∀ μ', kr_keep [25, 26, 28, 29, 30, 31, 32, 33] [] μ μ' → kr_RC μ' g K (kx_run g t K ex n) → Q none μ') : kr_c (d + 6) i_K_run [.ref 27, .int (nI n), .int (nI ex)] μ Q :=
  c_K_run hR.Wy hw.gb hR.h7 hR.B hR.PC hw.1.2.2.2.2 hw.ht hx hn k
theorem c_M_runs' {d : Nat} {Q : kr_Q} {μ : kr_M} {g t : Nat → Nat} {P D K ex n : Nat} (hw : kr_wf g P D K t) (hM : kr_Mg μ g) (hP : kr_PM μ K t) (he : μ.1 65 29 = nI ex) (hx : ex < 1000) (hn : n ≤ 60) (k : ∀ μ', kr_keep [72, 73, 74, 75, 76, 77, 78] [(65, 28)] μ μ' → kr_RM μ' (g 0) K (kx_run g t K ex n) → Q none μ') : kr_c (d + 5) i_M_runs [.ref 65, .int (nI n)] μ Q :=
  c_M_runs hM hw.gb hw.hr hP hw.1.2.2.2.2 hw.ht he hx hn k
theorem kx_run_A {g t : Nat → Nat} {P D K ex n : Nat} (hw : kr_wf g P D K t) (hn : n ≤ 60) {p : Nat} (hp : p < K) : (kx_run g t K ex n).2.1 p ≤ 1000 ∧ (100 ≤ (kx_run g t K ex n).2.1 p → (kx_run g t K ex n).2.1 p < 1000 → (kx_run g t K ex n).2.1 p - 100 < g 0) ∧ (kx_run g t K ex n).2.2.2.2.2 p ≤ 60 ∧ (kx_run g t K ex n).2.2.2.2.1 p ≤ 300 := by
  have hj := kx_run_J (g := g) (t := t) (K := K) (ex := ex) hw.gb (fun p hp => ⟨(hw.ht p hp).1, (hw.ht p hp).2.1⟩) n hn
  have hKi : K * n ≤ 5 * 60 := Nat.mul_le_mul hw.1.2.2.2.2 hn
  have h1 := hj.weak.lo_pre hw.1.1 p hp
  have h2 := (hj.2 p hp).2
  exact ⟨h1.1, h1.2, h2.2, by omega⟩
theorem kr_ix60 {x : Int32} (h : 0 ≤ x ∧ x ≤ 60) : ∃ j, j ≤ 60 ∧ x = nI j := by
  obtain ⟨j, hj, e⟩ := kr_ix (x := x) (n := 61) (by decide) ⟨h.1, by
    have h2 := h.2
    rw [kr_le] at h2
    rw [kr_lt]
    have : (60 : Int32).toInt = 60 := rfl
    have : (nI 61).toInt = 61 := rfl
    omega⟩
  exact ⟨j, by omega, e⟩
noncomputable def ax_where (g t : Nat → Nat) (K : Nat) (p q : Int32) : Int32 := if (0 ≤ p ∧ p < nI K) ∧ (0 ≤ q ∧ q ≤ 60) then kx_pw ((kx_run g t K 0 q.toNatClampNeg).2.1 p.toNatClampNeg) else -1
noncomputable def ax_waited (g t : Nat → Nat) (K : Nat) (p q : Int32) : Int32 := if (0 ≤ p ∧ p < nI K) ∧ (0 ≤ q ∧ q ≤ 60) then nI ((kx_run g t K 0 q.toNatClampNeg).2.2.2.2.1 p.toNatClampNeg) else -1
noncomputable def ax_strength (g t : Nat → Nat) (K : Nat) (l q : Int32) : Int32 := if (0 ≤ l ∧ l < nI (g 0)) ∧ (0 ≤ q ∧ q ≤ 60) then nI ((kx_run g t K 0 q.toNatClampNeg).1 l.toNatClampNeg) else -1
noncomputable def ax_comes (g t : Nat → Nat) (K : Nat) (p : Int32) : Int32 := if 0 ≤ p ∧ p < nI K then kx_mm ((kx_run g t K 0 60).2.2.2.2.2 p.toNatClampNeg) else -1
noncomputable def kx_lm (g t : Nat → Nat) (K ex n : Nat) : Nat := kr_bm K (fun p => (kx_run g t K ex n).2.1 p == 1000)
noncomputable def ax_lost (g t : Nat → Nat) (K : Nat) (q : Int32) : Int32 := if 0 ≤ q ∧ q ≤ 60 then nI (kx_lm g t K 0 q.toNatClampNeg) else -1
noncomputable def kx_open (g t : Nat → Nat) (K n : Nat) (p : Nat) : Bool := decide (100 ≤ (kx_run g t K 0 n).2.1 p ∧ (kx_run g t K 0 n).2.1 p < 1000 ∧ kr_gk g ((kx_run g t K 0 n).2.1 p - 100) 4 = 0)
noncomputable def ax_storm (g t : Nat → Nat) (K : Nat) (q : Int32) : Int32 := if 0 ≤ q ∧ q ≤ 60 then nI (kr_bm K (kx_open g t K q.toNatClampNeg)) else -1
theorem c_C_where {d : Nat} {Q : kr_Q} {μ : kr_M} {g t : Nat → Nat} {P D K : Nat} (hw : kr_wf g P D K t) (hR : kr_Rg μ 1 g P D K t) {x y : Int32} (k : ∀ μ', kr_keep [25, 26, 28, 29, 30, 31, 32, 33] [] μ μ' → Q (some (.int (ax_where g t K x y))) μ') : kr_c (d + 7) i_C_where [.ref 0, .int x, .int y] μ Q := by
  have hlim := hw.1.2.2.2.2
  refine v_C_where ?_
  rw [hR.1.2.2.2.2.1]
  unfold ax_where at k
  refine ⟨fun c => ?_, fun c => ⟨fun c2 => ?_, fun c2 => ?_⟩⟩
  · rw [if_neg (fun z => c z.1)] at k
    exact k μ kr_keep.rf
  · rw [if_pos ⟨c, c2⟩] at k
    obtain ⟨p, hp, rfl⟩ := kr_ix (by omega) c
    obtain ⟨q, hq, rfl⟩ := kr_ix60 c2
    rw [nI_clamp (by omega), nI_clamp (by omega)] at k
    refine c_K_run' (ex := 0) hw hR (by decide) hq (fun μ' hk hr => v_C_where_29 ⟨vp_in_nI (by omega) (by decide), ?_⟩)
    rw [nI_clamp (by omega)]
    rw [(hr.2 p hp).1]
    exact k μ' hk
  · rw [if_neg (fun z => c2 z.2)] at k
    exact k μ kr_keep.rf
theorem c_C_waited {d : Nat} {Q : kr_Q} {μ : kr_M} {g t : Nat → Nat} {P D K : Nat} (hw : kr_wf g P D K t) (hR : kr_Rg μ 1 g P D K t) {x y : Int32} (k : ∀ μ', kr_keep [25, 26, 28, 29, 30, 31, 32, 33] [] μ μ' → Q (some (.int (ax_waited g t K x y))) μ') : kr_c (d + 7) i_C_waited [.ref 0, .int x, .int y] μ Q := by
  have hlim := hw.1.2.2.2.2
  refine v_C_waited ?_
  rw [hR.1.2.2.2.2.1]
  unfold ax_waited at k
  refine ⟨fun c => ?_, fun c => ⟨fun c2 => ?_, fun c2 => ?_⟩⟩
  · rw [if_neg (fun z => c z.1)] at k
    exact k μ kr_keep.rf
  · rw [if_pos ⟨c, c2⟩] at k
    obtain ⟨p, hp, rfl⟩ := kr_ix (by omega) c
    obtain ⟨q, hq, rfl⟩ := kr_ix60 c2
    rw [nI_clamp (by omega), nI_clamp (by omega)] at k
    refine c_K_run' (ex := 0) hw hR (by decide) hq (fun μ' hk hr => v_C_waited_29 ⟨vp_in_nI (by omega) (by decide), ?_⟩)
    rw [nI_clamp (by omega)]
    rw [(hr.2 p hp).2.2.1]
    exact k μ' hk
  · rw [if_neg (fun z => c2 z.2)] at k
    exact k μ kr_keep.rf
theorem c_C_strength {d : Nat} {Q : kr_Q} {μ : kr_M} {g t : Nat → Nat} {P D K : Nat} (hw : kr_wf g P D K t) (hR : kr_Rg μ 1 g P D K t) {x y : Int32} (k : ∀ μ', kr_keep [25, 26, 28, 29, 30, 31, 32, 33] [] μ μ' → Q (some (.int (ax_strength g t K x y))) μ') : kr_c (d + 7) i_C_strength [.ref 0, .int x, .int y] μ Q := by
  have hlim := hw.1.1
  refine v_C_strength ?_
  rw [hR.1.2.2.1]
  unfold ax_strength at k
  refine ⟨fun c => ?_, fun c => ⟨fun c2 => ?_, fun c2 => ?_⟩⟩
  · rw [if_neg (fun z => c z.1)] at k
    exact k μ kr_keep.rf
  · rw [if_pos ⟨c, c2⟩] at k
    obtain ⟨p, hp, rfl⟩ := kr_ix (by omega) c
    obtain ⟨q, hq, rfl⟩ := kr_ix60 c2
    rw [nI_clamp (by omega), nI_clamp (by omega)] at k
    refine c_K_run' (ex := 0) hw hR (by decide) hq (fun μ' hk hr => v_C_strength_29 ⟨vp_in_nI (by omega) (by decide), ?_⟩)
    rw [nI_clamp (by omega)]
    rw [hr.1 p hp]
    exact k μ' hk
  · rw [if_neg (fun z => c2 z.2)] at k
    exact k μ kr_keep.rf
theorem c_M_where {d : Nat} {Q : kr_Q} {μ : kr_M} {g t : Nat → Nat} {P D K : Nat} (hw : kr_wf g P D K t) (hI : kr_MI μ g P D K t) {x y : Int32} (k : ∀ μ', kr_keep [72, 73, 74, 75, 76, 77, 78] [(65, 28)] μ μ' → Q (some (.int (ax_where g t K x y))) μ') : kr_c (d + 6) i_M_where [.ref 65, .int x, .int y] μ Q := by
  obtain ⟨hM, hP, -, -, h29⟩ := hI
  have hlim := hw.1.2.2.2.2
  refine v_M_where ?_
  rw [hP.1, kr_le1 (by omega)]
  unfold ax_where at k
  refine ⟨fun c => ?_, fun c => ⟨fun c2 => ?_, fun c2 => ?_⟩⟩
  · rw [if_neg (fun z => c z.1)] at k
    exact k μ kr_keep.rf
  · rw [if_pos ⟨c, c2⟩] at k
    obtain ⟨p, hp, rfl⟩ := kr_ix (by omega) c
    obtain ⟨q, hq, rfl⟩ := kr_ix60 c2
    rw [nI_clamp (by omega), nI_clamp (by omega)] at k
    refine c_M_runs' (ex := 0) hw hM hP h29 (by decide) hq (fun μ' hk hr => v_M_where_22 ?_)
    obtain ⟨a1, a2, -, -⟩ := kx_run_A (ex := 0) hw hq hp
    obtain ⟨x1, x2, x3, x4, x5⟩ := hr.2.2 p hp
    have hb := kr_bm_lt (fun p => (kx_run g t K 0 q).2.1 p == 1000) K
    have hK2 : 2 ^ K ≤ 2 ^ 5 := Nat.pow_le_pow_right (n := 2) (by decide) hlim
    have vp : vp_in (nI p) 5 := vp_in_nI (by omega) (by decide)
    rw [hr.2.1, kr_bit1 (by omega) (by omega), kr_bm_bit, nI_clamp (by omega), x1, kx_on_n a1]
    have k2 := k μ' hk
    by_cases c0 : (kx_run g t K 0 q).2.1 p = 1000
    · refine ⟨fun z => absurd (by simp [hp, c0]) z, fun _ => ?_⟩
      rw [c0] at k2
      exact k2
    · refine ⟨fun _ => ⟨vp, fun z => ⟨vp, ?_⟩, fun z => ⟨vp, ?_⟩⟩, fun z => absurd z (by simp [c0])⟩
      · have z := Decidable.not_not.mp z
        rw [show kx_on ((kx_run g t K 0 q).2.1 p) = nI ((kx_run g t K 0 q).2.1 p - 100) from if_pos z, show (100 : Int32) = nI 100 from rfl, nI_add, Nat.add_sub_cancel' z.1]
        rw [show kx_pw ((kx_run g t K 0 q).2.1 p) = nI ((kx_run g t K 0 q).2.1 p) from if_neg c0] at k2
        exact k2
      · have z1 : (kx_run g t K 0 q).2.1 p < 100 := by omega
        rw [x2 (by omega), if_pos z1]
        rw [show kx_pw ((kx_run g t K 0 q).2.1 p) = nI ((kx_run g t K 0 q).2.1 p) from if_neg c0] at k2
        exact k2
  · rw [if_neg (fun z => c2 z.2)] at k
    exact k μ kr_keep.rf
theorem c_M_waited {d : Nat} {Q : kr_Q} {μ : kr_M} {g t : Nat → Nat} {P D K : Nat} (hw : kr_wf g P D K t) (hI : kr_MI μ g P D K t) {x y : Int32} (k : ∀ μ', kr_keep [72, 73, 74, 75, 76, 77, 78] [(65, 28)] μ μ' → Q (some (.int (ax_waited g t K x y))) μ') : kr_c (d + 6) i_M_waited [.ref 65, .int x, .int y] μ Q := by
  obtain ⟨hM, hP, -, -, h29⟩ := hI
  have hlim := hw.1.2.2.2.2
  refine v_M_waited ?_
  rw [hP.1, kr_le1 (by omega)]
  unfold ax_waited at k
  refine ⟨fun c => ?_, fun c => ⟨fun c2 => ?_, fun c2 => ?_⟩⟩
  · rw [if_neg (fun z => c z.1)] at k
    exact k μ kr_keep.rf
  · rw [if_pos ⟨c, c2⟩] at k
    obtain ⟨p, hp, rfl⟩ := kr_ix (by omega) c
    obtain ⟨q, hq, rfl⟩ := kr_ix60 c2
    rw [nI_clamp (by omega), nI_clamp (by omega)] at k
    refine c_M_runs' (ex := 0) hw hM hP h29 (by decide) hq (fun μ' hk hr => v_M_waited_22 ⟨vp_in_nI (by omega) (by decide), ?_⟩)
    rw [nI_clamp (by omega), (hr.2.2 p hp).2.2.2.1]
    exact k μ' hk
  · rw [if_neg (fun z => c2 z.2)] at k
    exact k μ kr_keep.rf
theorem c_M_strength {d : Nat} {Q : kr_Q} {μ : kr_M} {g t : Nat → Nat} {P D K : Nat} (hw : kr_wf g P D K t) (hI : kr_MI μ g P D K t) {x y : Int32} (k : ∀ μ', kr_keep [72, 73, 74, 75, 76, 77, 78] [(65, 28)] μ μ' → Q (some (.int (ax_strength g t K x y))) μ') : kr_c (d + 6) i_M_strength [.ref 65, .int x, .int y] μ Q := by
  obtain ⟨hM, hP, -, -, h29⟩ := hI
  have hlim := hw.1.1
  refine v_M_strength ?_
  rw [hM 0 (by decide), kr_le1 (by omega)]
  unfold ax_strength at k
  refine ⟨fun c => ?_, fun c => ⟨fun c2 => ?_, fun c2 => ?_⟩⟩
  · rw [if_neg (fun z => c z.1)] at k
    exact k μ kr_keep.rf
  · rw [if_pos ⟨c, c2⟩] at k
    obtain ⟨p, hp, rfl⟩ := kr_ix (by omega) c
    obtain ⟨q, hq, rfl⟩ := kr_ix60 c2
    rw [nI_clamp (by omega), nI_clamp (by omega)] at k
    refine c_M_runs' (ex := 0) hw hM hP h29 (by decide) hq (fun μ' hk hr => v_M_strength_22 ⟨vp_in_nI (by omega) (by decide), ?_⟩)
    rw [nI_clamp (by omega), hr.1 p hp]
    exact k μ' hk
  · rw [if_neg (fun z => c2 z.2)] at k
    exact k μ kr_keep.rf
theorem kx_mm_pos {m : Nat} (h : m ≤ 60) : ((nI m ≤ 0 → kx_mm m = -4) ∧ (¬ nI m ≤ 0 → kx_mm m = nI m)) := by
  rw [show (0 : Int32) = nI 0 from rfl, nI_leI (by omega) (by decide)]
  unfold kx_mm
  exact ⟨fun z => if_pos (by omega), fun z => if_neg (by omega)⟩
theorem c_C_comes {d : Nat} {Q : kr_Q} {μ : kr_M} {g t : Nat → Nat} {P D K : Nat} (hw : kr_wf g P D K t) (hR : kr_Rg μ 1 g P D K t) {x : Int32} (k : ∀ μ', kr_keep [25, 26, 28, 29, 30, 31, 32, 33] [] μ μ' → Q (some (.int (ax_comes g t K x))) μ') : kr_c (d + 7) i_C_comes [.ref 0, .int x] μ Q := by
  have hlim := hw.1.2.2.2.2
  refine v_C_comes ?_
  rw [hR.1.2.2.2.2.1]
  unfold ax_comes at k
  refine ⟨fun c => ?_, fun c => ?_⟩
  · rw [if_pos c] at k
    obtain ⟨p, hp, rfl⟩ := kr_ix (by omega) c
    rw [nI_clamp (by omega)] at k
    have vp : vp_in (nI p) 5 := vp_in_nI (by omega) (by decide)
    refine c_K_run' (n := 60) (ex := 0) hw hR (by decide) (Nat.le_refl _) (fun μ' hk hr => v_C_comes_23 ⟨vp, ?_⟩)
    obtain ⟨-, -, a3, -⟩ := kx_run_A (ex := 0) (n := 60) hw (Nat.le_refl _) hp
    have k2 := k μ' hk
    obtain ⟨m1, m2⟩ := kx_mm_pos a3
    rw [nI_clamp (by omega), (hr.2 p hp).2.2.2]
    refine ⟨fun z => ?_, fun z => ⟨vp, ?_⟩⟩
    · rw [m1 z] at k2; exact k2
    · rw [m2 z] at k2; exact k2
  · rw [if_neg c] at k
    exact k μ kr_keep.rf
theorem c_M_comes {d : Nat} {Q : kr_Q} {μ : kr_M} {g t : Nat → Nat} {P D K : Nat} (hw : kr_wf g P D K t) (hI : kr_MI μ g P D K t) {x : Int32} (k : ∀ μ', kr_keep [72, 73, 74, 75, 76, 77, 78] [(65, 28)] μ μ' → Q (some (.int (ax_comes g t K x))) μ') : kr_c (d + 6) i_M_comes [.ref 65, .int x] μ Q := by
  obtain ⟨hM, hP, -, -, h29⟩ := hI
  have hlim := hw.1.2.2.2.2
  refine v_M_comes ?_
  rw [hP.1, kr_le1 (by omega)]
  unfold ax_comes at k
  refine ⟨fun c => ?_, fun c => ?_⟩
  · rw [if_pos c] at k
    obtain ⟨p, hp, rfl⟩ := kr_ix (by omega) c
    rw [nI_clamp (by omega)] at k
    refine c_M_runs' (n := 60) (ex := 0) hw hM hP h29 (by decide) (Nat.le_refl _) (fun μ' hk hr => v_M_comes_16 ⟨vp_in_nI (by omega) (by decide), ?_⟩)
    rw [nI_clamp (by omega), (hr.2.2 p hp).2.2.2.2]
    exact k μ' hk
  · rw [if_neg c] at k
    exact k μ kr_keep.rf
theorem c_K_whoIsLost {d : Nat} {Q : kr_Q} {μ : kr_M} {g : Nat → Nat} {K : Nat} {R : kx_R} (hK : μ.1 1 10 = nI K) (hK5 : K ≤ 5) (hA : ∀ p, p < K → R.2.1 p ≤ 1000) (hR : kr_RC μ g K R) (k : Q (some (.int (nI (kr_bm K (fun p => R.2.1 p == 1000))))) μ) : kr_c (d + 1) i_K_whoIsLost [.ref 27] μ Q := by
  refine v_K_whoIsLost ?_
  refine kr_up (I := fun i => kr_Wp C_K_whoIsLost (kr_c d) Q 4 [some (.ref 27), some (.int (nI (kr_bm i (fun p => R.2.1 p == 1000)))), some (.int (nI i))] [] μ) K ?_ ?_ 0 (Nat.zero_le _)
  · refine v_K_whoIsLost_4 (br_t ?_ k)
    rw [hK]
    exact Int32.le_refl _
  · intro p hp ih
    refine v_K_whoIsLost_4 (br_f ?_ ⟨vp_in_nI (by omega) (by decide), ?_⟩)
    · rw [hK]; exact nI_ge hp (by omega)
    have a := hA p hp
    have e4 : kx_pw (R.2.1 p) = -4 ↔ R.2.1 p = 1000 := by
      unfold kx_pw
      by_cases c : R.2.1 p = 1000
      · rw [if_pos c]; exact ⟨fun _ => c, fun _ => rfl⟩
      · rw [if_neg c]; exact ⟨fun z => absurd z (kx_neg4 (by omega)), fun z => absurd z c⟩
    rw [nI_clamp (by omega), (hR.2 p hp).1, e4, kr_1sh p (by omega), kr_or, kr_n1]
    rw [kx_bl] at ih
    refine ⟨fun c => ?_, fun c => ?_⟩
    · rw [if_neg (by simp [c]), Nat.or_zero] at ih
      exact ih
    · rw [if_pos (by simp [c])] at ih
      exact ih
theorem c_C_lost {d : Nat} {Q : kr_Q} {μ : kr_M} {g t : Nat → Nat} {P D K : Nat} (hw : kr_wf g P D K t) (hR : kr_Rg μ 1 g P D K t) {x : Int32} (k : ∀ μ', kr_keep [25, 26, 28, 29, 30, 31, 32, 33] [] μ μ' → Q (some (.int (ax_lost g t K x))) μ') : kr_c (d + 7) i_C_lost [.ref 0, .int x] μ Q := by
  refine v_C_lost ?_
  unfold ax_lost at k
  refine ⟨fun c => ?_, fun c => ?_⟩
  · rw [if_pos c] at k
    obtain ⟨q, hq, rfl⟩ := kr_ix60 c
    rw [nI_clamp (by omega)] at k
    refine c_K_run' (ex := 0) hw hR (by decide) hq (fun μ' hk hr => v_C_lost_18 ?_)
    exact c_K_whoIsLost (by rw [hk.2 1 10 (by decide) (by decide)]; exact hR.1.2.2.2.2.1) hw.1.2.2.2.2 (fun p hp => (kx_run_A hw hq hp).1) hr (v_C_lost_25 (k μ' hk))
  · rw [if_neg c] at k
    exact k μ kr_keep.rf
theorem c_M_lost {d : Nat} {Q : kr_Q} {μ : kr_M} {g t : Nat → Nat} {P D K : Nat} (hw : kr_wf g P D K t) (hI : kr_MI μ g P D K t) {x : Int32} (k : ∀ μ', kr_keep [72, 73, 74, 75, 76, 77, 78] [(65, 28)] μ μ' → Q (some (.int (ax_lost g t K x))) μ') : kr_c (d + 6) i_M_lost [.ref 65, .int x] μ Q := by
  obtain ⟨hM, hP, -, -, h29⟩ := hI
  refine v_M_lost ?_
  unfold ax_lost at k
  refine ⟨fun c => ?_, fun c => ?_⟩
  · rw [if_pos c] at k
    obtain ⟨q, hq, rfl⟩ := kr_ix60 c
    rw [nI_clamp (by omega)] at k
    refine c_M_runs' (ex := 0) hw hM hP h29 (by decide) hq (fun μ' hk hr => v_M_lost_14 ?_)
    rw [hr.2.1]
    exact k μ' hk
  · rw [if_neg c] at k
    exact k μ kr_keep.rf
theorem c_C_storm {d : Nat} {Q : kr_Q} {μ : kr_M} {g t : Nat → Nat} {P D K : Nat} (hw : kr_wf g P D K t) (hR : kr_Rg μ 1 g P D K t) {x : Int32} (k : ∀ μ', kr_keep [25, 26, 28, 29, 30, 31, 32, 33] [] μ μ' → Q (some (.int (ax_storm g t K x))) μ') : kr_c (d + 7) i_C_storm [.ref 0, .int x] μ Q := by
  have hN := hw.1.1
  have hK5 := hw.1.2.2.2.2
  refine v_C_storm ?_
  unfold ax_storm at k
  refine ⟨fun c => ?_, fun c => ?_⟩
  · rw [if_pos c] at k
    obtain ⟨q, hq, rfl⟩ := kr_ix60 c
    rw [nI_clamp (by omega)] at k
    refine c_K_run' (ex := 0) hw hR (by decide) hq (fun μ' hk hr => v_C_storm_18 (v_K_whoIsInTheOpen (d := d + 3) ?_))
    have hK : μ'.1 1 10 = nI K := by rw [hk.2 1 10 (by decide) (by decide)]; exact hR.1.2.2.2.2.1
    have h7 : μ'.1 1 7 = nI (kr_bm (g 0) (fun l => kr_gk g l 4 == 1)) := by rw [hk.2 1 7 (by decide) (by decide)]; exact hR.h7
    have hlt : kr_bm (g 0) (fun l => kr_gk g l 4 == 1) < 2 ^ 12 := Nat.lt_of_lt_of_le (kr_bm_lt _ _) (Nat.pow_le_pow_right (by decide) hN)
    refine kr_up (I := fun i => kr_Wp C_K_whoIsInTheOpen (kr_c (d + 5)) _ 4 [some (.ref 27), some (.int (nI (kr_bm i (kx_open g t K q)))), some (.int (nI i))] [] μ') K ?_ ?_ 0 (Nat.zero_le _)
    · refine v_K_whoIsInTheOpen_4 (br_t ?_ (v_C_storm_25 (k μ' hk)))
      rw [hK]
      exact Int32.le_refl _
    · intro p hp ih
      have vp : vp_in (nI p) 5 := vp_in_nI (by omega) (by decide)
      obtain ⟨a1, a2, -, -⟩ := kx_run_A (ex := 0) hw hq hp
      refine v_K_whoIsInTheOpen_4 (br_f ?_ ⟨vp, ?_⟩)
      · rw [hK]; exact nI_ge hp (by omega)
      rw [nI_clamp (by omega), (hr.2 p hp).1, show (100 : Int32) = nI 100 from rfl, kx_pw_lt a1 (by decide), kr_1sh p (by omega), kr_or, kr_n1]
      rw [kx_bl] at ih
      have eo : kx_open g t K q p = decide (100 ≤ (kx_run g t K 0 q).2.1 p ∧ (kx_run g t K 0 q).2.1 p < 1000 ∧ kr_gk g ((kx_run g t K 0 q).2.1 p - 100) 4 = 0) := rfl
      refine ⟨fun c => ?_, fun c => ⟨vp, ?_⟩⟩
      · rw [if_neg (by rw [eo]; simp; omega), Nat.or_zero] at ih
        exact ih
      · have hl := a2 (by omega) (by omega)
        have h4 := (hw.gb.2.2 _ hl).2.2.2.2.2.2
        rw [show kx_pw ((kx_run g t K 0 q).2.1 p) = nI ((kx_run g t K 0 q).2.1 p) from if_neg (by omega), pk_sub (by omega), h7, kr_bit0 (by omega) (by omega), kr_bm_bit]
        refine ⟨fun c2 => ?_, fun c2 => ?_⟩
        · rw [if_neg (by
            rw [eo]
            simp only [decide_eq_true_eq]
            intro z
            apply c2
            simp [z.2.2]), Nat.or_zero] at ih
          exact ih
        · rw [if_pos (by
            rw [eo]
            simp only [decide_eq_true_eq]
            have c2 := Decidable.not_not.mp c2
            simp [hl] at c2
            omega)] at ih
          exact ih
  · rw [if_neg c] at k
    exact k μ kr_keep.rf
theorem c_M_storm {d : Nat} {Q : kr_Q} {μ : kr_M} {g t : Nat → Nat} {P D K : Nat} (hw : kr_wf g P D K t) (hI : kr_MI μ g P D K t) {x : Int32} (k : ∀ μ', kr_keep [72, 73, 74, 75, 76, 77, 78] [(65, 28)] μ μ' → Q (some (.int (ax_storm g t K x))) μ') : kr_c (d + 6) i_M_storm [.ref 65, .int x] μ Q := by
  obtain ⟨hM, hP, -, -, h29⟩ := hI
  have hN := hw.1.1
  have hK5 := hw.1.2.2.2.2
  refine v_M_storm ?_
  unfold ax_storm at k
  refine ⟨fun c => ?_, fun c => ?_⟩
  · rw [if_pos c] at k
    obtain ⟨q, hq, rfl⟩ := kr_ix60 c
    rw [nI_clamp (by omega)] at k
    refine c_M_runs' (ex := 0) hw hM hP h29 (by decide) hq (fun μ' hk hr => v_M_storm_14 ?_)
    have hM' := hM.kp hk (by decide)
    refine kr_up (I := fun i => kr_Wp C_M_storm (kr_c (d + 5)) Q 18 [some (.ref 65), some (.int (nI q)), some (.int (nI (kr_bm i (kx_open g t K q)))), some (.int (nI i))] [] μ') K ?_ ?_ 0 (Nat.zero_le _)
    · refine v_M_storm_18 (br_t ?_ (k μ' hk))
      rw [(hP.kp hk (by decide)).1]
      exact Int32.le_refl _
    · intro p hp ih
      have vp : vp_in (nI p) 5 := vp_in_nI (by omega) (by decide)
      obtain ⟨a1, a2, -, -⟩ := kx_run_A (ex := 0) hw hq hp
      refine v_M_storm_18 (br_f ?_ ⟨vp, ?_⟩)
      · rw [(hP.kp hk (by decide)).1]; exact nI_ge hp (by omega)
      rw [nI_clamp (by omega), (hr.2.2 p hp).1, kx_on_n a1, kr_1sh p (by omega), kr_or, kr_or0 _ p (by omega), kr_n1]
      rw [kx_bl] at ih
      have eo : kx_open g t K q p = decide (100 ≤ (kx_run g t K 0 q).2.1 p ∧ (kx_run g t K 0 q).2.1 p < 1000 ∧ kr_gk g ((kx_run g t K 0 q).2.1 p - 100) 4 = 0) := rfl
      refine ⟨fun c => ?_, fun c => ⟨vp, ?_⟩⟩
      · rw [if_neg (by rw [eo]; simp; omega), Nat.or_zero] at ih
        exact ih
      · have c := Decidable.not_not.mp c
        have hl := a2 c.1 c.2
        have h4 := (hw.gb.2.2 _ hl).2.2.2.2.2.2
        rw [show kx_on ((kx_run g t K 0 q).2.1 p) = nI ((kx_run g t K 0 q).2.1 p - 100) from if_pos c, kr_ofg4 hM' (by omega), kr_eq0 (by omega)]
        refine ⟨kr_ofv4 (by omega), fun c2 => ?_, fun c2 => ?_⟩
        · rw [if_neg (by rw [eo]; simp; omega), Nat.or_zero] at ih
          exact ih
        · rw [if_pos (by rw [eo]; simp; omega)] at ih
          exact ih
  · rw [if_neg c] at k
    exact k μ kr_keep.rf
