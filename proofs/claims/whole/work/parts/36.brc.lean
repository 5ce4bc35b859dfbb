/-! breaks: as numbers, and the class -/
theorem st_U_fits {d : Nat} {Q : kr_Q} {pc : Nat} {ls : kr_L} {st : List Value} {μ : kr_M} (h : C_U_fits pc (kr_Wp C_U_fits (kr_c d) Q) (kr_c d) Q ls st μ) : kr_Wp C_U_fits (kr_c d) Q pc ls st μ := kr_Wp.step (fun pc => (kr_ok_U_fits pc).2) (kr_c_om d) h
theorem v_U_fits {d : Nat} {Q : kr_Q} {μ : kr_M} {a1 : Int32} (h : kr_Wp C_U_fits (kr_c (d + 1)) Q 2 [some (.ref 38), some (.int a1), some (.int 0), none] [] μ) : kr_c (d + 2) i_U_fits [.ref 38, .int a1] μ Q := ⟨rfl, (st_U_fits (st_U_fits h))⟩
theorem v_U_fits_2 {d : Nat} {Q : kr_Q} {μ : kr_M} {a1 : Int32} {a2 : Int32} (h : (((μ.1 1 15) ≤ a2 → Q (some (.int 1)) μ) ∧ (¬ ((μ.1 1 15) ≤ a2) → vp_in a2 8 ∧ ((¬ ((μ.1 10 a2.toNatClampNeg) &&& a1) = 0 → (((0 : Int32) = (if ¬ ((μ.1 1 17) >>> (a2 &&& 31)) &&& 1 = 0 then 1 else 0) → kr_Wp C_U_fits (kr_c (d + 1)) Q 2 [some (.ref 38), some (.int a1), some (.int (a2 + 1)), none] [] μ) ∧ (¬ ((0 : Int32) = (if ¬ ((μ.1 1 17) >>> (a2 &&& 31)) &&& 1 = 0 then 1 else 0)) → Q (some (.int 0)) μ))) ∧ (((μ.1 10 a2.toNatClampNeg) &&& a1) = 0 → (((1 : Int32) = (if ¬ ((μ.1 1 17) >>> (a2 &&& 31)) &&& 1 = 0 then 1 else 0) → kr_Wp C_U_fits (kr_c (d + 1)) Q 2 [some (.ref 38), some (.int a1), some (.int (a2 + 1)), none] [] μ) ∧ (¬ ((1 : Int32) = (if ¬ ((μ.1 1 17) >>> (a2 &&& 31)) &&& 1 = 0 then 1 else 0)) → Q (some (.int 0)) μ))))))) : kr_Wp C_U_fits (kr_c (d + 1)) Q 2 [some (.ref 38), some (.int a1), some (.int a2), none] [] μ := (st_U_fits (st_U_fits (st_U_fits (And.intro rfl (st_U_fits (And.intro rfl (st_U_fits (And.intro (fun z1x => (st_U_fits (st_U_fits (And.intro (by decide) (h.1 z1x))))) (fun z1x => (st_U_fits (st_U_fits (And.intro rfl (st_U_fits (And.intro rfl (st_U_fits (st_U_fits (And.intro ⟨8, rfl, (h.2 z1x).1⟩ (st_U_fits (st_U_fits (st_U_fits (And.intro (fun z2x => (st_U_fits (st_U_fits (st_U_fits (st_U_fits (st_U_fits (And.intro rfl (st_U_fits (And.intro rfl (st_U_fits (st_U_fits (c_C_has (st_U_fits (And.intro (fun z3x => (st_U_fits (st_U_fits (kr_Wp.lm [true, true, true, false] (((h.2 z1x).2.1 z2x).1 z3x))))) (fun z3x => (st_U_fits (st_U_fits (And.intro (by decide) (((h.2 z1x).2.1 z2x).2 z3x))))))))))))))))))) (fun z2x => (st_U_fits (st_U_fits (st_U_fits (st_U_fits (st_U_fits (st_U_fits (And.intro rfl (st_U_fits (And.intro rfl (st_U_fits (st_U_fits (c_C_has (st_U_fits (And.intro (fun z4x => (st_U_fits (st_U_fits (kr_Wp.lm [true, true, true, false] (((h.2 z1x).2.2 (Decidable.not_not.mp z2x)).1 z4x))))) (fun z4x => (st_U_fits (st_U_fits (And.intro (by decide) (((h.2 z1x).2.2 (Decidable.not_not.mp z2x)).2 z4x)))))))))))))))))))))))))))))))))))))))))
theorem st_U_add {d : Nat} {Q : kr_Q} {pc : Nat} {ls : kr_L} {st : List Value} {μ : kr_M} (h : C_U_add pc (kr_Wp C_U_add (kr_c d) Q) (kr_c d) Q ls st μ) : kr_Wp C_U_add (kr_c d) Q pc ls st μ := kr_Wp.step (fun pc => (kr_ok_U_add pc).2) (kr_c_om d) h
theorem v_U_add {d : Nat} {Q : kr_Q} {μ : kr_M} {a1 : Int32} (h : kr_Wp C_U_add (kr_c (d + 1)) Q 32 [some (.ref 38), some (.int a1), some (.int 0)] [] (kr_u (kr_u (kr_u μ 38 1 ((μ.1 38 1) + (1 : Int32))) 38 5 ((μ.1 38 5) &&& a1)) 38 6 ((μ.1 38 6) ||| a1))) : kr_c (d + 2) i_U_add [.ref 38, .int a1] μ Q := ⟨rfl, (st_U_add (st_U_add (st_U_add (And.intro rfl (st_U_add (st_U_add (st_U_add (And.intro rfl (st_U_add (st_U_add (st_U_add (And.intro rfl (st_U_add (st_U_add (st_U_add (And.intro rfl (st_U_add (st_U_add (st_U_add (And.intro rfl (st_U_add (st_U_add (st_U_add (And.intro rfl (st_U_add (st_U_add h))))))))))))))))))))))))))⟩
theorem v_U_add_32 {d : Nat} {Q : kr_Q} {μ : kr_M} {a1 : Int32} {a2 : Int32} (h : (((μ.1 1 2) ≤ a2 → kr_c (d + 1) i_J6_bitCount [.int a1] μ (kr_bk (kr_Wp C_U_add (kr_c (d + 1)) Q) 70 [some (.ref 38), some (.int a1), some (.int a2)] [])) ∧ (¬ ((μ.1 1 2) ≤ a2) → vp_in a2 12 ∧ vp_in a2 12 ∧ kr_Wp C_U_add (kr_c (d + 1)) Q 32 [some (.ref 38), some (.int a1), some (.int (a2 + 1))] [] (kr_u μ 39 a2.toNatClampNeg ((μ.1 39 a2.toNatClampNeg) + (if ¬ (a1 >>> (a2 &&& 31)) &&& 1 = 0 then (1 : Int32) else 0)))))) : kr_Wp C_U_add (kr_c (d + 1)) Q 32 [some (.ref 38), some (.int a1), some (.int a2)] [] μ := (st_U_add (st_U_add (st_U_add (And.intro rfl (st_U_add (And.intro rfl (st_U_add (And.intro (fun z1x => (st_U_add (st_U_add (h.1 z1x)))) (fun z1x => (st_U_add (st_U_add (And.intro rfl (st_U_add (st_U_add (st_U_add (And.intro ⟨12, rfl, (h.2 z1x).1⟩ (st_U_add (st_U_add (st_U_add (c_C_has (st_U_add (c_C_bitP (st_U_add (st_U_add (And.intro ⟨12, rfl, (h.2 z1x).2.1⟩ (st_U_add (st_U_add (h.2 z1x).2.2)))))))))))))))))))))))))))
theorem v_U_add_70 {d : Nat} {Q : kr_Q} {μ : kr_M} {a1 : Int32} {a2 : Int32} {r : Int32} (h : (((μ.1 38 2) ≤ r → ((¬ r = (μ.1 38 2) → Q none μ) ∧ (r = (μ.1 38 2) → Q none (kr_u μ 38 4 ((μ.1 38 4) + (1 : Int32)))))) ∧ (¬ ((μ.1 38 2) ≤ r) → ((¬ r = r → Q none (kr_u (kr_u (kr_u μ 38 2 r) 38 3 a1) 38 4 0)) ∧ (r = r → Q none (kr_u (kr_u (kr_u (kr_u μ 38 2 r) 38 3 a1) 38 4 0) 38 4 ((0 : Int32) + (1 : Int32)))))))) : kr_Wp C_U_add (kr_c (d + 1)) Q 70 [some (.ref 38), some (.int a1), some (.int a2)] [.int r] μ := (st_U_add (st_U_add (st_U_add (st_U_add (And.intro rfl (st_U_add (And.intro (fun z1x => (st_U_add (st_U_add (st_U_add (And.intro rfl (st_U_add (And.intro (fun z2x => (st_U_add ((h.1 z1x).1 z2x))) (fun z2x => (st_U_add (st_U_add (st_U_add (And.intro rfl (st_U_add (st_U_add (st_U_add (And.intro rfl (st_U_add ((h.1 z1x).2 (Decidable.not_not.mp z2x))))))))))))))))))) (fun z1x => (st_U_add (st_U_add (st_U_add (And.intro rfl (st_U_add (st_U_add (st_U_add (And.intro rfl (st_U_add (st_U_add (st_U_add (And.intro rfl (st_U_add (st_U_add (st_U_add (And.intro rfl (st_U_add (And.intro (fun z3x => (st_U_add ((h.2 z1x).1 z3x))) (fun z3x => (st_U_add (st_U_add (st_U_add (And.intro rfl (st_U_add (st_U_add (st_U_add (And.intro rfl (st_U_add ((h.2 z1x).2 (Decidable.not_not.mp z3x))))))))))))))))))))))))))))))))))))))
theorem st_U_reckon {d : Nat} {Q : kr_Q} {pc : Nat} {ls : kr_L} {st : List Value} {μ : kr_M} (h : C_U_reckon pc (kr_Wp C_U_reckon (kr_c d) Q) (kr_c d) Q ls st μ) : kr_Wp C_U_reckon (kr_c d) Q pc ls st μ := kr_Wp.step (fun pc => (kr_ok_U_reckon pc).2) (kr_c_om d) h
theorem v_U_reckon {d : Nat} {Q : kr_Q} {μ : kr_M}  (h : kr_Wp C_U_reckon (kr_c (d + 2)) Q 40 [some (.ref 38), some (.int 0)] [] (kr_u (kr_u (kr_u (kr_u (kr_u (kr_u μ 38 1 0) 38 2 13) 38 3 (-4)) 38 4 0) 38 5 (((1 : Int32) <<< ((μ.1 1 2) &&& 31)) - (1 : Int32))) 38 6 0)) : kr_c (d + 3) i_U_reckon [.ref 38] μ Q := ⟨rfl, (st_U_reckon (st_U_reckon (st_U_reckon (And.intro rfl (st_U_reckon (st_U_reckon (st_U_reckon (And.intro rfl (st_U_reckon (st_U_reckon (st_U_reckon (And.intro rfl (st_U_reckon (st_U_reckon (st_U_reckon (And.intro rfl (st_U_reckon (st_U_reckon (st_U_reckon (And.intro rfl (st_U_reckon (And.intro rfl (v_R_allLines (st_U_reckon (And.intro rfl (st_U_reckon (st_U_reckon (st_U_reckon (And.intro rfl (st_U_reckon (st_U_reckon h)))))))))))))))))))))))))))))))⟩
theorem v_U_reckon_40 {d : Nat} {Q : kr_Q} {μ : kr_M} {a1 : Int32} (h : (((12 : Int32) ≤ a1 → kr_Wp C_U_reckon (kr_c (d + 2)) Q 61 [some (.ref 38), some (.int 0)] [] μ) ∧ (¬ ((12 : Int32) ≤ a1) → vp_in a1 12 ∧ kr_Wp C_U_reckon (kr_c (d + 2)) Q 40 [some (.ref 38), some (.int (a1 + 1))] [] (kr_u μ 39 a1.toNatClampNeg 0)))) : kr_Wp C_U_reckon (kr_c (d + 2)) Q 40 [some (.ref 38), some (.int a1)] [] μ := (st_U_reckon (st_U_reckon (st_U_reckon (And.intro (fun z1x => (st_U_reckon (st_U_reckon (h.1 z1x)))) (fun z1x => (st_U_reckon (st_U_reckon (And.intro rfl (st_U_reckon (st_U_reckon (st_U_reckon (And.intro ⟨12, rfl, (h.2 z1x).1⟩ (st_U_reckon (st_U_reckon (h.2 z1x).2))))))))))))))
theorem v_U_reckon_61 {d : Nat} {Q : kr_Q} {μ : kr_M} {a1 : Int32} (h : (((((1 : Int32) <<< ((μ.1 1 2) &&& 31)) - (1 : Int32)) < a1 → Q none μ) ∧ (¬ ((((1 : Int32) <<< ((μ.1 1 2) &&& 31)) - (1 : Int32)) < a1) → kr_c (d + 2) i_U_fits [.ref 38, .int a1] μ (kr_bk (kr_Wp C_U_reckon (kr_c (d + 2)) Q) 77 [some (.ref 38), some (.int a1)] [])))) : kr_Wp C_U_reckon (kr_c (d + 2)) Q 61 [some (.ref 38), some (.int a1)] [] μ := (st_U_reckon (st_U_reckon (st_U_reckon (And.intro rfl (st_U_reckon (And.intro rfl (v_R_allLines (st_U_reckon (And.intro (fun z1x => (st_U_reckon (h.1 z1x))) (fun z1x => (st_U_reckon (st_U_reckon (st_U_reckon (And.intro rfl (h.2 z1x)))))))))))))))
theorem v_U_reckon_77 {d : Nat} {Q : kr_Q} {μ : kr_M} {a1 : Int32} {r : Int32} (h : ((r = 0 → kr_Wp C_U_reckon (kr_c (d + 2)) Q 61 [some (.ref 38), some (.int (a1 + 1))] [] μ) ∧ (¬ (r = 0) → kr_c (d + 2) i_U_add [.ref 38, .int a1] μ (kr_bk (kr_Wp C_U_reckon (kr_c (d + 2)) Q) 85 [some (.ref 38), some (.int a1)] [])))) : kr_Wp C_U_reckon (kr_c (d + 2)) Q 77 [some (.ref 38), some (.int a1)] [.int r] μ := (st_U_reckon (And.intro (fun z1x => (st_U_reckon (st_U_reckon (h.1 z1x)))) (fun z1x => (st_U_reckon (st_U_reckon (st_U_reckon (And.intro rfl (h.2 z1x))))))))
theorem v_U_reckon_85 {d : Nat} {Q : kr_Q} {μ : kr_M} {a1 : Int32} (h : kr_Wp C_U_reckon (kr_c (d + 2)) Q 61 [some (.ref 38), some (.int (a1 + 1))] [] μ) : kr_Wp C_U_reckon (kr_c (d + 2)) Q 85 [some (.ref 38), some (.int a1)] [] μ := (st_U_reckon (st_U_reckon h))
theorem st_U_leftAtWorst {d : Nat} {Q : kr_Q} {pc : Nat} {ls : kr_L} {st : List Value} {μ : kr_M} (h : C_U_leftAtWorst pc (kr_Wp C_U_leftAtWorst (kr_c d) Q) (kr_c d) Q ls st μ) : kr_Wp C_U_leftAtWorst (kr_c d) Q pc ls st μ := kr_Wp.step (fun pc => (kr_ok_U_leftAtWorst pc).2) (kr_c_om d) h
theorem v_U_leftAtWorst {d : Nat} {Q : kr_Q} {μ : kr_M} {a1 : Int32} (h : vp_in a1 12 ∧ vp_in a1 12 ∧ Q (some (.int (if (μ.1 39 a1.toNatClampNeg) < ((μ.1 38 1) - (μ.1 39 a1.toNatClampNeg)) then ((μ.1 38 1) - (μ.1 39 a1.toNatClampNeg)) else (μ.1 39 a1.toNatClampNeg)))) μ) : kr_c (d + 1) i_U_leftAtWorst [.ref 38, .int a1] μ Q := ⟨rfl, (st_U_leftAtWorst (st_U_leftAtWorst (And.intro rfl (st_U_leftAtWorst (st_U_leftAtWorst (And.intro ⟨12, rfl, h.1⟩ (st_U_leftAtWorst (st_U_leftAtWorst (And.intro rfl (st_U_leftAtWorst (st_U_leftAtWorst (And.intro rfl (st_U_leftAtWorst (st_U_leftAtWorst (And.intro ⟨12, rfl, h.2.1⟩ (st_U_leftAtWorst (st_U_leftAtWorst (st_U_leftAtWorst h.2.2))))))))))))))))))⟩
theorem c_U_leftAtWorst {d : Nat} {Q : kr_Q} {μ : kr_M} {l m w : Nat} (hl : l < 12) (h1 : μ.1 38 1 = nI m) (h2 : μ.1 39 l = nI w) (hw : w ≤ m) (hm : m < 2 ^ 31) (k : Q (some (.int (nI (if w < m - w then m - w else w)))) μ) : kr_c (d + 1) i_U_leftAtWorst [.ref 38, .int (nI l)] μ Q := by
  refine v_U_leftAtWorst ⟨vp_in_nI hl (by decide), vp_in_nI hl (by decide), ?_⟩
  rw [nI_clamp (by omega), h1, h2, pk_sub hw]
  by_cases c : w < m - w
  · rw [if_pos ((nI_ltI (by omega) (by omega)).mpr c)]
    rw [if_pos c] at k
    exact k
  · rw [if_neg (fun z => c ((nI_ltI (by omega) (by omega)).mp z))]
    rw [if_neg c] at k
    exact k
theorem st_U_bestToAsk {d : Nat} {Q : kr_Q} {pc : Nat} {ls : kr_L} {st : List Value} {μ : kr_M} (h : C_U_bestToAsk pc (kr_Wp C_U_bestToAsk (kr_c d) Q) (kr_c d) Q ls st μ) : kr_Wp C_U_bestToAsk (kr_c d) Q pc ls st μ := kr_Wp.step (fun pc => (kr_ok_U_bestToAsk pc).2) (kr_c_om d) h
theorem v_U_bestToAsk {d : Nat} {Q : kr_Q} {μ : kr_M}  (h : kr_Wp C_U_bestToAsk (kr_c (d + 1)) Q 10 [some (.ref 38), some (.int (-4)), some (.int (μ.1 38 1)), some (.int 0)] [] μ) : kr_c (d + 2) i_U_bestToAsk [.ref 38] μ Q := ⟨rfl, (st_U_bestToAsk (st_U_bestToAsk (st_U_bestToAsk (st_U_bestToAsk (And.intro rfl (st_U_bestToAsk (st_U_bestToAsk (st_U_bestToAsk h))))))))⟩
theorem v_U_bestToAsk_10 {d : Nat} {Q : kr_Q} {μ : kr_M} {a1 : Int32} {a2 : Int32} {a3 : Int32} (h : (((μ.1 1 2) ≤ a3 → Q (some (.int a1)) μ) ∧ (¬ ((μ.1 1 2) ≤ a3) → kr_c (d + 1) i_U_leftAtWorst [.ref 38, .int a3] μ (kr_bk (kr_Wp C_U_bestToAsk (kr_c (d + 1)) Q) 26 [some (.ref 38), some (.int a1), some (.int a2), some (.int a3)] [])))) : kr_Wp C_U_bestToAsk (kr_c (d + 1)) Q 10 [some (.ref 38), some (.int a1), some (.int a2), some (.int a3)] [] μ := (st_U_bestToAsk (st_U_bestToAsk (st_U_bestToAsk (And.intro rfl (st_U_bestToAsk (And.intro rfl (st_U_bestToAsk (And.intro (fun z1x => (st_U_bestToAsk (st_U_bestToAsk (h.1 z1x)))) (fun z1x => (st_U_bestToAsk (st_U_bestToAsk (st_U_bestToAsk (And.intro rfl (h.2 z1x))))))))))))))
theorem v_U_bestToAsk_26 {d : Nat} {Q : kr_Q} {μ : kr_M} {a1 : Int32} {a2 : Int32} {a3 : Int32} {r : Int32} (h : ((a2 ≤ r → kr_Wp C_U_bestToAsk (kr_c (d + 1)) Q 10 [some (.ref 38), some (.int a1), some (.int a2), some (.int (a3 + 1))] [] μ) ∧ (¬ (a2 ≤ r) → kr_c (d + 1) i_U_leftAtWorst [.ref 38, .int a3] μ (kr_bk (kr_Wp C_U_bestToAsk (kr_c (d + 1)) Q) 35 [some (.ref 38), some (.int a1), some (.int a2), some (.int a3)] [])))) : kr_Wp C_U_bestToAsk (kr_c (d + 1)) Q 26 [some (.ref 38), some (.int a1), some (.int a2), some (.int a3)] [.int r] μ := (st_U_bestToAsk (st_U_bestToAsk (And.intro (fun z1x => (st_U_bestToAsk (st_U_bestToAsk (h.1 z1x)))) (fun z1x => (st_U_bestToAsk (st_U_bestToAsk (st_U_bestToAsk (And.intro rfl (h.2 z1x)))))))))
theorem v_U_bestToAsk_35 {d : Nat} {Q : kr_Q} {μ : kr_M} {a1 : Int32} {a2 : Int32} {a3 : Int32} {r : Int32} (h : kr_Wp C_U_bestToAsk (kr_c (d + 1)) Q 10 [some (.ref 38), some (.int a3), some (.int r), some (.int (a3 + 1))] [] μ) : kr_Wp C_U_bestToAsk (kr_c (d + 1)) Q 35 [some (.ref 38), some (.int a1), some (.int a2), some (.int a3)] [.int r] μ := (st_U_bestToAsk (st_U_bestToAsk (st_U_bestToAsk (st_U_bestToAsk (st_U_bestToAsk h)))))
theorem st_C_breaks {d : Nat} {Q : kr_Q} {pc : Nat} {ls : kr_L} {st : List Value} {μ : kr_M} (h : C_C_breaks pc (kr_Wp C_C_breaks (kr_c d) Q) (kr_c d) Q ls st μ) : kr_Wp C_C_breaks (kr_c d) Q pc ls st μ := kr_Wp.step (fun pc => (kr_ok_C_breaks pc).2) (kr_c_om d) h
theorem v_C_breaks {d : Nat} {Q : kr_Q} {μ : kr_M} {a1 : Int32} (h : ((a1 < 0 → Q (some (.int (-1))) μ) ∧ (¬ (a1 < 0) → ((a1 ≤ 3 → kr_c (d + 3) i_U_reckon [.ref 38] μ (kr_bk (kr_Wp C_C_breaks (kr_c (d + 3)) Q) 18 [some (.ref 0), some (.int a1)] [])) ∧ (¬ (a1 ≤ 3) → Q (some (.int (-1))) μ))))) : kr_c (d + 4) i_C_breaks [.ref 0, .int a1] μ Q := ⟨rfl, (st_C_breaks (st_C_breaks (And.intro (fun z1x => (st_C_breaks (st_C_breaks (h.1 z1x)))) (fun z1x => (st_C_breaks (st_C_breaks (st_C_breaks (And.intro (fun z2x => (st_C_breaks (st_C_breaks (And.intro rfl (st_C_breaks (And.intro rfl ((h.2 z1x).1 z2x))))))) (fun z2x => (st_C_breaks (st_C_breaks ((h.2 z1x).2 z2x))))))))))))⟩
theorem v_C_breaks_18 {d : Nat} {Q : kr_Q} {μ : kr_M} {a1 : Int32} (h : ((¬ a1 = 0 → ((¬ a1 = 3 → ((¬ (μ.1 38 1) = 0 → ((¬ a1 = 1 → Q (some (.int (μ.1 38 3))) μ) ∧ (a1 = 1 → Q (some (.int (μ.1 38 2))) μ))) ∧ ((μ.1 38 1) = 0 → Q (some (.int (-4))) μ))) ∧ (a1 = 3 → Q (some (.int (μ.1 38 4))) μ))) ∧ (a1 = 0 → Q (some (.int (μ.1 38 1))) μ))) : kr_Wp C_C_breaks (kr_c (d + 3)) Q 18 [some (.ref 0), some (.int a1)] [] μ := (st_C_breaks (st_C_breaks (And.intro (fun z1x => (st_C_breaks (st_C_breaks (st_C_breaks (And.intro (fun z2x => (st_C_breaks (st_C_breaks (And.intro rfl (st_C_breaks (And.intro rfl (st_C_breaks (And.intro (fun z3x => (st_C_breaks (st_C_breaks (st_C_breaks (And.intro (fun z4x => (st_C_breaks (st_C_breaks (And.intro rfl (st_C_breaks (And.intro rfl (st_C_breaks ((((h.1 z1x).1 z2x).1 z3x).1 z4x)))))))) (fun z4x => (st_C_breaks (st_C_breaks (And.intro rfl (st_C_breaks (And.intro rfl (st_C_breaks (st_C_breaks ((((h.1 z1x).1 z2x).1 z3x).2 (Decidable.not_not.mp z4x))))))))))))))) (fun z3x => (st_C_breaks (st_C_breaks (((h.1 z1x).1 z2x).2 (Decidable.not_not.mp z3x))))))))))))) (fun z2x => (st_C_breaks (st_C_breaks (And.intro rfl (st_C_breaks (And.intro rfl (st_C_breaks ((h.1 z1x).2 (Decidable.not_not.mp z2x)))))))))))))) (fun z1x => (st_C_breaks (st_C_breaks (And.intro rfl (st_C_breaks (And.intro rfl (st_C_breaks (h.2 (Decidable.not_not.mp z1x))))))))))))
theorem st_C_known {d : Nat} {Q : kr_Q} {pc : Nat} {ls : kr_L} {st : List Value} {μ : kr_M} (h : C_C_known pc (kr_Wp C_C_known (kr_c d) Q) (kr_c d) Q ls st μ) : kr_Wp C_C_known (kr_c d) Q pc ls st μ := kr_Wp.step (fun pc => (kr_ok_C_known pc).2) (kr_c_om d) h
theorem v_C_known {d : Nat} {Q : kr_Q} {μ : kr_M} {a1 : Int32} (h : ((a1 = 0 → kr_c (d + 3) i_U_reckon [.ref 38] μ (kr_bk (kr_Wp C_C_known (kr_c (d + 3)) Q) 18 [some (.ref 0), some (.int a1)] [])) ∧ (¬ (a1 = 0) → ((a1 = 1 → kr_c (d + 3) i_U_reckon [.ref 38] μ (kr_bk (kr_Wp C_C_known (kr_c (d + 3)) Q) 18 [some (.ref 0), some (.int a1)] [])) ∧ (¬ (a1 = 1) → Q (some (.int (-1))) μ))))) : kr_c (d + 4) i_C_known [.ref 0, .int a1] μ Q := ⟨rfl, (st_C_known (st_C_known (And.intro (fun z1x => (st_C_known (st_C_known (And.intro rfl (st_C_known (And.intro rfl (h.1 z1x))))))) (fun z1x => (st_C_known (st_C_known (st_C_known (And.intro (fun z2x => (st_C_known (st_C_known (And.intro rfl (st_C_known (And.intro rfl ((h.2 z1x).1 z2x))))))) (fun z2x => (st_C_known (st_C_known ((h.2 z1x).2 z2x))))))))))))⟩
theorem v_C_known_18 {d : Nat} {Q : kr_Q} {μ : kr_M} {a1 : Int32} (h : ((¬ (μ.1 38 1) = 0 → ((¬ a1 = 0 → Q (some (.int ((((1 : Int32) <<< ((μ.1 1 2) &&& 31)) - (1 : Int32)) &&& ((μ.1 38 6) ^^^ (-1 : Int32))))) μ) ∧ (a1 = 0 → Q (some (.int (μ.1 38 5))) μ))) ∧ ((μ.1 38 1) = 0 → Q (some (.int (-4))) μ))) : kr_Wp C_C_known (kr_c (d + 3)) Q 18 [some (.ref 0), some (.int a1)] [] μ := (st_C_known (st_C_known (And.intro rfl (st_C_known (And.intro rfl (st_C_known (And.intro (fun z1x => (st_C_known (st_C_known (And.intro (fun z2x => (st_C_known (st_C_known (And.intro rfl (st_C_known (And.intro rfl (v_R_allLines (st_C_known (st_C_known (And.intro rfl (st_C_known (And.intro rfl (st_C_known (st_C_known (st_C_known (st_C_known ((h.1 z1x).1 z2x))))))))))))))))) (fun z2x => (st_C_known (st_C_known (And.intro rfl (st_C_known (And.intro rfl (st_C_known (st_C_known ((h.1 z1x).2 (Decidable.not_not.mp z2x)))))))))))))) (fun z1x => (st_C_known (st_C_known (h.2 (Decidable.not_not.mp z1x))))))))))))
theorem st_C_ask {d : Nat} {Q : kr_Q} {pc : Nat} {ls : kr_L} {st : List Value} {μ : kr_M} (h : C_C_ask pc (kr_Wp C_C_ask (kr_c d) Q) (kr_c d) Q ls st μ) : kr_Wp C_C_ask (kr_c d) Q pc ls st μ := kr_Wp.step (fun pc => (kr_ok_C_ask pc).2) (kr_c_om d) h
theorem v_C_ask {d : Nat} {Q : kr_Q} {μ : kr_M} {a1 : Int32} (h : ((a1 = 0 → kr_c (d + 3) i_U_reckon [.ref 38] μ (kr_bk (kr_Wp C_C_ask (kr_c (d + 3)) Q) 18 [some (.ref 0), some (.int a1), none] [])) ∧ (¬ (a1 = 0) → ((a1 = 1 → kr_c (d + 3) i_U_reckon [.ref 38] μ (kr_bk (kr_Wp C_C_ask (kr_c (d + 3)) Q) 18 [some (.ref 0), some (.int a1), none] [])) ∧ (¬ (a1 = 1) → Q (some (.int (-1))) μ))))) : kr_c (d + 4) i_C_ask [.ref 0, .int a1] μ Q := ⟨rfl, (st_C_ask (st_C_ask (And.intro (fun z1x => (st_C_ask (st_C_ask (And.intro rfl (st_C_ask (And.intro rfl (h.1 z1x))))))) (fun z1x => (st_C_ask (st_C_ask (st_C_ask (And.intro (fun z2x => (st_C_ask (st_C_ask (And.intro rfl (st_C_ask (And.intro rfl ((h.2 z1x).1 z2x))))))) (fun z2x => (st_C_ask (st_C_ask ((h.2 z1x).2 z2x))))))))))))⟩
theorem v_C_ask_18 {d : Nat} {Q : kr_Q} {μ : kr_M} {a1 : Int32} (h : kr_c (d + 3) i_U_bestToAsk [.ref 38] μ (kr_bk (kr_Wp C_C_ask (kr_c (d + 3)) Q) 25 [some (.ref 0), some (.int a1), none] [])) : kr_Wp C_C_ask (kr_c (d + 3)) Q 18 [some (.ref 0), some (.int a1), none] [] μ := (st_C_ask (st_C_ask (And.intro rfl (st_C_ask (And.intro rfl h)))))
theorem v_C_ask_25 {d : Nat} {Q : kr_Q} {μ : kr_M} {a1 : Int32} {r : Int32} (h : ((r = (-4) → Q (some (.int r)) μ) ∧ (¬ (r = (-4)) → ((¬ a1 = 0 → kr_c (d + 3) i_U_leftAtWorst [.ref 38, .int r] μ (kr_bk (kr_Wp C_C_ask (kr_c (d + 3)) Q) 48 [some (.ref 0), some (.int a1), some (.int r)] [])) ∧ (a1 = 0 → Q (some (.int r)) μ))))) : kr_Wp C_C_ask (kr_c (d + 3)) Q 25 [some (.ref 0), some (.int a1), none] [.int r] μ := (st_C_ask (st_C_ask (st_C_ask (st_C_ask (And.intro (fun z1x => (st_C_ask (st_C_ask (st_C_ask (h.1 z1x))))) (fun z1x => (st_C_ask (st_C_ask (And.intro (fun z2x => (st_C_ask (st_C_ask (And.intro rfl (st_C_ask (st_C_ask (And.intro rfl ((h.2 z1x).1 z2x)))))))) (fun z2x => (st_C_ask (st_C_ask (st_C_ask ((h.2 z1x).2 (Decidable.not_not.mp z2x)))))))))))))))
theorem v_C_ask_48 {d : Nat} {Q : kr_Q} {μ : kr_M} {a1 : Int32} {a2 : Int32} {r : Int32} (h : Q (some (.int r)) μ) : kr_Wp C_C_ask (kr_c (d + 3)) Q 48 [some (.ref 0), some (.int a1), some (.int a2)] [.int r] μ := (st_C_ask h)
theorem kr_z0 {P : Prop} [Decidable P] : (0 : Int32) = (if P then 1 else 0) ↔ ¬ P := by
  by_cases p : P
  · rw [if_pos p]; exact ⟨fun z => absurd z (by decide), fun z => absurd p z⟩
  · rw [if_neg p]; exact ⟨fun _ => p, fun _ => rfl⟩
theorem kr_z1 {P : Prop} [Decidable P] : (1 : Int32) = (if P then 1 else 0) ↔ P := by
  by_cases p : P
  · rw [if_pos p]; exact ⟨fun _ => p, fun _ => rfl⟩
  · rw [if_neg p]; exact ⟨fun z => absurd z (by decide), fun z => absurd z p⟩
/-- is all that was heard so, by the lines of b broken: of the first h -/
def kx_ft (g : Nat → Nat) (b : Nat) : Nat → Bool
  | 0 => true
  | h + 1 => kx_ft g b h && (((g (109 + 2 * h) &&& b) == 0) == (g (110 + 2 * h) == 1))
theorem kx_ft_le {g : Nat → Nat} {b h m : Nat} (hm : h ≤ m) (hf : kx_ft g b m = true) : kx_ft g b h = true := by
  induction hm with
  | refl => exact hf
  | step _ ih =>
    unfold kx_ft at hf
    simp only [Bool.and_eq_true] at hf
    exact ih hf.1
/-- how many, the fewest lines, the first so, how many so, by all, by any, how many with each line -/
abbrev kx_B : Type := Nat × Nat × Nat × Nat × Nat × Nat × (Nat → Nat)
def kx_ba (b : Nat) (s : kx_B) : kx_B :=
  (s.1 + 1, (if kr_ones 12 b < s.2.1 then kr_ones 12 b else s.2.1), (if kr_ones 12 b < s.2.1 then b else s.2.2.1), (if kr_ones 12 b < s.2.1 then 1 else if kr_ones 12 b = s.2.1 then s.2.2.2.1 + 1 else s.2.2.2.1), s.2.2.2.2.1 &&& b, s.2.2.2.2.2.1 ||| b, fun l => s.2.2.2.2.2.2 l + (b.testBit l).toNat)
def kx_bf (g : Nat → Nat) : Nat → kx_B
  | 0 => (0, 13, 0, 0, 2 ^ g 0 - 1, 0, fun _ => 0)
  | n + 1 => if kx_ft g n (g 108) = true then kx_ba n (kx_bf g n) else kx_bf g n
def kx_Bi (n : Nat) (s : kx_B) : Prop := (s.1 ≤ n ∧ s.2.2.2.1 ≤ n) ∧ ((s.1 = 0 ∧ s.2.1 = 13) ∨ (s.1 ≠ 0 ∧ s.2.1 ≤ 12)) ∧ s.2.2.1 < 4096 ∧ s.2.2.2.2.1 < 4096 ∧ s.2.2.2.2.2.1 < 4096 ∧ ∀ l, s.2.2.2.2.2.2 l ≤ s.1
theorem kx_Bi_a {n b : Nat} {s : kx_B} (h : kx_Bi n s) (hb : b < 4096) : kx_Bi (n + 1) (kx_ba b s) := by
  obtain ⟨⟨h1, h2⟩, h3, h4, h5, h6, h7⟩ := h
  have ho := kr_ones_le b 12
  refine ⟨⟨Nat.succ_le_succ h1, ?_⟩, ?_, ?_, ?_, ?_, fun l => ?_⟩
  · show (if kr_ones 12 b < s.2.1 then 1 else if kr_ones 12 b = s.2.1 then s.2.2.2.1 + 1 else s.2.2.2.1) ≤ n + 1
    split
    · omega
    · split <;> omega
  · refine Or.inr ⟨Nat.succ_ne_zero _, ?_⟩
    show (if kr_ones 12 b < s.2.1 then kr_ones 12 b else s.2.1) ≤ 12
    split
    · exact ho
    · rcases h3 with h3 | h3 <;> omega
  · show (if kr_ones 12 b < s.2.1 then b else s.2.2.1) < 4096
    split <;> omega
  · exact Nat.lt_of_le_of_lt Nat.and_le_left h5
  · exact Nat.or_lt_two_pow (n := 12) h6 hb
  · show s.2.2.2.2.2.2 l + (b.testBit l).toNat ≤ s.1 + 1
    have := h7 l
    have := Bool.toNat_le (b.testBit l)
    omega
theorem kx_bf_i {g : Nat → Nat} (hN : g 0 ≤ 12) : ∀ n, n ≤ 4096 → kx_Bi n (kx_bf g n) := by
  intro n
  induction n with
  | zero =>
    intro _
    have hp := kx_p12 hN
    have := Nat.two_pow_pos (g 0)
    exact ⟨⟨Nat.le_refl _, Nat.le_refl _⟩, Or.inl ⟨rfl, rfl⟩, (by decide : 0 < 4096), (by show 2 ^ g 0 - 1 < 4096; omega), (by decide : 0 < 4096), fun _ => Nat.le_refl _⟩
  | succ n ih =>
    intro hn
    have h := ih (by omega)
    unfold kx_bf
    split
    · exact kx_Bi_a h (by omega)
    · obtain ⟨⟨a, b⟩, c⟩ := h
      exact ⟨⟨by omega, by omega⟩, c⟩
/-- what was heard, in the class -/
def kr_Hc (μ : kr_M) (g : Nat → Nat) : Prop := μ.1 1 15 = nI (g 108) ∧ (∀ h, h < g 108 → μ.1 10 h = nI (g (109 + 2 * h))) ∧ ∃ c, c < 256 ∧ μ.1 1 17 = nI c ∧ ∀ h, h < g 108 → c.testBit h = (g (110 + 2 * h) == 1)
def kx_hb (g : Nat → Nat) : Prop := g 108 ≤ 8 ∧ ∀ h, h < g 108 → 1 ≤ g (109 + 2 * h) ∧ g (109 + 2 * h) < 4096 ∧ g (110 + 2 * h) ≤ 1
theorem kr_Hc.kp {W : List Nat} {F : List (Nat × Nat)} {μ μ' : kr_M} {g : Nat → Nat} (h : kr_Hc μ g) (k : kr_keep W F μ μ') (hW : (1 ∉ W ∧ 10 ∉ W) ∧ ∀ q ∈ F, q.1 ≠ 1 ∧ q.1 ≠ 10) : kr_Hc μ' g := by
  unfold kr_Hc
  rw [k.row hW.1.1 (fun q hq => (hW.2 q hq).1), k.row hW.1.2 (fun q hq => (hW.2 q hq).2)]
  exact h
theorem c_U_fits {d : Nat} {Q : kr_Q} {μ : kr_M} {g : Nat → Nat} {b : Nat} (hH : kr_Hc μ g) (hb8 : kx_hb g) (hb : b < 4096) (k : Q (some (.int (if kx_ft g b (g 108) = true then 1 else 0))) μ) : kr_c (d + 2) i_U_fits [.ref 38, .int (nI b)] μ Q := by
  obtain ⟨h15, h10, c, hc, h17, hcb⟩ := hH
  have h8 := hb8.1
  refine v_U_fits ?_
  refine kr_up (I := fun h => kx_ft g b h = true → kr_Wp C_U_fits (kr_c (d + 1)) Q 2 [some (.ref 38), some (.int (nI b)), some (.int (nI h)), none] [] μ) (g 108) ?_ ?_ 0 (Nat.zero_le _) rfl
  · intro hf
    rw [if_pos hf] at k
    exact v_U_fits_2 (br_t (by rw [h15]; exact Int32.le_refl _) k)
  · intro h hh ih hf
    have hg2 := hb8.2 h hh
    refine v_U_fits_2 (br_f (by rw [h15]; exact nI_ge hh (by omega)) ⟨vp_in_nI (by omega) (by decide), ?_⟩)
    have ho := Nat.and_le_left (n := g (109 + 2 * h)) (m := b)
    rw [nI_clamp (by omega), h10 h hh, h17, kr_and, kr_eq0 (by omega), kr_z0, kr_z1, kr_bit0 (by omega) (by omega), hcb h hh, kr_n1]
    have no : kx_ft g b (h + 1) = false → Q (some (.int 0)) μ := by
      intro z
      rw [if_neg (fun y => by rw [kx_ft_le (show h + 1 ≤ g 108 by omega) y] at z; cases z)] at k
      exact k
    have e : kx_ft g b (h + 1) = (((g (109 + 2 * h) &&& b) == 0) == (g (110 + 2 * h) == 1)) := by
      show (kx_ft g b h && _) = _
      rw [hf, Bool.true_and]
    refine ⟨fun c1 => ⟨fun c2 => ih ?_, fun c2 => no ?_⟩, fun c1 => ⟨fun c2 => ih ?_, fun c2 => no ?_⟩⟩
    · rw [e]
      have c1 : ((g (109 + 2 * h) &&& b) == 0) = false := by simpa using c1
      rw [c1]
      cases hq : (g (110 + 2 * h) == 1)
      · rfl
      · rw [hq] at c2; simp at c2
    · rw [e]
      have c1 : ((g (109 + 2 * h) &&& b) == 0) = false := by simpa using c1
      rw [c1]
      cases hq : (g (110 + 2 * h) == 1)
      · rw [hq] at c2; simp at c2
      · rfl
    · rw [e]
      have c1 : ((g (109 + 2 * h) &&& b) == 0) = true := by simpa using c1
      rw [c1]
      cases hq : (g (110 + 2 * h) == 1)
      · rw [hq] at c2; simp at c2
      · rfl
    · rw [e]
      have c1 : ((g (109 + 2 * h) &&& b) == 0) = true := by simpa using c1
      rw [c1]
      cases hq : (g (110 + 2 * h) == 1)
      · rfl
      · rw [hq] at c2; simp at c2
def kr_BC (μ : kr_M) (N : Nat) (s : kx_B) : Prop := (μ.1 38 1 = nI s.1 ∧ μ.1 38 2 = nI s.2.1 ∧ (s.1 ≠ 0 → μ.1 38 3 = nI s.2.2.1) ∧ μ.1 38 4 = nI s.2.2.2.1 ∧ μ.1 38 5 = nI s.2.2.2.2.1 ∧ μ.1 38 6 = nI s.2.2.2.2.2.1) ∧ ∀ l, l < N → μ.1 39 l = nI (s.2.2.2.2.2.2 l)
theorem c_U_add {d : Nat} {Q : kr_Q} {μ : kr_M} {N b n : Nat} {s : kx_B} (hN : μ.1 1 2 = nI N) (h12 : N ≤ 12) (hb : b < 4096) (hi : kx_Bi n s) (hn : n < 5000) (h : kr_BC μ N s) (k : ∀ μ', kr_keep [38, 39] [] μ μ' → kr_BC μ' N (kx_ba b s) → Q none μ') : kr_c (d + 2) i_U_add [.ref 38, .int (nI b)] μ Q := by
  refine v_U_add ?_
  obtain ⟨⟨i1, i2⟩, i3, i4, i5, i6, i7⟩ := hi
  obtain ⟨⟨h1, h2, h3, h4, h5, h6⟩, h7⟩ := h
  rw [h1, h5, h6, kr_n1, kr_and, kr_or]
  generalize hμ1 : kr_u (kr_u (kr_u μ 38 1 (nI (s.1 + 1))) 38 5 (nI (s.2.2.2.2.1 &&& b))) 38 6 (nI (s.2.2.2.2.2.1 ||| b)) = μ1
  have hk1 : kr_keep [38, 39] [] μ μ1 := by rw [← hμ1]; exact ((kr_keep.rf.u _ _ (by decide)).u _ _ (by decide)).u _ _ (by decide)
  have f1 : μ1.1 38 1 = nI (s.1 + 1) := by rw [← hμ1]; rfl
  have f2 : μ1.1 38 2 = nI s.2.1 := by rw [← hμ1]; exact h2
  have f3 : s.1 ≠ 0 → μ1.1 38 3 = nI s.2.2.1 := by rw [← hμ1]; exact h3
  have f4 : μ1.1 38 4 = nI s.2.2.2.1 := by rw [← hμ1]; exact h4
  have f5 : μ1.1 38 5 = nI (s.2.2.2.2.1 &&& b) := by rw [← hμ1]; rfl
  have f6 : μ1.1 38 6 = nI (s.2.2.2.2.2.1 ||| b) := by rw [← hμ1]; rfl
  have f7 : ∀ l, l < N → μ1.1 39 l = nI (s.2.2.2.2.2.2 l) := by rw [← hμ1]; exact h7
  have main : ∀ l, l ≤ N → ∀ μ', kr_keep [38, 39] [] μ μ' → μ'.1 38 = μ1.1 38 → (∀ j, j < N → μ'.1 39 j = nI (if j < l then s.2.2.2.2.2.2 j + (b.testBit j).toNat else s.2.2.2.2.2.2 j)) → kr_Wp C_U_add (kr_c (d + 1)) Q 32 [some (.ref 38), some (.int (nI b)), some (.int (nI l))] [] μ' := by
    refine kr_up (I := fun l => ∀ μ', kr_keep [38, 39] [] μ μ' → μ'.1 38 = μ1.1 38 → (∀ j, j < N → μ'.1 39 j = nI (if j < l then s.2.2.2.2.2.2 j + (b.testBit j).toNat else s.2.2.2.2.2.2 j)) → kr_Wp C_U_add (kr_c (d + 1)) Q 32 [some (.ref 38), some (.int (nI b)), some (.int (nI l))] [] μ') N ?_ ?_
    · intro μ' hk e38 h39
      refine v_U_add_32 (br_t (by rw [hk.2 1 2 (by decide) (by decide), hN]; exact Int32.le_refl _) (c_J6_bitCount hb (v_U_add_70 ?_)))
      have ho := kr_ones_le b 12
      have hs1 : s.2.1 < 2 ^ 31 := by rcases i3 with z | z <;> omega
      rw [e38, f2, nI_leI hs1 (by omega), nI_eq (by omega) hs1]
      have hw : ∀ μ2 : kr_M, μ2.1 39 = μ'.1 39 → ∀ l, l < N → μ2.1 39 l = nI ((kx_ba b s).2.2.2.2.2.2 l) := by
        intro μ2 e l hl
        rw [e, h39 l hl, if_pos hl]
        rfl
      refine ⟨fun c => ⟨fun c2 => k μ' hk ⟨⟨?_, ?_, fun _ => ?_, ?_, ?_, ?_⟩, hw μ' rfl⟩, fun c2 => k _ (hk.u _ _ (by decide)) ⟨⟨?_, ?_, fun _ => ?_, ?_, ?_, ?_⟩, hw _ (kr_u_n _ _ _ (by decide))⟩⟩, fun c => ⟨fun c2 => absurd rfl c2, fun _ => k _ ((((hk.u _ _ (by decide)).u _ _ (by decide)).u _ _ (by decide)).u _ _ (by decide)) ⟨⟨?_, ?_, fun _ => ?_, ?_, ?_, ?_⟩, hw _ (by rw [kr_u_n _ _ _ (by decide), kr_u_n _ _ _ (by decide), kr_u_n _ _ _ (by decide), kr_u_n _ _ _ (by decide)])⟩⟩⟩
      · rw [e38, f1]; rfl
      · rw [e38, f2]; exact congrArg nI (if_neg (by omega)).symm
      · rw [e38, f3 (by rcases i3 with z | z <;> omega)]; exact congrArg nI (if_neg (by omega)).symm
      · rw [e38, f4]
        show nI s.2.2.2.1 = nI (if kr_ones 12 b < s.2.1 then 1 else if kr_ones 12 b = s.2.1 then s.2.2.2.1 + 1 else s.2.2.2.1)
        rw [if_neg (by omega), if_neg c2]
      · rw [e38, f5]; rfl
      · rw [e38, f6]; rfl
      · show μ'.1 38 1 = _
        rw [e38, f1]; rfl
      · show μ'.1 38 2 = _
        rw [e38, f2]; exact congrArg nI (if_neg (by omega)).symm
      · show μ'.1 38 3 = _
        rw [e38, f3 (by rcases i3 with z | z <;> omega)]; exact congrArg nI (if_neg (by omega)).symm
      · show μ1.1 38 4 + 1 = nI (if kr_ones 12 b < s.2.1 then 1 else if kr_ones 12 b = s.2.1 then s.2.2.2.1 + 1 else s.2.2.2.1)
        rw [f4, kr_n1, if_neg (by omega), if_pos c2]
      · show μ'.1 38 5 = _
        rw [e38, f5]; rfl
      · show μ'.1 38 6 = _
        rw [e38, f6]; rfl
      · show μ'.1 38 1 = _
        rw [e38, f1]; rfl
      · show nI (kr_ones 12 b) = _
        exact congrArg nI (if_pos (by omega)).symm
      · show nI b = _
        exact congrArg nI (if_pos (by omega)).symm
      · show (0 : Int32) + 1 = nI (if kr_ones 12 b < s.2.1 then 1 else if kr_ones 12 b = s.2.1 then s.2.2.2.1 + 1 else s.2.2.2.1)
        rw [if_pos (by omega)]; rfl
      · show μ'.1 38 5 = _
        rw [e38, f5]; rfl
      · show μ'.1 38 6 = _
        rw [e38, f6]; rfl
    · intro l hl ih μ' hk e38 h39
      have vl : vp_in (nI l) 12 := vp_in_nI (by omega) (by decide)
      refine v_U_add_32 (br_f (by rw [hk.2 1 2 (by decide) (by decide), hN]; exact nI_ge hl (by omega)) ⟨vl, vl, ?_⟩)
      rw [nI_clamp (by omega), h39 l hl, if_neg (Nat.lt_irrefl l), kr_n1]
      refine ih _ (hk.u _ _ (by decide)) (by rw [kr_u_n _ _ _ (by decide)]; exact e38) (fun j hj => ?_)
      rw [kr_u_s]
      by_cases ej : j = l
      · rw [ej, kr_upd_s, if_pos (Nat.lt_succ_self l)]
        have hbit := kr_bit0 (n := b) (i := l) (by omega) (by omega)
        cases hb2 : b.testBit l
        · rw [if_neg (fun z => z (hbit.mpr hb2))]
          simp
        · rw [if_pos (fun z => by rw [hbit.mp z] at hb2; cases hb2)]
          exact kr_n1 _
      · rw [kr_upd_n _ _ ej, h39 j hj]
        by_cases c : j < l
        · rw [if_pos c, if_pos (by omega)]
        · rw [if_neg c, if_neg (by omega)]
  exact main 0 (Nat.zero_le _) μ1 hk1 rfl (fun j hj => by rw [if_neg (Nat.not_lt_zero j)]; exact f7 j hj)
theorem c_U_reckon {d : Nat} {Q : kr_Q} {μ : kr_M} {g : Nat → Nat} (hN : μ.1 1 2 = nI (g 0)) (h12 : g 0 ≤ 12) (hH : kr_Hc μ g) (hb8 : kx_hb g) (k : ∀ μ', kr_keep [38, 39] [] μ μ' → kr_BC μ' (g 0) (kx_bf g (2 ^ g 0)) → Q none μ') : kr_c (d + 3) i_U_reckon [.ref 38] μ Q := by
  have hp := kx_p12 h12
  have hp0 := Nat.two_pow_pos (g 0)
  refine v_U_reckon ?_
  rw [hN, kr_all1 _ h12]
  have fold : ∀ b, b ≤ 2 ^ g 0 → ∀ μ', kr_keep [38, 39] [] μ μ' → kr_BC μ' (g 0) (kx_bf g b) → kr_Wp C_U_reckon (kr_c (d + 2)) Q 61 [some (.ref 38), some (.int (nI b))] [] μ' := by
    refine kr_up (I := fun b => ∀ μ', kr_keep [38, 39] [] μ μ' → kr_BC μ' (g 0) (kx_bf g b) → kr_Wp C_U_reckon (kr_c (d + 2)) Q 61 [some (.ref 38), some (.int (nI b))] [] μ') (2 ^ g 0) ?_ ?_
    · intro μ' hk h
      refine v_U_reckon_61 (br_t (by rw [hk.2 1 2 (by decide) (by decide), hN, kr_all1 _ h12]; exact nI_lt (by omega) (by omega)) (k μ' hk h))
    · intro b hb ih μ' hk h
      refine v_U_reckon_61 (br_f (by rw [hk.2 1 2 (by decide) (by decide), hN, kr_all1 _ h12]; exact nI_nlt (by omega) (by omega)) (c_U_fits (hH.kp hk (by decide)) hb8 (by omega) (v_U_reckon_77 ?_)))
      rw [kr_n1]
      by_cases c : kx_ft g b (g 108) = true
      · have e : kx_bf g (b + 1) = kx_ba b (kx_bf g b) := if_pos c
        rw [if_pos c]
        refine br_f (by decide) (c_U_add (by rw [hk.2 1 2 (by decide) (by decide), hN]) h12 (by omega) (kx_bf_i h12 b (by omega)) (by omega) h (fun μ2 hk2 h2 => v_U_reckon_85 ?_))
        rw [kr_n1]
        exact ih μ2 (hk.tr hk2) (by rw [e]; exact h2)
      · have e : kx_bf g (b + 1) = kx_bf g b := if_neg c
        rw [if_neg c]
        exact br_t rfl (ih μ' hk (by rw [e]; exact h))
  have zero : ∀ l, l ≤ 12 → ∀ μ', kr_keep [38, 39] [] μ μ' → (μ'.1 38 1 = 0 ∧ μ'.1 38 2 = 13 ∧ μ'.1 38 4 = 0 ∧ μ'.1 38 5 = nI (2 ^ g 0 - 1) ∧ μ'.1 38 6 = 0) → (∀ j, j < l → μ'.1 39 j = 0) → kr_Wp C_U_reckon (kr_c (d + 2)) Q 40 [some (.ref 38), some (.int (nI l))] [] μ' := by
    refine kr_up (I := fun l => ∀ μ', kr_keep [38, 39] [] μ μ' → (μ'.1 38 1 = 0 ∧ μ'.1 38 2 = 13 ∧ μ'.1 38 4 = 0 ∧ μ'.1 38 5 = nI (2 ^ g 0 - 1) ∧ μ'.1 38 6 = 0) → (∀ j, j < l → μ'.1 39 j = 0) → kr_Wp C_U_reckon (kr_c (d + 2)) Q 40 [some (.ref 38), some (.int (nI l))] [] μ') 12 ?_ ?_
    · intro μ' hk h0 hz
      exact v_U_reckon_40 (br_t (Int32.le_refl _) (fold 0 (Nat.zero_le _) μ' hk ⟨⟨h0.1, h0.2.1, fun z => absurd rfl z, h0.2.2.1, h0.2.2.2.1, h0.2.2.2.2⟩, fun l hl => hz l (by omega)⟩))
    · intro l hl ih μ' hk h0 hz
      refine v_U_reckon_40 (br_f (nI_ge (b := 12) hl (by decide)) ⟨vp_in_nI hl (by decide), ?_⟩)
      rw [nI_clamp (by omega), kr_n1]
      refine ih _ (hk.u _ _ (by decide)) (by rw [kr_u_n _ _ _ (by decide)]; exact h0) (fun j hj => ?_)
      rw [kr_u_s]
      by_cases e : j = l
      · rw [e, kr_upd_s]
      · rw [kr_upd_n _ _ e]; exact hz j (by omega)
  exact zero 0 (Nat.zero_le _) _ ((((((kr_keep.rf.u _ _ (by decide)).u _ _ (by decide)).u _ _ (by decide)).u _ _ (by decide)).u _ _ (by decide)).u _ _ (by decide)) ⟨rfl, rfl, rfl, rfl, rfl⟩ (fun j hj => absurd hj (Nat.not_lt_zero j))
def kx_bg (g : Nat → Nat) : kx_B := kx_bf g (2 ^ g 0)
theorem kx_bg_i {g : Nat → Nat} (hN : g 0 ≤ 12) : kx_Bi 4096 (kx_bg g) := by
  have h := kx_bf_i hN (2 ^ g 0) (kx_p12 hN)
  have := kx_p12 hN
  obtain ⟨⟨a, b⟩, c⟩ := h
  exact ⟨⟨by unfold kx_bg; omega, by unfold kx_bg; omega⟩, c⟩
def kx_lw (s : kx_B) (l : Nat) : Nat := if s.2.2.2.2.2.2 l < s.1 - s.2.2.2.2.2.2 l then s.1 - s.2.2.2.2.2.2 l else s.2.2.2.2.2.2 l
/-- which line to ask for, of the first l, and how many are left at the worst -/
def kx_ak (s : kx_B) : Nat → Option Nat × Nat
  | 0 => (none, s.1)
  | l + 1 => if kx_lw s l < (kx_ak s l).2 then (some l, kx_lw s l) else kx_ak s l
theorem kx_ak_i (s : kx_B) (hs : ∀ l, s.2.2.2.2.2.2 l ≤ s.1) : ∀ n, (kx_ak s n).2 ≤ s.1 ∧ ∀ b, (kx_ak s n).1 = some b → b < n ∧ (kx_ak s n).2 = kx_lw s b := by
  intro n
  induction n with
  | zero => exact ⟨Nat.le_refl _, fun b h => by cases h⟩
  | succ n ih =>
    unfold kx_ak
    split
    · rename_i c
      exact ⟨by show kx_lw s n ≤ _; omega, fun b h => by cases h; exact ⟨Nat.lt_succ_self n, rfl⟩⟩
    · exact ⟨ih.1, fun b h => ⟨by have := (ih.2 b h).1; omega, (ih.2 b h).2⟩⟩
def ax_breaks (g : Nat → Nat) (what : Int32) : Int32 :=
  if 0 ≤ what ∧ what ≤ 3 then (if what = 0 then nI (kx_bg g).1 else if what = 3 then nI (kx_bg g).2.2.2.1 else if (kx_bg g).1 = 0 then -4 else if what = 1 then nI (kx_bg g).2.1 else nI (kx_bg g).2.2.1) else -1
def ax_known (g : Nat → Nat) (what : Int32) : Int32 :=
  if what = 0 ∨ what = 1 then (if (kx_bg g).1 = 0 then -4 else if what = 0 then nI (kx_bg g).2.2.2.2.1 else nI (kr_bm 31 (fun i => (2 ^ g 0 - 1).testBit i && !(kx_bg g).2.2.2.2.2.1.testBit i))) else -1
def kx_as (what : Int32) : Option Nat × Nat → Int32
  | (none, _) => -4
  | (some b, w) => if what = 0 then nI b else nI w
def ax_ask (g : Nat → Nat) (what : Int32) : Int32 := if what = 0 ∨ what = 1 then kx_as what (kx_ak (kx_bg g) (g 0)) else -1
theorem kx_lw_le {s : kx_B} {l : Nat} (h : s.2.2.2.2.2.2 l ≤ s.1) : kx_lw s l ≤ s.1 := by unfold kx_lw; split <;> omega
theorem c_U_bestToAsk {d : Nat} {Q : kr_Q} {μ : kr_M} {N n : Nat} {s : kx_B} (hN : μ.1 1 2 = nI N) (h12 : N ≤ 12) (hi : kx_Bi n s) (hn : n < 5000) (h : kr_BC μ N s) (k : Q (some (.int (kx_od (kx_ak s N).1))) μ) : kr_c (d + 2) i_U_bestToAsk [.ref 38] μ Q := by
  obtain ⟨⟨i1, i2⟩, i3, i4, i5, i6, i7⟩ := hi
  refine v_U_bestToAsk ?_
  rw [h.1.1]
  refine kr_up (I := fun l => kr_Wp C_U_bestToAsk (kr_c (d + 1)) Q 10 [some (.ref 38), some (.int (kx_od (kx_ak s l).1)), some (.int (nI (kx_ak s l).2)), some (.int (nI l))] [] μ) N ?_ ?_ 0 (Nat.zero_le _)
  · exact v_U_bestToAsk_10 (br_t (by rw [hN]; exact Int32.le_refl _) k)
  · intro l hl ih
    have hw := i7 l
    have hk := (kx_ak_i s i7 l).1
    have hlw := kx_lw_le hw
    refine v_U_bestToAsk_10 (br_f (by rw [hN]; exact nI_ge hl (by omega)) (c_U_leftAtWorst (by omega) h.1.1 (h.2 l hl) hw (by omega) (v_U_bestToAsk_26 ?_)))
    change ((nI (kx_ak s l).2 ≤ nI (kx_lw s l) → _) ∧ (¬ nI (kx_ak s l).2 ≤ nI (kx_lw s l) → _))
    rw [nI_leI (by omega) (by omega), kr_n1]
    refine ⟨fun c => ?_, fun c => c_U_leftAtWorst (by omega) h.1.1 (h.2 l hl) hw (by omega) ?_⟩
    · rw [show kx_ak s (l + 1) = kx_ak s l from if_neg (by omega)] at ih
      exact ih
    · rw [show kx_ak s (l + 1) = (some l, kx_lw s l) from if_pos (by omega)] at ih
      refine v_U_bestToAsk_35 ?_
      rw [kr_n1]
      exact ih
theorem c_C_breaks {d : Nat} {Q : kr_Q} {μ : kr_M} {g : Nat → Nat} (hN : μ.1 1 2 = nI (g 0)) (h12 : g 0 ≤ 12) (hH : kr_Hc μ g) (hb8 : kx_hb g) {what : Int32} (k : ∀ μ', kr_keep [38, 39] [] μ μ' → Q (some (.int (ax_breaks g what))) μ') : kr_c (d + 4) i_C_breaks [.ref 0, .int what] μ Q := by
  refine v_C_breaks ?_
  unfold ax_breaks at k
  refine ⟨fun c => ?_, fun c => ⟨fun c2 => ?_, fun c2 => ?_⟩⟩
  · rw [if_neg (fun z => by rw [kr_le] at z; rw [kr_lt] at c; omega)] at k
    exact k μ kr_keep.rf
  · rw [if_pos ⟨kr_nlt.mp c, c2⟩] at k
    refine c_U_reckon hN h12 hH hb8 (fun μ' hk h => v_C_breaks_18 ?_)
    have hi := kx_bg_i h12
    have k1 := k μ' hk
    change kr_BC μ' (g 0) (kx_bg g) at h
    obtain ⟨⟨f1, f2, f3, f4, f5, f6⟩, -⟩ := h
    obtain ⟨⟨i1, i2⟩, -⟩ := hi
    rw [f1, kr_eq0 (by omega), f2, f4]
    refine ⟨fun c0 => ?_, fun c0 => by rw [if_pos c0] at k1; exact k1⟩
    rw [if_neg c0] at k1
    refine ⟨fun c3 => ?_, fun c3 => by rw [if_pos c3] at k1; exact k1⟩
    rw [if_neg c3] at k1
    refine ⟨fun cm => ?_, fun cm => by rw [if_pos cm] at k1; exact k1⟩
    rw [if_neg cm] at k1
    rw [f3 cm]
    exact ⟨fun c1 => by rw [if_neg c1] at k1; exact k1, fun c1 => by rw [if_pos c1] at k1; exact k1⟩
  · rw [if_neg (fun z => c2 z.2)] at k
    exact k μ kr_keep.rf
theorem c_C_known {d : Nat} {Q : kr_Q} {μ : kr_M} {g : Nat → Nat} (hN : μ.1 1 2 = nI (g 0)) (h12 : g 0 ≤ 12) (hH : kr_Hc μ g) (hb8 : kx_hb g) {what : Int32} (k : ∀ μ', kr_keep [38, 39] [] μ μ' → Q (some (.int (ax_known g what))) μ') : kr_c (d + 4) i_C_known [.ref 0, .int what] μ Q := by
  have hp := kx_p12 h12
  unfold ax_known at k
  have go : (what = 0 ∨ what = 1) → kr_c (d + 3) i_U_reckon [.ref 38] μ (kr_bk (kr_Wp C_C_known (kr_c (d + 3)) Q) 18 [some (.ref 0), some (.int what)] []) := by
    intro hq
    rw [if_pos hq] at k
    refine c_U_reckon hN h12 hH hb8 (fun μ' hk h => v_C_known_18 ?_)
    have hi := kx_bg_i h12
    have k1 := k μ' hk
    change kr_BC μ' (g 0) (kx_bg g) at h
    obtain ⟨⟨f1, f2, f3, f4, f5, f6⟩, -⟩ := h
    obtain ⟨⟨i1, i2⟩, -⟩ := hi
    rw [f1, kr_eq0 (by omega), f5, f6, hk.2 1 2 (by decide) (by decide), hN, kr_all1 _ h12, kr_andn _ _ (by omega)]
    refine ⟨fun cm => ?_, fun cm => by rw [if_pos cm] at k1; exact k1⟩
    rw [if_neg cm] at k1
    exact ⟨fun c1 => by rw [if_neg c1] at k1; exact k1, fun c1 => by rw [if_pos c1] at k1; exact k1⟩
  refine v_C_known ⟨fun c => go (Or.inl c), fun c => ⟨fun c2 => go (Or.inr c2), fun c2 => ?_⟩⟩
  rw [if_neg (fun z => z.elim c c2)] at k
  exact k μ kr_keep.rf
theorem c_C_ask {d : Nat} {Q : kr_Q} {μ : kr_M} {g : Nat → Nat} (hN : μ.1 1 2 = nI (g 0)) (h12 : g 0 ≤ 12) (hH : kr_Hc μ g) (hb8 : kx_hb g) {what : Int32} (k : ∀ μ', kr_keep [38, 39] [] μ μ' → Q (some (.int (ax_ask g what))) μ') : kr_c (d + 4) i_C_ask [.ref 0, .int what] μ Q := by
  unfold ax_ask at k
  have go : (what = 0 ∨ what = 1) → kr_c (d + 3) i_U_reckon [.ref 38] μ (kr_bk (kr_Wp C_C_ask (kr_c (d + 3)) Q) 18 [some (.ref 0), some (.int what), none] []) := by
    intro hq
    rw [if_pos hq] at k
    refine c_U_reckon hN h12 hH hb8 (fun μ' hk h => v_C_ask_18 ?_)
    have hi := kx_bg_i h12
    have k1 := k μ' hk
    change kr_BC μ' (g 0) (kx_bg g) at h
    refine c_U_bestToAsk (by rw [hk.2 1 2 (by decide) (by decide), hN]) h12 hi (by decide) h (v_C_ask_25 ?_)
    have hak := kx_ak_i (kx_bg g) hi.2.2.2.2.2 (g 0)
    obtain ⟨o, w, e⟩ : ∃ o w, kx_ak (kx_bg g) (g 0) = (o, w) := ⟨_, _, rfl⟩
    rw [e] at k1 hak ⊢
    cases o with
    | none => exact ⟨fun _ => k1, fun z => absurd rfl z⟩
    | some b =>
      obtain ⟨b1, b2⟩ := hak.2 b rfl
      have b2 : w = kx_lw (kx_bg g) b := b2
      refine br_f (kx_neg4 (a := b) (by omega)) ⟨fun c1 => ?_, fun c1 => ?_⟩
      · change Q (some (.int (if what = 0 then nI b else nI w))) μ' at k1
        rw [if_neg c1, b2] at k1
        exact c_U_leftAtWorst (by omega) h.1.1 (h.2 b b1) (hi.2.2.2.2.2 b) (by have := hi.1.1; omega) (v_C_ask_48 k1)
      · change Q (some (.int (if what = 0 then nI b else nI w))) μ' at k1
        rw [if_pos c1] at k1
        exact k1
  refine v_C_ask ⟨fun c => go (Or.inl c), fun c => ⟨fun c2 => go (Or.inr c2), fun c2 => ?_⟩⟩
  rw [if_neg (fun z => z.elim c c2)] at k
  exact k μ kr_keep.rf
