/-! what is told, asked and changed: the class -/
theorem st_C_rule {d : Nat} {Q : kr_Q} {pc : Nat} {ls : kr_L} {st : List Value} {μ : kr_M} (h : C_C_rule pc (kr_Wp C_C_rule (kr_c d) Q) (kr_c d) Q ls st μ) : kr_Wp C_C_rule (kr_c d) Q pc ls st μ := kr_Wp.step (fun pc => (kr_ok_C_rule pc).2) (kr_c_om d) h
theorem v_C_rule {d : Nat} {Q : kr_Q} {μ : kr_M} {a1 : Int32} (h : ((a1 = 0 → Q (some (.int (μ.1 1 0))) μ) ∧ (¬ a1 = 0 → ((a1 = 1 → Q (some (.int (μ.1 1 2))) μ) ∧ (¬ a1 = 1 → ((a1 = 2 → Q (some (.int (μ.1 1 8))) μ) ∧ (¬ a1 = 2 → ((a1 = 3 → Q (some (.int (μ.1 1 10))) μ) ∧ (¬ a1 = 3 → ((a1 = 4 → Q (some (.int (μ.1 1 1))) μ) ∧ (¬ a1 = 4 → Q (some (.int (-1))) μ))))))))))) : kr_c (d + 1) i_C_rule [.ref 0, .int a1] μ Q := ⟨rfl, (st_C_rule (st_C_rule (kr_tsel [36, 44, 52, 60, 68] rfl (by decide) (And.intro (fun z0 => (st_C_rule (st_C_rule (And.intro rfl (st_C_rule (And.intro rfl (st_C_rule (h.1 z0)))))))) (fun z0 => (And.intro (fun z1 => (st_C_rule (st_C_rule (And.intro rfl (st_C_rule (And.intro rfl (st_C_rule ((h.2 z0).1 z1)))))))) (fun z1 => (And.intro (fun z2 => (st_C_rule (st_C_rule (And.intro rfl (st_C_rule (And.intro rfl (st_C_rule (((h.2 z0).2 z1).1 z2)))))))) (fun z2 => (And.intro (fun z3 => (st_C_rule (st_C_rule (And.intro rfl (st_C_rule (And.intro rfl (st_C_rule ((((h.2 z0).2 z1).2 z2).1 z3)))))))) (fun z3 => (And.intro (fun z4 => (st_C_rule (st_C_rule (And.intro rfl (st_C_rule (And.intro rfl (st_C_rule (((((h.2 z0).2 z1).2 z2).2 z3).1 z4)))))))) (fun z4 => (st_C_rule (st_C_rule (((((h.2 z0).2 z1).2 z2).2 z3).2 z4))))))))))))))))⟩
theorem st_C_line {d : Nat} {Q : kr_Q} {pc : Nat} {ls : kr_L} {st : List Value} {μ : kr_M} (h : C_C_line pc (kr_Wp C_C_line (kr_c d) Q) (kr_c d) Q ls st μ) : kr_Wp C_C_line (kr_c d) Q pc ls st μ := kr_Wp.step (fun pc => (kr_ok_C_line pc).2) (kr_c_om d) h
theorem v_C_line {d : Nat} {Q : kr_Q} {μ : kr_M} {a1 : Int32} {a2 : Int32} (h : ((0 ≤ a1 ∧ a1 < (μ.1 1 2) → ((a2 = 0 → vp_in a1 12 ∧ Q (some (.int (μ.1 2 a1.toNatClampNeg))) μ) ∧ (¬ a2 = 0 → ((a2 = 1 → vp_in a1 12 ∧ Q (some (.int (μ.1 3 a1.toNatClampNeg))) μ) ∧ (¬ a2 = 1 → ((a2 = 2 → vp_in a1 12 ∧ Q (some (.int (μ.1 4 a1.toNatClampNeg))) μ) ∧ (¬ a2 = 2 → ((a2 = 3 → vp_in a1 12 ∧ Q (some (.int (μ.1 5 a1.toNatClampNeg))) μ) ∧ (¬ a2 = 3 → ((a2 = 4 → Q (some (.int (if ¬ ((μ.1 1 7) >>> (a1 &&& 31)) &&& 1 = 0 then 1 else 0))) μ) ∧ (¬ a2 = 4 → Q (some (.int (-1))) μ))))))))))) ∧ (¬ (0 ≤ a1 ∧ a1 < (μ.1 1 2)) → Q (some (.int (-1))) μ))) : kr_c (d + 3) i_C_line [.ref 0, .int a1, .int a2] μ Q := ⟨rfl, (st_C_line (st_C_line (And.intro rfl (st_C_line (st_C_line (And.intro rfl (c_R_hasLine (st_C_line (And.intro (fun z1x => (st_C_line (st_C_line (kr_tsel [48, 58, 68, 78, 88] rfl (by decide) (And.intro (fun z0 => (st_C_line (st_C_line (And.intro rfl (st_C_line (And.intro rfl (st_C_line (st_C_line (And.intro ⟨12, rfl, ((h.1 (kr_b1 z1x)).1 z0).1⟩ (st_C_line ((h.1 (kr_b1 z1x)).1 z0).2)))))))))) (fun z0 => (And.intro (fun z1 => (st_C_line (st_C_line (And.intro rfl (st_C_line (And.intro rfl (st_C_line (st_C_line (And.intro ⟨12, rfl, (((h.1 (kr_b1 z1x)).2 z0).1 z1).1⟩ (st_C_line (((h.1 (kr_b1 z1x)).2 z0).1 z1).2)))))))))) (fun z1 => (And.intro (fun z2 => (st_C_line (st_C_line (And.intro rfl (st_C_line (And.intro rfl (st_C_line (st_C_line (And.intro ⟨12, rfl, ((((h.1 (kr_b1 z1x)).2 z0).2 z1).1 z2).1⟩ (st_C_line ((((h.1 (kr_b1 z1x)).2 z0).2 z1).1 z2).2)))))))))) (fun z2 => (And.intro (fun z3 => (st_C_line (st_C_line (And.intro rfl (st_C_line (And.intro rfl (st_C_line (st_C_line (And.intro ⟨12, rfl, (((((h.1 (kr_b1 z1x)).2 z0).2 z1).2 z2).1 z3).1⟩ (st_C_line (((((h.1 (kr_b1 z1x)).2 z0).2 z1).2 z2).1 z3).2)))))))))) (fun z3 => (And.intro (fun z4 => (st_C_line (st_C_line (And.intro rfl (st_C_line (st_C_line (And.intro rfl (v_R_hasRoof (st_C_line (c_C_bitP (st_C_line ((((((h.1 (kr_b1 z1x)).2 z0).2 z1).2 z2).2 z3).1 z4)))))))))))) (fun z4 => (st_C_line (st_C_line ((((((h.1 (kr_b1 z1x)).2 z0).2 z1).2 z2).2 z3).2 z4))))))))))))))))) (fun z1x => (st_C_line (st_C_line (h.2 (kr_b2 z1x))))))))))))))⟩
theorem st_C_chalk {d : Nat} {Q : kr_Q} {pc : Nat} {ls : kr_L} {st : List Value} {μ : kr_M} (h : C_C_chalk pc (kr_Wp C_C_chalk (kr_c d) Q) (kr_c d) Q ls st μ) : kr_Wp C_C_chalk (kr_c d) Q pc ls st μ := kr_Wp.step (fun pc => (kr_ok_C_chalk pc).2) (kr_c_om d) h
theorem v_C_chalk {d : Nat} {Q : kr_Q} {μ : kr_M} {a1 : Int32} (h : ((0 ≤ a1 ∧ a1 < (μ.1 1 8) → vp_in a1 5 ∧ Q (some (.int (μ.1 6 a1.toNatClampNeg))) μ) ∧ (¬ (0 ≤ a1 ∧ a1 < (μ.1 1 8)) → Q (some (.int (-1))) μ))) : kr_c (d + 2) i_C_chalk [.ref 0, .int a1] μ Q := ⟨rfl, (st_C_chalk (st_C_chalk (And.intro rfl (st_C_chalk (st_C_chalk (And.intro rfl (c_R_hasDrawer (st_C_chalk (And.intro (fun z1x => (st_C_chalk (st_C_chalk (And.intro rfl (st_C_chalk (And.intro rfl (st_C_chalk (st_C_chalk (And.intro ⟨5, rfl, (h.1 (kr_b1 z1x)).1⟩ (st_C_chalk (h.1 (kr_b1 z1x)).2)))))))))) (fun z1x => (st_C_chalk (st_C_chalk (h.2 (kr_b2 z1x))))))))))))))⟩
theorem st_C_one {d : Nat} {Q : kr_Q} {pc : Nat} {ls : kr_L} {st : List Value} {μ : kr_M} (h : C_C_one pc (kr_Wp C_C_one (kr_c d) Q) (kr_c d) Q ls st μ) : kr_Wp C_C_one (kr_c d) Q pc ls st μ := kr_Wp.step (fun pc => (kr_ok_C_one pc).2) (kr_c_om d) h
theorem v_C_one {d : Nat} {Q : kr_Q} {μ : kr_M} {a1 : Int32} {a2 : Int32} (h : ((0 ≤ a1 ∧ a1 < (μ.1 1 10) → ((a2 = 0 → vp_in a1 5 ∧ Q (some (.int (μ.1 7 a1.toNatClampNeg))) μ) ∧ (¬ a2 = 0 → ((a2 = 1 → vp_in a1 5 ∧ Q (some (.int (μ.1 8 a1.toNatClampNeg))) μ) ∧ (¬ a2 = 1 → ((a2 = 2 → vp_in a1 5 ∧ Q (some (.int (μ.1 9 a1.toNatClampNeg))) μ) ∧ (¬ a2 = 2 → Q (some (.int (-1))) μ))))))) ∧ (¬ (0 ≤ a1 ∧ a1 < (μ.1 1 10)) → Q (some (.int (-1))) μ))) : kr_c (d + 2) i_C_one [.ref 0, .int a1, .int a2] μ Q := ⟨rfl, (st_C_one (st_C_one (And.intro rfl (st_C_one (st_C_one (And.intro rfl (c_R_hasOne (st_C_one (And.intro (fun z1x => (st_C_one (st_C_one (kr_tsel [40, 50, 60] rfl (by decide) (And.intro (fun z0 => (st_C_one (st_C_one (And.intro rfl (st_C_one (And.intro rfl (st_C_one (st_C_one (And.intro ⟨5, rfl, ((h.1 (kr_b1 z1x)).1 z0).1⟩ (st_C_one ((h.1 (kr_b1 z1x)).1 z0).2)))))))))) (fun z0 => (And.intro (fun z1 => (st_C_one (st_C_one (And.intro rfl (st_C_one (And.intro rfl (st_C_one (st_C_one (And.intro ⟨5, rfl, (((h.1 (kr_b1 z1x)).2 z0).1 z1).1⟩ (st_C_one (((h.1 (kr_b1 z1x)).2 z0).1 z1).2)))))))))) (fun z1 => (And.intro (fun z2 => (st_C_one (st_C_one (And.intro rfl (st_C_one (And.intro rfl (st_C_one (st_C_one (And.intro ⟨5, rfl, ((((h.1 (kr_b1 z1x)).2 z0).2 z1).1 z2).1⟩ (st_C_one ((((h.1 (kr_b1 z1x)).2 z0).2 z1).1 z2).2)))))))))) (fun z2 => (st_C_one (st_C_one ((((h.1 (kr_b1 z1x)).2 z0).2 z1).2 z2))))))))))))) (fun z1x => (st_C_one (st_C_one (h.2 (kr_b2 z1x))))))))))))))⟩
theorem st_C_rain {d : Nat} {Q : kr_Q} {pc : Nat} {ls : kr_L} {st : List Value} {μ : kr_M} (h : C_C_rain pc (kr_Wp C_C_rain (kr_c d) Q) (kr_c d) Q ls st μ) : kr_Wp C_C_rain (kr_c d) Q pc ls st μ := kr_Wp.step (fun pc => (kr_ok_C_rain pc).2) (kr_c_om d) h
theorem v_C_rain {d : Nat} {Q : kr_Q} {μ : kr_M} {a1 : Int32} (h : (((1 : Int32) ≤ a1 ∧ a1 ≤ 40 → kr_c (d + 2) i_R_rainsIn [.ref 1, .int a1] μ (kr_bk (kr_Wp C_C_rain (kr_c (d + 2)) Q) 17 [some (.ref 0), some (.int a1)] [])) ∧ (¬ ((1 : Int32) ≤ a1 ∧ a1 ≤ 40) → Q (some (.int (-1))) μ))) : kr_c (d + 3) i_C_rain [.ref 0, .int a1] μ Q := ⟨rfl, (st_C_rain (st_C_rain (c_C_isRainQuarter (st_C_rain (And.intro (fun z1x => (st_C_rain (st_C_rain (And.intro rfl (st_C_rain (st_C_rain (And.intro rfl (h.1 (kr_b1 z1x))))))))) (fun z1x => (st_C_rain (st_C_rain (h.2 (kr_b2 z1x))))))))))⟩
theorem v_C_rain_17 {d : Nat} {Q : kr_Q} {μ : kr_M} {a1 : Int32} {r : Int32} (h : Q (some (.int (if ¬ r = 0 then 1 else 0))) μ) : kr_Wp C_C_rain (kr_c (d + 2)) Q 17 [some (.ref 0), some (.int a1)] [.int r] μ := (st_C_rain (c_C_bit (st_C_rain h)))
theorem st_C_draw {d : Nat} {Q : kr_Q} {pc : Nat} {ls : kr_L} {st : List Value} {μ : kr_M} (h : C_C_draw pc (kr_Wp C_C_draw (kr_c d) Q) (kr_c d) Q ls st μ) : kr_Wp C_C_draw (kr_c d) Q pc ls st μ := kr_Wp.step (fun pc => (kr_ok_C_draw pc).2) (kr_c_om d) h
theorem v_C_draw {d : Nat} {Q : kr_Q} {μ : kr_M} {a1 : Int32} {a2 : Int32} (h : ((¬ (0 ≤ a1 ∧ a1 < (μ.1 1 8)) → Q (some (.int (-1))) μ) ∧ (0 ≤ a1 ∧ a1 < (μ.1 1 8) → ((0 ≤ a2 ∧ a2 < (μ.1 1 2) → vp_in a1 5 ∧ vp_in a2 12 ∧ (((μ.1 4 a2.toNatClampNeg) ≤ (μ.1 6 a1.toNatClampNeg) → vp_in a2 12 ∧ vp_in a1 5 ∧ vp_in a2 12 ∧ vp_in a1 5 ∧ vp_in a1 5 ∧ Q (some (.int (upd (μ.1 6) a1.toNatClampNeg ((μ.1 6 a1.toNatClampNeg) - (μ.1 4 a2.toNatClampNeg)) a1.toNatClampNeg))) (kr_u (kr_u μ 5 a2.toNatClampNeg 9) 6 a1.toNatClampNeg ((μ.1 6 a1.toNatClampNeg) - (μ.1 4 a2.toNatClampNeg)))) ∧ (¬ ((μ.1 4 a2.toNatClampNeg) ≤ (μ.1 6 a1.toNatClampNeg)) → Q (some (.int (-2))) μ))) ∧ (¬ (0 ≤ a2 ∧ a2 < (μ.1 1 2)) → Q (some (.int (-1))) μ))))) : kr_c (d + 2) i_C_draw [.ref 0, .int a1, .int a2] μ Q := ⟨rfl, (st_C_draw (st_C_draw (And.intro rfl (st_C_draw (st_C_draw (And.intro rfl (c_R_hasDrawer (st_C_draw (And.intro (fun z1x => (st_C_draw (st_C_draw (h.1 (kr_b0 z1x))))) (fun z1x => (st_C_draw (st_C_draw (And.intro rfl (st_C_draw (st_C_draw (And.intro rfl (c_R_hasLine (st_C_draw (And.intro (fun z2x => (st_C_draw (st_C_draw (And.intro rfl (st_C_draw (And.intro rfl (st_C_draw (st_C_draw (And.intro ⟨5, rfl, ((h.2 (kr_b1 z1x)).1 (kr_b1 z2x)).1⟩ (st_C_draw (st_C_draw (And.intro rfl (st_C_draw (And.intro rfl (st_C_draw (st_C_draw (And.intro ⟨12, rfl, ((h.2 (kr_b1 z1x)).1 (kr_b1 z2x)).2.1⟩ (st_C_draw (And.intro (fun z3x => (st_C_draw (st_C_draw (And.intro rfl (st_C_draw (And.intro rfl (st_C_draw (st_C_draw (st_C_draw (And.intro ⟨12, rfl, (((h.2 (kr_b1 z1x)).1 (kr_b1 z2x)).2.2.1 z3x).1⟩ (st_C_draw (st_C_draw (And.intro rfl (st_C_draw (And.intro rfl (st_C_draw (st_C_draw (st_C_draw (And.intro ⟨5, rfl, (((h.2 (kr_b1 z1x)).1 (kr_b1 z2x)).2.2.1 z3x).2.1⟩ (st_C_draw (st_C_draw (And.intro rfl (st_C_draw (And.intro rfl (st_C_draw (st_C_draw (And.intro ⟨12, rfl, (((h.2 (kr_b1 z1x)).1 (kr_b1 z2x)).2.2.1 z3x).2.2.1⟩ (st_C_draw (st_C_draw (And.intro ⟨5, rfl, (((h.2 (kr_b1 z1x)).1 (kr_b1 z2x)).2.2.1 z3x).2.2.2.1⟩ (st_C_draw (st_C_draw (And.intro rfl (st_C_draw (And.intro rfl (st_C_draw (st_C_draw (And.intro ⟨5, rfl, (((h.2 (kr_b1 z1x)).1 (kr_b1 z2x)).2.2.1 z3x).2.2.2.2.1⟩ (st_C_draw (((h.2 (kr_b1 z1x)).1 (kr_b1 z2x)).2.2.1 z3x).2.2.2.2.2))))))))))))))))))))))))))))))))))))))) (fun z3x => (st_C_draw (st_C_draw (((h.2 (kr_b1 z1x)).1 (kr_b1 z2x)).2.2.2 z3x))))))))))))))))))))))) (fun z2x => (st_C_draw (st_C_draw ((h.2 (kr_b1 z1x)).2 (kr_b2 z2x))))))))))))))))))))))))⟩
theorem st_C_rub {d : Nat} {Q : kr_Q} {pc : Nat} {ls : kr_L} {st : List Value} {μ : kr_M} (h : C_C_rub pc (kr_Wp C_C_rub (kr_c d) Q) (kr_c d) Q ls st μ) : kr_Wp C_C_rub (kr_c d) Q pc ls st μ := kr_Wp.step (fun pc => (kr_ok_C_rub pc).2) (kr_c_om d) h
theorem v_C_rub {d : Nat} {Q : kr_Q} {μ : kr_M} {a1 : Int32} {a2 : Int32} (h : ((¬ (0 ≤ a1 ∧ a1 < (μ.1 1 2)) → Q (some (.int (-1))) μ) ∧ (0 ≤ a1 ∧ a1 < (μ.1 1 2) → ((a2 < 0 → Q (some (.int (-1))) μ) ∧ (¬ (a2 < 0) → ((a2 ≤ 9 → vp_in a1 12 ∧ vp_in a1 12 ∧ Q (some (.int (μ.1 5 a1.toNatClampNeg))) (kr_u μ 5 a1.toNatClampNeg a2)) ∧ (¬ (a2 ≤ 9) → Q (some (.int (-1))) μ))))))) : kr_c (d + 2) i_C_rub [.ref 0, .int a1, .int a2] μ Q := ⟨rfl, (st_C_rub (st_C_rub (And.intro rfl (st_C_rub (st_C_rub (And.intro rfl (c_R_hasLine (st_C_rub (And.intro (fun z1x => (st_C_rub (st_C_rub (h.1 (kr_b0 z1x))))) (fun z1x => (st_C_rub (st_C_rub (And.intro (fun z2x => (st_C_rub (st_C_rub ((h.2 (kr_b1 z1x)).1 z2x)))) (fun z2x => (st_C_rub (st_C_rub (st_C_rub (And.intro (fun z3x => (st_C_rub (st_C_rub (And.intro rfl (st_C_rub (And.intro rfl (st_C_rub (st_C_rub (And.intro ⟨12, rfl, (((h.2 (kr_b1 z1x)).2 z2x).1 z3x).1⟩ (st_C_rub (st_C_rub (st_C_rub (And.intro rfl (st_C_rub (And.intro rfl (st_C_rub (st_C_rub (st_C_rub (And.intro ⟨12, rfl, (((h.2 (kr_b1 z1x)).2 z2x).1 z3x).2.1⟩ (st_C_rub (st_C_rub (((h.2 (kr_b1 z1x)).2 z2x).1 z3x).2.2))))))))))))))))))))) (fun z3x => (st_C_rub (st_C_rub (((h.2 (kr_b1 z1x)).2 z2x).2 z3x))))))))))))))))))))))⟩
theorem st_C_cloud {d : Nat} {Q : kr_Q} {pc : Nat} {ls : kr_L} {st : List Value} {μ : kr_M} (h : C_C_cloud pc (kr_Wp C_C_cloud (kr_c d) Q) (kr_c d) Q ls st μ) : kr_Wp C_C_cloud (kr_c d) Q pc ls st μ := kr_Wp.step (fun pc => (kr_ok_C_cloud pc).2) (kr_c_om d) h
theorem v_C_cloud {d : Nat} {Q : kr_Q} {μ : kr_M} {a1 : Int32} {a2 : Int32} (h : (((1 : Int32) ≤ a1 ∧ a1 ≤ 40 → kr_c (d + 2) i_R_rainsIn [.ref 1, .int a1] μ (kr_bk (kr_Wp C_C_cloud (kr_c (d + 2)) Q) 17 [some (.ref 0), some (.int a1), some (.int a2), none] [])) ∧ (¬ ((1 : Int32) ≤ a1 ∧ a1 ≤ 40) → Q (some (.int (-1))) μ))) : kr_c (d + 3) i_C_cloud [.ref 0, .int a1, .int a2] μ Q := ⟨rfl, (st_C_cloud (st_C_cloud (c_C_isRainQuarter (st_C_cloud (And.intro (fun z1x => (st_C_cloud (st_C_cloud (And.intro rfl (st_C_cloud (st_C_cloud (And.intro rfl (h.1 (kr_b1 z1x))))))))) (fun z1x => (st_C_cloud (st_C_cloud (h.2 (kr_b2 z1x))))))))))⟩
theorem v_C_cloud_17 {d : Nat} {Q : kr_Q} {μ : kr_M} {a1 : Int32} {a2 : Int32} {r : Int32} (h : kr_c (d + 2) i_R_setRain [.ref 1, .int a1, .int a2] μ (kr_bk (kr_Wp C_C_cloud (kr_c (d + 2)) Q) 30 [some (.ref 0), some (.int a1), some (.int a2), some (.int (if ¬ r = 0 then 1 else 0))] [])) : kr_Wp C_C_cloud (kr_c (d + 2)) Q 17 [some (.ref 0), some (.int a1), some (.int a2), none] [.int r] μ := (st_C_cloud (c_C_bit (st_C_cloud (st_C_cloud (st_C_cloud (And.intro rfl (st_C_cloud (st_C_cloud (st_C_cloud (And.intro rfl h))))))))))
theorem v_C_cloud_30 {d : Nat} {Q : kr_Q} {μ : kr_M} {a1 : Int32} {a2 : Int32} {a3 : Int32} (h : Q (some (.int a3)) μ) : kr_Wp C_C_cloud (kr_c (d + 2)) Q 30 [some (.ref 0), some (.int a1), some (.int a2), some (.int a3)] [] μ := (st_C_cloud (st_C_cloud h))
theorem st_C_build {d : Nat} {Q : kr_Q} {pc : Nat} {ls : kr_L} {st : List Value} {μ : kr_M} (h : C_C_build pc (kr_Wp C_C_build (kr_c d) Q) (kr_c d) Q ls st μ) : kr_Wp C_C_build (kr_c d) Q pc ls st μ := kr_Wp.step (fun pc => (kr_ok_C_build pc).2) (kr_c_om d) h
theorem v_C_build {d : Nat} {Q : kr_Q} {μ : kr_M} {a1 : Int32} {a2 : Int32} (h : ((0 ≤ a1 ∧ a1 < (μ.1 1 0) → kr_c (d + 2) i_R_setHouse [.ref 1, .int a1, .int a2] μ (kr_bk (kr_Wp C_C_build (kr_c (d + 2)) Q) 34 [some (.ref 0), some (.int a1), some (.int a2), some (.int (if ¬ ((μ.1 1 1) >>> (a1 &&& 31)) &&& 1 = 0 then 1 else 0))] [])) ∧ (¬ (0 ≤ a1 ∧ a1 < (μ.1 1 0)) → Q (some (.int (-1))) μ))) : kr_c (d + 3) i_C_build [.ref 0, .int a1, .int a2] μ Q := ⟨rfl, (st_C_build (st_C_build (And.intro rfl (st_C_build (st_C_build (And.intro rfl (c_R_hasPoint (st_C_build (And.intro (fun z1x => (st_C_build (st_C_build (And.intro rfl (st_C_build (st_C_build (And.intro rfl (v_R_isHouse1 (st_C_build (c_C_bitP (st_C_build (st_C_build (st_C_build (And.intro rfl (st_C_build (st_C_build (st_C_build (And.intro rfl (h.1 (kr_b1 z1x)))))))))))))))))))) (fun z1x => (st_C_build (st_C_build (h.2 (kr_b2 z1x))))))))))))))⟩
theorem v_C_build_34 {d : Nat} {Q : kr_Q} {μ : kr_M} {a1 : Int32} {a2 : Int32} {a3 : Int32} (h : Q (some (.int a3)) μ) : kr_Wp C_C_build (kr_c (d + 2)) Q 34 [some (.ref 0), some (.int a1), some (.int a2), some (.int a3)] [] μ := (st_C_build (st_C_build h))
theorem st_R_setRain {d : Nat} {Q : kr_Q} {pc : Nat} {ls : kr_L} {st : List Value} {μ : kr_M} (h : C_R_setRain pc (kr_Wp C_R_setRain (kr_c d) Q) (kr_c d) Q ls st μ) : kr_Wp C_R_setRain (kr_c d) Q pc ls st μ := kr_Wp.step (fun pc => (kr_ok_R_setRain pc).2) (kr_c_om d) h
theorem v_R_setRain {d : Nat} {Q : kr_Q} {μ : kr_M} {a1 : Int32} {a2 : Int32} (h : ((a2 = 0 → Q none (kr_uL μ 1 ((μ.2 1) &&& (((1 : Int64) <<< (a1.toInt64 &&& 63)) ^^^ (-1 : Int64))))) ∧ (¬ (a2 = 0) → Q none (kr_uL μ 1 ((μ.2 1) ||| ((1 : Int64) <<< (a1.toInt64 &&& 63))))))) : kr_c (d + 1) i_R_setRain [.ref 1, .int a1, .int a2] μ Q := ⟨rfl, (st_R_setRain (st_R_setRain (st_R_setRain (And.intro (fun z1x => (st_R_setRain (st_R_setRain (And.intro rfl (st_R_setRain (st_R_setRain (st_R_setRain (st_R_setRain (st_R_setRain (st_R_setRain (st_R_setRain (And.intro rfl (st_R_setRain (h.1 z1x)))))))))))))) (fun z1x => (st_R_setRain (st_R_setRain (And.intro rfl (st_R_setRain (st_R_setRain (st_R_setRain (st_R_setRain (st_R_setRain (st_R_setRain (And.intro rfl (st_R_setRain (h.2 z1x)))))))))))))))))⟩
theorem st_R_setHouse {d : Nat} {Q : kr_Q} {pc : Nat} {ls : kr_L} {st : List Value} {μ : kr_M} (h : C_R_setHouse pc (kr_Wp C_R_setHouse (kr_c d) Q) (kr_c d) Q ls st μ) : kr_Wp C_R_setHouse (kr_c d) Q pc ls st μ := kr_Wp.step (fun pc => (kr_ok_R_setHouse pc).2) (kr_c_om d) h
theorem v_R_setHouse {d : Nat} {Q : kr_Q} {μ : kr_M} {a1 : Int32} {a2 : Int32} (h : ((a2 = 0 → Q none (kr_u μ 1 1 ((μ.1 1 1) &&& (((1 : Int32) <<< (a1 &&& 31)) ^^^ (-1 : Int32))))) ∧ (¬ (a2 = 0) → Q none (kr_u μ 1 1 ((μ.1 1 1) ||| ((1 : Int32) <<< (a1 &&& 31))))))) : kr_c (d + 1) i_R_setHouse [.ref 1, .int a1, .int a2] μ Q := ⟨rfl, (st_R_setHouse (st_R_setHouse (st_R_setHouse (And.intro (fun z1x => (st_R_setHouse (st_R_setHouse (And.intro rfl (st_R_setHouse (st_R_setHouse (st_R_setHouse (st_R_setHouse (st_R_setHouse (st_R_setHouse (st_R_setHouse (And.intro rfl (st_R_setHouse (h.1 z1x)))))))))))))) (fun z1x => (st_R_setHouse (st_R_setHouse (And.intro rfl (st_R_setHouse (st_R_setHouse (st_R_setHouse (st_R_setHouse (st_R_setHouse (st_R_setHouse (And.intro rfl (st_R_setHouse (h.2 z1x)))))))))))))))))⟩
theorem st_R_addLine {d : Nat} {Q : kr_Q} {pc : Nat} {ls : kr_L} {st : List Value} {μ : kr_M} (h : C_R_addLine pc (kr_Wp C_R_addLine (kr_c d) Q) (kr_c d) Q ls st μ) : kr_Wp C_R_addLine (kr_c d) Q pc ls st μ := kr_Wp.step (fun pc => (kr_ok_R_addLine pc).2) (kr_c_om d) h
theorem v_R_addLine {d : Nat} {Q : kr_Q} {μ : kr_M} {a1 : Int32} {a2 : Int32} {a3 : Int32} {a4 : Int32} (h : (((μ.1 1 2) < 12 → vp_in (μ.1 1 2) 12 ∧ vp_in (μ.1 1 2) 12 ∧ vp_in (μ.1 1 2) 12 ∧ vp_in (μ.1 1 2) 12 ∧ Q (some (.int (((μ.1 1 2) + (1 : Int32)) - (1 : Int32)))) (kr_u (kr_u (kr_u (kr_u (kr_u μ 2 ((μ.1 1 2).toNatClampNeg) a1) 3 ((μ.1 1 2).toNatClampNeg) a2) 4 ((μ.1 1 2).toNatClampNeg) a3) 5 ((μ.1 1 2).toNatClampNeg) a4) 1 2 ((μ.1 1 2) + (1 : Int32)))) ∧ (¬ ((μ.1 1 2) < 12) → Q (some (.int (-3))) μ))) : kr_c (d + 1) i_R_addLine [.ref 1, .int a1, .int a2, .int a3, .int a4] μ Q := ⟨rfl, (st_R_addLine (st_R_addLine (And.intro rfl (st_R_addLine (st_R_addLine (And.intro (fun z1x => (st_R_addLine (st_R_addLine (And.intro rfl (st_R_addLine (st_R_addLine (And.intro rfl (st_R_addLine (st_R_addLine (And.intro ⟨12, rfl, (h.1 z1x).1⟩ (st_R_addLine (st_R_addLine (And.intro rfl (st_R_addLine (st_R_addLine (And.intro rfl (st_R_addLine (st_R_addLine (And.intro ⟨12, rfl, (h.1 z1x).2.1⟩ (st_R_addLine (st_R_addLine (And.intro rfl (st_R_addLine (st_R_addLine (And.intro rfl (st_R_addLine (st_R_addLine (And.intro ⟨12, rfl, (h.1 z1x).2.2.1⟩ (st_R_addLine (st_R_addLine (And.intro rfl (st_R_addLine (st_R_addLine (And.intro rfl (st_R_addLine (st_R_addLine (And.intro ⟨12, rfl, (h.1 z1x).2.2.2.1⟩ (st_R_addLine (st_R_addLine (st_R_addLine (And.intro rfl (st_R_addLine (st_R_addLine (st_R_addLine (And.intro rfl (st_R_addLine (st_R_addLine (And.intro rfl (st_R_addLine (st_R_addLine (st_R_addLine (h.1 z1x).2.2.2.2))))))))))))))))))))))))))))))))))))))))))))))))))) (fun z1x => (st_R_addLine (st_R_addLine (h.2 z1x))))))))))⟩
theorem st_C_plan {d : Nat} {Q : kr_Q} {pc : Nat} {ls : kr_L} {st : List Value} {μ : kr_M} (h : C_C_plan pc (kr_Wp C_C_plan (kr_c d) Q) (kr_c d) Q ls st μ) : kr_Wp C_C_plan (kr_c d) Q pc ls st μ := kr_Wp.step (fun pc => (kr_ok_C_plan pc).2) (kr_c_om d) h
theorem v_C_plan {d : Nat} {Q : kr_Q} {μ : kr_M} {a1 : Int32} {a2 : Int32} {a3 : Int32} (h : ((¬ (0 ≤ a1 ∧ a1 < (μ.1 1 0)) → Q (some (.int (-1))) μ) ∧ (0 ≤ a1 ∧ a1 < (μ.1 1 0) → ((¬ (0 ≤ a2 ∧ a2 < (μ.1 1 0)) → Q (some (.int (-1))) μ) ∧ (0 ≤ a2 ∧ a2 < (μ.1 1 0) → ((a1 = a2 → Q (some (.int (-1))) μ) ∧ (¬ (a1 = a2) → ((a3 < 1 → Q (some (.int (-1))) μ) ∧ (¬ (a3 < 1) → ((a3 ≤ 9 → kr_c (d + 1) i_R_addLine [.ref 1, .int a1, .int a2, .int a3, .int 0] μ (kr_bk (kr_Wp C_C_plan (kr_c (d + 1)) Q) 51 [some (.ref 0), some (.int a1), some (.int a2), some (.int a3)] [])) ∧ (¬ (a3 ≤ 9) → Q (some (.int (-1))) μ))))))))))) : kr_c (d + 2) i_C_plan [.ref 0, .int a1, .int a2, .int a3] μ Q := ⟨rfl, (st_C_plan (st_C_plan (And.intro rfl (st_C_plan (st_C_plan (And.intro rfl (c_R_hasPoint (st_C_plan (And.intro (fun z1x => (st_C_plan (st_C_plan (h.1 (kr_b0 z1x))))) (fun z1x => (st_C_plan (st_C_plan (And.intro rfl (st_C_plan (st_C_plan (And.intro rfl (c_R_hasPoint (st_C_plan (And.intro (fun z2x => (st_C_plan (st_C_plan ((h.2 (kr_b1 z1x)).1 (kr_b0 z2x))))) (fun z2x => (st_C_plan (st_C_plan (st_C_plan (And.intro (fun z3x => (st_C_plan (st_C_plan (((h.2 (kr_b1 z1x)).2 (kr_b1 z2x)).1 z3x)))) (fun z3x => (st_C_plan (st_C_plan (st_C_plan (And.intro (fun z4x => (st_C_plan (st_C_plan ((((h.2 (kr_b1 z1x)).2 (kr_b1 z2x)).2 z3x).1 z4x)))) (fun z4x => (st_C_plan (st_C_plan (st_C_plan (And.intro (fun z5x => (st_C_plan (st_C_plan (And.intro rfl (st_C_plan (st_C_plan (st_C_plan (st_C_plan (st_C_plan (And.intro rfl (((((h.2 (kr_b1 z1x)).2 (kr_b1 z2x)).2 z3x).2 z4x).1 z5x))))))))))) (fun z5x => (st_C_plan (st_C_plan (((((h.2 (kr_b1 z1x)).2 (kr_b1 z2x)).2 z3x).2 z4x).2 z5x))))))))))))))))))))))))))))))))))))))⟩
theorem v_C_plan_51 {d : Nat} {Q : kr_Q} {μ : kr_M} {a1 : Int32} {a2 : Int32} {a3 : Int32} {r : Int32} (h : Q (some (.int r)) μ) : kr_Wp C_C_plan (kr_c (d + 1)) Q 51 [some (.ref 0), some (.int a1), some (.int a2), some (.int a3)] [.int r] μ := (st_C_plan h)
theorem st_R_addHeard {d : Nat} {Q : kr_Q} {pc : Nat} {ls : kr_L} {st : List Value} {μ : kr_M} (h : C_R_addHeard pc (kr_Wp C_R_addHeard (kr_c d) Q) (kr_c d) Q ls st μ) : kr_Wp C_R_addHeard (kr_c d) Q pc ls st μ := kr_Wp.step (fun pc => (kr_ok_R_addHeard pc).2) (kr_c_om d) h
theorem v_R_addHeard {d : Nat} {Q : kr_Q} {μ : kr_M} {a1 : Int32} {a2 : Int32} (h : ((a1 = 0 → Q (some (.int (-1))) μ) ∧ (¬ (a1 = 0) → ((0 ≤ a1 ∧ a1 ≤ ((1 : Int32) <<< ((μ.1 1 2) &&& 31)) - 1 → (((μ.1 1 15) < 8 → vp_in (μ.1 1 15) 8 ∧ ((a2 = 0 → Q (some (.int ((μ.1 1 15) + (1 : Int32)))) (kr_u (kr_u (kr_u μ 10 ((μ.1 1 15).toNatClampNeg) a1) 1 17 ((μ.1 1 17) &&& (((1 : Int32) <<< ((μ.1 1 15) &&& 31)) ^^^ (-1 : Int32)))) 1 15 ((μ.1 1 15) + (1 : Int32)))) ∧ (¬ (a2 = 0) → Q (some (.int ((μ.1 1 15) + (1 : Int32)))) (kr_u (kr_u (kr_u μ 10 ((μ.1 1 15).toNatClampNeg) a1) 1 17 ((μ.1 1 17) ||| ((1 : Int32) <<< ((μ.1 1 15) &&& 31)))) 1 15 ((μ.1 1 15) + (1 : Int32)))))) ∧ (¬ ((μ.1 1 15) < 8) → Q (some (.int (-3))) μ))) ∧ (¬ (0 ≤ a1 ∧ a1 ≤ ((1 : Int32) <<< ((μ.1 1 2) &&& 31)) - 1) → Q (some (.int (-1))) μ))))) : kr_c (d + 3) i_R_addHeard [.ref 1, .int a1, .int a2] μ Q := ⟨rfl, (st_R_addHeard (st_R_addHeard (And.intro (fun z1x => (st_R_addHeard (st_R_addHeard (h.1 z1x)))) (fun z1x => (st_R_addHeard (st_R_addHeard (st_R_addHeard (And.intro rfl (c_R_hasLines (st_R_addHeard (And.intro (fun z2x => (st_R_addHeard (st_R_addHeard (And.intro rfl (st_R_addHeard (st_R_addHeard (And.intro (fun z3x => (st_R_addHeard (st_R_addHeard (And.intro rfl (st_R_addHeard (st_R_addHeard (And.intro rfl (st_R_addHeard (st_R_addHeard (And.intro ⟨8, rfl, (((h.2 z1x).1 (kr_b1 z2x)).1 z3x).1⟩ (st_R_addHeard (st_R_addHeard (st_R_addHeard (And.intro (fun z4x => (st_R_addHeard (st_R_addHeard (And.intro rfl (st_R_addHeard (st_R_addHeard (st_R_addHeard (And.intro rfl (st_R_addHeard (st_R_addHeard (st_R_addHeard (st_R_addHeard (st_R_addHeard (And.intro rfl (st_R_addHeard (st_R_addHeard (st_R_addHeard (And.intro rfl (st_R_addHeard (st_R_addHeard (st_R_addHeard (And.intro rfl (st_R_addHeard (st_R_addHeard (And.intro rfl (st_R_addHeard ((((h.2 z1x).1 (kr_b1 z2x)).1 z3x).2.1 z4x))))))))))))))))))))))))))) (fun z4x => (st_R_addHeard (st_R_addHeard (And.intro rfl (st_R_addHeard (st_R_addHeard (st_R_addHeard (And.intro rfl (st_R_addHeard (st_R_addHeard (st_R_addHeard (st_R_addHeard (And.intro rfl (st_R_addHeard (st_R_addHeard (st_R_addHeard (And.intro rfl (st_R_addHeard (st_R_addHeard (st_R_addHeard (And.intro rfl (st_R_addHeard (st_R_addHeard (And.intro rfl (st_R_addHeard ((((h.2 z1x).1 (kr_b1 z2x)).1 z3x).2.2 z4x)))))))))))))))))))))))))))))))))))))))) (fun z3x => (st_R_addHeard (st_R_addHeard (((h.2 z1x).1 (kr_b1 z2x)).2 z3x))))))))))) (fun z2x => (st_R_addHeard (st_R_addHeard ((h.2 z1x).2 (kr_b2 z2x))))))))))))))))⟩
theorem st_C_hear {d : Nat} {Q : kr_Q} {pc : Nat} {ls : kr_L} {st : List Value} {μ : kr_M} (h : C_C_hear pc (kr_Wp C_C_hear (kr_c d) Q) (kr_c d) Q ls st μ) : kr_Wp C_C_hear (kr_c d) Q pc ls st μ := kr_Wp.step (fun pc => (kr_ok_C_hear pc).2) (kr_c_om d) h
theorem v_C_hear {d : Nat} {Q : kr_Q} {μ : kr_M} {a1 : Int32} {a2 : Int32} (h : kr_c (d + 3) i_R_addHeard [.ref 1, .int a1, .int a2] μ (kr_bk (kr_Wp C_C_hear (kr_c (d + 3)) Q) 9 [some (.ref 0), some (.int a1), some (.int a2)] [])) : kr_c (d + 4) i_C_hear [.ref 0, .int a1, .int a2] μ Q := ⟨rfl, (st_C_hear (st_C_hear (And.intro rfl (st_C_hear (st_C_hear (st_C_hear (And.intro rfl h)))))))⟩
theorem v_C_hear_9 {d : Nat} {Q : kr_Q} {μ : kr_M} {a1 : Int32} {a2 : Int32} {r : Int32} (h : Q (some (.int r)) μ) : kr_Wp C_C_hear (kr_c (d + 3)) Q 9 [some (.ref 0), some (.int a1), some (.int a2)] [.int r] μ := (st_C_hear h)
theorem st_C_forget {d : Nat} {Q : kr_Q} {pc : Nat} {ls : kr_L} {st : List Value} {μ : kr_M} (h : C_C_forget pc (kr_Wp C_C_forget (kr_c d) Q) (kr_c d) Q ls st μ) : kr_Wp C_C_forget (kr_c d) Q pc ls st μ := kr_Wp.step (fun pc => (kr_ok_C_forget pc).2) (kr_c_om d) h
theorem v_C_forget {d : Nat} {Q : kr_Q} {μ : kr_M} {a1 : Int32} (h : ((a1 < 0 → Q (some (.int (-1))) μ) ∧ (¬ (a1 < 0) → ((a1 ≤ (μ.1 1 15) → Q (some (.int (μ.1 1 15))) (kr_u μ 1 15 a1)) ∧ (¬ (a1 ≤ (μ.1 1 15)) → Q (some (.int (-1))) μ))))) : kr_c (d + 1) i_C_forget [.ref 0, .int a1] μ Q := ⟨rfl, (st_C_forget (st_C_forget (And.intro (fun z1x => (st_C_forget (st_C_forget (h.1 z1x)))) (fun z1x => (st_C_forget (st_C_forget (st_C_forget (And.intro rfl (st_C_forget (And.intro rfl (st_C_forget (And.intro (fun z2x => (st_C_forget (st_C_forget (And.intro rfl (st_C_forget (And.intro rfl (st_C_forget (st_C_forget (st_C_forget (And.intro rfl (st_C_forget (st_C_forget (And.intro rfl (st_C_forget (st_C_forget ((h.2 z1x).1 z2x)))))))))))))))) (fun z2x => (st_C_forget (st_C_forget ((h.2 z1x).2 z2x))))))))))))))))⟩
theorem st_C_wet {d : Nat} {Q : kr_Q} {pc : Nat} {ls : kr_L} {st : List Value} {μ : kr_M} (h : C_C_wet pc (kr_Wp C_C_wet (kr_c d) Q) (kr_c d) Q ls st μ) : kr_Wp C_C_wet (kr_c d) Q pc ls st μ := kr_Wp.step (fun pc => (kr_ok_C_wet pc).2) (kr_c_om d) h
theorem v_C_wet {d : Nat} {Q : kr_Q} {μ : kr_M}  (h : kr_c (d + 3) i_R_wholeLines [.ref 1] μ (kr_bk (kr_Wp C_C_wet (kr_c (d + 3)) Q) 7 [some (.ref 0), none] [])) : kr_c (d + 4) i_C_wet [.ref 0] μ Q := ⟨rfl, (st_C_wet (st_C_wet (And.intro rfl (st_C_wet (And.intro rfl h)))))⟩
theorem v_C_wet_7 {d : Nat} {Q : kr_Q} {μ : kr_M} {r : Int32} (h : kr_c (d + 3) i_R_rainRubs [.ref 1, .ref 5] μ (kr_bk (kr_Wp C_C_wet (kr_c (d + 3)) Q) 22 [some (.ref 0), some (.int r)] [])) : kr_Wp C_C_wet (kr_c (d + 3)) Q 7 [some (.ref 0), none] [.int r] μ := (st_C_wet (st_C_wet (st_C_wet (And.intro rfl (st_C_wet (st_C_wet (And.intro rfl (st_C_wet (And.intro rfl (st_C_wet (And.intro rfl h)))))))))))
theorem v_C_wet_22 {d : Nat} {Q : kr_Q} {μ : kr_M} {a1 : Int32} (h : kr_c (d + 3) i_R_wholeLines [.ref 1] μ (kr_bk (kr_Wp C_C_wet (kr_c (d + 3)) Q) 30 [some (.ref 0), some (.int a1)] [.int a1])) : kr_Wp C_C_wet (kr_c (d + 3)) Q 22 [some (.ref 0), some (.int a1)] [] μ := (st_C_wet (st_C_wet (st_C_wet (And.intro rfl (st_C_wet (And.intro rfl h))))))
theorem v_C_wet_30 {d : Nat} {Q : kr_Q} {μ : kr_M} {a1 : Int32} {r : Int32} {s0 : Int32} (h : Q (some (.int (s0 &&& (r ^^^ (-1 : Int32))))) μ) : kr_Wp C_C_wet (kr_c (d + 3)) Q 30 [some (.ref 0), some (.int a1)] [.int r, .int s0] μ := (st_C_wet (st_C_wet (st_C_wet (st_C_wet h))))
def ax_rule (g : Nat → Nat) (P D K : Nat) (x : Int32) : Int32 := if x = 0 then nI P else if x = 1 then nI (g 0) else if x = 2 then nI D else if x = 3 then nI K else if x = 4 then nI (g 61) else -1
def ax_line (g : Nat → Nat) (x y : Int32) : Int32 := if (0 ≤ x ∧ x < nI (g 0)) ∧ (0 ≤ y ∧ y ≤ 4) then nI (kr_gk g x.toNatClampNeg y.toNatClampNeg) else -1
def ax_chalk (g : Nat → Nat) (D : Nat) (x : Int32) : Int32 := if 0 ≤ x ∧ x < nI D then nI (g (62 + x.toNatClampNeg)) else -1
def ax_one (t : Nat → Nat) (K : Nat) (x y : Int32) : Int32 := if (0 ≤ x ∧ x < nI K) ∧ (0 ≤ y ∧ y ≤ 2) then nI (t (3 * x.toNatClampNeg + y.toNatClampNeg)) else -1
def ax_rain (g : Nat → Nat) (x : Int32) : Int32 := if (1 : Int32) ≤ x ∧ x ≤ 40 then nI (g (67 + x.toNatClampNeg)) else -1
abbrev kz_A : Type := Int32 × (Nat → Nat)
def pz_draw (g : Nat → Nat) (D : Nat) (x y : Int32) : kz_A := if (0 ≤ x ∧ x < nI D) ∧ (0 ≤ y ∧ y < nI (g 0)) then (if kr_gk g y.toNatClampNeg 2 ≤ g (62 + x.toNatClampNeg) then (nI (g (62 + x.toNatClampNeg) - kr_gk g y.toNatClampNeg 2), kz_draw g x.toNatClampNeg y.toNatClampNeg) else (-2, g)) else (-1, g)
def pz_rub (g : Nat → Nat) (x y : Int32) : kz_A := if (0 ≤ x ∧ x < nI (g 0)) ∧ (0 ≤ y ∧ y ≤ 9) then (nI (kr_gk g x.toNatClampNeg 3), kz_rub g x.toNatClampNeg y.toNatClampNeg) else (-1, g)
def kz_wetA (g : Nat → Nat) : Nat := kr_bm (g 0) (fun l => kr_gk g l 4 == 0 && kr_gk g l 3 == 1)
def pz_cloud (g : Nat → Nat) (x z : Int32) : kz_A := if (1 : Int32) ≤ x ∧ x ≤ 40 then (nI (g (67 + x.toNatClampNeg)), kx_un g (67 + x.toNatClampNeg) (if z = 0 then 0 else 1)) else (-1, g)
def pz_build (g : Nat → Nat) (P : Nat) (x z : Int32) : kz_A := if 0 ≤ x ∧ x < nI P then (nI ((g 61).testBit x.toNatClampNeg).toNat, kx_un g 61 (if z = 0 then kr_cl (g 61) x.toNatClampNeg else g 61 ||| 2 ^ x.toNatClampNeg)) else (-1, g)
def pz_plan (g : Nat → Nat) (P : Nat) (x y w : Int32) : kz_A := if ((0 ≤ x ∧ x < nI P) ∧ (0 ≤ y ∧ y < nI P)) ∧ (¬ x = y ∧ (1 : Int32) ≤ w ∧ w ≤ 9) then (if g 0 = 12 then (-3, g) else (nI (g 0), kz_plan g x.toNatClampNeg y.toNatClampNeg w.toNatClampNeg)) else (-1, g)
def pz_hear (g : Nat → Nat) (x z : Int32) : kz_A := if ¬ x = 0 ∧ 0 ≤ x ∧ x ≤ ((1 : Int32) <<< (nI (g 0) &&& 31)) - 1 then (if g 108 = 8 then (-3, g) else (nI (g 108 + 1), kz_hear g x.toNatClampNeg (if z = 0 then 0 else 1))) else (-1, g)
def pz_forget (g : Nat → Nat) (x : Int32) : kz_A := if 0 ≤ x ∧ x ≤ nI (g 108) then (nI (g 108), kx_un g 108 x.toNatClampNeg) else (-1, g)
/-- a number between -1 and a small one -/
theorem kr_ixm {x : Int32} {n : Nat} (hn : n < 2 ^ 31) (h : 0 ≤ x ∧ x ≤ nI n) : ∃ j, j ≤ n ∧ x = nI j := by
  obtain ⟨j, h1, h2⟩ := nI_of (x := x) (kr_nlt.mpr h.1)
  refine ⟨j, ?_, h2⟩
  have := h.2
  rw [h2, nI_leI h1 hn] at this
  exact this
theorem kr_b01 (b : Bool) : (if ¬ nI b.toNat = 0 then (1 : Int32) else 0) = nI b.toNat := by cases b <;> decide
theorem kr_le01 {n : Nat} (h : n ≤ 1) : (if ¬ nI n = 0 then (1 : Int32) else 0) = nI n := by
  rcases (by omega : n = 0 ∨ n = 1) with h | h <;> rw [h] <;> decide
theorem kr_bitI {n i : Nat} (h : n < 2 ^ 31) (hi : i < 31) : (if ¬ (nI n >>> (nI i &&& 31)) &&& 1 = 0 then (1 : Int32) else 0) = nI ((n.testBit i).toNat) := by
  rw [kr_bit h hi, kr_b01]
section
variable {d : Nat} {Q : kr_Q} {μ : kr_M} {g t : Nat → Nat} {P D K : Nat} {x y z w : Int32}
theorem c_C_rule (hR : kr_Rg μ 1 g P D K t) (k : Q (some (.int (ax_rule g P D K x))) μ) : kr_c (d + 1) i_C_rule [.ref 0, .int x] μ Q := by
  obtain ⟨⟨a1, a2, a3, a4, a5, a6⟩, -⟩ := hR
  refine v_C_rule ?_
  rw [a1, a2, a3, a4, a5]
  unfold ax_rule at k
  refine ⟨fun c => by rw [if_pos c] at k; exact k, fun c => ?_⟩
  rw [if_neg c] at k
  refine ⟨fun c => by rw [if_pos c] at k; exact k, fun c => ?_⟩
  rw [if_neg c] at k
  refine ⟨fun c => by rw [if_pos c] at k; exact k, fun c => ?_⟩
  rw [if_neg c] at k
  refine ⟨fun c => by rw [if_pos c] at k; exact k, fun c => ?_⟩
  rw [if_neg c] at k
  exact ⟨fun c => by rw [if_pos c] at k; exact k, fun c => by rw [if_neg c] at k; exact k⟩
theorem kx_04 {y : Int32} (h0 : ¬ y = 0) (h1 : ¬ y = 1) (h2 : ¬ y = 2) (h3 : ¬ y = 3) (h4 : ¬ y = 4) : ¬ (0 ≤ y ∧ y ≤ 4) := by
  simp only [kr_le, kr_eqi, show (0 : Int32).toInt = 0 from rfl, show (1 : Int32).toInt = 1 from rfl, show (2 : Int32).toInt = 2 from rfl, show (3 : Int32).toInt = 3 from rfl, show (4 : Int32).toInt = 4 from rfl] at *
  omega
theorem kx_02 {y : Int32} (h0 : ¬ y = 0) (h1 : ¬ y = 1) (h2 : ¬ y = 2) : ¬ (0 ≤ y ∧ y ≤ 2) := by
  simp only [kr_le, kr_eqi, show (0 : Int32).toInt = 0 from rfl, show (1 : Int32).toInt = 1 from rfl, show (2 : Int32).toInt = 2 from rfl] at *
  omega
theorem c_C_line (hw : kr_wf g P D K t) (hR : kr_Rg μ 1 g P D K t) (k : Q (some (.int (ax_line g x y))) μ) : kr_c (d + 3) i_C_line [.ref 0, .int x, .int y] μ Q := by
  have hN := hw.1.1
  obtain ⟨⟨a1, a2, a3, a4, a5, a6⟩, b, r, -⟩ := hR
  refine v_C_line ?_
  rw [a3]
  unfold ax_line at k
  refine ⟨fun c => ?_, fun c => by rw [if_neg (fun q => c q.1)] at k; exact k⟩
  obtain ⟨l, hl, rfl⟩ := kr_ix (by omega) c
  rw [nI_clamp (by omega)] at k ⊢
  have vl : vp_in (nI l) 12 := vp_in_nI (by omega) (by decide)
  obtain ⟨b1, b2, b3, b4⟩ := b l hl
  have hlt : kr_bm (g 0) (fun l => kr_gk g l 4 == 1) < 2 ^ 12 := Nat.lt_of_lt_of_le (kr_bm_lt _ _) (Nat.pow_le_pow_right (by decide) hN)
  rw [b1, b2, b3, b4, r, kr_bitI (by omega) (by omega), kr_bm_bit]
  have h4 := (hw.2.1 l hl).2.2.2.2.2.2
  refine ⟨fun c2 => ⟨vl, ?_⟩, fun c0 => ⟨fun c2 => ⟨vl, ?_⟩, fun c1 => ⟨fun c2 => ⟨vl, ?_⟩, fun c3 => ⟨fun c2 => ⟨vl, ?_⟩, fun c4 => ⟨fun c2 => ?_, fun c5 => ?_⟩⟩⟩⟩⟩
  · subst c2; rw [if_pos ⟨c, by decide⟩] at k; exact k
  · subst c2; rw [if_pos ⟨c, by decide⟩] at k; exact k
  · subst c2; rw [if_pos ⟨c, by decide⟩] at k; exact k
  · subst c2; rw [if_pos ⟨c, by decide⟩] at k; exact k
  · subst c2; rw [if_pos ⟨c, by decide⟩] at k
    have e : (decide (l < g 0) && kr_gk g l 4 == 1).toNat = kr_gk g l 4 := by
      rcases (by omega : kr_gk g l 4 = 0 ∨ kr_gk g l 4 = 1) with h | h <;> simp [h, hl]
    rw [e]; exact k
  · rw [if_neg (fun q => kx_04 c0 c1 c3 c4 c5 q.2)] at k; exact k
theorem c_C_chalk (hw : kr_wf g P D K t) (hR : kr_Rg μ 1 g P D K t) (k : Q (some (.int (ax_chalk g D x))) μ) : kr_c (d + 2) i_C_chalk [.ref 0, .int x] μ Q := by
  have hD := hw.1.2.2.2.1
  obtain ⟨⟨a1, a2, a3, a4, a5, a6⟩, b, r, h6, -⟩ := hR
  refine v_C_chalk ?_
  rw [a4]
  unfold ax_chalk at k
  refine ⟨fun c => ?_, fun c => by rw [if_neg c] at k; exact k⟩
  rw [if_pos c] at k
  obtain ⟨l, hl, rfl⟩ := kr_ix (by omega) c
  rw [nI_clamp (by omega)] at k ⊢
  exact ⟨vp_in_nI (by omega) (by decide), by rw [h6 l hl]; exact k⟩
theorem c_C_one (hw : kr_wf g P D K t) (hR : kr_Rg μ 1 g P D K t) (k : Q (some (.int (ax_one t K x y))) μ) : kr_c (d + 2) i_C_one [.ref 0, .int x, .int y] μ Q := by
  have hK := hw.1.2.2.2.2
  obtain ⟨⟨a1, a2, a3, a4, a5, a6⟩, b, r, h6, h7, -⟩ := hR
  refine v_C_one ?_
  rw [a5]
  unfold ax_one at k
  refine ⟨fun c => ?_, fun c => by rw [if_neg (fun q => c q.1)] at k; exact k⟩
  obtain ⟨l, hl, rfl⟩ := kr_ix (by omega) c
  rw [nI_clamp (by omega)] at k ⊢
  have vl : vp_in (nI l) 5 := vp_in_nI (by omega) (by decide)
  obtain ⟨b1, b2, b3⟩ := h7 l hl
  rw [b1, b2, b3]
  refine ⟨fun c2 => ⟨vl, ?_⟩, fun c0 => ⟨fun c2 => ⟨vl, ?_⟩, fun c1 => ⟨fun c2 => ⟨vl, ?_⟩, fun c3 => ?_⟩⟩⟩
  · subst c2; rw [if_pos ⟨c, by decide⟩] at k; exact k
  · subst c2; rw [if_pos ⟨c, by decide⟩] at k; exact k
  · subst c2; rw [if_pos ⟨c, by decide⟩] at k; exact k
  · rw [if_neg (fun q => kx_02 c0 c1 c3 q.2)] at k; exact k
theorem kr_ix40 {x : Int32} (h : (1 : Int32) ≤ x ∧ x ≤ 40) : ∃ j, (1 ≤ j ∧ j ≤ 40) ∧ x = nI j := by
  have e1 : (1 : Int32).toInt = 1 := rfl
  have e40 : (40 : Int32).toInt = 40 := rfl
  obtain ⟨j, h1, h2⟩ := nI_of (x := x) (by have := h.1; rw [kr_le] at this; rw [kr_lt]; have e0 : (0 : Int32).toInt = 0 := rfl; omega)
  refine ⟨j, ?_, h2⟩
  rw [h2, kr_le, kr_le, nI_toInt h1] at h
  omega
theorem kz_rain {g : Nat → Nat} {q : Nat} (hr : ∀ q, q < 41 → g (67 + q) ≤ 1) (h1 : 1 ≤ q) (h40 : q ≤ 40) : (if ¬ (if 1 ≤ q ∧ q ≤ 40 ∧ g (67 + q) = 1 then (1 : Int32) else 0) = 0 then (1 : Int32) else 0) = nI (g (67 + q)) := by
  have := hr q (by omega)
  rcases (by omega : g (67 + q) = 0 ∨ g (67 + q) = 1) with h | h
  · rw [h, if_neg (show ¬ (1 ≤ q ∧ q ≤ 40 ∧ 0 = 1) by omega)]; decide
  · rw [h, if_pos (⟨h1, h40, rfl⟩ : 1 ≤ q ∧ q ≤ 40 ∧ 1 = 1)]; decide
theorem c_C_rain (hw : kr_wf g P D K t) (hR : kr_Rg μ 1 g P D K t) (k : Q (some (.int (ax_rain g x))) μ) : kr_c (d + 3) i_C_rain [.ref 0, .int x] μ Q := by
  refine v_C_rain ?_
  unfold ax_rain at k
  refine ⟨fun c => ?_, fun c => by rw [if_neg c] at k; exact k⟩
  rw [if_pos c] at k
  obtain ⟨q, ⟨h1, h40⟩, rfl⟩ := kr_ix40 c
  rw [nI_clamp (by omega)] at k
  refine c_R_rainsIn hR.B (by omega) (v_C_rain_17 ?_)
  rw [kz_rain hw.hr h1 h40]
  exact k
theorem kr_Rg.str {μ' : kr_M} {g' : Nat → Nat} (hw : kr_wf g P D K t) (h : kr_Rg μ 1 g P D K t) (k : kr_keep [5] [] μ μ') (hn : ∀ j, j < 125 → (∀ l, l < g 0 → j ≠ 4 + 5 * l) → g' j = g j) (hs : ∀ l, l < g 0 → μ'.1 5 l = nI (g' (4 + 5 * l))) : kr_Rg μ' 1 g' P D K t := by
  obtain ⟨⟨n12, -, -, d5, -⟩, -, -, -, -, -, h8, -⟩ := hw
  obtain ⟨⟨a1, a2, a3, a4, a5, a6⟩, b, r, h6, h7, hl, h10, c, c1, c2, c3⟩ := h
  have e : ∀ o, o ≠ 5 → μ'.1 o = μ.1 o := fun o ho => k.row (by simpa using ho) (fun q hq => by cases hq)
  have g0 : g' 0 = g 0 := hn 0 (by decide) (fun l _ => by omega)
  have g108 : g' 108 = g 108 := hn 108 (by decide) (fun l hl => by omega)
  have gk : ∀ l w, l < g 0 → w < 5 → w ≠ 3 → kr_gk g' l w = kr_gk g l w := fun l w hl h1 h2 => hn _ (by omega) (fun m hm => by omega)
  refine ⟨⟨by rw [e 1 (by decide)]; exact a1, ?_, ?_, by rw [e 1 (by decide)]; exact a4, by rw [e 1 (by decide)]; exact a5, ?_⟩, fun l hl => ?_, ?_, fun d hd => ?_, fun p hp => ?_, ?_, fun m hm => ?_, c, c1, ?_, fun m hm => ?_⟩
  · rw [e 1 (by decide), hn 61 (by decide) (fun l hl => by omega)]; exact a2
  · rw [e 1 (by decide), g0]; exact a3
  · rw [e 1 (by decide), g108]; exact a6
  · rw [g0] at hl
    obtain ⟨b1, b2, b3, b4⟩ := b l hl
    rw [e 2 (by decide), e 3 (by decide), e 4 (by decide), gk l 0 hl (by decide) (by decide), gk l 1 hl (by decide) (by decide), gk l 2 hl (by decide) (by decide), kz_gk3]
    exact ⟨b1, b2, b3, hs l hl⟩
  · rw [e 1 (by decide), r, g0]
    congr 1
    exact kr_bm_congr (fun l hl => by rw [gk l 4 hl (by decide) (by decide)])
  · rw [e 6 (by decide), hn (62 + d) (by omega) (fun l hl => by omega)]; exact h6 d hd
  · rw [e 7 (by decide), e 8 (by decide), e 9 (by decide)]; exact h7 p hp
  · rw [k.1, hl]
    congr 1
    exact kr_bm_congr (fun q hq => by rw [hn (67 + q) (by omega) (fun l hl => by omega)])
  · rw [g108] at hm
    rw [e 10 (by decide), hn (109 + 2 * m) (by omega) (fun l hl => by omega)]; exact h10 m hm
  · rw [e 1 (by decide)]; exact c2
  · rw [g108] at hm
    rw [hn (110 + 2 * m) (by omega) (fun l hl => by omega)]; exact c3 m hm
theorem kr_Rg.chalk {d' v : Nat} (hw : kr_wf g P D K t) (h : kr_Rg μ 1 g P D K t) (hd : d' < D) : kr_Rg (kr_u μ 6 d' (nI v)) 1 (kx_un g (62 + d') v) P D K t := by
  obtain ⟨⟨n12, -, -, d5, -⟩, -, -, -, -, -, h8, -⟩ := hw
  obtain ⟨⟨a1, a2, a3, a4, a5, a6⟩, b, r, h6, h7, hl, h10, c, c1, c2, c3⟩ := h
  have hn : ∀ j, j ≠ 62 + d' → kx_un g (62 + d') v j = g j := fun j hj => kx_un_n _ _ hj
  have e : ∀ o, o ≠ 6 → (kr_u μ 6 d' (nI v)).1 o = μ.1 o := fun o ho => kr_u_n _ _ _ ho
  have gk : ∀ l w, l < g 0 → w < 5 → kr_gk (kx_un g (62 + d') v) l w = kr_gk g l w := fun l w hl h1 => hn _ (by omega)
  have g0 := hn 0 (by omega)
  have g108 := hn 108 (by omega)
  refine ⟨⟨by rw [e 1 (by decide)]; exact a1, ?_, ?_, by rw [e 1 (by decide)]; exact a4, by rw [e 1 (by decide)]; exact a5, ?_⟩, fun l hl => ?_, ?_, fun d hd => ?_, fun p hp => ?_, ?_, fun m hm => ?_, c, c1, ?_, fun m hm => ?_⟩
  · rw [e 1 (by decide), hn 61 (by omega)]; exact a2
  · rw [e 1 (by decide), g0]; exact a3
  · rw [e 1 (by decide), g108]; exact a6
  · rw [g0] at hl
    rw [e 2 (by decide), e 3 (by decide), e 4 (by decide), e 5 (by decide), gk l 0 hl (by decide), gk l 1 hl (by decide), gk l 2 hl (by decide), gk l 3 hl (by decide)]
    exact b l hl
  · rw [e 1 (by decide), r, g0]
    congr 1
    exact kr_bm_congr (fun l hl => by rw [gk l 4 hl (by decide)])
  · rw [kr_u_s]
    by_cases ed : d = d'
    · rw [ed, kr_upd_s, kx_un_s]
    · rw [kr_upd_n _ _ ed, hn _ (by omega)]; exact h6 d hd
  · rw [e 7 (by decide), e 8 (by decide), e 9 (by decide)]; exact h7 p hp
  · rw [kr_u_2, hl]
    congr 1
    exact kr_bm_congr (fun q hq => by rw [hn (67 + q) (by omega)])
  · rw [g108] at hm
    rw [e 10 (by decide), hn (109 + 2 * m) (by omega)]; exact h10 m hm
  · rw [e 1 (by decide)]; exact c2
  · rw [g108] at hm
    rw [hn (110 + 2 * m) (by omega)]; exact c3 m hm
theorem c_C_draw (hw : kr_wf g P D K t) (hR : kr_Rg μ 1 g P D K t) (k : ∀ μ', kr_keep [5, 6] [] μ μ' → kr_Rg μ' 1 (pz_draw g D x y).2 P D K t → Q (some (.int (pz_draw g D x y).1)) μ') : kr_c (d + 2) i_C_draw [.ref 0, .int x, .int y] μ Q := by
  have hN := hw.1.1
  have hD := hw.1.2.2.2.1
  have hR' := hR
  obtain ⟨⟨a1, a2, a3, a4, a5, a6⟩, b, r, h6, -⟩ := hR'
  refine v_C_draw ?_
  rw [a3, a4]
  unfold pz_draw at k
  refine ⟨fun c => by rw [if_neg (fun q => c q.1)] at k; exact k μ kr_keep.rf hR, fun c => ⟨fun c2 => ?_, fun c2 => by rw [if_neg (fun q => c2 q.2)] at k; exact k μ kr_keep.rf hR⟩⟩
  rw [if_pos ⟨c, c2⟩] at k
  obtain ⟨e, he, rfl⟩ := kr_ix (by omega) c
  obtain ⟨l, hl, rfl⟩ := kr_ix (by omega) c2
  rw [nI_clamp (by omega), nI_clamp (by omega)] at k
  rw [nI_clamp (by omega), nI_clamp (by omega), h6 e he, (b l hl).2.2.1]
  have ve : vp_in (nI e) 5 := vp_in_nI (by omega) (by decide)
  have vl : vp_in (nI l) 12 := vp_in_nI (by omega) (by decide)
  have h50 := hw.2.2.2.1 e he
  have hy := (hw.2.1 l hl).2.2.2.2.1
  rw [nI_leI (by omega) (by omega), kr_upd_s]
  refine ⟨ve, vl, fun cc => ⟨vl, ve, vl, ve, ve, ?_⟩, fun cc => by rw [if_neg cc] at k; exact k μ kr_keep.rf hR⟩
  rw [if_pos cc] at k
  rw [pk_sub cc]
  refine k _ ((kr_keep.rf.u _ _ (by decide)).u _ _ (by decide)) ?_
  have hr1 : kr_Rg (kr_u μ 5 l 9) 1 (kz_rub g l 9) P D K t := by
    refine hR.str hw (kr_keep.rf.u _ _ (by decide)) (fun j _ hj => kz_rub_n (hj l hl)) (fun m hm => ?_)
    rw [kr_u_s]
    by_cases em : m = l
    · rw [em, kr_upd_s, kz_rub_s]; rfl
    · rw [kr_upd_n _ _ em, kz_rub_n (by omega), ← kz_gk3 g m]; exact (b m hm).2.2.2
  have hr2 := hr1.chalk (v := g (62 + e) - kr_gk g l 2) (kz_wf_rub hw hl (Nat.le_refl 9)) he
  rw [show kx_un (kz_rub g l 9) (62 + e) (g (62 + e) - kr_gk g l 2) = kz_draw g e l from ?_] at hr2
  · exact hr2
  · funext j
    by_cases e1 : j = 62 + e
    · rw [e1, kx_un_s]
      unfold kz_draw
      rw [kx_un_n _ _ (by omega), kx_un_s]
    · rw [kx_un_n _ _ e1]
      by_cases e2 : j = 4 + 5 * l
      · rw [e2, kz_rub_s]; exact (kx_un_s _ _ _).symm
      · rw [kz_rub_n e2, kz_draw_n e2 e1]
theorem c_C_rub (hw : kr_wf g P D K t) (hR : kr_Rg μ 1 g P D K t) (k : ∀ μ', kr_keep [5] [] μ μ' → kr_Rg μ' 1 (pz_rub g x y).2 P D K t → Q (some (.int (pz_rub g x y).1)) μ') : kr_c (d + 2) i_C_rub [.ref 0, .int x, .int y] μ Q := by
  have hN := hw.1.1
  have b := hR.2.1
  refine v_C_rub ?_
  rw [hR.1.2.2.1]
  unfold pz_rub at k
  refine ⟨fun c => by rw [if_neg (fun q => c q.1)] at k; exact k μ kr_keep.rf hR, fun c => ⟨fun c2 => ?_, fun c2 => ⟨fun c3 => ?_, fun c3 => ?_⟩⟩⟩
  · rw [if_neg (fun q => by have := q.2.1; rw [← kr_nlt] at this; exact this c2)] at k; exact k μ kr_keep.rf hR
  · rw [if_pos ⟨c, kr_nlt.mp c2, c3⟩] at k
    obtain ⟨l, hl, rfl⟩ := kr_ix (by omega) c
    obtain ⟨v, hv, rfl⟩ := kr_ixm (n := 9) (by decide) ⟨kr_nlt.mp c2, c3⟩
    rw [nI_clamp (by omega), nI_clamp (by omega)] at k
    have vl : vp_in (nI l) 12 := vp_in_nI (by omega) (by decide)
    rw [nI_clamp (by omega), (b l hl).2.2.2]
    refine ⟨vl, vl, k _ (kr_keep.rf.u _ _ (by decide)) ?_⟩
    show kr_Rg _ 1 (kz_rub g l v) P D K t
    refine hR.str hw (kr_keep.rf.u _ _ (by decide)) (fun j _ hj => kz_rub_n (hj l hl)) (fun m hm => ?_)
    rw [kr_u_s]
    by_cases em : m = l
    · rw [em, kr_upd_s, kz_rub_s]
    · rw [kr_upd_n _ _ em, kz_rub_n (by omega), ← kz_gk3 g m]; exact (b m hm).2.2.2
  · rw [if_neg (fun q => c3 q.2.2)] at k; exact k μ kr_keep.rf hR
theorem c_C_wet (hw : kr_wf g P D K t) (hR : kr_Rg μ 1 g P D K t) (k : ∀ μ', kr_keep [5] [] μ μ' → kr_Rg μ' 1 (kz_wet g) P D K t → Q (some (.int (nI (kz_wetA g)))) μ') : kr_c (d + 4) i_C_wet [.ref 0] μ Q := by
  have hN := hw.1.1
  refine v_C_wet (c_R_wholeLines hR.Wy hw.gb (v_C_wet_7 (c_R_rainRubs5 (s := fun l => kr_gk g l 3) hR.1.2.2.1 hN hR.h7 (fun l hl => (hw.2.1 l hl).2.2.2.2.2.2) (fun l hl => (hR.2.1 l hl).2.2.2) (fun l hl => by have := (hw.2.1 l hl).2.2.2.2.2.1; omega) (fun μ' hk h5 => v_C_wet_22 ?_))))
  have hw2 := kz_wf_wet hw
  have hR2 : kr_Rg μ' 1 (kz_wet g) P D K t := by
    refine hR.str hw hk (fun j _ hj => kz_wet_n (fun z => hj (j / 5) (by omega) (by omega))) (fun m hm => ?_)
    rw [← kz_gk3 (kz_wet g) m, kz_wet_3 hm]
    exact h5 m hm
  refine c_R_wholeLines hR2.Wy hw2.gb (v_C_wet_30 ?_)
  have hl1 : kx_wl g < 2 ^ 31 := Nat.lt_of_lt_of_le (kr_bm_lt _ _) (Nat.pow_le_pow_right (by decide) (by omega))
  rw [kr_andn _ _ hl1]
  have k1 := k μ' hk hR2
  rw [show kz_wetA g = kr_bm 31 (fun i => (kx_wl g).testBit i && !(kx_wl (kz_wet g)).testBit i) from ?_] at k1
  · exact k1
  · apply Nat.eq_of_testBit_eq
    intro i
    unfold kz_wetA kx_wl
    rw [kr_bm_bit, kr_bm_bit, kr_bm_bit, kr_bm_bit, show kz_wet g 0 = g 0 from kz_wet_n (by omega)]
    by_cases ci : i < g 0
    · have e3 := kz_wet_3 ci
      have := (hw.2.1 i ci).2.2.2.2.2.1
      rw [e3]
      by_cases c4 : kr_gk g i 4 = 0
      · rw [if_pos c4, c4, show decide (i < 31) = true by simp; omega]
        rcases (by omega : kr_gk g i 3 = 0 ∨ kr_gk g i 3 = 1 ∨ 2 ≤ kr_gk g i 3) with h | h | h
        · simp [h]
        · simp [h, ci]
        · have q1 : (kr_gk g i 3 == 1) = false := by simp; omega
          have q2 : decide (0 < kr_gk g i 3 - 1) = true := by simp; omega
          rw [q1, q2]
          simp [ci]
      · rw [if_neg c4, show (kr_gk g i 4 == 0) = false by simpa using c4]
        cases decide (0 < kr_gk g i 3) <;> simp [ci]
    · simp [ci]
end
