/-! what is told, asked and changed: the reference -/
theorem st_M_rule {d : Nat} {Q : kr_Q} {pc : Nat} {ls : kr_L} {st : List Value} {μ : kr_M} (h : C_M_rule pc (kr_Wp C_M_rule (kr_c d) Q) (kr_c d) Q ls st μ) : kr_Wp C_M_rule (kr_c d) Q pc ls st μ := kr_Wp.step (fun pc => (kr_ok_M_rule pc).2) (kr_c_om d) h
theorem v_M_rule {d : Nat} {Q : kr_Q} {μ : kr_M} {a1 : Int32} (h : ((a1 = 0 → Q (some (.int (μ.1 65 2))) μ) ∧ (¬ a1 = 0 → ((a1 = 1 → Q (some (.int (μ.1 66 0))) μ) ∧ (¬ a1 = 1 → ((a1 = 2 → Q (some (.int (μ.1 65 3))) μ) ∧ (¬ a1 = 2 → ((a1 = 3 → Q (some (.int (μ.1 65 4))) μ) ∧ (¬ a1 = 3 → ((a1 = 4 → Q (some (.int (μ.1 66 61))) μ) ∧ (¬ a1 = 4 → Q (some (.int (-1))) μ))))))))))) : kr_c (d + 1) i_M_rule [.ref 65, .int a1] μ Q := ⟨rfl, (st_M_rule (st_M_rule (kr_tsel [36, 41, 48, 53, 58] rfl (by decide) (And.intro (fun z0 => (st_M_rule (st_M_rule (And.intro rfl (st_M_rule (h.1 z0)))))) (fun z0 => (And.intro (fun z1 => (st_M_rule (st_M_rule (And.intro rfl (st_M_rule (st_M_rule (And.intro ⟨375, rfl, kr_vp rfl⟩ (st_M_rule ((h.2 z0).1 z1))))))))) (fun z1 => (And.intro (fun z2 => (st_M_rule (st_M_rule (And.intro rfl (st_M_rule (((h.2 z0).2 z1).1 z2)))))) (fun z2 => (And.intro (fun z3 => (st_M_rule (st_M_rule (And.intro rfl (st_M_rule ((((h.2 z0).2 z1).2 z2).1 z3)))))) (fun z3 => (And.intro (fun z4 => (st_M_rule (st_M_rule (And.intro rfl (st_M_rule (st_M_rule (And.intro ⟨375, rfl, kr_vp rfl⟩ (st_M_rule (((((h.2 z0).2 z1).2 z2).2 z3).1 z4))))))))) (fun z4 => (st_M_rule (st_M_rule (((((h.2 z0).2 z1).2 z2).2 z3).2 z4))))))))))))))))⟩
theorem st_M_line {d : Nat} {Q : kr_Q} {pc : Nat} {ls : kr_L} {st : List Value} {μ : kr_M} (h : C_M_line pc (kr_Wp C_M_line (kr_c d) Q) (kr_c d) Q ls st μ) : kr_Wp C_M_line (kr_c d) Q pc ls st μ := kr_Wp.step (fun pc => (kr_ok_M_line pc).2) (kr_c_om d) h
theorem v_M_line {d : Nat} {Q : kr_Q} {μ : kr_M} {a1 : Int32} {a2 : Int32} (h : ((¬ (0 ≤ a1 ∧ a1 ≤ (μ.1 66 0) - 1) → Q (some (.int (-1))) μ) ∧ (0 ≤ a1 ∧ a1 ≤ (μ.1 66 0) - 1 → ((¬ ((0 : Int64) ≤ a2.toInt64 ∧ a2.toInt64 ≤ (4 : Int64)) → Q (some (.int (-1))) μ) ∧ ((0 : Int64) ≤ a2.toInt64 ∧ a2.toInt64 ≤ (4 : Int64) → vp_in (((1 : Int32) + ((5 : Int32) * a1)) + a2) 375 ∧ Q (some (.int (μ.1 66 ((((1 : Int32) + ((5 : Int32) * a1)) + a2).toNatClampNeg)))) μ))))) : kr_c (d + 3) i_M_line [.ref 65, .int a1, .int a2] μ Q := ⟨rfl, (st_M_line (st_M_line (st_M_line (And.intro rfl (c_M_isLine (st_M_line (And.intro (fun z1x => (st_M_line (st_M_line (h.1 (kr_b0 z1x))))) (fun z1x => (st_M_line (st_M_line (st_M_line (st_M_line (st_M_line (c_M_in (st_M_line (And.intro (fun z2x => (st_M_line (st_M_line ((h.2 (kr_b1 z1x)).1 (kr_b0 z2x))))) (fun z2x => (st_M_line (st_M_line (st_M_line (st_M_line (And.intro rfl (c_M_of ((h.2 (kr_b1 z1x)).2 (kr_b1 z2x)).1 (st_M_line (st_M_line ((h.2 (kr_b1 z1x)).2 (kr_b1 z2x)).2)))))))))))))))))))))))))⟩
theorem st_M_chalk {d : Nat} {Q : kr_Q} {pc : Nat} {ls : kr_L} {st : List Value} {μ : kr_M} (h : C_M_chalk pc (kr_Wp C_M_chalk (kr_c d) Q) (kr_c d) Q ls st μ) : kr_Wp C_M_chalk (kr_c d) Q pc ls st μ := kr_Wp.step (fun pc => (kr_ok_M_chalk pc).2) (kr_c_om d) h
theorem v_M_chalk {d : Nat} {Q : kr_Q} {μ : kr_M} {a1 : Int32} (h : ((¬ (0 ≤ a1 ∧ a1 ≤ (μ.1 65 3) - 1) → Q (some (.int (-1))) μ) ∧ (0 ≤ a1 ∧ a1 ≤ (μ.1 65 3) - 1 → vp_in ((62 : Int32) + a1) 375 ∧ Q (some (.int (μ.1 66 (((62 : Int32) + a1).toNatClampNeg)))) μ))) : kr_c (d + 3) i_M_chalk [.ref 65, .int a1] μ Q := ⟨rfl, (st_M_chalk (st_M_chalk (st_M_chalk (And.intro rfl (c_M_isDrawer (st_M_chalk (And.intro (fun z1x => (st_M_chalk (st_M_chalk (h.1 (kr_b0 z1x))))) (fun z1x => (st_M_chalk (st_M_chalk (And.intro rfl (st_M_chalk (st_M_chalk (st_M_chalk (st_M_chalk (And.intro ⟨375, rfl, (h.2 (kr_b1 z1x)).1⟩ (st_M_chalk (st_M_chalk (h.2 (kr_b1 z1x)).2))))))))))))))))))⟩
theorem st_M_one {d : Nat} {Q : kr_Q} {pc : Nat} {ls : kr_L} {st : List Value} {μ : kr_M} (h : C_M_one pc (kr_Wp C_M_one (kr_c d) Q) (kr_c d) Q ls st μ) : kr_Wp C_M_one (kr_c d) Q pc ls st μ := kr_Wp.step (fun pc => (kr_ok_M_one pc).2) (kr_c_om d) h
theorem v_M_one {d : Nat} {Q : kr_Q} {μ : kr_M} {a1 : Int32} {a2 : Int32} (h : ((¬ (0 ≤ a1 ∧ a1 ≤ (μ.1 65 4) - 1) → Q (some (.int (-1))) μ) ∧ (0 ≤ a1 ∧ a1 ≤ (μ.1 65 4) - 1 → ((¬ ((0 : Int64) ≤ a2.toInt64 ∧ a2.toInt64 ≤ (2 : Int64)) → Q (some (.int (-1))) μ) ∧ ((0 : Int64) ≤ a2.toInt64 ∧ a2.toInt64 ≤ (2 : Int64) → vp_in (((3 : Int32) * a1) + a2) 15 ∧ Q (some (.int (μ.1 68 ((((3 : Int32) * a1) + a2).toNatClampNeg)))) μ))))) : kr_c (d + 3) i_M_one [.ref 65, .int a1, .int a2] μ Q := ⟨rfl, (st_M_one (st_M_one (st_M_one (And.intro rfl (c_M_isOne (st_M_one (And.intro (fun z1x => (st_M_one (st_M_one (h.1 (kr_b0 z1x))))) (fun z1x => (st_M_one (st_M_one (st_M_one (st_M_one (st_M_one (c_M_in (st_M_one (And.intro (fun z2x => (st_M_one (st_M_one ((h.2 (kr_b1 z1x)).1 (kr_b0 z2x))))) (fun z2x => (st_M_one (st_M_one (And.intro rfl (st_M_one (st_M_one (st_M_one (st_M_one (st_M_one (st_M_one (And.intro ⟨15, rfl, ((h.2 (kr_b1 z1x)).2 (kr_b1 z2x)).1⟩ (st_M_one (st_M_one ((h.2 (kr_b1 z1x)).2 (kr_b1 z2x)).2)))))))))))))))))))))))))))))⟩
theorem st_M_rain {d : Nat} {Q : kr_Q} {pc : Nat} {ls : kr_L} {st : List Value} {μ : kr_M} (h : C_M_rain pc (kr_Wp C_M_rain (kr_c d) Q) (kr_c d) Q ls st μ) : kr_Wp C_M_rain (kr_c d) Q pc ls st μ := kr_Wp.step (fun pc => (kr_ok_M_rain pc).2) (kr_c_om d) h
theorem v_M_rain {d : Nat} {Q : kr_Q} {μ : kr_M} {a1 : Int32} (h : ((¬ ((1 : Int32) ≤ a1 ∧ a1 ≤ 40) → Q (some (.int (-1))) μ) ∧ ((1 : Int32) ≤ a1 ∧ a1 ≤ 40 → vp_in ((67 : Int32) + a1) 375 ∧ Q (some (.int (μ.1 66 (((67 : Int32) + a1).toNatClampNeg)))) μ))) : kr_c (d + 3) i_M_rain [.ref 65, .int a1] μ Q := ⟨rfl, (st_M_rain (st_M_rain (c_M_isRainy (st_M_rain (And.intro (fun z1x => (st_M_rain (st_M_rain (h.1 (kr_b0 z1x))))) (fun z1x => (st_M_rain (st_M_rain (And.intro rfl (st_M_rain (st_M_rain (st_M_rain (st_M_rain (And.intro ⟨375, rfl, (h.2 (kr_b1 z1x)).1⟩ (st_M_rain (st_M_rain (h.2 (kr_b1 z1x)).2))))))))))))))))⟩
theorem st_M_draw {d : Nat} {Q : kr_Q} {pc : Nat} {ls : kr_L} {st : List Value} {μ : kr_M} (h : C_M_draw pc (kr_Wp C_M_draw (kr_c d) Q) (kr_c d) Q ls st μ) : kr_Wp C_M_draw (kr_c d) Q pc ls st μ := kr_Wp.step (fun pc => (kr_ok_M_draw pc).2) (kr_c_om d) h
theorem v_M_draw {d : Nat} {Q : kr_Q} {μ : kr_M} {a1 : Int32} {a2 : Int32} (h : ((¬ (0 ≤ a1 ∧ a1 ≤ (μ.1 65 3) - 1) → Q (some (.int (-1))) μ) ∧ (0 ≤ a1 ∧ a1 ≤ (μ.1 65 3) - 1 → ((0 ≤ a2 ∧ a2 ≤ (μ.1 66 0) - 1 → vp_in ((62 : Int32) + a1) 375 ∧ vp_in (((1 : Int32) + ((5 : Int32) * a2)) + (2 : Int32)) 375 ∧ (((μ.1 66 ((((1 : Int32) + ((5 : Int32) * a2)) + (2 : Int32)).toNatClampNeg)) ≤ (μ.1 66 (((62 : Int32) + a1).toNatClampNeg)) → vp_in ((62 : Int32) + a1) 375 ∧ vp_in (((1 : Int32) + ((5 : Int32) * a2)) + (2 : Int32)) 375 ∧ vp_in ((62 : Int32) + a1) 375 ∧ vp_in (((1 : Int32) + ((5 : Int32) * a2)) + (3 : Int32)) 375 ∧ vp_in ((62 : Int32) + a1) 375 ∧ Q (some (.int (upd (upd (μ.1 66) (((62 : Int32) + a1).toNatClampNeg) ((μ.1 66 (((62 : Int32) + a1).toNatClampNeg)) - (μ.1 66 ((((1 : Int32) + ((5 : Int32) * a2)) + (2 : Int32)).toNatClampNeg)))) ((((1 : Int32) + ((5 : Int32) * a2)) + (3 : Int32)).toNatClampNeg) 9 (((62 : Int32) + a1).toNatClampNeg)))) (kr_u (kr_u μ 66 (((62 : Int32) + a1).toNatClampNeg) ((μ.1 66 (((62 : Int32) + a1).toNatClampNeg)) - (μ.1 66 ((((1 : Int32) + ((5 : Int32) * a2)) + (2 : Int32)).toNatClampNeg)))) 66 ((((1 : Int32) + ((5 : Int32) * a2)) + (3 : Int32)).toNatClampNeg) 9)) ∧ (¬ ((μ.1 66 ((((1 : Int32) + ((5 : Int32) * a2)) + (2 : Int32)).toNatClampNeg)) ≤ (μ.1 66 (((62 : Int32) + a1).toNatClampNeg))) → Q (some (.int (-2))) μ))) ∧ (¬ (0 ≤ a2 ∧ a2 ≤ (μ.1 66 0) - 1) → Q (some (.int (-1))) μ))))) : kr_c (d + 3) i_M_draw [.ref 65, .int a1, .int a2] μ Q := ⟨rfl, (st_M_draw (st_M_draw (st_M_draw (And.intro rfl (c_M_isDrawer (st_M_draw (And.intro (fun z1x => (st_M_draw (st_M_draw (h.1 (kr_b0 z1x))))) (fun z1x => (st_M_draw (st_M_draw (st_M_draw (And.intro rfl (c_M_isLine (st_M_draw (And.intro (fun z2x => (st_M_draw (st_M_draw (And.intro rfl (st_M_draw (st_M_draw (st_M_draw (st_M_draw (And.intro ⟨375, rfl, ((h.2 (kr_b1 z1x)).1 (kr_b1 z2x)).1⟩ (st_M_draw (st_M_draw (st_M_draw (st_M_draw (And.intro rfl (c_M_of ((h.2 (kr_b1 z1x)).1 (kr_b1 z2x)).2.1 (st_M_draw (And.intro (fun z3x => (st_M_draw (st_M_draw (And.intro rfl (st_M_draw (st_M_draw (st_M_draw (st_M_draw (st_M_draw (And.intro ⟨375, rfl, (((h.2 (kr_b1 z1x)).1 (kr_b1 z2x)).2.2.1 z3x).1⟩ (st_M_draw (st_M_draw (st_M_draw (st_M_draw (And.intro rfl (c_M_of (((h.2 (kr_b1 z1x)).1 (kr_b1 z2x)).2.2.1 z3x).2.1 (st_M_draw (st_M_draw (And.intro ⟨375, rfl, (((h.2 (kr_b1 z1x)).1 (kr_b1 z2x)).2.2.1 z3x).2.2.1⟩ (st_M_draw (st_M_draw (And.intro rfl (st_M_draw (st_M_draw (st_M_draw (st_M_draw (st_M_draw (st_M_draw (st_M_draw (st_M_draw (st_M_draw (And.intro ⟨375, rfl, (((h.2 (kr_b1 z1x)).1 (kr_b1 z2x)).2.2.1 z3x).2.2.2.1⟩ (st_M_draw (st_M_draw (And.intro rfl (st_M_draw (st_M_draw (st_M_draw (st_M_draw (And.intro ⟨375, rfl, (((h.2 (kr_b1 z1x)).1 (kr_b1 z2x)).2.2.1 z3x).2.2.2.2.1⟩ (st_M_draw (((h.2 (kr_b1 z1x)).1 (kr_b1 z2x)).2.2.1 z3x).2.2.2.2.2))))))))))))))))))))))))))))))))))))))))) (fun z3x => (st_M_draw (st_M_draw (((h.2 (kr_b1 z1x)).1 (kr_b1 z2x)).2.2.2 z3x))))))))))))))))))))) (fun z2x => (st_M_draw (st_M_draw ((h.2 (kr_b1 z1x)).2 (kr_b2 z2x))))))))))))))))))))⟩
theorem st_M_rub {d : Nat} {Q : kr_Q} {pc : Nat} {ls : kr_L} {st : List Value} {μ : kr_M} (h : C_M_rub pc (kr_Wp C_M_rub (kr_c d) Q) (kr_c d) Q ls st μ) : kr_Wp C_M_rub (kr_c d) Q pc ls st μ := kr_Wp.step (fun pc => (kr_ok_M_rub pc).2) (kr_c_om d) h
theorem v_M_rub {d : Nat} {Q : kr_Q} {μ : kr_M} {a1 : Int32} {a2 : Int32} (h : ((¬ (0 ≤ a1 ∧ a1 ≤ (μ.1 66 0) - 1) → Q (some (.int (-1))) μ) ∧ (0 ≤ a1 ∧ a1 ≤ (μ.1 66 0) - 1 → (((0 : Int64) ≤ a2.toInt64 ∧ a2.toInt64 ≤ (9 : Int64) → vp_in (((1 : Int32) + ((5 : Int32) * a1)) + (3 : Int32)) 375 ∧ vp_in (((1 : Int32) + ((5 : Int32) * a1)) + (3 : Int32)) 375 ∧ Q (some (.int (μ.1 66 ((((1 : Int32) + ((5 : Int32) * a1)) + (3 : Int32)).toNatClampNeg)))) (kr_u μ 66 ((((1 : Int32) + ((5 : Int32) * a1)) + (3 : Int32)).toNatClampNeg) a2)) ∧ (¬ ((0 : Int64) ≤ a2.toInt64 ∧ a2.toInt64 ≤ (9 : Int64)) → Q (some (.int (-1))) μ))))) : kr_c (d + 3) i_M_rub [.ref 65, .int a1, .int a2] μ Q := ⟨rfl, (st_M_rub (st_M_rub (st_M_rub (And.intro rfl (c_M_isLine (st_M_rub (And.intro (fun z1x => (st_M_rub (st_M_rub (h.1 (kr_b0 z1x))))) (fun z1x => (st_M_rub (st_M_rub (st_M_rub (st_M_rub (st_M_rub (c_M_in (st_M_rub (And.intro (fun z2x => (st_M_rub (st_M_rub (st_M_rub (st_M_rub (And.intro rfl (c_M_of ((h.2 (kr_b1 z1x)).1 (kr_b1 z2x)).1 (st_M_rub (st_M_rub (st_M_rub (And.intro rfl (st_M_rub (st_M_rub (st_M_rub (st_M_rub (st_M_rub (st_M_rub (st_M_rub (st_M_rub (st_M_rub (And.intro ⟨375, rfl, ((h.2 (kr_b1 z1x)).1 (kr_b1 z2x)).2.1⟩ (st_M_rub (st_M_rub ((h.2 (kr_b1 z1x)).1 (kr_b1 z2x)).2.2))))))))))))))))))))))) (fun z2x => (st_M_rub (st_M_rub ((h.2 (kr_b1 z1x)).2 (kr_b2 z2x)))))))))))))))))))))⟩
theorem st_M_cloud {d : Nat} {Q : kr_Q} {pc : Nat} {ls : kr_L} {st : List Value} {μ : kr_M} (h : C_M_cloud pc (kr_Wp C_M_cloud (kr_c d) Q) (kr_c d) Q ls st μ) : kr_Wp C_M_cloud (kr_c d) Q pc ls st μ := kr_Wp.step (fun pc => (kr_ok_M_cloud pc).2) (kr_c_om d) h
theorem v_M_cloud {d : Nat} {Q : kr_Q} {μ : kr_M} {a1 : Int32} {a2 : Int32} (h : (((1 : Int32) ≤ a1 ∧ a1 ≤ 40 → vp_in ((67 : Int32) + a1) 375 ∧ vp_in ((67 : Int32) + a1) 375 ∧ Q (some (.int (μ.1 66 (((67 : Int32) + a1).toNatClampNeg)))) (kr_u μ 66 (((67 : Int32) + a1).toNatClampNeg) (if ¬ a2 = 0 then 1 else 0))) ∧ (¬ ((1 : Int32) ≤ a1 ∧ a1 ≤ 40) → Q (some (.int (-1))) μ))) : kr_c (d + 3) i_M_cloud [.ref 65, .int a1, .int a2] μ Q := ⟨rfl, (st_M_cloud (st_M_cloud (c_M_isRainy (st_M_cloud (And.intro (fun z1x => (st_M_cloud (st_M_cloud (And.intro rfl (st_M_cloud (st_M_cloud (st_M_cloud (st_M_cloud (And.intro ⟨375, rfl, (h.1 (kr_b1 z1x)).1⟩ (st_M_cloud (st_M_cloud (st_M_cloud (And.intro rfl (st_M_cloud (st_M_cloud (st_M_cloud (st_M_cloud (st_M_cloud (c_M_flag (st_M_cloud (And.intro ⟨375, rfl, (h.1 (kr_b1 z1x)).2.1⟩ (st_M_cloud (st_M_cloud (h.1 (kr_b1 z1x)).2.2))))))))))))))))))))))) (fun z1x => (st_M_cloud (st_M_cloud (h.2 (kr_b2 z1x))))))))))⟩
theorem st_M_build {d : Nat} {Q : kr_Q} {pc : Nat} {ls : kr_L} {st : List Value} {μ : kr_M} (h : C_M_build pc (kr_Wp C_M_build (kr_c d) Q) (kr_c d) Q ls st μ) : kr_Wp C_M_build (kr_c d) Q pc ls st μ := kr_Wp.step (fun pc => (kr_ok_M_build pc).2) (kr_c_om d) h
theorem v_M_build {d : Nat} {Q : kr_Q} {μ : kr_M} {a1 : Int32} {a2 : Int32} (h : ((0 ≤ a1 ∧ a1 ≤ (μ.1 65 2) - 1 → ((a2 = 0 → Q (some (.int (((μ.1 66 61) >>> (a1 &&& 31)) &&& (1 : Int32)))) (kr_u μ 66 61 ((μ.1 66 61) &&& (((1 : Int32) <<< (a1 &&& 31)) ^^^ (-1 : Int32))))) ∧ (¬ (a2 = 0) → Q (some (.int (((μ.1 66 61) >>> (a1 &&& 31)) &&& (1 : Int32)))) (kr_u μ 66 61 ((μ.1 66 61) ||| ((1 : Int32) <<< (a1 &&& 31))))))) ∧ (¬ (0 ≤ a1 ∧ a1 ≤ (μ.1 65 2) - 1) → Q (some (.int (-1))) μ))) : kr_c (d + 3) i_M_build [.ref 65, .int a1, .int a2] μ Q := ⟨rfl, (st_M_build (st_M_build (st_M_build (And.intro rfl (c_M_isPoint (st_M_build (And.intro (fun z1x => (st_M_build (st_M_build (And.intro rfl (st_M_build (st_M_build (And.intro ⟨375, rfl, kr_vp rfl⟩ (st_M_build (st_M_build (st_M_build (st_M_build (st_M_build (st_M_build (st_M_build (And.intro rfl (st_M_build (st_M_build (st_M_build (And.intro (fun z2x => (st_M_build (st_M_build (And.intro rfl (st_M_build (st_M_build (And.intro ⟨375, rfl, kr_vp rfl⟩ (st_M_build (st_M_build (st_M_build (st_M_build (st_M_build (st_M_build (st_M_build (And.intro ⟨375, rfl, kr_vp rfl⟩ (st_M_build (st_M_build ((h.1 (kr_b1 z1x)).1 z2x)))))))))))))))))) (fun z2x => (st_M_build (st_M_build (And.intro rfl (st_M_build (st_M_build (And.intro ⟨375, rfl, kr_vp rfl⟩ (st_M_build (st_M_build (st_M_build (st_M_build (st_M_build (st_M_build (And.intro ⟨375, rfl, kr_vp rfl⟩ (st_M_build (st_M_build ((h.1 (kr_b1 z1x)).2 z2x)))))))))))))))))))))))))))))))))))) (fun z1x => (st_M_build (st_M_build (h.2 (kr_b2 z1x))))))))))))⟩
theorem st_M_plan {d : Nat} {Q : kr_Q} {pc : Nat} {ls : kr_L} {st : List Value} {μ : kr_M} (h : C_M_plan pc (kr_Wp C_M_plan (kr_c d) Q) (kr_c d) Q ls st μ) : kr_Wp C_M_plan (kr_c d) Q pc ls st μ := kr_Wp.step (fun pc => (kr_ok_M_plan pc).2) (kr_c_om d) h
theorem v_M_plan {d : Nat} {Q : kr_Q} {μ : kr_M} {a1 : Int32} {a2 : Int32} {a3 : Int32} (h : ((¬ (0 ≤ a1 ∧ a1 ≤ (μ.1 65 2) - 1) → Q (some (.int (-1))) μ) ∧ (0 ≤ a1 ∧ a1 ≤ (μ.1 65 2) - 1 → ((¬ (0 ≤ a2 ∧ a2 ≤ (μ.1 65 2) - 1) → Q (some (.int (-1))) μ) ∧ (0 ≤ a2 ∧ a2 ≤ (μ.1 65 2) - 1 → ((a1 = a2 → Q (some (.int (-1))) μ) ∧ (¬ (a1 = a2) → (((1 : Int64) ≤ a3.toInt64 ∧ a3.toInt64 ≤ (9 : Int64) → ((¬ (μ.1 66 0) = 12 → vp_in (((1 : Int32) + ((5 : Int32) * (μ.1 66 0))) + (0 : Int32)) 375 ∧ vp_in (((1 : Int32) + ((5 : Int32) * (μ.1 66 0))) + (1 : Int32)) 375 ∧ vp_in (((1 : Int32) + ((5 : Int32) * (μ.1 66 0))) + (2 : Int32)) 375 ∧ vp_in (((1 : Int32) + ((5 : Int32) * (μ.1 66 0))) + (3 : Int32)) 375 ∧ vp_in (((1 : Int32) + ((5 : Int32) * (μ.1 66 0))) + (4 : Int32)) 375 ∧ Q (some (.int (((upd (upd (upd (upd (upd (μ.1 66) ((((1 : Int32) + ((5 : Int32) * (μ.1 66 0))) + (0 : Int32)).toNatClampNeg) a1) ((((1 : Int32) + ((5 : Int32) * (μ.1 66 0))) + (1 : Int32)).toNatClampNeg) a2) ((((1 : Int32) + ((5 : Int32) * (μ.1 66 0))) + (2 : Int32)).toNatClampNeg) a3) ((((1 : Int32) + ((5 : Int32) * (μ.1 66 0))) + (3 : Int32)).toNatClampNeg) 0) ((((1 : Int32) + ((5 : Int32) * (μ.1 66 0))) + (4 : Int32)).toNatClampNeg) 0 0) + (1 : Int32)) - (1 : Int32)))) (kr_u (kr_u (kr_u (kr_u (kr_u (kr_u μ 66 ((((1 : Int32) + ((5 : Int32) * (μ.1 66 0))) + (0 : Int32)).toNatClampNeg) a1) 66 ((((1 : Int32) + ((5 : Int32) * (μ.1 66 0))) + (1 : Int32)).toNatClampNeg) a2) 66 ((((1 : Int32) + ((5 : Int32) * (μ.1 66 0))) + (2 : Int32)).toNatClampNeg) a3) 66 ((((1 : Int32) + ((5 : Int32) * (μ.1 66 0))) + (3 : Int32)).toNatClampNeg) 0) 66 ((((1 : Int32) + ((5 : Int32) * (μ.1 66 0))) + (4 : Int32)).toNatClampNeg) 0) 66 0 ((upd (upd (upd (upd (upd (μ.1 66) ((((1 : Int32) + ((5 : Int32) * (μ.1 66 0))) + (0 : Int32)).toNatClampNeg) a1) ((((1 : Int32) + ((5 : Int32) * (μ.1 66 0))) + (1 : Int32)).toNatClampNeg) a2) ((((1 : Int32) + ((5 : Int32) * (μ.1 66 0))) + (2 : Int32)).toNatClampNeg) a3) ((((1 : Int32) + ((5 : Int32) * (μ.1 66 0))) + (3 : Int32)).toNatClampNeg) 0) ((((1 : Int32) + ((5 : Int32) * (μ.1 66 0))) + (4 : Int32)).toNatClampNeg) 0 0) + (1 : Int32)))) ∧ ((μ.1 66 0) = 12 → Q (some (.int (-3))) μ))) ∧ (¬ ((1 : Int64) ≤ a3.toInt64 ∧ a3.toInt64 ≤ (9 : Int64)) → Q (some (.int (-1))) μ))))))))) : kr_c (d + 3) i_M_plan [.ref 65, .int a1, .int a2, .int a3] μ Q := ⟨rfl, (st_M_plan (st_M_plan (st_M_plan (And.intro rfl (c_M_isPoint (st_M_plan (And.intro (fun z1x => (st_M_plan (st_M_plan (h.1 (kr_b0 z1x))))) (fun z1x => (st_M_plan (st_M_plan (st_M_plan (And.intro rfl (c_M_isPoint (st_M_plan (And.intro (fun z2x => (st_M_plan (st_M_plan ((h.2 (kr_b1 z1x)).1 (kr_b0 z2x))))) (fun z2x => (st_M_plan (st_M_plan (st_M_plan (And.intro (fun z3x => (st_M_plan (st_M_plan (((h.2 (kr_b1 z1x)).2 (kr_b1 z2x)).1 z3x)))) (fun z3x => (st_M_plan (st_M_plan (st_M_plan (st_M_plan (st_M_plan (c_M_in (st_M_plan (And.intro (fun z4x => (st_M_plan (st_M_plan (And.intro rfl (st_M_plan (st_M_plan (And.intro ⟨375, rfl, kr_vp rfl⟩ (st_M_plan (st_M_plan (And.intro (fun z5x => (st_M_plan (st_M_plan (st_M_plan (st_M_plan (And.intro rfl (st_M_plan (st_M_plan (And.intro ⟨375, rfl, kr_vp rfl⟩ (st_M_plan (st_M_plan (st_M_plan (st_M_plan (st_M_plan (And.intro rfl (st_M_plan (st_M_plan (st_M_plan (st_M_plan (st_M_plan (And.intro ⟨375, rfl, (((((h.2 (kr_b1 z1x)).2 (kr_b1 z2x)).2 z3x).1 (kr_b1 z4x)).1 z5x).1⟩ (st_M_plan (st_M_plan (And.intro rfl (st_M_plan (st_M_plan (st_M_plan (st_M_plan (st_M_plan (And.intro ⟨375, rfl, (((((h.2 (kr_b1 z1x)).2 (kr_b1 z2x)).2 z3x).1 (kr_b1 z4x)).1 z5x).2.1⟩ (st_M_plan (st_M_plan (And.intro rfl (st_M_plan (st_M_plan (st_M_plan (st_M_plan (st_M_plan (And.intro ⟨375, rfl, (((((h.2 (kr_b1 z1x)).2 (kr_b1 z2x)).2 z3x).1 (kr_b1 z4x)).1 z5x).2.2.1⟩ (st_M_plan (st_M_plan (And.intro rfl (st_M_plan (st_M_plan (st_M_plan (st_M_plan (st_M_plan (And.intro ⟨375, rfl, (((((h.2 (kr_b1 z1x)).2 (kr_b1 z2x)).2 z3x).1 (kr_b1 z4x)).1 z5x).2.2.2.1⟩ (st_M_plan (st_M_plan (And.intro rfl (st_M_plan (st_M_plan (st_M_plan (st_M_plan (st_M_plan (And.intro ⟨375, rfl, (((((h.2 (kr_b1 z1x)).2 (kr_b1 z2x)).2 z3x).1 (kr_b1 z4x)).1 z5x).2.2.2.2.1⟩ (st_M_plan (st_M_plan (And.intro rfl (st_M_plan (st_M_plan (st_M_plan (And.intro ⟨375, rfl, kr_vp rfl⟩ (st_M_plan (st_M_plan (st_M_plan (And.intro ⟨375, rfl, kr_vp rfl⟩ (st_M_plan (st_M_plan (And.intro rfl (st_M_plan (st_M_plan (And.intro ⟨375, rfl, kr_vp rfl⟩ (st_M_plan (st_M_plan (st_M_plan (((((h.2 (kr_b1 z1x)).2 (kr_b1 z2x)).2 z3x).1 (kr_b1 z4x)).1 z5x).2.2.2.2.2))))))))))))))))))))))))))))))))))))))))))))))))))))))))))))))))))))))))))))) (fun z5x => (st_M_plan (st_M_plan (((((h.2 (kr_b1 z1x)).2 (kr_b1 z2x)).2 z3x).1 (kr_b1 z4x)).2 (Decidable.not_not.mp z5x))))))))))))))) (fun z4x => (st_M_plan (st_M_plan ((((h.2 (kr_b1 z1x)).2 (kr_b1 z2x)).2 z3x).2 (kr_b2 z4x))))))))))))))))))))))))))))))))))⟩
theorem st_M_hear {d : Nat} {Q : kr_Q} {pc : Nat} {ls : kr_L} {st : List Value} {μ : kr_M} (h : C_M_hear pc (kr_Wp C_M_hear (kr_c d) Q) (kr_c d) Q ls st μ) : kr_Wp C_M_hear (kr_c d) Q pc ls st μ := kr_Wp.step (fun pc => (kr_ok_M_hear pc).2) (kr_c_om d) h
theorem v_M_hear {d : Nat} {Q : kr_Q} {μ : kr_M} {a1 : Int32} {a2 : Int32} (h : ((¬ (0 ≤ a1 ∧ a1 ≤ ((1 : Int32) <<< ((μ.1 66 0) &&& 31)) - 1) → Q (some (.int (-1))) μ) ∧ (0 ≤ a1 ∧ a1 ≤ ((1 : Int32) <<< ((μ.1 66 0) &&& 31)) - 1 → ((¬ a1 = 0 → ((¬ (μ.1 66 108) = 8 → vp_in ((109 : Int32) + ((2 : Int32) * (μ.1 66 108))) 375 ∧ vp_in (((109 : Int32) + ((2 : Int32) * (μ.1 66 108))) + (1 : Int32)) 375 ∧ Q (some (.int ((upd (upd (μ.1 66) (((109 : Int32) + ((2 : Int32) * (μ.1 66 108))).toNatClampNeg) a1) ((((109 : Int32) + ((2 : Int32) * (μ.1 66 108))) + (1 : Int32)).toNatClampNeg) (if ¬ a2 = 0 then 1 else 0) 108) + (1 : Int32)))) (kr_u (kr_u (kr_u μ 66 (((109 : Int32) + ((2 : Int32) * (μ.1 66 108))).toNatClampNeg) a1) 66 ((((109 : Int32) + ((2 : Int32) * (μ.1 66 108))) + (1 : Int32)).toNatClampNeg) (if ¬ a2 = 0 then 1 else 0)) 66 108 ((upd (upd (μ.1 66) (((109 : Int32) + ((2 : Int32) * (μ.1 66 108))).toNatClampNeg) a1) ((((109 : Int32) + ((2 : Int32) * (μ.1 66 108))) + (1 : Int32)).toNatClampNeg) (if ¬ a2 = 0 then 1 else 0) 108) + (1 : Int32)))) ∧ ((μ.1 66 108) = 8 → Q (some (.int (-3))) μ))) ∧ (a1 = 0 → Q (some (.int (-1))) μ))))) : kr_c (d + 3) i_M_hear [.ref 65, .int a1, .int a2] μ Q := ⟨rfl, (st_M_hear (st_M_hear (st_M_hear (And.intro rfl (c_M_areLines (st_M_hear (And.intro (fun z1x => (st_M_hear (st_M_hear (h.1 (kr_b0 z1x))))) (fun z1x => (st_M_hear (st_M_hear (And.intro (fun z2x => (st_M_hear (st_M_hear (And.intro rfl (st_M_hear (st_M_hear (And.intro ⟨375, rfl, kr_vp rfl⟩ (st_M_hear (st_M_hear (And.intro (fun z3x => (st_M_hear (st_M_hear (st_M_hear (st_M_hear (And.intro rfl (st_M_hear (st_M_hear (And.intro ⟨375, rfl, kr_vp rfl⟩ (st_M_hear (st_M_hear (st_M_hear (st_M_hear (st_M_hear (And.intro rfl (st_M_hear (st_M_hear (st_M_hear (And.intro ⟨375, rfl, (((h.2 (kr_b1 z1x)).1 z2x).1 z3x).1⟩ (st_M_hear (st_M_hear (And.intro rfl (st_M_hear (st_M_hear (st_M_hear (st_M_hear (st_M_hear (c_M_flag (st_M_hear (And.intro ⟨375, rfl, (((h.2 (kr_b1 z1x)).1 z2x).1 z3x).2.1⟩ (st_M_hear (st_M_hear (And.intro rfl (st_M_hear (st_M_hear (st_M_hear (And.intro ⟨375, rfl, kr_vp rfl⟩ (st_M_hear (st_M_hear (st_M_hear (And.intro ⟨375, rfl, kr_vp rfl⟩ (st_M_hear (st_M_hear (And.intro rfl (st_M_hear (st_M_hear (And.intro ⟨375, rfl, kr_vp rfl⟩ (st_M_hear (((h.2 (kr_b1 z1x)).1 z2x).1 z3x).2.2)))))))))))))))))))))))))))))))))))))))))))))))) (fun z3x => (st_M_hear (st_M_hear (((h.2 (kr_b1 z1x)).1 z2x).2 (Decidable.not_not.mp z3x))))))))))))))) (fun z2x => (st_M_hear (st_M_hear ((h.2 (kr_b1 z1x)).2 (Decidable.not_not.mp z2x))))))))))))))))⟩
theorem st_M_forget {d : Nat} {Q : kr_Q} {pc : Nat} {ls : kr_L} {st : List Value} {μ : kr_M} (h : C_M_forget pc (kr_Wp C_M_forget (kr_c d) Q) (kr_c d) Q ls st μ) : kr_Wp C_M_forget (kr_c d) Q pc ls st μ := kr_Wp.step (fun pc => (kr_ok_M_forget pc).2) (kr_c_om d) h
theorem v_M_forget {d : Nat} {Q : kr_Q} {μ : kr_M} {a1 : Int32} (h : (((0 : Int64) ≤ a1.toInt64 ∧ a1.toInt64 ≤ (μ.1 66 108).toInt64 → Q (some (.int (μ.1 66 108))) (kr_u μ 66 108 a1)) ∧ (¬ ((0 : Int64) ≤ a1.toInt64 ∧ a1.toInt64 ≤ (μ.1 66 108).toInt64) → Q (some (.int (-1))) μ))) : kr_c (d + 2) i_M_forget [.ref 65, .int a1] μ Q := ⟨rfl, (st_M_forget (st_M_forget (st_M_forget (st_M_forget (st_M_forget (And.intro rfl (st_M_forget (st_M_forget (And.intro ⟨375, rfl, kr_vp rfl⟩ (st_M_forget (st_M_forget (c_M_in (st_M_forget (And.intro (fun z1x => (st_M_forget (st_M_forget (And.intro rfl (st_M_forget (st_M_forget (And.intro ⟨375, rfl, kr_vp rfl⟩ (st_M_forget (st_M_forget (st_M_forget (And.intro rfl (st_M_forget (st_M_forget (st_M_forget (And.intro ⟨375, rfl, kr_vp rfl⟩ (st_M_forget (st_M_forget (h.1 (kr_b1 z1x))))))))))))))))))) (fun z1x => (st_M_forget (st_M_forget (h.2 (kr_b2 z1x)))))))))))))))))))⟩
theorem st_M_wet {d : Nat} {Q : kr_Q} {pc : Nat} {ls : kr_L} {st : List Value} {μ : kr_M} (h : C_M_wet pc (kr_Wp C_M_wet (kr_c d) Q) (kr_c d) Q ls st μ) : kr_Wp C_M_wet (kr_c d) Q pc ls st μ := kr_Wp.step (fun pc => (kr_ok_M_wet pc).2) (kr_c_om d) h
theorem v_M_wet {d : Nat} {Q : kr_Q} {μ : kr_M}  (h : kr_Wp C_M_wet (kr_c (d + 1)) Q 4 [some (.ref 65), some (.int 0), some (.int 0)] [] μ) : kr_c (d + 2) i_M_wet [.ref 65] μ Q := ⟨rfl, (st_M_wet (st_M_wet (st_M_wet (st_M_wet h))))⟩
theorem v_M_wet_4 {d : Nat} {Q : kr_Q} {μ : kr_M} {a1 : Int32} {a2 : Int32} (h : (((μ.1 66 0) ≤ a2 → Q (some (.int a1)) μ) ∧ (¬ ((μ.1 66 0) ≤ a2) → vp_in (((1 : Int32) + ((5 : Int32) * a2)) + (4 : Int32)) 375 ∧ ((¬ (μ.1 66 ((((1 : Int32) + ((5 : Int32) * a2)) + (4 : Int32)).toNatClampNeg)) = 0 → kr_Wp C_M_wet (kr_c (d + 1)) Q 4 [some (.ref 65), some (.int a1), some (.int (a2 + 1))] [] μ) ∧ ((μ.1 66 ((((1 : Int32) + ((5 : Int32) * a2)) + (4 : Int32)).toNatClampNeg)) = 0 → vp_in (((1 : Int32) + ((5 : Int32) * a2)) + (3 : Int32)) 375 ∧ (((μ.1 66 ((((1 : Int32) + ((5 : Int32) * a2)) + (3 : Int32)).toNatClampNeg)) ≤ 0 → kr_Wp C_M_wet (kr_c (d + 1)) Q 4 [some (.ref 65), some (.int a1), some (.int (a2 + 1))] [] μ) ∧ (¬ ((μ.1 66 ((((1 : Int32) + ((5 : Int32) * a2)) + (3 : Int32)).toNatClampNeg)) ≤ 0) → vp_in (((1 : Int32) + ((5 : Int32) * a2)) + (3 : Int32)) 375 ∧ vp_in (((1 : Int32) + ((5 : Int32) * a2)) + (3 : Int32)) 375 ∧ vp_in (((1 : Int32) + ((5 : Int32) * a2)) + (3 : Int32)) 375 ∧ ((¬ (upd (μ.1 66) ((((1 : Int32) + ((5 : Int32) * a2)) + (3 : Int32)).toNatClampNeg) ((μ.1 66 ((((1 : Int32) + ((5 : Int32) * a2)) + (3 : Int32)).toNatClampNeg)) - (1 : Int32)) ((((1 : Int32) + ((5 : Int32) * a2)) + (3 : Int32)).toNatClampNeg)) = 0 → kr_Wp C_M_wet (kr_c (d + 1)) Q 4 [some (.ref 65), some (.int (a1 ||| (0 : Int32))), some (.int (a2 + 1))] [] (kr_u μ 66 ((((1 : Int32) + ((5 : Int32) * a2)) + (3 : Int32)).toNatClampNeg) ((μ.1 66 ((((1 : Int32) + ((5 : Int32) * a2)) + (3 : Int32)).toNatClampNeg)) - (1 : Int32)))) ∧ ((upd (μ.1 66) ((((1 : Int32) + ((5 : Int32) * a2)) + (3 : Int32)).toNatClampNeg) ((μ.1 66 ((((1 : Int32) + ((5 : Int32) * a2)) + (3 : Int32)).toNatClampNeg)) - (1 : Int32)) ((((1 : Int32) + ((5 : Int32) * a2)) + (3 : Int32)).toNatClampNeg)) = 0 → kr_Wp C_M_wet (kr_c (d + 1)) Q 4 [some (.ref 65), some (.int (a1 ||| ((1 : Int32) <<< (a2 &&& 31)))), some (.int (a2 + 1))] [] (kr_u μ 66 ((((1 : Int32) + ((5 : Int32) * a2)) + (3 : Int32)).toNatClampNeg) ((μ.1 66 ((((1 : Int32) + ((5 : Int32) * a2)) + (3 : Int32)).toNatClampNeg)) - (1 : Int32)))))))))))) : kr_Wp C_M_wet (kr_c (d + 1)) Q 4 [some (.ref 65), some (.int a1), some (.int a2)] [] μ := (st_M_wet (st_M_wet (st_M_wet (And.intro rfl (st_M_wet (st_M_wet (And.intro ⟨375, rfl, kr_vp rfl⟩ (st_M_wet (And.intro (fun z1x => (st_M_wet (st_M_wet (h.1 z1x)))) (fun z1x => (st_M_wet (st_M_wet (st_M_wet (st_M_wet (And.intro rfl (c_M_of (h.2 z1x).1 (st_M_wet (And.intro (fun z2x => (st_M_wet (st_M_wet ((h.2 z1x).2.1 z2x)))) (fun z2x => (st_M_wet (st_M_wet (st_M_wet (st_M_wet (And.intro rfl (c_M_of ((h.2 z1x).2.2 (Decidable.not_not.mp z2x)).1 (st_M_wet (And.intro (fun z3x => (st_M_wet (st_M_wet (((h.2 z1x).2.2 (Decidable.not_not.mp z2x)).2.1 z3x)))) (fun z3x => (st_M_wet (st_M_wet (And.intro rfl (st_M_wet (st_M_wet (st_M_wet (st_M_wet (st_M_wet (st_M_wet (st_M_wet (st_M_wet (st_M_wet (And.intro ⟨375, rfl, (((h.2 z1x).2.2 (Decidable.not_not.mp z2x)).2.2 z3x).1⟩ (st_M_wet (st_M_wet (st_M_wet (And.intro ⟨375, rfl, (((h.2 z1x).2.2 (Decidable.not_not.mp z2x)).2.2 z3x).2.1⟩ (st_M_wet (st_M_wet (st_M_wet (st_M_wet (st_M_wet (And.intro rfl (c_M_of (((h.2 z1x).2.2 (Decidable.not_not.mp z2x)).2.2 z3x).2.2.1 (st_M_wet (And.intro (fun z4x => (st_M_wet (st_M_wet (st_M_wet (st_M_wet (st_M_wet ((((h.2 z1x).2.2 (Decidable.not_not.mp z2x)).2.2 z3x).2.2.2.1 z4x))))))) (fun z4x => (st_M_wet (st_M_wet (st_M_wet (st_M_wet (st_M_wet (st_M_wet (st_M_wet (st_M_wet ((((h.2 z1x).2.2 (Decidable.not_not.mp z2x)).2.2 z3x).2.2.2.2 (Decidable.not_not.mp z4x)))))))))))))))))))))))))))))))))))))))))))))))))))))))))))))))))
theorem kx_lb (x : Int32) (n : Int64) (m : Int32) (h : n = m.toInt64) : ((0 : Int64) ≤ x.toInt64 ∧ x.toInt64 ≤ n) ↔ (0 ≤ x ∧ x ≤ m) := by
  rw [h, show (0 : Int64) = ((0 : Int32)).toInt64 from by decide, kr_wle, kr_wle]
theorem kx_lb1 (x : Int32) (n : Int64) (m : Int32) (h : n = m.toInt64) : ((1 : Int64) ≤ x.toInt64 ∧ x.toInt64 ≤ n) ↔ ((1 : Int32) ≤ x ∧ x ≤ m) := by
  rw [h, show (1 : Int64) = ((1 : Int32)).toInt64 from by decide, kr_wle, kr_wle]
section
variable {d : Nat} {Q : kr_Q} {μ : kr_M} {g t : Nat → Nat} {P D K : Nat} {x y z w : Int32}
theorem c_M_rule (hI : kr_MI μ g P D K t) (k : Q (some (.int (ax_rule g P D K x))) μ) : kr_c (d + 1) i_M_rule [.ref 65, .int x] μ Q := by
  obtain ⟨hM, hP, h2, h3, h29⟩ := hI
  refine v_M_rule ?_
  rw [h2, h3, hM 0 (by decide), hM 61 (by decide), hP.1]
  unfold ax_rule at k
  refine ⟨fun c => by rw [if_pos c] at k; exact k, fun c => ?_⟩
  rw [if_neg c] at k
  refine ⟨fun c => by rw [if_pos c] at k; exact k, fun c => ?_⟩
  rw [if_neg c] at k
  refine ⟨fun c => by rw [if_pos c] at k; exact k, fun c => ?_⟩
  rw [if_neg c] at k
  refine ⟨fun c => by rw [if_pos c] at k; exact k, fun c => ?_⟩
  rw [if_neg c] at k
  exact ⟨fun c => by rw [if_pos c] at k; exact k, fun c => by rw [if_neg c] at k; exact k⟩
theorem c_M_line (hw : kr_wf g P D K t) (hM : kr_Mg μ g) (k : Q (some (.int (ax_line g x y))) μ) : kr_c (d + 3) i_M_line [.ref 65, .int x, .int y] μ Q := by
  have hN := hw.1.1
  refine v_M_line ?_
  rw [hM 0 (by decide), kr_le1 (by omega), kx_lb y 4 4 (by decide)]
  unfold ax_line at k
  refine ⟨fun c => by rw [if_neg (fun q => c q.1)] at k; exact k, fun c => ⟨fun c2 => by rw [if_neg (fun q => c2 q.2)] at k; exact k, fun c2 => ?_⟩⟩
  rw [if_pos ⟨c, c2⟩] at k
  obtain ⟨l, hl, rfl⟩ := kr_ix (by omega) c
  obtain ⟨v, hv, rfl⟩ := kr_ixm (n := 4) (by decide) c2
  rw [nI_clamp (by omega), nI_clamp (by omega)] at k
  exact ⟨kr_ofv (by omega) (by omega), by rw [kr_ofg hM (by omega) (by omega)]; exact k⟩
theorem c_M_chalk (hw : kr_wf g P D K t) (hM : kr_Mg μ g) (hD : μ.1 65 3 = nI D) (k : Q (some (.int (ax_chalk g D x))) μ) : kr_c (d + 3) i_M_chalk [.ref 65, .int x] μ Q := by
  have hD5 := hw.1.2.2.2.1
  refine v_M_chalk ?_
  rw [hD, kr_le1 (by omega)]
  unfold ax_chalk at k
  refine ⟨fun c => by rw [if_neg c] at k; exact k, fun c => ?_⟩
  rw [if_pos c] at k
  obtain ⟨l, hl, rfl⟩ := kr_ix (by omega) c
  rw [nI_clamp (by omega)] at k
  rw [show (62 : Int32) = nI 62 from rfl, nI_add, nI_clamp (by omega), hM _ (by omega)]
  exact ⟨vp_in_nI (by omega) (by decide), k⟩
theorem c_M_one (hw : kr_wf g P D K t) (hP : kr_PM μ K t) (k : Q (some (.int (ax_one t K x y))) μ) : kr_c (d + 3) i_M_one [.ref 65, .int x, .int y] μ Q := by
  have hK5 := hw.1.2.2.2.2
  refine v_M_one ?_
  rw [hP.1, kr_le1 (by omega), kx_lb y 2 2 (by decide)]
  unfold ax_one at k
  refine ⟨fun c => by rw [if_neg (fun q => c q.1)] at k; exact k, fun c => ⟨fun c2 => by rw [if_neg (fun q => c2 q.2)] at k; exact k, fun c2 => ?_⟩⟩
  rw [if_pos ⟨c, c2⟩] at k
  obtain ⟨l, hl, rfl⟩ := kr_ix (by omega) c
  obtain ⟨v, hv, rfl⟩ := kr_ixm (n := 2) (by decide) c2
  rw [nI_clamp (by omega), nI_clamp (by omega)] at k
  rw [show (3 : Int32) = nI 3 from rfl, pk_mul, nI_add, nI_clamp (by omega), hP.2 _ (by omega)]
  exact ⟨vp_in_nI (by omega) (by decide), k⟩
theorem c_M_rain (hM : kr_Mg μ g) (k : Q (some (.int (ax_rain g x))) μ) : kr_c (d + 3) i_M_rain [.ref 65, .int x] μ Q := by
  refine v_M_rain ?_
  unfold ax_rain at k
  refine ⟨fun c => by rw [if_neg c] at k; exact k, fun c => ?_⟩
  rw [if_pos c] at k
  obtain ⟨q, ⟨h1, h40⟩, rfl⟩ := kr_ix40 c
  rw [nI_clamp (by omega)] at k
  rw [show (67 : Int32) = nI 67 from rfl, nI_add, nI_clamp (by omega), hM _ (by omega)]
  exact ⟨vp_in_nI (by omega) (by decide), k⟩
theorem c_M_draw (hw : kr_wf g P D K t) (hM : kr_Mg μ g) (hD : μ.1 65 3 = nI D) (k : ∀ μ', kr_keep [66] [] μ μ' → kr_Mg μ' (pz_draw g D x y).2 → Q (some (.int (pz_draw g D x y).1)) μ') : kr_c (d + 3) i_M_draw [.ref 65, .int x, .int y] μ Q := by
  have hN := hw.1.1
  have hD5 := hw.1.2.2.2.1
  refine v_M_draw ?_
  rw [hD, hM 0 (by decide), kr_le1 (by omega), kr_le1 (by omega)]
  unfold pz_draw at k
  refine ⟨fun c => by rw [if_neg (fun q => c q.1)] at k; exact k μ kr_keep.rf hM, fun c => ⟨fun c2 => ?_, fun c2 => by rw [if_neg (fun q => c2 q.2)] at k; exact k μ kr_keep.rf hM⟩⟩
  rw [if_pos ⟨c, c2⟩] at k
  obtain ⟨e, he, rfl⟩ := kr_ix (by omega) c
  obtain ⟨l, hl, rfl⟩ := kr_ix (by omega) c2
  rw [nI_clamp (by omega), nI_clamp (by omega)] at k
  have h50 := hw.2.2.2.1 e he
  have hy := (hw.2.1 l hl).2.2.2.2.1
  have v62 : vp_in (nI (62 + e)) 375 := vp_in_nI (by omega) (by decide)
  have i3 : ((1 + 5 * nI l : Int32) + 3).toNatClampNeg = 4 + 5 * l := by
    rw [show (3 : Int32) = nI 3 from rfl, kr_ofi, nI_clamp (by omega)]; omega
  rw [kr_ofg2 hM (by omega), i3, show (62 : Int32) = nI 62 from rfl, nI_add, nI_clamp (by omega), hM _ (by omega), nI_leI (by omega) (by omega)]
  refine ⟨v62, kr_ofv2 (by omega), fun cc => ⟨v62, kr_ofv2 (by omega), v62, kr_ofv3 (by omega), v62, ?_⟩, fun cc => by rw [if_neg cc] at k; exact k μ kr_keep.rf hM⟩
  rw [if_pos cc] at k
  rw [pk_sub cc, kr_upd_n _ _ (by omega), kr_upd_s]
  exact k _ ((kr_keep.rf.u _ _ (by decide)).u _ _ (by decide)) hM.un.un
theorem c_M_rub (hw : kr_wf g P D K t) (hM : kr_Mg μ g) (k : ∀ μ', kr_keep [66] [] μ μ' → kr_Mg μ' (pz_rub g x y).2 → Q (some (.int (pz_rub g x y).1)) μ') : kr_c (d + 3) i_M_rub [.ref 65, .int x, .int y] μ Q := by
  have hN := hw.1.1
  refine v_M_rub ?_
  rw [hM 0 (by decide), kr_le1 (by omega), kx_lb y 9 9 (by decide)]
  unfold pz_rub at k
  refine ⟨fun c => by rw [if_neg (fun q => c q.1)] at k; exact k μ kr_keep.rf hM, fun c => ⟨fun c2 => ?_, fun c2 => by rw [if_neg (fun q => c2 q.2)] at k; exact k μ kr_keep.rf hM⟩⟩
  rw [if_pos ⟨c, c2⟩] at k
  obtain ⟨l, hl, rfl⟩ := kr_ix (by omega) c
  obtain ⟨v, hv, rfl⟩ := kr_ixm (n := 9) (by decide) c2
  rw [nI_clamp (by omega), nI_clamp (by omega)] at k
  have i3 : ((1 + 5 * nI l : Int32) + 3).toNatClampNeg = 4 + 5 * l := by
    rw [show (3 : Int32) = nI 3 from rfl, kr_ofi, nI_clamp (by omega)]; omega
  rw [kr_ofg3 hM (by omega), i3]
  exact ⟨kr_ofv3 (by omega), kr_ofv3 (by omega), k _ (kr_keep.rf.u _ _ (by decide)) hM.un⟩
theorem c_M_cloud (hM : kr_Mg μ g) (k : ∀ μ', kr_keep [66] [] μ μ' → kr_Mg μ' (pz_cloud g x z).2 → Q (some (.int (pz_cloud g x z).1)) μ') : kr_c (d + 3) i_M_cloud [.ref 65, .int x, .int z] μ Q := by
  refine v_M_cloud ?_
  unfold pz_cloud at k
  refine ⟨fun c => ?_, fun c => by rw [if_neg c] at k; exact k μ kr_keep.rf hM⟩
  rw [if_pos c] at k
  obtain ⟨q, ⟨h1, h40⟩, rfl⟩ := kr_ix40 c
  rw [nI_clamp (by omega)] at k
  have v67 : vp_in (nI (67 + q)) 375 := vp_in_nI (by omega) (by decide)
  rw [show (67 : Int32) = nI 67 from rfl, nI_add, nI_clamp (by omega), hM _ (by omega)]
  have e : (if ¬ z = 0 then (1 : Int32) else 0) = nI (if z = 0 then 0 else 1) := by
    by_cases c : z = 0
    · rw [if_neg (fun q => q c), if_pos c]; rfl
    · rw [if_pos c, if_neg c]; rfl
  rw [e]
  exact ⟨v67, v67, k _ (kr_keep.rf.u _ _ (by decide)) hM.un⟩
theorem c_M_build (hw : kr_wf g P D K t) (hM : kr_Mg μ g) (hP : μ.1 65 2 = nI P) (k : ∀ μ', kr_keep [66] [] μ μ' → kr_Mg μ' (pz_build g P x z).2 → Q (some (.int (pz_build g P x z).1)) μ') : kr_c (d + 3) i_M_build [.ref 65, .int x, .int z] μ Q := by
  have hP9 := hw.1.2.2.1
  have hb := hw.gb.2.1
  refine v_M_build ?_
  rw [hP, kr_le1 (by omega), hM 61 (by decide)]
  unfold pz_build at k
  refine ⟨fun c => ?_, fun c => by rw [if_neg c] at k; exact k μ kr_keep.rf hM⟩
  rw [if_pos c] at k
  obtain ⟨i, hi, rfl⟩ := kr_ix (by omega) c
  rw [nI_clamp (by omega)] at k
  rw [kr_bit (by omega) (by omega), kr_andc (by omega) (by omega), kr_1sh i (by omega), kr_or]
  refine ⟨fun cz => ?_, fun cz => ?_⟩
  · rw [if_pos cz] at k
    exact k _ (kr_keep.rf.u _ _ (by decide)) hM.un
  · rw [if_neg cz] at k
    exact k _ (kr_keep.rf.u _ _ (by decide)) hM.un
theorem c_M_plan (hw : kr_wf g P D K t) (hM : kr_Mg μ g) (hP : μ.1 65 2 = nI P) (k : ∀ μ', kr_keep [66] [] μ μ' → kr_Mg μ' (pz_plan g P x y w).2 → Q (some (.int (pz_plan g P x y w).1)) μ') : kr_c (d + 3) i_M_plan [.ref 65, .int x, .int y, .int w] μ Q := by
  have hN := hw.1.1
  have hP9 := hw.1.2.2.1
  refine v_M_plan ?_
  rw [hP, kr_le1 (by omega), kr_le1 (by omega), kx_lb1 w 9 9 (by decide)]
  unfold pz_plan at k
  have no : ¬ (((0 ≤ x ∧ x < nI P) ∧ (0 ≤ y ∧ y < nI P)) ∧ (¬ x = y ∧ (1 : Int32) ≤ w ∧ w ≤ 9)) → Q (some (.int (-1))) μ := fun c => by rw [if_neg c] at k; exact k μ kr_keep.rf hM
  refine ⟨fun c => no (fun z => c z.1.1), fun c => ⟨fun c2 => no (fun z => c2 z.1.2), fun c2 => ⟨fun c3 => no (fun z => z.2.1 c3), fun c3 => ⟨fun c4 => ?_, fun c4 => no (fun z => c4 z.2.2)⟩⟩⟩⟩
  rw [if_pos ⟨⟨c, c2⟩, c3, c4⟩] at k
  obtain ⟨i, hi, rfl⟩ := kr_ix (by omega) c
  obtain ⟨j, hj, rfl⟩ := kr_ix (by omega) c2
  obtain ⟨v, hv, rfl⟩ := kr_ixm (n := 9) (by decide) ⟨by have c4 := c4.1; rw [kr_le] at c4 ⊢; have e1 : (1 : Int32).toInt = 1 := rfl; have e0 : (0 : Int32).toInt = 0 := rfl; omega, c4.2⟩
  rw [nI_clamp (by omega), nI_clamp (by omega), nI_clamp (by omega)] at k
  have io : ∀ m, m < 5 → ((1 : Int32) + 5 * nI (g 0)) + nI m = nI (1 + m + 5 * g 0) := fun m hm => by rw [kr_ofi]; congr 1; omega
  have o0 := io 0 (by decide)
  have o1 := io 1 (by decide)
  have o2 := io 2 (by decide)
  have o3 := io 3 (by decide)
  have o4 := io 4 (by decide)
  rw [hM 0 (by decide), show (12 : Int32) = nI 12 from rfl, nI_eq (by omega) (by decide), show (0 : Int32) = nI 0 from rfl, show ((1 : Int32) + 5 * nI (g 0)) + 1 = nI (1 + 1 + 5 * g 0) from o1, show ((1 : Int32) + 5 * nI (g 0)) + 2 = nI (1 + 2 + 5 * g 0) from o2, show ((1 : Int32) + 5 * nI (g 0)) + 3 = nI (1 + 3 + 5 * g 0) from o3, show ((1 : Int32) + 5 * nI (g 0)) + 4 = nI (1 + 4 + 5 * g 0) from o4, o0]
  refine ⟨fun c6 => ?_, fun c6 => by rw [if_pos c6] at k; exact k μ kr_keep.rf hM⟩
  rw [if_neg c6] at k
  have vi : ∀ m, m < 5 → vp_in (nI (1 + m + 5 * g 0)) 375 := fun m hm => vp_in_nI (by omega) (by decide)
  refine ⟨vi 0 (by decide), vi 1 (by decide), vi 2 (by decide), vi 3 (by decide), vi 4 (by decide), ?_⟩
  rw [nI_clamp (by omega), nI_clamp (by omega), nI_clamp (by omega), nI_clamp (by omega), nI_clamp (by omega)]
  rw [kr_upd_n _ _ (by omega), kr_upd_n _ _ (by omega), kr_upd_n _ _ (by omega), kr_upd_n _ _ (by omega), kr_upd_n _ _ (by omega), hM 0 (by decide), show nI (g 0) + 1 - 1 = nI (g 0) from Int32.add_sub_cancel _ _, kr_n1]
  refine k _ ((((((kr_keep.rf.u _ _ (by decide)).u _ _ (by decide)).u _ _ (by decide)).u _ _ (by decide)).u _ _ (by decide)).u _ _ (by decide)) ?_
  have e := (((((hM.un (j := 1 + 0 + 5 * g 0) (v := i)).un (j := 1 + 1 + 5 * g 0) (v := j)).un (j := 1 + 2 + 5 * g 0) (v := v)).un (j := 1 + 3 + 5 * g 0) (v := 0)).un (j := 1 + 4 + 5 * g 0) (v := 0)).un (j := 0) (v := g 0 + 1)
  rw [show 1 + 0 + 5 * g 0 = 1 + 5 * g 0 by omega, show 1 + 1 + 5 * g 0 = 2 + 5 * g 0 by omega, show 1 + 2 + 5 * g 0 = 3 + 5 * g 0 by omega, show 1 + 3 + 5 * g 0 = 4 + 5 * g 0 by omega, show 1 + 4 + 5 * g 0 = 5 + 5 * g 0 by omega] at e ⊢
  exact e
theorem c_M_hear (hw : kr_wf g P D K t) (hM : kr_Mg μ g) (k : ∀ μ', kr_keep [66] [] μ μ' → kr_Mg μ' (pz_hear g x z).2 → Q (some (.int (pz_hear g x z).1)) μ') : kr_c (d + 3) i_M_hear [.ref 65, .int x, .int z] μ Q := by
  have hN := hw.1.1
  have hpN := kx_p12 hN
  have h8 := hw.2.2.2.2.2.2.1
  refine v_M_hear ?_
  rw [hM 0 (by decide)]
  unfold pz_hear at k
  refine ⟨fun c => by rw [if_neg (fun q => c q.2)] at k; exact k μ kr_keep.rf hM, fun c2 => ⟨fun c => ?_, fun c => by rw [if_neg (fun q => q.1 c)] at k; exact k μ kr_keep.rf hM⟩⟩
  rw [if_pos ⟨c, c2⟩] at k
  obtain ⟨S, hS, rfl⟩ := kr_set hN c2
  rw [nI_clamp (by omega)] at k
  have e : (if ¬ z = 0 then (1 : Int32) else 0) = nI (if z = 0 then 0 else 1) := by
    by_cases c : z = 0
    · rw [if_neg (fun q => q c), if_pos c]; rfl
    · rw [if_pos c, if_neg c]; rfl
  rw [hM 108 (by decide), kr_hi, kr_n1, nI_clamp (by omega), nI_clamp (by omega), show (8 : Int32) = nI 8 from rfl, nI_eq (by omega) (by decide), e, kr_upd_n _ _ (by omega), kr_upd_n _ _ (by omega), hM 108 (by decide), kr_n1]
  refine ⟨fun c8 => ⟨vp_in_nI (by omega) (by decide), vp_in_nI (by omega) (by decide), ?_⟩, fun c8 => by rw [if_pos c8] at k; exact k μ kr_keep.rf hM⟩
  rw [if_neg c8] at k
  refine k _ (((kr_keep.rf.u _ _ (by decide)).u _ _ (by decide)).u _ _ (by decide)) ?_
  have e := ((hM.un (j := 109 + 2 * g 108) (v := S)).un (j := 109 + 2 * g 108 + 1) (v := if z = 0 then 0 else 1)).un (j := 108) (v := g 108 + 1)
  rw [show 109 + 2 * g 108 + 1 = 110 + 2 * g 108 by omega] at e ⊢
  exact e
theorem c_M_forget (hw : kr_wf g P D K t) (hM : kr_Mg μ g) (k : ∀ μ', kr_keep [66] [] μ μ' → kr_Mg μ' (pz_forget g x).2 → Q (some (.int (pz_forget g x).1)) μ') : kr_c (d + 2) i_M_forget [.ref 65, .int x] μ Q := by
  have h8 := hw.2.2.2.2.2.2.1
  refine v_M_forget ?_
  rw [hM 108 (by decide), kx_lb x _ (nI (g 108)) rfl]
  unfold pz_forget at k
  refine ⟨fun c => ?_, fun c => by rw [if_neg c] at k; exact k μ kr_keep.rf hM⟩
  rw [if_pos c] at k
  obtain ⟨j, hj, rfl⟩ := kr_ixm (by omega) c
  rw [nI_clamp (by omega)] at k
  exact k _ (kr_keep.rf.u _ _ (by decide)) hM.un
/-- behind the first l lines -/
def kz_wetl (g : Nat → Nat) (l : Nat) : Nat → Nat := fun j => if 1 ≤ j ∧ j < 1 + 5 * l ∧ j % 5 = 4 ∧ g (j + 1) = 0 then g j - 1 else g j
theorem kz_wetl_s (g : Nat → Nat) (l : Nat) : kz_wetl g (l + 1) = if g (5 + 5 * l) = 0 then kx_un (kz_wetl g l) (4 + 5 * l) (g (4 + 5 * l) - 1) else kz_wetl g l := by
  by_cases c : g (5 + 5 * l) = 0
  · rw [if_pos c]
    funext j
    by_cases e : j = 4 + 5 * l
    · rw [e, kx_un_s]
      exact if_pos ⟨by omega, by omega, by omega, by rw [show 4 + 5 * l + 1 = 5 + 5 * l by omega]; exact c⟩
    · rw [kx_un_n _ _ e]
      unfold kz_wetl
      by_cases c2 : 1 ≤ j ∧ j < 1 + 5 * l ∧ j % 5 = 4 ∧ g (j + 1) = 0
      · rw [if_pos c2, if_pos ⟨c2.1, by omega, c2.2.2⟩]
      · rw [if_neg c2, if_neg (fun z => c2 ⟨z.1, by omega, z.2.2⟩)]
  · rw [if_neg c]
    funext j
    unfold kz_wetl
    by_cases c2 : 1 ≤ j ∧ j < 1 + 5 * l ∧ j % 5 = 4 ∧ g (j + 1) = 0
    · rw [if_pos c2, if_pos ⟨c2.1, by omega, c2.2.2⟩]
    · rw [if_neg c2, if_neg (fun z => ?_)]
      by_cases e : j = 4 + 5 * l
      · rw [e, show 4 + 5 * l + 1 = 5 + 5 * l by omega] at z; exact c z.2.2.2
      · exact c2 ⟨z.1, by omega, z.2.2⟩
theorem kz_wetl_0 (g : Nat → Nat) : kz_wetl g 0 = g := by
  funext j
  exact if_neg (fun z => by omega)
theorem kz_wetl_n {g : Nat → Nat} {l j : Nat} (h : ¬ (1 ≤ j ∧ j < 1 + 5 * l ∧ j % 5 = 4)) : kz_wetl g l j = g j := if_neg (fun z => h ⟨z.1, z.2.1, z.2.2.1⟩)
theorem c_M_wet (hw : kr_wf g P D K t) (hM : kr_Mg μ g) (k : ∀ μ', kr_keep [66] [] μ μ' → kr_Mg μ' (kz_wet g) → Q (some (.int (nI (kz_wetA g)))) μ') : kr_c (d + 2) i_M_wet [.ref 65] μ Q := by
  have hN := hw.1.1
  refine v_M_wet ?_
  have main : ∀ l, l ≤ g 0 → ∀ μ', kr_keep [66] [] μ μ' → kr_Mg μ' (kz_wetl g l) → kr_Wp C_M_wet (kr_c (d + 1)) Q 4 [some (.ref 65), some (.int (nI (kr_bm l (fun l => kr_gk g l 4 == 0 && kr_gk g l 3 == 1)))), some (.int (nI l))] [] μ' := by
    refine kr_up (I := fun l => ∀ μ', kr_keep [66] [] μ μ' → kr_Mg μ' (kz_wetl g l) → kr_Wp C_M_wet (kr_c (d + 1)) Q 4 [some (.ref 65), some (.int (nI (kr_bm l (fun l => kr_gk g l 4 == 0 && kr_gk g l 3 == 1)))), some (.int (nI l))] [] μ') (g 0) ?_ ?_
    · intro μ' hk h
      refine v_M_wet_4 (br_t ?_ (k μ' hk h))
      rw [h 0 (by decide), kz_wetl_n (by omega)]
      exact Int32.le_refl _
    · intro l hl ih μ' hk h
      have g3 := (hw.2.1 l hl).2.2.2.2.2.1
      have g4 := (hw.2.1 l hl).2.2.2.2.2.2
      have e3 : kr_gk (kz_wetl g l) l 3 = kr_gk g l 3 := kz_wetl_n (by omega)
      have e4 : kr_gk (kz_wetl g l) l 4 = kr_gk g l 4 := kz_wetl_n (by omega)
      have i3 : ((1 + 5 * nI l : Int32) + 3).toNatClampNeg = 4 + 5 * l := by
        rw [show (3 : Int32) = nI 3 from rfl, kr_ofi, nI_clamp (by omega)]; omega
      have v3 := kr_ofv3 (l := l) (by omega)
      have hs := kz_wetl_s g l
      rw [show g (5 + 5 * l) = kr_gk g l 4 by unfold kr_gk; congr 1; omega, ← kz_gk3 g l] at hs
      refine v_M_wet_4 (br_f ?_ ⟨kr_ofv4 (by omega), ?_⟩)
      · rw [h 0 (by decide), kz_wetl_n (by omega)]
        exact nI_ge hl (by omega)
      rw [kr_ofg4 h (by omega), kr_ofg3 h (by omega), e3, e4, kr_eq0 (by omega), i3, kr_upd_s, kr_n1, show (0 : Int32) = nI 0 from rfl, nI_leI (by omega) (by decide)]
      rw [kx_bl] at ih
      refine ⟨fun c => ?_, fun c => ⟨v3, fun c2 => ?_, fun c2 => ⟨v3, v3, v3, ?_⟩⟩⟩
      · rw [if_neg (show ¬ (kr_gk g l 4 == 0 && kr_gk g l 3 == 1) = true by simp [c]), Nat.or_zero] at ih
        rw [if_neg c] at hs
        exact ih μ' hk (by rw [hs]; exact h)
      · rw [if_neg (show ¬ (kr_gk g l 4 == 0 && kr_gk g l 3 == 1) = true by simp; omega), Nat.or_zero] at ih
        rw [if_pos c, show kr_gk g l 3 - 1 = kr_gk (kz_wetl g l) l 3 by omega, kz_gk3, kx_un_self _ _ _ rfl] at hs
        exact ih μ' hk (by rw [hs]; exact h)
      · rw [if_pos c] at hs
        have hu : kr_Mg (kr_u μ' 66 (4 + 5 * l) (nI (kr_gk g l 3 - 1))) (kz_wetl g (l + 1)) := by rw [hs]; exact h.un
        rw [show nI (kr_gk g l 3) - 1 = nI (kr_gk g l 3 - 1) from pk_sub (b := 1) (by omega), nI_eq (by omega) (by decide), kr_1sh l (by omega), kr_or, kr_or, Nat.or_zero]
        refine ⟨fun c3 => ?_, fun c3 => ?_⟩
        · rw [if_neg (show ¬ (kr_gk g l 4 == 0 && kr_gk g l 3 == 1) = true by simp; omega), Nat.or_zero] at ih
          exact ih _ (hk.u _ _ (by decide)) hu
        · rw [if_pos (show (kr_gk g l 4 == 0 && kr_gk g l 3 == 1) = true by simp; omega)] at ih
          exact ih _ (hk.u _ _ (by decide)) hu
  exact main 0 (Nat.zero_le _) μ kr_keep.rf (by rw [kz_wetl_0]; exact hM)
end
