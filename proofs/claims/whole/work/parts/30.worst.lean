/-! the worst quarter for more rain -/
theorem st_C_worst {d : Nat} {Q : kr_Q} {pc : Nat} {ls : kr_L} {st : List Value} {μ : kr_M} (h : C_C_worst pc (kr_Wp C_C_worst (kr_c d) Q) (kr_c d) Q ls st μ) : kr_Wp C_C_worst (kr_c d) Q pc ls st μ := kr_Wp.step (fun pc => (kr_ok_C_worst pc).2) (kr_c_om d) h
theorem v_C_worst {d : Nat} {Q : kr_Q} {μ : kr_M} {a1 : Int32} (h : ((a1 = 0 → kr_c (d + 6) i_K_run [.ref 27, .int 60, .int 0] μ (kr_bk (kr_Wp C_C_worst (kr_c (d + 6)) Q) 21 [some (.ref 0), some (.int a1), none, none, none, none] [])) ∧ (¬ (a1 = 0) → ((a1 = 1 → kr_c (d + 6) i_K_run [.ref 27, .int 60, .int 0] μ (kr_bk (kr_Wp C_C_worst (kr_c (d + 6)) Q) 21 [some (.ref 0), some (.int a1), none, none, none, none] [])) ∧ (¬ (a1 = 1) → Q (some (.int (-1))) μ))))) : kr_c (d + 7) i_C_worst [.ref 0, .int a1] μ Q := ⟨rfl, (st_C_worst (st_C_worst (And.intro (fun z1x => (st_C_worst (st_C_worst (And.intro rfl (st_C_worst (st_C_worst (st_C_worst (And.intro rfl (h.1 z1x))))))))) (fun z1x => (st_C_worst (st_C_worst (st_C_worst (And.intro (fun z2x => (st_C_worst (st_C_worst (And.intro rfl (st_C_worst (st_C_worst (st_C_worst (And.intro rfl ((h.2 z1x).1 z2x))))))))) (fun z2x => (st_C_worst (st_C_worst ((h.2 z1x).2 z2x))))))))))))⟩
theorem v_C_worst_38 {d : Nat} {Q : kr_Q} {μ : kr_M} {a1 : Int32} {a2 : Int32} {a3 : Int32} {a4 : Int32} (h : (((40 : Int32) < a4 → ((a3 = (-4) → Q (some (.int a3)) μ) ∧ (¬ (a3 = (-4)) → ((¬ a1 = 0 → Q (some (.int a2)) μ) ∧ (a1 = 0 → Q (some (.int a3)) μ))))) ∧ (¬ ((40 : Int32) < a4) → kr_c (d + 6) i_K_run [.ref 27, .int 60, .int a4] μ (kr_bk (kr_Wp C_C_worst (kr_c (d + 6)) Q) 56 [some (.ref 0), some (.int a1), some (.int a2), some (.int a3), some (.int a4), none] [])))) : kr_Wp C_C_worst (kr_c (d + 6)) Q 38 [some (.ref 0), some (.int a1), some (.int a2), some (.int a3), some (.int a4), none] [] μ := (st_C_worst (st_C_worst (st_C_worst (And.intro (fun z1x => (st_C_worst (st_C_worst (st_C_worst (And.intro (fun z2x => (st_C_worst (st_C_worst (st_C_worst ((h.1 z1x).1 z2x))))) (fun z2x => (st_C_worst (st_C_worst (And.intro (fun z3x => (st_C_worst (st_C_worst (((h.1 z1x).2 z2x).1 z3x)))) (fun z3x => (st_C_worst (st_C_worst (st_C_worst (((h.1 z1x).2 z2x).2 (Decidable.not_not.mp z3x))))))))))))))) (fun z1x => (st_C_worst (st_C_worst (And.intro rfl (st_C_worst (st_C_worst (st_C_worst (And.intro rfl (h.2 z1x)))))))))))))
theorem v_C_worst_21 {d : Nat} {Q : kr_Q} {μ : kr_M} {a1 : Int32} (h : kr_c (d + 6) i_K_whoIsLost [.ref 27] μ (kr_bk (kr_Wp C_C_worst (kr_c (d + 6)) Q) 28 [some (.ref 0), some (.int a1), none, none, none, none] [])) : kr_Wp C_C_worst (kr_c (d + 6)) Q 21 [some (.ref 0), some (.int a1), none, none, none, none] [] μ := (st_C_worst (st_C_worst (And.intro rfl (st_C_worst (And.intro rfl h)))))
theorem v_C_worst_56 {d : Nat} {Q : kr_Q} {μ : kr_M} {a1 : Int32} {a2 : Int32} {a3 : Int32} {a4 : Int32} (h : kr_c (d + 6) i_K_whoIsLost [.ref 27] μ (kr_bk (kr_Wp C_C_worst (kr_c (d + 6)) Q) 63 [some (.ref 0), some (.int a1), some (.int a2), some (.int a3), some (.int a4), none] [])) : kr_Wp C_C_worst (kr_c (d + 6)) Q 56 [some (.ref 0), some (.int a1), some (.int a2), some (.int a3), some (.int a4), none] [] μ := (st_C_worst (st_C_worst (And.intro rfl (st_C_worst (And.intro rfl h)))))
theorem v_C_worst_28 {d : Nat} {Q : kr_Q} {μ : kr_M} {a1 : Int32} {r : Int32} (h : kr_c (d + 6) i_J6_bitCount [.int r] μ (kr_bk (kr_Wp C_C_worst (kr_c (d + 6)) Q) 31 [some (.ref 0), some (.int a1), none, none, none, none] [])) : kr_Wp C_C_worst (kr_c (d + 6)) Q 28 [some (.ref 0), some (.int a1), none, none, none, none] [.int r] μ := (st_C_worst h)
theorem v_C_worst_63 {d : Nat} {Q : kr_Q} {μ : kr_M} {a1 : Int32} {a2 : Int32} {a3 : Int32} {a4 : Int32} {r : Int32} (h : kr_c (d + 6) i_J6_bitCount [.int r] μ (kr_bk (kr_Wp C_C_worst (kr_c (d + 6)) Q) 66 [some (.ref 0), some (.int a1), some (.int a2), some (.int a3), some (.int a4), none] [])) : kr_Wp C_C_worst (kr_c (d + 6)) Q 63 [some (.ref 0), some (.int a1), some (.int a2), some (.int a3), some (.int a4), none] [.int r] μ := (st_C_worst h)
theorem v_C_worst_31 {d : Nat} {Q : kr_Q} {μ : kr_M} {a1 : Int32} {r : Int32} (h : kr_Wp C_C_worst (kr_c (d + 6)) Q 38 [some (.ref 0), some (.int a1), some (.int r), some (.int (-4)), some (.int 1), none] [] μ) : kr_Wp C_C_worst (kr_c (d + 6)) Q 31 [some (.ref 0), some (.int a1), none, none, none, none] [.int r] μ := (st_C_worst (st_C_worst (st_C_worst (st_C_worst (st_C_worst h)))))
theorem v_C_worst_66 {d : Nat} {Q : kr_Q} {μ : kr_M} {a1 : Int32} {a2 : Int32} {a3 : Int32} {a4 : Int32} {r : Int32} (h : ((r ≤ a2 → kr_Wp C_C_worst (kr_c (d + 6)) Q 38 [some (.ref 0), some (.int a1), some (.int a2), some (.int a3), some (.int (a4 + 1)), none] [] μ) ∧ (¬ (r ≤ a2) → kr_Wp C_C_worst (kr_c (d + 6)) Q 38 [some (.ref 0), some (.int a1), some (.int r), some (.int a4), some (.int (a4 + 1)), none] [] μ))) : kr_Wp C_C_worst (kr_c (d + 6)) Q 66 [some (.ref 0), some (.int a1), some (.int a2), some (.int a3), some (.int a4), none] [.int r] μ := (st_C_worst (st_C_worst (st_C_worst (st_C_worst (And.intro (fun z1x => (st_C_worst (st_C_worst (kr_Wp.lm [true, true, true, true, true, false] (h.1 z1x))))) (fun z1x => (st_C_worst (st_C_worst (st_C_worst (st_C_worst (st_C_worst (st_C_worst (kr_Wp.lm [true, true, true, true, true, false] (h.2 z1x))))))))))))))
theorem st_M_worst {d : Nat} {Q : kr_Q} {pc : Nat} {ls : kr_L} {st : List Value} {μ : kr_M} (h : C_M_worst pc (kr_Wp C_M_worst (kr_c d) Q) (kr_c d) Q ls st μ) : kr_Wp C_M_worst (kr_c d) Q pc ls st μ := kr_Wp.step (fun pc => (kr_ok_M_worst pc).2) (kr_c_om d) h
theorem v_M_worst {d : Nat} {Q : kr_Q} {μ : kr_M} {a1 : Int32} (h : (((0 : Int64) ≤ a1.toInt64 ∧ a1.toInt64 ≤ (1 : Int64) → kr_c (d + 5) i_M_runs [.ref 65, .int 60] μ (kr_bk (kr_Wp C_M_worst (kr_c (d + 5)) Q) 18 [some (.ref 65), some (.int a1), none, none, none] [])) ∧ (¬ ((0 : Int64) ≤ a1.toInt64 ∧ a1.toInt64 ≤ (1 : Int64)) → Q (some (.int (-1))) μ))) : kr_c (d + 6) i_M_worst [.ref 65, .int a1] μ Q := ⟨rfl, (st_M_worst (st_M_worst (st_M_worst (st_M_worst (st_M_worst (c_M_in (st_M_worst (And.intro (fun z1x => (st_M_worst (st_M_worst (st_M_worst (And.intro rfl (h.1 (kr_b1 z1x))))))) (fun z1x => (st_M_worst (st_M_worst (h.2 (kr_b2 z1x)))))))))))))⟩
theorem v_M_worst_32 {d : Nat} {Q : kr_Q} {μ : kr_M} {a1 : Int32} {a2 : Int32} {a3 : Int32} {a4 : Int32} (h : (((40 : Int32) < a4 → ((¬ a3 = (-4) → ((¬ a1 = 0 → Q (some (.int a2)) (kr_u μ 65 29 0)) ∧ (a1 = 0 → Q (some (.int a3)) (kr_u μ 65 29 0)))) ∧ (a3 = (-4) → Q (some (.int (-4))) (kr_u μ 65 29 0)))) ∧ (¬ ((40 : Int32) < a4) → vp_in ((67 : Int32) + a4) 375 ∧ ((¬ (μ.1 66 (((67 : Int32) + a4).toNatClampNeg)) = 1 → kr_c (d + 5) i_M_runs [.ref 65, .int 60] (kr_u μ 65 29 a4) (kr_bk (kr_Wp C_M_worst (kr_c (d + 5)) Q) 69 [some (.ref 65), some (.int a1), some (.int a2), some (.int a3), some (.int a4)] [])) ∧ ((μ.1 66 (((67 : Int32) + a4).toNatClampNeg)) = 1 → kr_c (d + 5) i_M_runs [.ref 65, .int 60] (kr_u μ 65 29 0) (kr_bk (kr_Wp C_M_worst (kr_c (d + 5)) Q) 69 [some (.ref 65), some (.int a1), some (.int a2), some (.int a3), some (.int a4)] [])))))) : kr_Wp C_M_worst (kr_c (d + 5)) Q 32 [some (.ref 65), some (.int a1), some (.int a2), some (.int a3), some (.int a4)] [] μ := (st_M_worst (st_M_worst (st_M_worst (And.intro (fun z1x => (st_M_worst (st_M_worst (st_M_worst (And.intro rfl (st_M_worst (st_M_worst (st_M_worst (And.intro (fun z2x => (st_M_worst (st_M_worst (And.intro (fun z3x => (st_M_worst (st_M_worst (((h.1 z1x).1 z2x).1 z3x)))) (fun z3x => (st_M_worst (st_M_worst (st_M_worst (((h.1 z1x).1 z2x).2 (Decidable.not_not.mp z3x)))))))))) (fun z2x => (st_M_worst (st_M_worst (st_M_worst ((h.1 z1x).2 (Decidable.not_not.mp z2x))))))))))))))) (fun z1x => (st_M_worst (st_M_worst (st_M_worst (And.intro rfl (st_M_worst (st_M_worst (st_M_worst (st_M_worst (And.intro ⟨375, rfl, (h.2 z1x).1⟩ (st_M_worst (st_M_worst (And.intro (fun z4x => (st_M_worst (st_M_worst (And.intro rfl (st_M_worst (st_M_worst (st_M_worst (And.intro rfl ((h.2 z1x).2.1 z4x))))))))) (fun z4x => (st_M_worst (st_M_worst (st_M_worst (And.intro rfl (st_M_worst (st_M_worst (st_M_worst (And.intro rfl ((h.2 z1x).2.2 (Decidable.not_not.mp z4x))))))))))))))))))))))))))))
theorem v_M_worst_18 {d : Nat} {Q : kr_Q} {μ : kr_M} {a1 : Int32} (h : kr_c (d + 5) i_M_bitsOf [.int (μ.1 65 28)] μ (kr_bk (kr_Wp C_M_worst (kr_c (d + 5)) Q) 25 [some (.ref 65), some (.int a1), none, none, none] [])) : kr_Wp C_M_worst (kr_c (d + 5)) Q 18 [some (.ref 65), some (.int a1), none, none, none] [] μ := (st_M_worst (st_M_worst (And.intro rfl (st_M_worst h))))
theorem v_M_worst_69 {d : Nat} {Q : kr_Q} {μ : kr_M} {a1 : Int32} {a2 : Int32} {a3 : Int32} {a4 : Int32} (h : kr_c (d + 5) i_M_bitsOf [.int (μ.1 65 28)] μ (kr_bk (kr_Wp C_M_worst (kr_c (d + 5)) Q) 76 [some (.ref 65), some (.int a1), some (.int a2), some (.int a3), some (.int a4)] [])) : kr_Wp C_M_worst (kr_c (d + 5)) Q 69 [some (.ref 65), some (.int a1), some (.int a2), some (.int a3), some (.int a4)] [] μ := (st_M_worst (st_M_worst (And.intro rfl (st_M_worst h))))
theorem v_M_worst_25 {d : Nat} {Q : kr_Q} {μ : kr_M} {a1 : Int32} {r : Int32} (h : kr_Wp C_M_worst (kr_c (d + 5)) Q 32 [some (.ref 65), some (.int a1), some (.int r), some (.int (-4)), some (.int 1)] [] μ) : kr_Wp C_M_worst (kr_c (d + 5)) Q 25 [some (.ref 65), some (.int a1), none, none, none] [.int r] μ := (st_M_worst (st_M_worst (st_M_worst (st_M_worst (st_M_worst h)))))
theorem v_M_worst_76 {d : Nat} {Q : kr_Q} {μ : kr_M} {a1 : Int32} {a2 : Int32} {a3 : Int32} {a4 : Int32} {r : Int32} (h : ((r ≤ a2 → kr_c (d + 5) i_M_bitsOf [.int (μ.1 65 28)] μ (kr_bk (kr_Wp C_M_worst (kr_c (d + 5)) Q) 94 [some (.ref 65), some (.int a1), some (.int a2), some (.int a3), some (.int a4)] [])) ∧ (¬ (r ≤ a2) → kr_c (d + 5) i_M_bitsOf [.int (μ.1 65 28)] μ (kr_bk (kr_Wp C_M_worst (kr_c (d + 5)) Q) 94 [some (.ref 65), some (.int a1), some (.int a2), some (.int a4), some (.int a4)] [])))) : kr_Wp C_M_worst (kr_c (d + 5)) Q 76 [some (.ref 65), some (.int a1), some (.int a2), some (.int a3), some (.int a4)] [.int r] μ := (st_M_worst (st_M_worst (And.intro (fun z1x => (st_M_worst (st_M_worst (st_M_worst (st_M_worst (And.intro rfl (st_M_worst (h.1 z1x)))))))) (fun z1x => (st_M_worst (st_M_worst (st_M_worst (st_M_worst (st_M_worst (And.intro rfl (st_M_worst (h.2 z1x))))))))))))
theorem v_M_worst_94 {d : Nat} {Q : kr_Q} {μ : kr_M} {a1 : Int32} {a2 : Int32} {a3 : Int32} {a4 : Int32} {r : Int32} (h : ((r ≤ a2 → kr_Wp C_M_worst (kr_c (d + 5)) Q 32 [some (.ref 65), some (.int a1), some (.int a2), some (.int a3), some (.int (a4 + 1))] [] μ) ∧ (¬ (r ≤ a2) → kr_c (d + 5) i_M_bitsOf [.int (μ.1 65 28)] μ (kr_bk (kr_Wp C_M_worst (kr_c (d + 5)) Q) 105 [some (.ref 65), some (.int a1), some (.int a2), some (.int a3), some (.int a4)] [])))) : kr_Wp C_M_worst (kr_c (d + 5)) Q 94 [some (.ref 65), some (.int a1), some (.int a2), some (.int a3), some (.int a4)] [.int r] μ := (st_M_worst (st_M_worst (And.intro (fun z1x => (st_M_worst (st_M_worst (st_M_worst (st_M_worst (h.1 z1x)))))) (fun z1x => (st_M_worst (st_M_worst (And.intro rfl (st_M_worst (h.2 z1x)))))))))
theorem v_M_worst_105 {d : Nat} {Q : kr_Q} {μ : kr_M} {a1 : Int32} {a2 : Int32} {a3 : Int32} {a4 : Int32} {r : Int32} (h : kr_Wp C_M_worst (kr_c (d + 5)) Q 32 [some (.ref 65), some (.int a1), some (.int r), some (.int a3), some (.int (a4 + 1))] [] μ) : kr_Wp C_M_worst (kr_c (d + 5)) Q 105 [some (.ref 65), some (.int a1), some (.int a2), some (.int a3), some (.int a4)] [.int r] μ := (st_M_worst (st_M_worst (st_M_worst (st_M_worst h))))
theorem kr_c_mono {d y : Nat} {as : List Value} {μ : kr_M} {Q Q' : kr_Q} (h : kr_c d y as μ Q) (hq : ∀ v μ, Q v μ → Q' v μ) : kr_c d y as μ Q' := kr_c_om d y as μ Q Q' hq h
noncomputable def kx_wv (g t : Nat → Nat) (K q : Nat) : Nat := kr_ones 12 (kx_lm g t K q 60)
/-- the most, and when (0: never), of the first q -/
noncomputable def kx_ws (g t : Nat → Nat) (K : Nat) : Nat → Nat × Nat
  | 0 => (kx_wv g t K 0, 0)
  | q + 1 => if kx_wv g t K (q + 1) ≤ (kx_ws g t K q).1 then kx_ws g t K q else (kx_wv g t K (q + 1), q + 1)
noncomputable def ax_worst (g t : Nat → Nat) (K : Nat) (x : Int32) : Int32 := if x = 0 ∨ x = 1 then (if (kx_ws g t K 40).2 = 0 then -4 else if x = 0 then nI (kx_ws g t K 40).2 else nI (kx_ws g t K 40).1) else -1
theorem kx_wv_le (g t : Nat → Nat) (K q : Nat) : kx_wv g t K q ≤ 12 := kr_ones_le _ _
theorem kx_ws_le (g t : Nat → Nat) (K : Nat) : ∀ q, (kx_ws g t K q).1 ≤ 12 ∧ (kx_ws g t K q).2 ≤ q := by
  intro q
  induction q with
  | zero => exact ⟨kx_wv_le g t K 0, Nat.le_refl _⟩
  | succ q ih =>
    unfold kx_ws
    by_cases c : kx_wv g t K (q + 1) ≤ (kx_ws g t K q).1
    · rw [if_pos c]; exact ⟨ih.1, by omega⟩
    · rw [if_neg c]; exact ⟨kx_wv_le g t K _, Nat.le_refl _⟩
theorem kx_lm_lt {g t : Nat → Nat} {P D K : Nat} (hw : kr_wf g P D K t) (q n : Nat) : kx_lm g t K q n < 32 := Nat.lt_of_lt_of_le (kr_bm_lt _ _) (Nat.pow_le_pow_right (n := 2) (by decide) hw.1.2.2.2.2)
theorem kx_run_rain {g t : Nat → Nat} {K q : Nat} (h1 : 1 ≤ q) (h40 : q ≤ 40) (h : g (67 + q) = 1) : ∀ n, kx_run g t K q n = kx_run g t K 0 n := by
  intro n
  induction n with
  | zero => rfl
  | succ n ih =>
    have : kx_rn g q (n + 1) = kx_rn g 0 (n + 1) := by
      by_cases e : n + 1 = q
      · rw [e, kx_rn_e]
        exact (kx_rn_t h40 h).symm
      · by_cases c : n + 1 ≤ 40 ∧ g (67 + (n + 1)) = 1
        · rw [kx_rn_t c.1 c.2, kx_rn_t c.1 c.2]
        · rw [kx_rn_f c e, kx_rn_f c (by omega)]
    show kx_ps g t K (n + 1) K (if kx_rn g q (n + 1) then kx_lo K (kx_ra g (kx_run g t K q n)) else kx_run g t K q n) = kx_ps g t K (n + 1) K (if kx_rn g 0 (n + 1) then kx_lo K (kx_ra g (kx_run g t K 0 n)) else kx_run g t K 0 n)
    rw [this, ih]
theorem kx_mm_4 {m : Nat} (h : m < 1000) : kx_mm m = -4 ↔ m = 0 := by
  unfold kx_mm
  by_cases c : m = 0
  · rw [if_pos c]; exact ⟨fun _ => c, fun _ => rfl⟩
  · rw [if_neg c]; exact ⟨fun z => absurd z (kx_neg4 (by omega)), fun z => absurd z c⟩
theorem c_C_worst {d : Nat} {Q : kr_Q} {μ : kr_M} {g t : Nat → Nat} {P D K : Nat} (hw : kr_wf g P D K t) (hR : kr_Rg μ 1 g P D K t) {x : Int32} (k : ∀ μ', kr_keep [25, 26, 28, 29, 30, 31, 32, 33] [] μ μ' → Q (some (.int (ax_worst g t K x))) μ') : kr_c (d + 7) i_C_worst [.ref 0, .int x] μ Q := by
  have hlim := hw.1.2.2.2.2
  have keep : ∀ μ', kr_keep [25, 26, 28, 29, 30, 31, 32, 33] [] μ μ' → kr_Rg μ' 1 g P D K t := by
    intro μ' hk
    unfold kr_Rg
    rw [hk.1, hk.row (o := 1) (by decide) (by decide), hk.row (o := 1 + 1) (by decide) (by decide), hk.row (o := 1 + 2) (by decide) (by decide), hk.row (o := 1 + 3) (by decide) (by decide), hk.row (o := 1 + 4) (by decide) (by decide), hk.row (o := 1 + 5) (by decide) (by decide), hk.row (o := 1 + 6) (by decide) (by decide), hk.row (o := 1 + 7) (by decide) (by decide), hk.row (o := 1 + 8) (by decide) (by decide), hk.row (o := 1 + 9) (by decide) (by decide)]
    exact hR
  have many : ∀ (ex : Nat), ex ≤ 40 → ∀ μ', kr_keep [25, 26, 28, 29, 30, 31, 32, 33] [] μ μ' → ∀ (Q2 : kr_Q), (∀ μ2, kr_keep [25, 26, 28, 29, 30, 31, 32, 33] [] μ μ2 → kr_c (d + 6) i_K_whoIsLost [.ref 27] μ2 (fun r μ3 => r = some (.int (nI (kx_lm g t K ex 60))) ∧ μ3 = μ2) → Q2 none μ2) → kr_c (d + 6) i_K_run [.ref 27, .int 60, .int (nI ex)] μ' Q2 := by
    intro ex hex μ' hk Q2 kk
    refine c_K_run' (n := 60) (ex := ex) hw (keep μ' hk) (by omega) (Nat.le_refl _) (fun μ2 hk2 hr2 => kk μ2 (hk.tr hk2) ?_)
    exact c_K_whoIsLost (d := d + 5) (by rw [(hk.tr hk2).2 1 10 (by decide) (by decide)]; exact hR.1.2.2.2.2.1) hlim (fun p hp => (kx_run_A hw (Nat.le_refl _) hp).1) hr2 ⟨rfl, rfl⟩
  unfold ax_worst at k
  have main : ∀ (c : x = 0 ∨ x = 1), ∀ q, q ≤ 40 → ∀ μ', kr_keep [25, 26, 28, 29, 30, 31, 32, 33] [] μ μ' → kr_Wp C_C_worst (kr_c (d + 6)) Q 38 [some (.ref 0), some (.int x), some (.int (nI (kx_ws g t K q).1)), some (.int (kx_mm (kx_ws g t K q).2)), some (.int (nI (q + 1))), none] [] μ' := by
    intro c
    rw [if_pos c] at k
    refine kr_up (I := fun q => ∀ μ', kr_keep [25, 26, 28, 29, 30, 31, 32, 33] [] μ μ' → kr_Wp C_C_worst (kr_c (d + 6)) Q 38 [some (.ref 0), some (.int x), some (.int (nI (kx_ws g t K q).1)), some (.int (kx_mm (kx_ws g t K q).2)), some (.int (nI (q + 1))), none] [] μ') 40 ?_ ?_
    · intro μ' hk
      have k2 := k μ' hk
      have hle := (kx_ws_le g t K 40).2
      refine v_C_worst_38 (br_t (by decide) ?_)
      rw [kx_mm_4 (by omega)]
      refine ⟨fun z => ?_, fun z => ⟨fun z2 => ?_, fun z2 => ?_⟩⟩
      · rw [if_pos z] at k2
        rw [z]
        exact k2
      · rw [if_neg z, if_neg z2] at k2
        exact k2
      · rw [if_neg z, if_pos z2] at k2
        unfold kx_mm
        rw [if_neg z]
        exact k2
    · intro q hq ih μ' hk
      refine v_C_worst_38 (br_f ?_ ?_)
      · rw [show (40 : Int32) = nI 40 from rfl]
        exact Int32.not_lt.mpr (nI_le (by omega) (by omega))
      · refine many (q + 1) (by omega) μ' hk _ (fun μ2 hk2 hl => v_C_worst_56 (kr_c_mono hl ?_))
        rintro r μ3 ⟨rfl, rfl⟩
        refine v_C_worst_63 (c_J6_bitCount (d := d + 5) (by have := kx_lm_lt hw (q + 1) 60; omega) (v_C_worst_66 ?_))
        have h1 := kx_wv_le g t K (q + 1)
        have h2 := (kx_ws_le g t K q).1
        have ihm := ih μ3 hk2
        unfold kx_wv at h1
        rw [nI_leI (by omega) (by omega), kr_n1]
        unfold kx_ws kx_wv at ihm
        refine ⟨fun z => ?_, fun z => ?_⟩
        · rw [if_pos z] at ihm
          exact ihm
        · rw [if_neg z] at ihm
          exact ihm
  have start : ∀ (c : x = 0 ∨ x = 1), kr_c (d + 6) i_K_run [.ref 27, .int 60, .int 0] μ (kr_bk (kr_Wp C_C_worst (kr_c (d + 6)) Q) 21 [some (.ref 0), some (.int x), none, none, none, none] []) := by
    intro c
    refine many 0 (by decide) μ kr_keep.rf _ (fun μ2 hk2 hl => v_C_worst_21 (kr_c_mono hl ?_))
    rintro r μ3 ⟨rfl, rfl⟩
    refine v_C_worst_28 (c_J6_bitCount (d := d + 5) (by have := kx_lm_lt hw 0 60; omega) (v_C_worst_31 ?_))
    exact main c 0 (Nat.zero_le _) μ3 hk2
  refine v_C_worst ⟨fun c => start (Or.inl c), fun c => ⟨fun c2 => start (Or.inr c2), fun c2 => ?_⟩⟩
  rw [if_neg (fun z => z.elim c c2)] at k
  exact k μ kr_keep.rf
theorem c_M_worst {d : Nat} {Q : kr_Q} {μ : kr_M} {g t : Nat → Nat} {P D K : Nat} (hw : kr_wf g P D K t) (hI : kr_MI μ g P D K t) {x : Int32} (k : ∀ μ', kr_keep [72, 73, 74, 75, 76, 77, 78] [(65, 28), (65, 29)] μ μ' → μ'.1 65 29 = nI 0 → Q (some (.int (ax_worst g t K x))) μ') : kr_c (d + 6) i_M_worst [.ref 65, .int x] μ Q := by
  obtain ⟨hM, hP, -, -, h29⟩ := hI
  have hlim := hw.1.2.2.2.2
  unfold ax_worst at k
  have e01 : (0 ≤ x ∧ x ≤ 1) ↔ (x = 0 ∨ x = 1) := by
    constructor
    · intro c
      obtain ⟨j, hj, rfl⟩ := kr_ix (x := x) (n := 2) (by decide) ⟨c.1, by
        have h2 := c.2
        rw [kr_le] at h2
        rw [kr_lt]
        have : (1 : Int32).toInt = 1 := rfl
        have : (nI 2).toInt = 2 := rfl
        omega⟩
      have : j = 0 ∨ j = 1 := by omega
      rcases this with e | e
      · rw [e]; exact Or.inl rfl
      · rw [e]; exact Or.inr rfl
    · intro c
      rcases c with c | c <;> rw [c] <;> decide
  refine v_M_worst ?_
  rw [kr_in01, e01]
  refine ⟨fun c => ?_, fun c => ?_⟩
  · rw [if_pos c] at k
    have many : ∀ (ex e' : Nat), ex ≤ 40 → e' < 1000 → kx_run g t K e' 60 = kx_run g t K ex 60 → ∀ μ', kr_keep [72, 73, 74, 75, 76, 77, 78] [(65, 28), (65, 29)] μ μ' → μ'.1 65 29 = nI e' → ∀ (Q2 : kr_Q), (∀ μ2, kr_keep [72, 73, 74, 75, 76, 77, 78] [(65, 28), (65, 29)] μ μ2 → μ2.1 65 28 = nI (kx_lm g t K ex 60) → Q2 none μ2) → kr_c (d + 5) i_M_runs [.ref 65, .int 60] μ' Q2 := by
      intro ex e' hex he' hrun μ' hk h29' Q2 kk
      refine c_M_runs' (n := 60) (ex := e') hw (hM.kp hk (by decide)) (hP.kp hk (by decide)) h29' he' (Nat.le_refl _) (fun μ2 hk2 hr2 => kk μ2 (hk.tr (hk2.wk (by decide) (by decide))) ?_)
      rw [hr2.2.1, hrun]
      rfl
    have main : ∀ q, q ≤ 40 → ∀ μ', kr_keep [72, 73, 74, 75, 76, 77, 78] [(65, 28), (65, 29)] μ μ' → kr_Wp C_M_worst (kr_c (d + 5)) Q 32 [some (.ref 65), some (.int x), some (.int (nI (kx_ws g t K q).1)), some (.int (kx_mm (kx_ws g t K q).2)), some (.int (nI (q + 1)))] [] μ' := by
      refine kr_up (I := fun q => ∀ μ', kr_keep [72, 73, 74, 75, 76, 77, 78] [(65, 28), (65, 29)] μ μ' → kr_Wp C_M_worst (kr_c (d + 5)) Q 32 [some (.ref 65), some (.int x), some (.int (nI (kx_ws g t K q).1)), some (.int (kx_mm (kx_ws g t K q).2)), some (.int (nI (q + 1)))] [] μ') 40 ?_ ?_
      · intro μ' hk
        have k2 := k _ (hk.f (o := 65) (j := 29) 0 (by decide)) (by rw [kr_u_s, kr_upd_s]; rfl)
        have hle := (kx_ws_le g t K 40).2
        refine v_M_worst_32 (br_t (by decide) ?_)
        rw [kx_mm_4 (by omega)]
        refine ⟨fun z => ⟨fun z2 => ?_, fun z2 => ?_⟩, fun z => ?_⟩
        · rw [if_neg z, if_neg z2] at k2
          exact k2
        · rw [if_neg z, if_pos z2] at k2
          unfold kx_mm
          rw [if_neg z]
          exact k2
        · rw [if_pos z] at k2
          exact k2
      · intro q hq ih μ' hk
        have hM' := hM.kp hk (by decide)
        have h1r := hw.hr (q + 1) (by omega)
        have go : ∀ e' μ', e' < 1000 → kx_run g t K e' 60 = kx_run g t K (q + 1) 60 → kr_keep [72, 73, 74, 75, 76, 77, 78] [(65, 28), (65, 29)] μ μ' → μ'.1 65 29 = nI e' → kr_c (d + 5) i_M_runs [.ref 65, .int 60] μ' (kr_bk (kr_Wp C_M_worst (kr_c (d + 5)) Q) 69 [some (.ref 65), some (.int x), some (.int (nI (kx_ws g t K q).1)), some (.int (kx_mm (kx_ws g t K q).2)), some (.int (nI (q + 1)))] []) := by
          intro e' μ' he' hrun hk h29'
          refine many (q + 1) e' (by omega) he' hrun μ' hk h29' _ (fun μ2 hk2 h28 => v_M_worst_69 ?_)
          have hlt : kx_lm g t K (q + 1) 60 < 2 ^ 31 := by have := kx_lm_lt hw (q + 1) 60; omega
          have h1 := kx_wv_le g t K (q + 1)
          have h2 := (kx_ws_le g t K q).1
          have ihm := ih μ2 hk2
          unfold kx_wv at h1
          unfold kx_ws kx_wv at ihm
          rw [h28]
          refine c_M_bitsOf (d := d + 4) hlt (v_M_worst_76 ?_)
          rw [nI_leI (by omega) (by omega), h28]
          refine ⟨fun z => c_M_bitsOf (d := d + 4) hlt (v_M_worst_94 ?_), fun z => c_M_bitsOf (d := d + 4) hlt (v_M_worst_94 ?_)⟩
          · rw [nI_leI (by omega) (by omega), kr_n1]
            rw [if_pos z] at ihm
            exact br_t z ihm
          · rw [nI_leI (by omega) (by omega), h28]
            rw [if_neg z] at ihm
            refine br_f z (c_M_bitsOf (d := d + 4) hlt (v_M_worst_105 ?_))
            rw [kr_n1]
            exact ihm
        refine v_M_worst_32 (br_f ?_ ?_)
        · rw [show (40 : Int32) = nI 40 from rfl]
          exact Int32.not_lt.mpr (nI_le (by omega) (by omega))
        · rw [show (67 : Int32) = nI 67 from rfl, nI_add, nI_clamp (by omega), hM' _ (by omega), show (1 : Int32) = nI 1 from rfl, nI_eq (by omega) (by decide)]
          refine ⟨vp_in_nI (by omega) (by decide), fun z => go (q + 1) _ (by omega) rfl (hk.f _ (by decide)) (by rw [kr_u_s, kr_upd_s]), fun z => go 0 _ (by decide) (kx_run_rain (by omega) (by omega) z 60).symm (hk.f _ (by decide)) (by rw [kr_u_s, kr_upd_s]; rfl)⟩
    refine many 0 0 (by decide) (by decide) rfl μ kr_keep.rf h29 _ (fun μ2 hk2 h28 => v_M_worst_18 ?_)
    rw [h28]
    exact c_M_bitsOf (d := d + 4) (by have := kx_lm_lt hw 0 60; omega) (v_M_worst_25 (main 0 (Nat.zero_le _) μ2 hk2))
  · rw [if_neg c] at k
    exact k μ (kr_keep.rf) h29
