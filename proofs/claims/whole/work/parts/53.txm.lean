/-! the text: the reference -/
theorem st_M_firstDraft {d : Nat} {Q : kr_Q} {pc : Nat} {ls : kr_L} {st : List Value} {μ : kr_M} (h : C_M_firstDraft pc (kr_Wp C_M_firstDraft (kr_c d) Q) (kr_c d) Q ls st μ) : kr_Wp C_M_firstDraft (kr_c d) Q pc ls st μ := kr_Wp.step (fun pc => (kr_ok_M_firstDraft pc).2) (kr_c_om d) h
theorem v_M_firstDraft {d : Nat} {Q : kr_Q} {μ : kr_M}  (h : kr_Wp C_M_firstDraft (kr_c d) Q 2 [some (.ref 65), some (.int 0)] [] μ) : kr_c (d + 1) i_M_firstDraft [.ref 65] μ Q := ⟨rfl, (st_M_firstDraft (st_M_firstDraft h))⟩
theorem v_M_firstDraft_2 {d : Nat} {Q : kr_Q} {μ : kr_M} {a1 : Int32} (h : (((125 : Int32) ≤ a1 → Q none (kr_u (kr_u (kr_u (kr_u (kr_u μ 65 7 5) 65 8 0) 65 9 0) 65 11 0) 65 12 (-4))) ∧ (¬ ((125 : Int32) ≤ a1) → vp_in a1 125 ∧ kr_Wp C_M_firstDraft (kr_c d) Q 2 [some (.ref 65), some (.int (a1 + 1))] [] (kr_u μ 69 a1.toNatClampNeg 0)))) : kr_Wp C_M_firstDraft (kr_c d) Q 2 [some (.ref 65), some (.int a1)] [] μ := (st_M_firstDraft (st_M_firstDraft (st_M_firstDraft (And.intro (fun z1x => (st_M_firstDraft (st_M_firstDraft (st_M_firstDraft (And.intro rfl (st_M_firstDraft (st_M_firstDraft (st_M_firstDraft (And.intro rfl (st_M_firstDraft (st_M_firstDraft (st_M_firstDraft (And.intro rfl (st_M_firstDraft (st_M_firstDraft (st_M_firstDraft (And.intro ⟨rfl, by decide⟩ (st_M_firstDraft (st_M_firstDraft (st_M_firstDraft (And.intro rfl (st_M_firstDraft (h.1 z1x))))))))))))))))))))))) (fun z1x => (st_M_firstDraft (st_M_firstDraft (And.intro rfl (st_M_firstDraft (st_M_firstDraft (st_M_firstDraft (And.intro ⟨125, rfl, (h.2 z1x).1⟩ (st_M_firstDraft (st_M_firstDraft (h.2 z1x).2))))))))))))))
theorem st_M_keepDraft {d : Nat} {Q : kr_Q} {pc : Nat} {ls : kr_L} {st : List Value} {μ : kr_M} (h : C_M_keepDraft pc (kr_Wp C_M_keepDraft (kr_c d) Q) (kr_c d) Q ls st μ) : kr_Wp C_M_keepDraft (kr_c d) Q pc ls st μ := kr_Wp.step (fun pc => (kr_ok_M_keepDraft pc).2) (kr_c_om d) h
theorem v_M_keepDraft {d : Nat} {Q : kr_Q} {μ : kr_M}  (h : kr_Wp C_M_keepDraft (kr_c d) Q 2 [some (.ref 65), some (.int 0)] [] μ) : kr_c (d + 1) i_M_keepDraft [.ref 65] μ Q := ⟨rfl, (st_M_keepDraft (st_M_keepDraft h))⟩
theorem v_M_keepDraft_2 {d : Nat} {Q : kr_Q} {μ : kr_M} {a1 : Int32} (h : (((125 : Int32) ≤ a1 → kr_Wp C_M_keepDraft (kr_c d) Q 52 [some (.ref 65), some (.int 0)] [] (kr_u (kr_u (kr_u μ 65 2 (μ.1 65 7)) 65 3 (μ.1 65 8)) 65 4 (μ.1 65 9))) ∧ (¬ ((125 : Int32) ≤ a1) → vp_in a1 125 ∧ vp_in a1 375 ∧ kr_Wp C_M_keepDraft (kr_c d) Q 2 [some (.ref 65), some (.int (a1 + 1))] [] (kr_u μ 66 a1.toNatClampNeg (μ.1 69 a1.toNatClampNeg))))) : kr_Wp C_M_keepDraft (kr_c d) Q 2 [some (.ref 65), some (.int a1)] [] μ := (st_M_keepDraft (st_M_keepDraft (st_M_keepDraft (And.intro (fun z1x => (st_M_keepDraft (st_M_keepDraft (st_M_keepDraft (And.intro rfl (st_M_keepDraft (And.intro rfl (st_M_keepDraft (st_M_keepDraft (st_M_keepDraft (And.intro rfl (st_M_keepDraft (And.intro rfl (st_M_keepDraft (st_M_keepDraft (st_M_keepDraft (And.intro rfl (st_M_keepDraft (And.intro rfl (st_M_keepDraft (st_M_keepDraft (h.1 z1x)))))))))))))))))))))) (fun z1x => (st_M_keepDraft (st_M_keepDraft (And.intro rfl (st_M_keepDraft (st_M_keepDraft (st_M_keepDraft (And.intro rfl (st_M_keepDraft (st_M_keepDraft (And.intro ⟨125, rfl, (h.2 z1x).1⟩ (st_M_keepDraft (And.intro ⟨375, rfl, (h.2 z1x).2.1⟩ (st_M_keepDraft (st_M_keepDraft (h.2 z1x).2.2)))))))))))))))))))
theorem v_M_keepDraft_52 {d : Nat} {Q : kr_Q} {μ : kr_M} {a1 : Int32} (h : (((15 : Int32) ≤ a1 → Q none (kr_u (kr_u μ 67 0 0) 67 1 0)) ∧ (¬ ((15 : Int32) ≤ a1) → vp_in a1 15 ∧ vp_in a1 15 ∧ kr_Wp C_M_keepDraft (kr_c d) Q 52 [some (.ref 65), some (.int (a1 + 1))] [] (kr_u μ 68 a1.toNatClampNeg (μ.1 70 a1.toNatClampNeg))))) : kr_Wp C_M_keepDraft (kr_c d) Q 52 [some (.ref 65), some (.int a1)] [] μ := (st_M_keepDraft (st_M_keepDraft (st_M_keepDraft (And.intro (fun z1x => (st_M_keepDraft (st_M_keepDraft (And.intro rfl (st_M_keepDraft (st_M_keepDraft (st_M_keepDraft (And.intro ⟨⟨2, rfl, kr_vp rfl⟩, by decide⟩ (st_M_keepDraft (st_M_keepDraft (And.intro rfl (st_M_keepDraft (st_M_keepDraft (st_M_keepDraft (And.intro ⟨⟨2, rfl, kr_vp rfl⟩, by decide⟩ (st_M_keepDraft (h.1 z1x))))))))))))))))) (fun z1x => (st_M_keepDraft (st_M_keepDraft (And.intro rfl (st_M_keepDraft (st_M_keepDraft (st_M_keepDraft (And.intro rfl (st_M_keepDraft (st_M_keepDraft (And.intro ⟨15, rfl, (h.2 z1x).1⟩ (st_M_keepDraft (And.intro ⟨15, rfl, (h.2 z1x).2.1⟩ (st_M_keepDraft (st_M_keepDraft (h.2 z1x).2.2)))))))))))))))))))
theorem st_M_text {d : Nat} {Q : kr_Q} {pc : Nat} {ls : kr_L} {st : List Value} {μ : kr_M} (h : C_M_text pc (kr_Wp C_M_text (kr_c d) Q) (kr_c d) Q ls st μ) : kr_Wp C_M_text (kr_c d) Q pc ls st μ := kr_Wp.step (fun pc => (kr_ok_M_text pc).2) (kr_c_om d) h
theorem v_M_text {d : Nat} {Q : kr_Q} {μ : kr_M}  (h : kr_c (d + 7) i_M_firstDraft [.ref 65] (kr_u (kr_u μ 65 19 0) 65 15 0) (kr_bk (kr_Wp C_M_text (kr_c (d + 7)) Q) 16 [some (.ref 65), some (.int 0)] [])) : kr_c (d + 8) i_M_text [.ref 65] μ Q := ⟨rfl, (st_M_text (st_M_text (st_M_text (st_M_text (st_M_text (And.intro rfl (st_M_text (st_M_text (st_M_text (And.intro rfl (st_M_text (st_M_text (And.intro rfl h)))))))))))))⟩
theorem v_M_text_20 {d : Nat} {Q : kr_Q} {μ : kr_M} {a1 : Int32} (h : ((¬ (μ.1 65 19) = 0 → ((¬ (μ.1 65 19) = 0 → (((μ.1 65 19) ≤ 0 → kr_c (d + 7) i_M_keepDraft [.ref 65] (kr_u μ 65 14 0) (kr_bk (kr_Wp C_M_text (kr_c (d + 7)) Q) 97 [some (.ref 65), some (.int a1)] [])) ∧ (¬ ((μ.1 65 19) ≤ 0) → Q (some (.int ((-10 : Int32) - (μ.1 65 20)))) (kr_u μ 65 14 0)))) ∧ ((μ.1 65 19) = 0 → (((μ.1 65 7) ≤ (μ.1 65 12) → kr_c (d + 7) i_M_needs [.ref 65, .int 0, .int 6] μ (kr_bk (kr_Wp C_M_text (kr_c (d + 7)) Q) 73 [some (.ref 65), some (.int a1)] [])) ∧ (¬ ((μ.1 65 7) ≤ (μ.1 65 12)) → kr_c (d + 7) i_M_needs [.ref 65, .int 1, .int 6] μ (kr_bk (kr_Wp C_M_text (kr_c (d + 7)) Q) 73 [some (.ref 65), some (.int a1)] [])))))) ∧ ((μ.1 65 19) = 0 → (((μ.1 65 17) = 0 → ((¬ (μ.1 65 19) = 0 → (((μ.1 65 19) ≤ 0 → kr_c (d + 7) i_M_keepDraft [.ref 65] (kr_u μ 65 14 0) (kr_bk (kr_Wp C_M_text (kr_c (d + 7)) Q) 97 [some (.ref 65), some (.int a1)] [])) ∧ (¬ ((μ.1 65 19) ≤ 0) → Q (some (.int ((-10 : Int32) - (μ.1 65 20)))) (kr_u μ 65 14 0)))) ∧ ((μ.1 65 19) = 0 → (((μ.1 65 7) ≤ (μ.1 65 12) → kr_c (d + 7) i_M_needs [.ref 65, .int 0, .int 6] μ (kr_bk (kr_Wp C_M_text (kr_c (d + 7)) Q) 73 [some (.ref 65), some (.int a1)] [])) ∧ (¬ ((μ.1 65 7) ≤ (μ.1 65 12)) → kr_c (d + 7) i_M_needs [.ref 65, .int 1, .int 6] μ (kr_bk (kr_Wp C_M_text (kr_c (d + 7)) Q) 73 [some (.ref 65), some (.int a1)] [])))))) ∧ (¬ ((μ.1 65 17) = 0) → kr_c (d + 7) i_M_readLine [.ref 65] μ (kr_bk (kr_Wp C_M_text (kr_c (d + 7)) Q) 38 [some (.ref 65), some (.int a1)] [])))))) : kr_Wp C_M_text (kr_c (d + 7)) Q 20 [some (.ref 65), some (.int a1)] [] μ := (st_M_text (st_M_text (And.intro rfl (st_M_text (And.intro (fun z1x => (st_M_text (st_M_text (And.intro rfl (st_M_text (And.intro (fun z2x => (st_M_text (st_M_text (st_M_text (And.intro rfl (st_M_text (st_M_text (And.intro rfl (st_M_text (And.intro (fun z3x => (st_M_text (st_M_text (And.intro rfl (((h.1 z1x).1 z2x).1 z3x))))) (fun z3x => (st_M_text (st_M_text (st_M_text (And.intro rfl (st_M_text (st_M_text (((h.1 z1x).1 z2x).2 z3x)))))))))))))))))) (fun z2x => (st_M_text (st_M_text (st_M_text (And.intro rfl (st_M_text (st_M_text (And.intro rfl (st_M_text (And.intro (fun z4x => (st_M_text (st_M_text (st_M_text (And.intro rfl (((h.1 z1x).2 (Decidable.not_not.mp z2x)).1 z4x)))))) (fun z4x => (st_M_text (st_M_text (st_M_text (st_M_text (And.intro rfl (((h.1 z1x).2 (Decidable.not_not.mp z2x)).2 z4x))))))))))))))))))))))) (fun z1x => (st_M_text (st_M_text (And.intro rfl (st_M_text (And.intro (fun z5x => (st_M_text (st_M_text (And.intro rfl (st_M_text (And.intro (fun z6x => (st_M_text (st_M_text (st_M_text (And.intro rfl (st_M_text (st_M_text (And.intro rfl (st_M_text (And.intro (fun z7x => (st_M_text (st_M_text (And.intro rfl ((((h.2 (Decidable.not_not.mp z1x)).1 z5x).1 z6x).1 z7x))))) (fun z7x => (st_M_text (st_M_text (st_M_text (And.intro rfl (st_M_text (st_M_text ((((h.2 (Decidable.not_not.mp z1x)).1 z5x).1 z6x).2 z7x)))))))))))))))))) (fun z6x => (st_M_text (st_M_text (st_M_text (And.intro rfl (st_M_text (st_M_text (And.intro rfl (st_M_text (And.intro (fun z8x => (st_M_text (st_M_text (st_M_text (And.intro rfl ((((h.2 (Decidable.not_not.mp z1x)).1 z5x).2 (Decidable.not_not.mp z6x)).1 z8x)))))) (fun z8x => (st_M_text (st_M_text (st_M_text (st_M_text (And.intro rfl ((((h.2 (Decidable.not_not.mp z1x)).1 z5x).2 (Decidable.not_not.mp z6x)).2 z8x))))))))))))))))))))))) (fun z5x => (st_M_text (st_M_text (And.intro rfl ((h.2 (Decidable.not_not.mp z1x)).2 z5x))))))))))))))))
theorem v_M_text_16 {d : Nat} {Q : kr_Q} {μ : kr_M} {a1 : Int32} (h : kr_c (d + 7) i_M_next [.ref 65] μ (kr_bk (kr_Wp C_M_text (kr_c (d + 7)) Q) 20 [some (.ref 65), some (.int a1)] [])) : kr_Wp C_M_text (kr_c (d + 7)) Q 16 [some (.ref 65), some (.int a1)] [] μ := (st_M_text (st_M_text (And.intro rfl h)))
theorem v_M_text_97 {d : Nat} {Q : kr_Q} {μ : kr_M} {a1 : Int32} (h : Q (some (.int a1)) μ) : kr_Wp C_M_text (kr_c (d + 7)) Q 97 [some (.ref 65), some (.int a1)] [] μ := (st_M_text (st_M_text h))
theorem v_M_text_73 {d : Nat} {Q : kr_Q} {μ : kr_M} {a1 : Int32} (h : (((μ.1 65 19) ≤ 0 → kr_c (d + 7) i_M_keepDraft [.ref 65] (kr_u μ 65 14 0) (kr_bk (kr_Wp C_M_text (kr_c (d + 7)) Q) 97 [some (.ref 65), some (.int a1)] [])) ∧ (¬ ((μ.1 65 19) ≤ 0) → Q (some (.int ((-10 : Int32) - (μ.1 65 20)))) (kr_u μ 65 14 0)))) : kr_Wp C_M_text (kr_c (d + 7)) Q 73 [some (.ref 65), some (.int a1)] [] μ := (st_M_text (st_M_text (st_M_text (And.intro rfl (st_M_text (st_M_text (And.intro rfl (st_M_text (And.intro (fun z1x => (st_M_text (st_M_text (And.intro rfl (h.1 z1x))))) (fun z1x => (st_M_text (st_M_text (st_M_text (And.intro rfl (st_M_text (st_M_text (h.2 z1x)))))))))))))))))
theorem v_M_text_38 {d : Nat} {Q : kr_Q} {μ : kr_M} {a1 : Int32} (h : kr_Wp C_M_text (kr_c (d + 7)) Q 20 [some (.ref 65), some (.int (a1 + 1))] [] μ) : kr_Wp C_M_text (kr_c (d + 7)) Q 38 [some (.ref 65), some (.int a1)] [] μ := (st_M_text (st_M_text h))
section
variable {d : Nat} {Q : kr_Q} {μ : kr_M} {n : Nat} {b : Nat → Nat} {g t : Nat → Nat} {P D K : Nat}
abbrev kr_mX : List (Nat × Nat) := (65, 2) :: (65, 3) :: (65, 4) :: (65, 14) :: kr_mQ
abbrev kr_mY : List (Nat × Nat) := (65, 14) :: kr_mQ
theorem c_M_firstDraft (k : ∀ μ', kr_keep [69] kr_mQ μ μ' → kr_Mv μ' kp_D0 → kr_hx μ' 0 → μ'.1 65 15 = μ.1 65 15 → μ'.1 65 19 = μ.1 65 19 → Q none μ') : kr_c (d + 1) i_M_firstDraft [.ref 65] μ Q := by
  refine v_M_firstDraft ?_
  have loop : ∀ m i μ', i + m = 125 → kr_keep [69] [] μ μ' → (∀ j, j < i → μ'.1 69 j = 0) → kr_Wp C_M_firstDraft (kr_c d) Q 2 [some (.ref 65), some (.int (nI i))] [] μ' := by
    intro m
    induction m with
    | zero =>
      intro i μ' hi hk h0
      refine v_M_firstDraft_2 (br_t (nI_le (a := 125) (by omega) (by omega)) ?_)
      refine k _ (((((hk.wk (fun _ h => h) (by simp)).f _ (by decide)).f _ (by decide)).f _ (by decide)).f _ (by decide) |>.f _ (by decide)) ⟨fun j hj => h0 j (by omega), ⟨rfl, rfl, rfl⟩, fun j hj => absurd hj (Nat.not_lt_zero j), rfl⟩ ⟨by decide, Or.inl ⟨rfl, rfl⟩⟩ ?_ ?_
      · show μ'.1 65 15 = _
        rw [hk.2 65 15 (by decide) (by simp)]
      · show μ'.1 65 19 = _
        rw [hk.2 65 19 (by decide) (by simp)]
    | succ m ih =>
      intro i μ' hi hk h0
      refine v_M_firstDraft_2 (br_f (nI_ge (b := 125) (by omega) (by omega)) ⟨vp_in_nI (by omega) (by decide), ?_⟩)
      rw [kr_n1, nI_clamp (by omega)]
      refine ih (i + 1) _ (by omega) (hk.u _ _ (by decide)) (fun j hj => ?_)
      rw [kr_u_s]
      by_cases e : j = i
      · rw [e, kr_upd_s]
      · rw [kr_upd_n _ _ e]; exact h0 j (by omega)
  exact loop 125 0 μ rfl kr_keep.rf (fun j hj => absurd hj (Nat.not_lt_zero j))
theorem c_M_keepDraft {E : kp_D} (hv : kr_Mv μ E) (hK : E.2.1.2.2 ≤ 5) (k : ∀ μ', kr_keep [66, 67, 68] [(65, 2), (65, 3), (65, 4)] μ μ' → (∀ j, j < 125 → μ'.1 66 j = nI (E.1 j)) → (∀ j, 125 ≤ j → μ'.1 66 j = μ.1 66 j) → kr_PM μ' E.2.1.2.2 E.2.2.1 → μ'.1 65 2 = nI E.2.1.1 → μ'.1 65 3 = nI E.2.1.2.1 → kr_Mk μ' 0 → Q none μ') : kr_c (d + 1) i_M_keepDraft [.ref 65] μ Q := by
  obtain ⟨g, ⟨P, D, K⟩, t, hp⟩ := E
  obtain ⟨v1, ⟨v7, v8, v9⟩, v3, -⟩ := hv
  have hK : K ≤ 5 := hK
  refine v_M_keepDraft ?_
  have loop2 : ∀ m i μ', i + m = 15 → kr_keep [66, 68] [(65, 2), (65, 3), (65, 4)] μ μ' → (∀ j, j < 125 → μ'.1 66 j = nI (g j)) → (∀ j, 125 ≤ j → μ'.1 66 j = μ.1 66 j) → (μ'.1 65 2 = nI P ∧ μ'.1 65 3 = nI D ∧ μ'.1 65 4 = nI K) → (∀ j, j < i → μ'.1 68 j = μ.1 70 j) → kr_Wp C_M_keepDraft (kr_c d) Q 52 [some (.ref 65), some (.int (nI i))] [] μ' := by
    intro m
    induction m with
    | zero =>
      intro i μ' hi hk h66 h66b h65 h68
      refine v_M_keepDraft_52 (br_t (nI_le (a := 15) (by omega) (by omega)) ?_)
      refine k _ (((hk.wk (by decide) (by decide)).u _ _ (by decide)).u _ _ (by decide)) h66 h66b ⟨h65.2.2, fun j hj => ?_⟩ h65.1 h65.2.1 (fun q hq => ?_)
      · show μ'.1 68 j = _
        have hj : j < 3 * K := hj
        rw [h68 j (by omega)]
        exact v3 j hj
      · rcases (by omega : q = 0 ∨ q = 1) with rfl | rfl <;> rfl
    | succ m ih =>
      intro i μ' hi hk h66 h66b h65 h68
      refine v_M_keepDraft_52 (br_f (nI_ge (b := 15) (by omega) (by omega)) ⟨vp_in_nI (by omega) (by decide), vp_in_nI (by omega) (by decide), ?_⟩)
      rw [kr_n1, nI_clamp (by omega)]
      refine ih (i + 1) _ (by omega) (hk.u _ _ (by decide)) h66 h66b h65 (fun j hj => ?_)
      rw [kr_u_s, hk.row (o := 70) (by decide) (by decide)]
      by_cases e : j = i
      · rw [e, kr_upd_s]
      · rw [kr_upd_n _ _ e]; exact h68 j (by omega)
  have loop1 : ∀ m i μ', i + m = 125 → kr_keep [66] [] μ μ' → (∀ j, j < i → μ'.1 66 j = nI (g j)) → (∀ j, 125 ≤ j → μ'.1 66 j = μ.1 66 j) → kr_Wp C_M_keepDraft (kr_c d) Q 2 [some (.ref 65), some (.int (nI i))] [] μ' := by
    intro m
    induction m with
    | zero =>
      intro i μ' hi hk h66 h66b
      refine v_M_keepDraft_2 (br_t (nI_le (a := 125) (by omega) (by omega)) ?_)
      have e : ∀ j, μ'.1 65 j = μ.1 65 j := fun j => hk.2 65 j (by decide) (by simp)
      refine loop2 15 0 _ rfl (((hk.wk (by decide) (by simp)).f _ (by decide)).f _ (by decide) |>.f _ (by decide)) (fun j hj => h66 j (by omega)) h66b ⟨?_, ?_, ?_⟩ (fun j hj => absurd hj (Nat.not_lt_zero j))
      · show μ'.1 65 7 = _
        rw [e]; exact v7
      · show μ'.1 65 8 = _
        rw [e]; exact v8
      · show μ'.1 65 9 = _
        rw [e]; exact v9
    | succ m ih =>
      intro i μ' hi hk h66 h66b
      refine v_M_keepDraft_2 (br_f (nI_ge (b := 125) (by omega) (by omega)) ⟨vp_in_nI (by omega) (by decide), vp_in_nI (by omega) (by decide), ?_⟩)
      rw [kr_n1, nI_clamp (by omega), hk.row (o := 69) (by decide) (by simp), v1 i (by omega)]
      refine ih (i + 1) _ (by omega) (hk.u _ _ (by decide)) (fun j hj => ?_) (fun j hj => ?_)
      · rw [kr_u_s]
        by_cases e : j = i
        · rw [e, kr_upd_s]
        · rw [kr_upd_n _ _ e]; exact h66 j (by omega)
      · rw [kr_u_s, kr_upd_n _ _ (by omega)]; exact h66b j hj
  exact loop1 125 0 μ rfl kr_keep.rf (fun j hj => absurd hj (Nat.not_lt_zero j)) (fun _ _ => rfl)
theorem c_M_text (hT : kr_TM μ n b) (hw : kx_tw n b) (k1 : ∀ m E, kp_tx n b 401 0 kp_D0 0 = .inr (m, E) → kr_wf E.1 E.2.1.1 E.2.1.2.1 E.2.1.2.2 E.2.2.1 → ∀ μ', kr_keep [66, 67, 68, 69, 70] kr_mX μ μ' → (∀ j, j < 125 → μ'.1 66 j = nI (E.1 j)) → (∀ j, 125 ≤ j → μ'.1 66 j = μ.1 66 j) → kr_PM μ' E.2.1.2.2 E.2.2.1 → μ'.1 65 2 = nI E.2.1.1 → μ'.1 65 3 = nI E.2.1.2.1 → kr_Mk μ' 0 → kr_TM μ' 0 b → μ'.1 65 19 = nI 0 → Q (some (.int (nI m))) μ') (k2 : ∀ c w, kp_tx n b 401 0 kp_D0 0 = .inl (c, w) → 1 ≤ c → c ≤ 6 → ∀ μ', kr_keep [69, 70] kr_mY μ μ' → kr_TM μ' 0 b → μ'.1 65 19 = nI c → Q (some (.int (-10 - nI w))) μ') : kr_c (d + 8) i_M_text [.ref 65] μ Q := by
  have h400 := hw.1
  -- an end with a fault
  have bad : ∀ c w (m : Int32) μ', kp_tx n b 401 0 kp_D0 0 = .inl (c, w) → kr_keep [69, 70] kr_mQ μ μ' → kr_MS μ' n b (.inl (c, w)) → (¬ μ'.1 65 19 = 0) ∧ (¬ μ'.1 65 19 ≤ 0) ∧ Q (some (.int (-10 - μ'.1 65 20))) (kr_u μ' 65 14 0) := by
    intro c w m μ' e hk hm
    obtain ⟨⟨c1, c6⟩, m1, m2⟩ := hm
    refine ⟨?_, ?_, ?_⟩
    · rw [m1, kr_eq0 (by omega)]; omega
    · rw [m1, show (0 : Int32) = nI 0 from rfl, nI_leI (by omega) (by decide)]; omega
    · rw [m2]
      exact k2 c w e c1 c6 _ ((hk.wk (by decide) (by decide)).f _ (by decide)) ⟨rfl, fun j hj => absurd hj (Nat.not_lt_zero j)⟩ m1
  have bad20 : ∀ c w (m : Int32) μ', kp_tx n b 401 0 kp_D0 0 = .inl (c, w) → kr_keep [69, 70] kr_mQ μ μ' → kr_MS μ' n b (.inl (c, w)) → kr_Wp C_M_text (kr_c (d + 7)) Q 20 [some (.ref 65), some (.int m)] [] μ' := by
    intro c w m μ' e hk hm
    obtain ⟨b1, b2, b3⟩ := bad c w m μ' e hk hm
    exact v_M_text_20 ⟨fun _ => ⟨fun _ => br_f b2 b3, fun z => absurd z b1⟩, fun z => absurd z b1⟩
  have bad73 : ∀ c w (m : Int32) μ', kp_tx n b 401 0 kp_D0 0 = .inl (c, w) → kr_keep [69, 70] kr_mQ μ μ' → kr_MS μ' n b (.inl (c, w)) → kr_Wp C_M_text (kr_c (d + 7)) Q 73 [some (.ref 65), some (.int m)] [] μ' := by
    intro c w m μ' e hk hm
    obtain ⟨b1, b2, b3⟩ := bad c w m μ' e hk hm
    exact v_M_text_73 (br_f b2 b3)
  have loop : ∀ F p E m μ', n < p + F → p ≤ n → kp_pw E → kp_tx n b F p E m = kp_tx n b 401 0 kp_D0 0 → kr_keep [69, 70] kr_mQ μ μ' → kr_MS μ' n b (kt_nx n b p) → kr_Mv μ' E → kr_hx μ' (kp_hi E) → kr_Wp C_M_text (kr_c (d + 7)) Q 20 [some (.ref 65), some (.int (nI m))] [] μ' := by
    intro F
    induction F with
    | zero => intro p E m μ' h1 h2; omega
    | succ F ih =>
      intro p E m μ' hF hpn hpw he hk hS hv hh
      have he : kp_bd (kt_nx n b p) (fun s => if kt_k n b s = 0 then (if kp_hi E < E.2.1.1 then .inr (m, E) else .inl (6, n)) else kp_bd (kp_ln n b s E) (fun r => kp_tx n b F r.1 r.2 (m + 1))) = kp_tx n b 401 0 kp_D0 0 := he
      cases hx : kt_nx n b p with
      | inl q =>
        obtain ⟨c, w⟩ := q
        rw [hx] at he hS
        exact bad20 c w _ μ' he.symm hk hS
      | inr s =>
        obtain ⟨ps, sn, hok⟩ := kt_nx_r hpn hx
        rw [hx] at he hS
        have he : (if kt_k n b s = 0 then (if kp_hi E < E.2.1.1 then .inr (m, E) else .inl (6, n)) else kp_bd (kp_ln n b s E) (fun r => kp_tx n b F r.1 r.2 (m + 1))) = kp_tx n b 401 0 kp_D0 0 := he
        have hS' := hS
        obtain ⟨a0, a1, a2, a3, a4, a5⟩ := hS
        have hkb := kr_kb (n := n) (b := b) (s := s)
        refine v_M_text_20 ⟨fun z => absurd a1 z, fun _ => ?_⟩
        rw [a3, kr_eq0 (by omega)]
        refine ⟨fun c0 => ?_, fun c0 => ?_⟩
        · rw [if_pos c0] at he
          have esn : s = n := by
            apply Decidable.byContradiction
            intro z
            unfold kt_k at c0
            rw [if_neg (by omega)] at c0
            split at c0
            · omega
            · split at c0
              · omega
              · split at c0 <;> omega
          refine ⟨fun z => absurd a1 z, fun _ => ?_⟩
          have hP := hpw.2.1
          have hP9 := hpw.2.2.1
          have hcmp : (μ'.1 65 7 ≤ μ'.1 65 12) ↔ E.2.1.1 ≤ kp_hi E := by
            rw [hv.2.1.1]
            rcases hh.2 with ⟨h1, h2⟩ | h1
            · rw [h1, h2]
              refine ⟨fun z => ?_, fun z => absurd z (by omega)⟩
              exfalso
              have : (nI E.2.1.1) ≤ nI 0 := Int32.le_trans z (by decide)
              rw [nI_leI (by omega) (by decide)] at this
              omega
            · have := hh.1
              rw [h1, nI_leI (by omega) (by omega)]
          rw [hcmp]
          refine ⟨fun c6 => ?_, fun c6 => c_M_needs1 (d := d + 6) (v_M_text_73 (br_t ?_ ?_))⟩
          · rw [if_neg (by omega)] at he
            refine c_M_needs0 (d := d + 6) (n := n) (b := b) (s := s) (c := 6) a1 a2 (by decide) (fun μ2 hk2 hS2 => bad73 6 n _ μ2 he.symm (hk.tr (hk2.wk (by decide) (by decide))) ?_)
            rw [esn] at hS2
            exact hS2
          · rw [a1]; decide
          · rw [if_pos (by omega)] at he
            have hwf := kp_wf hpw (by omega)
            have q2 : kr_keep [66, 67, 68, 69, 70] kr_mX μ (kr_u μ' 65 14 0) := (hk.wk (by decide) (by decide)).f _ (by decide)
            have u1 : kr_keep [] [(65, 14)] μ' (kr_u μ' 65 14 0) := kr_keep.rf.f _ (by decide)
            refine c_M_keepDraft (d := d + 6) (hv.kp u1 (by decide)) hwf.1.2.2.2.2 (fun μ3 hk3 h66 h66b hPM h2 h3 hMk => v_M_text_97 (k1 m E he.symm hwf μ3 (q2.tr (hk3.wk (by decide) (by decide))) h66 (fun j hj => ?_) hPM h2 h3 hMk ⟨?_, fun j hj => absurd hj (Nat.not_lt_zero j)⟩ ?_))
            · rw [h66b j hj]
              show μ'.1 66 j = _
              rw [hk.row (o := 66) (by decide) (by decide)]
            · rw [hk3.2 65 14 (by decide) (by decide)]; rfl
            · rw [hk3.2 65 19 (by decide) (by decide)]
              show μ'.1 65 19 = _
              rw [a1]; rfl
        · rw [if_neg c0] at he
          refine c_M_readLine (d := d) hpw (hT.kp hk (by decide)) hw hS' c0 hv hh (fun μ2 X V hk2 hrel hS2 hv2 hh2 => v_M_text_38 ?_)
          rw [kr_n1]
          have q2 : kr_keep [69, 70] kr_mQ μ μ2 := hk.tr (hk2.wk (by decide) (by decide))
          cases hl : kp_ln n b s E with
          | inl q =>
            obtain ⟨c, w⟩ := q
            rw [hl] at he
            rw [hrel.1 c w hl] at hS2
            exact bad20 c w _ μ2 he.symm q2 hS2
          | inr r =>
            obtain ⟨p', E'⟩ := r
            rw [hl] at he
            obtain ⟨x1, x2⟩ := hrel.2 p' E' hl
            have hg := kp_ln_gt sn hok p' E' hl
            rw [x1] at hS2
            rw [← x2] at hv2 hh2
            exact ih p' E' (m + 1) μ2 (by omega) hg.2 (kp_ln_pw sn hok hpw hl) he q2 hS2 hv2 hh2
  refine v_M_text (c_M_firstDraft (d := d + 6) (fun μ1 hk1 hv1 hh1 e15 e19 => v_M_text_16 ?_))
  have q0 : kr_keep [69, 70] kr_mQ μ (kr_u (kr_u μ 65 19 0) 65 15 0) := (kr_keep.rf.f _ (by decide)).f _ (by decide)
  have q1 : kr_keep [69, 70] kr_mQ μ μ1 := q0.tr (hk1.wk (by decide) (by decide))
  refine c_M_next_p (d := d + 5) (p := 0) (hT.kp q1 (by decide)) hw (Nat.zero_le n) (by rw [e19]; rfl) (by rw [e15]; rfl) (fun μ2 hk2 hS2 => ?_)
  exact loop 401 0 kp_D0 0 μ2 (by omega) (Nat.zero_le n) kp_D0_pw rfl (q1.tr (hk2.wk (by decide) (by decide))) hS2 (hv1.kp hk2 (by decide)) (hh1.kp hk2 (by decide))
end
