/-! a run in the reference, all of it -/
theorem kx_rn_t {g : Nat → Nat} {ex q : Nat} (h : q ≤ 40) (h2 : g (67 + q) = 1) : kx_rn g ex q = true := by
  unfold kx_rn
  simp [h, h2]
theorem kx_rn_e (g : Nat → Nat) (q : Nat) : kx_rn g q q = true := by
  unfold kx_rn
  simp
theorem kx_rn_f {g : Nat → Nat} {ex q : Nat} (h : ¬ (q ≤ 40 ∧ g (67 + q) = 1)) (h2 : q ≠ ex) : kx_rn g ex q = false := by
  unfold kx_rn
  by_cases c : q ≤ 40
  · have : ¬ g (67 + q) = 1 := fun z => h ⟨c, z⟩
    simp [this, h2]
  · simp [c, h2]
theorem c_M_runs {d : Nat} {Q : kr_Q} {μ : kr_M} {g t : Nat → Nat} {K ex n : Nat} (hM : kr_Mg μ g) (hg : kx_gb g) (hr : ∀ q, q < 41 → g (67 + q) ≤ 1) (hP : kr_PM μ K t) (hK5 : K ≤ 5) (ht : ∀ p, p < K → t (3 * p) < 9 ∧ t (3 * p + 1) < 9 ∧ t (3 * p + 2) ≤ 40) (hex : μ.1 65 29 = nI ex) (hx : ex < 1000) (hn : n ≤ 60) (k : ∀ μ', kr_keep [72, 73, 74, 75, 76, 77, 78] [(65, 28)] μ μ' → kr_RM μ' (g 0) K (kx_run g t K ex n) → Q none μ') : kr_c (d + 5) i_M_runs [.ref 65, .int (nI n)] μ Q := by
  refine v_M_runs (c_M_startRun hM hg.1 hP hK5 (fun p hp => (ht p hp).1) ex (fun μ1 hk1 hr1 => v_M_runs_4 ?_))
  have hJ := kx_run_J (g := g) (t := t) (K := K) (ex := ex) hg (fun p hp => ⟨(ht p hp).1, (ht p hp).2.1⟩)
  have main : ∀ i, i ≤ n → ∀ μ', kr_keep [72, 73, 74, 75, 76, 77, 78] [(65, 28)] μ μ' → kr_RM μ' (g 0) K (kx_run g t K ex i) → kr_Wp C_M_runs (kr_c (d + 4)) Q 6 [some (.ref 65), some (.int (nI n)), some (.int (nI (i + 1))), none] [] μ' := by
    refine kr_up (I := fun i => ∀ μ', kr_keep [72, 73, 74, 75, 76, 77, 78] [(65, 28)] μ μ' → kr_RM μ' (g 0) K (kx_run g t K ex i) → kr_Wp C_M_runs (kr_c (d + 4)) Q 6 [some (.ref 65), some (.int (nI n)), some (.int (nI (i + 1))), none] [] μ') n ?_ ?_
    · intro μ' hk hR
      exact v_M_runs_6 (br_t (nI_lt (Nat.lt_succ_self n) (by omega)) (k μ' hk hR))
    · intro i hi ih μ' hk hR
      have hM' := hM.kp hk (by decide)
      have hP' := hP.kp hk (by decide)
      have e29 : μ'.1 65 29 = nI ex := by rw [hk.2 65 29 (by decide) (by decide)]; exact hex
      have hj := hJ i (by omega)
      have hKi : K * i ≤ 5 * 60 := Nat.mul_le_mul hK5 (by omega)
      have people : ∀ R0, kx_J false g t K (K * i) R0 → R0 = (if kx_rn g ex (i + 1) then kx_lo K (kx_ra g (kx_run g t K ex i)) else kx_run g t K ex i) → ∀ μ', kr_keep [72, 73, 74, 75, 76, 77, 78] [(65, 28)] μ μ' → kr_RM μ' (g 0) K R0 → kr_Wp C_M_runs (kr_c (d + 4)) Q 44 [some (.ref 65), some (.int (nI n)), some (.int (nI (i + 1))), some (.int (nI 0))] [] μ' := by
        intro R0 hJ0 hR0 μ2 hk2 hRM2
        have inn : ∀ p, p ≤ K → ∀ μ', kr_keep [72, 73, 74, 75, 76, 77, 78] [(65, 28)] μ μ' → kr_RM μ' (g 0) K (kx_ps g t K (i + 1) p R0) → kr_Wp C_M_runs (kr_c (d + 4)) Q 44 [some (.ref 65), some (.int (nI n)), some (.int (nI (i + 1))), some (.int (nI p))] [] μ' := by
          refine kr_up (I := fun p => ∀ μ', kr_keep [72, 73, 74, 75, 76, 77, 78] [(65, 28)] μ μ' → kr_RM μ' (g 0) K (kx_ps g t K (i + 1) p R0) → kr_Wp C_M_runs (kr_c (d + 4)) Q 44 [some (.ref 65), some (.int (nI n)), some (.int (nI (i + 1))), some (.int (nI p))] [] μ') K ?_ ?_
          · intro μ3 hk3 hR3
            refine v_M_runs_44 (br_t ?_ ?_)
            · rw [(hP.kp hk3 (by decide)).1]; exact Int32.le_refl _
            · rw [kr_n1]
              refine ih μ3 hk3 ?_
              show kr_RM μ3 (g 0) K (kx_ps g t K (i + 1) K (if kx_rn g ex (i + 1) then kx_lo K (kx_ra g (kx_run g t K ex i)) else kx_run g t K ex i))
              rw [← hR0]
              exact hR3
          · intro p hp ihp μ3 hk3 hR3
            have hps := hJ0.ps hg (q := i + 1) (by omega) (fun p hp => (ht p hp).2.1) p (by omega)
            refine v_M_runs_44 (br_f ?_ (c_M_goesOne (hM.kp hk3 (by decide)) hg (hP.kp hk3 (by decide)) hK5 ht hR3 hps (by omega) hp (Nat.succ_pos i) (by omega) (fun μ4 hk4 hR4 => v_M_runs_58 ?_)))
            · rw [(hP.kp hk3 (by decide)).1]
              exact nI_ge hp (by omega)
            · rw [kr_n1]
              exact ihp μ4 (hk3.tr hk4) hR4
        exact inn 0 (Nat.zero_le _) μ2 hk2 hRM2
      have wet : kx_rn g ex (i + 1) = true → kr_c (d + 4) i_M_rains [.ref 65] μ' (kr_bk (kr_Wp C_M_runs (kr_c (d + 4)) Q) 42 [some (.ref 65), some (.int (nI n)), some (.int (nI (i + 1))), none] []) := by
        intro c
        refine c_M_rains hM' hg hP'.1 hK5 hR hj (fun μ2 hk2 hR2 => v_M_runs_42 ?_)
        refine people _ (hj.ra.lo hg.1) ?_ μ2 (hk.tr (hk2.wk (by decide) (by decide))) hR2
        rw [if_pos c]
      have dry : kx_rn g ex (i + 1) = false → kr_Wp C_M_runs (kr_c (d + 4)) Q 44 [some (.ref 65), some (.int (nI n)), some (.int (nI (i + 1))), some (.int 0)] [] μ' := by
        intro c
        refine people _ hj ?_ μ' hk hR
        rw [c]
        rfl
      refine v_M_runs_6 (br_f ?_ ?_)
      · have h1 := @nI_ge (i + 1) n
        exact fun z => absurd z (Int32.not_lt.mpr (nI_le (by omega) (by omega)))
      · rw [e29, nI_eq (by omega) (by omega), show (40 : Int32) = nI 40 from rfl, show (67 : Int32) = nI 67 from rfl, nI_add, nI_clamp (by omega)]
        refine ⟨fun c => ⟨fun c2 => dry (kx_rn_f (fun z => ?_) c2), fun c2 => wet ?_⟩, fun c => ?_⟩
        · exact absurd c (Int32.not_lt.mpr (nI_le z.1 (by omega)))
        · rw [← c2]; exact kx_rn_e _ _
        · have c40 : i + 1 ≤ 40 := by
            apply Decidable.byContradiction
            intro z
            exact c (nI_lt (by omega) (by omega))
          have h1 := hr (i + 1) (by omega)
          refine ⟨vp_in_nI (by omega) (by decide), ?_⟩
          rw [hM' _ (by omega), show (1 : Int32) = nI 1 from rfl, nI_eq (b := 1) (by omega) (by decide)]
          refine ⟨fun c2 => wet (kx_rn_t c40 c2), fun c2 => ⟨fun c3 => dry (kx_rn_f (fun z => c2 z.2) c3), fun c3 => wet ?_⟩⟩
          rw [← c3]; exact kx_rn_e _ _
  exact main 0 (Nat.zero_le _) μ1 (hk1.wk (by decide) (by decide)) hr1
