/-! a run in the class, quarter by quarter -/
theorem c_K_step {d : Nat} {Q : kr_Q} {μ : kr_M} {g t : Nat → Nat} {K n p q : Nat} {R : kx_R} (hW : kr_Wy μ g) (hg : kx_gb g) (hP : kr_PC μ K t) (hK5 : K ≤ 5) (ht : ∀ p, p < K → t (3 * p) < 9 ∧ t (3 * p + 1) < 9 ∧ t (3 * p + 2) ≤ 40) (hc : kx_cache μ g) (hR : kr_RC μ g K R) (hJ : kx_J false g t K n R) (hn : n < 1000) (hp : p < K) (hq : q ≤ 60) (k : ∀ μ', kr_keep [25, 26, 28, 29, 30, 31, 32, 33] [] μ μ' → kx_cache μ' g → kr_RC μ' g K (kx_st g t K p q R) → Q none μ') : kr_c (d + 5) i_K_step [.ref 27, .int (nI p), .int (nI q)] μ Q := by
  obtain ⟨hN, h61, hlb⟩ := id hg
  obtain ⟨t0, t1, t2⟩ := ht p hp
  obtain ⟨p1, p2, p3, p4⟩ := hR.2 p hp
  have hA := (hJ.weak.lo_pre hN p hp).1
  have vp : vp_in (nI p) 5 := vp_in_nI (by omega) (by decide)
  have vp12 : vp_in (nI p) 12 := vp_in_nI (by omega) (by decide)
  unfold kx_st at k
  refine v_K_step ⟨vp, ?_⟩
  rw [nI_clamp (by omega), p1, (hP.k hp).2.1, (hP.k hp).2.2, show (100 : Int32) = nI 100 from rfl, show (0 : Int32) = nI 0 from rfl, kx_pw_lt hA (by decide), kx_pw_lt hA (by decide), kx_pw_eq hA (by omega), nI_leI (by omega) (by omega)]
  have id' := k μ kr_keep.rf hc
  by_cases c0 : R.2.1 p = 1000
  · rw [if_pos c0] at id'
    exact ⟨fun _ => ⟨fun _ => id' hR, fun z => absurd (Or.inl c0) z⟩, fun z => absurd (Or.inl c0) z⟩
  rw [if_neg c0] at id' k
  have epw : kx_pw (R.2.1 p) = nI (R.2.1 p) := if_neg c0
  by_cases c1 : 100 ≤ R.2.1 p
  · refine ⟨fun z => by omega, fun _ => ?_⟩
    rw [if_pos c1] at k
    rw [epw, pk_sub c1]
    have e : (if R.2.2.2.1 p = 1 then kx_lo K (kx_ar g t p q R) else kx_tg p R) = (if R.2.2.2.1 p = 1 then kx_lo K (kx_ar g t p q R) else kx_tg p R) := rfl
    refine c_K_goOn hg hP hK5 hR hJ hp hq c0 c1 t1 (fun μ1 hk1 hr1 => v_K_step_23 (k μ1 (hk1.wk (by decide) (by decide)) (hc.kp hk1 (by decide)) hr1))
  · rw [if_neg c1] at k id'
    refine ⟨fun _ => ⟨fun z => by omega, fun _ => ⟨vp, ?_⟩⟩, fun z => absurd (Or.inr (by omega)) z⟩
    by_cases c2 : R.2.1 p = t (3 * p + 1) ∨ q ≤ t (3 * p + 2)
    · rw [if_pos c2] at id'
      refine ⟨fun _ => id' hR, fun z => ⟨vp, fun _ => id' hR, fun z2 => absurd (c2.resolve_left z) z2⟩⟩
    · rw [if_neg c2] at k
      refine ⟨fun z => absurd (Or.inl z) c2, fun _ => ⟨vp, fun z => absurd (Or.inr z) c2, fun _ => ?_⟩⟩
      rw [epw]
      exact c_K_setOut hW hg hP hK5 hc hR hJ hn hp (hJ.pt hp c0 c1).1 t1 (fun μ1 hk1 hc1 hr1 => v_K_step_62 (k μ1 (hk1.wk (by decide) (by decide)) hc1 hr1))
theorem c_K_run {d : Nat} {Q : kr_Q} {μ : kr_M} {g t : Nat → Nat} {K ex n : Nat} (hW : kr_Wy μ g) (hg : kx_gb g) (h7 : μ.1 1 7 = nI (kr_bm (g 0) (fun l => kr_gk g l 4 == 1))) (hB : μ.2 1 = lN (kx_rb g)) (hP : kr_PC μ K t) (hK5 : K ≤ 5) (ht : ∀ p, p < K → t (3 * p) < 9 ∧ t (3 * p + 1) < 9 ∧ t (3 * p + 2) ≤ 40) (hx : ex < 1000) (hn : n ≤ 60) (k : ∀ μ', kr_keep [25, 26, 28, 29, 30, 31, 32, 33] [] μ μ' → kr_RC μ' g K (kx_run g t K ex n) → Q none μ') : kr_c (d + 6) i_K_run [.ref 27, .int (nI n), .int (nI ex)] μ Q := by
  obtain ⟨hN, h61, hlb⟩ := id hg
  refine v_K_run (c_Y_beginAnew g (fun μ1 hk1 hc1 => v_K_run_7 ?_))
  have hk1 : kr_keep [25, 26, 28, 29, 30, 31, 32, 33] [] μ μ1 := hk1.wk (by decide) (by decide)
  have hJ := kx_run_J (g := g) (t := t) (K := K) (ex := ex) hg (fun p hp => ⟨(ht p hp).1, (ht p hp).2.1⟩)
  have main : ∀ i, i ≤ n → ∀ μ', kr_keep [25, 26, 28, 29, 30, 31, 32, 33] [] μ μ' → kx_cache μ' g → kr_RC μ' g K (kx_run g t K ex i) → kr_Wp C_K_run (kr_c (d + 5)) Q 78 [some (.ref 27), some (.int (nI n)), some (.int (nI ex)), some (.int (nI (i + 1))), none] [] μ' := by
    refine kr_up (I := fun i => ∀ μ', kr_keep [25, 26, 28, 29, 30, 31, 32, 33] [] μ μ' → kx_cache μ' g → kr_RC μ' g K (kx_run g t K ex i) → kr_Wp C_K_run (kr_c (d + 5)) Q 78 [some (.ref 27), some (.int (nI n)), some (.int (nI ex)), some (.int (nI (i + 1))), none] [] μ') n ?_ ?_
    · intro μ' hk hc hR
      exact v_K_run_78 (br_t (nI_lt (Nat.lt_succ_self n) (by omega)) (k μ' hk hR))
    · intro i hi ih μ' hk hc hR
      have hW' := hW.kp hk (by decide)
      have hP' := hP.kp hk (by decide)
      have hj := hJ i (by omega)
      have hKi : K * i ≤ 5 * 60 := Nat.mul_le_mul hK5 (by omega)
      have people : ∀ R0, kx_J false g t K (K * i) R0 → R0 = (if kx_rn g ex (i + 1) then kx_lo K (kx_ra g (kx_run g t K ex i)) else kx_run g t K ex i) → ∀ μ', kr_keep [25, 26, 28, 29, 30, 31, 32, 33] [] μ μ' → kx_cache μ' g → kr_RC μ' g K R0 → kr_Wp C_K_run (kr_c (d + 5)) Q 106 [some (.ref 27), some (.int (nI n)), some (.int (nI ex)), some (.int (nI (i + 1))), some (.int (nI 0))] [] μ' := by
        intro R0 hJ0 hR0 μ2 hk2 hc2 hRM2
        have inn : ∀ p, p ≤ K → ∀ μ', kr_keep [25, 26, 28, 29, 30, 31, 32, 33] [] μ μ' → kx_cache μ' g → kr_RC μ' g K (kx_ps g t K (i + 1) p R0) → kr_Wp C_K_run (kr_c (d + 5)) Q 106 [some (.ref 27), some (.int (nI n)), some (.int (nI ex)), some (.int (nI (i + 1))), some (.int (nI p))] [] μ' := by
          refine kr_up (I := fun p => ∀ μ', kr_keep [25, 26, 28, 29, 30, 31, 32, 33] [] μ μ' → kx_cache μ' g → kr_RC μ' g K (kx_ps g t K (i + 1) p R0) → kr_Wp C_K_run (kr_c (d + 5)) Q 106 [some (.ref 27), some (.int (nI n)), some (.int (nI ex)), some (.int (nI (i + 1))), some (.int (nI p))] [] μ') K ?_ ?_
          · intro μ3 hk3 hc3 hR3
            refine v_K_run_106 (br_t ?_ ?_)
            · rw [(hP.kp hk3 (by decide)).1]; exact Int32.le_refl _
            · rw [kr_n1]
              refine ih μ3 hk3 hc3 ?_
              show kr_RC μ3 g K (kx_ps g t K (i + 1) K (if kx_rn g ex (i + 1) then kx_lo K (kx_ra g (kx_run g t K ex i)) else kx_run g t K ex i))
              rw [← hR0]
              exact hR3
          · intro p hp ihp μ3 hk3 hc3 hR3
            have hps := hJ0.ps hg (q := i + 1) (by omega) (fun p hp => (ht p hp).2.1) p (by omega)
            refine v_K_run_106 (br_f ?_ (c_K_step (hW.kp hk3 (by decide)) hg (hP.kp hk3 (by decide)) hK5 ht hc3 hR3 hps (by omega) hp (by omega) (fun μ4 hk4 hc4 hR4 => v_K_run_125 ?_)))
            · rw [(hP.kp hk3 (by decide)).1]
              exact nI_ge hp (by omega)
            · rw [kr_n1]
              exact ihp μ4 (hk3.tr hk4) hc4 hR4
        exact inn 0 (Nat.zero_le _) μ2 hk2 hc2 hRM2
      have wet : kx_rn g ex (i + 1) = true → kr_c (d + 5) i_K_fallOfRain [.ref 27] μ' (kr_bk (kr_Wp C_K_run (kr_c (d + 5)) Q) 103 [some (.ref 27), some (.int (nI n)), some (.int (nI ex)), some (.int (nI (i + 1))), none] []) := by
        intro c
        refine c_K_fallOfRain hW' hg (by rw [hk.2 1 7 (by decide) (by decide)]; exact h7) hP' hK5 hR hj (fun μ2 hk2 hR2 => v_K_run_103 ?_)
        refine people _ (hj.ra.lo hg.1) ?_ μ2 (hk.tr (hk2.wk (by decide) (by decide))) (hc.kp hk2 (by decide)) hR2
        rw [if_pos c]
      have dry : kx_rn g ex (i + 1) = false → kr_Wp C_K_run (kr_c (d + 5)) Q 106 [some (.ref 27), some (.int (nI n)), some (.int (nI ex)), some (.int (nI (i + 1))), some (.int 0)] [] μ' := by
        intro c
        refine people _ hj ?_ μ' hk hc hR
        rw [c]
        rfl
      refine v_K_run_78 (br_f ?_ ?_)
      · exact Int32.not_lt.mpr (nI_le (by omega) (by omega))
      · refine c_R_rainsIn (d := d + 3) (by rw [hk.1]; exact hB) (by omega) (v_K_run_91 ?_)
        rw [nI_eq (by omega) (by omega)]
        by_cases c : 1 ≤ i + 1 ∧ i + 1 ≤ 40 ∧ g (67 + (i + 1)) = 1
        · rw [if_pos c]
          exact ⟨fun _ => wet (kx_rn_t c.2.1 c.2.2), fun z => absurd z (by decide)⟩
        · rw [if_neg c]
          refine ⟨fun z => absurd rfl z, fun _ => ⟨fun c3 => dry (kx_rn_f (fun z => c ⟨by omega, z.1, z.2⟩) c3), fun c3 => wet ?_⟩⟩
          rw [← c3]
          exact kx_rn_e _ _
  have zero : ∀ i, i ≤ 5 → ∀ μ', kr_keep [25, 26, 28, 29, 30, 31, 32, 33] [] μ μ' → kx_cache μ' g → (∀ l, l < g 0 → μ'.1 28 l = nI (kr_gk g l 3)) → (∀ p, p < K → μ'.1 29 p = nI (t (3 * p))) → (∀ p, p < i → μ'.1 32 p = 0 ∧ μ'.1 33 p = 0) → kr_Wp C_K_run (kr_c (d + 5)) Q 44 [some (.ref 27), some (.int (nI n)), some (.int (nI ex)), some (.int (nI i)), none] [] μ' := by
    refine kr_up (I := fun i => ∀ μ', kr_keep [25, 26, 28, 29, 30, 31, 32, 33] [] μ μ' → kx_cache μ' g → (∀ l, l < g 0 → μ'.1 28 l = nI (kr_gk g l 3)) → (∀ p, p < K → μ'.1 29 p = nI (t (3 * p))) → (∀ p, p < i → μ'.1 32 p = 0 ∧ μ'.1 33 p = 0) → kr_Wp C_K_run (kr_c (d + 5)) Q 44 [some (.ref 27), some (.int (nI n)), some (.int (nI ex)), some (.int (nI i)), none] [] μ') 5 ?_ ?_
    · intro μ' hk hc e28 e29 e0
      refine v_K_run_44 (br_t (Int32.le_refl _) (main 0 (Nat.zero_le _) μ' hk hc ⟨e28, fun p hp => ⟨?_, fun z _ => ?_, (e0 p (by omega)).1, (e0 p (by omega)).2⟩⟩))
      · have := (ht p hp).1
        rw [e29 p hp]
        exact (if_neg (show ¬ t (3 * p) = 1000 by omega)).symm
      · exfalso
        have := (ht p hp).1
        have z : 100 ≤ t (3 * p) := z
        omega
    · intro i hi ih μ' hk hc e28 e29 e0
      have vi : vp_in (nI i) 5 := vp_in_nI hi (by decide)
      refine v_K_run_44 (br_f ?_ ⟨vi, vi, vi, ?_⟩)
      · rw [show (5 : Int32) = nI 5 from rfl]; exact nI_ge hi (by decide)
      rw [nI_clamp (by omega), kr_n1]
      refine ih _ (((hk.u _ _ (by decide)).u _ _ (by decide)).u _ _ (by decide)) ?_ (fun l hl => ?_) (fun p hp => ?_) (fun p hp => ?_)
      · unfold kx_cache
        rw [kr_u_n _ _ _ (by decide), kr_u_n _ _ _ (by decide), kr_u_n _ _ _ (by decide), kr_u_n _ _ _ (by decide), kr_u_n _ _ _ (by decide), kr_u_n _ _ _ (by decide)]
        exact hc
      · rw [kr_u_n _ _ _ (by decide), kr_u_n _ _ _ (by decide), kr_u_n _ _ _ (by decide)]; exact e28 l hl
      · rw [kr_u_n _ _ _ (by decide), kr_u_n _ _ _ (by decide), kr_u_n _ _ _ (by decide)]; exact e29 p hp
      · rw [kr_u_n (o := 33) _ _ _ (by decide), kr_u_s, kr_u_n (o := 30) _ _ _ (by decide), kr_u_s, kr_u_n (o := 32) _ _ _ (by decide), kr_u_n (o := 30) _ _ _ (by decide)]
        by_cases e : p = i
        · rw [e, kr_upd_s, kr_upd_s]
          exact ⟨rfl, rfl⟩
        · rw [kr_upd_n _ _ e, kr_upd_n _ _ e]
          exact e0 p (by omega)
  refine zero 0 (Nat.zero_le _) _ ((hk1.ur _ (by decide)).ur _ (by decide)) ?_ (fun l hl => ?_) (fun p hp => ?_) (fun p hp => absurd hp (Nat.not_lt_zero p))
  · unfold kx_cache
    rw [kr_ur_n _ _ (by decide), kr_ur_n _ _ (by decide), kr_ur_n _ _ (by decide), kr_ur_n _ _ (by decide)]
    exact hc1
  · rw [kr_ur_n _ _ (by decide), kr_ur_s, sb_cpy0 (by omega), hk1.row (o := 5) (by decide) (by decide)]
    exact (hW.2 l hl).2.2.2
  · rw [kr_ur_s, sb_cpy0 (by omega), hk1.row (o := 7) (by decide) (by decide)]
    exact (hP.k hp).1
