/-! a run in the class, all of it -/
theorem kr_PC.k {μ : kr_M} {K : Nat} {t : Nat → Nat} (h : kr_PC μ K t) {p : Nat} (hp : p < K) : μ.1 7 p = nI (t (3 * p)) ∧ μ.1 8 p = nI (t (3 * p + 1)) ∧ μ.1 9 p = nI (t (3 * p + 2)) := h.2 p hp
theorem c_K_goOn {d : Nat} {Q : kr_Q} {μ : kr_M} {g t : Nat → Nat} {K n p q : Nat} {R : kx_R} (hg : kx_gb g) (hP : kr_PC μ K t) (hK5 : K ≤ 5) (hR : kr_RC μ g K R) (hJ : kx_J false g t K n R) (hp : p < K) (hq : q ≤ 60) (h1000 : R.2.1 p ≠ 1000) (h100 : 100 ≤ R.2.1 p) (hgo : t (3 * p + 1) < 9) (k : ∀ μ', kr_keep [28, 29, 30, 33] [] μ μ' → kr_RC μ' g K (if R.2.2.2.1 p = 1 then kx_lo K (kx_ar g t p q R) else kx_tg p R) → Q none μ') : kr_c (d + 2) i_K_goOn [.ref 27, .int (nI p), .int (nI (R.2.1 p - 100)), .int (nI q)] μ Q := by
  obtain ⟨hN, h61, hlb⟩ := id hg
  obtain ⟨hon, hs0⟩ := hJ.on hp h1000 h100
  have hl := hon.2.1
  have hs9 := hJ.1 _ hl
  have hT1 := hon.2.2.2.2.1
  have hT9 := hon.2.2.2.2.2.1
  have hoe := kx_oe_lt hg (i := R.2.2.1 p) hl
  have vp : vp_in (nI p) 5 := vp_in_nI (by omega) (by decide)
  have vl : vp_in (nI (R.2.1 p - 100)) 12 := vp_in_nI (by omega) (by decide)
  obtain ⟨r1, r2⟩ := hR
  obtain ⟨p1, p2, p3, p4⟩ := r2 p hp
  obtain ⟨p2, p5⟩ := p2 h100 (by omega)
  refine v_K_goOn ⟨vp, vp, vp, ?_⟩
  rw [nI_clamp (by omega), nI_clamp (by omega), kr_upd_s, kr_upd_s, p2, p5, (hP.k hp).2.1, r1 _ hl, show (1 : Int32) = nI 1 from rfl, pk_sub hT1, pk_sub hs0, show (0 : Int32) = nI 0 from rfl, nI_leI (by omega) (by decide), nI_eq (by omega) (by omega)]
  have emax : (if nI 0 < nI (R.1 (R.2.1 p - 100) - 1) then nI (R.1 (R.2.1 p - 100) - 1) else nI 0) = nI (R.1 (R.2.1 p - 100) - 1) := by
    by_cases c : nI 0 < nI (R.1 (R.2.1 p - 100) - 1)
    · rw [if_pos c]
    · rw [if_neg c]
      have : ¬ 0 < R.1 (R.2.1 p - 100) - 1 := fun z => c (nI_lt z (by omega))
      congr 1
      omega
  rw [emax]
  refine ⟨fun c => ?_, fun c => ?_⟩
  · rw [if_pos (by omega)] at k
    have hJ2 := hJ.ar (p := p) (q := q) hg hq hon
    have elo : kx_l1 K (R.2.1 p - 100) (kx_ar g t p q R) = kx_lo K (kx_ar g t p q R) := by
      refine kx_l1_lo (by omega) (fun r hr y1 y2 => ?_)
      have eA : (kx_ar g t p q R).2.1 r = kx_un R.2.1 p (kx_oe g (R.2.1 p - 100) (R.2.2.1 p)) r := rfl
      have eS : (kx_ar g t p q R).1 = kx_un R.1 (R.2.1 p - 100) (R.1 (R.2.1 p - 100) - 1) := rfl
      by_cases e : r = p
      · rw [eA, e, kx_un_s] at y1
        omega
      · rw [kx_un_n _ _ e] at eA
        rw [eA] at y1 y2 ⊢
        by_cases e2 : R.2.1 r - 100 = R.2.1 p - 100
        · exact Or.inl e2
        · rw [eS, kx_un_n _ _ e2]
          exact Or.inr (hJ.on hr (by omega) y1).2
    have fin : ∀ μ2, kr_keep [28, 29, 30, 33] [] μ μ2 → (∀ j, μ2.1 28 j = upd (μ.1 28) (R.2.1 p - 100) (nI (R.1 (R.2.1 p - 100) - 1)) j) → (∀ j, μ2.1 29 j = upd (μ.1 29) p (nI (kx_oe g (R.2.1 p - 100) (R.2.2.1 p))) j) → (∀ j, j ≠ p → μ2.1 30 j = μ.1 30 j) → (∀ j, j < K → μ2.1 33 j = nI ((kx_ar g t p q R).2.2.2.2.2 j)) → kr_c (d + 1) i_K_loseIfBroken [.ref 27, .int (nI (R.2.1 p - 100))] μ2 (kr_bk (kr_Wp C_K_goOn (kr_c (d + 1)) Q) 80 [some (.ref 27), some (.int (nI p)), some (.int (nI (R.2.1 p - 100))), some (.int (nI q))] []) := by
      intro μ2 hk e28 e29 e30 e33
      refine c_K_loseIfBroken (R := kx_ar g t p q R) (by rw [hk.2 1 10 (by decide) (by decide)]; exact hP.1) hK5 hN hl (by have := hJ2.1 _ hl; omega) (fun r hr => (hJ2.lo_pre hN r hr).1) ⟨fun j hj => ?_, fun r hr => ?_⟩ (fun μ3 hk3 hr3 => v_K_goOn_80 (k μ3 (hk.tr (hk3.wk (by decide) (by decide))) ?_))
      · rw [e28]
        show _ = nI (kx_un R.1 (R.2.1 p - 100) (R.1 (R.2.1 p - 100) - 1) j)
        by_cases e : j = R.2.1 p - 100
        · rw [e, kr_upd_s, kx_un_s]
        · rw [kr_upd_n _ _ e, kx_un_n _ _ e]; exact r1 j hj
      · rw [e29, e33 r hr, hk.row (o := 31) (by decide) (by decide), hk.row (o := 32) (by decide) (by decide)]
        obtain ⟨x1, x2, x3, x4⟩ := r2 r hr
        show _ = kx_pw (kx_un R.2.1 p (kx_oe g (R.2.1 p - 100) (R.2.2.1 p)) r) ∧ (100 ≤ kx_un R.2.1 p (kx_oe g (R.2.1 p - 100) (R.2.2.1 p)) r → kx_un R.2.1 p (kx_oe g (R.2.1 p - 100) (R.2.2.1 p)) r < 1000 → _ = nI (R.2.2.2.1 r) ∧ _ = nI (kx_oe g (kx_un R.2.1 p (kx_oe g (R.2.1 p - 100) (R.2.2.1 p)) r - 100) (R.2.2.1 r))) ∧ _ = nI (R.2.2.2.2.1 r) ∧ _
        by_cases e : r = p
        · subst e
          rw [kr_upd_s, kx_un_s]
          refine ⟨?_, fun y => by omega, x3, rfl⟩
          unfold kx_pw
          rw [if_neg (by omega)]
        · rw [kr_upd_n _ _ e, kx_un_n _ _ e, e30 r e]
          exact ⟨x1, x2, x3, rfl⟩
      · rw [elo] at hr3; exact hr3
    have eM : (kx_ar g t p q R).2.2.2.2.2 = if kx_oe g (R.2.1 p - 100) (R.2.2.1 p) = t (3 * p + 1) then kx_un R.2.2.2.2.2 p q else R.2.2.2.2.2 := rfl
    refine ⟨vp, vp, vp, vp, fun c2 => ⟨vl, vl, ?_⟩, fun c2 => ⟨vp, vl, vl, ?_⟩⟩
    · rw [if_neg c2] at eM
      refine fin _ (((kr_keep.rf.u _ _ (by decide)).u _ _ (by decide)).u _ _ (by decide)) (fun j => ?_) (fun j => ?_) (fun j hj => ?_) (fun j hj => ?_)
      · rw [kr_u_s, kr_u_n _ _ _ (by decide), kr_u_n _ _ _ (by decide)]
      · rw [kr_u_n _ _ _ (by decide), kr_u_s, kr_u_n _ _ _ (by decide)]
      · rw [kr_u_n _ _ _ (by decide), kr_u_n _ _ _ (by decide), kr_u_s, kr_upd_n _ _ hj]
      · rw [kr_u_n _ _ _ (by decide), kr_u_n _ _ _ (by decide), kr_u_n _ _ _ (by decide), eM]
        exact (r2 j hj).2.2.2
    · rw [if_pos c2] at eM
      refine fin _ ((((kr_keep.rf.u _ _ (by decide)).u _ _ (by decide)).u _ _ (by decide)).u _ _ (by decide)) (fun j => ?_) (fun j => ?_) (fun j hj => ?_) (fun j hj => ?_)
      · rw [kr_u_s, kr_u_n _ _ _ (by decide), kr_u_n _ _ _ (by decide), kr_u_n _ _ _ (by decide)]
      · rw [kr_u_n _ _ _ (by decide), kr_u_n _ _ _ (by decide), kr_u_s, kr_u_n _ _ _ (by decide)]
      · rw [kr_u_n _ _ _ (by decide), kr_u_n _ _ _ (by decide), kr_u_n _ _ _ (by decide), kr_u_s, kr_upd_n _ _ hj]
      · rw [kr_u_n _ _ _ (by decide), kr_u_s, eM]
        by_cases e : j = p
        · rw [e, kr_upd_s, kx_un_s]
        · rw [kr_upd_n _ _ e, kx_un_n _ _ e, kr_u_n _ _ _ (by decide), kr_u_n _ _ _ (by decide)]
          exact (r2 j hj).2.2.2
  · rw [if_neg (by omega)] at k
    refine k _ (kr_keep.rf.u _ _ (by decide)) ⟨fun l hl => ?_, fun r hr => ?_⟩
    · rw [kr_u_n _ _ _ (by decide)]; exact r1 l hl
    · obtain ⟨x1, x2, x3, x4⟩ := r2 r hr
      rw [kr_u_n _ _ _ (by decide), kr_u_s, kr_u_n _ _ _ (by decide), kr_u_n _ _ _ (by decide), kr_u_n _ _ _ (by decide)]
      refine ⟨x1, fun z1 z2 => ⟨?_, (x2 z1 z2).2⟩, x3, x4⟩
      show _ = nI (kx_un R.2.2.2.1 p (R.2.2.2.1 p - 1) r)
      by_cases e : r = p
      · rw [e, kr_upd_s, kx_un_s]
      · rw [kr_upd_n _ _ e, kx_un_n _ _ e]; exact (x2 z1 z2).1
theorem c_K_setOut {d : Nat} {Q : kr_Q} {μ : kr_M} {g t : Nat → Nat} {K n p : Nat} {R : kx_R} (hW : kr_Wy μ g) (hg : kx_gb g) (hP : kr_PC μ K t) (hK5 : K ≤ 5) (hc : kx_cache μ g) (hR : kr_RC μ g K R) (hJ : kx_J false g t K n R) (hn : n < 1000) (hp : p < K) (hA : R.2.1 p < 9) (hgo : t (3 * p + 1) < 9) (k : ∀ μ', kr_keep [25, 26, 29, 30, 31, 32] [] μ μ' → kx_cache μ' g → kr_RC μ' g K (if kx_nl g (kx_ms (g 0) R.1) (t (3 * p + 1)) (R.2.1 p) < g 0 then kx_go g p (kx_nl g (kx_ms (g 0) R.1) (t (3 * p + 1)) (R.2.1 p)) R else kx_wt p R) → Q none μ') : kr_c (d + 4) i_K_setOut [.ref 27, .int (nI p), .int (nI (R.2.1 p))] μ Q := by
  obtain ⟨hN, h61, hlb⟩ := id hg
  have vp : vp_in (nI p) 5 := vp_in_nI (by omega) (by decide)
  refine v_K_setOut ⟨vp, c_R_wholeBy28 hW.1.1 hN hR.1 (fun l hl => by have := hJ.1 l hl; omega) (v_K_setOut_25 ?_)⟩
  rw [nI_clamp (by omega), (hP.k hp).2.1]
  have hS : kx_ms (g 0) R.1 < 4096 := Nat.lt_of_lt_of_le (kr_bm_lt _ _) (Nat.pow_le_pow_right (n := 2) (by decide) hN)
  refine c_Y_firstLine hW.1.1 (fun l hl => ⟨(hW.2 l hl).1, (hW.2 l hl).2.1⟩) (fun l hl => (hW.2 l hl).2.2.1) hg hgo hA hS hc (fun μ1 hk1 hc1 => v_K_setOut_28 ?_)
  have hk1 : kr_keep [25, 26, 29, 30, 31, 32] [] μ μ1 := hk1.wk (by decide) (by decide)
  have hR1 : kr_RC μ1 g K R := by
    rename_i hk0
    unfold kr_RC
    rw [hk0.row (o := 28) (by decide) (by decide), hk0.row (o := 29) (by decide) (by decide), hk0.row (o := 30) (by decide) (by decide), hk0.row (o := 31) (by decide) (by decide), hk0.row (o := 32) (by decide) (by decide), hk0.row (o := 33) (by decide) (by decide)]
    exact hR
  obtain ⟨r1, r2⟩ := hR1
  obtain ⟨p1, p2, p3, p4⟩ := r2 p hp
  unfold kx_nlI
  rw [nI_clamp (by omega)]
  by_cases hnl : kx_nl g (kx_ms (g 0) R.1) (t (3 * p + 1)) (R.2.1 p) < g 0
  · rw [if_pos hnl] at k
    rw [if_pos hnl]
    generalize hL : kx_nl g (kx_ms (g 0) R.1) (t (3 * p + 1)) (R.2.1 p) = L at *
    have vl : vp_in (nI L) 12 := vp_in_nI (by omega) (by decide)
    refine ⟨fun _ => ⟨vp, vl, vp, ?_⟩, fun c => absurd c (kx_neg4 (by omega))⟩
    rw [nI_clamp (by omega), show (100 : Int32) = nI 100 from rfl, nI_add, hk1.row (o := 4) (by decide) (by decide), (hW.2 L hnl).2.2.1]
    have hk2 : kr_keep [25, 26, 29, 30, 31, 32] [] μ (kr_u (kr_u μ1 29 p (nI (100 + L))) 30 p (nI (kr_gk g L 2))) := (hk1.u _ _ (by decide)).u _ _ (by decide)
    refine c_R_otherEnd (fun l hl => ?_) hg hnl hA (v_K_setOut_85 ⟨vp, ?_⟩)
    · rw [hk2.row (o := 2) (by decide) (by decide), hk2.row (o := 3) (by decide) (by decide)]
      exact ⟨(hW.2 l hl).1, (hW.2 l hl).2.1⟩
    · rw [nI_clamp (by omega)]
      refine k _ (hk2.u _ _ (by decide)) ?_ ⟨fun l hl => ?_, fun r hr => ?_⟩
      · unfold kx_cache
        rw [kr_u_n _ _ _ (by decide), kr_u_n _ _ _ (by decide), kr_u_n _ _ _ (by decide), kr_u_n _ _ _ (by decide), kr_u_n _ _ _ (by decide), kr_u_n _ _ _ (by decide)]
        exact hc1
      · rw [kr_u_n _ _ _ (by decide), kr_u_n _ _ _ (by decide), kr_u_n _ _ _ (by decide)]
        exact r1 l hl
      · obtain ⟨x1, x2, x3, x4⟩ := r2 r hr
        rw [kr_u_n (o := 31) _ _ _ (by decide), kr_u_n (o := 30) _ _ _ (by decide), kr_u_s, kr_u_n (o := 31) _ _ _ (by decide), kr_u_s, kr_u_n (o := 29) _ _ _ (by decide), kr_u_s, kr_u_n (o := 30) _ _ _ (by decide), kr_u_n (o := 29) _ _ _ (by decide), kr_u_n (o := 31) _ _ _ (by decide), kr_u_n (o := 30) _ _ _ (by decide), kr_u_n (o := 29) _ _ _ (by decide), kr_u_n (o := 31) _ _ _ (by decide), kr_u_n (o := 30) _ _ _ (by decide), kr_u_n (o := 29) _ _ _ (by decide)]
        show _ = kx_pw (kx_un R.2.1 p (100 + L) r) ∧ (100 ≤ kx_un R.2.1 p (100 + L) r → kx_un R.2.1 p (100 + L) r < 1000 → _ = nI (kx_un R.2.2.2.1 p (kr_gk g L 2) r) ∧ _ = nI (kx_oe g (kx_un R.2.1 p (100 + L) r - 100) (kx_un R.2.2.1 p (R.2.1 p) r))) ∧ _ = nI (R.2.2.2.2.1 r) ∧ _ = nI (R.2.2.2.2.2 r)
        by_cases e : r = p
        · subst e
          rw [kr_upd_s, kr_upd_s, kr_upd_s, kx_un_s, kx_un_s, kx_un_s]
          refine ⟨?_, fun _ _ => ⟨rfl, ?_⟩, x3, x4⟩
          · unfold kx_pw
            rw [if_neg (by omega)]
          · rw [Nat.add_sub_cancel_left]
        · rw [kr_upd_n _ _ e, kr_upd_n _ _ e, kr_upd_n _ _ e, kx_un_n _ _ e, kx_un_n _ _ e, kx_un_n _ _ e]
          exact ⟨x1, x2, x3, x4⟩
  · rw [if_neg hnl] at k
    rw [if_neg hnl]
    refine ⟨fun c => absurd rfl c, fun _ => ⟨vp, vp, ?_⟩⟩
    rw [p3, kr_n1]
    refine k _ (hk1.u _ _ (by decide)) ?_ ⟨fun l hl => ?_, fun r hr => ?_⟩
    · unfold kx_cache
      rw [kr_u_n _ _ _ (by decide), kr_u_n _ _ _ (by decide)]
      exact hc1
    · rw [kr_u_n _ _ _ (by decide)]
      exact r1 l hl
    · obtain ⟨x1, x2, x3, x4⟩ := r2 r hr
      rw [kr_u_n _ _ _ (by decide), kr_u_n _ _ _ (by decide), kr_u_n _ _ _ (by decide), kr_u_s, kr_u_n _ _ _ (by decide)]
      refine ⟨x1, x2, ?_, x4⟩
      show _ = nI (kx_un R.2.2.2.2.1 p (R.2.2.2.2.1 p + 1) r)
      by_cases e : r = p
      · rw [e, kr_upd_s, kx_un_s]
      · rw [kr_upd_n _ _ e, kx_un_n _ _ e]; exact x3
