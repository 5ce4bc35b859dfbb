/-! a run in the reference: who arrives, who goes, quarter by quarter -/
theorem kx_J.lo_pre {g t : Nat → Nat} {K n : Nat} {R : kx_R} (h : kx_J true g t K n R) (hN : g 0 ≤ 12) : ∀ p, p < K → R.2.1 p ≤ 1000 ∧ (100 ≤ R.2.1 p → R.2.1 p < 1000 → R.2.1 p - 100 < g 0) := by
  intro p hp
  rcases (h.2 p hp).1 with z | z | z
  · exact ⟨by omega, fun y => by omega⟩
  · exact ⟨by omega, fun _ y => by omega⟩
  · have := z.1.2.1
    exact ⟨by omega, fun _ _ => this⟩
theorem c_M_arrives {d : Nat} {Q : kr_Q} {μ : kr_M} {g t : Nat → Nat} {K n p q : Nat} {R : kx_R} (hM : kr_Mg μ g) (hg : kx_gb g) (hP : kr_PM μ K t) (hK5 : K ≤ 5) (hR : kr_RM μ (g 0) K (kx_tg p R)) (hJ : kx_J false g t K n R) (hp : p < K) (hq1 : 0 < q) (hq : q ≤ 60) (h1000 : R.2.1 p ≠ 1000) (hon : kx_onl g R p) (hgo : t (3 * p + 1) < 9) (k : ∀ μ', kr_keep [72, 74, 75, 77] [(65, 28)] μ μ' → kr_RM μ' (g 0) K (kx_lo K (kx_ar g t p q R)) → Q none μ') : kr_c (d + 3) i_M_arrives [.ref 65, .int (nI p), .int (nI q)] μ Q := by
  obtain ⟨hN, h61, hlb⟩ := id hg
  obtain ⟨r1, r2, r3⟩ := hR
  obtain ⟨p1, p2, p3, p4, p5⟩ := r3 p hp
  have h100 := hon.1
  have hl := hon.2.1
  have hO := hon.2.2.1
  have hs0 := (hJ.on hp h1000 h100).2
  have hs9 := hJ.1 _ hl
  have hoe := kx_oe_lt hg (i := R.2.2.1 p) hl
  have ea : (kx_tg p R).2.1 p = R.2.1 p := rfl
  have eo : (kx_tg p R).2.2.1 p = R.2.2.1 p := rfl
  have em : (kx_tg p R).2.2.2.2.2 p = R.2.2.2.2.2 p := rfl
  have vp : vp_in (nI p) 5 := vp_in_nI (by omega) (by decide)
  have vl : vp_in (nI (R.2.1 p - 100)) 12 := vp_in_nI (by omega) (by decide)
  rw [ea, show kx_on (R.2.1 p) = nI (R.2.1 p - 100) from if_pos ⟨h100, by omega⟩] at p1
  have p2 := p2 (by rw [ea]; omega)
  rw [ea, eo, if_neg (by omega)] at p2
  rw [em, hon.2.2.2.2.2.2] at p5
  refine v_M_arrives ⟨vp, vp, ?_⟩
  rw [nI_clamp (by omega), p1, p2]
  refine c_M_otherEnd hM hg hl hO (v_M_arrives_23 ?_)
  rw [if_pos hon.2.2.2.1]
  have hgo2 : μ.1 68 (3 * p + 1) = nI (t (3 * p + 1)) := hP.2 _ (by omega)
  have ex3 : (3 : Int32) * nI p + 1 = nI (3 * p + 1) := by rw [show (3 : Int32) = nI 3 from rfl, pk_mul, kr_n1]
  have es : μ.1 72 (R.2.1 p - 100) = nI (R.1 (R.2.1 p - 100)) := r1 _ hl
  rw [nI_clamp (by omega), nI_clamp (by omega), es, ex3, nI_clamp (by omega), hgo2, p5, kr_upd_s, nI_eq (by omega) (by omega), show (1 : Int32) = nI 1 from rfl, pk_sub (by omega)]
  have v3 : vp_in (nI (3 * p + 1)) 15 := vp_in_nI (by omega) (by decide)
  have fin : ∀ v : Int32, v = kx_mm (if kx_oe g (R.2.1 p - 100) (R.2.2.1 p) = t (3 * p + 1) then q else 0) → kr_c (d + 2) i_M_loses [.ref 65] (kr_u (kr_u (kr_u (kr_u μ 74 p (nI (kx_oe g (R.2.1 p - 100) (R.2.2.1 p)))) 75 p (-4)) 72 (R.2.1 p - 100) (nI (R.1 (R.2.1 p - 100) - 1))) 77 p v) (kr_bk (kr_Wp C_M_arrives (kr_c (d + 2)) Q) 105 [some (.ref 65), some (.int (nI p)), some (.int (nI q)), some (.int (nI (R.2.1 p - 100)))] []) := by
    intro v hv
    have hk : kr_keep [72, 74, 75, 77] [(65, 28)] μ (kr_u (kr_u (kr_u (kr_u μ 74 p (nI (kx_oe g (R.2.1 p - 100) (R.2.2.1 p)))) 75 p (-4)) 72 (R.2.1 p - 100) (nI (R.1 (R.2.1 p - 100) - 1))) 77 p v) := (((kr_keep.rf.u _ _ (by decide)).u _ _ (by decide)).u _ _ (by decide)).u _ _ (by decide)
    have hw := hJ.ar (p := p) (q := q) hg hq hon
    refine c_M_loses (R := kx_ar g t p q R) hN (by rw [hk.2 65 4 (by decide) (by decide)]; exact hP.1) hK5 ⟨fun l hl2 => ?_, ?_, fun r hr => ?_⟩ (hw.lo_pre hN) (fun l hl2 => by have := hw.1 l hl2; omega) (fun μ2 hk2 hr2 => v_M_arrives_105 (k μ2 (hk.tr (hk2.wk (by decide) (by decide))) hr2))
    · rw [kr_u_n _ _ _ (by decide), kr_u_s, kr_u_n _ _ _ (by decide), kr_u_n _ _ _ (by decide)]
      show _ = nI (kx_un R.1 _ _ l)
      by_cases e : l = R.2.1 p - 100
      · rw [e, kr_upd_s, kx_un_s]
      · rw [kr_upd_n _ _ e, kx_un_n _ _ e]; exact r1 l hl2
    · rw [kr_u_n _ _ _ (by decide), kr_u_n _ _ _ (by decide), kr_u_n _ _ _ (by decide), kr_u_n _ _ _ (by decide), r2]
      congr 1
      refine kr_bm_congr (fun r hr => ?_)
      show (R.2.1 r == 1000) = (kx_un R.2.1 p _ r == 1000)
      by_cases e : r = p
      · subst e
        rw [kx_un_s]
        have z1 : ¬ R.2.1 r = 1000 := h1000
        have z2 : ¬ kx_oe g (R.2.1 r - 100) (R.2.2.1 r) = 1000 := by omega
        exact (beq_eq_false_iff_ne.mpr z1).trans (beq_eq_false_iff_ne.mpr z2).symm
      · rw [kx_un_n _ _ e]
    · obtain ⟨x1, x2, x3, x4, x5⟩ := r3 r hr
      rw [kr_u_n _ _ _ (by decide), kr_u_n _ _ _ (by decide), kr_u_s, kr_u_n _ _ _ (by decide), kr_u_n _ _ _ (by decide), kr_u_n _ _ _ (by decide), kr_u_n _ _ _ (by decide), kr_u_s, kr_u_n _ _ _ (by decide), kr_u_n _ _ _ (by decide), kr_u_n _ _ _ (by decide), kr_u_n _ _ _ (by decide), kr_u_n _ _ _ (by decide), kr_u_n _ _ _ (by decide), kr_u_n _ _ _ (by decide), kr_u_n _ _ _ (by decide), kr_u_s, kr_u_n _ _ _ (by decide), kr_u_n _ _ _ (by decide), kr_u_n _ _ _ (by decide)]
      show _ = kx_on (kx_un R.2.1 p _ r) ∧ (kx_un R.2.1 p _ r < 1000 → _ = nI (if kx_un R.2.1 p _ r < 100 then kx_un R.2.1 p _ r else R.2.2.1 r)) ∧ (100 ≤ kx_un R.2.1 p _ r → kx_un R.2.1 p _ r < 1000 → _ = nI (R.2.2.2.1 r)) ∧ _ = nI (R.2.2.2.2.1 r) ∧ _ = kx_mm ((if _ = t (3 * p + 1) then kx_un R.2.2.2.2.2 p q else R.2.2.2.2.2) r)
      by_cases e : r = p
      · subst e
        rw [kx_un_s, kr_upd_s, kr_upd_s, kr_upd_s]
        refine ⟨?_, fun _ => ?_, fun z => absurd z (by omega), p4, ?_⟩
        · exact ((kx_on_n (by omega)).mpr (fun z => by omega)).symm
        · rw [if_pos (by omega)]
        · rw [hv]
          by_cases e2 : kx_oe g (R.2.1 r - 100) (R.2.2.1 r) = t (3 * r + 1)
          · rw [if_pos e2, if_pos e2, kx_un_s]
          · rw [if_neg e2, if_neg e2, hon.2.2.2.2.2.2]
      · rw [kx_un_n _ _ e, kr_upd_n _ _ e, kr_upd_n _ _ e, kr_upd_n _ _ e]
        refine ⟨x1, x2, fun z1 z2 => ?_, x4, ?_⟩
        · rw [x3 z1 z2]
          show nI (kx_un R.2.2.2.1 p _ r) = _
          rw [kx_un_n _ _ e]
        · rw [x5]
          show kx_mm (R.2.2.2.2.2 r) = _
          split
          · rw [kx_un_n _ _ e]
          · rfl
  refine ⟨vp, vp, vl, vl, fun c => ?_, fun _ => ⟨vl, vp, v3, fun c2 => ⟨vp, vp, fin _ ?_⟩, fun c2 => ⟨vp, fun c3 => ?_, fun _ => ⟨vp, fin _ ?_⟩⟩⟩⟩
  · exfalso
    exact nI_nle hs0 (by omega) c
  · rw [if_neg c2]
  · exact absurd rfl c3
  · rw [if_pos c2]
    show nI q = if q = 0 then -4 else nI q
    rw [if_neg (by omega)]
theorem c_M_goesOne {d : Nat} {Q : kr_Q} {μ : kr_M} {g t : Nat → Nat} {K n p q : Nat} {R : kx_R} (hM : kr_Mg μ g) (hg : kx_gb g) (hP : kr_PM μ K t) (hK5 : K ≤ 5) (ht : ∀ p, p < K → t (3 * p) < 9 ∧ t (3 * p + 1) < 9 ∧ t (3 * p + 2) ≤ 40) (hR : kr_RM μ (g 0) K R) (hJ : kx_J false g t K n R) (hn : n < 1000) (hp : p < K) (hq1 : 0 < q) (hq : q ≤ 60) (k : ∀ μ', kr_keep [72, 73, 74, 75, 76, 77, 78] [(65, 28)] μ μ' → kr_RM μ' (g 0) K (kx_st g t K p q R) → Q none μ') : kr_c (d + 4) i_M_goesOne [.ref 65, .int (nI p), .int (nI q)] μ Q := by
  obtain ⟨hN, h61, hlb⟩ := id hg
  obtain ⟨r1, r2, r3⟩ := id hR
  obtain ⟨p1, p2, p3, p4, p5⟩ := r3 p hp
  obtain ⟨t0, t1, t2⟩ := ht p hp
  have vp : vp_in (nI p) 5 := vp_in_nI (by omega) (by decide)
  have hbm : kr_bm K (fun p => R.2.1 p == 1000) < 2 ^ 31 := Nat.lt_of_lt_of_le (kr_bm_lt _ _) (Nat.pow_le_pow_right (by decide) (by omega))
  have ex1 : (3 : Int32) * nI p + 1 = nI (3 * p + 1) := by rw [show (3 : Int32) = nI 3 from rfl, pk_mul, kr_n1]
  have ex2 : (3 : Int32) * nI p + 2 = nI (3 * p + 2) := by rw [show (3 : Int32) = nI 3 from rfl, pk_mul, show (2 : Int32) = nI 2 from rfl, nI_add]
  have v1 : vp_in (nI (3 * p + 1)) 15 := vp_in_nI (by omega) (by decide)
  have v2 : vp_in (nI (3 * p + 2)) 15 := vp_in_nI (by omega) (by decide)
  have m1 : μ.1 68 (3 * p + 1) = nI (t (3 * p + 1)) := hP.2 _ (by omega)
  have m2 : μ.1 68 (3 * p + 2) = nI (t (3 * p + 2)) := hP.2 _ (by omega)
  unfold kx_st at k
  refine v_M_goesOne ?_
  rw [r2, kr_bit1 hbm (by omega), kr_bm_bit, ex1, ex2, nI_clamp (by omega), nI_clamp (by omega), nI_clamp (by omega), m1, m2, p1]
  refine ⟨fun c => ?_, fun c => ?_⟩
  · have h0 : R.2.1 p ≠ 1000 := fun z => c (by simp [hp, z])
    rw [if_neg h0] at k
    have hA : R.2.1 p ≤ 1000 := by
      rcases (hJ.2 p hp).1 with z | z | z
      · omega
      · omega
      · have := z.1.2.1; have := z.1.1; omega
    refine ⟨vp, fun c2 => ⟨vp, v1, ?_⟩, fun c2 => ⟨vp, vp, vp, ?_⟩⟩
    · rw [kx_on_n hA] at c2
      have h1 : ¬ 100 ≤ R.2.1 p := fun z => c2 ⟨z, by omega⟩
      rw [if_neg h1] at k
      obtain ⟨a1, a2⟩ := hJ.pt hp h0 h1
      have p2 := p2 (by omega)
      rw [if_pos (by omega)] at p2
      rw [p2, nI_eq (by omega) (by omega), nI_ltI (by omega) (by omega)]
      refine ⟨fun c3 => ?_, fun c3 => ⟨v2, fun c4 => ⟨v1, ?_⟩, fun c4 => ?_⟩⟩
      · rw [if_pos (Or.inl c3)] at k
        exact k μ kr_keep.rf hR
      · rw [if_neg (by omega)] at k
        refine c_M_findLeast hM hg r1 (fun l hl => by have := hJ.1 l hl; omega) t1 (fun μ' hk hrow => v_M_goesOne_98 ?_)
        have hle := kx_dist_le hg (kx_ms (g 0) R.1) (t (3 * p + 1)) a1
        have hle' := hle
        unfold kx_F at hle'
        have hM' := hM.kp hk (by decide)
        have e74 : μ'.1 74 p = nI (R.2.1 p) := by rw [hk.row (o := 74) (by decide) (by decide)]; exact p2
        have e78 : μ'.1 78 p = nI (R.2.2.2.2.1 p) := by rw [hk.row (o := 78) (by decide) (by decide)]; exact p4
        have hkW : kr_keep [72, 73, 74, 75, 76, 77, 78] [(65, 28)] μ μ' := hk.wk (by decide) (by decide)
        have rest : kr_RM μ' (g 0) K R := by
          refine ⟨fun l hl => ?_, ?_, fun r hr => ?_⟩
          · rw [hk.row (o := 72) (by decide) (by decide)]; exact r1 l hl
          · rw [hk.2 65 28 (by decide) (by decide)]; exact r2
          · rw [hk.row (o := 75) (by decide) (by decide), hk.row (o := 74) (by decide) (by decide), hk.row (o := 76) (by decide) (by decide), hk.row (o := 77) (by decide) (by decide), hk.row (o := 78) (by decide) (by decide)]
            exact r3 r hr
        rw [nI_clamp (by omega), e74, nI_clamp (by omega), hrow _ a1, kx_lit9, nI_eq (by omega) (by decide)]
        have va : vp_in (nI (R.2.1 p)) 9 := vp_in_nI a1 (by decide)
        refine ⟨vp, va, fun c5 => ⟨vp, ?_⟩, fun c5 => ⟨vp, vp, ?_⟩⟩
        · have d0 : kx_dist g (kx_ms (g 0) R.1) (t (3 * p + 1)) (R.2.1 p) ≠ 0 := by
            intro z
            have hd := kx_dist_is hg (kx_ms (g 0) R.1) (t (3 * p + 1))
            obtain ⟨l, j, b1, b2, b3, b4, b5⟩ := kx_tight hd a1 c3 (by unfold kx_F; omega)
            unfold kx_w at b5
            omega
          have hnl := kx_nl_some hg a1 d0 (by omega)
          rw [if_pos hnl] at k
          refine c_M_firstLine hM' hg (s := R.1) rest.1 (fun l hl => by have := hJ.1 l hl; omega) a1 hrow (v_M_goesOne_140 ?_)
          unfold kx_nlI
          rw [if_pos hnl, nI_clamp (by omega), kr_upd_s, kr_ofg2 hM' (by omega)]
          refine ⟨vp, vp, kr_ofv2 (by omega), vp, ?_⟩
          generalize hL : kx_nl g (kx_ms (g 0) R.1) (t (3 * p + 1)) (R.2.1 p) = L at *
          refine k _ ((hkW.u _ _ (by decide)).u _ _ (by decide)) ⟨fun l hl => ?_, ?_, fun r hr => ?_⟩
          · rw [kr_u_n _ _ _ (by decide), kr_u_n _ _ _ (by decide)]; exact rest.1 l hl
          · rw [kr_u_n _ _ _ (by decide), kr_u_n _ _ _ (by decide), rest.2.1]
            congr 1
            refine kr_bm_congr (fun r hr => ?_)
            show (R.2.1 r == 1000) = (kx_un R.2.1 p (100 + L) r == 1000)
            by_cases e : r = p
            · subst e
              rw [kx_un_s]
              have z2 : ¬ 100 + L = 1000 := by omega
              exact (beq_eq_false_iff_ne.mpr h0).trans (beq_eq_false_iff_ne.mpr z2).symm
            · rw [kx_un_n _ _ e]
          · obtain ⟨x1, x2, x3, x4, x5⟩ := rest.2.2 r hr
            rw [kr_u_n _ _ _ (by decide), kr_u_s, kr_u_n _ _ _ (by decide), kr_u_n _ _ _ (by decide), kr_u_s, kr_u_n _ _ _ (by decide), kr_u_n _ _ _ (by decide), kr_u_n _ _ _ (by decide), kr_u_n _ _ _ (by decide), kr_u_n _ _ _ (by decide)]
            show _ = kx_on (kx_un R.2.1 p (100 + L) r) ∧ (kx_un R.2.1 p (100 + L) r < 1000 → _ = nI (if kx_un R.2.1 p (100 + L) r < 100 then kx_un R.2.1 p (100 + L) r else kx_un R.2.2.1 p (R.2.1 p) r)) ∧ (100 ≤ kx_un R.2.1 p (100 + L) r → kx_un R.2.1 p (100 + L) r < 1000 → _ = nI (kx_un R.2.2.2.1 p (kr_gk g L 2) r)) ∧ _ = nI (R.2.2.2.2.1 r) ∧ _ = kx_mm (R.2.2.2.2.2 r)
            by_cases e : r = p
            · subst e
              rw [kx_un_s, kx_un_s, kx_un_s, kr_upd_s, kr_upd_s]
              refine ⟨?_, fun _ => ?_, fun _ _ => rfl, x4, x5⟩
              · unfold kx_on
                rw [if_pos (by omega), Nat.add_sub_cancel_left]
              · rw [if_neg (by omega)]; exact e74
            · rw [kx_un_n _ _ e, kx_un_n _ _ e, kx_un_n _ _ e, kr_upd_n _ _ e, kr_upd_n _ _ e]
              exact ⟨x1, x2, x3, x4, x5⟩
        · rw [if_neg (kx_nl_far hg c5)] at k
          rw [e78, kr_n1]
          refine k _ (hkW.u _ _ (by decide)) ⟨fun l hl => ?_, ?_, fun r hr => ?_⟩
          · rw [kr_u_n _ _ _ (by decide)]; exact rest.1 l hl
          · rw [kr_u_n _ _ _ (by decide)]; exact rest.2.1
          · obtain ⟨x1, x2, x3, x4, x5⟩ := rest.2.2 r hr
            rw [kr_u_n _ _ _ (by decide), kr_u_n _ _ _ (by decide), kr_u_n _ _ _ (by decide), kr_u_s, kr_u_n _ _ _ (by decide)]
            refine ⟨x1, x2, x3, ?_, x5⟩
            show _ = nI (kx_un R.2.2.2.2.1 p (R.2.2.2.2.1 p + 1) r)
            by_cases e : r = p
            · rw [e, kr_upd_s, kx_un_s]
            · rw [kr_upd_n _ _ e, kx_un_n _ _ e]; exact x4
      · rw [if_pos (Or.inr (by omega))] at k
        exact k μ kr_keep.rf hR
    · have c2 : 100 ≤ R.2.1 p ∧ R.2.1 p < 1000 := by
        rw [kx_on_n hA] at c2
        exact Decidable.not_not.mp c2
      rw [if_pos c2.1] at k
      have ho := (hJ.on hp h0 c2.1).1
      have hT := ho.2.2.2.2.1
      have hT9 := ho.2.2.2.2.2.1
      have p3 := p3 c2.1 c2.2
      rw [p3, kr_upd_s, show (1 : Int32) = nI 1 from rfl, pk_sub hT, kr_eq0 (by omega)]
      have hk : kr_keep [72, 73, 74, 75, 76, 77, 78] [(65, 28)] μ (kr_u μ 76 p (nI (R.2.2.2.1 p - 1))) := kr_keep.rf.u _ _ (by decide)
      have rest : kr_RM (kr_u μ 76 p (nI (R.2.2.2.1 p - 1))) (g 0) K (kx_tg p R) := by
        refine ⟨fun l hl => ?_, ?_, fun r hr => ?_⟩
        · rw [kr_u_n _ _ _ (by decide)]; exact r1 l hl
        · rw [kr_u_n _ _ _ (by decide)]; exact r2
        · obtain ⟨x1, x2, x3, x4, x5⟩ := r3 r hr
          rw [kr_u_n _ _ _ (by decide), kr_u_n _ _ _ (by decide), kr_u_s, kr_u_n _ _ _ (by decide), kr_u_n _ _ _ (by decide)]
          refine ⟨x1, x2, fun z1 z2 => ?_, x4, x5⟩
          show _ = nI (kx_un R.2.2.2.1 p (R.2.2.2.1 p - 1) r)
          by_cases e : r = p
          · rw [e, kr_upd_s, kx_un_s]
          · rw [kr_upd_n _ _ e, kx_un_n _ _ e]; exact x3 z1 z2
      refine ⟨fun c3 => ?_, fun c3 => ?_⟩
      · rw [if_neg (by omega)] at k
        exact k _ hk rest
      · rw [if_pos (by omega)] at k
        refine c_M_arrives (hM.kp hk (by decide)) hg (hP.kp hk (by decide)) hK5 rest hJ hp hq1 hq h0 ho t1 (fun μ2 hk2 hr2 => v_M_goesOne_49 (k μ2 (hk.tr (hk2.wk (by decide) (by decide))) hr2))
  · have c : R.2.1 p = 1000 := by simpa [hp] using c
    rw [if_pos c] at k
    exact k μ kr_keep.rf hR
theorem c_M_startRun {d : Nat} {Q : kr_Q} {μ : kr_M} {g t : Nat → Nat} {K : Nat} (hM : kr_Mg μ g) (hN : g 0 ≤ 12) (hP : kr_PM μ K t) (hK5 : K ≤ 5) (ht : ∀ p, p < K → t (3 * p) < 9) (ex : Nat) (k : ∀ μ', kr_keep [72, 74, 75, 76, 77, 78] [(65, 28)] μ μ' → kr_RM μ' (g 0) K (kx_run g t K ex 0) → Q none μ') : kr_c (d + 3) i_M_startRun [.ref 65] μ Q := by
  refine v_M_startRun (c_M_strongNow hM hN (fun μ1 hk1 hs1 => v_M_startRun_4 ?_))
  have main : ∀ i, i ≤ K → ∀ μ', kr_keep [72, 74, 75, 76, 77, 78] [(65, 28)] μ μ' → (∀ l, l < g 0 → μ'.1 72 l = nI (kr_gk g l 3)) → μ'.1 65 28 = 0 → (∀ p, p < i → μ'.1 74 p = nI (t (3 * p)) ∧ μ'.1 75 p = -4 ∧ μ'.1 76 p = 0 ∧ μ'.1 77 p = -4 ∧ μ'.1 78 p = 0) → kr_Wp C_M_startRun (kr_c (d + 2)) Q 11 [some (.ref 65), some (.int (nI i))] [] μ' := by
    refine kr_up (I := fun i => ∀ μ', kr_keep [72, 74, 75, 76, 77, 78] [(65, 28)] μ μ' → (∀ l, l < g 0 → μ'.1 72 l = nI (kr_gk g l 3)) → μ'.1 65 28 = 0 → (∀ p, p < i → μ'.1 74 p = nI (t (3 * p)) ∧ μ'.1 75 p = -4 ∧ μ'.1 76 p = 0 ∧ μ'.1 77 p = -4 ∧ μ'.1 78 p = 0) → kr_Wp C_M_startRun (kr_c (d + 2)) Q 11 [some (.ref 65), some (.int (nI i))] [] μ') K ?_ ?_
    · intro μ' hk h72 h28 hrow
      refine v_M_startRun_11 (br_t ?_ (k μ' hk ⟨h72, ?_, fun p hp => ?_⟩))
      · rw [(hP.kp hk (by decide)).1]; exact Int32.le_refl _
      · rw [h28]
        have : kr_bm K (fun p => (kx_run g t K ex 0).2.1 p == 1000) = 0 := by
          apply Nat.eq_of_testBit_eq
          intro i
          rw [kr_bm_bit, Nat.zero_testBit]
          by_cases hi : i < K
          · have := ht i hi
            have z : ¬ t (3 * i) = 1000 := by omega
            simp [hi, kx_run, z]
          · simp [hi]
        rw [this]
        rfl
      · obtain ⟨x1, x2, x3, x4, x5⟩ := hrow p hp
        have := ht p hp
        refine ⟨?_, fun _ => ?_, fun z => ?_, x5, x4⟩
        · rw [x2]
          exact ((kx_on_n (a := t (3 * p)) (by omega)).mpr (fun z => by omega)).symm
        · rw [x1]
          show nI (t (3 * p)) = nI (if t (3 * p) < 100 then t (3 * p) else 0)
          rw [if_pos (by omega)]
        · exfalso
          have z : 100 ≤ t (3 * p) := z
          omega
    · intro i hi ih μ' hk h72 h28 hrow
      have vi : vp_in (nI i) 5 := vp_in_nI (by omega) (by decide)
      have hP' := hP.kp hk (by decide)
      have ex3 : (3 : Int32) * nI i = nI (3 * i) := by rw [show (3 : Int32) = nI 3 from rfl, pk_mul]
      refine v_M_startRun_11 (br_f ?_ ?_)
      · rw [hP'.1]; exact nI_ge hi (by omega)
      rw [ex3, nI_clamp (by omega), nI_clamp (by omega), hP'.2 _ (by omega), kr_n1]
      refine ⟨vp_in_nI (by omega) (by decide), vi, vi, vi, vi, vi, ih _ (((((hk.u _ _ (by decide)).u _ _ (by decide)).u _ _ (by decide)).u _ _ (by decide)).u _ _ (by decide)) (fun l hl => ?_) ?_ (fun p hp => ?_)⟩
      · rw [kr_u_n _ _ _ (by decide), kr_u_n _ _ _ (by decide), kr_u_n _ _ _ (by decide), kr_u_n _ _ _ (by decide), kr_u_n _ _ _ (by decide)]; exact h72 l hl
      · rw [kr_u_n _ _ _ (by decide), kr_u_n _ _ _ (by decide), kr_u_n _ _ _ (by decide), kr_u_n _ _ _ (by decide), kr_u_n _ _ _ (by decide)]; exact h28
      · rw [kr_u_s, kr_u_n (o := 78) _ _ _ (by decide), kr_u_n (o := 78) _ _ _ (by decide), kr_u_n (o := 78) _ _ _ (by decide), kr_u_n (o := 78) _ _ _ (by decide), kr_u_s, kr_u_n (o := 77) _ _ _ (by decide), kr_u_n (o := 77) _ _ _ (by decide), kr_u_n (o := 77) _ _ _ (by decide), kr_u_n (o := 77) _ _ _ (by decide), kr_u_s, kr_u_n (o := 76) _ _ _ (by decide), kr_u_n (o := 76) _ _ _ (by decide), kr_u_n (o := 76) _ _ _ (by decide), kr_u_n (o := 76) _ _ _ (by decide), kr_u_s, kr_u_n (o := 75) _ _ _ (by decide), kr_u_n (o := 75) _ _ _ (by decide), kr_u_n (o := 75) _ _ _ (by decide), kr_u_n (o := 75) _ _ _ (by decide), kr_u_s, kr_u_n (o := 74) _ _ _ (by decide), kr_u_n (o := 74) _ _ _ (by decide), kr_u_n (o := 74) _ _ _ (by decide), kr_u_n (o := 74) _ _ _ (by decide)]
        by_cases e : p = i
        · subst e
          rw [kr_upd_s, kr_upd_s, kr_upd_s, kr_upd_s, kr_upd_s]
          exact ⟨rfl, rfl, rfl, rfl, rfl⟩
        · rw [kr_upd_n _ _ e, kr_upd_n _ _ e, kr_upd_n _ _ e, kr_upd_n _ _ e, kr_upd_n _ _ e]
          exact hrow p (by omega)
  refine main 0 (Nat.zero_le _) _ ((hk1.wk (by decide) (by decide)).f _ (by decide)) (fun l hl => ?_) ?_ (fun p hp => absurd hp (Nat.not_lt_zero p))
  · rw [kr_u_n _ _ _ (by decide)]; exact hs1 l hl
  · rw [kr_u_s, kr_upd_s]
