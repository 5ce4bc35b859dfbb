/-! a run in the class: who is lost, who goes on, who sets out -/
def kx_l1 (K l : Nat) (R : kx_R) : kx_R := (R.1, fun p => if p < K ∧ R.2.1 p = 100 + l ∧ R.1 l = 0 then 1000 else R.2.1 p, R.2.2)
def kx_ls (K l : Nat) (R : kx_R) : kx_R := (R.1, fun p => if p < K ∧ 100 ≤ R.2.1 p ∧ R.2.1 p < 100 + l ∧ R.1 (R.2.1 p - 100) = 0 then 1000 else R.2.1 p, R.2.2)
def kx_pw (a : Nat) : Int32 := if a = 1000 then -4 else nI a
theorem kx_pw_eq {a b : Nat} (ha : a ≤ 1000) (hb : b < 1000) : kx_pw a = nI b ↔ a = b := by
  unfold kx_pw
  by_cases c : a = 1000
  · rw [if_pos c]
    exact ⟨fun z => absurd z.symm (kx_neg4 (by omega)), fun z => absurd z (by omega)⟩
  · rw [if_neg c, nI_eq (by omega) (by omega)]
theorem kx_pw_lt {a b : Nat} (ha : a ≤ 1000) (hb : b < 1000) : kx_pw a < nI b ↔ (a = 1000 ∨ a < b) := by
  unfold kx_pw
  by_cases c : a = 1000
  · rw [if_pos c]
    refine ⟨fun _ => Or.inl c, fun _ => ?_⟩
    rw [Int32.lt_iff_toInt_lt, nI_toInt (by omega)]
    have h4 : (-4 : Int32).toInt = -4 := rfl
    omega
  · rw [if_neg c, Int32.lt_iff_toInt_lt, nI_toInt (by omega), nI_toInt (by omega)]
    omega
/-- the class's rows in a run -/
def kr_RC (μ : kr_M) (g : Nat → Nat) (K : Nat) (R : kx_R) : Prop := (∀ l, l < g 0 → μ.1 28 l = nI (R.1 l)) ∧
  ∀ p, p < K → μ.1 29 p = kx_pw (R.2.1 p) ∧ (100 ≤ R.2.1 p → R.2.1 p < 1000 → μ.1 30 p = nI (R.2.2.2.1 p) ∧ μ.1 31 p = nI (kx_oe g (R.2.1 p - 100) (R.2.2.1 p))) ∧ μ.1 32 p = nI (R.2.2.2.2.1 p) ∧ μ.1 33 p = nI (R.2.2.2.2.2 p)
/-- who they are -/
def kr_PC (μ : kr_M) (K : Nat) (t : Nat → Nat) : Prop := μ.1 1 10 = nI K ∧ ∀ p, p < K → μ.1 7 p = nI (t (3 * p)) ∧ μ.1 8 p = nI (t (3 * p + 1)) ∧ μ.1 9 p = nI (t (3 * p + 2))
theorem kr_PC.kp {W : List Nat} {F : List (Nat × Nat)} {μ μ' : kr_M} {K : Nat} {t : Nat → Nat} (h : kr_PC μ K t) (k : kr_keep W F μ μ') (hW : ∀ o ∈ [1, 7, 8, 9], o ∉ W ∧ ∀ q ∈ F, q.1 ≠ o) : kr_PC μ' K t := by
  have e : ∀ o ∈ [1, 7, 8, 9], μ'.1 o = μ.1 o := fun o ho => k.row (hW o ho).1 (hW o ho).2
  unfold kr_PC
  rw [e 1 (by decide), e 7 (by decide), e 8 (by decide), e 9 (by decide)]
  exact h
theorem kx_cache.kp {W : List Nat} {F : List (Nat × Nat)} {μ μ' : kr_M} {g : Nat → Nat} (h : kx_cache μ g) (k : kr_keep W F μ μ') (hW : ∀ o ∈ [25, 26], o ∉ W ∧ ∀ q ∈ F, q.1 ≠ o) : kx_cache μ' g := by
  have e : ∀ o ∈ [25, 26], μ'.1 o = μ.1 o := fun o ho => k.row (hW o ho).1 (hW o ho).2
  unfold kx_cache
  rw [e 25 (by decide), e 26 (by decide)]
  exact h
theorem c_K_loseIfBroken {d : Nat} {Q : kr_Q} {μ : kr_M} {g : Nat → Nat} {K l : Nat} {R : kx_R} (hK : μ.1 1 10 = nI K) (hK5 : K ≤ 5) (hN : g 0 ≤ 12) (hl : l < g 0) (hs : R.1 l < 2 ^ 31) (hA : ∀ p, p < K → R.2.1 p ≤ 1000) (hR : kr_RC μ g K R) (k : ∀ μ', kr_keep [29] [] μ μ' → kr_RC μ' g K (kx_l1 K l R) → Q none μ') : kr_c (d + 1) i_K_loseIfBroken [.ref 27, .int (nI l)] μ Q := by
  have vl : vp_in (nI l) 12 := vp_in_nI (by omega) (by decide)
  have e0 : ∀ i, ¬ R.1 l = 0 ∨ i = 0 → kx_l1 i l R = R := by
    intro i c
    have : (fun p => if p < i ∧ R.2.1 p = 100 + l ∧ R.1 l = 0 then 1000 else R.2.1 p) = R.2.1 := by
      funext p
      rcases c with c | c
      · exact if_neg (fun z => c z.2.2)
      · exact if_neg (fun z => by omega)
    show (R.1, _, R.2.2) = R
    rw [this]
  refine v_K_loseIfBroken ⟨vl, ?_⟩
  rw [nI_clamp (by omega), hR.1 l hl, show (0 : Int32) = nI 0 from rfl, nI_leI hs (by decide)]
  refine ⟨fun c => ?_, fun c => ?_⟩
  · have main : ∀ i, i ≤ K → ∀ μ', kr_keep [29] [] μ μ' → kr_RC μ' g K (kx_l1 i l R) → kr_Wp C_K_loseIfBroken (kr_c d) Q 12 [some (.ref 27), some (.int (nI l)), some (.int (nI i))] [] μ' := by
      refine kr_up (I := fun i => ∀ μ', kr_keep [29] [] μ μ' → kr_RC μ' g K (kx_l1 i l R) → kr_Wp C_K_loseIfBroken (kr_c d) Q 12 [some (.ref 27), some (.int (nI l)), some (.int (nI i))] [] μ') K ?_ ?_
      · intro μ' hk hr
        refine v_K_loseIfBroken_12 (br_t ?_ (k μ' hk hr))
        rw [hk.2 1 10 (by decide) (by decide), hK]
        exact Int32.le_refl _
      · intro i hi ih μ' hk hr
        have vi : vp_in (nI i) 5 := vp_in_nI (by omega) (by decide)
        obtain ⟨r1, r2⟩ := hr
        obtain ⟨p1, p2, p3, p4⟩ := r2 i hi
        have ei : (kx_l1 i l R).2.1 i = R.2.1 i := if_neg (fun z => absurd z.1 (Nat.lt_irrefl _))
        rw [ei] at p1
        refine v_K_loseIfBroken_12 (br_f ?_ ⟨vi, ?_⟩)
        · rw [hk.2 1 10 (by decide) (by decide), hK]
          exact nI_ge hi (by omega)
        rw [nI_clamp (by omega), p1, show (100 : Int32) = nI 100 from rfl, nI_add, kx_pw_eq (hA i hi) (by omega), kr_n1]
        refine ⟨fun c2 => ?_, fun c2 => ⟨vi, ?_⟩⟩
        · have e : kx_l1 (i + 1) l R = kx_l1 i l R := by
            have : (fun p => if p < i + 1 ∧ R.2.1 p = 100 + l ∧ R.1 l = 0 then 1000 else R.2.1 p) = (fun p => if p < i ∧ R.2.1 p = 100 + l ∧ R.1 l = 0 then 1000 else R.2.1 p) := by
              funext p
              by_cases e : p = i
              · subst e
                rw [if_neg (fun z => c2 z.2.1), if_neg (fun z => c2 z.2.1)]
              · have : (p < i + 1 ∧ R.2.1 p = 100 + l ∧ R.1 l = 0) ↔ (p < i ∧ R.2.1 p = 100 + l ∧ R.1 l = 0) := ⟨fun z => ⟨by omega, z.2⟩, fun z => ⟨by omega, z.2⟩⟩
                simp only [this]
            show (R.1, _, R.2.2) = (R.1, _, R.2.2)
            rw [this]
          rw [e] at ih
          exact ih μ' hk ⟨r1, r2⟩
        · have oth : ∀ p, p ≠ i → (kx_l1 (i + 1) l R).2.1 p = (kx_l1 i l R).2.1 p := by
            intro p e
            have : (p < i + 1 ∧ R.2.1 p = 100 + l ∧ R.1 l = 0) ↔ (p < i ∧ R.2.1 p = 100 + l ∧ R.1 l = 0) := ⟨fun z => ⟨by omega, z.2⟩, fun z => ⟨by omega, z.2⟩⟩
            show (if _ then _ else _) = (if _ then _ else _)
            simp only [this]
          have lost : (kx_l1 (i + 1) l R).2.1 i = 1000 := if_pos ⟨Nat.lt_succ_self i, c2, by omega⟩
          refine ih _ (hk.u _ _ (by decide)) ⟨fun j hj => ?_, fun p hp => ?_⟩
          · rw [kr_u_n _ _ _ (by decide)]; exact r1 j hj
          · rw [kr_u_s, kr_u_n _ _ _ (by decide), kr_u_n _ _ _ (by decide), kr_u_n _ _ _ (by decide), kr_u_n _ _ _ (by decide)]
            by_cases e : p = i
            · rw [e, kr_upd_s, lost]
              exact ⟨rfl, fun _ z => absurd z (Nat.lt_irrefl _), p3, p4⟩
            · rw [kr_upd_n _ _ e, oth p e]
              exact r2 p hp
    refine main 0 (Nat.zero_le _) μ kr_keep.rf ?_
    rw [e0 0 (Or.inr rfl)]
    exact hR
  · rw [e0 K (Or.inl (by omega))] at k
    exact k μ kr_keep.rf hR
theorem kx_ls_0 (K : Nat) (R : kx_R) : kx_ls K 0 R = R := by
  have : (fun p => if p < K ∧ 100 ≤ R.2.1 p ∧ R.2.1 p < 100 + 0 ∧ R.1 (R.2.1 p - 100) = 0 then 1000 else R.2.1 p) = R.2.1 := funext fun p => if_neg (fun z => by omega)
  show (R.1, _, R.2.2) = R
  rw [this]
theorem kx_ls_s (K l : Nat) (hl : l < 12) (R : kx_R) : kx_l1 K l (kx_ls K l R) = kx_ls K (l + 1) R := by
  have : (fun p => if p < K ∧ (kx_ls K l R).2.1 p = 100 + l ∧ R.1 l = 0 then 1000 else (kx_ls K l R).2.1 p) = (fun p => if p < K ∧ 100 ≤ R.2.1 p ∧ R.2.1 p < 100 + (l + 1) ∧ R.1 (R.2.1 p - 100) = 0 then 1000 else R.2.1 p) := by
    funext p
    have e : (kx_ls K l R).2.1 p = if p < K ∧ 100 ≤ R.2.1 p ∧ R.2.1 p < 100 + l ∧ R.1 (R.2.1 p - 100) = 0 then 1000 else R.2.1 p := rfl
    by_cases c : p < K ∧ 100 ≤ R.2.1 p ∧ R.2.1 p < 100 + l ∧ R.1 (R.2.1 p - 100) = 0
    · rw [if_pos c] at e
      rw [e, if_neg (fun z => by omega), if_pos ⟨c.1, c.2.1, by omega, c.2.2.2⟩]
    · rw [if_neg c] at e
      rw [e]
      by_cases c2 : p < K ∧ R.2.1 p = 100 + l ∧ R.1 l = 0
      · rw [if_pos c2, if_pos ⟨c2.1, by omega, by omega, by rw [c2.2.1, Nat.add_sub_cancel_left]; exact c2.2.2⟩]
      · rw [if_neg c2]
        refine (if_neg (fun z => ?_)).symm
        by_cases c3 : R.2.1 p < 100 + l
        · exact c ⟨z.1, z.2.1, c3, z.2.2.2⟩
        · have c4 : R.2.1 p = 100 + l := by omega
          have z4 := z.2.2.2
          rw [c4, Nat.add_sub_cancel_left] at z4
          exact c2 ⟨z.1, c4, z4⟩
  exact congrArg (fun f => (R.1, f, R.2.2)) this
theorem kx_ls_all {g : Nat → Nat} {K : Nat} {R : kx_R} (hA : ∀ p, p < K → R.2.1 p ≤ 1000 ∧ (100 ≤ R.2.1 p → R.2.1 p < 1000 → R.2.1 p - 100 < g 0)) (hN : g 0 ≤ 12) : kx_ls K (g 0) R = kx_lo K R := by
  have : (fun p => if p < K ∧ 100 ≤ R.2.1 p ∧ R.2.1 p < 100 + g 0 ∧ R.1 (R.2.1 p - 100) = 0 then 1000 else R.2.1 p) = (fun p => if p < K ∧ 100 ≤ R.2.1 p ∧ R.2.1 p < 1000 ∧ R.1 (R.2.1 p - 100) = 0 then 1000 else R.2.1 p) := by
    funext p
    have : (p < K ∧ 100 ≤ R.2.1 p ∧ R.2.1 p < 100 + g 0 ∧ R.1 (R.2.1 p - 100) = 0) ↔ (p < K ∧ 100 ≤ R.2.1 p ∧ R.2.1 p < 1000 ∧ R.1 (R.2.1 p - 100) = 0) := by
      refine ⟨fun z => ⟨z.1, z.2.1, by omega, z.2.2.2⟩, fun z => ⟨z.1, z.2.1, ?_, z.2.2.2⟩⟩
      have := (hA p z.1).2 z.2.1 z.2.2.1
      omega
    simp only [this]
  show (R.1, _, R.2.2) = (R.1, _, R.2.2)
  rw [this]
theorem kx_l1_lo {K l : Nat} {R : kx_R} (hl : l < 12) (hA : ∀ p, p < K → 100 ≤ R.2.1 p → R.2.1 p < 1000 → R.2.1 p - 100 = l ∨ 0 < R.1 (R.2.1 p - 100)) : kx_l1 K l R = kx_lo K R := by
  have : (fun p => if p < K ∧ R.2.1 p = 100 + l ∧ R.1 l = 0 then 1000 else R.2.1 p) = (fun p => if p < K ∧ 100 ≤ R.2.1 p ∧ R.2.1 p < 1000 ∧ R.1 (R.2.1 p - 100) = 0 then 1000 else R.2.1 p) := by
    funext p
    have : (p < K ∧ R.2.1 p = 100 + l ∧ R.1 l = 0) ↔ (p < K ∧ 100 ≤ R.2.1 p ∧ R.2.1 p < 1000 ∧ R.1 (R.2.1 p - 100) = 0) := by
      refine ⟨fun z => ⟨z.1, by omega, by omega, by rw [z.2.1, Nat.add_sub_cancel_left]; exact z.2.2⟩, fun z => ?_⟩
      rcases hA p z.1 z.2.1 z.2.2.1 with y | y
      · have z4 := z.2.2.2
        rw [y] at z4
        exact ⟨z.1, by omega, z4⟩
      · omega
    simp only [this]
  show (R.1, _, R.2.2) = (R.1, _, R.2.2)
  rw [this]
theorem c_K_fallOfRain {d : Nat} {Q : kr_Q} {μ : kr_M} {g t : Nat → Nat} {K n : Nat} {R : kx_R} (hW : kr_Wy μ g) (hg : kx_gb g) (h7 : μ.1 1 7 = nI (kr_bm (g 0) (fun l => kr_gk g l 4 == 1))) (hP : kr_PC μ K t) (hK5 : K ≤ 5) (hR : kr_RC μ g K R) (hJ : kx_J false g t K n R) (k : ∀ μ', kr_keep [28, 29] [] μ μ' → kr_RC μ' g K (kx_lo K (kx_ra g R)) → Q none μ') : kr_c (d + 4) i_K_fallOfRain [.ref 27] μ Q := by
  obtain ⟨hN, h61, hlb⟩ := id hg
  have hpre := hJ.ra.lo_pre hN
  refine v_K_fallOfRain (c_R_rainRubs28 hW.1.1 hN h7 (fun l hl => by have := hlb l hl; omega) hR.1 (fun l hl => by have := hJ.1 l hl; omega) (fun μ1 hk1 h1 => v_K_fallOfRain_11 ?_))
  have hR1 : kr_RC μ1 g K (kx_ra g R) := by
    refine ⟨fun l hl => ?_, ?_⟩
    · rw [h1 l hl]
      congr 1
      show _ = (if l < g 0 ∧ kr_gk g l 4 = 0 then R.1 l - 1 else R.1 l)
      by_cases c : kr_gk g l 4 = 0
      · rw [if_pos c, if_pos ⟨hl, c⟩]
      · rw [if_neg c, if_neg (fun z => c z.2)]
    · rw [hk1.row (o := 29) (by decide) (by decide), hk1.row (o := 30) (by decide) (by decide), hk1.row (o := 31) (by decide) (by decide), hk1.row (o := 32) (by decide) (by decide), hk1.row (o := 33) (by decide) (by decide)]
      exact hR.2
  have hk1 : kr_keep [28, 29] [] μ μ1 := hk1.wk (by decide) (by decide)
  rw [hk1.2 1 2 (by decide) (by decide), hW.1.1, show (0 : Int32) = nI 0 from rfl, nI_leI (by omega) (by decide)]
  rw [← kx_ls_all hpre hN] at k
  have call : ∀ l, l < g 0 → ∀ μ', kr_keep [28, 29] [] μ μ' → kr_RC μ' g K (kx_ls K l (kx_ra g R)) → (∀ μ', kr_keep [28, 29] [] μ μ' → kr_RC μ' g K (kx_ls K (l + 1) (kx_ra g R)) → kr_Wp C_K_fallOfRain (kr_c (d + 3)) Q 29 [some (.ref 27), some (.int (nI l))] [] μ') → kr_c (d + 3) i_K_loseIfBroken [.ref 27, .int (nI l)] μ' (kr_bk (kr_Wp C_K_fallOfRain (kr_c (d + 3)) Q) 29 [some (.ref 27), some (.int (nI l))] []) := by
    intro l hl μ' hk hr kk
    refine c_K_loseIfBroken (by rw [hk.2 1 10 (by decide) (by decide)]; exact hP.1) hK5 hN hl (by have := hJ.ra.1 l hl; show (kx_ra g R).1 l < _; omega) (fun p hp => ?_) hr (fun μ2 hk2 hr2 => ?_)
    · have := (hpre p hp).1
      show (if _ then _ else _) ≤ 1000
      split <;> omega
    · rw [kx_ls_s K l (by omega)] at hr2
      exact kk μ2 (hk.tr (hk2.wk (by decide) (by decide))) hr2
  refine ⟨fun c => ?_, fun c => ?_⟩
  · have e0 : g 0 = 0 := by omega
    rw [e0, kx_ls_0] at k
    exact k μ1 hk1 hR1
  · have main : ∀ l, l ≤ g 0 - 1 → ∀ μ', kr_keep [28, 29] [] μ μ' → kr_RC μ' g K (kx_ls K (l + 1) (kx_ra g R)) → kr_Wp C_K_fallOfRain (kr_c (d + 3)) Q 29 [some (.ref 27), some (.int (nI l))] [] μ' := by
      refine kr_up (I := fun l => ∀ μ', kr_keep [28, 29] [] μ μ' → kr_RC μ' g K (kx_ls K (l + 1) (kx_ra g R)) → kr_Wp C_K_fallOfRain (kr_c (d + 3)) Q 29 [some (.ref 27), some (.int (nI l))] [] μ') (g 0 - 1) ?_ ?_
      · intro μ' hk hr
        have e1 : g 0 - 1 + 1 = g 0 := by omega
        rw [e1] at hr
        refine v_K_fallOfRain_29 (br_t ?_ (k μ' hk hr))
        rw [hk.2 1 2 (by decide) (by decide), hW.1.1, kr_n1, e1]
        exact Int32.le_refl _
      · intro l hl ih μ' hk hr
        refine v_K_fallOfRain_29 (br_f ?_ ?_)
        · rw [hk.2 1 2 (by decide) (by decide), hW.1.1, kr_n1]
          exact nI_ge (by omega) (by omega)
        · rw [kr_n1]
          exact call (l + 1) (by omega) μ' hk hr ih
    refine call 0 (by omega) μ1 hk1 ?_ (main 0 (Nat.zero_le _))
    rw [kx_ls_0]
    exact hR1
