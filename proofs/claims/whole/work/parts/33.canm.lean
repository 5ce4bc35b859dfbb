/-! who draws what: the reference can draw, whom it finds -/
def kx_sb (S T : Nat) : Prop := ∀ i, S.testBit i = true → T.testBit i = true
theorem kx_sb_iff {S T : Nat} (h : S < 2 ^ 31) : nI S &&& (nI T ^^^ (-1)) = 0 ↔ kx_sb S T := by
  rw [kr_andn S T h, show (0 : Int32) = nI 0 from rfl, nI_eq (kr_bm_lt _ 31) (by decide)]
  constructor
  · intro e i hi
    have h1 : (kr_bm 31 (fun i => S.testBit i && !T.testBit i)).testBit i = false := by rw [e]; simp
    have h31 : i < 31 := by
      apply Decidable.byContradiction
      intro c
      rw [kr_lt_bit h (by omega)] at hi
      cases hi
    rw [kr_bm_bit] at h1
    simpa [h31, hi] using h1
  · intro hs
    apply Nat.eq_of_testBit_eq
    intro i
    rw [kr_bm_bit, Nat.zero_testBit]
    cases hb : S.testBit i
    · simp
    · rw [hs i hb]; simp
theorem kx_sb_lt {S T N : Nat} (hT : T < 2 ^ N) (h : kx_sb S T) : S < 2 ^ N := by
  apply Nat.lt_pow_two_of_testBit
  intro i hi
  cases hb : S.testBit i
  · rfl
  · have := h i hb
    rw [Nat.testBit_lt_two_pow (Nat.lt_of_lt_of_le hT (Nat.pow_le_pow_right (n := 2) (by decide) hi))] at this
    cases this
theorem kx_cls_lt {S l : Nat} (h : S < 2 ^ 31) (hb : S.testBit l = true) : kr_cl S l < S := by
  apply Nat.lt_of_le_of_ne (kr_cl_le h)
  intro e
  have := kr_cl_bit (l := l) (i := l) h
  rw [e, hb] at this
  simp at this
theorem kx_cl_sb {S T l : Nat} (h : S < 2 ^ 31) (hs : kx_sb S T) : kx_sb (kr_cl S l) T := by
  intro i hi
  rw [kr_cl_bit h] at hi
  simp at hi
  exact hs i hi.1
/-- the reference's row used, of sets below i -/
def kr_Us (μ : kr_M) (y : Nat → Nat) (N m : Nat) (cap : Nat → Nat) (T : Nat) (U : Nat → Nat) (i : Nat) : Prop := ∀ S, S < i → kx_sb S T → μ.1 79 S = nI (U S) ∧ kx_T y N m cap S (U S) ∧ U S ≤ kx_F ∧ (S = 0 → U S = 0)
/-- of set S, behind its first l lines -/
def kx_Ul (y : Nat → Nat) (m : Nat) (cap : Nat → Nat) (U : Nat → Nat) (S l u : Nat) : Prop := u ≤ kx_F ∧ (S = 0 → u = 0) ∧ (S ≠ 0 → (∀ j, j < l → S.testBit j = true → u ≤ kx_sv m cap (y j) (U (kr_cl S j))) ∧ (u = kx_F ∨ ∃ j, j < l ∧ S.testBit j = true ∧ u = kx_sv m cap (y j) (U (kr_cl S j))))
theorem kx_Ul_no {y : Nat → Nat} {m : Nat} {cap : Nat → Nat} {U : Nat → Nat} {S l u : Nat} (h : kx_Ul y m cap U S l u) (hb : S.testBit l = true → kx_sv m cap (y l) (U (kr_cl S l)) = kx_F) : kx_Ul y m cap U S (l + 1) u := by
  refine ⟨h.1, h.2.1, fun h0 => ⟨fun j hj hbj => ?_, ?_⟩⟩
  · by_cases e : j = l
    · subst e
      rw [hb hbj]; exact h.1
    · exact (h.2.2 h0).1 j (by omega) hbj
  · rcases (h.2.2 h0).2 with c | ⟨j, h1, h2, h3⟩
    · exact Or.inl c
    · exact Or.inr ⟨j, by omega, h2, h3⟩
theorem kx_Ul_yes {y : Nat → Nat} {m : Nat} {cap : Nat → Nat} {U : Nat → Nat} {S l u v : Nat} (h : kx_Ul y m cap U S l u) (hb : S.testBit l = true) (hv : kx_sv m cap (y l) (U (kr_cl S l)) = v) (hvF : v ≤ kx_F) : kx_Ul y m cap U S (l + 1) (if u ≤ v then u else v) := by
  have hne : S ≠ 0 := by intro z; rw [z] at hb; simp at hb
  refine ⟨by have := h.1; split <;> omega, fun z => absurd z hne, fun h0 => ⟨fun j hj hbj => ?_, ?_⟩⟩
  · by_cases e : j = l
    · subst e
      rw [hv]; split <;> omega
    · have := (h.2.2 h0).1 j (by omega) hbj
      split <;> omega
  · by_cases c : u ≤ v
    · rw [if_pos c]
      rcases (h.2.2 h0).2 with c | ⟨j, h1, h2, h3⟩
      · exact Or.inl c
      · exact Or.inr ⟨j, by omega, h2, h3⟩
    · rw [if_neg c]
      exact Or.inr ⟨l, by omega, hb, hv.symm⟩
theorem kx_T_10k {y : Nat → Nat} {N m : Nat} {cap : Nat → Nat} {S u : Nat} (hm : m ≤ 5) (h : kx_T y N m cap S u) (hu : u ≠ kx_F) : u < 10000 := by
  obtain ⟨k, s, e, h1, -, -, h2, h3⟩ := h.1 hu
  by_cases c : S = 0
  · have := h3 c
    omega
  · have := h2 c
    omega
theorem kx_FI : nI kx_F = 1000000000 := rfl
theorem c_M_canDraw {d : Nat} {Q : kr_Q} {μ : kr_M} {g : Nat → Nat} {who D T : Nat} {h : Nat → Nat} (hM : kr_Mg μ g) (hg : kx_gb g) (hr : kr_Rw μ who D) (hD5 : D ≤ 5) (h80 : ∀ e, e < D → μ.1 80 e = nI (h e)) (hh : ∀ e, e < D → h e < 1000) (hT : T < 2 ^ g 0) (k : ∀ μ', kr_keep [79] [] μ μ' → Q (some (.int (if kx_gv (fun l => kr_gk g l 2) D T (g 0) 0 (kx_wc who h) = true then 1 else 0))) μ') : kr_c (d + 2) i_M_canDraw [.ref 65, .int (nI T)] μ Q := by
  have hN := hg.1
  have hp12 : 2 ^ g 0 ≤ 2 ^ 12 := Nat.pow_le_pow_right (by decide) hN
  have hm : kr_ones D who ≤ D := kr_ones_le who D
  have hcap : ∀ j, kx_cp who D h j < 1000 := by
    intro j
    unfold kx_cp
    by_cases c : j < kr_ones D who
    · rw [if_pos c]; exact hh _ (kx_rw_sp c).1
    · rw [if_neg c]; decide
  have hF : kx_F = 1000000000 := rfl
  refine v_M_canDraw ?_
  have main : ∀ i, i ≤ T + 1 → ∀ μ' U, kr_keep [79] [] μ μ' → kr_Us μ' (fun l => kr_gk g l 2) (g 0) (kr_ones D who) (kx_cp who D h) T U i → kr_Wp C_M_canDraw (kr_c (d + 1)) Q 2 [some (.ref 65), some (.int (nI T)), some (.int (nI i)), none, none, none] [] μ' := by
    refine kr_up (I := fun i => ∀ μ' U, kr_keep [79] [] μ μ' → kr_Us μ' (fun l => kr_gk g l 2) (g 0) (kr_ones D who) (kx_cp who D h) T U i → kr_Wp C_M_canDraw (kr_c (d + 1)) Q 2 [some (.ref 65), some (.int (nI T)), some (.int (nI i)), none, none, none] [] μ') (T + 1) ?_ ?_
    · intro μ' U hk hU
      obtain ⟨e1, e2, e3, e4⟩ := hU T (by omega) (fun _ z => z)
      refine v_M_canDraw_2 (br_t (nI_lt (by omega) (by omega)) ?_)
      have fit := kx_T_fit hN hD5 hT (fun l hl => (hg.2.2 l hl).2.2.2.1) hh e2 e4
      have k2 := k μ' hk
      rw [nI_clamp (by omega), e1, show (1000000000 : Int32) = nI kx_F from rfl, nI_eq (by omega) (by omega)]
      refine ⟨vp_in_nI (by omega) (by decide), fun c => ?_, fun c => ?_⟩
      · rw [if_neg (fun z => fit.mpr z c)] at k2; exact k2
      · rw [if_pos (fit.mp c)] at k2; exact k2
    · intro S hS ih μ' U hk hU
      have hS31 : S < 2 ^ 31 := by omega
      refine v_M_canDraw_2 (br_f (nI_nlt (by omega) (by omega)) ?_)
      rw [kx_sb_iff hS31, nI_clamp (by omega), kr_n1, kr_eq0 hS31]
      refine ⟨fun c => ih μ' U hk (fun R hR hsb => ?_), fun c => ?_⟩
      · have : R ≠ S := fun e => c (by rw [← e]; exact hsb)
        exact hU R (by omega) hsb
      have hSN : S < 2 ^ g 0 := kx_sb_lt hT c
      have inner : ∀ l, l ≤ g 0 → ∀ μ'' u, kr_keep [79] [] μ μ'' → kr_Us μ'' (fun l => kr_gk g l 2) (g 0) (kr_ones D who) (kx_cp who D h) T U S → μ''.1 79 S = nI u → kx_Ul (fun l => kr_gk g l 2) (kr_ones D who) (kx_cp who D h) U S l u → kr_Wp C_M_canDraw (kr_c (d + 1)) Q 33 [some (.ref 65), some (.int (nI T)), some (.int (nI S)), some (.int (nI l)), none, none] [] μ'' := by
        refine kr_up (I := fun l => ∀ μ'' u, kr_keep [79] [] μ μ'' → kr_Us μ'' (fun l => kr_gk g l 2) (g 0) (kr_ones D who) (kx_cp who D h) T U S → μ''.1 79 S = nI u → kx_Ul (fun l => kr_gk g l 2) (kr_ones D who) (kx_cp who D h) U S l u → kr_Wp C_M_canDraw (kr_c (d + 1)) Q 33 [some (.ref 65), some (.int (nI T)), some (.int (nI S)), some (.int (nI l)), none, none] [] μ'') (g 0) ?_ ?_
        · intro μ'' u hk2 hU2 he hl
          have hM2 := hM.kp hk2 (by decide)
          refine v_M_canDraw_33 (br_t (by rw [hM2 0 (by decide)]; exact Int32.le_refl _) ?_)
          rw [kr_n1]
          refine ih μ'' (kx_un U S u) hk2 (fun R hR hsb => ?_)
          by_cases e : R = S
          · rw [e, kx_un_s]
            refine ⟨he, ?_, hl.1, hl.2.1⟩
            by_cases h0 : S = 0
            · rw [hl.2.1 h0, h0]; exact kx_T0 _ _ _ _
            · exact kx_T_step (us := fun j => U (kr_cl S j)) (by omega) hcap (fun j hj _ => (hg.2.2 j hj).2.2.2.1) hSN hN h0 (fun j hj hb => (hU2 _ (kx_cls_lt hS31 hb) (kx_cl_sb hS31 c)).2.1) (hl.2.2 h0).1 (hl.2.2 h0).2
          · rw [kx_un_n _ _ e]; exact hU2 R (by omega) hsb
        · intro l hl ih2 μ'' u hk2 hU2 he hul
          have hM2 := hM.kp hk2 (by decide)
          have hu31 : u < 2 ^ 31 := by have := hul.1; omega
          have vS : vp_in (nI S) 4096 := vp_in_nI (by omega) (by decide)
          refine v_M_canDraw_33 (br_f (by rw [hM2 0 (by decide)]; exact nI_ge hl (by omega)) ?_)
          have hcS := kr_cl_le (l := l) hS31
          rw [kr_bit1 hS31 (by omega), kr_andc hS31 (by omega), nI_clamp (by omega), nI_clamp (by omega), he, show (1000000000 : Int32) = nI kx_F from rfl, nI_leI hu31 (by omega), kr_n1]
          have stay : ∀ w, u = w → kx_Ul (fun l => kr_gk g l 2) (kr_ones D who) (kx_cp who D h) U S (l + 1) u → kr_Wp C_M_canDraw (kr_c (d + 1)) Q 33 [some (.ref 65), some (.int (nI T)), some (.int (nI S)), some (.int (nI (l + 1))), none, none] [] (kr_u μ'' 79 S (nI w)) := by
            intro w hw hul2
            refine ih2 _ u (hk2.u _ _ (by decide)) (fun R hR hsb => ?_) ?_ hul2
            · rw [kr_u_s, kr_upd_n _ _ (by omega)]; exact hU2 R hR hsb
            · rw [kr_u_s, kr_upd_s, hw]
          refine ⟨fun cb => ⟨vS, fun c1 => ⟨vS, vS, stay u rfl (kx_Ul_no hul (fun z => absurd z cb))⟩, fun c1 => absurd hul.1 c1⟩, fun cb => ?_⟩
          have hlt := kx_cls_lt hS31 cb
          obtain ⟨e1, e2, e3, e4⟩ := hU2 _ hlt (kx_cl_sb hS31 c)
          rw [e1, nI_eq (by omega) (by omega), kr_ofg2 hM2 (by omega)]
          refine ⟨vp_in_nI (by omega) (by decide), fun c3 => ⟨kr_ofv2 (by omega), ?_⟩, fun c3 => ⟨vS, fun c1 => ⟨vS, vS, stay u rfl (kx_Ul_no hul (fun _ => ?_))⟩, fun c1 => absurd hul.1 c1⟩⟩
          · have hr2 : kr_Rw μ'' who D := ⟨by rw [hk2.2 65 33 (by decide) (by decide)]; exact hr.1, fun e he2 hb2 => by rw [hk2.row (o := 81) (by decide) (by decide)]; exact hr.2 e he2 hb2⟩
            have hy := (hg.2.2 l hl).2.2.2.2.1
            have hsv : kx_sv (kr_ones D who) (kx_cp who D h) (kr_gk g l 2) (U (kr_cl S l)) = kx_ut (kr_ones D who) (kx_cp who D h) (kr_gk g l 2) 6 (U (kr_cl S l) / 1000) (U (kr_cl S l) % 1000 + kr_gk g l 2) := if_neg c3
            have hle := kx_ut_le (yy := kr_gk g l 2) (show kr_ones D who ≤ 5 by omega) hcap 6 (U (kr_cl S l) / 1000) (U (kr_cl S l) % 1000 + kr_gk g l 2)
            refine c_M_usedThen hr2 hD5 (fun e he2 => by rw [hk2.row (o := 80) (by decide) (by decide)]; exact h80 e he2) hh (kx_T_10k (by omega) e2 c3) hy ?_
            generalize hv : kx_ut (kr_ones D who) (kx_cp who D h) (kr_gk g l 2) 6 (U (kr_cl S l) / 1000) (U (kr_cl S l) % 1000 + kr_gk g l 2) = v at hsv hle ⊢
            have hy2 := kx_Ul_yes hul cb hsv hle
            refine v_M_canDraw_95 ⟨vS, ?_⟩
            rw [nI_clamp (by omega), he, nI_leI hu31 (by omega), kr_n1]
            refine ⟨fun c4 => ⟨vS, vS, ?_⟩, fun c4 => ⟨vS, ?_⟩⟩
            · rw [if_pos c4] at hy2
              exact stay u rfl hy2
            · rw [if_neg c4] at hy2
              refine ih2 _ v (hk2.u _ _ (by decide)) (fun R hR hsb => ?_) ?_ hy2
              · rw [kr_u_s, kr_upd_n _ _ (by omega)]; exact hU2 R hR hsb
              · rw [kr_u_s, kr_upd_s]
          · exact if_pos c3
      have start : ∀ w, (S = 0 → w = 0) → (S ≠ 0 → w = kx_F) → kr_Wp C_M_canDraw (kr_c (d + 1)) Q 33 [some (.ref 65), some (.int (nI T)), some (.int (nI S)), some (.int 0), none, none] [] (kr_u μ' 79 S (nI w)) := by
        intro w w1 w2
        refine inner 0 (Nat.zero_le _) _ w (hk.u _ _ (by decide)) (fun R hR hsb => ?_) ?_ ⟨?_, w1, fun z => ⟨fun j hj => absurd hj (Nat.not_lt_zero j), Or.inl (w2 z)⟩⟩
        · rw [kr_u_s, kr_upd_n _ _ (by omega)]; exact hU R hR hsb
        · rw [kr_u_s, kr_upd_s]
        · by_cases z : S = 0
          · rw [w1 z]; omega
          · rw [w2 z]; omega
      refine ⟨fun c0 => ⟨vp_in_nI (by omega) (by decide), start kx_F (fun z => absurd z c0) (fun _ => rfl)⟩, fun c0 => ⟨vp_in_nI (by omega) (by decide), start 0 (fun _ => rfl) (fun z => absurd c0 z)⟩⟩
  exact main 0 (Nat.zero_le _) μ (fun _ => 0) kr_keep.rf (fun S hS => absurd hS (Nat.not_lt_zero S))
