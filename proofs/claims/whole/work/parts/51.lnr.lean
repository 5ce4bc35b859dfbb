/-! lines of the text: the reference, whole -/
section
variable {d : Nat} {Q : kr_Q} {μ : kr_M} {n : Nat} {b : Nat → Nat} {g t : Nat → Nat} {P D K : Nat}
abbrev kr_mQ : List (Nat × Nat) := [(65, 7), (65, 8), (65, 9), (65, 11), (65, 12), (65, 15), (65, 16), (65, 17), (65, 18), (65, 19), (65, 20)]
theorem c_M_readOne {x1 : kp_X} {E : kp_D} {h : Nat} (hT : kr_TM μ n b) (hw : kx_tw n b) (hS : kr_MS μ n b x1) (hv : kr_Mv μ E) (hK : E.2.1.2.2 < 5) (hh : kr_hx μ h) (k : ∀ y1 y2 y3 x2 x3 x4, y1 = kp_lk n b 0 8 x1 → x2 = kp_ad n b y1 → y2 = kp_lk n b 0 8 x2 → x3 = kp_ad n b (kp_df n b (kp_vl n b y1) y2) → y3 = kp_lk n b 0 40 x3 → x4 = kp_ad n b y3 → ∀ μ', kr_keep [70] kr_mQ μ μ' → kr_MS μ' n b x4 → kr_Mv μ' (E.1, (E.2.1.1, E.2.1.2.1, E.2.1.2.2 + 1), kz_on E.2.2.1 E.2.1.2.2 (kp_vl n b y1) (kp_vl n b y2) (kp_vl n b y3), E.2.2.2) → kr_hx μ' (max (max h (kp_vl n b y1)) (kp_vl n b y2)) → Q none μ') : kr_c (d + 5) i_M_readOne [.ref 65] μ Q := by
  obtain ⟨g, ⟨P, D, K⟩, t, hp⟩ := E
  have hK : K < 5 := hK
  obtain ⟨v1, ⟨v7, v8, v9⟩, v3, v4⟩ := hv
  have v9 : μ.1 65 9 = nI K := v9
  have v3 : ∀ j, j < 3 * K → μ.1 70 j = nI (t j) := v3
  refine v_M_readOne ?_
  rw [v9, show (3 : Int32) = nI 3 from rfl, pk_mul]
  refine c_M_readPoint hT hw hS hh (fun μ1 hk1 hS1 hh1 => v_M_readOne_16 ?_)
  have hv1 := kp_vl_le (n := n) (b := b) (lo := 0) (hi := 8) (x := x1)
  generalize hy1 : kp_lk n b 0 8 x1 = y1 at *
  rw [nI_clamp (by omega), kr_upd_s, kr_n1]
  have vi : ∀ m, m < 3 → vp_in (nI (3 * K + m)) 15 := fun m hm => vp_in_nI (by omega) (by decide)
  refine ⟨vi 0 (by decide), vi 0 (by decide), ?_⟩
  have u1 : ∀ {μ0 : kr_M} {i v}, kr_keep [70] kr_mQ μ0 (kr_u μ0 70 i v) := fun {μ0 i v} => (kr_keep.rf (W := [70]) (F := kr_mQ) (μ := μ0)).u i v (by decide)
  have su : ∀ {μ0 : kr_M} {i v x}, kr_MS μ0 n b x → kr_MS (kr_u μ0 70 i v) n b x := fun {μ0 i v x} hs => hs.kp ((kr_keep.rf (W := [70]) (F := []) (μ := μ0)).u i v (by decide)) (by decide)
  have q1 : kr_keep [70] kr_mQ μ (kr_u μ1 70 (3 * K) (nI (kp_vl n b y1))) := (hk1.wk (by decide) (by decide)).tr u1
  refine c_M_readOther hv1 (hT.kp q1 (by decide)) hw (su hS1) hh1 (fun μ2 hk2 hS2 hh2 => v_M_readOne_34 ?_)
  generalize hx2 : kp_ad n b y1 = x2 at *
  generalize hy2 : kp_lk n b 0 8 x2 = y2 at *
  rw [nI_clamp (by omega), show (2 : Int32) = nI 2 from rfl, nI_add]
  refine ⟨vi 1 (by decide), ?_⟩
  have q2 : kr_keep [70] kr_mQ μ (kr_u μ2 70 (3 * K + 1) (nI (kp_vl n b y2))) := (q1.tr (hk2.wk (by decide) (by decide))).tr u1
  refine c_M_readNumber (lo := 0) (hi := 40) (hT.kp q2 (by decide)) hw (su hS2) (by decide) (by decide) (fun μ3 hk3 hS3 => v_M_readOne_49 ?_)
  generalize hx3 : kp_ad n b (kp_df n b (kp_vl n b y1) y2) = x3 at *
  generalize hy3 : kp_lk n b 0 40 x3 = y3 at *
  rw [nI_clamp (by omega)]
  refine ⟨vi 2 (by decide), ?_⟩
  have q3 : kr_keep [70] kr_mQ μ (kr_u μ3 70 (3 * K + 2) (nI (kp_vl n b y3))) := (q2.tr (hk3.wk (by decide) (by decide))).tr u1
  have e93 : μ3.1 65 9 = nI K := by
    rw [hk3.2 65 9 (by decide) (by decide)]
    show μ2.1 65 9 = _
    rw [hk2.2 65 9 (by decide) (by decide)]
    show μ1.1 65 9 = _
    rw [hk1.2 65 9 (by decide) (by decide)]
    exact v9
  rw [e93, show nI K + (1 : Int32) = nI (K + 1) from kr_n1 K]
  have same : ∀ j, (65, j) ∉ kr_mH → (kr_u μ3 70 (3 * K + 2) (nI (kp_vl n b y3))).1 65 j = μ.1 65 j := by
    intro j hj
    have nmN : (65, j) ∉ kr_mN := fun z => hj (List.mem_cons_of_mem _ z)
    show μ3.1 65 j = _
    rw [hk3.2 65 j (by decide) nmN]
    show μ2.1 65 j = _
    rw [hk2.2 65 j (by decide) hj]
    show μ1.1 65 j = _
    rw [hk1.2 65 j (by decide) hj]
  have k := k y1 y2 y3 x2 x3 (kp_ad n b y3) rfl hx2.symm hy2.symm hx3.symm hy3.symm rfl
  refine k _ (q3.f _ (by decide)) ((su hS3).kp ((kr_keep.rf (W := []) (F := [(65, 9)]) (μ := kr_u μ3 70 (3 * K + 2) (nI (kp_vl n b y3)))).f _ (by decide)) (by decide)) ⟨?_, ⟨?_, ?_, ?_⟩, fun j hj => ?_, ?_⟩ ?_
  · intro j hj
    show μ3.1 69 j = nI (g j)
    rw [hk3.row (o := 69) (by decide) (by decide)]
    show μ2.1 69 j = _
    rw [hk2.row (o := 69) (by decide) (by decide)]
    show μ1.1 69 j = _
    rw [hk1.row (o := 69) (by decide) (by decide)]
    exact v1 j hj
  · show (kr_u μ3 70 (3 * K + 2) (nI (kp_vl n b y3))).1 65 7 = _
    rw [same 7 (by decide)]; exact v7
  · show (kr_u μ3 70 (3 * K + 2) (nI (kp_vl n b y3))).1 65 8 = _
    rw [same 8 (by decide)]; exact v8
  · rfl
  · have hj : j < 3 * (K + 1) := hj
    show upd (μ3.1 70) (3 * K + 2) (nI (kp_vl n b y3)) j = nI (kz_on t K (kp_vl n b y1) (kp_vl n b y2) (kp_vl n b y3) j)
    unfold kz_on
    by_cases c2 : j = 3 * K + 2
    · rw [c2, kr_upd_s, kx_un_s]
    · rw [kr_upd_n _ _ c2, kx_un_n _ _ c2, hk3.row (o := 70) (by decide) (by decide), kr_u_s]
      by_cases c1 : j = 3 * K + 1
      · rw [c1, kr_upd_s, kx_un_s]
      · rw [kr_upd_n _ _ c1, kx_un_n _ _ c1, hk2.row (o := 70) (by decide) (by decide), kr_u_s]
        by_cases c0 : j = 3 * K
        · rw [c0, kr_upd_s, kx_un_s]
        · rw [kr_upd_n _ _ c0, kx_un_n _ _ c0, hk1.row (o := 70) (by decide) (by decide)]
          exact v3 j (by omega)
  · show (kr_u μ3 70 (3 * K + 2) (nI (kp_vl n b y3))).1 65 11 = _
    rw [same 11 (by decide)]; exact v4
  · refine ⟨hh2.1, ?_⟩
    show (μ3.1 65 12 = _ ∧ _) ∨ μ3.1 65 12 = _
    rw [hk3.2 65 12 (by decide) (by decide)]
    exact hh2.2
/-! what the two readings have in common -/
def kp_rel (n : Nat) (b : Nat → Nat) (X : kp_X) (L : kp_L) (V : kp_D) : Prop := (∀ c w, L = .inl (c, w) → X = .inl (c, w)) ∧ ∀ p' D', L = .inr (p', D') → X = kt_nx n b p' ∧ D' = V
theorem kp_rel_l {q : Nat × Nat} {V : kp_D} : kp_rel n b (.inl q) (.inl q) V := ⟨fun c w e => (by cases e; rfl), fun p D e => (by cases e)⟩
theorem kp_fin_rel0 {p : Nat} {V : kp_D} : kp_rel n b (kp_ad n b (kp_st n b (kt_nx n b p))) (kp_fin n b p V) V := by
  unfold kp_fin
  show kp_rel n b (kp_ad n b (kp_sg n b p)) _ V
  cases kp_sg n b p with
  | inl q => exact kp_rel_l
  | inr z => exact ⟨fun c w e => (by cases e), fun p D e => (by cases e; exact ⟨rfl, rfl⟩)⟩
theorem kp_fin_rel {y : kp_X} {F : Nat → kp_D} {V : kp_D} (hV : ∀ a, y = .inr a → F a = V) : kp_rel n b (kp_ad n b (kp_st n b (kp_ad n b y))) (kp_bd y (fun a => kp_fin n b (kt_e n b a) (F a))) V := by
  cases y with
  | inl q => exact kp_rel_l
  | inr a =>
    show kp_rel n b (kp_ad n b (kp_st n b (kt_nx n b (kt_e n b a)))) (kp_fin n b (kt_e n b a) (F a)) V
    rw [hV a rfl]
    exact kp_fin_rel0
theorem kp_one_rel {s : Nat} {E : kp_D} {y1 y2 y3 x2 x3 x4 : kp_X} (hK : ¬ 5 ≤ E.2.1.2.2) (e1 : y1 = kp_lk n b 0 8 (kt_nx n b (kt_e n b s))) (e2 : x2 = kp_ad n b y1) (e3 : y2 = kp_lk n b 0 8 x2) (e4 : x3 = kp_ad n b (kp_df n b (kp_vl n b y1) y2)) (e5 : y3 = kp_lk n b 0 40 x3) (e6 : x4 = kp_ad n b y3) : kp_rel n b (kp_ad n b (kp_st n b x4)) (kp_one n b s E) (E.1, (E.2.1.1, E.2.1.2.1, E.2.1.2.2 + 1), kz_on E.2.2.1 E.2.1.2.2 (kp_vl n b y1) (kp_vl n b y2) (kp_vl n b y3), E.2.2.2) := by
  unfold kp_one
  rw [if_neg hK, show kp_nm n b 0 8 (kt_e n b s) = y1 from e1.symm]
  cases y1 with
  | inl q =>
    subst e2; subst e3; subst e4; subst e5; subst e6
    exact kp_rel_l
  | inr a =>
    have e2 : x2 = kt_nx n b (kt_e n b a) := e2
    show kp_rel n b _ (kp_bd (kp_nm n b 0 8 (kt_e n b a)) _) _
    rw [show kp_nm n b 0 8 (kt_e n b a) = y2 by rw [e3, e2]; rfl]
    cases y2 with
    | inl q =>
      subst e4; subst e5; subst e6
      exact kp_rel_l
    | inr c =>
      show kp_rel n b _ (if kt_v n b a = kt_v n b c then _ else _) _
      by_cases ce : kt_v n b a = kt_v n b c
      · rw [if_pos ce]
        have ed : kp_df n b (kp_vl n b (.inr a)) (.inr c) = .inl (4, c) := if_pos ce.symm
        rw [ed] at e4
        subst e4; subst e5; subst e6
        exact kp_rel_l
      · rw [if_neg ce]
        have ed : kp_df n b (kp_vl n b (.inr a)) (.inr c) = .inr c := if_neg (fun z => ce z.symm)
        rw [ed] at e4
        have e4 : x3 = kt_nx n b (kt_e n b c) := e4
        rw [show kp_nm n b 0 40 (kt_e n b c) = y3 by rw [e5, e4]; rfl, e6]
        exact kp_fin_rel (fun z hz => by rw [hz]; rfl)
theorem kp_line_rel {s : Nat} {E : kp_D} {y1 y2 y3 y4 x2 x3 x4 x5 : kp_X} (hN : ¬ 12 ≤ E.1 0) (e1 : y1 = kp_lk n b 0 8 (kt_nx n b (kt_e n b s))) (e2 : x2 = kp_ad n b y1) (e3 : y2 = kp_lk n b 0 8 x2) (e4 : x3 = kp_ad n b (kp_df n b (kp_vl n b y1) y2)) (e5 : y3 = kp_lk n b 1 9 x3) (e6 : x4 = kp_ad n b y3) (e7 : y4 = kp_lk n b 0 9 x4) (e8 : x5 = kp_ad n b y4) : kp_rel n b (kp_ad n b (kp_st n b (kp_rx n b x5))) (kp_line n b s E) (kz_ln E.1 (kp_vl n b y1) (kp_vl n b y2) (kp_vl n b y3) (kp_vl n b y4) (kp_ro n b x5), E.2) := by
  unfold kp_line
  rw [if_neg hN, show kp_nm n b 0 8 (kt_e n b s) = y1 from e1.symm]
  cases y1 with
  | inl q =>
    subst e2; subst e3; subst e4; subst e5; subst e6; subst e7; subst e8
    exact kp_rel_l
  | inr a =>
    have e2 : x2 = kt_nx n b (kt_e n b a) := e2
    show kp_rel n b _ (kp_bd (kp_nm n b 0 8 (kt_e n b a)) _) _
    rw [show kp_nm n b 0 8 (kt_e n b a) = y2 by rw [e3, e2]; rfl]
    cases y2 with
    | inl q =>
      subst e4; subst e5; subst e6; subst e7; subst e8
      exact kp_rel_l
    | inr c =>
      show kp_rel n b _ (if kt_v n b a = kt_v n b c then _ else _) _
      by_cases ce : kt_v n b a = kt_v n b c
      · rw [if_pos ce]
        have ed : kp_df n b (kp_vl n b (.inr a)) (.inr c) = .inl (4, c) := if_pos ce.symm
        rw [ed] at e4
        subst e4; subst e5; subst e6; subst e7; subst e8
        exact kp_rel_l
      · rw [if_neg ce]
        have ed : kp_df n b (kp_vl n b (.inr a)) (.inr c) = .inr c := if_neg (fun z => ce z.symm)
        rw [ed] at e4
        have e4 : x3 = kt_nx n b (kt_e n b c) := e4
        rw [show kp_nm n b 1 9 (kt_e n b c) = y3 by rw [e5, e4]; rfl]
        cases y3 with
        | inl q =>
          subst e6; subst e7; subst e8
          exact kp_rel_l
        | inr y =>
          have e6 : x4 = kt_nx n b (kt_e n b y) := e6
          show kp_rel n b _ (kp_bd (kp_nm n b 0 9 (kt_e n b y)) _) _
          rw [show kp_nm n b 0 9 (kt_e n b y) = y4 by rw [e7, e6]; rfl]
          cases y4 with
          | inl q =>
            subst e8
            exact kp_rel_l
          | inr z =>
            have e8 : x5 = kt_nx n b (kt_e n b z) := e8
            show kp_rel n b _ (kp_bd (kt_nx n b (kt_e n b z)) _) _
            rw [← e8]
            cases hx5 : x5 with
            | inl q => exact kp_rel_l
            | inr r =>
              show kp_rel n b _ (if kt_is n b r 6 = true then _ else _) _
              have hok : kt_ok n b r = true := by
                have : kt_nx n b (kt_e n b z) = .inr r := by rw [← e8, hx5]
                unfold kt_nx at this
                split at this
                · rename_i hc
                  cases this
                  exact hc
                · cases this
              by_cases c6 : kt_is n b r 6 = true
              · have q1 := (kt_is_1 (by decide) hok c6).1
                rw [if_pos c6]
                have er : kp_rx n b (.inr r) = kt_nx n b (kt_e n b r) := by
                  show (if kt_k n b r = 1 then _ else _) = _
                  rw [if_pos q1, if_pos c6]
                have eo : kp_ro n b (.inr r) = 1 := if_pos q1
                rw [er, eo]
                exact kp_fin_rel0
              · rw [if_neg c6]
                by_cases c3 : kt_k n b r = 3
                · rw [if_pos c3]
                  have er : kp_rx n b (.inr r) = .inr r := if_neg (by omega)
                  have eo : kp_ro n b (.inr r) = 0 := if_neg (by omega)
                  rw [er, eo]
                  refine ⟨fun c w e => by (cases e), fun p D e => ?_⟩
                  cases e
                  refine ⟨?_, rfl⟩
                  show kp_ad n b (if kt_k n b r = 3 then _ else _) = _
                  rw [if_pos c3]; rfl
                · rw [if_neg c3]
                  have er : kp_ad n b (kp_st n b (kp_rx n b (.inr r))) = .inl (2, r) := by
                    by_cases c1 : kt_k n b r = 1
                    · have : kp_rx n b (.inr r) = .inl (2, r) := by
                        show (if kt_k n b r = 1 then _ else _) = _
                        rw [if_pos c1, if_neg c6]
                      rw [this]; rfl
                    · have : kp_rx n b (.inr r) = .inr r := if_neg c1
                      rw [this]
                      show kp_ad n b (if kt_k n b r = 3 then _ else _) = _
                      rw [if_neg c3]; rfl
                  rw [er]
                  exact kp_rel_l
theorem kp_gk_n {g : Nat → Nat} {i v j f : Nat} (h : 1 + 5 * j + f ≠ i) : kr_gk (kx_un g i v) j f = kr_gk g j f := kx_un_n _ _ h
/-! the highest point, and what may be, line by line -/
theorem kp_h2_cg {g' : Nat → Nat} : ∀ l x, (∀ j, j < l → kr_gk g' j 0 = kr_gk g j 0 ∧ kr_gk g' j 1 = kr_gk g j 1) → kp_h2 g' l x = kp_h2 g l x := by
  intro l
  induction l with
  | zero => intro x _; rfl
  | succ l ih =>
    intro x h
    unfold kp_h2
    rw [ih x (fun j hj => h j (by omega)), (h l (by omega)).1, (h l (by omega)).2]
theorem kp_h2_mx {x v : Nat} : ∀ l, kp_h2 g l (max x v) = max (kp_h2 g l x) v := by
  intro l
  induction l with
  | zero => rfl
  | succ l ih => unfold kp_h2; rw [ih]; omega
theorem kp_h3_cg {t' : Nat → Nat} : ∀ l x, (∀ j, j < l → t' (3 * j) = t (3 * j) ∧ t' (3 * j + 1) = t (3 * j + 1)) → kp_h3 t' l x = kp_h3 t l x := by
  intro l
  induction l with
  | zero => intro x _; rfl
  | succ l ih =>
    intro x h
    unfold kp_h3
    rw [ih x (fun j hj => h j (by omega)), (h l (by omega)).1, (h l (by omega)).2]
theorem kp_h3_mx {x v : Nat} : ∀ l, kp_h3 t l (max x v) = max (kp_h3 t l x) v := by
  intro l
  induction l with
  | zero => rfl
  | succ l ih => unfold kp_h3; rw [ih]; omega
theorem kp_h1_or {h v : Nat} : ∀ i, v < i → kp_h1 (h ||| 2 ^ v) i = max (kp_h1 h i) v := by
  intro i
  induction i with
  | zero => intro c; omega
  | succ i ih =>
    intro c
    unfold kp_h1
    rw [Nat.testBit_or, Nat.testBit_two_pow]
    have hle := kp_h1_le h i
    by_cases e : v = i
    · subst e
      rw [if_pos (by simp)]
      split <;> omega
    · rw [show (h.testBit i || decide (v = i)) = h.testBit i by simp [e]]
      by_cases c2 : h.testBit i = true
      · rw [if_pos c2, if_pos c2]; omega
      · rw [if_neg c2, if_neg c2]; exact ih (by omega)
theorem kp_hi_house {E : kp_D} {v : Nat} (hN : E.1 0 ≤ 12) (hv : v ≤ 8) : kp_hi (kx_un E.1 61 (E.1 61 ||| 2 ^ v), E.2) = max (kp_hi E) v := by
  obtain ⟨g, ⟨P, D, K⟩, t, hp⟩ := E
  have hN : g 0 ≤ 12 := hN
  show kp_h3 t K (kp_h2 (kx_un g 61 (g 61 ||| 2 ^ v)) (kx_un g 61 (g 61 ||| 2 ^ v) 0) (kp_h1 (kx_un g 61 (g 61 ||| 2 ^ v) 61) 9)) = max (kp_h3 t K (kp_h2 g (g 0) (kp_h1 (g 61) 9))) v
  rw [kx_un_s, kx_un_n _ _ (by decide), kp_h1_or 9 (by omega), kp_h2_cg (g := g) _ _ (fun j hj => ⟨kp_gk_n (by omega), kp_gk_n (by omega)⟩), kp_h2_mx, kp_h3_mx]
theorem kp_hi_far {E : kp_D} {i v : Nat} {q : Nat × Nat × Nat} {hp : Bool} (hN : E.1 0 ≤ 12) (hi : 62 ≤ i) (hq : q.2.2 = E.2.1.2.2) : kp_hi (kx_un E.1 i v, q, E.2.2.1, hp) = kp_hi E := by
  obtain ⟨g, ⟨P, D, K⟩, t, hp'⟩ := E
  have hN : g 0 ≤ 12 := hN
  have hq : q.2.2 = K := hq
  show kp_h3 t q.2.2 (kp_h2 (kx_un g i v) (kx_un g i v 0) (kp_h1 (kx_un g i v 61) 9)) = kp_h3 t K (kp_h2 g (g 0) (kp_h1 (g 61) 9))
  rw [hq, kx_un_n _ _ (show 0 ≠ i by omega), kx_un_n _ _ (show 61 ≠ i by omega), kp_h2_cg (g := g) _ _ (fun j hj => ⟨kp_gk_n (by omega), kp_gk_n (by omega)⟩)]
theorem kp_hi_ln {E : kp_D} {a c y z r : Nat} (hN : E.1 0 < 12) : kp_hi (kz_ln E.1 a c y z r, E.2) = max (max (kp_hi E) a) c := by
  obtain ⟨g, ⟨P, D, K⟩, t, hp⟩ := E
  have hN : g 0 < 12 := hN
  show kp_h3 t K (kp_h2 (kz_ln g a c y z r) (kz_ln g a c y z r 0) (kp_h1 (kz_ln g a c y z r 61) 9)) = max (max (kp_h3 t K (kp_h2 g (g 0) (kp_h1 (g 61) 9))) a) c
  obtain ⟨p0, p1, -, -, -⟩ := kz_ln_s (g := g) (a := a) (b' := c) (y := y) (s := z) (r := r)
  rw [kz_ln_0, kz_ln_n (show 61 ≠ 0 by decide) (by omega)]
  show kp_h3 t K (max (kp_h2 (kz_ln g a c y z r) (g 0) (kp_h1 (g 61) 9)) (max (kr_gk (kz_ln g a c y z r) (g 0) 0) (kr_gk (kz_ln g a c y z r) (g 0) 1))) = _
  rw [p0, p1, kp_h2_cg (g := g) _ _ (fun j hj => ⟨kz_ln_l hj (by decide), kz_ln_l hj (by decide)⟩), kp_h3_mx]
  omega
theorem kp_hi_on {E : kp_D} {a c q : Nat} : kp_hi (E.1, (E.2.1.1, E.2.1.2.1, E.2.1.2.2 + 1), kz_on E.2.2.1 E.2.1.2.2 a c q, E.2.2.2) = max (max (kp_hi E) a) c := by
  obtain ⟨g, ⟨P, D, K⟩, t, hp⟩ := E
  show kp_h3 (kz_on t K a c q) (K + 1) (kp_h2 g (g 0) (kp_h1 (g 61) 9)) = max (max (kp_h3 t K (kp_h2 g (g 0) (kp_h1 (g 61) 9))) a) c
  obtain ⟨q0, q1, -⟩ := kz_on_s (t := t) (K := K) (a := a) (b' := c) (q := q)
  show max (kp_h3 (kz_on t K a c q) K _) (max (kz_on t K a c q (3 * K)) (kz_on t K a c q (3 * K + 1))) = _
  rw [q0, q1, kp_h3_cg (t := t) _ _ (fun j hj => ⟨by have := kz_on_l (t := t) (K := K) (a := a) (b' := c) (q := q) (w := 0) hj (by decide); simpa using this, kz_on_l hj (by decide)⟩)]
  omega
end
