/-! a line of the text: the reference -/
section
variable {d : Nat} {Q : kr_Q} {μ : kr_M} {n : Nat} {b : Nat → Nat} {g t : Nat → Nat} {P D K : Nat}
theorem kp_fin_i {p p' : Nat} {E E' : kp_D} (h : kp_fin n b p E = .inr (p', E')) : E' = E := by
  obtain ⟨z, e1, e2⟩ := kp_bd_i h
  cases e2
  rfl
theorem kp_pw_un {E : kp_D} {i v : Nat} (h : kp_pw E) (hi : i ≠ 108) : kx_un E.1 i v 108 = 0 := by
  rw [kx_un_n _ _ (fun z => hi z.symm)]; exact h.2.2.2
theorem kp_pw_ln {E : kp_D} {a c y z r : Nat} (h : kp_pw E) (hN : E.1 0 < 12) (ha : a ≤ 8) (hc : c ≤ 8) (hac : a ≠ c) (hy1 : 1 ≤ y) (hy : y ≤ 9) (hz : z ≤ 9) (hr : r ≤ 1) : kp_pw (kz_ln E.1 a c y z r, E.2) :=
  ⟨kz_wf_ln h.1 hN (by omega) (by omega) hac hy1 hy hz hr, h.2.1, h.2.2.1, by
    show kz_ln E.1 a c y z r 108 = 0
    rw [kz_ln_n (by omega) (by omega)]; exact h.2.2.2⟩
theorem kp_ln_pw {s p' : Nat} {E E' : kp_D} (hs : s ≤ n) (hok : kt_ok n b s = true) (h : kp_pw E) (e : kp_ln n b s E = .inr (p', E')) : kp_pw E' := by
  have key : ∀ j, j < 7 → kt_is n b s j = true → kt_e n b s ≤ n := by
    intro j hj h
    obtain ⟨q1, -, -, -⟩ := kt_is_1 hj hok h
    exact (kt_e_1 (Or.inl q1)).2.2
  unfold kp_ln at e
  split at e
  · rename_i c
    have k2 := key 0 (by decide) c
    unfold kp_points at e
    split at e
    · cases e
    · obtain ⟨a, e1, e2⟩ := kp_bd_i e
      have := kp_nm_r k2 e1
      rw [kp_fin_i e2]
      exact ⟨h.1, this.2.2.2.2.1, this.2.2.2.2.2, h.2.2.2⟩
  split at e
  · rename_i c
    have k2 := key 1 (by decide) c
    obtain ⟨a, e1, e2⟩ := kp_bd_i e
    have := kp_nm_r k2 e1
    split at e2
    · cases e2
    · rw [kp_fin_i e2]
      exact ⟨kz_wf_build h.1 (Nat.or_lt_two_pow (n := 9) h.1.2.2.1 (Nat.pow_lt_pow_right (by decide) (by omega))), h.2.1, h.2.2.1, kp_pw_un (E := E) (i := 61) (v := E.1 61 ||| 2 ^ kt_v n b a) h (by decide)⟩
  split at e
  · rename_i c
    have k2 := key 2 (by decide) c
    unfold kp_line at e
    split at e
    · cases e
    · rename_i hN
      obtain ⟨a, e1, e2⟩ := kp_bd_i e
      have i1 := kp_nm_r k2 e1
      obtain ⟨a2, e3, e4⟩ := kp_bd_i e2
      have i2 := kp_nm_r i1.2.2.1 e3
      split at e4
      · cases e4
      · rename_i hne
        obtain ⟨a3, e5, e6⟩ := kp_bd_i e4
        have i3 := kp_nm_r i2.2.2.1 e5
        obtain ⟨a4, e7, e8⟩ := kp_bd_i e6
        have i4 := kp_nm_r i3.2.2.1 e7
        obtain ⟨r, e9, e10⟩ := kp_bd_i e8
        have pw : ∀ r, r ≤ 1 → kp_pw (kz_ln E.1 (kt_v n b a) (kt_v n b a2) (kt_v n b a3) (kt_v n b a4) r, E.2) := fun r hr => kp_pw_ln h (by omega) (by omega) (by omega) hne (by omega) (by omega) (by omega) hr
        split at e10
        · rw [kp_fin_i e10]; exact pw 1 (by decide)
        · split at e10
          · cases e10
            exact pw 0 (by decide)
          · cases e10
  split at e
  · rename_i c
    have k2 := key 3 (by decide) c
    unfold kp_drawer at e
    split at e
    · cases e
    · rename_i hD
      obtain ⟨a, e1, e2⟩ := kp_bd_i e
      have i1 := kp_nm_r k2 e1
      rw [kp_fin_i e2]
      exact ⟨kz_wf_dr h.1 (by omega) (by omega), h.2.1, h.2.2.1, kp_pw_un h (by have : E.2.1.2.1 < 5 := by omega
                                                                                omega)⟩
  split at e
  · rename_i c
    have k2 := key 4 (by decide) c
    unfold kp_one at e
    split at e
    · cases e
    · rename_i hK
      obtain ⟨a, e1, e2⟩ := kp_bd_i e
      have i1 := kp_nm_r k2 e1
      obtain ⟨a2, e3, e4⟩ := kp_bd_i e2
      have i2 := kp_nm_r i1.2.2.1 e3
      split at e4
      · cases e4
      · rename_i hne
        obtain ⟨a3, e5, e6⟩ := kp_bd_i e4
        have i3 := kp_nm_r i2.2.2.1 e5
        rw [kp_fin_i e6]
        exact ⟨kz_wf_on h.1 (by omega) (by omega) (by omega) hne (by omega), h.2.1, h.2.2.1, h.2.2.2⟩
  split at e
  · rename_i c
    have k2 := key 5 (by decide) c
    obtain ⟨a, e1, e2⟩ := kp_bd_i e
    have i1 := kp_nm_r k2 e1
    split at e2
    · cases e2
    · rw [kp_fin_i e2]
      exact ⟨kz_wf_cloud h.1 (by omega) (Nat.le_refl 1), h.2.1, h.2.2.1, kp_pw_un h (by omega)⟩
  · cases e
theorem kr_hx.kp {μ' : kr_M} {h : Nat} {W : List Nat} {F : List (Nat × Nat)} (hh : kr_hx μ h) (k : kr_keep W F μ μ') (hW : 65 ∉ W ∧ (65, 12) ∉ F) : kr_hx μ' h := by
  refine ⟨hh.1, ?_⟩
  rw [k.2 65 12 hW.1 hW.2]
  exact hh.2
/-- what follows a keyword -/
def kr_LK (Q : kr_Q) (μ : kr_M) (n : Nat) (b : Nat → Nat) (L : kp_L) : Prop := ∀ μ' x5 V, kr_keep [69, 70] kr_mQ μ μ' → kp_rel n b (kp_ad n b (kp_st n b x5)) L V → kr_MS μ' n b x5 → kr_Mv μ' V → kr_hx μ' (kp_hi V) → Q none μ'
theorem c_M_lineOf0 {E : kp_D} {s : Nat} (hT : kr_TM μ n b) (hw : kx_tw n b) (hS : kr_MS μ n b (kt_nx n b (kt_e n b s))) (hv : kr_Mv μ E) (hh : kr_hx μ (kp_hi E)) (hg : ¬ E.2.2.2 = true) (k : kr_LK Q μ n b (kp_points n b s E)) : kr_c (d + 6) i_M_readLineOf [.ref 65, .int 0] μ Q := by
  obtain ⟨g, ⟨P, D, K⟩, t, hp⟩ := E
  obtain ⟨v1, ⟨v7, v8, v9⟩, v3, v4⟩ := hv
  refine v_M_readLineOf ⟨fun _ => ?_, fun z => absurd rfl z⟩
  have q1 : kr_keep [] kr_mQ μ (kr_u μ 65 11 1) := kr_keep.rf.f _ (by decide)
  refine c_M_readNumber (lo := 2) (hi := 9) (hT.kp q1 (by decide)) hw (hS.kp ((kr_keep.rf (W := []) (F := [(65, 11)]) (μ := μ)).f _ (by decide)) (by decide)) (by decide) (by decide) (fun μ1 hk1 hS1 => v_M_readLineOf_49 ?_)
  have q2 : kr_keep [] kr_mQ μ (kr_u μ1 65 7 (nI (kp_vl n b (kp_lk n b 2 9 (kt_nx n b (kt_e n b s)))))) := (q1.tr (hk1.wk (by decide) (by decide))).f _ (by decide)
  refine k _ (kp_ad n b (kp_lk n b 2 9 (kt_nx n b (kt_e n b s)))) (g, (kp_vl n b (kp_lk n b 2 9 (kt_nx n b (kt_e n b s))), D, K), t, true) (q2.wk (by decide) (by decide)) ?_ (hS1.kp ((kr_keep.rf (W := []) (F := [(65, 7)]) (μ := μ1)).f _ (by decide)) (by decide)) ⟨v1.kp q2 (by decide), ⟨rfl, ?_, ?_⟩, fun j hj => ?_, ?_⟩ ?_
  · unfold kp_points
    rw [if_neg hg]
    exact kp_fin_rel (fun a ha => by rw [ha]; rfl)
  · show μ1.1 65 8 = _
    rw [hk1.2 65 8 (by decide) (by decide)]; exact v8
  · show μ1.1 65 9 = _
    rw [hk1.2 65 9 (by decide) (by decide)]; exact v9
  · rw [q2.row (o := 70) (by decide) (by decide)]; exact v3 j hj
  · show μ1.1 65 11 = _
    rw [hk1.2 65 11 (by decide) (by decide)]; rfl
  · refine ⟨hh.1, ?_⟩
    show (μ1.1 65 12 = _ ∧ _) ∨ μ1.1 65 12 = _
    rw [hk1.2 65 12 (by decide) (by decide)]
    exact hh.2
theorem c_M_lineOf1 {E : kp_D} {s : Nat} (hp : kp_pw E) (hT : kr_TM μ n b) (hw : kx_tw n b) (hS : kr_MS μ n b (kt_nx n b (kt_e n b s))) (hv : kr_Mv μ E) (hh : kr_hx μ (kp_hi E)) (k : kr_LK Q μ n b (kp_house n b s E)) : kr_c (d + 6) i_M_readLineOf [.ref 65, .int 1] μ Q := by
  obtain ⟨g, q, t⟩ := E
  have h61 : g 61 < 512 := hp.1.2.2.1
  have hN : g 0 ≤ 12 := hp.1.1.1
  refine v_M_readLineOf ⟨fun z => absurd z (by decide), fun _ => ⟨fun _ => ?_, fun z => absurd rfl z⟩⟩
  refine c_M_lookedPoint (d := d + 2) hS hh (fun μ1 hk1 hS1 hh1 => v_M_readLineOf_59 ?_)
  have hvl := kp_vl_le (n := n) (b := b) (lo := 0) (hi := 8) (x := kt_nx n b (kt_e n b s))
  have hpos : ∀ a, kp_lk n b 0 8 (kt_nx n b (kt_e n b s)) = .inr a → kt_k n b a ≠ 0 ∧ kt_e n b a ≤ n := fun a ha => kp_lk_k ha
  have hhouse : ∀ y, kp_lk n b 0 8 (kt_nx n b (kt_e n b s)) = y → kp_house n b s (g, q, t) = kp_bd y (fun a => if (g 61).testBit (kt_v n b a) = true then .inl (4, a) else kp_fin n b (kt_e n b a) (kx_un g 61 (g 61 ||| 2 ^ kt_v n b a), q, t)) := fun y hy => by rw [← hy]; rfl
  generalize kp_lk n b 0 8 (kt_nx n b (kt_e n b s)) = y at *
  have hhouse := hhouse y rfl
  have v1 : kr_Mv μ1 (g, q, t) := hv.kp hk1 (by decide)
  have e61 : μ1.1 69 61 = nI (g 61) := v1.1 61 (by decide)
  have go : ∀ μ2 y', kr_keep [] kr_mF μ1 μ2 → kr_MS μ2 n b y' → (∀ a, y' = .inr a → y = .inr a) → kp_rel n b (kp_ad n b (kp_st n b (kp_ad n b y'))) (kp_house n b s (g, q, t)) (kx_un g 61 (g 61 ||| 2 ^ kp_vl n b y), q, t) → kr_Wp C_M_readLineOf (kr_c (d + 5)) Q 84 [some (.ref 65), some (.int 1), some (.int (nI (kp_vl n b y)))] [] μ2 := by
    intro μ2 y' hk2 hS2 hy' hrel
    refine v_M_readLineOf_84 ?_
    have v2 : kr_Mv μ2 (g, q, t) := v1.kp hk2 (by decide)
    rw [v2.1 61 (by decide), kr_1sh _ (by omega), kr_or]
    have q2 : kr_keep [69, 70] kr_mQ μ (kr_u μ2 69 61 (nI (g 61 ||| 2 ^ kp_vl n b y))) := ((hk1.wk (by decide) (by decide)).tr (hk2.wk (by decide) (by decide))).u _ _ (by decide)
    have u1 : kr_keep [69] [] μ2 (kr_u μ2 69 61 (nI (g 61 ||| 2 ^ kp_vl n b y))) := kr_keep.rf.u _ _ (by decide)
    have d3 : kr_dr (kr_u μ2 69 61 (nI (g 61 ||| 2 ^ kp_vl n b y))) (kx_un g 61 (g 61 ||| 2 ^ kp_vl n b y)) := kr_dr.un v2.1
    have hh2 := ((hh1.kp hk2 (by decide)).kp u1 (by decide))
    obtain ⟨-, ⟨w7, w8, w9⟩, w3, w4⟩ := v2
    refine c_M_next (d := d + 3) (hT.kp q2 (by decide)) hw (hS2.kp u1 (by decide)) (fun a ha => hpos a (hy' a ha)) (fun μ3 hk3 hS3 => v_M_readLineOf_101 ?_)
    have v3 : kr_Mv μ3 (kx_un g 61 (g 61 ||| 2 ^ kp_vl n b y), q, t) := kr_Mv.kp (E := (kx_un g 61 (g 61 ||| 2 ^ kp_vl n b y), q, t)) ⟨d3, ⟨w7, w8, w9⟩, w3, w4⟩ hk3 (by decide)
    refine k μ3 _ _ (q2.tr (hk3.wk (by decide) (by decide))) hrel hS3 v3 ?_
    rw [kp_hi_house (E := (g, q, t)) hN hvl]
    exact hh2.kp hk3 (by decide)
  rw [e61, kr_bit0 (by omega) (by omega)]
  refine ⟨fun c => ?_, fun c => ?_⟩
  · have c : (g 61).testBit (kp_vl n b y) = true := by
      apply Decidable.byContradiction
      intro z
      exact c (by simpa using z)
    cases y with
    | inl e =>
      obtain ⟨c0, w⟩ := e
      have ne : ¬ μ1.1 65 19 = 0 := by
        have := hS1.1
        rw [hS1.2.1, kr_eq0 (by omega)]; omega
      exact c_M_needsF (d := d + 4) ne (go μ1 (.inl (c0, w)) kr_keep.rf hS1 (fun a ha => ha) (by rw [hhouse]; exact kp_rel_l))
    | inr a =>
      refine c_M_needs0 (d := d + 4) (n := n) (b := b) (s := a) (c := 4) hS1.2.1 hS1.2.2.1 (by decide) (fun μ2 hk2 hS2 => go μ2 (.inl (4, a)) hk2 hS2 (fun a ha => by cases ha) ?_)
      have c : (g 61).testBit (kt_v n b a) = true := c
      rw [hhouse]
      show kp_rel n b _ (if (g 61).testBit (kt_v n b a) = true then _ else _) _
      rw [if_pos c]
      exact kp_rel_l
  · refine c_M_needs1 (d := d + 4) (go μ1 y kr_keep.rf hS1 (fun a ha => ha) ?_)
    rw [hhouse]
    cases y with
    | inl e => exact kp_rel_l
    | inr a =>
      have c : (g 61).testBit (kt_v n b a) = false := c
      show kp_rel n b _ (if (g 61).testBit (kt_v n b a) = true then _ else _) _
      rw [if_neg (by rw [c]; simp)]
      exact kp_fin_rel0
theorem c_M_lineOf5 {E : kp_D} {s : Nat} (hp : kp_pw E) (hT : kr_TM μ n b) (hw : kx_tw n b) (hS : kr_MS μ n b (kt_nx n b (kt_e n b s))) (hv : kr_Mv μ E) (hh : kr_hx μ (kp_hi E)) (k : kr_LK Q μ n b (kp_rain n b s E)) : kr_c (d + 6) i_M_readLineOf [.ref 65, .int 5] μ Q := by
  obtain ⟨g, q, t⟩ := E
  have hN : g 0 ≤ 12 := hp.1.1.1
  have hrn : ∀ q, q < 41 → g (67 + q) ≤ 1 := hp.1.2.2.2.2.2.1
  refine v_M_readLineOf ⟨fun z => absurd z (by decide), fun _ => ⟨fun z => absurd z (by decide), fun _ => ⟨fun z => absurd z (by decide), fun _ => ⟨fun z => absurd z (by decide), fun _ => ⟨fun z => absurd z (by decide), fun _ => ?_⟩⟩⟩⟩⟩
  refine c_M_looked (d := d + 3) (lo := 1) (hi := 40) hS (by decide) (by decide) (fun μ1 hk1 hS1 => v_M_readLineOf_157 ?_)
  have hvl := kp_vl_le (n := n) (b := b) (lo := 1) (hi := 40) (x := kt_nx n b (kt_e n b s))
  have hpos : ∀ a, kp_lk n b 1 40 (kt_nx n b (kt_e n b s)) = .inr a → kt_k n b a ≠ 0 ∧ kt_e n b a ≤ n := fun a ha => kp_lk_k ha
  have hrain : ∀ y, kp_lk n b 1 40 (kt_nx n b (kt_e n b s)) = y → kp_rain n b s (g, q, t) = kp_bd y (fun a => if g (67 + kt_v n b a) = 1 then .inl (4, a) else kp_fin n b (kt_e n b a) (kx_un g (67 + kt_v n b a) 1, q, t)) := fun y hy => by rw [← hy]; rfl
  generalize kp_lk n b 1 40 (kt_nx n b (kt_e n b s)) = y at *
  have hrain := hrain y rfl
  have v1 : kr_Mv μ1 (g, q, t) := hv.kp hk1 (by decide)
  have iq : (67 : Int32) + nI (kp_vl n b y) = nI (67 + kp_vl n b y) := by rw [show (67 : Int32) = nI 67 from rfl, nI_add]
  have vi : vp_in (nI (67 + kp_vl n b y)) 125 := vp_in_nI (by omega) (by decide)
  have go : ∀ μ2 y', kr_keep [] kr_mF μ1 μ2 → kr_MS μ2 n b y' → (∀ a, y' = .inr a → y = .inr a) → kp_rel n b (kp_ad n b (kp_st n b (kp_ad n b y'))) (kp_rain n b s (g, q, t)) (kx_un g (67 + kp_vl n b y) 1, q, t) → kr_Wp C_M_readLineOf (kr_c (d + 5)) Q 180 [some (.ref 65), some (.int 5), some (.int (nI (kp_vl n b y)))] [] μ2 := by
    intro μ2 y' hk2 hS2 hy' hrel
    refine v_M_readLineOf_180 ?_
    have v2 : kr_Mv μ2 (g, q, t) := v1.kp hk2 (by decide)
    rw [iq, nI_clamp (by omega)]
    refine ⟨vi, ?_⟩
    have q2 : kr_keep [69, 70] kr_mQ μ (kr_u μ2 69 (67 + kp_vl n b y) (nI 1)) := ((hk1.wk (by decide) (by decide)).tr (hk2.wk (by decide) (by decide))).u _ _ (by decide)
    have u1 : kr_keep [69] [] μ2 (kr_u μ2 69 (67 + kp_vl n b y) (nI 1)) := kr_keep.rf.u _ _ (by decide)
    have d3 : kr_dr (kr_u μ2 69 (67 + kp_vl n b y) (nI 1)) (kx_un g (67 + kp_vl n b y) 1) := kr_dr.un v2.1
    have hh2 := (((hh.kp hk1 (by decide)).kp hk2 (by decide)).kp u1 (by decide))
    obtain ⟨-, ⟨w7, w8, w9⟩, w3, w4⟩ := v2
    refine c_M_next (d := d + 3) (hT.kp q2 (by decide)) hw (hS2.kp u1 (by decide)) (fun a ha => hpos a (hy' a ha)) (fun μ3 hk3 hS3 => v_M_readLineOf_194 ?_)
    have v3 : kr_Mv μ3 (kx_un g (67 + kp_vl n b y) 1, q, t) := kr_Mv.kp (E := (kx_un g (67 + kp_vl n b y) 1, q, t)) ⟨d3, ⟨w7, w8, w9⟩, w3, w4⟩ hk3 (by decide)
    refine k μ3 _ _ (q2.tr (hk3.wk (by decide) (by decide))) hrel hS3 v3 ?_
    have eh := kp_hi_far (E := (g, q, t)) (i := 67 + kp_vl n b y) (v := 1) (q := q) (hp := t.2) hN (by omega) rfl
    have eh : kp_hi (kx_un g (67 + kp_vl n b y) 1, q, t) = kp_hi (g, q, t) := eh
    rw [eh]
    exact hh2.kp hk3 (by decide)
  have h01 := hrn (kp_vl n b y) (by omega)
  rw [iq, nI_clamp (by omega), v1.1 (67 + kp_vl n b y) (by omega), kr_eq0 (by show g _ < _; omega)]
  refine ⟨vi, fun c => ?_, fun c => ?_⟩
  · cases y with
    | inl e =>
      obtain ⟨c0, w⟩ := e
      have ne : ¬ μ1.1 65 19 = 0 := by
        have := hS1.1
        rw [hS1.2.1, kr_eq0 (by omega)]; omega
      exact c_M_needsF (d := d + 4) ne (go μ1 (.inl (c0, w)) kr_keep.rf hS1 (fun a ha => ha) (by rw [hrain]; exact kp_rel_l))
    | inr a =>
      refine c_M_needs0 (d := d + 4) (n := n) (b := b) (s := a) (c := 4) hS1.2.1 hS1.2.2.1 (by decide) (fun μ2 hk2 hS2 => go μ2 (.inl (4, a)) hk2 hS2 (fun a ha => by cases ha) ?_)
      have c : ¬ g (67 + kt_v n b a) = 0 := c
      have h01 : g (67 + kt_v n b a) ≤ 1 := h01
      rw [hrain]
      show kp_rel n b _ (if g (67 + kt_v n b a) = 1 then _ else _) _
      rw [if_pos (by omega)]
      exact kp_rel_l
  · refine c_M_needs1 (d := d + 4) (go μ1 y kr_keep.rf hS1 (fun a ha => ha) ?_)
    rw [hrain]
    cases y with
    | inl e => exact kp_rel_l
    | inr a =>
      have c : g (67 + kt_v n b a) = 0 := c
      show kp_rel n b _ (if g (67 + kt_v n b a) = 1 then _ else _) _
      rw [if_neg (by omega)]
      exact kp_fin_rel0
theorem c_M_lineOf2 {E : kp_D} {s : Nat} (hT : kr_TM μ n b) (hw : kx_tw n b) (hS : kr_MS μ n b (kt_nx n b (kt_e n b s))) (hv : kr_Mv μ E) (hh : kr_hx μ (kp_hi E)) (hN : ¬ 12 ≤ E.1 0) (k : kr_LK Q μ n b (kp_line n b s E)) : kr_c (d + 6) i_M_readLineOf [.ref 65, .int 2] μ Q := by
  refine v_M_readLineOf ⟨fun z => absurd z (by decide), fun _ => ⟨fun z => absurd z (by decide), fun _ => ⟨fun _ => ?_, fun z => absurd rfl z⟩⟩⟩
  refine c_M_readLineAt (d := d) hT hw hS hv (by omega) hh (fun y1 y2 y3 y4 x2 x3 x4 x5 e1 e2 e3 e4 e5 e6 e7 e8 μ' hk hS' hv' hh' => v_M_readLineOf_108 ?_)
  refine k μ' _ _ (hk.wk (by decide) (by decide)) (kp_line_rel hN e1 e2 e3 e4 e5 e6 e7 e8) hS' hv' ?_
  rw [kp_hi_ln (by omega)]
  exact hh'
theorem c_M_lineOf4 {E : kp_D} {s : Nat} (hT : kr_TM μ n b) (hw : kx_tw n b) (hS : kr_MS μ n b (kt_nx n b (kt_e n b s))) (hv : kr_Mv μ E) (hh : kr_hx μ (kp_hi E)) (hN : ¬ 5 ≤ E.2.1.2.2) (k : kr_LK Q μ n b (kp_one n b s E)) : kr_c (d + 6) i_M_readLineOf [.ref 65, .int 4] μ Q := by
  refine v_M_readLineOf ⟨fun z => absurd z (by decide), fun _ => ⟨fun z => absurd z (by decide), fun _ => ⟨fun z => absurd z (by decide), fun _ => ⟨fun z => absurd z (by decide), fun _ => ⟨fun _ => ?_, fun z => absurd rfl z⟩⟩⟩⟩⟩
  refine c_M_readOne (d := d) hT hw hS hv (by omega) hh (fun y1 y2 y3 x2 x3 x4 e1 e2 e3 e4 e5 e6 μ' hk hS' hv' hh' => v_M_readLineOf_147 ?_)
  refine k μ' _ _ (hk.wk (by decide) (by decide)) (kp_one_rel hN e1 e2 e3 e4 e5 e6) hS' hv' ?_
  rw [kp_hi_on]
  exact hh'
theorem c_M_lineOf3 {E : kp_D} {s : Nat} (hp : kp_pw E) (hT : kr_TM μ n b) (hw : kx_tw n b) (hS : kr_MS μ n b (kt_nx n b (kt_e n b s))) (hv : kr_Mv μ E) (hh : kr_hx μ (kp_hi E)) (hN : ¬ 5 ≤ E.2.1.2.1) (k : kr_LK Q μ n b (kp_drawer n b s E)) : kr_c (d + 6) i_M_readLineOf [.ref 65, .int 3] μ Q := by
  obtain ⟨g, ⟨P, D, K⟩, t, hq⟩ := E
  have h12 : g 0 ≤ 12 := hp.1.1.1
  have hN : ¬ 5 ≤ D := hN
  obtain ⟨v1, ⟨v7, v8, v9⟩, v3, v4⟩ := hv
  have v8 : μ.1 65 8 = nI D := v8
  refine v_M_readLineOf ⟨fun z => absurd z (by decide), fun _ => ⟨fun z => absurd z (by decide), fun _ => ⟨fun z => absurd z (by decide), fun _ => ⟨fun _ => ?_, fun z => absurd rfl z⟩⟩⟩⟩
  refine c_M_readNumber (lo := 0) (hi := 50) hT hw hS (by decide) (by decide) (fun μ1 hk1 hS1 => v_M_readLineOf_129 ?_)
  rw [v8, show (62 : Int32) = nI 62 from rfl, nI_add, nI_clamp (by omega), hk1.2 65 8 (by decide) (by decide), v8, kr_n1]
  refine ⟨vp_in_nI (by omega) (by decide), ?_⟩
  generalize hy : kp_lk n b 0 50 (kt_nx n b (kt_e n b s)) = y at *
  have u1 : kr_keep [69] [(65, 8)] μ1 (kr_u (kr_u μ1 69 (62 + D) (nI (kp_vl n b y))) 65 8 (nI (D + 1))) := (kr_keep.rf.u _ _ (by decide)).f _ (by decide)
  have q2 : kr_keep [69, 70] kr_mQ μ (kr_u (kr_u μ1 69 (62 + D) (nI (kp_vl n b y))) 65 8 (nI (D + 1))) := (hk1.wk (by decide) (by decide)).tr (u1.wk (by decide) (by decide))
  have d3 : kr_dr (kr_u (kr_u μ1 69 (62 + D) (nI (kp_vl n b y))) 65 8 (nI (D + 1))) (kx_un g (62 + D) (kp_vl n b y)) := (kr_dr.un (v1.kp hk1 (by decide)))
  refine k _ (kp_ad n b y) (kx_un g (62 + D) (kp_vl n b y), (P, D + 1, K), t, hq) q2 ?_ (hS1.kp u1 (by decide)) ⟨d3, ⟨?_, rfl, ?_⟩, fun j hj => ?_, ?_⟩ ?_
  · unfold kp_drawer
    rw [if_neg hN, show kp_nm n b 0 50 (kt_e n b s) = y from hy]
    exact kp_fin_rel (fun a ha => by rw [ha]; rfl)
  · show μ1.1 65 7 = _
    rw [hk1.2 65 7 (by decide) (by decide)]; exact v7
  · show μ1.1 65 9 = _
    rw [hk1.2 65 9 (by decide) (by decide)]; exact v9
  · show μ1.1 70 j = _
    rw [hk1.row (o := 70) (by decide) (by decide)]; exact v3 j hj
  · show μ1.1 65 11 = _
    rw [hk1.2 65 11 (by decide) (by decide)]; exact v4
  · have eh : kp_hi (kx_un g (62 + D) (kp_vl n b y), (P, D + 1, K), t, hq) = kp_hi (g, (P, D, K), t, hq) := kp_hi_far (E := (g, (P, D, K), t, hq)) (q := (P, D + 1, K)) h12 (by omega) rfl
    rw [eh]
    exact (hh.kp hk1 (by decide)).kp u1 (by decide)
theorem c_M_tail {a : Int32} {x5 : kp_X} (hT : kr_TM μ n b) (hw : kx_tw n b) (hS : kr_MS μ n b x5) (k : ∀ μ', kr_keep [] kr_mN μ μ' → kr_MS μ' n b (kp_ad n b (kp_st n b x5)) → Q none μ') : kr_Wp C_M_readLine (kr_c (d + 6)) Q 124 [some (.ref 65), some (.int a)] [] μ := by
  refine v_M_readLine_124 ?_
  cases x5 with
  | inl e =>
    obtain ⟨c0, w⟩ := e
    have ne : ¬ μ.1 65 19 = 0 := by
      have := hS.1
      rw [hS.2.1, kr_eq0 (by omega)]; omega
    exact ⟨fun _ => c_M_nextF (d := d + 4) ⟨c0, hS.1, hS.2.1⟩ (v_M_readLine_153 (k μ kr_keep.rf hS)), fun z => absurd z ne⟩
  | inr r =>
    obtain ⟨a0, a1, a2, a3, a4, a5⟩ := hS
    have hkb := kr_kb (n := n) (b := b) (s := r)
    refine ⟨fun z => absurd a1 z, fun _ => ?_⟩
    rw [a3, show (3 : Int32) = nI 3 from rfl, nI_eq (by omega) (by decide)]
    refine ⟨fun c => ?_, fun c => ?_⟩
    · refine c_M_needs0 (d := d + 5) (n := n) (b := b) (s := r) (c := 2) a1 a2 (by decide) (fun μ2 hk2 hS2 => v_M_readLine_149 (c_M_nextF (d := d + 4) ⟨2, hS2.1, hS2.2.1⟩ (v_M_readLine_153 (k μ2 (hk2.wk (by decide) (by decide)) ?_))))
      show kr_MS μ2 n b (kp_ad n b (if kt_k n b r = 3 then _ else _))
      rw [if_neg c]
      exact hS2
    · refine c_M_needs1 (d := d + 5) (v_M_readLine_149 (c_M_next (d := d + 4) (x := .inr r) hT hw ⟨a0, a1, a2, a3, a4, a5⟩ (fun s hs => ?_) (fun μ2 hk2 hS2 => v_M_readLine_153 (k μ2 hk2 ?_))))
      · cases hs
        have := kt_k3 c
        exact ⟨by omega, by omega⟩
      · show kr_MS μ2 n b (kp_ad n b (if kt_k n b r = 3 then _ else _))
        rw [if_pos c]
        exact hS2
theorem c_M_readLine {E : kp_D} {s : Nat} (hp : kp_pw E) (hT : kr_TM μ n b) (hw : kx_tw n b) (hS : kr_MS μ n b (.inr s)) (hk0 : kt_k n b s ≠ 0) (hv : kr_Mv μ E) (hh : kr_hx μ (kp_hi E)) (k : ∀ μ' X V, kr_keep [69, 70] kr_mQ μ μ' → kp_rel n b X (kp_ln n b s E) V → kr_MS μ' n b X → kr_Mv μ' V → kr_hx μ' (kp_hi V) → Q none μ') : kr_c (d + 7) i_M_readLine [.ref 65] μ Q := by
  have hkb := kr_kb (n := n) (b := b) (s := s)
  -- after a fault, nothing more
  have f111 : ∀ (a : Int32) μ' c w, kr_keep [] kr_mN μ μ' → kr_MS μ' n b (.inl (c, w)) → kp_ln n b s E = .inl (c, w) → kr_Wp C_M_readLine (kr_c (d + 6)) Q 111 [some (.ref 65), some (.int a)] [] μ' := by
    intro a μ' c w hk hm he
    refine v_M_readLine_111 ⟨fun z => ?_, fun _ => ?_⟩
    · rw [hm.2.1, show (0 : Int32) = nI 0 from rfl, nI_leI (by have := hm.1; omega) (by decide)] at z
      have := hm.1
      omega
    · exact k μ' (.inl (c, w)) E (hk.wk (by decide) (by decide)) (by rw [he]; exact kp_rel_l) hm (hv.kp hk (by decide)) (hh.kp hk (by decide))
  have f107 : ∀ (a : Int32) μ' c w, kr_keep [] kr_mN μ μ' → kr_MS μ' n b (.inl (c, w)) → kp_ln n b s E = .inl (c, w) → kr_Wp C_M_readLine (kr_c (d + 6)) Q 107 [some (.ref 65), some (.int a)] [] μ' := fun a μ' c w hk hm he => v_M_readLine_107 (c_M_nextF (d := d + 4) ⟨c, hm.1, hm.2.1⟩ (f111 a μ' c w hk hm he))
  have f86 : ∀ (a : Int32) μ' c w, kr_keep [] kr_mN μ μ' → kr_MS μ' n b (.inl (c, w)) → kp_ln n b s E = .inl (c, w) → ¬ a = 0 → kr_Wp C_M_readLine (kr_c (d + 6)) Q 86 [some (.ref 65), some (.int a)] [] μ' := fun a μ' c w hk hm he ha => v_M_readLine_86 ⟨fun _ => c_M_needs1 (d := d + 5) (f107 a μ' c w hk hm he), fun z => absurd z ha⟩
  -- no keyword
  have none_ : (∀ i, i < 6 → ¬ kt_is n b s i = true) → ∀ μ', kr_keep [] kr_mF μ μ' → kr_MS μ' n b (.inl (2, s)) → kr_Wp C_M_readLine (kr_c (d + 6)) Q 34 [some (.ref 65), some (.int (-4))] [] μ' := by
    intro hno μ' hk hm
    have he : kp_ln n b s E = .inl (2, s) := by
      unfold kp_ln
      rw [if_neg (hno 0 (by decide)), if_neg (hno 1 (by decide)), if_neg (hno 2 (by decide)), if_neg (hno 3 (by decide)), if_neg (hno 4 (by decide)), if_neg (hno 5 (by decide))]
    exact v_M_readLine_34 ⟨fun _ => ⟨fun _ => ⟨fun _ => c_M_needs1 (d := d + 5) (f86 (-4) μ' 2 s (hk.wk (by decide) (by decide)) hm he (by decide)), fun z => absurd z (by decide)⟩, fun z => absurd z (by decide)⟩, fun z => absurd z (by decide)⟩
  obtain ⟨⟨a01, a02⟩, a1, a2, a3, a4, a5⟩ := hS
  have a15 := a4 hk0
  refine v_M_readLine ?_
  rw [a3, show (1 : Int32) = nI 1 from rfl, nI_eq (by omega) (by decide)]
  refine ⟨fun c1 => ?_, fun c1 => ?_⟩
  · have hno : ∀ i, i < 6 → ¬ kt_is n b s i = true := fun i hi z => c1 (kt_is_1 (by omega) a02 z).1
    exact c_M_needs0 (d := d + 5) (n := n) (b := b) (s := s) (c := 2) a1 a2 (by decide) (fun μ2 hk2 hS2 => none_ hno μ2 hk2 hS2)
  · obtain ⟨-, -, e2⟩ := kt_e_1 (Or.inl c1)
    refine c_M_lineNow (d := d + 3) hT hw a15 a2 c1 (fun j hj hy hn => v_M_readLine_12 ⟨fun z => ?_, fun _ => ?_⟩) (fun hno => v_M_readLine_12 ⟨fun _ => c_M_needs0 (d := d + 5) (n := n) (b := b) (s := s) (c := 2) a1 a2 (by decide) (fun μ2 hk2 hS2 => none_ hno μ2 hk2 hS2), fun z => absurd rfl z⟩)
    · exfalso
      rcases (by omega : j = 0 ∨ j = 1 ∨ j = 2 ∨ j = 3 ∨ j = 4 ∨ j = 5) with rfl | rfl | rfl | rfl | rfl | rfl <;> exact absurd z (by decide)
    refine c_M_needs1 (d := d + 5) ?_
    -- from the keyword on
    have go : ∀ (a : Int32), (kr_MS μ n b (.inr s) → ∀ μ', kr_keep [] kr_mN μ μ' → kr_MS μ' n b (kt_nx n b (kt_e n b s)) → kr_LK (kr_bk (kr_Wp C_M_readLine (kr_c (d + 6)) Q) 124 [some (.ref 65), some (.int a)] []) μ' n b (kp_ln n b s E) → kr_c (d + 6) i_M_readLineOf [.ref 65, .int a] μ' (kr_bk (kr_Wp C_M_readLine (kr_c (d + 6)) Q) 124 [some (.ref 65), some (.int a)] [])) → (∀ q, kt_nx n b (kt_e n b s) = .inl q → kp_ln n b s E = .inl q) → kr_Wp C_M_readLine (kr_c (d + 6)) Q 107 [some (.ref 65), some (.int a)] [] μ := by
      intro a hof hinl
      refine v_M_readLine_107 (c_M_next (d := d + 4) (x := .inr s) hT hw ⟨⟨a01, a02⟩, a1, a2, a3, a4, a5⟩ (fun r hr => by cases hr; exact ⟨hk0, e2⟩) (fun μ1 hk1 hS1 => ?_))
      have hS1 : kr_MS μ1 n b (kt_nx n b (kt_e n b s)) := hS1
      cases hx : kt_nx n b (kt_e n b s) with
      | inl q =>
        obtain ⟨c, w⟩ := q
        rw [hx] at hS1
        exact f111 a μ1 c w hk1 hS1 (hinl _ hx)
      | inr r =>
        have h19 : μ1.1 65 19 = 0 := by rw [hx] at hS1; exact hS1.2.1
        refine v_M_readLine_111 ⟨fun _ => ?_, fun z => absurd (by rw [h19]; decide) z⟩
        refine hof ⟨⟨a01, a02⟩, a1, a2, a3, a4, a5⟩ μ1 hk1 hS1 (fun μ2 x5 V hk2 hrel hS2 hv2 hh2 => ?_)
        have q2 : kr_keep [69, 70] kr_mQ μ μ2 := (hk1.wk (by decide) (by decide)).tr hk2
        refine c_M_tail (hT.kp q2 (by decide)) hw hS2 (fun μ3 hk3 hS3 => k μ3 _ V (q2.tr (hk3.wk (by decide) (by decide))) hrel hS3 (hv2.kp hk3 (by decide)) (hh2.kp hk3 (by decide)))
    have nmi : ∀ {lo hi q}, kt_nx n b (kt_e n b s) = .inl q → kp_nm n b lo hi (kt_e n b s) = .inl q := fun {lo hi q} h => kp_bd_l h
    rcases (by omega : j = 0 ∨ j = 1 ∨ j = 2 ∨ j = 3 ∨ j = 4 ∨ j = 5) with rfl | rfl | rfl | rfl | rfl | rfl
    · have he : kp_ln n b s E = kp_points n b s E := if_pos hy
      refine v_M_readLine_34 ⟨fun _ => ⟨fun _ => ⟨fun _ => c_M_needs1 (d := d + 5) (v_M_readLine_86 ⟨fun z => absurd rfl z, fun _ => ?_⟩), fun z => absurd z (by decide)⟩, fun z => absurd z (by decide)⟩, fun z => absurd z (by decide)⟩
      rw [hv.2.2.2]
      by_cases ch : E.2.2.2 = true
      · rw [ch]
        refine ⟨fun _ => c_M_needs0 (d := d + 5) (n := n) (b := b) (s := s) (c := 4) a1 a2 (by decide) (fun μ2 hk2 hS2 => f107 _ μ2 4 s (hk2.wk (by decide) (by decide)) hS2 ?_), fun z => absurd z (by decide)⟩
        rw [he]; exact if_pos ch
      · have ch2 : E.2.2.2 = false := by simpa using ch
        rw [ch2]
        refine ⟨fun z => absurd rfl z, fun _ => c_M_needs1 (d := d + 5) (go _ (fun _ μ' hk' hS' hlk => c_M_lineOf0 (hT.kp hk' (by decide)) hw hS' (hv.kp hk' (by decide)) (hh.kp hk' (by decide)) ch (by rw [← he]; exact hlk)) (fun q hq => ?_))⟩
        rw [he]; unfold kp_points; rw [if_neg ch]; exact kp_bd_l (nmi hq)
    · have he : kp_ln n b s E = kp_house n b s E := by
        unfold kp_ln; rw [if_neg (hn 0 (by decide)), if_pos hy]
      refine v_M_readLine_34 ⟨fun _ => ⟨fun _ => ⟨fun _ => c_M_needs1 (d := d + 5) (v_M_readLine_86 ⟨fun _ => c_M_needs1 (d := d + 5) (go _ (fun _ μ' hk' hS' hlk => c_M_lineOf1 hp (hT.kp hk' (by decide)) hw hS' (hv.kp hk' (by decide)) (hh.kp hk' (by decide)) (by rw [← he]; exact hlk)) (fun q hq => ?_)), fun z => absurd z (by decide)⟩), fun z => absurd z (by decide)⟩, fun z => absurd z (by decide)⟩, fun z => absurd z (by decide)⟩
      rw [he]; exact kp_bd_l (nmi hq)
    · have he : kp_ln n b s E = kp_line n b s E := by
        unfold kp_ln; rw [if_neg (hn 0 (by decide)), if_neg (hn 1 (by decide)), if_pos hy]
      refine v_M_readLine_34 ⟨fun z => absurd rfl z, fun _ => ?_⟩
      rw [hv.1 0 (by decide), show (12 : Int32) = nI 12 from rfl, nI_leI (by decide) (by have := hp.1.1.1; omega)]
      refine ⟨fun ch => c_M_needs0 (d := d + 5) (n := n) (b := b) (s := s) (c := 5) a1 a2 (by decide) (fun μ2 hk2 hS2 => f86 _ μ2 5 s (hk2.wk (by decide) (by decide)) hS2 ?_ (by decide)), fun ch => ⟨fun _ => ⟨fun _ => c_M_needs1 (d := d + 5) (v_M_readLine_86 ⟨fun _ => c_M_needs1 (d := d + 5) (go _ (fun _ μ' hk' hS' hlk => c_M_lineOf2 (hT.kp hk' (by decide)) hw hS' (hv.kp hk' (by decide)) (hh.kp hk' (by decide)) ch (by rw [← he]; exact hlk)) (fun q hq => ?_)), fun z => absurd z (by decide)⟩), fun z => absurd z (by decide)⟩, fun z => absurd z (by decide)⟩⟩
      · rw [he]; exact if_pos ch
      · rw [he]; unfold kp_line; rw [if_neg ch]; exact kp_bd_l (nmi hq)
    · have he : kp_ln n b s E = kp_drawer n b s E := by
        unfold kp_ln; rw [if_neg (hn 0 (by decide)), if_neg (hn 1 (by decide)), if_neg (hn 2 (by decide)), if_pos hy]
      refine v_M_readLine_34 ⟨fun _ => ⟨fun z => absurd rfl z, fun _ => ?_⟩, fun z => absurd z (by decide)⟩
      rw [hv.2.1.2.1, show (5 : Int32) = nI 5 from rfl, nI_leI (by decide) (by have := hp.1.1.2.2.2.1; omega)]
      refine ⟨fun ch => c_M_needs0 (d := d + 5) (n := n) (b := b) (s := s) (c := 5) a1 a2 (by decide) (fun μ2 hk2 hS2 => f86 _ μ2 5 s (hk2.wk (by decide) (by decide)) hS2 ?_ (by decide)), fun ch => ⟨fun _ => c_M_needs1 (d := d + 5) (v_M_readLine_86 ⟨fun _ => c_M_needs1 (d := d + 5) (go _ (fun _ μ' hk' hS' hlk => c_M_lineOf3 hp (hT.kp hk' (by decide)) hw hS' (hv.kp hk' (by decide)) (hh.kp hk' (by decide)) ch (by rw [← he]; exact hlk)) (fun q hq => ?_)), fun z => absurd z (by decide)⟩), fun z => absurd z (by decide)⟩⟩
      · rw [he]; exact if_pos ch
      · rw [he]; unfold kp_drawer; rw [if_neg ch]; exact kp_bd_l (nmi hq)
    · have he : kp_ln n b s E = kp_one n b s E := by
        unfold kp_ln; rw [if_neg (hn 0 (by decide)), if_neg (hn 1 (by decide)), if_neg (hn 2 (by decide)), if_neg (hn 3 (by decide)), if_pos hy]
      refine v_M_readLine_34 ⟨fun _ => ⟨fun _ => ⟨fun z => absurd rfl z, fun _ => ?_⟩, fun z => absurd z (by decide)⟩, fun z => absurd z (by decide)⟩
      rw [hv.2.1.2.2, show (5 : Int32) = nI 5 from rfl, nI_leI (by decide) (by have := hp.1.1.2.2.2.2; omega)]
      refine ⟨fun ch => c_M_needs0 (d := d + 5) (n := n) (b := b) (s := s) (c := 5) a1 a2 (by decide) (fun μ2 hk2 hS2 => f86 _ μ2 5 s (hk2.wk (by decide) (by decide)) hS2 ?_ (by decide)), fun ch => c_M_needs1 (d := d + 5) (v_M_readLine_86 ⟨fun _ => c_M_needs1 (d := d + 5) (go _ (fun _ μ' hk' hS' hlk => c_M_lineOf4 (hT.kp hk' (by decide)) hw hS' (hv.kp hk' (by decide)) (hh.kp hk' (by decide)) ch (by rw [← he]; exact hlk)) (fun q hq => ?_)), fun z => absurd z (by decide)⟩)⟩
      · rw [he]; exact if_pos ch
      · rw [he]; unfold kp_one; rw [if_neg ch]; exact kp_bd_l (nmi hq)
    · have he : kp_ln n b s E = kp_rain n b s E := by
        unfold kp_ln; rw [if_neg (hn 0 (by decide)), if_neg (hn 1 (by decide)), if_neg (hn 2 (by decide)), if_neg (hn 3 (by decide)), if_neg (hn 4 (by decide)), if_pos hy]
      refine v_M_readLine_34 ⟨fun _ => ⟨fun _ => ⟨fun _ => c_M_needs1 (d := d + 5) (v_M_readLine_86 ⟨fun _ => c_M_needs1 (d := d + 5) (go _ (fun _ μ' hk' hS' hlk => c_M_lineOf5 hp (hT.kp hk' (by decide)) hw hS' (hv.kp hk' (by decide)) (hh.kp hk' (by decide)) (by rw [← he]; exact hlk)) (fun q hq => ?_)), fun z => absurd z (by decide)⟩), fun z => absurd z (by decide)⟩, fun z => absurd z (by decide)⟩, fun z => absurd z (by decide)⟩
      rw [he]; exact kp_bd_l (nmi hq)
end
