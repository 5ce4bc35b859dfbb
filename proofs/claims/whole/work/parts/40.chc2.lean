/-! what is told, changed: the class, more -/
theorem kl_1sh : ∀ q, q < 41 → (1 : Int64) <<< ((nI q).toInt64 &&& 63) = lN (2 ^ q) := by decide +kernel
theorem kl_tbv (n : Nat) : (lN n).toBitVec = BitVec.ofNat 64 n := rfl
theorem kl_or (a b : Nat) : lN a ||| lN b = lN (a ||| b) := by
  apply Int64.toBitVec_inj.mp
  rw [Int64.toBitVec_or, kl_tbv, kl_tbv, kl_tbv]
  apply BitVec.eq_of_getLsbD_eq
  intro i hi
  simp [BitVec.getLsbD_ofNat, Nat.testBit_or]
theorem kl_not (b i : Nat) (hi : i < 64) : ((lN b) ^^^ (-1)).toBitVec.getLsbD i = !b.testBit i := by
  rw [Int64.toBitVec_xor, kl_tbv, BitVec.getLsbD_xor, BitVec.getLsbD_ofNat]
  have h1 : ∀ i, i < 64 → ((-1 : Int64).toBitVec).getLsbD i = true := by decide
  rw [h1 i hi]
  simp [hi]
theorem kl_andn (a b : Nat) (h : a < 2 ^ 63) : lN a &&& (lN b ^^^ (-1)) = lN (kr_bm 63 (fun i => a.testBit i && !b.testBit i)) := by
  apply Int64.toBitVec_inj.mp
  apply BitVec.eq_of_getLsbD_eq
  intro i hi
  rw [Int64.toBitVec_and, BitVec.getLsbD_and, kl_not b i hi, kl_tbv, kl_tbv, BitVec.getLsbD_ofNat, BitVec.getLsbD_ofNat, kr_bm_bit]
  by_cases e : i < 63
  · simp [e, hi]
  · rw [kr_lt_bit h (by omega)]; simp
theorem kz_rb_set {g : Nat → Nat} {q : Nat} (h1 : 1 ≤ q) (h40 : q ≤ 40) : kx_rb (kx_un g (67 + q) 1) = kx_rb g ||| 2 ^ q := by
  apply Nat.eq_of_testBit_eq
  intro i
  unfold kx_rb
  rw [kr_bm_bit, Nat.testBit_or, kr_bm_bit, Nat.testBit_two_pow]
  by_cases e : i = q
  · subst e
    rw [kx_un_s]
    simp; omega
  · rw [kx_un_n _ _ (by omega)]
    have : ¬ q = i := fun z => e z.symm
    simp [this]
theorem kz_rb_clr {g : Nat → Nat} {q : Nat} : kx_rb (kx_un g (67 + q) 0) = kr_bm 63 (fun i => (kx_rb g).testBit i && !(2 ^ q).testBit i) := by
  apply Nat.eq_of_testBit_eq
  intro i
  unfold kx_rb
  rw [kr_bm_bit, kr_bm_bit, kr_bm_bit, Nat.testBit_two_pow]
  by_cases e : i = q
  · subst e
    rw [kx_un_s]
    simp
  · rw [kx_un_n _ _ (by omega)]
    have : ¬ q = i := fun z => e z.symm
    by_cases c : i < 41
    · simp [this, c, show i < 63 by omega]
    · simp [c]
/-- nothing but the Rock at 1 changes -/
def kr_fR (μ μ' : kr_M) : Prop := (∀ o, o = 0 ∨ 10 < o → μ'.1 o = μ.1 o) ∧ ∀ o, o ≠ 1 → μ'.2 o = μ.2 o
theorem kr_fR.rf (μ : kr_M) : kr_fR μ μ := ⟨fun _ _ => rfl, fun _ _ => rfl⟩
theorem kr_fR.u {μ μ' : kr_M} (h : kr_fR μ μ') {o : Nat} (j : Nat) (v : Int32) (ho : 1 ≤ o ∧ o ≤ 10) : kr_fR μ (kr_u μ' o j v) := ⟨fun a ha => by rw [kr_u_n _ _ _ (by omega)]; exact h.1 a ha, h.2⟩
theorem kr_keep.fR {μ μ' : kr_M} {W : List Nat} (h : kr_keep W [] μ μ') (hW : ∀ o ∈ W, 1 ≤ o ∧ o ≤ 10) : kr_fR μ μ' := ⟨fun o ho => h.row (fun z => by have := hW o z; omega) (fun q hq => by cases hq), fun o _ => by rw [h.1]⟩
section
variable {d : Nat} {Q : kr_Q} {μ : kr_M} {g t : Nat → Nat} {P D K : Nat} {x y z w : Int32}
theorem kr_Rg.rain (h : kr_Rg μ 1 g P D K t) (hw : kr_wf g P D K t) {q v : Nat} (hq : q ≤ 40) {B : Nat} (hB : kx_rb (kx_un g (67 + q) v) = B) : kr_Rg (kr_uL μ 1 (lN B)) 1 (kx_un g (67 + q) v) P D K t := by
  obtain ⟨⟨n12, -, -, d5, -⟩, -, -, -, -, -, h8, -⟩ := hw
  obtain ⟨⟨a1, a2, a3, a4, a5, a6⟩, b, r, h6, h7, hl, h10, c, c1, c2, c3⟩ := h
  have hn : ∀ j, j ≠ 67 + q → kx_un g (67 + q) v j = g j := fun j hj => kx_un_n _ _ hj
  have gk : ∀ l w, l < g 0 → w < 5 → kr_gk (kx_un g (67 + q) v) l w = kr_gk g l w := fun l w hl h1 => hn _ (by omega)
  have g0 := hn 0 (by omega)
  have g108 := hn 108 (by omega)
  refine ⟨⟨a1, ?_, ?_, a4, a5, ?_⟩, fun l hl => ?_, ?_, fun d hd => ?_, fun p hp => h7 p hp, ?_, fun m hm => ?_, c, c1, c2, fun m hm => ?_⟩
  · rw [hn 61 (by omega)]; exact a2
  · rw [g0]; exact a3
  · rw [g108]; exact a6
  · rw [g0] at hl
    rw [gk l 0 hl (by decide), gk l 1 hl (by decide), gk l 2 hl (by decide), gk l 3 hl (by decide)]
    exact b l hl
  · rw [g0]
    show μ.1 1 7 = _
    rw [r]
    congr 1
    exact kr_bm_congr (fun l hl => by rw [gk l 4 hl (by decide)])
  · rw [hn _ (by omega)]; exact h6 d hd
  · rw [kr_uL_s]
    exact congrArg lN hB.symm
  · rw [g108] at hm
    rw [hn (109 + 2 * m) (by omega)]; exact h10 m hm
  · rw [g108] at hm
    rw [hn (110 + 2 * m) (by omega)]; exact c3 m hm
theorem c_C_cloud (hw : kr_wf g P D K t) (hR : kr_Rg μ 1 g P D K t) (k : ∀ μ', kr_fR μ μ' → kr_Rg μ' 1 (pz_cloud g x z).2 P D K t → Q (some (.int (pz_cloud g x z).1)) μ') : kr_c (d + 3) i_C_cloud [.ref 0, .int x, .int z] μ Q := by
  refine v_C_cloud ?_
  unfold pz_cloud at k
  refine ⟨fun c => ?_, fun c => by rw [if_neg c] at k; exact k μ (kr_fR.rf μ) hR⟩
  rw [if_pos c] at k
  obtain ⟨q, ⟨h1, h40⟩, rfl⟩ := kr_ix40 c
  rw [nI_clamp (by omega)] at k
  refine c_R_rainsIn hR.B (by omega) (v_C_cloud_17 (v_R_setRain (d := d + 1) ?_))
  rw [kz_rain hw.hr h1 h40, kl_1sh q (by omega), hR.B, kl_or, kl_andn _ _ (by have : kx_rb g < 2 ^ 41 := kr_bm_lt _ _; omega)]
  refine ⟨fun cz => v_C_cloud_30 ?_, fun cz => v_C_cloud_30 ?_⟩
  · rw [if_pos cz] at k
    exact k _ ⟨fun _ _ => rfl, fun o ho => kr_uL_n _ _ ho⟩ (hR.rain hw h40 kz_rb_clr)
  · rw [if_neg cz] at k
    exact k _ ⟨fun _ _ => rfl, fun o ho => kr_uL_n _ _ ho⟩ (hR.rain hw h40 (kz_rb_set h1 h40))
theorem kr_Rg.house (h : kr_Rg μ 1 g P D K t) (hw : kr_wf g P D K t) {v : Nat} : kr_Rg (kr_u μ 1 1 (nI v)) 1 (kx_un g 61 v) P D K t := by
  obtain ⟨⟨n12, -, -, d5, -⟩, -, -, -, -, -, h8, -⟩ := hw
  obtain ⟨⟨a1, a2, a3, a4, a5, a6⟩, b, r, h6, h7, hl, h10, c, c1, c2, c3⟩ := h
  have hn : ∀ j, j ≠ 61 → kx_un g 61 v j = g j := fun j hj => kx_un_n _ _ hj
  have gk : ∀ l w, l < g 0 → w < 5 → kr_gk (kx_un g 61 v) l w = kr_gk g l w := fun l w hl h1 => hn _ (by omega)
  have g0 := hn 0 (by omega)
  have g108 := hn 108 (by omega)
  have e : ∀ o, o ≠ 1 → (kr_u μ 1 1 (nI v)).1 o = μ.1 o := fun o ho => kr_u_n _ _ _ ho
  refine ⟨⟨a1, ?_, ?_, a4, a5, ?_⟩, fun l hl => ?_, ?_, fun d hd => ?_, fun p hp => h7 p hp, ?_, fun m hm => ?_, c, c1, c2, fun m hm => ?_⟩
  · rw [kx_un_s]; rfl
  · rw [g0]; exact a3
  · rw [g108]; exact a6
  · rw [g0] at hl
    rw [gk l 0 hl (by decide), gk l 1 hl (by decide), gk l 2 hl (by decide), gk l 3 hl (by decide)]
    exact b l hl
  · rw [g0]
    show μ.1 1 7 = _
    rw [r]
    congr 1
    exact kr_bm_congr (fun l hl => by rw [gk l 4 hl (by decide)])
  · rw [hn _ (by omega)]; exact h6 d hd
  · show μ.2 1 = _
    rw [hl]
    exact congrArg lN (kr_bm_congr (fun q hq => by rw [hn (67 + q) (by omega)]))
  · rw [g108] at hm
    rw [hn (109 + 2 * m) (by omega)]; exact h10 m hm
  · rw [g108] at hm
    rw [hn (110 + 2 * m) (by omega)]; exact c3 m hm
theorem c_C_build (hw : kr_wf g P D K t) (hR : kr_Rg μ 1 g P D K t) (k : ∀ μ', kr_fR μ μ' → kr_Rg μ' 1 (pz_build g P x z).2 P D K t → Q (some (.int (pz_build g P x z).1)) μ') : kr_c (d + 3) i_C_build [.ref 0, .int x, .int z] μ Q := by
  have hP := hw.1.2.2.1
  have hb := hw.gb.2.1
  refine v_C_build ?_
  rw [hR.1.1]
  unfold pz_build at k
  refine ⟨fun c => ?_, fun c => by rw [if_neg c] at k; exact k μ (kr_fR.rf μ) hR⟩
  rw [if_pos c] at k
  obtain ⟨i, hi, rfl⟩ := kr_ix (by omega) c
  rw [nI_clamp (by omega)] at k
  refine v_R_setHouse (d := d + 1) ?_
  rw [hR.1.2.1, kr_bitI (by omega) (by omega), kr_andc (by omega) (by omega), kr_1sh i (by omega), kr_or]
  refine ⟨fun cz => v_C_build_34 ?_, fun cz => v_C_build_34 ?_⟩
  · rw [if_pos cz] at k
    exact k _ ((kr_fR.rf μ).u _ _ (by decide)) (hR.house hw)
  · rw [if_neg cz] at k
    exact k _ ((kr_fR.rf μ).u _ _ (by decide)) (hR.house hw)
theorem c_C_plan (hw : kr_wf g P D K t) (hR : kr_Rg μ 1 g P D K t) (k : ∀ μ', kr_fR μ μ' → kr_Rg μ' 1 (pz_plan g P x y w).2 P D K t → Q (some (.int (pz_plan g P x y w).1)) μ') : kr_c (d + 2) i_C_plan [.ref 0, .int x, .int y, .int w] μ Q := by
  have hN := hw.1.1
  have hP := hw.1.2.2.1
  refine v_C_plan ?_
  rw [hR.1.1]
  unfold pz_plan at k
  have no : ¬ (((0 ≤ x ∧ x < nI P) ∧ (0 ≤ y ∧ y < nI P)) ∧ (¬ x = y ∧ (1 : Int32) ≤ w ∧ w ≤ 9)) → Q (some (.int (-1))) μ := fun c => by rw [if_neg c] at k; exact k μ (kr_fR.rf μ) hR
  refine ⟨fun c => no (fun z => c z.1.1), fun c => ⟨fun c2 => no (fun z => c2 z.1.2), fun c2 => ⟨fun c3 => no (fun z => z.2.1 c3), fun c3 => ⟨fun c4 => no (fun z => kr_nlt.mpr z.2.2.1 c4), fun c4 => ⟨fun c5 => ?_, fun c5 => no (fun z => c5 z.2.2.2)⟩⟩⟩⟩⟩
  rw [if_pos ⟨⟨c, c2⟩, c3, kr_nlt.mp c4, c5⟩] at k
  refine v_R_addLine (d := d) ?_
  rw [hR.1.2.2.1, nI_clamp (by omega), show (12 : Int32) = nI 12 from rfl, nI_ltI (by omega) (by decide), show nI (g 0) + 1 - 1 = nI (g 0) from Int32.add_sub_cancel _ _, kr_n1]
  refine ⟨fun c6 => ⟨vp_in_nI c6 (by decide), vp_in_nI c6 (by decide), vp_in_nI c6 (by decide), vp_in_nI c6 (by decide), v_C_plan_51 ?_⟩, fun c6 => v_C_plan_51 (by rw [if_pos (by omega)] at k; exact k μ (kr_fR.rf μ) hR)⟩
  rw [if_neg (by omega)] at k
  obtain ⟨i, hi, rfl⟩ := kr_ix (by omega) c
  obtain ⟨j, hj, rfl⟩ := kr_ix (by omega) c2
  obtain ⟨v, hv, rfl⟩ := kr_ixm (n := 9) (by decide) ⟨by rw [kr_nlt] at c4; rw [kr_le] at c4 ⊢; have e1 : (1 : Int32).toInt = 1 := rfl; have e0 : (0 : Int32).toInt = 0 := rfl; omega, c5⟩
  rw [nI_clamp (by omega), nI_clamp (by omega), nI_clamp (by omega)] at k
  refine k _ ((((((kr_fR.rf μ).u _ _ (by decide)).u _ _ (by decide)).u _ _ (by decide)).u _ _ (by decide)).u _ _ (by decide)) ?_
  show kr_Rg _ 1 (kz_plan g i j v) P D K t
  obtain ⟨⟨n12, -, -, d5, -⟩, -, -, -, -, -, h8, -⟩ := hw
  obtain ⟨⟨a1, a2, a3, a4, a5, a6⟩, b, r, h6, h7, hl, h10, c', c1, c2', c3'⟩ := hR
  obtain ⟨p0, p1, p2, p3, p4⟩ := kz_plan_s (g := g) (a := i) (b := j) (y := v)
  have hn : ∀ m, m ≠ 0 → 6 + 5 * g 0 ≤ m → kz_plan g i j v m = g m := fun m h1 h2 => kz_plan_n h1 (Or.inr h2)
  refine ⟨⟨a1, ?_, ?_, a4, a5, ?_⟩, fun l hl => ?_, ?_, fun d hd => ?_, fun p hp => h7 p hp, ?_, fun m hm => ?_, c', c1, c2', fun m hm => ?_⟩
  · rw [hn 61 (by omega) (by omega)]; exact a2
  · rw [kz_plan_0]; rfl
  · rw [hn 108 (by omega) (by omega)]; exact a6
  · rw [kz_plan_0] at hl
    by_cases el : l = g 0
    · rw [el, p0, p1, p2, p3]
      refine ⟨?_, ?_, ?_, ?_⟩
      · show (upd (μ.1 2) (g 0) (nI i)) (g 0) = _
        rw [kr_upd_s]
      · show (upd (μ.1 3) (g 0) (nI j)) (g 0) = _
        rw [kr_upd_s]
      · show (upd (μ.1 4) (g 0) (nI v)) (g 0) = _
        rw [kr_upd_s]
      · show (upd (μ.1 5) (g 0) 0) (g 0) = _
        rw [kr_upd_s]; rfl
    · have hl2 : l < g 0 := by omega
      rw [kz_plan_l hl2 (by decide), kz_plan_l hl2 (by decide), kz_plan_l hl2 (by decide), kz_plan_l hl2 (by decide)]
      obtain ⟨b1, b2, b3, b4⟩ := b l hl2
      refine ⟨?_, ?_, ?_, ?_⟩
      · show (upd (μ.1 2) (g 0) (nI i)) l = _
        rw [kr_upd_n _ _ el]; exact b1
      · show (upd (μ.1 3) (g 0) (nI j)) l = _
        rw [kr_upd_n _ _ el]; exact b2
      · show (upd (μ.1 4) (g 0) (nI v)) l = _
        rw [kr_upd_n _ _ el]; exact b3
      · show (upd (μ.1 5) (g 0) 0) l = _
        rw [kr_upd_n _ _ el]; exact b4
  · show μ.1 1 7 = _
    rw [r, kz_plan_0, kx_bl, p4]
    rw [show (if (0 == 1) = true then 2 ^ g 0 else 0) = 0 from rfl, Nat.or_zero]
    congr 1
    exact kr_bm_congr (fun l hl => by rw [kz_plan_l hl (by decide)])
  · rw [hn _ (by omega) (by omega)]; exact h6 d hd
  · show μ.2 1 = _
    rw [hl]
    exact congrArg lN (kr_bm_congr (fun q hq => by rw [hn (67 + q) (by omega) (by omega)]))
  · rw [hn 108 (by omega) (by omega)] at hm
    rw [hn (109 + 2 * m) (by omega) (by omega)]; exact h10 m hm
  · rw [hn 108 (by omega) (by omega)] at hm
    rw [hn (110 + 2 * m) (by omega) (by omega)]; exact c3' m hm
theorem c_R_addHeard (hw : kr_wf g P D K t) (hR : kr_Rg μ 1 g P D K t) (k : ∀ μ', kr_fR μ μ' → kr_Rg μ' 1 (pz_hear g x z).2 P D K t → Q (some (.int (pz_hear g x z).1)) μ') : kr_c (d + 3) i_R_addHeard [.ref 1, .int x, .int z] μ Q := by
  have hN := hw.1.1
  have hpN := kx_p12 hN
  refine v_R_addHeard ?_
  rw [hR.1.2.2.1]
  unfold pz_hear at k
  refine ⟨fun c => by rw [if_neg (fun q => q.1 c)] at k; exact k μ (kr_fR.rf μ) hR, fun c => ⟨fun c2 => ?_, fun c2 => by rw [if_neg (fun q => c2 q.2)] at k; exact k μ (kr_fR.rf μ) hR⟩⟩
  rw [if_pos ⟨c, c2⟩] at k
  obtain ⟨S, hS, rfl⟩ := kr_set hN c2
  rw [nI_clamp (by omega)] at k
  have h8w := hw.2.2.2.2.2.2.1
  have hR' := hR
  obtain ⟨⟨n12, -, -, d5, -⟩, -, -, -, -, -, h8, -⟩ := hw
  obtain ⟨⟨a1, a2, a3, a4, a5, a6⟩, b, r, h6, h7, hl, h10, c', c1, c2', c3'⟩ := hR
  rw [a6, c2', nI_clamp (by omega), kr_andc (by omega) (by omega), kr_1sh _ (by omega), kr_or, show (8 : Int32) = nI 8 from rfl, nI_ltI (by omega) (by decide), kr_n1]
  refine ⟨fun c8 => ⟨vp_in_nI c8 (by decide), ?_⟩, fun c8 => by rw [if_pos (by omega)] at k; exact k μ (kr_fR.rf μ) hR'⟩
  rw [if_neg (by omega)] at k
  have hn : ∀ s v m, m < 108 → kz_hear g s v m = g m := fun s v m h1 => kz_hear_n (by omega) (by omega) (by omega)
  have key : ∀ (v c2 : Nat), c2 < 256 → (∀ h, h < g 108 → c2.testBit h = c'.testBit h) → c2.testBit (g 108) = (v == 1) → kr_Rg (kr_u (kr_u (kr_u μ 10 (g 108) (nI S)) 1 17 (nI c2)) 1 15 (nI (g 108 + 1))) 1 (kz_hear g S v) P D K t := by
    intro v c2 hc2 hb1 hb2
    refine ⟨⟨a1, ?_, ?_, a4, a5, ?_⟩, fun l hl => ?_, ?_, fun d hd => ?_, fun p hp => h7 p hp, ?_, fun m hm => ?_, c2, hc2, rfl, fun m hm => ?_⟩
    · rw [hn _ _ 61 (by omega)]; exact a2
    · rw [hn _ _ 0 (by omega)]; exact a3
    · rw [kz_hear_0]; rfl
    · rw [hn _ _ 0 (by omega)] at hl
      have gk : ∀ w, w < 5 → kr_gk (kz_hear g S v) l w = kr_gk g l w := fun w h1 => hn _ _ _ (by omega)
      rw [gk 0 (by decide), gk 1 (by decide), gk 2 (by decide), gk 3 (by decide)]
      exact b l hl
    · show μ.1 1 7 = _
      rw [r, hn _ _ 0 (by omega)]
      congr 1
      exact kr_bm_congr (fun l hl => by rw [show kr_gk (kz_hear g S v) l 4 = kr_gk g l 4 from hn _ _ _ (by omega)])
    · rw [hn _ _ _ (by omega)]; exact h6 d hd
    · show μ.2 1 = _
      rw [hl]
      congr 1
      exact kr_bm_congr (fun q hq => by rw [hn _ _ (67 + q) (by omega)])
    · rw [kz_hear_0] at hm
      show (upd (μ.1 10) (g 108) (nI S)) m = _
      by_cases em : m = g 108
      · rw [em, kr_upd_s, kz_hear_1]
      · rw [kr_upd_n _ _ em, kz_hear_n (by omega) (by omega) (by omega)]; exact h10 m (by omega)
    · rw [kz_hear_0] at hm
      by_cases em : m = g 108
      · rw [em, kz_hear_2]; exact hb2
      · rw [hb1 m (by omega), kz_hear_n (by omega) (by omega) (by omega)]; exact c3' m (by omega)
  have hf : ∀ c2 : Nat, kr_fR μ (kr_u (kr_u (kr_u μ 10 (g 108) (nI S)) 1 17 (nI c2)) 1 15 (nI (g 108 + 1))) := fun c2 => (((kr_fR.rf μ).u _ _ (by decide)).u _ _ (by decide)).u _ _ (by decide)
  refine ⟨fun cz => ?_, fun cz => ?_⟩
  · rw [if_pos cz] at k
    refine k _ (hf _) (key 0 (kr_cl c' (g 108)) (Nat.lt_of_le_of_lt (kr_cl_le (by omega)) c1) (fun h hh => ?_) ?_)
    · rw [kr_cl_bit (by omega)]
      have : ¬ h = g 108 := by omega
      simp [this]
    · rw [kr_cl_bit (by omega)]; simp
  · rw [if_neg cz] at k
    refine k _ (hf _) (key 1 (c' ||| 2 ^ g 108) (Nat.or_lt_two_pow (n := 8) c1 (Nat.pow_lt_pow_right (by decide) c8)) (fun h hh => ?_) ?_)
    · rw [Nat.testBit_or, Nat.testBit_two_pow]
      have : ¬ g 108 = h := by omega
      simp [this]
    · rw [Nat.testBit_or, Nat.testBit_two_pow_self]; simp
theorem c_C_hear (hw : kr_wf g P D K t) (hR : kr_Rg μ 1 g P D K t) (k : ∀ μ', kr_fR μ μ' → kr_Rg μ' 1 (pz_hear g x z).2 P D K t → Q (some (.int (pz_hear g x z).1)) μ') : kr_c (d + 4) i_C_hear [.ref 0, .int x, .int z] μ Q :=
  v_C_hear (c_R_addHeard hw hR (fun μ' a b => v_C_hear_9 (k μ' a b)))
theorem kr_Rg.forget (h : kr_Rg μ 1 g P D K t) (hw : kr_wf g P D K t) {v : Nat} (hv : v ≤ g 108) : kr_Rg (kr_u μ 1 15 (nI v)) 1 (kx_un g 108 v) P D K t := by
  obtain ⟨⟨n12, -, -, d5, -⟩, -, -, -, -, -, h8, -⟩ := hw
  obtain ⟨⟨a1, a2, a3, a4, a5, a6⟩, b, r, h6, h7, hl, h10, c, c1, c2, c3⟩ := h
  have hn : ∀ j, j ≠ 108 → kx_un g 108 v j = g j := fun j hj => kx_un_n _ _ hj
  have gk : ∀ l w, l < g 0 → w < 5 → kr_gk (kx_un g 108 v) l w = kr_gk g l w := fun l w hl h1 => hn _ (by omega)
  have g0 := hn 0 (by omega)
  refine ⟨⟨a1, ?_, ?_, a4, a5, ?_⟩, fun l hl => ?_, ?_, fun d hd => ?_, fun p hp => h7 p hp, ?_, fun m hm => ?_, c, c1, c2, fun m hm => ?_⟩
  · rw [hn 61 (by omega)]; exact a2
  · rw [g0]; exact a3
  · rw [kx_un_s]; rfl
  · rw [g0] at hl
    rw [gk l 0 hl (by decide), gk l 1 hl (by decide), gk l 2 hl (by decide), gk l 3 hl (by decide)]
    exact b l hl
  · rw [g0]
    show μ.1 1 7 = _
    rw [r]
    congr 1
    exact kr_bm_congr (fun l hl => by rw [gk l 4 hl (by decide)])
  · rw [hn _ (by omega)]; exact h6 d hd
  · show μ.2 1 = _
    rw [hl]
    exact congrArg lN (kr_bm_congr (fun q hq => by rw [hn (67 + q) (by omega)]))
  · rw [kx_un_s] at hm
    rw [hn (109 + 2 * m) (by omega)]; exact h10 m (by omega)
  · rw [kx_un_s] at hm
    rw [hn (110 + 2 * m) (by omega)]; exact c3 m (by omega)
theorem c_C_forget (hw : kr_wf g P D K t) (hR : kr_Rg μ 1 g P D K t) (k : ∀ μ', kr_fR μ μ' → kr_Rg μ' 1 (pz_forget g x).2 P D K t → Q (some (.int (pz_forget g x).1)) μ') : kr_c (d + 1) i_C_forget [.ref 0, .int x] μ Q := by
  have h8 := hw.2.2.2.2.2.2.1
  refine v_C_forget ?_
  rw [hR.1.2.2.2.2.2]
  unfold pz_forget at k
  refine ⟨fun c => ?_, fun c => ⟨fun c2 => ?_, fun c2 => ?_⟩⟩
  · rw [if_neg (fun q => kr_nlt.mpr q.1 c)] at k; exact k μ (kr_fR.rf μ) hR
  · rw [if_pos ⟨kr_nlt.mp c, c2⟩] at k
    obtain ⟨j, hj, rfl⟩ := kr_ixm (by omega) ⟨kr_nlt.mp c, c2⟩
    rw [nI_clamp (by omega)] at k
    exact k _ ((kr_fR.rf μ).u _ _ (by decide)) (hR.forget hw hj)
  · rw [if_neg (fun q => c2 q.2)] at k; exact k μ (kr_fR.rf μ) hR
end
