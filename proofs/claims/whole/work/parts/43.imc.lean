/-! images kept and taken back; counts; faults -/
theorem st_C_fault {d : Nat} {Q : kr_Q} {pc : Nat} {ls : kr_L} {st : List Value} {μ : kr_M} (h : C_C_fault pc (kr_Wp C_C_fault (kr_c d) Q) (kr_c d) Q ls st μ) : kr_Wp C_C_fault (kr_c d) Q pc ls st μ := kr_Wp.step (fun pc => (kr_ok_C_fault pc).2) (kr_c_om d) h
theorem v_C_fault {d : Nat} {Q : kr_Q} {μ : kr_M}  (h : Q (some (.int (μ.1 13 3))) μ) : kr_c (d + 1) i_C_fault [.ref 0] μ Q := ⟨rfl, (st_C_fault (st_C_fault (And.intro rfl (st_C_fault (And.intro rfl (st_C_fault h))))))⟩
theorem st_M_fault {d : Nat} {Q : kr_Q} {pc : Nat} {ls : kr_L} {st : List Value} {μ : kr_M} (h : C_M_fault pc (kr_Wp C_M_fault (kr_c d) Q) (kr_c d) Q ls st μ) : kr_Wp C_M_fault (kr_c d) Q pc ls st μ := kr_Wp.step (fun pc => (kr_ok_M_fault pc).2) (kr_c_om d) h
theorem v_M_fault {d : Nat} {Q : kr_Q} {μ : kr_M}  (h : Q (some (.int (μ.1 65 19))) μ) : kr_c (d + 1) i_M_fault [.ref 65] μ Q := ⟨rfl, (st_M_fault (st_M_fault (And.intro rfl (st_M_fault h))))⟩
theorem st_C_torn {d : Nat} {Q : kr_Q} {pc : Nat} {ls : kr_L} {st : List Value} {μ : kr_M} (h : C_C_torn pc (kr_Wp C_C_torn (kr_c d) Q) (kr_c d) Q ls st μ) : kr_Wp C_C_torn (kr_c d) Q pc ls st μ := kr_Wp.step (fun pc => (kr_ok_C_torn pc).2) (kr_c_om d) h
theorem v_C_torn {d : Nat} {Q : kr_Q} {μ : kr_M}  (h : Q (some (.int (μ.1 0 11))) μ) : kr_c (d + 1) i_C_torn [.ref 0] μ Q := ⟨rfl, (st_C_torn (st_C_torn (And.intro rfl (st_C_torn h))))⟩
theorem st_M_torn {d : Nat} {Q : kr_Q} {pc : Nat} {ls : kr_L} {st : List Value} {μ : kr_M} (h : C_M_torn pc (kr_Wp C_M_torn (kr_c d) Q) (kr_c d) Q ls st μ) : kr_Wp C_M_torn (kr_c d) Q pc ls st μ := kr_Wp.step (fun pc => (kr_ok_M_torn pc).2) (kr_c_om d) h
theorem v_M_torn {d : Nat} {Q : kr_Q} {μ : kr_M}  (h : Q (some (.int (μ.1 65 44))) μ) : kr_c (d + 1) i_M_torn [.ref 65] μ Q := ⟨rfl, (st_M_torn (st_M_torn (And.intro rfl (st_M_torn h))))⟩
theorem st_C_count {d : Nat} {Q : kr_Q} {pc : Nat} {ls : kr_L} {st : List Value} {μ : kr_M} (h : C_C_count pc (kr_Wp C_C_count (kr_c d) Q) (kr_c d) Q ls st μ) : kr_Wp C_C_count (kr_c d) Q pc ls st μ := kr_Wp.step (fun pc => (kr_ok_C_count pc).2) (kr_c_om d) h
theorem v_C_count {d : Nat} {Q : kr_Q} {μ : kr_M} {a1 : Int32} (h : ((a1 = 0 → kr_c (d + 2) i_R_wholeLines [.ref 1] μ (kr_bk (kr_Wp C_C_count (kr_c (d + 2)) Q) 43 [some (.ref 0), some (.int a1)] [])) ∧ (¬ a1 = 0 → ((a1 = 1 → Q (some (.int (μ.1 1 15))) μ) ∧ (¬ a1 = 1 → ((a1 = 2 → kr_c (d + 2) i_J6_bitCount [.int (μ.1 0 10)] μ (kr_bk (kr_Wp C_C_count (kr_c (d + 2)) Q) 62 [some (.ref 0), some (.int a1)] [])) ∧ (¬ a1 = 2 → ((a1 = 3 → Q (some (.int (μ.1 11 1))) μ) ∧ (¬ a1 = 3 → ((a1 = 4 → vp_in 0 4 ∧ ((¬ ((μ.1 43 0) = -1) → vp_in 0 4 ∧ Q (some (.int (μ.1 43 0))) μ) ∧ ((μ.1 43 0) = -1 → Q (some (.int (-4))) μ))) ∧ (¬ a1 = 4 → Q (some (.int (-1))) μ))))))))))) : kr_c (d + 3) i_C_count [.ref 0, .int a1] μ Q := ⟨rfl, (st_C_count (st_C_count (kr_tsel [36, 47, 55, 63, 71] rfl (by decide) (And.intro (fun z0 => (st_C_count (st_C_count (And.intro rfl (st_C_count (And.intro rfl (h.1 z0))))))) (fun z0 => (And.intro (fun z1 => (st_C_count (st_C_count (And.intro rfl (st_C_count (And.intro rfl (st_C_count ((h.2 z0).1 z1)))))))) (fun z1 => (And.intro (fun z2 => (st_C_count (st_C_count (And.intro rfl (st_C_count (((h.2 z0).2 z1).1 z2)))))) (fun z2 => (And.intro (fun z3 => (st_C_count (st_C_count (And.intro rfl (st_C_count (And.intro rfl (st_C_count ((((h.2 z0).2 z1).2 z2).1 z3)))))))) (fun z3 => (And.intro (fun z4 => (st_C_count (st_C_count (And.intro rfl (st_C_count (st_C_count (And.intro rfl (c_S_isNothing (((((h.2 z0).2 z1).2 z2).2 z3).1 z4).1 (st_C_count (And.intro (fun z1x => (st_C_count (st_C_count (And.intro rfl (st_C_count (st_C_count (And.intro rfl (c_S_sizeOf ((((((h.2 z0).2 z1).2 z2).2 z3).1 z4).2.1 (kr_b0 z1x)).1 (st_C_count ((((((h.2 z0).2 z1).2 z2).2 z3).1 z4).2.1 (kr_b0 z1x)).2))))))))) (fun z1x => (st_C_count (st_C_count (st_C_count ((((((h.2 z0).2 z1).2 z2).2 z3).1 z4).2.2 (kr_b1 z1x)))))))))))))))) (fun z4 => (st_C_count (st_C_count (((((h.2 z0).2 z1).2 z2).2 z3).2 z4))))))))))))))))⟩
theorem v_C_count_43 {d : Nat} {Q : kr_Q} {μ : kr_M} {a1 : Int32} {r : Int32} (h : kr_c (d + 2) i_J6_bitCount [.int r] μ (kr_bk (kr_Wp C_C_count (kr_c (d + 2)) Q) 46 [some (.ref 0), some (.int a1)] [])) : kr_Wp C_C_count (kr_c (d + 2)) Q 43 [some (.ref 0), some (.int a1)] [.int r] μ := (st_C_count h)
theorem v_C_count_62 {d : Nat} {Q : kr_Q} {μ : kr_M} {a1 : Int32} {r : Int32} (h : Q (some (.int r)) μ) : kr_Wp C_C_count (kr_c (d + 2)) Q 62 [some (.ref 0), some (.int a1)] [.int r] μ := (st_C_count h)
theorem v_C_count_46 {d : Nat} {Q : kr_Q} {μ : kr_M} {a1 : Int32} {r : Int32} (h : Q (some (.int r)) μ) : kr_Wp C_C_count (kr_c (d + 2)) Q 46 [some (.ref 0), some (.int a1)] [.int r] μ := (st_C_count h)
theorem st_M_count {d : Nat} {Q : kr_Q} {pc : Nat} {ls : kr_L} {st : List Value} {μ : kr_M} (h : C_M_count pc (kr_Wp C_M_count (kr_c d) Q) (kr_c d) Q ls st μ) : kr_Wp C_M_count (kr_c d) Q pc ls st μ := kr_Wp.step (fun pc => (kr_ok_M_count pc).2) (kr_c_om d) h
theorem v_M_count {d : Nat} {Q : kr_Q} {μ : kr_M} {a1 : Int32} (h : ((a1 = 0 → kr_c (d + 2) i_M_wholeLines [.ref 65] μ (kr_bk (kr_Wp C_M_count (kr_c (d + 2)) Q) 40 [some (.ref 65), some (.int a1)] [])) ∧ (¬ a1 = 0 → ((a1 = 1 → Q (some (.int (μ.1 66 108))) μ) ∧ (¬ a1 = 1 → ((a1 = 2 → Q (some (.int ((if ¬ (μ.1 67 0) = 0 then (1 : Int32) else 0) + (if ¬ (μ.1 67 1) = 0 then (1 : Int32) else 0)))) μ) ∧ (¬ a1 = 2 → ((a1 = 3 → Q (some (.int (μ.1 65 14))) μ) ∧ (¬ a1 = 3 → ((a1 = 4 → ((¬ (μ.1 83 0) = (-4) → Q (some (.int (μ.1 84 0))) μ) ∧ ((μ.1 83 0) = (-4) → Q (some (.int (-4))) μ))) ∧ (¬ a1 = 4 → Q (some (.int (-1))) μ))))))))))) : kr_c (d + 3) i_M_count [.ref 65, .int a1] μ Q := ⟨rfl, (st_M_count (st_M_count (kr_tsel [36, 44, 52, 72, 77] rfl (by decide) (And.intro (fun z0 => (st_M_count (st_M_count (And.intro rfl (h.1 z0))))) (fun z0 => (And.intro (fun z1 => (st_M_count (st_M_count (And.intro rfl (st_M_count (st_M_count (And.intro ⟨375, rfl, kr_vp rfl⟩ (st_M_count ((h.2 z0).1 z1))))))))) (fun z1 => (And.intro (fun z2 => (st_M_count (st_M_count (And.intro rfl (st_M_count (st_M_count (And.intro ⟨2, rfl, kr_vp rfl⟩ (st_M_count (c_M_flag (st_M_count (st_M_count (And.intro rfl (st_M_count (st_M_count (And.intro ⟨2, rfl, kr_vp rfl⟩ (st_M_count (c_M_flag (st_M_count (st_M_count (((h.2 z0).2 z1).1 z2)))))))))))))))))))) (fun z2 => (And.intro (fun z3 => (st_M_count (st_M_count (And.intro rfl (st_M_count ((((h.2 z0).2 z1).2 z2).1 z3)))))) (fun z3 => (And.intro (fun z4 => (st_M_count (st_M_count (And.intro rfl (st_M_count (st_M_count (And.intro ⟨4, rfl, kr_vp rfl⟩ (st_M_count (st_M_count (And.intro (fun z1x => (st_M_count (st_M_count (And.intro rfl (st_M_count (st_M_count (And.intro ⟨4, rfl, kr_vp rfl⟩ (st_M_count ((((((h.2 z0).2 z1).2 z2).2 z3).1 z4).1 z1x))))))))) (fun z1x => (st_M_count (st_M_count (st_M_count ((((((h.2 z0).2 z1).2 z2).2 z3).1 z4).2 (Decidable.not_not.mp z1x)))))))))))))))) (fun z4 => (st_M_count (st_M_count (((((h.2 z0).2 z1).2 z2).2 z3).2 z4))))))))))))))))⟩
theorem v_M_count_40 {d : Nat} {Q : kr_Q} {μ : kr_M} {a1 : Int32} {r : Int32} (h : kr_c (d + 2) i_M_bitsOf [.int r] μ (kr_bk (kr_Wp C_M_count (kr_c (d + 2)) Q) 43 [some (.ref 65), some (.int a1)] [])) : kr_Wp C_M_count (kr_c (d + 2)) Q 40 [some (.ref 65), some (.int a1)] [.int r] μ := (st_M_count h)
theorem v_M_count_43 {d : Nat} {Q : kr_Q} {μ : kr_M} {a1 : Int32} {r : Int32} (h : Q (some (.int r)) μ) : kr_Wp C_M_count (kr_c (d + 2)) Q 43 [some (.ref 65), some (.int a1)] [.int r] μ := (st_M_count h)
section
variable {d : Nat} {Q : kr_Q} {μ : kr_M} {g t : Nat → Nat} {P D K : Nat} {x y z w : Int32}
theorem kr_wf.cg {g' : Nat → Nat} (h : kr_wf g P D K t) (he : ∀ j, j < 125 → g' j = g j) : kr_wf g' P D K t := by
  obtain ⟨⟨a1, a2, a3, a4, a5⟩, b, c, dd, e, f, i, j⟩ := h
  refine ⟨⟨by rw [he 0 (by decide)]; exact a1, a2, a3, a4, a5⟩, fun l hl => ?_, ?_, fun d hd => ?_, e, fun q hq => ?_, ?_, fun m hm => ?_⟩
  · rw [he 0 (by decide)] at hl
    have gk : ∀ w, w < 5 → kr_gk g' l w = kr_gk g l w := fun w h1 => he _ (by omega)
    rw [gk 0 (by decide), gk 1 (by decide), gk 2 (by decide), gk 3 (by decide), gk 4 (by decide)]
    exact b l hl
  · rw [he 61 (by decide)]; exact c
  · rw [he _ (by omega)]; exact dd d hd
  · rw [he _ (by omega)]; exact f q hq
  · rw [he 108 (by decide)]; exact i
  · rw [he 108 (by decide)] at hm
    rw [he _ (by omega), he _ (by omega)]; exact j m hm
theorem kr_Rg.cg {o : Nat} {g' : Nat → Nat} (hw : kr_wf g P D K t) (h : kr_Rg μ o g P D K t) (he : ∀ j, j < 125 → g' j = g j) : kr_Rg μ o g' P D K t := by
  obtain ⟨⟨n12, -, -, d5, -⟩, -, -, -, -, -, h8, -⟩ := hw
  obtain ⟨⟨a1, a2, a3, a4, a5, a6⟩, b, r, h6, h7, hl, h10, c, c1, c2, c3⟩ := h
  have g0 := he 0 (by decide)
  have g108 := he 108 (by decide)
  have gk : ∀ l w, l < g 0 → w < 5 → kr_gk g' l w = kr_gk g l w := fun l w hl h1 => he _ (by omega)
  refine ⟨⟨a1, by rw [he 61 (by decide)]; exact a2, by rw [g0]; exact a3, a4, a5, by rw [g108]; exact a6⟩, fun l hl => ?_, ?_, fun d hd => ?_, h7, ?_, fun m hm => ?_, c, c1, c2, fun m hm => ?_⟩
  · rw [g0] at hl
    rw [gk l 0 hl (by decide), gk l 1 hl (by decide), gk l 2 hl (by decide), gk l 3 hl (by decide)]
    exact b l hl
  · rw [g0, r]
    exact congrArg nI (kr_bm_congr (fun l hl => by rw [gk l 4 hl (by decide)]))
  · rw [he _ (by omega)]; exact h6 d hd
  · rw [hl]
    exact congrArg lN (kr_bm_congr (fun q hq => by rw [he (67 + q) (by omega)]))
  · rw [g108] at hm
    rw [he _ (by omega)]; exact h10 m hm
  · rw [g108] at hm
    rw [he _ (by omega)]; exact c3 m hm
theorem kr_Rg.mem {o : Nat} {μ' : kr_M} (h : kr_Rg μ o g P D K t) (h1 : ∀ a, o ≤ a → a ≤ o + 9 → μ'.1 a = μ.1 a) (h2 : μ'.2 o = μ.2 o) : kr_Rg μ' o g P D K t := by
  unfold kr_Rg
  rw [h1 o (by omega) (by omega), h1 (o + 1) (by omega) (by omega), h1 (o + 2) (by omega) (by omega), h1 (o + 3) (by omega) (by omega), h1 (o + 4) (by omega) (by omega), h1 (o + 5) (by omega) (by omega), h1 (o + 6) (by omega) (by omega), h1 (o + 7) (by omega) (by omega), h1 (o + 8) (by omega) (by omega), h1 (o + 9) (by omega) (by omega), h2]
  exact h
def kr_Im (μ : kr_M) (g : Nat → Nat) (P D K : Nat) (t : Nat → Nat) (kp : Nat) : Prop := μ.1 0 10 = nI kp ∧ ∀ k, k < 2 → kp.testBit k = true → kr_Rg μ (45 + 10 * k) (kx_im g k) P D K t
def kx_iw (g : Nat → Nat) (P D K : Nat) (t : Nat → Nat) (kp : Nat) : Prop := kp < 4 ∧ ∀ k, k < 2 → kp.testBit k = true → kr_wf (kx_im g k) P D K t
def kr_Mk (μ : kr_M) (kp : Nat) : Prop := ∀ k, k < 2 → μ.1 67 k = nI (kp.testBit k).toNat
def kz_kp (g : Nat → Nat) (k : Nat) : Nat → Nat := fun j => if 125 * (k + 1) ≤ j ∧ j < 125 * (k + 1) + 125 then g (j - 125 * (k + 1)) else g j
def kz_bk (g : Nat → Nat) (k : Nat) : Nat → Nat := fun j => if j < 125 then g (125 * (k + 1) + j) else g j
abbrev kz_I : Type := (Nat → Nat) × Nat
def pz_keep (g : Nat → Nat) (kp : Nat) (x : Int32) : Int32 × kz_I := if 0 ≤ x ∧ x < 2 then (nI (kp.testBit x.toNatClampNeg).toNat, (kz_kp g x.toNatClampNeg, kp ||| 2 ^ x.toNatClampNeg)) else (-1, (g, kp))
def pz_back (g : Nat → Nat) (kp : Nat) (x : Int32) : kz_A := if 0 ≤ x ∧ x < 2 then (if kp.testBit x.toNatClampNeg = true then (nI (g (125 * (x.toNatClampNeg + 1))), kz_bk g x.toNatClampNeg) else (-2, g)) else (-1, g)
theorem kz_kp_lo {k j : Nat} (h : j < 125) : kz_kp g k j = g j := if_neg (fun z => by omega)
theorem kz_kp_im {k m j : Nat} (hj : j < 125) : kx_im (kz_kp g k) m j = if m = k then g j else kx_im g m j := by
  unfold kx_im kz_kp
  by_cases c : m = k
  · rw [if_pos c, c, if_pos ⟨by omega, by omega⟩, show 125 * (k + 1) + j - 125 * (k + 1) = j by omega]
  · rw [if_neg c, if_neg (fun z => by omega)]
theorem kz_bk_lo {k j : Nat} (h : j < 125) : kz_bk g k j = kx_im g k j := if_pos h
theorem kz_bk_im {k m : Nat} : kx_im (kz_bk g k) m = kx_im g m := by
  funext j
  exact if_neg (fun z => by omega)
theorem kx_lt2 {x : Int32} : (0 ≤ x ∧ x ≤ 1) ↔ (0 ≤ x ∧ x < 2) := by
  rw [kr_le, kr_le, kr_lt]
  have e0 : (0 : Int32).toInt = 0 := rfl
  have e3 : (1 : Int32).toInt = 1 := rfl
  have e4 : (2 : Int32).toInt = 2 := rfl
  omega
theorem kx_iw_keep {kp : Nat} (hw : kr_wf g P D K t) (h : kx_iw g P D K t kp) : kx_iw (pz_keep g kp x).2.1 P D K t (pz_keep g kp x).2.2 ∧ kr_wf (pz_keep g kp x).2.1 P D K t := by
  unfold pz_keep
  by_cases c : 0 ≤ x ∧ x < 2
  · rw [if_pos c]
    obtain ⟨k, hk, rfl⟩ := kr_ix (n := 2) (by decide) c
    rw [nI_clamp (by omega)]
    refine ⟨⟨Nat.or_lt_two_pow (n := 2) h.1 (Nat.pow_lt_pow_right (by decide) hk), fun m hm hb => ?_⟩, hw.cg (fun j hj => kz_kp_lo hj)⟩
    by_cases e : m = k
    · exact hw.cg (fun j hj => by rw [kz_kp_im hj, if_pos e])
    · rw [Nat.testBit_or, Nat.testBit_two_pow] at hb
      have : ¬ k = m := fun z => e z.symm
      simp [this] at hb
      exact (h.2 m hm hb).cg (fun j hj => by rw [kz_kp_im hj, if_neg e])
  · rw [if_neg c]
    exact ⟨h, hw⟩
theorem kx_iw_back {kp : Nat} (hw : kr_wf g P D K t) (h : kx_iw g P D K t kp) : kx_iw (pz_back g kp x).2 P D K t kp ∧ kr_wf (pz_back g kp x).2 P D K t := by
  unfold pz_back
  by_cases c : 0 ≤ x ∧ x < 2
  · rw [if_pos c]
    obtain ⟨k, hk, rfl⟩ := kr_ix (n := 2) (by decide) c
    rw [nI_clamp (by omega)]
    by_cases cb : kp.testBit k = true
    · rw [if_pos cb]
      refine ⟨⟨h.1, fun m hm hb => ?_⟩, (h.2 k hk cb).cg (fun j hj => kz_bk_lo hj)⟩
      rw [kz_bk_im]; exact h.2 m hm hb
    · rw [if_neg cb]; exact ⟨h, hw⟩
  · rw [if_neg c]
    exact ⟨h, hw⟩
/-- images alone change -/
def kr_fK (μ μ' : kr_M) : Prop := (∀ o, (1 ≤ o ∧ o ≤ 44) ∨ 64 < o → μ'.1 o = μ.1 o) ∧ (∀ k, k ≠ 10 → μ'.1 0 k = μ.1 0 k) ∧ ∀ o, o < 45 → μ'.2 o = μ.2 o
theorem kr_fK.rf (μ : kr_M) : kr_fK μ μ := ⟨fun _ _ => rfl, fun _ _ => rfl, fun _ _ => rfl⟩
theorem c_C_keep {kp : Nat} (hw : kr_wf g P D K t) (hR : kr_Rg μ 1 g P D K t) (hI : kr_Im μ g P D K t kp) (hi : kx_iw g P D K t kp) (k : ∀ μ', kr_fK μ μ' → kr_Im μ' (pz_keep g kp x).2.1 P D K t (pz_keep g kp x).2.2 → Q (some (.int (pz_keep g kp x).1)) μ') : kr_c (d + 2) i_C_keep [.ref 0, .int x] μ Q := by
  have hkp := hi.1
  refine v_C_keep (fun c1 c2 => ?_) ?_
  · obtain ⟨j, hj, rfl⟩ := kr_ix (n := 2) (by decide) ⟨kr_nlt.mp c1, c2⟩
    rw [nI_clamp (by omega)]
    rcases (by omega : j = 0 ∨ j = 1) with rfl | rfl <;> rfl
  unfold pz_keep at k
  refine ⟨fun c => ?_, fun c => ⟨fun c2 => ?_, fun c2 => ?_⟩⟩
  · rw [if_neg (fun q => kr_nlt.mpr q.1 c)] at k; exact k μ (kr_fK.rf μ) hI
  · rw [if_pos ⟨kr_nlt.mp c, c2⟩] at k
    obtain ⟨j, hj, rfl⟩ := kr_ix (n := 2) (by decide) ⟨kr_nlt.mp c, c2⟩
    rw [nI_clamp (by omega)] at k
    rw [hI.1, kr_bitI (by omega) (by omega), nI_clamp (by omega)]
    refine ⟨vp_in_nI hj (by decide), ?_⟩
    -- the copy is made at image j
    have fin : ∀ μ', kr_fA (45 + 10 * j) μ μ' → kr_Rg μ' (45 + 10 * j) g P D K t → kr_Wp C_C_keep (kr_c (d + 1)) Q 36 [some (.ref 0), some (.int (nI j)), some (.int (nI (kp.testBit j).toNat))] [] μ' := by
      intro μ' hf hr
      refine v_C_keep_36 ?_
      have e0 : μ'.1 0 = μ.1 0 := hf.1 0 (by omega)
      rw [e0, hI.1, kr_1sh j (by omega), kr_or]
      refine k _ ⟨fun o ho => ?_, fun i hi => ?_, fun o ho => ?_⟩ ⟨?_, fun m hm hb => ?_⟩
      · rw [kr_u_n _ _ _ (by omega)]; exact hf.1 o (by omega)
      · rw [kr_u_s, kr_upd_n _ _ hi, e0]
      · exact hf.2 o (by omega)
      · rw [kr_u_s, kr_upd_s]
      · by_cases e : m = j
        · rw [e]
          refine (hr.cg hw (fun i hi => ?_)).mem (fun a h1 h2 => kr_u_n _ _ _ (by omega)) rfl
          rw [kz_kp_im hi, if_pos rfl]
        · rw [Nat.testBit_or, Nat.testBit_two_pow] at hb
          have : ¬ j = m := fun z => e z.symm
          simp [this] at hb
          refine ((hI.2 m hm hb).cg (hi.2 m hm hb) (fun i hi => ?_)).mem (fun a h1 h2 => ?_) ?_
          · rw [kz_kp_im hi, if_neg e]
          · rw [kr_u_n _ _ _ (by omega)]; exact hf.1 a (by omega)
          · exact hf.2 _ (by omega)
    rcases (by omega : j = 0 ∨ j = 1) with rfl | rfl
    · exact c_R_copyOf_45_1 hw hR fin
    · exact c_R_copyOf_55_1 hw hR fin
  · rw [if_neg (fun q => c2 q.2)] at k; exact k μ (kr_fK.rf μ) hI
theorem c_C_back {kp : Nat} (hR : kr_Rg μ 1 g P D K t) (hI : kr_Im μ g P D K t kp) (hi : kx_iw g P D K t kp) (k : ∀ μ', kr_fA 1 μ μ' → kr_Rg μ' 1 (pz_back g kp x).2 P D K t → Q (some (.int (pz_back g kp x).1)) μ') : kr_c (d + 2) i_C_back [.ref 0, .int x] μ Q := by
  have hkp := hi.1
  refine v_C_back ?_
  unfold pz_back at k
  refine ⟨fun c => ?_, fun c => ⟨fun c2 => ?_, fun c2 => ?_⟩⟩
  · rw [if_neg (fun q => kr_nlt.mpr q.1 c)] at k; exact k μ ⟨fun _ _ => rfl, fun _ _ => rfl⟩ hR
  · rw [if_pos ⟨kr_nlt.mp c, c2⟩] at k
    obtain ⟨j, hj, rfl⟩ := kr_ix (n := 2) (by decide) ⟨kr_nlt.mp c, c2⟩
    rw [nI_clamp (by omega)] at k
    rw [hI.1, kr_bit0 (by omega) (by omega), nI_clamp (by omega)]
    refine ⟨fun cb => ⟨vp_in_nI hj (by decide), ?_⟩, fun cb => ?_⟩
    · have cb : kp.testBit j = true := by simpa using cb
      rw [if_pos cb] at k
      have fin : ∀ μ', kr_fA 1 μ μ' → kr_Rg μ' 1 (kx_im g j) P D K t → kr_Wp C_C_back (kr_c (d + 1)) Q 38 [some (.ref 0), some (.int (nI j))] [] μ' := by
        intro μ' hf hr
        refine v_C_back_38 ?_
        rw [hr.1.2.2.1]
        exact k μ' hf (hr.cg (hi.2 j hj cb) (fun i hi => kz_bk_lo hi))
      rcases (by omega : j = 0 ∨ j = 1) with rfl | rfl
      · exact c_R_copyOf_1_45 (hi.2 0 (by decide) cb) (hI.2 0 (by decide) cb) fin
      · exact c_R_copyOf_1_55 (hi.2 1 (by decide) cb) (hI.2 1 (by decide) cb) fin
    · rw [if_neg (by simpa using cb)] at k; exact k μ ⟨fun _ _ => rfl, fun _ _ => rfl⟩ hR
  · rw [if_neg (fun q => c2 q.2)] at k; exact k μ ⟨fun _ _ => rfl, fun _ _ => rfl⟩ hR
def kz_mv (g : Nat → Nat) (a b i : Nat) : Nat → Nat := fun j => if a ≤ j ∧ j < a + i then g (b + (j - a)) else g j
theorem c_M_copies {a b : Nat} (hab : a + 125 ≤ b ∨ b + 125 ≤ a) (ha : a ≤ 250) (hb : b ≤ 250) (hM : kr_Mg μ g) (k : ∀ μ', kr_keep [66] [] μ μ' → kr_Mg μ' (kz_mv g a b 125) → Q none μ') : kr_c (d + 1) i_M_copies [.ref 65, .int (nI a), .int (nI b)] μ Q := by
  refine v_M_copies ?_
  have main : ∀ i, i ≤ 125 → ∀ μ', kr_keep [66] [] μ μ' → kr_Mg μ' (kz_mv g a b i) → kr_Wp C_M_copies (kr_c d) Q 2 [some (.ref 65), some (.int (nI a)), some (.int (nI b)), some (.int (nI i))] [] μ' := by
    refine kr_up (I := fun i => ∀ μ', kr_keep [66] [] μ μ' → kr_Mg μ' (kz_mv g a b i) → kr_Wp C_M_copies (kr_c d) Q 2 [some (.ref 65), some (.int (nI a)), some (.int (nI b)), some (.int (nI i))] [] μ') 125 ?_ ?_
    · intro μ' hk h
      exact v_M_copies_2 (br_t (Int32.le_refl _) (k μ' hk h))
    · intro i hi ih μ' hk h
      refine v_M_copies_2 (br_f (nI_ge (b := 125) hi (by decide)) ?_)
      rw [nI_add, nI_add, nI_clamp (by omega), nI_clamp (by omega), h _ (by omega), kr_n1]
      refine ⟨vp_in_nI (by omega) (by decide), vp_in_nI (by omega) (by decide), ih _ (hk.u _ _ (by decide)) ?_⟩
      have e : kz_mv g a b (i + 1) = kx_un (kz_mv g a b i) (a + i) (kz_mv g a b i (b + i)) := by
        funext j
        by_cases ej : j = a + i
        · rw [ej, kx_un_s]
          unfold kz_mv
          rw [if_pos ⟨by omega, by omega⟩, if_neg (fun z => by omega)]
          congr 1
          omega
        · rw [kx_un_n _ _ ej]
          unfold kz_mv
          by_cases c : a ≤ j ∧ j < a + i
          · rw [if_pos c, if_pos ⟨c.1, by omega⟩]
          · rw [if_neg c, if_neg (fun z => c ⟨z.1, by omega⟩)]
      rw [e]
      exact h.un
  refine main 0 (Nat.zero_le _) μ kr_keep.rf ?_
  rw [show kz_mv g a b 0 = g from funext fun j => if_neg (fun z => by omega)]
  exact hM
theorem c_M_keep {kp : Nat} (hkp : kp < 4) (hM : kr_Mg μ g) (hK : kr_Mk μ kp) (k : ∀ μ', kr_keep [66, 67] [] μ μ' → kr_Mg μ' (pz_keep g kp x).2.1 → kr_Mk μ' (pz_keep g kp x).2.2 → Q (some (.int (pz_keep g kp x).1)) μ') : kr_c (d + 2) i_M_keep [.ref 65, .int x] μ Q := by
  refine v_M_keep ?_
  rw [kx_lb x 1 1 (by decide), kx_lt2]
  unfold pz_keep at k
  refine ⟨fun c => ?_, fun c => by rw [if_neg c] at k; exact k μ kr_keep.rf hM hK⟩
  rw [if_pos c] at k
  obtain ⟨j, hj, rfl⟩ := kr_ix (n := 2) (by decide) c
  rw [nI_clamp (by omega)] at k ⊢
  have v2 : vp_in (nI j) 2 := vp_in_nI hj (by decide)
  refine ⟨v2, v2, ?_⟩
  rw [hK j hj, kr_b01, kr_n1, show (125 : Int32) = nI 125 from rfl, pk_mul]
  have hM' : kr_Mg (kr_u μ 67 j 1) g := fun i hi => by rw [kr_u_n _ _ _ (by decide)]; exact hM i hi
  refine c_M_copies (b := 0) (by omega) (by omega) (by omega) hM' (fun μ' hk h => v_M_keep_40 (k μ' ((kr_keep.rf.u _ _ (by decide)).tr (hk.wk (by decide) (by decide))) ?_ (fun m hm => ?_)))
  · rw [show kz_mv g (125 * (j + 1)) 0 125 = kz_kp g j from ?_] at h
    · exact h
    · funext i
      unfold kz_mv kz_kp
      by_cases c : 125 * (j + 1) ≤ i ∧ i < 125 * (j + 1) + 125
      · rw [if_pos c, if_pos c, Nat.zero_add]
      · rw [if_neg c, if_neg c]
  · rw [hk.row (o := 67) (by decide) (by decide), kr_u_s, Nat.testBit_or, Nat.testBit_two_pow]
    by_cases e : m = j
    · rw [e, kr_upd_s]; simp; rfl
    · rw [kr_upd_n _ _ e, hK m hm]
      have : ¬ j = m := fun z => e z.symm
      simp [this]
theorem c_M_back {kp : Nat} (hM : kr_Mg μ g) (hK : kr_Mk μ kp) (k : ∀ μ', kr_keep [66] [] μ μ' → kr_Mg μ' (pz_back g kp x).2 → Q (some (.int (pz_back g kp x).1)) μ') : kr_c (d + 2) i_M_back [.ref 65, .int x] μ Q := by
  refine v_M_back ?_
  rw [kx_lb x 1 1 (by decide), kx_lt2]
  unfold pz_back at k
  refine ⟨fun c => ?_, fun c => by rw [if_neg c] at k; exact k μ kr_keep.rf hM⟩
  rw [if_pos c] at k
  obtain ⟨j, hj, rfl⟩ := kr_ix (n := 2) (by decide) c
  rw [nI_clamp (by omega)] at k ⊢
  refine ⟨vp_in_nI hj (by decide), ?_⟩
  rw [hK j hj, kr_n1, show (125 : Int32) = nI 125 from rfl, pk_mul]
  have eb : nI (kp.testBit j).toNat = 0 ↔ kp.testBit j = false := by cases kp.testBit j <;> decide
  rw [eb]
  refine ⟨fun cb => ?_, fun cb => by rw [if_neg (by simp [cb])] at k; exact k μ kr_keep.rf hM⟩
  have cb : kp.testBit j = true := by simpa using cb
  rw [if_pos cb] at k
  refine c_M_copies (a := 0) (by omega) (by omega) (by omega) hM (fun μ' hk h => v_M_back_35 ?_)
  rw [show kz_mv g 0 (125 * (j + 1)) 125 = kz_bk g j from ?_] at h
  · rw [h 0 (by decide)]
    exact k μ' hk h
  · funext i
    unfold kz_mv kz_bk
    by_cases c : i < 125
    · rw [if_pos ⟨Nat.zero_le _, by omega⟩, if_pos c]
      congr 1
    · rw [if_neg (fun z => c (by omega)), if_neg c]
def ax_count (g : Nat → Nat) (kp n : Nat) (s : kz_H) (x : Int32) : Int32 := if x = 0 then nI (kr_ones 12 (kx_wl g)) else if x = 1 then nI (g 108) else if x = 2 then nI (kr_ones 12 kp) else if x = 3 then nI n else if x = 4 then (if s.1 0 = 3 then -4 else nI (s.2.1 0)) else -1
theorem c_C_count {kp n : Nat} {b : Nat → Nat} {s : kz_H} (hw : kr_wf g P D K t) (hR : kr_Rg μ 1 g P D K t) (hk : μ.1 0 10 = nI kp) (hkp : kp < 4) (hT : kr_TC μ n b) (hS : kr_SC μ s) (hsw : kx_sw s) (k : Q (some (.int (ax_count g kp n s x))) μ) : kr_c (d + 3) i_C_count [.ref 0, .int x] μ Q := by
  refine v_C_count ?_
  unfold ax_count at k
  refine ⟨fun c => ?_, fun c0 => ⟨fun c => ?_, fun c1 => ⟨fun c => ?_, fun c2 => ⟨fun c => ?_, fun c3 => ⟨fun c => ?_, fun c4 => ?_⟩⟩⟩⟩⟩
  · rw [if_pos c] at k
    exact c_R_wholeLines hR.Wy hw.gb (v_C_count_43 (c_J6_bitCount (kx_wl_lt hw.1.1) (v_C_count_46 k)))
  · rw [if_neg c0, if_pos c] at k
    rw [hR.1.2.2.2.2.2]; exact k
  · rw [if_neg c0, if_neg c1, if_pos c] at k
    rw [hk]
    exact c_J6_bitCount (by omega) (v_C_count_62 k)
  · rw [if_neg c0, if_neg c1, if_neg c2, if_pos c] at k
    rw [hT.1]; exact k
  · rw [if_neg c0, if_neg c1, if_neg c2, if_neg c3, if_pos c] at k
    obtain ⟨p1, p2⟩ := hS 0 (by decide)
    have := (hsw 0 (by decide)).2
    refine ⟨kr_vp rfl, fun z => ⟨kr_vp rfl, ?_⟩, fun z => ?_⟩
    · have c3 : s.1 0 ≠ 3 := fun q => z (p1 q)
      rw [if_neg c3] at k
      rw [(p2 c3).1]; exact k
    · by_cases c5 : s.1 0 = 3
      · rw [if_pos c5] at k; exact k
      · rw [(p2 c5).1] at z; exact absurd z (kz_n1 (by omega))
  · rw [if_neg c0, if_neg c1, if_neg c2, if_neg c3, if_neg c4] at k
    exact k
theorem c_M_count {kp n : Nat} {b : Nat → Nat} {s : kz_H} (hw : kr_wf g P D K t) (hM : kr_Mg μ g) (hk : kr_Mk μ kp) (hkp : kp < 4) (hT : kr_TM μ n b) (hS : kr_SM μ s) (hsw : kx_sw s) (k : Q (some (.int (ax_count g kp n s x))) μ) : kr_c (d + 3) i_M_count [.ref 65, .int x] μ Q := by
  refine v_M_count ?_
  unfold ax_count at k
  refine ⟨fun c => ?_, fun c0 => ⟨fun c => ?_, fun c1 => ⟨fun c => ?_, fun c2 => ⟨fun c => ?_, fun c3 => ⟨fun c => ?_, fun c4 => ?_⟩⟩⟩⟩⟩
  · rw [if_pos c] at k
    exact c_M_wholeLines hM hw.1.1 (fun l hl => by have := (hw.2.1 l hl).2.2.2.2.2.1; omega) (v_M_count_40 (c_M_bitsOf (by have := kx_wl_lt hw.1.1; omega) (v_M_count_43 k)))
  · rw [if_neg c0, if_pos c] at k
    rw [hM 108 (by decide)]; exact k
  · rw [if_neg c0, if_neg c1, if_pos c] at k
    rw [hk 0 (by decide), hk 1 (by decide), kr_b01, kr_b01, nI_add]
    have e : (kp.testBit 0).toNat + (kp.testBit 1).toNat = kr_ones 12 kp := by
      rcases (by omega : kp = 0 ∨ kp = 1 ∨ kp = 2 ∨ kp = 3) with rfl | rfl | rfl | rfl <;> decide
    rw [e]; exact k
  · rw [if_neg c0, if_neg c1, if_neg c2, if_pos c] at k
    rw [hT.1]; exact k
  · rw [if_neg c0, if_neg c1, if_neg c2, if_neg c3, if_pos c] at k
    obtain ⟨p1, p2⟩ := hS 0 (by decide)
    have := (hsw 0 (by decide)).1
    refine ⟨fun z => ?_, fun z => ?_⟩
    · have c3 : s.1 0 ≠ 3 := fun q => z (p1 q)
      rw [if_neg c3] at k
      rw [(p2 c3).1]; exact k
    · by_cases c5 : s.1 0 = 3
      · rw [if_pos c5] at k; exact k
      · rw [(p2 c5).2.1] at z; exact absurd z (kx_neg4 (by omega))
  · rw [if_neg c0, if_neg c1, if_neg c2, if_neg c3, if_neg c4] at k
    exact k
end
