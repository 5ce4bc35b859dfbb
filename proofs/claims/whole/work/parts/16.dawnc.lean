/-! the class seeks a dawn; the five calls -/
theorem kx_d1_n {b : Option (Nat × Nat)} (h : ∀ q, b = some q → q.1 < 2 ^ 31) : kx_d1 b = -4 ↔ b = none := by
  cases b with
  | none => exact ⟨fun _ => rfl, fun _ => rfl⟩
  | some q =>
    have := h q rfl
    refine ⟨fun c => ?_, fun c => by cases c⟩
    exfalso
    have e : (nI q.1).toInt = -4 := by
      have h4 : kx_d1 (some q) = nI q.1 := rfl
      rw [h4] at c
      rw [c]
      rfl
    rw [nI_toInt this] at e
    omega
theorem c_N_seek {d : Nat} {Q : kr_Q} {μ : kr_M} {g : Nat → Nat} (hY : kr_Wy μ g) (hg : kx_gb g) {sure : Bool} (k : ∀ μ', kr_keep [] [(34, 2), (34, 3)] μ μ' → μ'.1 34 3 = kx_d1 (kx_dw g sure (kx_wl g) (2 ^ g 0)) → μ'.1 34 2 = kx_d2 (-4) (kx_dw g sure (kx_wl g) (2 ^ g 0)) → Q none μ') : kr_c (d + 5) i_N_seek [.ref 34, .int (nI sure.toNat)] μ Q := by
  obtain ⟨hN, h61, hl⟩ := id hg
  have hp := kx_p12 hN
  have hW := kx_wl_lt hN
  refine v_N_seek (c_R_wholeLines hY hg (v_N_seek_7 ?_))
  have main : ∀ n, n ≤ 2 ^ g 0 → ∀ μ', kr_keep [] [(34, 2), (34, 3)] μ μ' → μ'.1 34 3 = kx_d1 (kx_dw g sure (kx_wl g) n) → μ'.1 34 2 = kx_d2 (-4) (kx_dw g sure (kx_wl g) n) → kr_Wp C_N_seek (kr_c (d + 4)) Q 22 [some (.ref 34), some (.int (nI sure.toNat)), some (.int (nI (kx_wl g))), some (.int (nI n)), none, none] [] μ' := by
    refine kr_up (I := fun n => ∀ μ', kr_keep [] [(34, 2), (34, 3)] μ μ' → μ'.1 34 3 = kx_d1 (kx_dw g sure (kx_wl g) n) → μ'.1 34 2 = kx_d2 (-4) (kx_dw g sure (kx_wl g) n) → kr_Wp C_N_seek (kr_c (d + 4)) Q 22 [some (.ref 34), some (.int (nI sure.toNat)), some (.int (nI (kx_wl g))), some (.int (nI n)), none, none] [] μ') (2 ^ g 0) ?_ ?_
    · intro μ' hk e1 e2
      refine v_N_seek_22 (br_t ?_ (k μ' hk e1 e2))
      have hY' := hY.kp hk (by decide)
      rw [hY'.1.1, kr_all1 _ hN]
      have := Nat.two_pow_pos (g 0)
      exact nI_lt (by omega) (by omega)
    · intro n h ih μ' hk e1 e2
      have hY' := hY.kp hk (by decide)
      have hys : kx_ys g n (g 0) ≤ 108 := kx_ys_b hg
      have nx : kx_dw g sure (kx_wl g) (n + 1) = kx_dw g sure (kx_wl g) n → kr_Wp C_N_seek (kr_c (d + 4)) Q 22 [some (.ref 34), some (.int (nI sure.toNat)), some (.int (nI (kx_wl g))), some (.int (nI (n + 1))), none, none] [] μ' := by
        intro e
        rw [e] at ih
        exact ih μ' hk e1 e2
      refine v_N_seek_22 (br_f ?_ ⟨fun c => ?_, fun c => ?_⟩)
      · rw [hY'.1.1, kr_all1 _ hN]
        exact nI_nlt (by omega) (by omega)
      · rw [kr_n1]
        refine nx ?_
        rw [kx_and_0 (by omega)] at c
        show (if _ then _ else _) = _
        rw [if_neg (by simp at c; simp [c])]
      rw [kx_and_0 (by omega)] at c
      refine c_R_yardsOf hY' hg (by omega) (v_N_seek_47 ?_)
      rw [kr_n1, kr_or, e1, e2]
      have upd : kx_dw g sure (kx_wl g) (n + 1) = some (n, kx_ys g n (g 0)) → kr_Wp C_N_seek (kr_c (d + 4)) Q 22 [some (.ref 34), some (.int (nI sure.toNat)), some (.int (nI (kx_wl g))), some (.int (nI (n + 1))), none, none] [] (kr_u (kr_u μ' 34 2 (nI (kx_ys g n (g 0)))) 34 3 (nI n)) := by
        intro e
        rw [e] at ih
        refine ih _ ((hk.f _ (by decide)).f _ (by decide)) ?_ ?_
        · rw [kr_u_s, kr_upd_s]; rfl
        · rw [kr_u_s, kr_upd_n _ _ (by decide), kr_u_s, kr_upd_s]; rfl
      have fin : kx_fw (kx_ys g n (g 0)) (kx_dw g sure (kx_wl g) n) = true → kr_c (d + 4) i_Y_housesMeet [.ref 24, .int (nI (n ||| kx_wl g))] μ' (kr_bk (kr_Wp C_N_seek (kr_c (d + 4)) Q) 89 [some (.ref 34), some (.int (nI sure.toNat)), some (.int (nI (kx_wl g))), some (.int (nI n)), some (.int (nI (kx_ys g n (g 0)))), some (.int 1)] []) := by
        intro hf
        refine c_Y_housesMeet hY' hg (kx_or_lt (by omega) hW) (v_N_seek_89 ?_)
        rw [kr_b00, kr_n1, kr_or]
        refine ⟨fun c2 => nx ?_, fun c2 => ?_⟩
        · show (if _ then _ else _) = _
          rw [if_neg (by unfold kx_ok; rw [c2]; simp)]
        have c2 : kx_meet g (n ||| kx_wl g) = true := by simpa using c2
        cases sure with
        | false =>
          refine br_t rfl (upd ?_)
          show (if _ then _ else _) = _
          rw [if_pos (by unfold kx_ok; rw [c2, c, hf]; rfl)]
        | true =>
          refine br_f (by decide) (c_Y_linesNeeded hY' hg (kx_or_lt (by omega) hW) (v_N_seek_106 ?_))
          have hn : kx_need g (n ||| kx_wl g) < 2 ^ 12 := Nat.lt_of_lt_of_le (kr_bm_lt _ _) (Nat.pow_le_pow_right (by decide) hN)
          rw [kr_eq0 (by omega), kr_n1]
          refine ⟨fun c3 => nx ?_, fun c3 => upd ?_⟩
          · show (if _ then _ else _) = _
            rw [if_neg (by unfold kx_ok; simp [c3])]
          · show (if _ then _ else _) = _
            rw [if_pos (by unfold kx_ok; rw [c2, c, hf, c3]; rfl)]
      rw [kx_d1_n (fun q hq => by have := kx_dw_b hg _ _ hq; omega)]
      refine ⟨fun c2 => fin (by rw [c2]; rfl), fun c2 => ?_⟩
      cases hq : kx_dw g sure (kx_wl g) n with
      | none => exact absurd hq c2
      | some q =>
        have hb := kx_dw_b hg _ _ hq
        simp only [kx_d2]
        rw [nI_leI (by omega) (by omega)]
        refine ⟨fun c3 => nx ?_, fun c3 => ?_⟩
        · show (if _ then _ else _) = _
          rw [if_neg (by rw [hq]; simp only [kx_fw, Bool.and_eq_true, decide_eq_true_eq]; omega)]
        · refine fin ?_
          rw [hq]
          simp only [kx_fw, decide_eq_true_eq]
          omega
  refine main 0 (Nat.zero_le _) _ ((kr_keep.rf.f _ (by decide)).f _ (by decide)) ?_ ?_
  · rw [kr_u_s, kr_upd_s]; rfl
  · rw [kr_u_s, kr_upd_n _ _ (by decide), kr_u_s, kr_upd_s]; rfl
theorem kr_01 {x : Int32} : (0 ≤ x ∧ x ≤ 1) ↔ (x = 0 ∨ x = 1) := by
  simp only [kr_le, kr_eqi]
  have : (0 : Int32).toInt = 0 := rfl
  have : (1 : Int32).toInt = 1 := rfl
  omega
theorem c_N_answer {d : Nat} {Q : kr_Q} {μ : kr_M} {g : Nat → Nat} (hY : kr_Wy μ g) (hg : kx_gb g) {sure : Bool} {what : Int32} (k : ∀ μ', kr_keep [] [(34, 2), (34, 3)] μ μ' → Q (some (.int (kx_dawn g sure what))) μ') : kr_c (d + 6) i_N_answer [.ref 34, .int what, .int (nI sure.toNat)] μ Q := by
  refine v_N_answer ⟨fun c => ?_, fun c => ⟨fun c2 => ?_, fun c2 => ?_⟩⟩
  · refine c_N_seek hY hg (fun μ' hk e1 e2 => v_N_answer_16 ?_)
    have := k μ' hk
    unfold kx_dawn at this
    rw [if_pos (kr_01.mpr (Or.inl c)), if_pos c] at this
    rw [e2]
    exact ⟨fun z => absurd c z, fun _ => this⟩
  · refine c_N_seek hY hg (fun μ' hk e1 e2 => v_N_answer_16 ?_)
    have := k μ' hk
    unfold kx_dawn at this
    rw [if_pos (kr_01.mpr (Or.inr c2)), if_neg c] at this
    rw [e1]
    exact ⟨fun _ => this, fun z => absurd z c⟩
  · have := k μ kr_keep.rf
    unfold kx_dawn at this
    rw [if_neg (fun z => by rcases kr_01.mp z with z | z; exact c z; exact c2 z)] at this
    exact this
theorem c_C_dawn {d : Nat} {Q : kr_Q} {μ : kr_M} {g : Nat → Nat} (hY : kr_Wy μ g) (hg : kx_gb g) {what : Int32} (k : ∀ μ', kr_keep [] [(34, 2), (34, 3)] μ μ' → Q (some (.int (kx_dawn g false what))) μ') : kr_c (d + 7) i_C_dawn [.ref 0, .int what] μ Q :=
  v_C_dawn (c_N_answer (sure := false) hY hg (fun μ' hk => v_C_dawn_9 (k μ' hk)))
theorem c_C_sure {d : Nat} {Q : kr_Q} {μ : kr_M} {g : Nat → Nat} (hY : kr_Wy μ g) (hg : kx_gb g) {what : Int32} (k : ∀ μ', kr_keep [] [(34, 2), (34, 3)] μ μ' → Q (some (.int (kx_dawn g true what))) μ') : kr_c (d + 7) i_C_sure [.ref 0, .int what] μ Q :=
  v_C_sure (c_N_answer (sure := true) hY hg (fun μ' hk => v_C_sure_9 (k μ' hk)))
theorem kr_in01 {x : Int32} : ((0 : Int64) ≤ x.toInt64 ∧ x.toInt64 ≤ (1 : Int64)) ↔ (0 ≤ x ∧ x ≤ 1) := by
  rw [show (0 : Int64) = ((0 : Int32)).toInt64 from by decide, show (1 : Int64) = ((1 : Int32)).toInt64 from by decide, kr_wle, kr_wle]
theorem c_M_dawn {d : Nat} {Q : kr_Q} {μ : kr_M} {g : Nat → Nat} (hM : kr_Mg μ g) (hg : kx_gb g) {what : Int32} (k : Q (some (.int (kx_dawn g false what))) μ) : kr_c (d + 6) i_M_dawn [.ref 65, .int what] μ Q := by
  refine v_M_dawn ?_
  rw [kr_in01]
  unfold kx_dawn at k
  refine ⟨fun c => ?_, fun c => ?_⟩
  · rw [if_neg c] at k; exact k
  · rw [if_pos c] at k; exact c_M_findDawn (sure := false) hM hg (v_M_dawn_16 k)
theorem c_M_sure {d : Nat} {Q : kr_Q} {μ : kr_M} {g : Nat → Nat} (hM : kr_Mg μ g) (hg : kx_gb g) {what : Int32} (k : Q (some (.int (kx_dawn g true what))) μ) : kr_c (d + 6) i_M_sure [.ref 65, .int what] μ Q := by
  refine v_M_sure ?_
  rw [kr_in01]
  unfold kx_dawn at k
  refine ⟨fun c => ?_, fun c => ?_⟩
  · rw [if_neg c] at k; exact k
  · rw [if_pos c] at k; exact c_M_findDawn (sure := true) hM hg (v_M_sure_16 k)
/-- needed -/
def kx_needed (g : Nat → Nat) : Int32 := if kx_meet g (kx_wl g) = true then nI (kx_need g (kx_wl g)) else -2
theorem c_C_needed {d : Nat} {Q : kr_Q} {μ : kr_M} {g : Nat → Nat} (hY : kr_Wy μ g) (hg : kx_gb g) (k : Q (some (.int (kx_needed g))) μ) : kr_c (d + 5) i_C_needed [.ref 0] μ Q := by
  have hW := kx_wl_lt hg.1
  refine v_C_needed (c_R_wholeLines hY hg (v_C_needed_7 (c_Y_housesMeet hY hg hW (v_C_needed_16 ?_))))
  rw [kr_b00]
  unfold kx_needed at k
  refine ⟨fun c => ?_, fun c => ?_⟩
  · rw [if_pos (by simpa using c)] at k
    exact c_Y_linesNeeded hY hg hW (v_C_needed_30 k)
  · rw [if_neg (by simp [c])] at k
    exact k
theorem c_M_needed {d : Nat} {Q : kr_Q} {μ : kr_M} {g : Nat → Nat} (hM : kr_Mg μ g) (hg : kx_gb g) (k : Q (some (.int (kx_needed g))) μ) : kr_c (d + 4) i_M_needed [.ref 65] μ Q := by
  have hW := kx_wl_lt hg.1
  refine v_M_needed (c_M_wholeLines hM hg.1 (fun l h => by have := hg.2.2 l h; omega) (v_M_needed_4 (c_M_doMeet hM hg hW (v_M_needed_10 ?_))))
  rw [kr_b00]
  unfold kx_needed at k
  refine ⟨fun c => ?_, fun c => ?_⟩
  · rw [if_pos (by simpa using c)] at k
    exact c_M_need hM hg hW k
  · rw [if_neg (by simp [c])] at k
    exact k
/-- part -/
def kx_part (g : Nat → Nat) (P : Nat) (a : Int32) : Int32 := if 0 ≤ a ∧ a < nI P then nI (kx_reach g (kx_wl g) a.toNatClampNeg) else -1
theorem c_C_part {d : Nat} {Q : kr_Q} {μ : kr_M} {g : Nat → Nat} {P : Nat} (hY : kr_Wy μ g) (hg : kx_gb g) (hP : μ.1 1 0 = nI P) (hP9 : P ≤ 9) {a : Int32} (k : Q (some (.int (kx_part g P a))) μ) : kr_c (d + 3) i_C_part [.ref 0, .int a] μ Q := by
  refine v_C_part ?_
  rw [hP]
  unfold kx_part at k
  refine ⟨fun c => ?_, fun c => ?_⟩
  · rw [if_pos c] at k
    obtain ⟨j, hj, rfl⟩ := kr_ix (by omega) c
    rw [nI_clamp (by omega)] at k
    exact c_R_wholeLines hY hg (v_C_part_25 (c_Y_reached hY.1.1 (fun l h => (hY.2 l h).1) (fun l h => (hY.2 l h).2.1) hg.1 hg.e (by omega) (kx_wl_lt hg.1) (v_C_part_28 k)))
  · rw [if_neg c] at k
    exact k
theorem c_M_part {d : Nat} {Q : kr_Q} {μ : kr_M} {g : Nat → Nat} {P : Nat} (hM : kr_Mg μ g) (hg : kx_gb g) (hP : μ.1 65 2 = nI P) (hP9 : P ≤ 9) {a : Int32} (k : Q (some (.int (kx_part g P a))) μ) : kr_c (d + 3) i_M_part [.ref 65, .int a] μ Q := by
  refine v_M_part ?_
  rw [hP, kr_le1 (by omega)]
  unfold kx_part at k
  refine ⟨fun c => ?_, fun c => ?_⟩
  · rw [if_neg c] at k
    exact k
  · rw [if_pos c] at k
    obtain ⟨j, hj, rfl⟩ := kr_ix (by omega) c
    rw [nI_clamp (by omega)] at k
    exact c_M_wholeLines hM hg.1 (fun l h => by have := hg.2.2 l h; omega) (v_M_part_14 (c_M_partOf hM hg.1 hg.e (by omega) (kx_wl_lt hg.1) (v_M_part_17 k)))
/-- meet -/
def kx_meetC (g : Nat → Nat) (a : Int32) : Int32 := if 0 ≤ a ∧ a ≤ ((1 : Int32) <<< (nI (g 0) &&& 31)) - 1 then (if kx_meet g a.toNatClampNeg = true then 1 else 0) else -1
theorem c_C_meet {d : Nat} {Q : kr_Q} {μ : kr_M} {g : Nat → Nat} (hY : kr_Wy μ g) (hg : kx_gb g) {a : Int32} (k : Q (some (.int (kx_meetC g a))) μ) : kr_c (d + 4) i_C_meet [.ref 0, .int a] μ Q := by
  refine v_C_meet ?_
  rw [hY.1.1]
  unfold kx_meetC at k
  have hp := kx_p12 hg.1
  refine ⟨fun c => ?_, fun c => ?_⟩
  · rw [if_pos c] at k
    obtain ⟨j, hj, rfl⟩ := kr_set hg.1 c
    rw [nI_clamp (by omega)] at k
    refine c_Y_housesMeet hY hg (by omega) (v_C_meet_21 ?_)
    exact kr_ifc (by cases kx_meet g j <;> simp) k
  · rw [if_neg c] at k
    exact k
theorem c_M_meet {d : Nat} {Q : kr_Q} {μ : kr_M} {g : Nat → Nat} (hM : kr_Mg μ g) (hg : kx_gb g) {a : Int32} (k : Q (some (.int (kx_meetC g a))) μ) : kr_c (d + 4) i_M_meet [.ref 65, .int a] μ Q := by
  refine v_M_meet ?_
  rw [hM 0 (by decide)]
  unfold kx_meetC at k
  have hp := kx_p12 hg.1
  refine ⟨fun c => ?_, fun c => ?_⟩
  · rw [if_neg c] at k
    exact k
  · rw [if_pos c] at k
    obtain ⟨j, hj, rfl⟩ := kr_set hg.1 c
    rw [nI_clamp (by omega)] at k
    refine c_M_doMeet hM hg (by omega) (v_M_meet_13 ?_)
    exact kr_ifc (by cases kx_meet g j <;> simp) k
