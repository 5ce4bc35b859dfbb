/-! dawns; part, meet, needed, dawn, sure as they answer -/
theorem kr_ix {x : Int32} {n : Nat} (hn : n < 2 ^ 31) : (0 ≤ x ∧ x < nI n) → ∃ j, j < n ∧ x = nI j := by
  intro ⟨h1, h2⟩
  rcases pk_ix x hn with h | h | h
  · rw [kr_lt] at h; rw [kr_le] at h1
    have : (0 : Int32).toInt = 0 := rfl
    omega
  · rw [kr_le] at h; rw [kr_lt] at h2; omega
  · exact h
theorem kr_ixi {j n : Nat} (h : j < n) (hn : n < 2 ^ 31) : 0 ≤ nI j ∧ nI j < nI n := ⟨nI_pos' (by omega), nI_lt h hn⟩
theorem kr_le1 {x : Int32} {n : Nat} (hn : n < 2 ^ 31) : (0 ≤ x ∧ x ≤ nI n - 1) ↔ (0 ≤ x ∧ x < nI n) := by
  cases n with
  | zero =>
    rw [show nI 0 - 1 = (-1 : Int32) from by decide, show nI 0 = (0 : Int32) from rfl]
    simp only [kr_le, kr_lt]
    have : (0 : Int32).toInt = 0 := rfl
    have : (-1 : Int32).toInt = -1 := rfl
    omega
  | succ n =>
    rw [nI_pred]
    simp only [kr_le, kr_lt]
    rw [nI_toInt (by omega), nI_toInt hn]
    omega
/-- a set of lines, as a number -/
theorem kr_set {x : Int32} {n : Nat} (hn : n ≤ 12) : (0 ≤ x ∧ x ≤ ((1 : Int32) <<< (nI n &&& 31)) - 1) → ∃ S, S < 2 ^ n ∧ x = nI S := by
  rw [kr_all1 n hn]
  intro h
  have h2 : 2 ^ n ≤ 2 ^ 12 := Nat.pow_le_pow_right (by decide) hn
  have h3 := Nat.two_pow_pos n
  have : (0 ≤ x ∧ x < nI (2 ^ n)) := by
    refine ⟨h.1, ?_⟩
    have := h.2
    rw [kr_le, nI_toInt (by omega)] at this
    rw [kr_lt, nI_toInt (by omega)]
    omega
  exact kr_ix (by omega) this
/-- yards of the lines of S, of the first k -/
def kx_ys (g : Nat → Nat) (S : Nat) : Nat → Nat
  | 0 => 0
  | k + 1 => kx_ys g S k + (if S.testBit k then kr_gk g k 2 else 0)
theorem kx_ys_le {g : Nat → Nat} {S : Nat} (hg : kx_gb g) : ∀ k, k ≤ g 0 → kx_ys g S k ≤ 9 * k := by
  intro k
  induction k with
  | zero => intro _; exact Nat.le_refl _
  | succ k ih =>
    intro hk
    have h1 := ih (by omega)
    have h2 := (hg.2.2 k (by omega)).2.2.2.2.1
    unfold kx_ys
    split <;> omega
theorem kx_ys_b {g : Nat → Nat} {S : Nat} (hg : kx_gb g) : kx_ys g S (g 0) ≤ 108 := by
  have := kx_ys_le (S := S) hg (g 0) (Nat.le_refl _)
  have := hg.1
  omega
theorem c_M_yardsOf {d : Nat} {Q : kr_Q} {μ : kr_M} {g : Nat → Nat} (hM : kr_Mg μ g) (hg : kx_gb g) {S : Nat} (hS : S < 4096) (k : Q (some (.int (nI (kx_ys g S (g 0))))) μ) : kr_c (d + 2) i_M_yardsOf [.ref 65, .int (nI S)] μ Q := by
  obtain ⟨hN, h61, hl⟩ := id hg
  refine v_M_yardsOf ?_
  refine kr_up (I := fun l => kr_Wp C_M_yardsOf (kr_c (d + 1)) Q 4 [some (.ref 65), some (.int (nI S)), some (.int (nI (kx_ys g S l))), some (.int (nI l))] [] μ) (g 0) ?_ ?_ 0 (Nat.zero_le _)
  · refine v_M_yardsOf_4 (br_t ?_ k)
    rw [hM 0 (by decide)]
    exact Int32.le_refl _
  · intro l h ih
    refine v_M_yardsOf_4 (br_f ?_ ?_)
    · rw [hM 0 (by decide)]
      exact nI_ge h (by omega)
    rw [kr_bit1 (by omega) (by omega), kr_n1, kr_ofg2 hM (by omega), nI_add]
    simp only [kx_ys] at ih
    refine ⟨fun c => ?_, fun c => ⟨kr_ofv2 (by omega), ?_⟩⟩
    · rw [if_neg (by simpa using c), Nat.add_zero] at ih
      simpa using ih
    · rw [if_pos c] at ih
      exact ih
theorem c_R_yardsOf {d : Nat} {Q : kr_Q} {μ : kr_M} {g : Nat → Nat} (hW : kr_Wy μ g) (hg : kx_gb g) {S : Nat} (hS : S < 4096) (k : Q (some (.int (nI (kx_ys g S (g 0))))) μ) : kr_c (d + 2) i_R_yardsOf [.ref 1, .int (nI S)] μ Q := by
  obtain ⟨hN, h61, hl⟩ := id hg
  refine v_R_yardsOf ?_
  refine kr_up (I := fun l => kr_Wp C_R_yardsOf (kr_c (d + 1)) Q 4 [some (.ref 1), some (.int (nI S)), some (.int (nI (kx_ys g S l))), some (.int (nI l))] [] μ) (g 0) ?_ ?_ 0 (Nat.zero_le _)
  · refine v_R_yardsOf_4 (br_t ?_ k)
    rw [hW.1.1]
    exact Int32.le_refl _
  · intro l h ih
    refine v_R_yardsOf_4 (br_f ?_ ?_)
    · rw [hW.1.1]
      exact nI_ge h (by omega)
    rw [kr_bit0 (by omega) (by omega), kr_n1, nI_clamp (by omega), (hW.2 l h).2.2.1, nI_add]
    simp only [kx_ys] at ih
    refine ⟨fun c => ?_, fun c => ⟨vp_in_nI (by omega) (by decide), ?_⟩⟩
    · rw [if_neg (by simp at c; simp [c]), Nat.add_zero] at ih
      exact ih
    · rw [if_pos (by simpa using c)] at ih
      exact ih
/-- houses meet by S, and (sure) without any one of S -/
def kx_ok (g : Nat → Nat) (sure : Bool) (S : Nat) : Bool := kx_meet g S && (!sure || kx_need g S == 0)
theorem kx_need0 {g : Nat → Nat} {S : Nat} : kx_need g S = 0 ↔ ∀ l, l < g 0 → S.testBit l = true → kx_meet g (kr_cl S l) = true := by
  unfold kx_need
  constructor
  · intro h l hl hs
    have h1 : (kr_bm (g 0) (fun l => S.testBit l && !kx_meet g (kr_cl S l))).testBit l = false := by rw [h]; simp
    rw [kr_bm_bit] at h1
    simpa [hl, hs] using h1
  · intro h
    apply Nat.eq_of_testBit_eq
    intro i
    rw [kr_bm_bit, Nat.zero_testBit]
    by_cases hi : i < g 0
    · by_cases hs : S.testBit i = true
      · simp [hi, hs, h i hi hs]
      · simp [hs]
    · simp [hi]
theorem c_M_areSure {d : Nat} {Q : kr_Q} {μ : kr_M} {g : Nat → Nat} (hM : kr_Mg μ g) (hg : kx_gb g) {S : Nat} (hS : S < 4096) (k : Q (some (.int (if kx_ok g true S = true then 1 else 0))) μ) : kr_c (d + 4) i_M_areSure [.ref 65, .int (nI S)] μ Q := by
  obtain ⟨hN, h61, hl⟩ := id hg
  refine v_M_areSure (c_M_doMeet hM hg hS (v_M_areSure_5 ?_))
  have out : ∀ l, l ≤ g 0 → kx_ok g true S = false → kr_Wp C_M_areSure (kr_c (d + 3)) Q 8 [some (.ref 65), some (.int (nI S)), some (.int 0), some (.int (nI l))] [] μ := by
    intro l hle hf
    rw [if_neg (by simp [hf])] at k
    refine v_M_areSure_8 ⟨fun _ => ⟨Or.inl rfl, k⟩, fun _ => br_t rfl ⟨Or.inl rfl, k⟩⟩
  have main : ∀ l, l ≤ g 0 → kx_meet g S = true → (∀ j, j < l → S.testBit j = true → kx_meet g (kr_cl S j) = true) → kr_Wp C_M_areSure (kr_c (d + 3)) Q 8 [some (.ref 65), some (.int (nI S)), some (.int 1), some (.int (nI l))] [] μ := by
    refine kr_up (I := fun l => kx_meet g S = true → (∀ j, j < l → S.testBit j = true → kx_meet g (kr_cl S j) = true) → kr_Wp C_M_areSure (kr_c (d + 3)) Q 8 [some (.ref 65), some (.int (nI S)), some (.int 1), some (.int (nI l))] [] μ) (g 0) ?_ ?_
    · intro hm hj
      rw [if_pos (by unfold kx_ok; rw [hm, kx_need0.mpr hj]; rfl)] at k
      refine v_M_areSure_8 (br_t ?_ ⟨Or.inr rfl, k⟩)
      rw [hM 0 (by decide)]
      exact Int32.le_refl _
    · intro l h ih hm hj
      refine v_M_areSure_8 (br_f ?_ (br_f (by decide) ?_))
      · rw [hM 0 (by decide)]
        exact nI_ge h (by omega)
      rw [kr_bit0 (by omega) (by omega), kr_n1]
      refine ⟨fun c => ih hm (fun j hj2 hs => ?_), fun c => ?_⟩
      · by_cases e : j = l
        · rw [e] at hs; rw [hs] at c; cases c
        · exact hj j (by omega) hs
      · rw [kr_andc (by omega) (by omega)]
        refine c_M_doMeet hM hg (kx_cl_lt hS) (v_M_areSure_41 ?_)
        rw [kr_b00, kr_n1]
        refine ⟨fun c2 => out (l + 1) (by omega) ?_, fun c2 => ih hm (fun j hj2 hs => ?_)⟩
        · unfold kx_ok
          have : kx_need g S ≠ 0 := fun z => by
            have := kx_need0.mp z l h (by simpa using c)
            rw [c2] at this
            cases this
          simp [this]
        · by_cases e : j = l
          · rw [e]; simpa using c2
          · exact hj j (by omega) hs
  by_cases hm : kx_meet g S = true
  · rw [if_pos hm]
    exact main 0 (Nat.zero_le _) hm (fun j hj => absurd hj (Nat.not_lt_zero j))
  · rw [if_neg hm]
    exact out 0 (Nat.zero_le _) (by unfold kx_ok; simp [hm])
def kx_fw (y : Nat) : Option (Nat × Nat) → Bool
  | none => true
  | some q => decide (y < q.2)
/-- the best of the first k sets: lines, yards -/
def kx_dw (g : Nat → Nat) (sure : Bool) (W : Nat) : Nat → Option (Nat × Nat)
  | 0 => none
  | k + 1 => if (k &&& W == 0) && kx_fw (kx_ys g k (g 0)) (kx_dw g sure W k) && kx_ok g sure (k ||| W) then some (k, kx_ys g k (g 0)) else kx_dw g sure W k
def kx_d1 : Option (Nat × Nat) → Int32
  | none => -4
  | some q => nI q.1
def kx_d2 : Int32 → Option (Nat × Nat) → Int32
  | z, none => z
  | _, some q => nI q.2
theorem kx_dw_b {g : Nat → Nat} {sure : Bool} {W : Nat} (hg : kx_gb g) : ∀ k q, kx_dw g sure W k = some q → q.1 < k ∧ q.2 ≤ 108 := by
  intro k
  induction k with
  | zero => intro q h; cases h
  | succ k ih =>
    intro q h
    unfold kx_dw at h
    split at h
    · cases h
      exact ⟨Nat.lt_succ_self k, kx_ys_b hg⟩
    · have := ih q h
      exact ⟨by omega, this.2⟩
/-- what dawn and sure answer -/
def kx_dawn (g : Nat → Nat) (sure : Bool) (what : Int32) : Int32 :=
  if 0 ≤ what ∧ what ≤ 1 then (if what = 0 then kx_d2 (-4) (kx_dw g sure (kx_wl g) (2 ^ g 0)) else kx_d1 (kx_dw g sure (kx_wl g) (2 ^ g 0))) else -1
theorem kx_or_lt {a b : Nat} (ha : a < 4096) (hb : b < 4096) : a ||| b < 4096 := Nat.or_lt_two_pow (n := 12) ha hb
theorem kx_and_0 {a b : Nat} (ha : a < 4096) : (nI a &&& nI b = 0) ↔ (a &&& b == 0) = true := by
  rw [kr_and, kr_eq0 (Nat.lt_of_le_of_lt Nat.and_le_left (by omega)), beq_iff_eq]
theorem kx_p12 {n : Nat} (h : n ≤ 12) : 2 ^ n ≤ 4096 := show 2 ^ n ≤ 2 ^ 12 from Nat.pow_le_pow_right (by decide) h
theorem c_M_findDawn {d : Nat} {Q : kr_Q} {μ : kr_M} {g : Nat → Nat} (hM : kr_Mg μ g) (hg : kx_gb g) {sure : Bool} {what : Int32} (k : Q (some (.int (if what = 0 then kx_d2 (-4) (kx_dw g sure (kx_wl g) (2 ^ g 0)) else kx_d1 (kx_dw g sure (kx_wl g) (2 ^ g 0))))) μ) : kr_c (d + 5) i_M_findDawn [.ref 65, .int (nI sure.toNat), .int what] μ Q := by
  obtain ⟨hN, h61, hl⟩ := id hg
  have hp := kx_p12 hN
  have hW := kx_wl_lt hN
  refine v_M_findDawn (c_M_wholeLines hM hN (fun l h => by have := hl l h; omega) (v_M_findDawn_4 ?_))
  refine kr_up (I := fun n => kr_Wp C_M_findDawn (kr_c (d + 4)) Q 16 [some (.ref 65), some (.int (nI sure.toNat)), some (.int what), some (.int (nI (kx_wl g))), some (.int (kx_d1 (kx_dw g sure (kx_wl g) n))), some (.int (kx_d2 1000000000 (kx_dw g sure (kx_wl g) n))), some (.int (nI n))] [] μ) (2 ^ g 0) ?_ ?_ 0 (Nat.zero_le _)
  · refine v_M_findDawn_16 (br_t ?_ ?_)
    · rw [hM 0 (by decide), kr_1sh _ (by omega)]
      exact Int32.le_refl _
    · cases hq : kx_dw g sure (kx_wl g) (2 ^ g 0) with
      | none =>
        rw [hq] at k
        refine ⟨fun c => absurd rfl c, fun _ => ?_⟩
        simpa [kx_d1, kx_d2] using k
      | some q =>
        rw [hq] at k
        have hb := kx_dw_b hg _ _ hq
        refine ⟨fun _ => ⟨fun c => ?_, fun c => ?_⟩, fun c => ?_⟩
        · rw [if_neg c] at k; exact k
        · rw [if_pos c] at k; exact k
        · exfalso
          have : (nI q.1).toInt = -4 := by
            have h4 : kx_d1 (some q) = nI q.1 := rfl
            rw [h4] at c
            rw [c]
            rfl
          rw [nI_toInt (by omega)] at this
          omega
  · intro n h ih
    have hys : kx_ys g n (g 0) ≤ 108 := kx_ys_b hg
    have nx : kx_dw g sure (kx_wl g) (n + 1) = kx_dw g sure (kx_wl g) n → kr_Wp C_M_findDawn (kr_c (d + 4)) Q 16 [some (.ref 65), some (.int (nI sure.toNat)), some (.int what), some (.int (nI (kx_wl g))), some (.int (kx_d1 (kx_dw g sure (kx_wl g) n))), some (.int (kx_d2 1000000000 (kx_dw g sure (kx_wl g) n))), some (.int (nI (n + 1)))] [] μ := by
      intro e; rw [e] at ih; exact ih
    refine v_M_findDawn_16 (br_f ?_ ⟨fun c => ?_, fun c => ?_⟩)
    · rw [hM 0 (by decide), kr_1sh _ (by omega)]
      exact nI_ge h (by omega)
    · rw [kr_n1]
      refine nx ?_
      rw [kx_and_0 (by omega)] at c
      show (if _ then _ else _) = _
      rw [if_neg (by simp at c; simp [c])]
    rw [kx_and_0 (by omega)] at c
    refine c_M_yardsOf hM hg (by omega) (v_M_findDawn_42 ?_)
    have hlt : kx_d2 1000000000 (kx_dw g sure (kx_wl g) n) ≤ nI (kx_ys g n (g 0)) ↔ ¬ (kx_fw (kx_ys g n (g 0)) (kx_dw g sure (kx_wl g) n) = true) := by
      cases hq : kx_dw g sure (kx_wl g) n with
      | none =>
        simp only [kx_d2, kx_fw, not_true, iff_false]
        exact nI_ge (b := 1000000000) (by omega) (by decide)
      | some q =>
        have hb := kx_dw_b hg _ _ hq
        simp only [kx_d2, kx_fw, decide_eq_true_eq]
        rw [nI_leI (by omega) (by omega)]
        omega
    rw [hlt, kr_n1, kr_or]
    refine ⟨fun c2 => nx ?_, fun c2 => ?_⟩
    · show (if _ then _ else _) = _
      rw [if_neg (by simp only [Bool.and_eq_true, not_and]; intro z; exact absurd z.2 c2)]
    have c2 := Decidable.not_not.mp c2
    have fin : ∀ b, kx_ok g sure (n ||| kx_wl g) = b → ((if b = true then (1 : Int32) else 0) = 0 → kr_Wp C_M_findDawn (kr_c (d + 4)) Q 16 [some (.ref 65), some (.int (nI sure.toNat)), some (.int what), some (.int (nI (kx_wl g))), some (.int (kx_d1 (kx_dw g sure (kx_wl g) n))), some (.int (kx_d2 1000000000 (kx_dw g sure (kx_wl g) n))), some (.int (nI (n + 1)))] [] μ) ∧ (¬ (if b = true then (1 : Int32) else 0) = 0 → kr_c (d + 4) i_M_yardsOf [.ref 65, .int (nI n)] μ (kr_bk (kr_Wp C_M_findDawn (kr_c (d + 4)) Q) 86 [some (.ref 65), some (.int (nI sure.toNat)), some (.int what), some (.int (nI (kx_wl g))), some (.int (nI n)), some (.int (kx_d2 1000000000 (kx_dw g sure (kx_wl g) n))), some (.int (nI n))] [])) := by
      intro b hb
      refine ⟨fun z => nx ?_, fun z => ?_⟩
      · rw [kr_b00] at z
        show (if _ then _ else _) = _
        rw [if_neg (by rw [hb, z]; simp)]
      · rw [kr_b00] at z
        have e : kx_dw g sure (kx_wl g) (n + 1) = some (n, kx_ys g n (g 0)) := by
          show (if _ then _ else _) = _
          rw [if_pos]
          rw [hb]
          simp only [Bool.and_eq_true]
          exact ⟨⟨c, c2⟩, by simpa using z⟩
        rw [e] at ih
        refine c_M_yardsOf hM hg (by omega) (v_M_findDawn_86 ?_)
        rw [kr_n1]
        exact ih
    cases sure with
    | false =>
      refine ⟨fun _ => ?_, fun z => absurd rfl z⟩
      refine c_M_doMeet hM hg (kx_or_lt (by omega) hW) (v_M_findDawn_73 ?_)
      rw [kr_n1]
      have := fin (kx_meet g (n ||| kx_wl g)) (by unfold kx_ok; simp)
      exact this
    | true =>
      refine ⟨fun z => absurd z (by decide), fun _ => ?_⟩
      refine c_M_areSure hM hg (kx_or_lt (by omega) hW) (v_M_findDawn_59 ?_)
      rw [kr_n1]
      exact fin _ rfl
