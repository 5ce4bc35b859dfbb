/-! who draws what: giving out, and the rows of the reference -/
def kx_sr (y : Nat → Nat) (S : Nat) (a : Nat → Nat) (d : Nat) : Nat → Nat → Nat
  | 0, _ => 0
  | n + 1, l => (if S.testBit l = true ∧ a l = d then y l else 0) + kx_sr y S a d n (l + 1)
theorem kx_sr_congr {y : Nat → Nat} {S S' : Nat} {a a' : Nat → Nat} {d d' : Nat} : ∀ n l, (∀ j, l ≤ j → j < l + n → ((S.testBit j = true ∧ a j = d) ↔ (S'.testBit j = true ∧ a' j = d'))) → kx_sr y S a d n l = kx_sr y S' a' d' n l := by
  intro n
  induction n with
  | zero => intro l _; rfl
  | succ n ih =>
    intro l h
    unfold kx_sr
    rw [ih (l + 1) (fun j h1 h2 => h j (by omega) (by omega))]
    have := h l (Nat.le_refl l) (by omega)
    by_cases c : S.testBit l = true ∧ a l = d
    · rw [if_pos c, if_pos (this.mp c)]
    · rw [if_neg c, if_neg (fun z => c (this.mpr z))]
theorem kx_sr_zero {y : Nat → Nat} {S : Nat} {a : Nat → Nat} {d : Nat} : ∀ n l, (∀ j, l ≤ j → j < l + n → S.testBit j = true → a j ≠ d) → kx_sr y S a d n l = 0 := by
  intro n
  induction n with
  | zero => intro l _; rfl
  | succ n ih =>
    intro l h
    unfold kx_sr
    rw [ih (l + 1) (fun j h1 h2 => h j (by omega) (by omega)), if_neg (fun z => h l (Nat.le_refl l) (by omega) z.1 z.2)]
theorem kx_sr_ge {y : Nat → Nat} {S : Nat} {a : Nat → Nat} {d j : Nat} : ∀ n l, l ≤ j → j < l + n → S.testBit j = true → a j = d → y j ≤ kx_sr y S a d n l := by
  intro n
  induction n with
  | zero => intro l h1 h2; omega
  | succ n ih =>
    intro l h1 h2 h3 h4
    unfold kx_sr
    by_cases e : l = j
    · subst e
      rw [if_pos ⟨h3, h4⟩]
      omega
    · have := ih (l + 1) (by omega) (by omega) h3 h4
      omega
theorem kx_sr_rm {y : Nat → Nat} {S : Nat} {a : Nat → Nat} {d j : Nat} (hS : S < 2 ^ 31) : ∀ n l, l ≤ j → j < l + n → S.testBit j = true → kx_sr y S a d n l = (if a j = d then y j else 0) + kx_sr y (kr_cl S j) a d n l := by
  intro n
  induction n with
  | zero => intro l h1 h2; omega
  | succ n ih =>
    intro l h1 h2 h3
    unfold kx_sr
    by_cases e : l = j
    · subst e
      have e1 : (kr_cl S l).testBit l = false := by rw [kr_cl_bit hS]; simp
      rw [if_neg (show ¬ ((kr_cl S l).testBit l = true ∧ a l = d) by rw [e1]; simp)]
      have e2 : kx_sr y (kr_cl S l) a d n (l + 1) = kx_sr y S a d n (l + 1) := by
        refine kx_sr_congr n (l + 1) (fun i h4 h5 => ?_)
        have : ¬ i = l := by omega
        rw [kr_cl_bit hS]
        simp [this]
      rw [e2]
      by_cases c : a l = d
      · rw [if_pos ⟨h3, c⟩, if_pos c]; omega
      · rw [if_neg (fun z => c z.2), if_neg c]; omega
    · rw [ih (l + 1) (by omega) (by omega) h3]
      have e1 : (kr_cl S j).testBit l = S.testBit l := by rw [kr_cl_bit hS]; simp [e]
      rw [e1]
      omega
/-- can line l and the n - 1 behind it be given out -/
def kx_gv (y : Nat → Nat) (D S : Nat) : Nat → Nat → (Nat → Nat) → Bool
  | 0, _, _ => true
  | n + 1, l, c => if S.testBit l = true then decide (kx_ff (fun d => decide (y l ≤ c d) && kx_gv y D S n (l + 1) (kx_un c d (c d - y l))) D 0 < D) else kx_gv y D S n (l + 1) c
/-- who draws line l first -/
def kx_gd (y : Nat → Nat) (D S n l : Nat) (c : Nat → Nat) : Nat := kx_ff (fun d => decide (y l ≤ c d) && kx_gv y D S n (l + 1) (kx_un c d (c d - y l))) D 0
def kx_ga (y : Nat → Nat) (D S : Nat) : Nat → Nat → (Nat → Nat) → Nat → Nat
  | 0, _, _ => fun _ => 0
  | n + 1, l, c => if S.testBit l = true then (fun j => if j = l then kx_gd y D S n l c else kx_ga y D S n (l + 1) (kx_un c (kx_gd y D S n l c) (c (kx_gd y D S n l c) - y l)) j) else kx_ga y D S n (l + 1) c
theorem kx_ff_lt {P : Nat → Bool} {n i j : Nat} (h1 : i ≤ j) (h2 : j < i + n) (h : P j = true) : kx_ff P n i < i + n := by
  apply Decidable.byContradiction
  intro c
  have := kx_ff_no P n i j h1 (by omega)
  rw [h] at this
  cases this
theorem kx_gv_iff {y : Nat → Nat} {D S : Nat} : ∀ n l c, kx_gv y D S n l c = true ↔ ∃ a : Nat → Nat, (∀ j, l ≤ j → j < l + n → S.testBit j = true → a j < D) ∧ ∀ d, d < D → kx_sr y S a d n l ≤ c d := by
  intro n
  induction n with
  | zero =>
    intro l c
    refine ⟨fun _ => ⟨fun _ => 0, fun j h1 h2 => by omega, fun d _ => Nat.zero_le _⟩, fun _ => rfl⟩
  | succ n ih =>
    intro l c
    unfold kx_gv
    by_cases hb : S.testBit l = true
    · rw [if_pos hb]
      simp only [decide_eq_true_eq]
      constructor
      · intro h
        have hy := kx_ff_yes (fun d => decide (y l ≤ c d) && kx_gv y D S n (l + 1) (kx_un c d (c d - y l))) D 0 (by omega)
        generalize hF : kx_ff (fun d => decide (y l ≤ c d) && kx_gv y D S n (l + 1) (kx_un c d (c d - y l))) D 0 = F at *
        simp only [Bool.and_eq_true, decide_eq_true_eq] at hy
        obtain ⟨a, h1, h2⟩ := (ih (l + 1) _).mp hy.2
        refine ⟨kx_un a l F, fun j h3 h4 h5 => ?_, fun d hd => ?_⟩
        · by_cases e : j = l
          · rw [e, kx_un_s]; exact h
          · rw [kx_un_n _ _ e]; exact h1 j (by omega) (by omega) h5
        · unfold kx_sr
          rw [kx_un_s]
          have e : kx_sr y S (kx_un a l F) d n (l + 1) = kx_sr y S a d n (l + 1) := by
            refine kx_sr_congr n (l + 1) (fun j h3 h4 => ?_)
            rw [kx_un_n _ _ (by omega)]
          rw [e]
          have h6 := h2 d hd
          by_cases c2 : F = d
          · rw [if_pos ⟨hb, c2⟩]
            rw [← c2, kx_un_s] at h6
            rw [← c2]
            omega
          · rw [if_neg (fun z => c2 z.2)]
            rw [kx_un_n _ _ (fun z => c2 z.symm)] at h6
            omega
      · rintro ⟨a, h1, h2⟩
        have hd := h1 l (Nat.le_refl l) (by omega) hb
        have key := kx_ff_lt (P := fun d => decide (y l ≤ c d) && kx_gv y D S n (l + 1) (kx_un c d (c d - y l))) (n := D) (i := 0) (j := a l) (Nat.zero_le _) (by omega) ?_
        · omega
        · have h3 := h2 (a l) hd
          unfold kx_sr at h3
          rw [if_pos ⟨hb, rfl⟩] at h3
          simp only [Bool.and_eq_true, decide_eq_true_eq]
          refine ⟨by omega, (ih (l + 1) _).mpr ⟨a, fun j h4 h5 h6 => h1 j (by omega) (by omega) h6, fun d hd2 => ?_⟩⟩
          by_cases e : d = a l
          · rw [e, kx_un_s]; omega
          · rw [kx_un_n _ _ e]
            have h4 := h2 d hd2
            unfold kx_sr at h4
            omega
    · rw [if_neg hb, ih]
      constructor
      · rintro ⟨a, h1, h2⟩
        refine ⟨a, fun j h3 h4 h5 => ?_, fun d hd => ?_⟩
        · by_cases e : j = l
          · rw [e] at h5; exact absurd h5 hb
          · exact h1 j (by omega) (by omega) h5
        · unfold kx_sr
          rw [if_neg (fun z => hb z.1)]
          have := h2 d hd
          omega
      · rintro ⟨a, h1, h2⟩
        refine ⟨a, fun j h3 h4 h5 => h1 j (by omega) (by omega) h5, fun d hd => ?_⟩
        have h4 := h2 d hd
        unfold kx_sr at h4
        omega
/-- all the chalk; the yards of lines l .. -/
def kx_cs (c : Nat → Nat) : Nat → Nat
  | 0 => 0
  | d + 1 => kx_cs c d + c d
def kx_yz (y : Nat → Nat) (S : Nat) : Nat → Nat → Nat
  | 0, _ => 0
  | n + 1, l => (if S.testBit l = true then y l else 0) + kx_yz y S n (l + 1)
def kx_yo (y : Nat → Nat) (S : Nat) : Nat → Nat
  | 0 => 0
  | n + 1 => kx_yo y S n + (if S.testBit n = true then y n else 0)
theorem kx_yo_ys (y : Nat → Nat) (S : Nat) : ∀ n l, kx_yo y S (l + n) = kx_yo y S l + kx_yz y S n l := by
  intro n
  induction n with
  | zero => intro l; rfl
  | succ n ih =>
    intro l
    have := ih (l + 1)
    unfold kx_yz
    rw [show l + (n + 1) = l + 1 + n by omega, this]
    show kx_yo y S l + _ + _ = _
    omega
theorem kx_cs_un (c : Nat → Nat) {d v : Nat} : ∀ D, d < D → kx_cs (kx_un c d v) D + c d = kx_cs c D + v := by
  have out : ∀ D, D ≤ d → kx_cs (kx_un c d v) D = kx_cs c D := by
    intro D
    induction D with
    | zero => intro _; rfl
    | succ D ih =>
      intro h
      unfold kx_cs
      rw [ih (by omega), kx_un_n _ _ (by omega)]
  intro D
  induction D with
  | zero => intro h; omega
  | succ D ih =>
    intro h
    unfold kx_cs
    by_cases e : d = D
    · subst e
      rw [out d (Nat.le_refl d), kx_un_s]
      omega
    · have := ih (by omega)
      rw [kx_un_n _ _ (fun z => e z.symm)]
      omega
theorem kx_gv_sum {y : Nat → Nat} {D S : Nat} : ∀ n l c, kx_gv y D S n l c = true → kx_yz y S n l ≤ kx_cs c D := by
  intro n
  induction n with
  | zero => intro l c _; exact Nat.zero_le _
  | succ n ih =>
    intro l c h
    unfold kx_gv at h
    unfold kx_yz
    by_cases hb : S.testBit l = true
    · rw [if_pos hb] at h ⊢
      simp only [decide_eq_true_eq] at h
      have hy := kx_ff_yes (fun d => decide (y l ≤ c d) && kx_gv y D S n (l + 1) (kx_un c d (c d - y l))) D 0 (by omega)
      generalize hF : kx_ff (fun d => decide (y l ≤ c d) && kx_gv y D S n (l + 1) (kx_un c d (c d - y l))) D 0 = F at *
      simp only [Bool.and_eq_true, decide_eq_true_eq] at hy
      have h1 := ih _ _ hy.2
      have h2 := kx_cs_un c (v := c F - y l) D h
      omega
    · rw [if_neg hb] at h ⊢
      have := ih _ _ h
      omega
/-- the lines of S fit into the places 0 .. k, s yards in the last -/
def kx_OkW (y : Nat → Nat) (N : Nat) (cap : Nat → Nat) (S k s : Nat) : Prop := ∃ a : Nat → Nat, (∀ l, l < N → S.testBit l = true → a l ≤ k) ∧ (∀ j, j < k → kx_sr y S a j N 0 ≤ cap j) ∧ kx_sr y S a k N 0 ≤ s
def kx_ut (m : Nat) (cap : Nat → Nat) (yy : Nat) : Nat → Nat → Nat → Nat
  | 0, _, _ => kx_F
  | n + 1, k, sum => if m ≤ k then kx_F else if sum ≤ cap k then 1000 * k + sum else kx_ut m cap yy n (k + 1) yy
theorem kx_ut_A {m : Nat} {cap : Nat → Nat} {yy : Nat} : ∀ n k sum, kx_ut m cap yy n k sum ≠ kx_F → ∃ k' s', kx_ut m cap yy n k sum = 1000 * k' + s' ∧ k' < m ∧ s' ≤ cap k' ∧ k ≤ k' ∧ ((k' = k ∧ s' = sum) ∨ (k < k' ∧ s' = yy)) := by
  intro n
  induction n with
  | zero => intro k sum h; exact absurd rfl h
  | succ n ih =>
    intro k sum h
    unfold kx_ut at h ⊢
    by_cases c : m ≤ k
    · rw [if_pos c] at h; exact absurd rfl h
    · rw [if_neg c] at h ⊢
      by_cases c2 : sum ≤ cap k
      · rw [if_pos c2]
        exact ⟨k, sum, rfl, by omega, c2, Nat.le_refl _, Or.inl ⟨rfl, rfl⟩⟩
      · rw [if_neg c2] at h ⊢
        obtain ⟨k', s', h1, h2, h3, h4, h5⟩ := ih _ _ h
        refine ⟨k', s', h1, h2, h3, by omega, Or.inr ⟨by omega, ?_⟩⟩
        rcases h5 with h5 | h5 <;> exact h5.2
theorem kx_ut_B {m : Nat} {cap : Nat → Nat} {yy : Nat} (hc : ∀ j, cap j < 1000) {k' s' : Nat} (hk : k' < m) (hs : s' ≤ cap k') (hy : yy ≤ s') : ∀ n k sum, m < k + n → k ≤ k' → (k' = k → sum ≤ s') → kx_ut m cap yy n k sum ≤ 1000 * k' + s' := by
  intro n
  induction n with
  | zero => intro k sum h1 h2; omega
  | succ n ih =>
    intro k sum h1 h2 h3
    unfold kx_ut
    rw [if_neg (by omega)]
    by_cases c2 : sum ≤ cap k
    · rw [if_pos c2]
      have := hc k
      by_cases e : k' = k
      · have := h3 e
        subst e
        omega
      · omega
    · rw [if_neg c2]
      by_cases e : k' = k
      · have := h3 e
        subst e
        omega
      · exact ih (k + 1) yy (by omega) (by omega) (fun _ => hy)
/-- what the reference's row used says of S -/
def kx_T (y : Nat → Nat) (N m : Nat) (cap : Nat → Nat) (S u : Nat) : Prop :=
  (u ≠ kx_F → ∃ k s, u = 1000 * k + s ∧ s < 1000 ∧ s ≤ cap k ∧ kx_OkW y N cap S k s ∧ (S ≠ 0 → k < m) ∧ (S = 0 → k = 0)) ∧ (∀ k s, k < m → s ≤ cap k → kx_OkW y N cap S k s → u ≤ 1000 * k + s)
theorem kx_T0 (y : Nat → Nat) (N m : Nat) (cap : Nat → Nat) : kx_T y N m cap 0 0 := by
  refine ⟨fun _ => ⟨0, 0, rfl, by decide, Nat.zero_le _, ⟨fun _ => 0, fun l _ h => by simp at h, fun j hj => absurd hj (Nat.not_lt_zero j), ?_⟩, fun h => absurd rfl h, fun _ => rfl⟩, fun k s _ _ _ => Nat.zero_le _⟩
  rw [kx_sr_zero N 0 (fun j _ _ h => by simp at h)]
  exact Nat.le_refl _
def kx_sv (m : Nat) (cap : Nat → Nat) (yy u : Nat) : Nat := if u = kx_F then kx_F else kx_ut m cap yy 6 (u / 1000) (u % 1000 + yy)
theorem kx_T_step {y : Nat → Nat} {N m : Nat} {cap : Nat → Nat} {S u : Nat} {us : Nat → Nat} (hm : m ≤ 5) (hc : ∀ j, cap j < 1000) (hy : ∀ l, l < N → S.testBit l = true → 1 ≤ y l) (hS : S < 2 ^ N) (hN : N ≤ 12) (h0 : S ≠ 0) (hT : ∀ l, l < N → S.testBit l = true → kx_T y N m cap (kr_cl S l) (us l)) (hle : ∀ l, l < N → S.testBit l = true → u ≤ kx_sv m cap (y l) (us l)) (hat : u = kx_F ∨ ∃ l, l < N ∧ S.testBit l = true ∧ u = kx_sv m cap (y l) (us l)) : kx_T y N m cap S u := by
  have hS31 : S < 2 ^ 31 := by
    have : 2 ^ N ≤ 2 ^ 12 := Nat.pow_le_pow_right (by decide) hN
    omega
  constructor
  · intro hu
    obtain ⟨l, hl, hb, e⟩ := hat.resolve_left hu
    rw [e] at hu
    unfold kx_sv at hu e
    by_cases cF : us l = kx_F
    · rw [if_pos cF] at hu; exact absurd rfl hu
    rw [if_neg cF] at hu e
    obtain ⟨k0, s0, e0, q1, q2, ⟨a, a1, a2, a3⟩, q4, q5⟩ := (hT l hl hb).1 cF
    rw [show us l / 1000 = k0 by omega, show us l % 1000 = s0 by omega] at hu e
    obtain ⟨k, s, r1, r2, r3, r4, r5⟩ := kx_ut_A _ _ _ hu
    have hck := hc k
    refine ⟨k, s, by rw [e, r1], by omega, r3, ⟨kx_un a l k, fun j hj hbj => ?_, fun j hj => ?_, ?_⟩, fun _ => r2, fun z => absurd z h0⟩
    · by_cases ej : j = l
      · rw [ej, kx_un_s]; exact Nat.le_refl _
      · rw [kx_un_n _ _ ej]
        have := a1 j hj (by rw [kr_cl_bit hS31]; simp [hbj, ej])
        omega
    · have e2 : kx_sr y (kr_cl S l) (kx_un a l k) j N 0 = kx_sr y (kr_cl S l) a j N 0 := by
        refine kx_sr_congr N 0 (fun i _ hi => ?_)
        by_cases ei : i = l
        · rw [ei, kr_cl_bit hS31]; simp
        · rw [kx_un_n _ _ ei]
      rw [kx_sr_rm hS31 N 0 (Nat.zero_le l) (by omega) hb, kx_un_s, if_neg (by omega), e2, Nat.zero_add]
      by_cases c1 : j < k0
      · exact a2 j c1
      · by_cases c2 : j = k0
        · rw [c2]; omega
        · rw [kx_sr_zero N 0 (fun i _ hi hbi z => by have := a1 i (by omega) hbi; omega)]
          exact Nat.zero_le _
    · have e2 : kx_sr y (kr_cl S l) (kx_un a l k) k N 0 = kx_sr y (kr_cl S l) a k N 0 := by
        refine kx_sr_congr N 0 (fun i _ hi => ?_)
        by_cases ei : i = l
        · rw [ei, kr_cl_bit hS31]; simp
        · rw [kx_un_n _ _ ei]
      rw [kx_sr_rm hS31 N 0 (Nat.zero_le l) (by omega) hb, kx_un_s, if_pos rfl, e2]
      rcases r5 with ⟨z1, z2⟩ | ⟨z1, z2⟩
      · rw [z1]; omega
      · rw [kx_sr_zero N 0 (fun i _ hi hbi z => by have := a1 i (by omega) hbi; omega)]
        omega
  · have key : ∀ k s, k < m → s ≤ cap k → kx_OkW y N cap S k s → u ≤ 1000 * k + s := by
      intro k
      induction k with
      | zero =>
        rintro s hk hs ⟨a, a1, a2, a3⟩
        obtain ⟨l, hl⟩ := Nat.exists_testBit_of_ne_zero h0
        have hlN : l < N := by
          apply Decidable.byContradiction
          intro z
          have := Nat.testBit_lt_two_pow (Nat.lt_of_lt_of_le hS (Nat.pow_le_pow_right (n := 2) (by decide) (Nat.le_of_not_lt z)))
          rw [hl] at this
          cases this
        refine Nat.le_trans (hle l hlN hl) ?_
        have hal : a l = 0 := by have := a1 l hlN hl; omega
        rw [kx_sr_rm hS31 N 0 (Nat.zero_le l) (by omega) hl, if_pos hal] at a3
        have hT2 := (hT l hlN hl).2 0 (s - y l) hk (by omega) ⟨a, fun i hi hb => a1 i hi (by rw [kr_cl_bit hS31] at hb; simp at hb; exact hb.1), fun j hj => absurd hj (Nat.not_lt_zero j), by omega⟩
        have h9 := hc 0
        unfold kx_sv
        have hF : (1000000000 : Nat) = kx_F := rfl
        rw [if_neg (by omega)]
        exact kx_ut_B hc hk hs (by omega) 6 _ _ (by omega) (by omega) (fun z => by omega)
      | succ k ih =>
        rintro s hk hs ⟨a, a1, a2, a3⟩
        by_cases ex : ∃ l, l < N ∧ S.testBit l = true ∧ a l = k + 1
        · obtain ⟨l, hlN, hl, hal⟩ := ex
          refine Nat.le_trans (hle l hlN hl) ?_
          rw [kx_sr_rm hS31 N 0 (Nat.zero_le l) (by omega) hl, if_pos hal] at a3
          have hT2 := (hT l hlN hl).2 (k + 1) (s - y l) hk (by omega) ⟨a, fun i hi hb => a1 i hi (by rw [kr_cl_bit hS31] at hb; simp at hb; exact hb.1), fun j hj => by
            have h8 := a2 j hj
            rw [kx_sr_rm hS31 N 0 (Nat.zero_le l) (by omega) hl] at h8
            omega, by omega⟩
          have h9 := hc (k + 1)
          have hF : (1000000000 : Nat) = kx_F := rfl
          unfold kx_sv
          rw [if_neg (by omega)]
          exact kx_ut_B hc hk hs (by omega) 6 _ _ (by omega) (by omega) (fun z => by omega)
        · have h8 := a2 k (Nat.lt_succ_self k)
          have h9 := hc k
          have := ih (kx_sr y S a k N 0) (by omega) h8 ⟨a, fun l hl hb => by
            have := a1 l hl hb
            have : a l ≠ k + 1 := fun z => ex ⟨l, hl, hb, z⟩
            omega, fun j hj => a2 j (by omega), Nat.le_refl _⟩
          omega
    exact key
