/-! pure: what a branch on a truth value says; a switch -/
theorem kr_vp {i : Int32} {N : Nat} (h : decide (¬ (i < 0 ∨ N ≤ i.toNatClampNeg)) = true) : vp_in i N := by unfold vp_in; exact of_decide_eq_true h
theorem kr_b0 {P : Prop} [Decidable P] (z : (if P then (1 : Int32) else 0) = 0) : ¬ P := fun p => by rw [if_pos p] at z; exact absurd z (by decide)
theorem kr_b1 {P : Prop} [Decidable P] (z : ¬ (if P then (1 : Int32) else 0) = 0) : P := by
  by_cases p : P
  · exact p
  · rw [if_neg p] at z; exact absurd rfl z
theorem kr_b2 {P : Prop} [Decidable P] (z : ¬ ¬ (if P then (1 : Int32) else 0) = 0) : ¬ P := kr_b0 (Decidable.not_not.mp z)
theorem kr_bz {P : Prop} [Decidable P] : (if P then (1 : Int32) else 0) = 0 ∨ (if P then (1 : Int32) else 0) = 1 := by
  by_cases p : P
  · exact Or.inr (if_pos p)
  · exact Or.inl (if_neg p)
def kr_selp (K : Nat → Prop) (df : Nat) (x : Int32) : Nat → List Nat → Prop
  | _, [] => K df
  | j, t :: r => (x = Int32.ofNat j → K t) ∧ (¬ x = Int32.ofNat j → kr_selp K df x (j + 1) r)
theorem kr_selp_of (K : Nat → Prop) (df : Nat) (x : Int32) : ∀ (r : List Nat) (j : Nat), j + r.length < 2 ^ 31 → kr_selp K df x j r → (∀ i, i < r.length → x = Int32.ofNat (j + i) → K (r.getD i df)) ∧ ((∀ i, i < r.length → ¬ x = Int32.ofNat (j + i)) → K df) := by
  intro r
  induction r with
  | nil => intro j _ h; exact ⟨fun i hi => absurd hi (Nat.not_lt_zero i), fun _ => h⟩
  | cons t r ih =>
    intro j hj h
    have hj' : j + 1 + r.length < 2 ^ 31 := by simp only [List.length_cons] at hj; omega
    refine ⟨fun i hi hx => ?_, fun hn => ?_⟩
    · cases i with
      | zero => exact h.1 hx
      | succ i =>
        have hne : ¬ x = Int32.ofNat j := by
          intro e
          rw [e] at hx
          have h1 := congrArg Int32.toInt hx
          simp only [List.length_cons] at hi hj
          rw [show (Int32.ofNat j).toInt = (j : Int) from nI_toInt (by omega), show (Int32.ofNat (j + (i + 1))).toInt = ((j + (i + 1) : Nat) : Int) from nI_toInt (by omega)] at h1
          omega
        have h2 := (ih (j + 1) hj' (h.2 hne)).1 i (by simpa using hi) (by rw [hx]; congr 1; omega)
        simpa using h2
    · have h0 := hn 0 (by simp)
      refine (ih (j + 1) hj' (h.2 h0)).2 (fun i hi => ?_)
      have := hn (i + 1) (by simpa using hi)
      rw [show j + (i + 1) = j + 1 + i by omega] at this
      exact this
theorem kr_tsel {C : Nat → kr_S} {CO : kr_O} {Q : kr_Q} {ls : kr_L} {r : List Value} {μ : kr_M} {hi : Int} {df : Nat} {x : Int32} (ts : List Nat) (hh : hi = ((ts.length : Nat) : Int) - 1) (hl : ts.length < 2 ^ 31) (h : kr_selp (fun t => kr_Wp C CO Q t ls r μ) df x 0 ts) : kr_Wp C CO Q (kr_tg 0 hi ts df x) ls r μ := by
  obtain ⟨h1, h2⟩ := kr_selp_of _ df x ts 0 (by omega) h
  unfold kr_tg
  by_cases a : x.toInt < 0
  · rw [if_pos a]
    refine h2 (fun i hi' e => ?_)
    rw [e, show (Int32.ofNat (0 + i)).toInt = ((0 + i : Nat) : Int) from nI_toInt (by omega)] at a
    omega
  rw [if_neg a]
  by_cases b : hi < x.toInt
  · rw [if_pos b]
    refine h2 (fun i hi' e => ?_)
    rw [e, show (Int32.ofNat (0 + i)).toInt = ((0 + i : Nat) : Int) from nI_toInt (by omega)] at b
    omega
  rw [if_neg b]
  have e : x = Int32.ofNat (0 + (x.toInt - 0).toNat) := by
    apply Int32.toInt_inj.mp
    rw [show (Int32.ofNat (0 + (x.toInt - 0).toNat)).toInt = ((0 + (x.toInt - 0).toNat : Nat) : Int) from nI_toInt (by omega)]
    omega
  exact h1 _ (by omega) e
/-! truth values as answers -/
theorem kr_if1 {Q : kr_Q} {μ : kr_M} {P : Prop} [Decidable P] (p : P) (k : Q (some (.int (if P then 1 else 0))) μ) : Q (some (.int 1)) μ := by rw [if_pos p] at k; exact k
theorem kr_if0 {Q : kr_Q} {μ : kr_M} {P : Prop} [Decidable P] (p : ¬ P) (k : Q (some (.int (if P then 1 else 0))) μ) : Q (some (.int 0)) μ := by rw [if_neg p] at k; exact k
theorem kr_ifc {Q : kr_Q} {μ : kr_M} {P P' : Prop} [Decidable P] [Decidable P'] (h : P' ↔ P) (k : Q (some (.int (if P then 1 else 0))) μ) : Q (some (.int (if P' then 1 else 0))) μ := by
  by_cases p : P
  · rw [if_pos p] at k; rw [if_pos (h.mpr p)]; exact k
  · rw [if_neg p] at k; rw [if_neg (fun q => p (h.mp q))]; exact k
theorem kr_le (a b : Int32) : a ≤ b ↔ a.toInt ≤ b.toInt := Int32.le_iff_toInt_le
theorem kr_lt (a b : Int32) : a < b ↔ a.toInt < b.toInt := Int32.lt_iff_toInt_lt
theorem kr_eqi (a b : Int32) : a = b ↔ a.toInt = b.toInt := Int32.toInt_inj.symm
theorem kr_nlt {a b : Int32} : ¬ a < b ↔ b ≤ a := by rw [kr_lt, kr_le]; omega
theorem kr_nle {a b : Int32} : ¬ a ≤ b ↔ b < a := by rw [kr_lt, kr_le]; omega
theorem kr_cmp_lt (x y : Int64) : lg_cmp x y < 0 ↔ x < y := by
  unfold lg_cmp
  simp only [gt_iff_lt, Int64.lt_iff_toInt_lt, ← Int64.toInt_inj]
  by_cases h1 : y.toInt < x.toInt
  · rw [if_pos h1]; exact ⟨fun h => absurd h (by decide), fun h => by omega⟩
  · rw [if_neg h1]
    by_cases h2 : x.toInt = y.toInt
    · rw [if_pos h2]; exact ⟨fun h => absurd h (by decide), fun h => by omega⟩
    · rw [if_neg h2]; exact ⟨fun _ => by omega, fun _ => by decide⟩
theorem kr_cmp_gt (x y : Int64) : 0 < lg_cmp x y ↔ y < x := by
  unfold lg_cmp
  simp only [gt_iff_lt, Int64.lt_iff_toInt_lt, ← Int64.toInt_inj]
  by_cases h1 : y.toInt < x.toInt
  · rw [if_pos h1]; exact ⟨fun _ => h1, fun _ => by decide⟩
  · rw [if_neg h1]
    by_cases h2 : x.toInt = y.toInt
    · rw [if_pos h2]; exact ⟨fun h => absurd h (by decide), fun h => by omega⟩
    · rw [if_neg h2]; exact ⟨fun h => absurd h (by decide), fun h => by omega⟩
theorem kr_wle (a b : Int32) : a.toInt64 ≤ b.toInt64 ↔ a ≤ b := by rw [Int64.le_iff_toInt_le, kr_le, Int32.toInt_toInt64, Int32.toInt_toInt64]
theorem kr_nI_toInt {n : Nat} (h : n < 2 ^ 31) : (nI n).toInt = (n : Int) := nI_toInt h
