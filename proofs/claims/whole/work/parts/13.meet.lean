/-! points that come together: part, meet, needed; dawns -/
theorem kr_up {I : Nat → Prop} (e : Nat) (hx : I e) (hs : ∀ l, l < e → I (l + 1) → I l) : ∀ l, l ≤ e → I l := by
  have key : ∀ n l, l + n = e → I l := by
    intro n
    induction n with
    | zero => intro l h; rw [Nat.add_zero] at h; rw [h]; exact hx
    | succ n ih => intro l h; exact hs l (by omega) (ih (l + 1) (by omega))
  intro l h
  exact key (e - l) l (by omega)
theorem kr_n1 (n : Nat) : nI n + 1 = nI (n + 1) := nI_1 n
theorem kr_le9 {a b : Nat} (h : a ≤ b) (hb : b < 2 ^ 31) : nI a ≤ nI b := nI_le h hb
/-- the bits at the two ends of line l -/
def kx_end (g : Nat → Nat) (l : Nat) : Nat := 2 ^ kr_gk g l 0 ||| 2 ^ kr_gk g l 1
/-- one round over the first k lines of S -/
def kx_rl (g : Nat → Nat) (S : Nat) : Nat → Nat → Nat
  | 0, b => b
  | k + 1, b => if S.testBit k && ((kx_rl g S k b).testBit (kr_gk g k 0) || (kx_rl g S k b).testBit (kr_gk g k 1)) then kx_rl g S k b ||| kx_end g k else kx_rl g S k b
/-- r rounds -/
def kx_it (g : Nat → Nat) (S b : Nat) : Nat → Nat
  | 0 => b
  | r + 1 => kx_rl g S (g 0) (kx_it g S b r)
/-- the points to which one comes from a by lines of S -/
def kx_reach (g : Nat → Nat) (S a : Nat) : Nat := kx_it g S (2 ^ a) 9
theorem kx_rl_lt {g : Nat → Nat} {S : Nat} (hg : ∀ l, l < g 0 → kr_gk g l 0 < 9 ∧ kr_gk g l 1 < 9) : ∀ k b, k ≤ g 0 → b < 512 → kx_rl g S k b < 512 := by
  intro k
  induction k with
  | zero => intro b _ h; exact h
  | succ k ih =>
    intro b hk h
    unfold kx_rl
    have h1 := ih b (by omega) h
    split
    · have h2 := hg k (by omega)
      have h3 : 2 ^ kr_gk g k 0 < 2 ^ 9 := Nat.pow_lt_pow_right (by decide) h2.1
      have h4 : 2 ^ kr_gk g k 1 < 2 ^ 9 := Nat.pow_lt_pow_right (by decide) h2.2
      exact Nat.or_lt_two_pow (n := 9) h1 (Nat.or_lt_two_pow h3 h4)
    · exact h1
theorem kx_it_lt {g : Nat → Nat} {S b : Nat} (hg : ∀ l, l < g 0 → kr_gk g l 0 < 9 ∧ kr_gk g l 1 < 9) (hb : b < 512) : ∀ r, kx_it g S b r < 512 := by
  intro r
  induction r with
  | zero => exact hb
  | succ r ih => exact kx_rl_lt hg _ _ (Nat.le_refl _) ih
theorem kx_it_fix {g : Nat → Nat} {S b r : Nat} (h : kx_it g S b (r + 1) = kx_it g S b r) : ∀ n, kx_it g S b (r + n) = kx_it g S b r := by
  intro n
  induction n with
  | zero => rfl
  | succ n ih =>
    show kx_rl g S (g 0) (kx_it g S b (r + n)) = _
    rw [ih]
    exact h
theorem kx_and0 {b x y : Nat} (hb : b < 512) : nI b &&& (nI (2 ^ x) ||| nI (2 ^ y)) = 0 ↔ (b.testBit x || b.testBit y) = false := by
  rw [kr_or, kr_and, show (0 : Int32) = nI 0 from rfl, nI_eq (Nat.lt_of_le_of_lt Nat.and_le_left (by omega)) (by decide)]
  constructor
  · intro h
    have h1 : (b &&& (2 ^ x ||| 2 ^ y)).testBit x = false := by rw [h]; simp
    have h2 : (b &&& (2 ^ x ||| 2 ^ y)).testBit y = false := by rw [h]; simp
    rw [Nat.testBit_and, Nat.testBit_or, Nat.testBit_two_pow_self] at h1
    rw [Nat.testBit_and, Nat.testBit_or, Nat.testBit_two_pow_self] at h2
    simp at h1 h2
    simp [h1, h2]
  · intro h
    apply Nat.eq_of_testBit_eq
    intro i
    rw [Nat.testBit_and, Nat.testBit_or, Nat.testBit_two_pow, Nat.testBit_two_pow, Nat.zero_testBit]
    simp at h
    by_cases e1 : x = i
    · subst e1; simp [h.1]
    · by_cases e2 : y = i
      · subst e2; simp [h.2]
      · simp [e1, e2]
theorem kx_bl (a : Nat) (P : Nat → Bool) : kr_bm (a + 1) P = kr_bm a P ||| (if P a then 2 ^ a else 0) := rfl
theorem st_M_wholeLines {d : Nat} {Q : kr_Q} {pc : Nat} {ls : kr_L} {st : List Value} {μ : kr_M} (h : C_M_wholeLines pc (kr_Wp C_M_wholeLines (kr_c d) Q) (kr_c d) Q ls st μ) : kr_Wp C_M_wholeLines (kr_c d) Q pc ls st μ := kr_Wp.step (fun pc => (kr_ok_M_wholeLines pc).2) (kr_c_om d) h
theorem v_M_wholeLines {d : Nat} {Q : kr_Q} {μ : kr_M}  (h : kr_Wp C_M_wholeLines (kr_c (d + 1)) Q 4 [some (.ref 65), some (.int 0), some (.int 0)] [] μ) : kr_c (d + 2) i_M_wholeLines [.ref 65] μ Q := ⟨rfl, (st_M_wholeLines (st_M_wholeLines (st_M_wholeLines (st_M_wholeLines h))))⟩
theorem v_M_wholeLines_4 {d : Nat} {Q : kr_Q} {μ : kr_M} {a1 : Int32} {a2 : Int32} (h : (((μ.1 66 0) ≤ a2 → Q (some (.int a1)) μ) ∧ (¬ ((μ.1 66 0) ≤ a2) → vp_in (((1 : Int32) + ((5 : Int32) * a2)) + (3 : Int32)) 375 ∧ (((μ.1 66 ((((1 : Int32) + ((5 : Int32) * a2)) + (3 : Int32)).toNatClampNeg)) ≤ 0 → kr_Wp C_M_wholeLines (kr_c (d + 1)) Q 4 [some (.ref 65), some (.int (a1 ||| ((0 : Int32) <<< (a2 &&& 31)))), some (.int (a2 + 1))] [] μ) ∧ (¬ ((μ.1 66 ((((1 : Int32) + ((5 : Int32) * a2)) + (3 : Int32)).toNatClampNeg)) ≤ 0) → kr_Wp C_M_wholeLines (kr_c (d + 1)) Q 4 [some (.ref 65), some (.int (a1 ||| ((1 : Int32) <<< (a2 &&& 31)))), some (.int (a2 + 1))] [] μ))))) : kr_Wp C_M_wholeLines (kr_c (d + 1)) Q 4 [some (.ref 65), some (.int a1), some (.int a2)] [] μ := (st_M_wholeLines (st_M_wholeLines (st_M_wholeLines (And.intro rfl (st_M_wholeLines (st_M_wholeLines (And.intro ⟨375, rfl, kr_vp rfl⟩ (st_M_wholeLines (And.intro (fun z1x => (st_M_wholeLines (st_M_wholeLines (h.1 z1x)))) (fun z1x => (st_M_wholeLines (st_M_wholeLines (st_M_wholeLines (st_M_wholeLines (st_M_wholeLines (And.intro rfl (c_M_of (h.2 z1x).1 (st_M_wholeLines (And.intro (fun z2x => (st_M_wholeLines (st_M_wholeLines (c_M_flag0 (st_M_wholeLines (st_M_wholeLines (st_M_wholeLines (st_M_wholeLines (st_M_wholeLines (st_M_wholeLines ((h.2 z1x).2.1 z2x))))))))))) (fun z2x => (st_M_wholeLines (st_M_wholeLines (st_M_wholeLines (c_M_flag1 (st_M_wholeLines (st_M_wholeLines (st_M_wholeLines (st_M_wholeLines (st_M_wholeLines (st_M_wholeLines ((h.2 z1x).2.2 z2x)))))))))))))))))))))))))))))))
/-- the whole lines, as bits -/
def kx_wl (g : Nat → Nat) : Nat := kr_bm (g 0) (fun l => decide (0 < kr_gk g l 3))
theorem kr_or0 (a : Int32) (l : Nat) (hl : l < 31) : a ||| ((0 : Int32) <<< (nI l &&& 31)) = a := by
  have h : ∀ l, l < 31 → (0 : Int32) <<< (nI l &&& 31) = 0 := by decide
  rw [h l hl]
  simp
theorem c_M_wholeLines {d : Nat} {Q : kr_Q} {μ : kr_M} {g : Nat → Nat} (hM : kr_Mg μ g) (hN : g 0 ≤ 12) (hs : ∀ l, l < g 0 → kr_gk g l 3 < 2 ^ 31) (k : Q (some (.int (nI (kx_wl g)))) μ) : kr_c (d + 2) i_M_wholeLines [.ref 65] μ Q := by
  refine v_M_wholeLines ?_
  refine kr_up (I := fun l => kr_Wp C_M_wholeLines (kr_c (d + 1)) Q 4 [some (.ref 65), some (.int (nI (kr_bm l (fun l => decide (0 < kr_gk g l 3))))), some (.int (nI l))] [] μ) (g 0) ?_ ?_ 0 (Nat.zero_le _)
  · refine v_M_wholeLines_4 (br_t ?_ k)
    rw [hM 0 (by decide)]
    exact Int32.le_refl _
  · intro l hl ih
    have hl' : l < 12 := by omega
    refine v_M_wholeLines_4 (br_f ?_ ⟨kr_ofv3 hl', ?_⟩)
    · rw [hM 0 (by decide)]
      exact nI_ge hl (by omega)
    · rw [kr_ofg3 hM hl', kr_or0 _ _ (by omega), kr_1sh l (by omega), kr_or, kr_n1]
      have e : ¬ nI (kr_gk g l 3) ≤ 0 ↔ 0 < kr_gk g l 3 := by
        rw [show (0 : Int32) = nI 0 from rfl, nI_leI (hs l hl) (by decide)]; omega
      rw [kx_bl] at ih
      refine ⟨fun c => ?_, fun c => ?_⟩
      · rw [if_neg (by simpa using fun q => e.mpr q c), Nat.or_zero] at ih
        exact ih
      · rw [if_pos (by simpa using e.mp c)] at ih
        exact ih
theorem st_M_partOf {d : Nat} {Q : kr_Q} {pc : Nat} {ls : kr_L} {st : List Value} {μ : kr_M} (h : C_M_partOf pc (kr_Wp C_M_partOf (kr_c d) Q) (kr_c d) Q ls st μ) : kr_Wp C_M_partOf (kr_c d) Q pc ls st μ := kr_Wp.step (fun pc => (kr_ok_M_partOf pc).2) (kr_c_om d) h
theorem v_M_partOf {d : Nat} {Q : kr_Q} {μ : kr_M} {a1 : Int32} {a2 : Int32} (h : kr_Wp C_M_partOf (kr_c (d + 1)) Q 7 [some (.ref 65), some (.int a1), some (.int a2), some (.int ((1 : Int32) <<< (a1 &&& 31))), some (.int 0), none, none] [] μ) : kr_c (d + 2) i_M_partOf [.ref 65, .int a1, .int a2] μ Q := ⟨rfl, (st_M_partOf (st_M_partOf (st_M_partOf (st_M_partOf (st_M_partOf (st_M_partOf h))))))⟩
theorem v_M_partOf_7 {d : Nat} {Q : kr_Q} {μ : kr_M} {a1 : Int32} {a2 : Int32} {a3 : Int32} {a4 : Int32} (h : (((9 : Int32) ≤ a4 → Q (some (.int a3)) μ) ∧ (¬ ((9 : Int32) ≤ a4) → kr_Wp C_M_partOf (kr_c (d + 1)) Q 17 [some (.ref 65), some (.int a1), some (.int a2), some (.int a3), some (.int a4), some (.int 0), none] [] μ))) : kr_Wp C_M_partOf (kr_c (d + 1)) Q 7 [some (.ref 65), some (.int a1), some (.int a2), some (.int a3), some (.int a4), none, none] [] μ := (st_M_partOf (st_M_partOf (st_M_partOf (And.intro (fun z1x => (st_M_partOf (st_M_partOf (h.1 z1x)))) (fun z1x => (st_M_partOf (st_M_partOf (h.2 z1x))))))))
theorem v_M_partOf_17 {d : Nat} {Q : kr_Q} {μ : kr_M} {a1 : Int32} {a2 : Int32} {a3 : Int32} {a4 : Int32} {a5 : Int32} (h : (((μ.1 66 0) ≤ a5 → kr_Wp C_M_partOf (kr_c (d + 1)) Q 7 [some (.ref 65), some (.int a1), some (.int a2), some (.int a3), some (.int (a4 + 1)), none, none] [] μ) ∧ (¬ ((μ.1 66 0) ≤ a5) → vp_in (((1 : Int32) + ((5 : Int32) * a5)) + (0 : Int32)) 375 ∧ vp_in (((1 : Int32) + ((5 : Int32) * a5)) + (1 : Int32)) 375 ∧ ((¬ ((a2 >>> (a5 &&& 31)) &&& (1 : Int32)) = 1 → kr_Wp C_M_partOf (kr_c (d + 1)) Q 17 [some (.ref 65), some (.int a1), some (.int a2), some (.int (a3 ||| (0 : Int32))), some (.int a4), some (.int (a5 + 1)), none] [] μ) ∧ (((a2 >>> (a5 &&& 31)) &&& (1 : Int32)) = 1 → (((a3 &&& (((1 : Int32) <<< ((μ.1 66 ((((1 : Int32) + ((5 : Int32) * a5)) + (0 : Int32)).toNatClampNeg)) &&& 31)) ||| ((1 : Int32) <<< ((μ.1 66 ((((1 : Int32) + ((5 : Int32) * a5)) + (1 : Int32)).toNatClampNeg)) &&& 31)))) = 0 → kr_Wp C_M_partOf (kr_c (d + 1)) Q 17 [some (.ref 65), some (.int a1), some (.int a2), some (.int (a3 ||| (0 : Int32))), some (.int a4), some (.int (a5 + 1)), none] [] μ) ∧ (¬ ((a3 &&& (((1 : Int32) <<< ((μ.1 66 ((((1 : Int32) + ((5 : Int32) * a5)) + (0 : Int32)).toNatClampNeg)) &&& 31)) ||| ((1 : Int32) <<< ((μ.1 66 ((((1 : Int32) + ((5 : Int32) * a5)) + (1 : Int32)).toNatClampNeg)) &&& 31)))) = 0) → kr_Wp C_M_partOf (kr_c (d + 1)) Q 17 [some (.ref 65), some (.int a1), some (.int a2), some (.int (a3 ||| (((1 : Int32) <<< ((μ.1 66 ((((1 : Int32) + ((5 : Int32) * a5)) + (0 : Int32)).toNatClampNeg)) &&& 31)) ||| ((1 : Int32) <<< ((μ.1 66 ((((1 : Int32) + ((5 : Int32) * a5)) + (1 : Int32)).toNatClampNeg)) &&& 31))))), some (.int a4), some (.int (a5 + 1)), none] [] μ))))))) : kr_Wp C_M_partOf (kr_c (d + 1)) Q 17 [some (.ref 65), some (.int a1), some (.int a2), some (.int a3), some (.int a4), some (.int a5), none] [] μ := (st_M_partOf (st_M_partOf (st_M_partOf (And.intro rfl (st_M_partOf (st_M_partOf (And.intro ⟨375, rfl, kr_vp rfl⟩ (st_M_partOf (And.intro (fun z1x => (st_M_partOf (st_M_partOf (kr_Wp.lm [true, true, true, true, true, false, false] (h.1 z1x))))) (fun z1x => (st_M_partOf (st_M_partOf (st_M_partOf (st_M_partOf (st_M_partOf (And.intro rfl (c_M_of (h.2 z1x).1 (st_M_partOf (st_M_partOf (st_M_partOf (st_M_partOf (st_M_partOf (st_M_partOf (And.intro rfl (c_M_of (h.2 z1x).2.1 (st_M_partOf (st_M_partOf (st_M_partOf (st_M_partOf (st_M_partOf (st_M_partOf (st_M_partOf (st_M_partOf (st_M_partOf (st_M_partOf (st_M_partOf (And.intro (fun z2x => (st_M_partOf (st_M_partOf (st_M_partOf (st_M_partOf (st_M_partOf (kr_Wp.lm [true, true, true, true, true, true, false] ((h.2 z1x).2.2.1 z2x)))))))) (fun z2x => (st_M_partOf (st_M_partOf (st_M_partOf (st_M_partOf (And.intro (fun z3x => (st_M_partOf (st_M_partOf (st_M_partOf (st_M_partOf (st_M_partOf (kr_Wp.lm [true, true, true, true, true, true, false] (((h.2 z1x).2.2.2 (Decidable.not_not.mp z2x)).1 z3x)))))))) (fun z3x => (st_M_partOf (st_M_partOf (st_M_partOf (st_M_partOf (st_M_partOf (st_M_partOf (kr_Wp.lm [true, true, true, true, true, true, false] (((h.2 z1x).2.2.2 (Decidable.not_not.mp z2x)).2 z3x))))))))))))))))))))))))))))))))))))))))))))))))))))
theorem c_M_partOf {d : Nat} {Q : kr_Q} {μ : kr_M} {g : Nat → Nat} (hM : kr_Mg μ g) (hN : g 0 ≤ 12) (hg : ∀ l, l < g 0 → kr_gk g l 0 < 9 ∧ kr_gk g l 1 < 9) {a S : Nat} (ha : a < 9) (hS : S < 4096) (k : Q (some (.int (nI (kx_reach g S a)))) μ) : kr_c (d + 2) i_M_partOf [.ref 65, .int (nI a), .int (nI S)] μ Q := by
  refine v_M_partOf ?_
  rw [kr_1sh a (by omega)]
  have hb : 2 ^ a < 512 := show 2 ^ a < 2 ^ 9 from Nat.pow_lt_pow_right (by decide) ha
  refine kr_up (I := fun r => kr_Wp C_M_partOf (kr_c (d + 1)) Q 7 [some (.ref 65), some (.int (nI a)), some (.int (nI S)), some (.int (nI (kx_it g S (2 ^ a) r))), some (.int (nI r)), none, none] [] μ) 9 ?_ ?_ 0 (by decide)
  · exact v_M_partOf_7 (br_t (Int32.le_refl _) k)
  · intro r hr ih
    refine v_M_partOf_7 (br_f (nI_ge (b := 9) hr (by decide)) ?_)
    have hit := kx_it_lt (S := S) hg hb r
    refine kr_up (I := fun l => kr_Wp C_M_partOf (kr_c (d + 1)) Q 17 [some (.ref 65), some (.int (nI a)), some (.int (nI S)), some (.int (nI (kx_rl g S l (kx_it g S (2 ^ a) r)))), some (.int (nI r)), some (.int (nI l)), none] [] μ) (g 0) ?_ ?_ 0 (Nat.zero_le _)
    · refine v_M_partOf_17 (br_t ?_ ?_)
      · rw [hM 0 (by decide)]
        exact Int32.le_refl _
      · rw [kr_n1]
        exact ih
    · intro l hl ih2
      have hl' : l < 12 := by omega
      refine v_M_partOf_17 (br_f ?_ ⟨kr_ofv0 hl', kr_ofv1 hl', ?_⟩)
      · rw [hM 0 (by decide)]
        exact nI_ge hl (by omega)
      · have hx := hg l hl
        rw [kr_ofg0 hM hl', kr_ofg1 hM hl', kr_1sh _ (by omega), kr_1sh _ (by omega), kr_n1, show ∀ z : Int32, z ||| 0 = z from fun z => by simp, kr_bit1 (by omega) (by omega), kx_and0 (kx_rl_lt hg l _ (by omega) hit), kr_or, kr_or]
        simp only [kx_rl] at ih2
        refine ⟨fun c => ?_, fun c => ⟨fun c2 => ?_, fun c2 => ?_⟩⟩
        · rw [if_neg (by simp [c])] at ih2
          exact ih2
        · rw [if_neg (by simp [c2])] at ih2
          exact ih2
        · rw [if_pos (by simp at c2; simp [c]; by_cases z : (kx_rl g S l (kx_it g S (2 ^ a) r)).testBit (kr_gk g l 0) = true <;> simp_all)] at ih2
          exact ih2
theorem st_Y_reached {d : Nat} {Q : kr_Q} {pc : Nat} {ls : kr_L} {st : List Value} {μ : kr_M} (h : C_Y_reached pc (kr_Wp C_Y_reached (kr_c d) Q) (kr_c d) Q ls st μ) : kr_Wp C_Y_reached (kr_c d) Q pc ls st μ := kr_Wp.step (fun pc => (kr_ok_Y_reached pc).2) (kr_c_om d) h
theorem v_Y_reached {d : Nat} {Q : kr_Q} {μ : kr_M} {a1 : Int32} {a2 : Int32} (h : kr_Wp C_Y_reached (kr_c (d + 1)) Q 10 [some (.ref 24), some (.int a1), some (.int a2), some (.int ((1 : Int32) <<< (a1 &&& 31))), some (.int 0), some (.int 0), none, none] [] μ) : kr_c (d + 2) i_Y_reached [.ref 24, .int a1, .int a2] μ Q := ⟨rfl, (st_Y_reached (st_Y_reached (st_Y_reached (st_Y_reached (st_Y_reached (st_Y_reached (st_Y_reached (st_Y_reached h))))))))⟩
theorem v_Y_reached_10 {d : Nat} {Q : kr_Q} {μ : kr_M} {a1 : Int32} {a2 : Int32} {a3 : Int32} {a4 : Int32} {a5 : Int32} (h : (((9 : Int32) ≤ a5 → Q (some (.int a3)) μ) ∧ (¬ ((9 : Int32) ≤ a5) → ((a3 = a4 → Q (some (.int a3)) μ) ∧ (¬ (a3 = a4) → kr_Wp C_Y_reached (kr_c (d + 1)) Q 29 [some (.ref 24), some (.int a1), some (.int a2), some (.int a3), some (.int a3), some (.int a5), some (.int 0), none] [] μ))))) : kr_Wp C_Y_reached (kr_c (d + 1)) Q 10 [some (.ref 24), some (.int a1), some (.int a2), some (.int a3), some (.int a4), some (.int a5), none, none] [] μ := (st_Y_reached (st_Y_reached (st_Y_reached (And.intro (fun z1x => (st_Y_reached (st_Y_reached (h.1 z1x)))) (fun z1x => (st_Y_reached (st_Y_reached (st_Y_reached (And.intro (fun z2x => (st_Y_reached (st_Y_reached ((h.2 z1x).1 z2x)))) (fun z2x => (st_Y_reached (st_Y_reached (st_Y_reached (st_Y_reached ((h.2 z1x).2 z2x)))))))))))))))
theorem v_Y_reached_29 {d : Nat} {Q : kr_Q} {μ : kr_M} {a1 : Int32} {a2 : Int32} {a3 : Int32} {a4 : Int32} {a5 : Int32} {a6 : Int32} (h : (((μ.1 1 2) ≤ a6 → kr_Wp C_Y_reached (kr_c (d + 1)) Q 10 [some (.ref 24), some (.int a1), some (.int a2), some (.int a3), some (.int a4), some (.int (a5 + 1)), none, none] [] μ) ∧ (¬ ((μ.1 1 2) ≤ a6) → vp_in a6 12 ∧ vp_in a6 12 ∧ ((¬ (¬ (a2 >>> (a6 &&& 31)) &&& 1 = 0) → kr_Wp C_Y_reached (kr_c (d + 1)) Q 29 [some (.ref 24), some (.int a1), some (.int a2), some (.int a3), some (.int a4), some (.int a5), some (.int (a6 + 1)), none] [] μ) ∧ (¬ (a2 >>> (a6 &&& 31)) &&& 1 = 0 → (((a3 &&& (((1 : Int32) <<< ((μ.1 2 a6.toNatClampNeg) &&& 31)) ||| ((1 : Int32) <<< ((μ.1 3 a6.toNatClampNeg) &&& 31)))) = 0 → kr_Wp C_Y_reached (kr_c (d + 1)) Q 29 [some (.ref 24), some (.int a1), some (.int a2), some (.int a3), some (.int a4), some (.int a5), some (.int (a6 + 1)), none] [] μ) ∧ (¬ ((a3 &&& (((1 : Int32) <<< ((μ.1 2 a6.toNatClampNeg) &&& 31)) ||| ((1 : Int32) <<< ((μ.1 3 a6.toNatClampNeg) &&& 31)))) = 0) → kr_Wp C_Y_reached (kr_c (d + 1)) Q 29 [some (.ref 24), some (.int a1), some (.int a2), some (.int (a3 ||| (((1 : Int32) <<< ((μ.1 2 a6.toNatClampNeg) &&& 31)) ||| ((1 : Int32) <<< ((μ.1 3 a6.toNatClampNeg) &&& 31))))), some (.int a4), some (.int a5), some (.int (a6 + 1)), none] [] μ))))))) : kr_Wp C_Y_reached (kr_c (d + 1)) Q 29 [some (.ref 24), some (.int a1), some (.int a2), some (.int a3), some (.int a4), some (.int a5), some (.int a6), none] [] μ := (st_Y_reached (st_Y_reached (st_Y_reached (And.intro rfl (st_Y_reached (And.intro rfl (st_Y_reached (And.intro (fun z1x => (st_Y_reached (st_Y_reached (kr_Wp.lm [true, true, true, true, true, true, false, false] (h.1 z1x))))) (fun z1x => (st_Y_reached (st_Y_reached (st_Y_reached (And.intro rfl (st_Y_reached (And.intro rfl (st_Y_reached (st_Y_reached (And.intro ⟨12, rfl, (h.2 z1x).1⟩ (st_Y_reached (st_Y_reached (st_Y_reached (st_Y_reached (And.intro rfl (st_Y_reached (And.intro rfl (st_Y_reached (st_Y_reached (And.intro ⟨12, rfl, (h.2 z1x).2.1⟩ (st_Y_reached (st_Y_reached (st_Y_reached (st_Y_reached (st_Y_reached (st_Y_reached (c_C_has (st_Y_reached (And.intro (fun z2x => (st_Y_reached (st_Y_reached (kr_Wp.lm [true, true, true, true, true, true, true, false] ((h.2 z1x).2.2.1 (kr_b0 z2x)))))) (fun z2x => (st_Y_reached (st_Y_reached (st_Y_reached (st_Y_reached (And.intro (fun z3x => (st_Y_reached (st_Y_reached (kr_Wp.lm [true, true, true, true, true, true, true, false] (((h.2 z1x).2.2.2 (kr_b1 z2x)).1 z3x))))) (fun z3x => (st_Y_reached (st_Y_reached (st_Y_reached (st_Y_reached (st_Y_reached (st_Y_reached (kr_Wp.lm [true, true, true, true, true, true, true, false] (((h.2 z1x).2.2.2 (kr_b1 z2x)).2 z3x))))))))))))))))))))))))))))))))))))))))))))))))))))
theorem c_Y_reached {d : Nat} {Q : kr_Q} {μ : kr_M} {g : Nat → Nat} (h0 : μ.1 1 2 = nI (g 0)) (hA : ∀ l, l < g 0 → μ.1 2 l = nI (kr_gk g l 0)) (hB : ∀ l, l < g 0 → μ.1 3 l = nI (kr_gk g l 1)) (hN : g 0 ≤ 12) (hg : ∀ l, l < g 0 → kr_gk g l 0 < 9 ∧ kr_gk g l 1 < 9) {a S : Nat} (ha : a < 9) (hS : S < 4096) (k : Q (some (.int (nI (kx_reach g S a)))) μ) : kr_c (d + 2) i_Y_reached [.ref 24, .int (nI a), .int (nI S)] μ Q := by
  refine v_Y_reached ?_
  rw [kr_1sh a (by omega)]
  have hb : 2 ^ a < 512 := show 2 ^ a < 2 ^ 9 from Nat.pow_lt_pow_right (by decide) ha
  have hpos : ∀ r, 0 < kx_it g S (2 ^ a) r := by
    have h1 : ∀ k b, 0 < b → 0 < kx_rl g S k b := by
      intro k
      induction k with
      | zero => intro b h; exact h
      | succ k ih => intro b h; unfold kx_rl; split; exact Nat.lt_of_lt_of_le (ih b h) Nat.left_le_or; exact ih b h
    intro r
    induction r with
    | zero => exact Nat.two_pow_pos a
    | succ r ih => exact h1 _ _ ih
  have step : ∀ r p, r < 9 → kr_Wp C_Y_reached (kr_c (d + 1)) Q 10 [some (.ref 24), some (.int (nI a)), some (.int (nI S)), some (.int (nI (kx_it g S (2 ^ a) (r + 1)))), some (.int (nI (kx_it g S (2 ^ a) r))), some (.int (nI (r + 1))), none, none] [] μ →
      ¬ kx_it g S (2 ^ a) r = p → p < 512 → kr_Wp C_Y_reached (kr_c (d + 1)) Q 10 [some (.ref 24), some (.int (nI a)), some (.int (nI S)), some (.int (nI (kx_it g S (2 ^ a) r))), some (.int (nI p)), some (.int (nI r)), none, none] [] μ := by
    intro r p hr ih hne hp
    have hit := kx_it_lt (S := S) hg hb r
    refine v_Y_reached_10 (br_f (nI_ge (b := 9) hr (by decide)) (br_f ?_ ?_))
    · rw [nI_eq (by omega) (by omega)]; exact hne
    refine kr_up (I := fun l => kr_Wp C_Y_reached (kr_c (d + 1)) Q 29 [some (.ref 24), some (.int (nI a)), some (.int (nI S)), some (.int (nI (kx_rl g S l (kx_it g S (2 ^ a) r)))), some (.int (nI (kx_it g S (2 ^ a) r))), some (.int (nI r)), some (.int (nI l)), none] [] μ) (g 0) ?_ ?_ 0 (Nat.zero_le _)
    · refine v_Y_reached_29 (br_t ?_ ?_)
      · rw [h0]
        exact Int32.le_refl _
      · rw [kr_n1]
        exact ih
    · intro l hl ih2
      refine v_Y_reached_29 (br_f ?_ ⟨vp_in_nI (by omega) (by decide), vp_in_nI (by omega) (by decide), ?_⟩)
      · rw [h0]
        exact nI_ge hl (by omega)
      · have hx := hg l hl
        rw [nI_clamp (by omega), hA l hl, hB l hl, kr_1sh _ (by omega), kr_1sh _ (by omega), kr_n1, kr_bit0 (by omega) (by omega), kx_and0 (kx_rl_lt hg l _ (by omega) hit), kr_or, kr_or]
        simp only [kx_rl] at ih2
        refine ⟨fun c => ?_, fun c => ⟨fun c2 => ?_, fun c2 => ?_⟩⟩
        · rw [if_neg (by simp at c; simp [c])] at ih2
          exact ih2
        · rw [if_neg (by simp [c2])] at ih2
          exact ih2
        · rw [if_pos (by simp at c c2; simp [c]; by_cases z : (kx_rl g S l (kx_it g S (2 ^ a) r)).testBit (kr_gk g l 0) = true <;> simp_all)] at ih2
          exact ih2
  have all : ∀ r, r ≤ 9 → ∀ p, p < 512 → (p = kx_it g S (2 ^ a) r → kx_it g S (2 ^ a) (r + 1) = kx_it g S (2 ^ a) r ∨ r = 9) → (∀ q, r = q + 1 → p = kx_it g S (2 ^ a) q) → kr_Wp C_Y_reached (kr_c (d + 1)) Q 10 [some (.ref 24), some (.int (nI a)), some (.int (nI S)), some (.int (nI (kx_it g S (2 ^ a) r))), some (.int (nI p)), some (.int (nI r)), none, none] [] μ := by
    refine kr_up (I := fun r => ∀ p, p < 512 → (p = kx_it g S (2 ^ a) r → kx_it g S (2 ^ a) (r + 1) = kx_it g S (2 ^ a) r ∨ r = 9) → (∀ q, r = q + 1 → p = kx_it g S (2 ^ a) q) → kr_Wp C_Y_reached (kr_c (d + 1)) Q 10 [some (.ref 24), some (.int (nI a)), some (.int (nI S)), some (.int (nI (kx_it g S (2 ^ a) r))), some (.int (nI p)), some (.int (nI r)), none, none] [] μ) 9 ?_ ?_
    · intro p hp _ _
      exact v_Y_reached_10 (br_t (Int32.le_refl _) k)
    · intro r hr ih p hp hfix hq
      by_cases e : kx_it g S (2 ^ a) r = p
      · refine v_Y_reached_10 (br_f (nI_ge (b := 9) hr (by decide)) (br_t (by rw [e]) ?_))
        have h1 : kx_it g S (2 ^ a) 9 = kx_it g S (2 ^ a) r := by
          rcases hfix e.symm with h | h
          · have := kx_it_fix h (9 - r)
            rwa [show r + (9 - r) = 9 by omega] at this
          · omega
        unfold kx_reach at k
        rw [h1] at k
        exact k
      · refine step r p hr (ih _ (kx_it_lt hg hb r) (fun z => ?_) (fun q hq => by have : q = r := by omega
                                                                                  rw [this])) e hp
        rcases Nat.lt_or_ge (r + 1) 9 with h9 | h9
        · left
          have e9 : kx_rl g S (g 0) (kx_it g S (2 ^ a) r) = kx_it g S (2 ^ a) (r + 1) := rfl
          rw [z] at e9
          exact e9
        · right; omega
  exact all 0 (by decide) 0 (by decide) (fun z => absurd z.symm (by have := hpos 0; omega)) (fun q hq => absurd hq (by omega))
