/-! a run, quarter by quarter, in numbers: strengths, where, from where, yards to go, waits, came -/
abbrev kx_R : Type := (Nat → Nat) × (Nat → Nat) × (Nat → Nat) × (Nat → Nat) × (Nat → Nat) × (Nat → Nat)
/-- who of the first i is on a line that is not whole is lost -/
def kx_lo (i : Nat) (R : kx_R) : kx_R := (R.1, fun p => if p < i ∧ 100 ≤ R.2.1 p ∧ R.2.1 p < 1000 ∧ R.1 (R.2.1 p - 100) = 0 then 1000 else R.2.1 p, R.2.2)
def kx_ra (g : Nat → Nat) (R : kx_R) : kx_R := (fun l => if l < g 0 ∧ kr_gk g l 4 = 0 then R.1 l - 1 else R.1 l, R.2)
/-- p comes to the other end of his line -/
def kx_ar (g t : Nat → Nat) (p q : Nat) (R : kx_R) : kx_R :=
  (kx_un R.1 (R.2.1 p - 100) (R.1 (R.2.1 p - 100) - 1), kx_un R.2.1 p (kx_oe g (R.2.1 p - 100) (R.2.2.1 p)), R.2.2.1, R.2.2.2.1, R.2.2.2.2.1, if kx_oe g (R.2.1 p - 100) (R.2.2.1 p) = t (3 * p + 1) then kx_un R.2.2.2.2.2 p q else R.2.2.2.2.2)
def kx_tg (p : Nat) (R : kx_R) : kx_R := (R.1, R.2.1, R.2.2.1, kx_un R.2.2.2.1 p (R.2.2.2.1 p - 1), R.2.2.2.2)
def kx_go (g : Nat → Nat) (p n : Nat) (R : kx_R) : kx_R := (R.1, kx_un R.2.1 p (100 + n), kx_un R.2.2.1 p (R.2.1 p), kx_un R.2.2.2.1 p (kr_gk g n 2), R.2.2.2.2)
def kx_wt (p : Nat) (R : kx_R) : kx_R := (R.1, R.2.1, R.2.2.1, R.2.2.2.1, kx_un R.2.2.2.2.1 p (R.2.2.2.2.1 p + 1), R.2.2.2.2.2)
/-- one of them, in quarter q -/
noncomputable def kx_st (g t : Nat → Nat) (K p q : Nat) (R : kx_R) : kx_R :=
  if R.2.1 p = 1000 then R
  else if 100 ≤ R.2.1 p then (if R.2.2.2.1 p = 1 then kx_lo K (kx_ar g t p q R) else kx_tg p R)
  else if R.2.1 p = t (3 * p + 1) ∨ q ≤ t (3 * p + 2) then R
  else if kx_nl g (kx_ms (g 0) R.1) (t (3 * p + 1)) (R.2.1 p) < g 0 then kx_go g p (kx_nl g (kx_ms (g 0) R.1) (t (3 * p + 1)) (R.2.1 p)) R else kx_wt p R
noncomputable def kx_ps (g t : Nat → Nat) (K q : Nat) : Nat → kx_R → kx_R
  | 0, R => R
  | p + 1, R => kx_st g t K p q (kx_ps g t K q p R)
/-- does it rain -/
def kx_rn (g : Nat → Nat) (ex q : Nat) : Bool := (decide (q ≤ 40) && g (67 + q) == 1) || q == ex
noncomputable def kx_run (g t : Nat → Nat) (K ex : Nat) : Nat → kx_R
  | 0 => (fun l => kr_gk g l 3, fun p => t (3 * p), fun _ => 0, fun _ => 0, fun _ => 0, fun _ => 0)
  | q + 1 => kx_ps g t K (q + 1) K (if kx_rn g ex (q + 1) then kx_lo K (kx_ra g (kx_run g t K ex q)) else kx_run g t K ex q)
def kx_onl (g : Nat → Nat) (R : kx_R) (p : Nat) : Prop := 100 ≤ R.2.1 p ∧ R.2.1 p - 100 < g 0 ∧ R.2.2.1 p < 9 ∧ (kr_gk g (R.2.1 p - 100) 0 = R.2.2.1 p ∨ kr_gk g (R.2.1 p - 100) 1 = R.2.2.1 p) ∧ 1 ≤ R.2.2.2.1 p ∧ R.2.2.2.1 p ≤ 9 ∧ R.2.2.2.2.2 p = 0
/-- what holds in a run; w: also while somebody may still stand on a line rubbed out -/
def kx_J (w : Bool) (g t : Nat → Nat) (K n : Nat) (R : kx_R) : Prop := (∀ l, l < g 0 → R.1 l ≤ 9) ∧ ∀ p, p < K → ((R.2.1 p < 9 ∧ (R.2.1 p ≠ t (3 * p + 1) → R.2.2.2.2.2 p = 0)) ∨ R.2.1 p = 1000 ∨ (kx_onl g R p ∧ (w = false → 0 < R.1 (R.2.1 p - 100)))) ∧ R.2.2.2.2.1 p ≤ n ∧ R.2.2.2.2.2 p ≤ 60
theorem kx_J.weak {g t : Nat → Nat} {K n : Nat} {R : kx_R} (h : kx_J false g t K n R) : kx_J true g t K n R := ⟨h.1, fun p hp => ⟨(h.2 p hp).1.imp id (Or.imp id (fun z => ⟨z.1, fun y => by cases y⟩)), (h.2 p hp).2⟩⟩
theorem kx_J.mono {w : Bool} {g t : Nat → Nat} {K n n' : Nat} {R : kx_R} (h : kx_J w g t K n R) (hn : n ≤ n') : kx_J w g t K n' R := ⟨h.1, fun p hp => ⟨(h.2 p hp).1, by have := (h.2 p hp).2; omega, by have := (h.2 p hp).2; omega⟩⟩
theorem kx_J.lo {g t : Nat → Nat} {K n : Nat} {R : kx_R} (h : kx_J true g t K n R) (hN : g 0 ≤ 12) : kx_J false g t K n (kx_lo K R) := by
  refine ⟨h.1, fun p hp => ⟨?_, (h.2 p hp).2⟩⟩
  by_cases c : p < K ∧ 100 ≤ R.2.1 p ∧ R.2.1 p < 1000 ∧ R.1 (R.2.1 p - 100) = 0
  · refine Or.inr (Or.inl ?_)
    show (if _ then _ else _) = _
    rw [if_pos c]
  · have e : (kx_lo K R).2.1 p = R.2.1 p := if_neg c
    rw [e]
    rcases (h.2 p hp).1 with z | z | z
    · exact Or.inl z
    · exact Or.inr (Or.inl z)
    · refine Or.inr (Or.inr ⟨?_, fun _ => ?_⟩)
      · unfold kx_onl
        rw [e]
        exact z.1
      · obtain ⟨⟨z1, z2, -⟩, -⟩ := z
        have : ¬ R.1 (R.2.1 p - 100) = 0 := fun y => c ⟨hp, z1, by omega, y⟩
        show 0 < R.1 (R.2.1 p - 100)
        omega
theorem kx_J.ra {g t : Nat → Nat} {K n : Nat} {R : kx_R} (h : kx_J false g t K n R) : kx_J true g t K n (kx_ra g R) := by
  refine ⟨fun l hl => ?_, fun p hp => ⟨(h.2 p hp).1.imp id (Or.imp id (fun z => ⟨z.1, fun y => by cases y⟩)), (h.2 p hp).2⟩⟩
  have := h.1 l hl
  show (if l < g 0 ∧ kr_gk g l 4 = 0 then R.1 l - 1 else R.1 l) ≤ 9
  split <;> omega
theorem kx_J.ar {g t : Nat → Nat} {K n p q : Nat} {R : kx_R} (h : kx_J false g t K n R) (hg : kx_gb g) (hq : q ≤ 60) (ho : kx_onl g R p) : kx_J true g t K n (kx_ar g t p q R) := by
  refine ⟨fun l hl => ?_, fun r hr => ?_⟩
  · have h1 := h.1 l hl
    have h2 := h.1 _ ho.2.1
    show kx_un R.1 _ _ l ≤ 9
    by_cases e : l = R.2.1 p - 100
    · rw [e, kx_un_s]; omega
    · rw [kx_un_n _ _ e]; exact h1
  · obtain ⟨h1, h2, h3⟩ := h.2 r hr
    have eM : (kx_ar g t p q R).2.2.2.2.2 = if kx_oe g (R.2.1 p - 100) (R.2.2.1 p) = t (3 * p + 1) then kx_un R.2.2.2.2.2 p q else R.2.2.2.2.2 := rfl
    have hM : (kx_ar g t p q R).2.2.2.2.2 r ≤ 60 ∧ (r ≠ p → (kx_ar g t p q R).2.2.2.2.2 r = R.2.2.2.2.2 r) := by
      rw [eM]
      split
      · by_cases e : r = p
        · subst e; rw [kx_un_s]; exact ⟨hq, fun z => absurd rfl z⟩
        · rw [kx_un_n _ _ e]; exact ⟨h3, fun _ => rfl⟩
      · exact ⟨h3, fun _ => rfl⟩
    refine ⟨?_, h2, hM.1⟩
    by_cases e : r = p
    · subst e
      have ea : (kx_ar g t r q R).2.1 r = kx_oe g (R.2.1 r - 100) (R.2.2.1 r) := kx_un_s _ _ _
      rw [ea]
      refine Or.inl ⟨kx_oe_lt hg ho.2.1, fun z => ?_⟩
      rw [eM, if_neg z]
      exact ho.2.2.2.2.2.2
    · have ea : (kx_ar g t p q R).2.1 r = R.2.1 r := kx_un_n _ _ e
      have eo : (kx_ar g t p q R).2.2.1 = R.2.2.1 := rfl
      have et : (kx_ar g t p q R).2.2.2.1 = R.2.2.2.1 := rfl
      unfold kx_onl
      rw [ea, hM.2 e, eo, et]
      exact h1.imp id (Or.imp id (fun z => ⟨z.1, fun y => by cases y⟩))
theorem kx_J.on {g t : Nat → Nat} {K n p : Nat} {R : kx_R} (h : kx_J false g t K n R) (hp : p < K) (h0 : R.2.1 p ≠ 1000) (h1 : 100 ≤ R.2.1 p) : kx_onl g R p ∧ 0 < R.1 (R.2.1 p - 100) := by
  rcases (h.2 p hp).1 with z | z | z
  · omega
  · exact absurd z h0
  · exact ⟨z.1, z.2 rfl⟩
theorem kx_J.pt {g t : Nat → Nat} {K n p : Nat} {R : kx_R} (h : kx_J false g t K n R) (hp : p < K) (h0 : R.2.1 p ≠ 1000) (h1 : ¬ 100 ≤ R.2.1 p) : R.2.1 p < 9 ∧ (R.2.1 p ≠ t (3 * p + 1) → R.2.2.2.2.2 p = 0) := by
  rcases (h.2 p hp).1 with z | z | z
  · exact z
  · exact absurd z h0
  · exact absurd z.1.1 h1
theorem kx_J.st {g t : Nat → Nat} {K n p q : Nat} {R : kx_R} (h : kx_J false g t K n R) (hg : kx_gb g) (hq : q ≤ 60) (hp : p < K) (hgo : t (3 * p + 1) < 9) : kx_J false g t K (n + 1) (kx_st g t K p q R) := by
  unfold kx_st
  split
  · exact h.mono (Nat.le_succ n)
  rename_i h0
  split
  · rename_i h1
    have ho := h.on hp h0 h1
    split
    · exact ((h.ar hg hq ho.1).lo hg.1).mono (Nat.le_succ n)
    · rename_i h2
      refine ⟨h.1, fun r hr => ?_⟩
      obtain ⟨k1, k2, k3⟩ := h.2 r hr
      refine ⟨k1.imp id (Or.imp id (fun z => ⟨?_, z.2⟩)), Nat.le_succ_of_le k2, k3⟩
      obtain ⟨z1, z2, z3, z4, z5, z6, z7⟩ := z.1
      refine ⟨z1, z2, z3, z4, ?_⟩
      show 1 ≤ kx_un R.2.2.2.1 p _ r ∧ kx_un R.2.2.2.1 p _ r ≤ 9 ∧ _
      by_cases e : r = p
      · subst e; rw [kx_un_s]; exact ⟨by omega, by omega, z7⟩
      · rw [kx_un_n _ _ e]; exact ⟨z5, z6, z7⟩
  rename_i h1
  split
  · exact h.mono (Nat.le_succ n)
  rename_i h2
  obtain ⟨a1, a2⟩ := h.pt hp h0 h1
  split
  · rename_i hn
    have hh := kx_hit_of (kx_nl_yes hn)
    have hN := hg.1
    refine ⟨h.1, fun r hr => ?_⟩
    obtain ⟨k1, k2, k3⟩ := h.2 r hr
    refine ⟨?_, Nat.le_succ_of_le k2, k3⟩
    have ea : (kx_go g p (kx_nl g (kx_ms (g 0) R.1) (t (3 * p + 1)) (R.2.1 p)) R).2.1 r = if r = p then 100 + kx_nl g (kx_ms (g 0) R.1) (t (3 * p + 1)) (R.2.1 p) else R.2.1 r := rfl
    have eo : (kx_go g p (kx_nl g (kx_ms (g 0) R.1) (t (3 * p + 1)) (R.2.1 p)) R).2.2.1 r = if r = p then R.2.1 p else R.2.2.1 r := rfl
    have et : (kx_go g p (kx_nl g (kx_ms (g 0) R.1) (t (3 * p + 1)) (R.2.1 p)) R).2.2.2.1 r = if r = p then kr_gk g (kx_nl g (kx_ms (g 0) R.1) (t (3 * p + 1)) (R.2.1 p)) 2 else R.2.2.2.1 r := rfl
    by_cases e : r = p
    · subst e
      rw [ea, if_pos rfl]
      refine Or.inr (Or.inr ⟨?_, fun _ => ?_⟩)
      · unfold kx_onl
        rw [ea, eo, et, if_pos rfl, if_pos rfl, if_pos rfl, show 100 + kx_nl g (kx_ms (g 0) R.1) (t (3 * r + 1)) (R.2.1 r) - 100 = kx_nl g (kx_ms (g 0) R.1) (t (3 * r + 1)) (R.2.1 r) by omega]
        have hb := hg.2.2 _ hn
        refine ⟨by omega, hn, a1, ?_, hb.2.2.2.1, hb.2.2.2.2.1, a2 (fun z => h2 (Or.inl z))⟩
        rcases hh.2.1 with ⟨y, _⟩ | ⟨y, _⟩
        · exact Or.inl y
        · exact Or.inr y
      · rw [show 100 + kx_nl g (kx_ms (g 0) R.1) (t (3 * r + 1)) (R.2.1 r) - 100 = kx_nl g (kx_ms (g 0) R.1) (t (3 * r + 1)) (R.2.1 r) by omega]
        have := hh.1
        rw [kx_ms_bit hn] at this
        show 0 < R.1 _
        simpa using this
    · rw [ea, if_neg e]
      unfold kx_onl
      rw [ea, eo, et, if_neg e, if_neg e, if_neg e]
      exact k1
  · refine ⟨h.1, fun r hr => ?_⟩
    obtain ⟨k1, k2, k3⟩ := h.2 r hr
    refine ⟨k1, ?_, k3⟩
    show kx_un R.2.2.2.2.1 p _ r ≤ n + 1
    by_cases e : r = p
    · subst e; rw [kx_un_s]; omega
    · rw [kx_un_n _ _ e]; omega
theorem kx_J.ps {g t : Nat → Nat} {K n q : Nat} {R : kx_R} (h : kx_J false g t K n R) (hg : kx_gb g) (hq : q ≤ 60) (hgo : ∀ p, p < K → t (3 * p + 1) < 9) : ∀ p, p ≤ K → kx_J false g t K (n + p) (kx_ps g t K q p R) := by
  intro p
  induction p with
  | zero => intro _; exact h
  | succ p ih => intro hp; exact (ih (by omega)).st hg hq (by omega) (hgo p (by omega))
theorem kx_run_J {g t : Nat → Nat} {K ex : Nat} (hg : kx_gb g) (ht : ∀ p, p < K → t (3 * p) < 9 ∧ t (3 * p + 1) < 9) : ∀ q, q ≤ 60 → kx_J false g t K (K * q) (kx_run g t K ex q) := by
  intro q
  induction q with
  | zero =>
    intro _
    refine ⟨fun l hl => (hg.2.2 l hl).2.2.2.2.2.1, fun p hp => ⟨Or.inl ⟨(ht p hp).1, fun _ => rfl⟩, Nat.zero_le _, Nat.zero_le _⟩⟩
  | succ q ih =>
    intro hq
    have h1 := ih (by omega)
    have h2 : kx_J false g t K (K * q) (if kx_rn g ex (q + 1) then kx_lo K (kx_ra g (kx_run g t K ex q)) else kx_run g t K ex q) := by
      split
      · exact h1.ra.lo hg.1
      · exact h1
    exact h2.ps hg hq (fun p hp => (ht p hp).2) K (Nat.le_refl _)
