/-! the shortest ways: one weight function, and what any search that comes to rest has found -/
/-- lines l between i and j -/
def kx_ed (g : Nat → Nat) (l i j : Nat) : Prop := (kr_gk g l 0 = i ∧ kr_gk g l 1 = j) ∨ (kr_gk g l 1 = i ∧ kr_gk g l 0 = j)
def kx_w (b : Nat) (g : Nat → Nat) (l : Nat) : Nat := b * kr_gk g l 2 + 1
def kx_un (f : Nat → Nat) (k v : Nat) : Nat → Nat := fun j => if j = k then v else f j
theorem kx_un_s (f : Nat → Nat) (k v : Nat) : kx_un f k v k = v := if_pos rfl
theorem kx_un_n (f : Nat → Nat) {k j : Nat} (v : Nat) (h : j ≠ k) : kx_un f k v j = f j := if_neg h
def kx_sm (d : Nat → Nat) : Nat → Nat
  | 0 => 0
  | n + 1 => kx_sm d n + d n
theorem kx_sm_eq {d d' : Nat → Nat} : ∀ n, (∀ i, i < n → d' i = d i) → kx_sm d' n = kx_sm d n := by
  intro n
  induction n with
  | zero => intro _; rfl
  | succ n ih => intro h; unfold kx_sm; rw [ih (fun i hi => h i (by omega)), h n (by omega)]
theorem kx_sm_lt {d : Nat → Nat} {i v : Nat} (hv : v < d i) : ∀ n, i < n → kx_sm (kx_un d i v) n < kx_sm d n := by
  intro n
  induction n with
  | zero => intro h; omega
  | succ n ih =>
    intro h
    unfold kx_sm
    by_cases e : i = n
    · subst e
      rw [kx_un_s, kx_sm_eq (d := d) i (fun j hj => kx_un_n d v (by omega))]
      omega
    · have := ih (by omega)
      rw [kx_un_n d v (fun z => e z.symm)]
      omega
/-- what a search keeps -/
def kx_Inv (b F : Nat) (g : Nat → Nat) (S goal : Nat) (d : Nat → Nat) : Prop :=
  d goal = 0 ∧ (∀ i, i < 9 → d i ≤ F) ∧ ∀ i, i < 9 → i ≠ goal → d i < F → ∃ l j, l < g 0 ∧ S.testBit l = true ∧ kx_ed g l i j ∧ d j < F ∧ d j + kx_w b g l ≤ d i
def kx_Rel (b F : Nat) (g : Nat → Nat) (S : Nat) (d : Nat → Nat) (l : Nat) : Prop := S.testBit l = true → ∀ i j, kx_ed g l i j → d j < F → d i ≤ d j + kx_w b g l
/-- the distances to goal -/
def kx_IsD (b F : Nat) (g : Nat → Nat) (S goal : Nat) (d : Nat → Nat) : Prop := kx_Inv b F g S goal d ∧ ∀ l, l < g 0 → kx_Rel b F g S d l
theorem kx_ed_lt {g : Nat → Nat} (hg : kx_gb g) {l i j : Nat} (hl : l < g 0) (h : kx_ed g l i j) : i < 9 ∧ j < 9 ∧ i ≠ j := by
  have := hg.2.2 l hl
  rcases h with ⟨h1, h2⟩ | ⟨h1, h2⟩ <;> subst h1 <;> subst h2 <;> omega
theorem kx_ed_sw {g : Nat → Nat} {l i j : Nat} (h : kx_ed g l i j) : kx_ed g l j i := by
  rcases h with ⟨h1, h2⟩ | ⟨h1, h2⟩
  · exact Or.inr ⟨h2, h1⟩
  · exact Or.inl ⟨h2, h1⟩
theorem kx_Inv.step {b F : Nat} {g : Nat → Nat} {S goal : Nat} {d : Nat → Nat} (hg : kx_gb g) (h : kx_Inv b F g S goal d) {l i j : Nat} (hl : l < g 0) (hs : S.testBit l = true) (he : kx_ed g l i j) (hj : d j < F) (hlt : d j + kx_w b g l < d i) : kx_Inv b F g S goal (kx_un d i (d j + kx_w b g l)) := by
  obtain ⟨hi9, hj9, hij⟩ := kx_ed_lt hg hl he
  have hle := h.2.1 i hi9
  have hgi : i ≠ goal := fun e => by rw [e, h.1] at hlt; omega
  refine ⟨?_, fun k hk => ?_, fun k hk hkg hkF => ?_⟩
  · rw [kx_un_n _ _ (Ne.symm hgi)]; exact h.1
  · by_cases e : k = i
    · rw [e, kx_un_s]; omega
    · rw [kx_un_n _ _ e]; exact h.2.1 k hk
  · by_cases e : k = i
    · subst e
      refine ⟨l, j, hl, hs, he, ?_, ?_⟩
      · rw [kx_un_n _ _ (Ne.symm hij)]; exact hj
      · rw [kx_un_n _ _ (Ne.symm hij), kx_un_s]; exact Nat.le_refl _
    · rw [kx_un_n _ _ e] at hkF ⊢
      obtain ⟨l', j', a1, a2, a3, a4, a5⟩ := h.2.2 k hk hkg hkF
      refine ⟨l', j', a1, a2, a3, ?_, ?_⟩
      · by_cases e2 : j' = i
        · rw [e2, kx_un_s]; omega
        · rw [kx_un_n _ _ e2]; exact a4
      · by_cases e2 : j' = i
        · rw [e2, kx_un_s]; rw [e2] at a5; omega
        · rw [kx_un_n _ _ e2]; exact a5
def kx_d0 (F goal : Nat) : Nat → Nat := fun i => if i = goal then 0 else F
theorem kx_d0_Inv (b F : Nat) (g : Nat → Nat) (S goal : Nat) : kx_Inv b F g S goal (kx_d0 F goal) := by
  refine ⟨if_pos rfl, fun i _ => ?_, fun i _ hi hF => ?_⟩
  · unfold kx_d0; split <;> omega
  · unfold kx_d0 at hF; rw [if_neg hi] at hF; omega
theorem kx_ex (b F : Nat) {g : Nat → Nat} (hg : kx_gb g) (S goal : Nat) : ∃ d, kx_IsD b F g S goal d := by
  have key : ∀ n d, kx_sm d 9 ≤ n → kx_Inv b F g S goal d → ∃ d, kx_IsD b F g S goal d := by
    intro n
    induction n with
    | zero =>
      intro d hd h
      refine ⟨d, h, fun l hl hs i j he hj => ?_⟩
      obtain ⟨hi9, _⟩ := kx_ed_lt hg hl he
      rcases Nat.lt_or_ge (d j + kx_w b g l) (d i) with h1 | h1
      · have := kx_sm_lt (v := d j + kx_w b g l) h1 9 hi9
        omega
      · exact h1
    | succ n ih =>
      intro d hd h
      by_cases hr : ∀ l, l < g 0 → kx_Rel b F g S d l
      · exact ⟨d, h, hr⟩
      · have : ∃ l i j, l < g 0 ∧ S.testBit l = true ∧ kx_ed g l i j ∧ d j < F ∧ d j + kx_w b g l < d i := by
          apply Classical.byContradiction
          intro hn
          apply hr
          intro l hl hs i j he hj
          apply Nat.le_of_not_lt
          intro hlt
          exact hn ⟨l, i, j, hl, hs, he, hj, hlt⟩
        obtain ⟨l, i, j, hl, hs, he, hj, hlt⟩ := this
        have h1 := kx_sm_lt (v := d j + kx_w b g l) hlt 9 (kx_ed_lt hg hl he).1
        exact ih _ (by omega) (h.step hg hl hs he hj hlt)
  exact key _ _ (Nat.le_refl _) (kx_d0_Inv b F g S goal)
theorem kx_le {b F : Nat} {g : Nat → Nat} {S goal : Nat} {d e : Nat → Nat} (hd : kx_Inv b F g S goal d) (he : kx_IsD b F g S goal e) (hg : kx_gb g) : ∀ n i, i < 9 → d i ≤ n → d i < F → e i ≤ d i := by
  intro n
  induction n with
  | zero =>
    intro i hi h0 hF
    by_cases e1 : i = goal
    · rw [e1, he.1.1]; exact Nat.zero_le _
    · obtain ⟨l, j, _, _, _, _, a5⟩ := hd.2.2 i hi e1 hF
      unfold kx_w at a5
      omega
  | succ n ih =>
    intro i hi hn hF
    by_cases e1 : i = goal
    · rw [e1, he.1.1]; exact Nat.zero_le _
    · obtain ⟨l, j, a1, a2, a3, a4, a5⟩ := hd.2.2 i hi e1 hF
      have hw : 0 < kx_w b g l := Nat.succ_pos _
      have h1 := ih j (kx_ed_lt hg a1 a3).2.1 (by omega) a4
      have h2 := he.2 l a1 a2 i j a3 (by omega)
      omega
theorem kx_uniq {b F : Nat} {g : Nat → Nat} {S goal : Nat} {d e : Nat → Nat} (hd : kx_IsD b F g S goal d) (he : kx_IsD b F g S goal e) (hg : kx_gb g) : ∀ i, i < 9 → d i = e i := by
  intro i hi
  have h1 := hd.1.2.1 i hi
  have h2 := he.1.2.1 i hi
  rcases Nat.lt_or_ge (d i) F with hF | hF
  · have h3 := kx_le hd.1 he hg (d i) i hi (Nat.le_refl _) hF
    have h4 := kx_le he.1 hd hg (e i) i hi (Nat.le_refl _) (by omega)
    omega
  · rcases Nat.lt_or_ge (e i) F with hF2 | hF2
    · have h4 := kx_le he.1 hd hg (e i) i hi (Nat.le_refl _) hF2
      omega
    · omega
theorem kx_tight {b F : Nat} {g : Nat → Nat} {S goal : Nat} {d : Nat → Nat} (hd : kx_IsD b F g S goal d) {i : Nat} (hi : i < 9) (hig : i ≠ goal) (hF : d i < F) : ∃ l j, l < g 0 ∧ S.testBit l = true ∧ kx_ed g l i j ∧ d j < F ∧ d i = d j + kx_w b g l := by
  obtain ⟨l, j, a1, a2, a3, a4, a5⟩ := hd.1.2.2 i hi hig hF
  have := hd.2 l a1 a2 i j a3 a4
  exact ⟨l, j, a1, a2, a3, a4, by omega⟩
/-- how many of the first n points are nearer than v -/
def kx_rk (d : Nat → Nat) (v : Nat) : Nat → Nat
  | 0 => 0
  | n + 1 => kx_rk d v n + (if d n < v then 1 else 0)
theorem kx_rk_le (d : Nat → Nat) (v : Nat) : ∀ n, kx_rk d v n ≤ n := by
  intro n
  induction n with
  | zero => exact Nat.le_refl _
  | succ n ih => unfold kx_rk; split <;> omega
theorem kx_rk_mono {d : Nat → Nat} {u v : Nat} (h : u ≤ v) : ∀ n, kx_rk d u n ≤ kx_rk d v n := by
  intro n
  induction n with
  | zero => exact Nat.le_refl _
  | succ n ih =>
    unfold kx_rk
    by_cases e : d n < u
    · rw [if_pos e, if_pos (by omega)]; omega
    · rw [if_neg e]; split <;> omega
theorem kx_rk_lt {d : Nat → Nat} {j v : Nat} (h : d j < v) : ∀ n, j < n → kx_rk d (d j) n < kx_rk d v n := by
  intro n
  induction n with
  | zero => intro hj; omega
  | succ n ih =>
    intro hj
    unfold kx_rk
    by_cases e : j = n
    · subst e
      rw [if_neg (Nat.lt_irrefl _), if_pos h]
      have := kx_rk_mono (d := d) (Nat.le_of_lt h) j
      omega
    · have := ih (by omega)
      by_cases e2 : d n < d j
      · rw [if_pos e2, if_pos (by omega)]; omega
      · rw [if_neg e2]; split <;> omega
theorem kx_rk_8 {d : Nat → Nat} {i : Nat} (hi : i < 9) : kx_rk d (d i) 9 ≤ 8 := by
  have key : ∀ n, i < n → kx_rk d (d i) n + 1 ≤ n := by
    intro n
    induction n with
    | zero => intro h; omega
    | succ n ih =>
      intro h
      unfold kx_rk
      by_cases e : i = n
      · subst e
        rw [if_neg (Nat.lt_irrefl _)]
        have := kx_rk_le d (d i) i
        omega
      · have := ih (by omega)
        split <;> omega
  have := key 9 hi
  omega
def kx_F : Nat := 1000000000
/-- of a distance: its lines, at most 8 -/
theorem kx_lines {g : Nat → Nat} {S goal : Nat} {d : Nat → Nat} (hd : kx_IsD 1000 kx_F g S goal d) (hg : kx_gb g) : ∀ n i, i < 9 → d i ≤ n → d i < kx_F → d i % 1000 ≤ kx_rk d (d i) 9 ∧ d i / 1000 ≤ 9 * (d i % 1000) := by
  intro n
  induction n with
  | zero =>
    intro i hi h0 hF
    have : d i = 0 := by omega
    rw [this]
    simp
  | succ n ih =>
    intro i hi hn hF
    by_cases e1 : i = goal
    · rw [e1, hd.1.1]; simp
    · obtain ⟨l, j, a1, a2, a3, a4, a5⟩ := kx_tight hd hi e1 hF
      have hj9 := (kx_ed_lt hg a1 a3).2.1
      have hw : 0 < kx_w 1000 g l := Nat.succ_pos _
      have h1 := ih j hj9 (by omega) a4
      have h2 := kx_rk_lt (d := d) (j := j) (v := d i) (by omega) 9 hj9
      have h3 := kx_rk_8 (d := d) hi
      have h4 := (hg.2.2 l a1).2.2.2.2.1
      unfold kx_w at a5
      have h5 : d i % 1000 = d j % 1000 + 1 := by omega
      have h6 : d i / 1000 = d j / 1000 + kr_gk g l 2 := by omega
      omega
theorem kx_l8 {g : Nat → Nat} {S goal : Nat} {d : Nat → Nat} (hd : kx_IsD 1000 kx_F g S goal d) (hg : kx_gb g) {i : Nat} (hi : i < 9) (hF : d i < kx_F) : d i % 1000 ≤ 8 ∧ d i / 1000 ≤ 72 := by
  have h1 := kx_lines hd hg (d i) i hi (Nat.le_refl _) hF
  have h3 := kx_rk_8 (d := d) hi
  omega
def kx_F2 : Nat := 1048576
/-- the class's cost of a distance -/
def kx_cv (v : Nat) : Nat := if v < kx_F then 16 * (v / 1000) + v % 1000 else kx_F2
theorem kx_cv_F {g : Nat → Nat} {S goal : Nat} {d : Nat → Nat} (hd : kx_IsD 1000 kx_F g S goal d) (hg : kx_gb g) {i : Nat} (hi : i < 9) : (kx_cv (d i) < kx_F2 ↔ d i < kx_F) ∧ (d i < kx_F → kx_cv (d i) = 16 * (d i / 1000) + d i % 1000 ∧ kx_cv (d i) ≤ 1160) := by
  unfold kx_cv
  by_cases e : d i < kx_F
  · have := kx_l8 hd hg hi e
    rw [if_pos e]
    unfold kx_F2
    exact ⟨⟨fun _ => e, fun _ => by omega⟩, fun _ => ⟨rfl, by omega⟩⟩
  · rw [if_neg e]
    exact ⟨⟨fun h => absurd h (Nat.lt_irrefl _), fun h => absurd h e⟩, fun h => absurd h e⟩
theorem kx_conv {g : Nat → Nat} {S goal : Nat} {d : Nat → Nat} (hd : kx_IsD 1000 kx_F g S goal d) (hg : kx_gb g) (hgo : goal < 9) : kx_IsD 16 kx_F2 g S goal (fun i => kx_cv (d i)) := by
  have c := fun {i : Nat} (hi : i < 9) => kx_cv_F hd hg hi
  refine ⟨⟨?_, fun i hi => ?_, fun i hi hig hF => ?_⟩, fun l hl hs i j he hj => ?_⟩
  · show kx_cv (d goal) = 0
    rw [hd.1.1]
    rfl
  · show kx_cv (d i) ≤ kx_F2
    rcases Nat.lt_or_ge (d i) kx_F with h | h
    · exact Nat.le_of_lt ((c hi).1.mpr h)
    · unfold kx_cv; rw [if_neg (by omega)]; exact Nat.le_refl _
  · have hF1 := (c hi).1.mp hF
    obtain ⟨l, j, a1, a2, a3, a4, a5⟩ := kx_tight hd hi hig hF1
    have hj9 := (kx_ed_lt hg a1 a3).2.1
    refine ⟨l, j, a1, a2, a3, (c hj9).1.mpr a4, ?_⟩
    show kx_cv (d j) + _ ≤ kx_cv (d i)
    rw [((c hi).2 hF1).1, ((c hj9).2 a4).1]
    have h1 := kx_l8 hd hg hi hF1
    have h2 := kx_l8 hd hg hj9 a4
    have h4 := (hg.2.2 l a1).2.2.2.2.1
    unfold kx_w at a5 ⊢
    omega
  · obtain ⟨hi9, hj9, _⟩ := kx_ed_lt hg hl he
    have a4 := (c hj9).1.mp hj
    have h0 := hd.2 l hl hs i j he a4
    have h2 := kx_l8 hd hg hj9 a4
    have h4 := (hg.2.2 l hl).2.2.2.2.1
    have hF1 : d i < kx_F := by unfold kx_w at h0; unfold kx_F; omega
    have h1 := kx_l8 hd hg hi9 hF1
    show kx_cv (d i) ≤ kx_cv (d j) + _
    rw [((c hi9).2 hF1).1, ((c hj9).2 a4).1]
    unfold kx_w at h0 ⊢
    omega
/-- the distances that the reference finds -/
noncomputable def kx_dist (g : Nat → Nat) (S goal : Nat) : Nat → Nat := Classical.epsilon (fun d => kx_IsD 1000 kx_F g S goal d)
theorem kx_dist_is {g : Nat → Nat} (hg : kx_gb g) (S goal : Nat) : kx_IsD 1000 kx_F g S goal (kx_dist g S goal) := by
  exact Classical.epsilon_spec (kx_ex 1000 kx_F hg S goal)
/-- one line in the class's round -/
def kx_ce (g : Nat → Nat) (S : Nat) (c : Nat → Nat) (l : Nat) : Nat → Nat :=
  if S.testBit l then (if c (kr_gk g l 0) + kx_w 16 g l < c (kr_gk g l 1) then kx_un c (kr_gk g l 1) (c (kr_gk g l 0) + kx_w 16 g l) else if c (kr_gk g l 1) + kx_w 16 g l < c (kr_gk g l 0) then kx_un c (kr_gk g l 0) (c (kr_gk g l 1) + kx_w 16 g l) else c) else c
def kx_cl1 (g : Nat → Nat) (S : Nat) : Nat → (Nat → Nat) → Nat → Nat
  | 0, c => c
  | l + 1, c => kx_ce g S (kx_cl1 g S l c) l
def kx_cr (g : Nat → Nat) (S goal : Nat) : Nat → Nat → Nat
  | 0 => kx_d0 kx_F2 goal
  | r + 1 => kx_cl1 g S (g 0) (kx_cr g S goal r)
theorem kx_ce_Inv {g : Nat → Nat} (hg : kx_gb g) {S goal : Nat} {c : Nat → Nat} (h : kx_Inv 16 kx_F2 g S goal c) {l : Nat} (hl : l < g 0) : kx_Inv 16 kx_F2 g S goal (kx_ce g S c l) := by
  unfold kx_ce
  split
  · rename_i hs
    have hb := hg.2.2 l hl
    have h0 := h.2.1 _ hb.1
    have h1 := h.2.1 _ hb.2.1
    split
    · rename_i hlt
      exact h.step hg hl hs (Or.inr ⟨rfl, rfl⟩) (by omega) hlt
    · split
      · rename_i hlt
        exact h.step hg hl hs (Or.inl ⟨rfl, rfl⟩) (by omega) hlt
      · exact h
  · exact h
theorem kx_ce_le {g : Nat → Nat} {S : Nat} {c : Nat → Nat} {l : Nat} (i : Nat) : kx_ce g S c l i ≤ c i := by
  unfold kx_ce
  split
  · split
    · rename_i hlt
      by_cases e : i = kr_gk g l 1
      · rw [e, kx_un_s]; omega
      · rw [kx_un_n _ _ e]; exact Nat.le_refl _
    · split
      · rename_i hlt
        by_cases e : i = kr_gk g l 0
        · rw [e, kx_un_s]; omega
        · rw [kx_un_n _ _ e]; exact Nat.le_refl _
      · exact Nat.le_refl _
  · exact Nat.le_refl _
theorem kx_ce_rel {g : Nat → Nat} (hg : kx_gb g) {S : Nat} {c : Nat → Nat} {l : Nat} (hl : l < g 0) (hs : S.testBit l = true) {i j : Nat} (he : kx_ed g l i j) : kx_ce g S c l i ≤ c j + kx_w 16 g l := by
  have hne : kr_gk g l 0 ≠ kr_gk g l 1 := (hg.2.2 l hl).2.2.1
  unfold kx_ce
  rw [if_pos hs]
  rcases he with ⟨h1, h2⟩ | ⟨h1, h2⟩ <;> subst h1 <;> subst h2
  · split
    · rename_i hlt
      rw [kx_un_n _ _ hne]; omega
    · split
      · rw [kx_un_s]; exact Nat.le_refl _
      · omega
  · split
    · rw [kx_un_s]; exact Nat.le_refl _
    · split
      · rename_i hlt
        rw [kx_un_n _ _ (Ne.symm hne)]; omega
      · omega
theorem kx_cl1_Inv {g : Nat → Nat} (hg : kx_gb g) {S goal : Nat} {c : Nat → Nat} (h : kx_Inv 16 kx_F2 g S goal c) : ∀ l, l ≤ g 0 → kx_Inv 16 kx_F2 g S goal (kx_cl1 g S l c) := by
  intro l
  induction l with
  | zero => intro _; exact h
  | succ l ih => intro hl; exact kx_ce_Inv hg (ih (by omega)) (by omega)
theorem kx_cl1_le {g : Nat → Nat} {S : Nat} {c : Nat → Nat} (i : Nat) : ∀ l, kx_cl1 g S l c i ≤ c i := by
  intro l
  induction l with
  | zero => exact Nat.le_refl _
  | succ l ih => exact Nat.le_trans (kx_ce_le i) ih
theorem kx_cr_Inv {g : Nat → Nat} (hg : kx_gb g) {S goal : Nat} : ∀ r, kx_Inv 16 kx_F2 g S goal (kx_cr g S goal r) := by
  intro r
  induction r with
  | zero => exact kx_d0_Inv _ _ _ _ _
  | succ r ih => exact kx_cl1_Inv hg ih _ (Nat.le_refl _)
/-- after r rounds the r nearest and goal are right -/
theorem kx_cr_near {g : Nat → Nat} (hg : kx_gb g) {S goal : Nat} {e : Nat → Nat} (he : kx_IsD 16 kx_F2 g S goal e) : ∀ r i, i < 9 → e i < kx_F2 → kx_rk e (e i) 9 ≤ r → kx_cr g S goal r i ≤ e i := by
  intro r
  induction r with
  | zero =>
    intro i hi hF hr
    by_cases e1 : i = goal
    · show kx_d0 _ _ i ≤ _
      unfold kx_d0
      rw [if_pos e1]; exact Nat.zero_le _
    · obtain ⟨l, j, a1, a2, a3, a4, a5⟩ := kx_tight he hi e1 hF
      have hw : 0 < kx_w 16 g l := Nat.succ_pos _
      have := kx_rk_lt (d := e) (j := j) (v := e i) (by omega) 9 (kx_ed_lt hg a1 a3).2.1
      omega
  | succ r ih =>
    intro i hi hF hr
    by_cases e1 : i = goal
    · rw [e1, (kx_cr_Inv hg (r + 1)).1]; exact Nat.zero_le _
    · obtain ⟨l, j, a1, a2, a3, a4, a5⟩ := kx_tight he hi e1 hF
      have hw : 0 < kx_w 16 g l := Nat.succ_pos _
      have hj9 := (kx_ed_lt hg a1 a3).2.1
      have h1 := kx_rk_lt (d := e) (j := j) (v := e i) (by omega) 9 hj9
      have h2 := ih j hj9 a4 (by omega)
      show kx_cl1 g S (g 0) (kx_cr g S goal r) i ≤ _
      have key : ∀ k, l < k → k ≤ g 0 → kx_cl1 g S k (kx_cr g S goal r) i ≤ e i := by
        intro k
        induction k with
        | zero => intro h; omega
        | succ k ihk =>
          intro hk hk2
          by_cases e2 : l = k
          · subst e2
            have h3 := kx_ce_rel hg (c := kx_cl1 g S l (kx_cr g S goal r)) a1 a2 a3
            have h4 := kx_cl1_le (g := g) (S := S) (c := kx_cr g S goal r) j l
            show kx_ce g S (kx_cl1 g S l (kx_cr g S goal r)) l i ≤ _
            omega
          · exact Nat.le_trans (kx_ce_le i) (ihk (by omega) (by omega))
      exact key (g 0) a1 (Nat.le_refl _)
theorem kx_cr_fix {g : Nat → Nat} {S goal r : Nat} (h : kx_cr g S goal (r + 1) = kx_cr g S goal r) : ∀ n, kx_cr g S goal (r + n) = kx_cr g S goal r := by
  intro n
  induction n with
  | zero => rfl
  | succ n ih =>
    show kx_cl1 g S (g 0) (kx_cr g S goal (r + n)) = _
    rw [ih]
    exact h
/-- the class's costs, after nine rounds or as soon as nothing changes -/
theorem kx_cr_9 {g : Nat → Nat} (hg : kx_gb g) {S goal : Nat} (hgo : goal < 9) {i : Nat} (hi : i < 9) : kx_cr g S goal 9 i = kx_cv (kx_dist g S goal i) := by
  have he := kx_conv (kx_dist_is hg S goal) hg hgo
  have h1 := (kx_cr_Inv hg (S := S) (goal := goal) 9).2.1 i hi
  have h2 := he.1.2.1 i hi
  rcases Nat.lt_or_ge (kx_cr g S goal 9 i) kx_F2 with hF | hF
  · have h3 := kx_le (kx_cr_Inv hg 9) he hg _ i hi (Nat.le_refl _) hF
    have h4 := kx_cr_near hg he 9 i hi (by omega) (by have := kx_rk_8 (d := fun i => kx_cv (kx_dist g S goal i)) hi; omega)
    omega
  · rcases Nat.lt_or_ge (kx_cv (kx_dist g S goal i)) kx_F2 with hF2 | hF2
    · have h4 := kx_cr_near hg he 9 i hi hF2 (by have := kx_rk_8 (d := fun i => kx_cv (kx_dist g S goal i)) hi; omega)
      omega
    · dsimp only at h2
      omega
