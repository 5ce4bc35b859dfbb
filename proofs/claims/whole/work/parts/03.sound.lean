/-! THE MACHINE BEARS IT: each instruction of kr_S against the kit's row. ad: where the objects lie; D, cs: the classes' numbers -/
def kr_vv (ad : Nat → Nat) : Value → Value
  | .ref k => .ref (ad k)
  | v => v
theorem kr_vv_cat (ad : Nat → Nat) (v : Value) : (kr_vv ad v).category = kr_cat v := by cases v <;> rfl
theorem kr_sum_vv (ad : Nat → Nat) (r : List Value) : ((r.map (kr_vv ad)).map fun v => v.category).sum = kr_sum r := by
  induction r with
  | nil => rfl
  | cons v r ih =>
    rw [List.map_cons, List.map_cons, List.sum_cons, ih, kr_vv_cat]
    rfl
def kr_lh (ad : Nat → Nat) (n : Nat) (lsA : Array Slot) (ls : kr_L) : Prop := lsA.size = n ∧ lv_wf lsA ∧ ∀ i v, kr_lg ls i = some v → lsA[i]? = some (.val (kr_vv ad v))
def kr_pa (ad : Nat → Nat) : Nat → kr_L → List (Nat × Value)
  | _, [] => []
  | k, none :: l => kr_pa ad (k + 1) l
  | k, some v :: l => (k, kr_vv ad v) :: kr_pa ad (k + 1) l
theorem kr_pa_in (ad : Nat → Nat) : ∀ (l : kr_L) (k i : Nat) (v : Value), kr_lg l i = some v → (k + i, kr_vv ad v) ∈ kr_pa ad k l := by
  intro l
  induction l with
  | nil => intro k i v h; simp [kr_lg] at h
  | cons a l ih =>
    intro k i v h
    cases i with
    | zero =>
      simp only [kr_lg] at h
      subst h
      simp [kr_pa]
    | succ i =>
      simp only [kr_lg] at h
      have h1 := ih (k + 1) i v h
      rw [show k + 1 + i = k + (i + 1) by omega] at h1
      cases a with
      | none => exact h1
      | some w => exact List.mem_cons_of_mem _ h1
theorem kr_pa_of (ad : Nat → Nat) : ∀ (l : kr_L) (k j : Nat) (w : Value), (j, w) ∈ kr_pa ad k l → ∃ i v, j = k + i ∧ kr_lg l i = some v ∧ w = kr_vv ad v := by
  intro l
  induction l with
  | nil => intro k j w h; simp [kr_pa] at h
  | cons a l ih =>
    intro k j w h
    have key : (j, w) ∈ kr_pa ad (k + 1) l → ∃ i v, j = k + i ∧ kr_lg (a :: l) i = some v ∧ w = kr_vv ad v := by
      intro h
      obtain ⟨i, v, h1, h2, h3⟩ := ih (k + 1) j w h
      exact ⟨i + 1, v, by omega, h2, h3⟩
    cases a with
    | none => exact key h
    | some v =>
      rcases List.mem_cons.mp h with h | h
      · cases h
        exact ⟨0, v, rfl, rfl, rfl⟩
      · exact key h
theorem kr_lh.has {ad : Nat → Nat} {n : Nat} {lsA : Array Slot} {ls : kr_L} (h : kr_lh ad n lsA ls) : lv_has lsA n (kr_pa ad 0 ls) := by
  refine ⟨h.1, h.2.1, fun q hq => ?_⟩
  obtain ⟨i, v, h1, h2, h3⟩ := kr_pa_of ad ls 0 q.1 q.2 hq
  rw [h1, h3, Nat.zero_add]
  exact h.2.2 i v h2
theorem kr_lg_ls_s : ∀ (l : kr_L) (i : Nat) (v w : Value), kr_lg (kr_ls l i v) i = some w → w = v := by
  intro l
  induction l with
  | nil => intro i v w h; simp [kr_ls, kr_lg] at h
  | cons a l ih =>
    intro i v w h
    cases i with
    | zero => simp only [kr_ls, kr_lg] at h; exact (Option.some.inj h).symm
    | succ i => exact ih i v w h
theorem kr_lg_ls_n : ∀ (l : kr_L) (i j : Nat) (v : Value), j ≠ i → kr_lg (kr_ls l i v) j = kr_lg l j := by
  intro l
  induction l with
  | nil => intro i j v _; rfl
  | cons a l ih =>
    intro i j v h
    cases i with
    | zero =>
      cases j with
      | zero => exact absurd rfl h
      | succ j => rfl
    | succ i =>
      cases j with
      | zero => rfl
      | succ j => exact ih i j v (fun e => h (by rw [e]))
theorem kr_lg_lc_n : ∀ (l : kr_L) (i j : Nat), j ≠ i → kr_lg (kr_lc l i) j = kr_lg l j := by
  intro l
  induction l with
  | nil => intro i j _; rfl
  | cons a l ih =>
    intro i j h
    cases i with
    | zero =>
      cases j with
      | zero => exact absurd rfl h
      | succ j => rfl
    | succ i =>
      cases j with
      | zero => rfl
      | succ j => exact ih i j (fun e => h (by rw [e]))
theorem kr_lg_lc_s : ∀ (l : kr_L) (i : Nat), kr_lg (kr_lc l i) i = none := by
  intro l
  induction l with
  | nil => intro i; rfl
  | cons a l ih =>
    intro i
    cases i with
    | zero => rfl
    | succ i => exact ih i
theorem kr_nl_cat {l : kr_L} {i j : Nat} {v : Value} (h : kr_nl l i = true) (hj : j + 1 = i) (hv : kr_lg l j = some v) (ad : Nat → Nat) : ((kr_vv ad v).category == 2) = false := by
  subst hj
  rw [kr_vv_cat]
  simp only [kr_nl, hv] at h
  cases v <;> first | rfl | simp at h
theorem kr_lh.st {ad : Nat → Nat} {n i : Nat} {lsA : Array Slot} {ls : kr_L} {v : Value} (h : lv_has lsA n ((i, kr_vv ad v) :: (kr_pa ad 0 ls).filter (fun q => !(q.1 == i) && !(q.1 + 1 == i && q.2.category == 2)))) (hn : kr_nl ls i = true) : kr_lh ad n lsA (kr_ls ls i v) := by
  refine ⟨h.1, h.2.1, fun j w hw => ?_⟩
  by_cases hj : j = i
  · subst hj
    rw [kr_lg_ls_s ls j v w hw]
    exact h.2.2 (j, kr_vv ad v) List.mem_cons_self
  · rw [kr_lg_ls_n ls i j v hj] at hw
    refine h.2.2 (j, kr_vv ad w) (List.mem_cons_of_mem _ (List.mem_filter.mpr ⟨by simpa using kr_pa_in ad ls 0 j w hw, ?_⟩))
    have h1 : (j == i) = false := by simp [hj]
    by_cases h2 : j + 1 = i
    · simp [h1, kr_nl_cat hn h2 hw ad]
    · have h3 : (j + 1 == i) = false := by simp [h2]
      simp [h1, h3]
theorem kr_lh.st2 {ad : Nat → Nat} {n i : Nat} {lsA : Array Slot} {ls : kr_L} {v : Value} (h : lv_has lsA n ((i, kr_vv ad v) :: (kr_pa ad 0 ls).filter (fun q => !(q.1 == i) && (!(q.1 == i + 1) && !(q.1 + 1 == i && q.2.category == 2))))) (hn : kr_nl ls i = true) : kr_lh ad n lsA (kr_lc (kr_ls ls i v) (i + 1)) := by
  refine ⟨h.1, h.2.1, fun j w hw => ?_⟩
  by_cases hk : j = i + 1
  · subst hk
    rw [kr_lg_lc_s] at hw
    cases hw
  rw [kr_lg_lc_n _ _ _ hk] at hw
  by_cases hj : j = i
  · subst hj
    rw [kr_lg_ls_s ls j v w hw]
    exact h.2.2 (j, kr_vv ad v) List.mem_cons_self
  · rw [kr_lg_ls_n ls i j v hj] at hw
    refine h.2.2 (j, kr_vv ad w) (List.mem_cons_of_mem _ (List.mem_filter.mpr ⟨by simpa using kr_pa_in ad ls 0 j w hw, ?_⟩))
    have h1 : (j == i) = false := by simp [hj]
    have h0 : (j == i + 1) = false := by simp [hk]
    by_cases h2 : j + 1 = i
    · simp [h1, h0, kr_nl_cat hn h2 hw ad]
    · have h3 : (j + 1 == i) = false := by simp [h2]
      simp [h1, h0, h3]
theorem kr_lh.lm {ad : Nat → Nat} {n : Nat} {lsA : Array Slot} {ls : kr_L} (b : List Bool) (h : kr_lh ad n lsA ls) : kr_lh ad n lsA (kr_lm b ls) := by
  refine ⟨h.1, h.2.1, fun j w hw => h.2.2 j w ?_⟩
  clear h
  revert ls j
  induction b with
  | nil => intro ls j hw; simp [kr_lm, kr_lg] at hw
  | cons x b ih =>
    intro ls j hw
    cases ls with
    | nil => cases x <;> simp [kr_lm, kr_lg] at hw
    | cons a l =>
      cases x <;> cases j with
      | zero => first | exact hw | simp [kr_lm, kr_lg] at hw
      | succ j => exact ih j hw
theorem kr_lh.get {ad : Nat → Nat} {n i : Nat} {lsA : Array Slot} {ls : kr_L} {v : Value} (h : kr_lh ad n lsA ls) (hv : kr_lg ls i = some v) : lsA[i]? = some (.val (kr_vv ad v)) := h.2.2 i v hv
theorem kr_lh.at {ad : Nat → Nat} {n i : Nat} {lsA : Array Slot} {ls : kr_L} {v : Value} (_ : kr_lh ad n lsA ls) (hv : kr_lg ls i = some v) : ∃ k : Nat, (kr_pa ad 0 ls)[k]? = some (i, kr_vv ad v) := List.getElem?_of_mem (by simpa using kr_pa_in ad ls 0 i v hv)
/-! the world -/
def kr_nfl : List Nat := [4, 8, 10, 18, 3, 3, 2, 8, 3, 12, 45]
def kr_tyl : List (List Nat) := [[2, 2, 0, 0], [2, 0, 0, 0, 0, 0, 0, 2], [2, 2, 0, 0, 0, 1, 0, 0, 0, 0], [0, 0, 0, 2, 2, 2, 2, 0, 0, 2, 0, 2, 2, 2, 3, 0, 2, 0], [2, 2, 2], [2, 2, 2], [2, 0], [2, 2, 2, 2, 2, 2, 2, 2], [2, 2, 2], [2, 2, 2, 2, 2, 2, 2, 2, 2, 2, 0, 0], [2, 2, 0, 0, 0, 2, 2, 0, 0, 0, 2, 1, 0, 2, 0, 0, 0, 0, 0, 0, 0, 2, 2, 2, 2, 2, 2, 2, 0, 0, 2, 2, 2, 0, 0, 0, 0, 0, 0, 0, 2, 2, 2, 2, 0]]
def kr_nf (c : Nat) : Nat := kr_nth 0 kr_nfl c
def kr_ty (c j : Nat) : Nat := kr_nth 0 (kr_nth [] kr_tyl c) j
def kr_val (ad : Nat → Nat) (μ : kr_M) (k c j : Nat) : Value := match kr_ty c j with
  | 2 => .ref (ad (kr_rf k j))
  | 3 => .long (μ.2 k)
  | _ => .int (μ.1 k j)
def kr_fv (ad : Nat → Nat) (μ : kr_M) (k c : Nat) : List Value := (List.range (kr_nf c)).map (kr_val ad μ k c)
def kr_cell (ad : Nat → Nat) (cs : ClassId × ClassId × ClassId) (μ : kr_M) (k : Nat) : va_E := match kr_kd k with
  | (0, c) => .inr (c, kr_fv ad μ k c)
  | (1, n) => .inl (cs.1, n, .inl (μ.1 k))
  | (2, n) => .inl (cs.2.1, n, .inl (μ.1 k))
  | (3, n) => .inl (cs.2.2, n, .inr (.inr (.inr (.inr fun j => some (ad (kr_rf k j))))))
  | _ => .inr (0, [])
def kr_ws (ad : Nat → Nat) (cs : ClassId × ClassId × ClassId) (μ : kr_M) : va_W := (List.range 86).map (fun k => (ad k, kr_cell ad cs μ k))
def kr_tys (cs : ClassId × ClassId × ClassId) : List (ClassId × FieldType) := [(cs.1, .int), (cs.2.1, .boolean), (cs.2.2, .object "ChalkRoads$Rock")]
def kr_inj (ad : Nat → Nat) : Prop := ∀ i j, i < 86 → j < 86 → ad i = ad j → i = j
theorem kr_kd_lt {o : Nat} {a : Nat × Nat} (h : kr_kd o = a) (ha : a ≠ (9, 0)) : o < 86 := by
  have key : ∀ (l : List (Nat × Nat)) (o : Nat), l.length ≤ o → kr_nth (9, 0) l o = (9, 0) := by
    intro l
    induction l with
    | nil => intro o _; rfl
    | cons b l ih =>
      intro o ho
      cases o with
      | zero => simp at ho
      | succ o => exact ih o (by simpa using ho)
  rcases Nat.lt_or_ge o 86 with h1 | h1
  · exact h1
  · exact absurd ((h.symm.trans (key kr_tab o h1))) ha
theorem kr_ws_at {ad : Nat → Nat} {cs : ClassId × ClassId × ClassId} {μ : kr_M} {o : Nat} (h : o < 86) : (kr_ws ad cs μ)[o]? = some (ad o, kr_cell ad cs μ o) := by
  unfold kr_ws
  rw [List.getElem?_map, List.getElem?_range h]
  rfl
theorem kr_ws_c {ad : Nat → Nat} {cs : ClassId × ClassId × ClassId} {μ : kr_M} {o c : Nat} (h : kr_kc o c) : (kr_ws ad cs μ)[o]? = some (ad o, .inr (c, kr_fv ad μ o c)) := by
  rw [kr_ws_at (kr_kd_lt h (by simp))]
  unfold kr_cell
  rw [show kr_kd o = (0, c) from h]
  rfl
theorem kr_ws_a {ad : Nat → Nat} {cs : ClassId × ClassId × ClassId} {μ : kr_M} {o n : Nat} (h : kr_ka o n) : (kr_ws ad cs μ)[o]? = some (ad o, .inl (cs.1, n, .inl (μ.1 o))) := by
  rw [kr_ws_at (kr_kd_lt h (by simp))]
  unfold kr_cell
  rw [show kr_kd o = (1, n) from h]
  rfl
theorem kr_ws_z {ad : Nat → Nat} {cs : ClassId × ClassId × ClassId} {μ : kr_M} {o n : Nat} (h : kr_kz o n) : (kr_ws ad cs μ)[o]? = some (ad o, .inl (cs.2.1, n, .inl (μ.1 o))) := by
  rw [kr_ws_at (kr_kd_lt h (by simp))]
  unfold kr_cell
  rw [show kr_kd o = (2, n) from h]
  rfl
theorem kr_ws_r {ad : Nat → Nat} {cs : ClassId × ClassId × ClassId} {μ : kr_M} {o n : Nat} (h : kr_kr o n) : (kr_ws ad cs μ)[o]? = some (ad o, .inl (cs.2.2, n, .inr (.inr (.inr (.inr fun j => some (ad (kr_rf o j))))))) := by
  rw [kr_ws_at (kr_kd_lt h (by simp))]
  unfold kr_cell
  rw [show kr_kd o = (3, n) from h]
  rfl
theorem kr_fv_at {ad : Nat → Nat} {μ : kr_M} {o c k : Nat} (h : k < kr_nf c) : (kr_fv ad μ o c)[k]? = some (kr_val ad μ o c k) := by
  unfold kr_fv
  rw [List.getElem?_map, List.getElem?_range h]
  rfl
theorem kr_fv_len {ad : Nat → Nat} {μ : kr_M} {o c : Nat} : (kr_fv ad μ o c).length = kr_nf c := by simp [kr_fv]
/-- one cell changed -/
theorem kr_ws_set {ad : Nat → Nat} {cs : ClassId × ClassId × ClassId} {μ μ' : kr_M} {o : Nat} {E : va_E} (ho : o < 86) (h1 : ∀ k, k ≠ o → kr_cell ad cs μ' k = kr_cell ad cs μ k) (h2 : kr_cell ad cs μ' o = E) : (kr_ws ad cs μ).set o (ad o, E) = kr_ws ad cs μ' := by
  apply List.ext_getElem?
  intro k
  rcases Nat.lt_or_ge k 86 with hk | hk
  · rw [kr_ws_at hk, List.getElem?_set]
    by_cases e : o = k
    · subst e
      rw [if_pos rfl, if_pos (by simpa [kr_ws] using ho), h2]
    · rw [if_neg e, kr_ws_at hk, h1 k (Ne.symm e)]
  · rw [List.getElem?_eq_none (by simpa [kr_ws] using hk), List.getElem?_eq_none (by simpa [kr_ws] using hk)]
theorem kr_cell_eq {ad : Nat → Nat} {cs : ClassId × ClassId × ClassId} {μ μ' : kr_M} {k : Nat} (h1 : μ'.1 k = μ.1 k) (h2 : μ'.2 k = μ.2 k) : kr_cell ad cs μ' k = kr_cell ad cs μ k := by
  unfold kr_cell kr_fv kr_val
  rw [h1, h2]
theorem kr_ws_ur {ad : Nat → Nat} {cs : ClassId × ClassId × ClassId} {μ : kr_M} {o n : Nat} {f : Nat → Int32} (h : kr_ka o n) : (kr_ws ad cs μ).set o (ad o, .inl (cs.1, n, .inl f)) = kr_ws ad cs (kr_ur μ o f) := by
  refine kr_ws_set (kr_kd_lt h (by simp)) (fun k hk => kr_cell_eq (kr_ur_n μ f hk) rfl) ?_
  unfold kr_cell
  rw [show kr_kd o = (1, n) from h]
  show (Sum.inl (cs.1, n, .inl ((kr_ur μ o f).1 o)) : va_E) = _
  rw [kr_ur_s]
theorem kr_ws_uz {ad : Nat → Nat} {cs : ClassId × ClassId × ClassId} {μ : kr_M} {o n : Nat} {f : Nat → Int32} (h : kr_kz o n) : (kr_ws ad cs μ).set o (ad o, .inl (cs.2.1, n, .inl f)) = kr_ws ad cs (kr_ur μ o f) := by
  refine kr_ws_set (kr_kd_lt h (by simp)) (fun k hk => kr_cell_eq (kr_ur_n μ f hk) rfl) ?_
  unfold kr_cell
  rw [show kr_kd o = (2, n) from h]
  show (Sum.inl (cs.2.1, n, .inl ((kr_ur μ o f).1 o)) : va_E) = _
  rw [kr_ur_s]
theorem kr_ws_uc {ad : Nat → Nat} {cs : ClassId × ClassId × ClassId} {μ : kr_M} {o c k : Nat} {v : Int32} (h : kr_kc o c) (hk : k < kr_nf c) (ht : kr_ty c k = 0 ∨ kr_ty c k = 1) : (kr_ws ad cs μ).set o (ad o, .inr (c, (kr_fv ad μ o c).set k (.int v))) = kr_ws ad cs (kr_u μ o k v) := by
  refine kr_ws_set (kr_kd_lt h (by simp)) (fun j hj => kr_cell_eq (kr_u_n μ k v hj) rfl) ?_
  unfold kr_cell
  rw [show kr_kd o = (0, c) from h]
  show (Sum.inr (c, kr_fv ad (kr_u μ o k v) o c) : va_E) = _
  refine congrArg Sum.inr (congrArg (Prod.mk c) ?_)
  apply List.ext_getElem?
  intro j
  rcases Nat.lt_or_ge j (kr_nf c) with hj | hj
  · rw [kr_fv_at hj, List.getElem?_set, kr_fv_at hj, kr_fv_len]
    by_cases e : k = j
    · subst e
      rw [if_pos rfl, if_pos hk]
      unfold kr_val
      rw [kr_u_s]
      rcases ht with ht | ht <;> rw [ht] <;> simp [upd]
    · rw [if_neg e]
      unfold kr_val
      rw [kr_u_s, kr_u_2]
      simp [upd, Ne.symm e]
  · rw [List.getElem?_eq_none (by rw [kr_fv_len]; exact hj), List.getElem?_eq_none (by rw [List.length_set, kr_fv_len]; exact hj)]
theorem kr_ws_uL {ad : Nat → Nat} {cs : ClassId × ClassId × ClassId} {μ : kr_M} {o c k : Nat} {v : Int64} (h : kr_kc o c) (hk : k < kr_nf c) (ht : kr_ty c k = 3) (h1 : ∀ j, kr_ty c j = 3 → j = k) : (kr_ws ad cs μ).set o (ad o, .inr (c, (kr_fv ad μ o c).set k (.long v))) = kr_ws ad cs (kr_uL μ o v) := by
  refine kr_ws_set (kr_kd_lt h (by simp)) (fun j hj => kr_cell_eq rfl (kr_uL_n μ v hj)) ?_
  unfold kr_cell
  rw [show kr_kd o = (0, c) from h]
  show (Sum.inr (c, kr_fv ad (kr_uL μ o v) o c) : va_E) = _
  refine congrArg Sum.inr (congrArg (Prod.mk c) ?_)
  apply List.ext_getElem?
  intro j
  rcases Nat.lt_or_ge j (kr_nf c) with hj | hj
  · rw [kr_fv_at hj, List.getElem?_set, kr_fv_at hj, kr_fv_len]
    by_cases e : k = j
    · subst e
      rw [if_pos rfl, if_pos hk]
      unfold kr_val
      rw [ht, kr_uL_s]
      rfl
    · rw [if_neg e]
      unfold kr_val
      have h2 : kr_ty c j ≠ 3 := fun z => e (h1 j z).symm
      rw [kr_uL_1]
      split <;> first | rfl | (rename_i z; exact absurd z h2)
  · rw [List.getElem?_eq_none (by rw [kr_fv_len]; exact hj), List.getElem?_eq_none (by rw [List.length_set, kr_fv_len]; exact hj)]
theorem kr_ws_D {ad : Nat → Nat} {cs : ClassId × ClassId × ClassId} {μ : kr_M} {A : Nat → Prop} (hi : kr_inj ad) (hA : ∀ k, k < 86 → A (ad k)) : va_D A (kr_ws ad cs μ) := by
  have key : ∀ (k : Nat) (q : Nat × va_E), (kr_ws ad cs μ)[k]? = some q → k < 86 ∧ q.1 = ad k := by
    intro k q h
    rcases Nat.lt_or_ge k 86 with hk | hk
    · rw [kr_ws_at hk] at h
      cases h
      exact ⟨hk, rfl⟩
    · rw [List.getElem?_eq_none (by simpa [kr_ws] using hk)] at h
      cases h
  refine ⟨fun i j p q h1 h2 h3 => ?_, fun k q h => ?_⟩
  · obtain ⟨a1, a2⟩ := key i p h1
    obtain ⟨b1, b2⟩ := key j q h2
    exact hi i j a1 b1 (by rw [← a2, ← b2, h3])
  · obtain ⟨a1, a2⟩ := key k q h
    rw [a2]
    exact hA k a1
