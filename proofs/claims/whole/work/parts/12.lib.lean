/-! numbers and bits -/
theorem kr_sl5 : ∀ n, n < 32 → ((nI n &&& 31).toBitVec.smod 32).toNat = n := by decide
theorem kr_1sh : ∀ l, l < 31 → (1 : Int32) <<< (nI l &&& 31) = nI (2 ^ l) := by decide
theorem kr_tbv (n : Nat) : (nI n).toBitVec = BitVec.ofNat 32 n := rfl
theorem kr_or (a b : Nat) : nI a ||| nI b = nI (a ||| b) := by
  apply Int32.toBitVec_inj.mp
  rw [Int32.toBitVec_or, kr_tbv, kr_tbv, kr_tbv]
  apply BitVec.eq_of_getLsbD_eq
  intro i hi
  simp [BitVec.getLsbD_ofNat, Nat.testBit_or]
theorem kr_and (a b : Nat) : nI a &&& nI b = nI (a &&& b) := by
  apply Int32.toBitVec_inj.mp
  rw [Int32.toBitVec_and, kr_tbv, kr_tbv, kr_tbv]
  apply BitVec.eq_of_getLsbD_eq
  intro i hi
  simp [BitVec.getLsbD_ofNat, Nat.testBit_and]
theorem kr_shr {n i : Nat} (h : n < 2 ^ 31) (hi : i < 31) : nI n >>> (nI i &&& 31) = nI (n / 2 ^ i) := pk_shrN h _ i (kr_sl5 i (by omega))
theorem kr_bit {n i : Nat} (h : n < 2 ^ 31) (hi : i < 31) : (nI n >>> (nI i &&& 31)) &&& 1 = nI ((n.testBit i).toNat) := by
  rw [kr_shr h hi, show (1 : Int32) = nI 1 from rfl, kr_and]
  congr 1
  rw [Nat.testBit_eq_decide_div_mod_eq, Nat.and_one_is_mod]
  rcases Nat.mod_two_eq_zero_or_one (n / 2 ^ i) with h | h <;> rw [h] <;> rfl
theorem kr_bit0 {n i : Nat} (h : n < 2 ^ 31) (hi : i < 31) : (nI n >>> (nI i &&& 31)) &&& 1 = 0 ↔ n.testBit i = false := by
  rw [kr_bit h hi]
  cases n.testBit i <;> decide
theorem kr_bit1 {n i : Nat} (h : n < 2 ^ 31) (hi : i < 31) : (nI n >>> (nI i &&& 31)) &&& 1 = 1 ↔ n.testBit i = true := by
  rw [kr_bit h hi]
  cases n.testBit i <;> decide
theorem kr_all1 : ∀ n, n ≤ 12 → ((1 : Int32) <<< (nI n &&& 31)) - 1 = nI (2 ^ n - 1) := by decide
/-- the places below n where P holds, as bits -/
def kr_bm : Nat → (Nat → Bool) → Nat
  | 0, _ => 0
  | n + 1, P => kr_bm n P ||| (if P n then 2 ^ n else 0)
theorem kr_bm_bit (P : Nat → Bool) : ∀ n i, (kr_bm n P).testBit i = (decide (i < n) && P i) := by
  intro n
  induction n with
  | zero => intro i; simp [kr_bm]
  | succ n ih =>
    intro i
    unfold kr_bm
    rw [Nat.testBit_or, ih]
    by_cases e : i = n
    · subst e
      cases hp : P i <;> simp [Nat.testBit_two_pow_self]
    · have e2 : decide (i < n + 1) = decide (i < n) := by congr 1; exact propext ⟨fun _ => by omega, fun _ => by omega⟩
      rw [e2]
      have e3 : (if P n = true then 2 ^ n else 0).testBit i = false := by
        split
        · rw [Nat.testBit_two_pow]; simp; omega
        · simp
      rw [e3, Bool.or_false]
theorem kr_bm_lt (P : Nat → Bool) (n : Nat) : kr_bm n P < 2 ^ n := by
  apply Nat.lt_pow_two_of_testBit
  intro i hi
  rw [kr_bm_bit]
  simp; omega
theorem kr_lt_bit {a n i : Nat} (h : a < 2 ^ n) (hi : n ≤ i) : a.testBit i = false := Nat.testBit_lt_two_pow (Nat.lt_of_lt_of_le h (Nat.pow_le_pow_right (by decide) hi))
theorem kr_bm_congr {P P' : Nat → Bool} {n : Nat} (h : ∀ i, i < n → P i = P' i) : kr_bm n P = kr_bm n P' := by
  apply Nat.eq_of_testBit_eq
  intro i
  rw [kr_bm_bit, kr_bm_bit]
  by_cases e : i < n
  · rw [h i e]
  · simp [e]
theorem kr_bm_self {a n : Nat} (h : a < 2 ^ n) : kr_bm n a.testBit = a := by
  apply Nat.eq_of_testBit_eq
  intro i
  rw [kr_bm_bit]
  by_cases e : i < n
  · simp [e]
  · rw [kr_lt_bit h (by omega)]; simp
theorem kr_bm_or {P : Nat → Bool} {n : Nat} (hn : n < 31) : (nI (kr_bm n P) ||| ((1 : Int32) <<< (nI n &&& 31))) = nI (kr_bm n P ||| 2 ^ n) := by rw [kr_1sh n hn, kr_or]
/-- a without place l -/
def kr_cl (a l : Nat) : Nat := kr_bm 31 (fun i => a.testBit i && !(i == l))
theorem kr_cl_bit {a l i : Nat} (h : a < 2 ^ 31) : (kr_cl a l).testBit i = (a.testBit i && !(i == l)) := by
  unfold kr_cl
  rw [kr_bm_bit]
  by_cases e : i < 31
  · simp [e]
  · rw [kr_lt_bit h (by omega)]; simp
theorem kr_cl_le {a l : Nat} (h : a < 2 ^ 31) : kr_cl a l ≤ a := by
  apply Nat.le_of_testBit
  intro i hi
  rw [kr_cl_bit h] at hi
  simp at hi
  exact hi.1
theorem kr_not (b : Nat) (i : Nat) (hi : i < 32) : ((nI b) ^^^ (-1)).toBitVec.getLsbD i = !b.testBit i := by
  rw [Int32.toBitVec_xor, kr_tbv, BitVec.getLsbD_xor, BitVec.getLsbD_ofNat]
  have h1 : ∀ i, i < 32 → ((-1 : Int32).toBitVec).getLsbD i = true := by decide
  rw [h1 i hi]
  simp [hi]
theorem kr_andn (a b : Nat) (h : a < 2 ^ 31) : nI a &&& (nI b ^^^ (-1)) = nI (kr_bm 31 (fun i => a.testBit i && !b.testBit i)) := by
  apply Int32.toBitVec_inj.mp
  apply BitVec.eq_of_getLsbD_eq
  intro i hi
  rw [Int32.toBitVec_and, BitVec.getLsbD_and, kr_not b i hi, kr_tbv, kr_tbv, BitVec.getLsbD_ofNat, BitVec.getLsbD_ofNat, kr_bm_bit]
  by_cases e : i < 31
  · simp [e, hi]
  · rw [kr_lt_bit h (by omega)]; simp
theorem kr_andc {a l : Nat} (h : a < 2 ^ 31) (hl : l < 31) : nI a &&& (((1 : Int32) <<< (nI l &&& 31)) ^^^ (-1)) = nI (kr_cl a l) := by
  rw [kr_1sh l hl, kr_andn a _ h]
  congr 1
  unfold kr_cl
  apply kr_bm_congr
  intro i hi
  rw [Nat.testBit_two_pow]
  congr 2
  by_cases e : l = i
  · simp [e]
  · have : ¬ i = l := fun z => e z.symm
    simp [e, this]
/-- the least place of h, below n; n if there is none -/
def kr_fb (h : Nat) : Nat → Nat → Nat
  | 0, i => i
  | n + 1, i => if h.testBit i then i else kr_fb h n (i + 1)
theorem kr_fb_le (h : Nat) : ∀ n i, i ≤ kr_fb h n i ∧ kr_fb h n i ≤ i + n := by
  intro n
  induction n with
  | zero => intro i; exact ⟨Nat.le_refl _, Nat.le_refl _⟩
  | succ n ih =>
    intro i
    unfold kr_fb
    split
    · omega
    · have := ih (i + 1); omega
theorem kr_fb_no (h : Nat) : ∀ n i j, i ≤ j → j < kr_fb h n i → h.testBit j = false := by
  intro n
  induction n with
  | zero => intro i j h1 h2; unfold kr_fb at h2; omega
  | succ n ih =>
    intro i j h1 h2
    unfold kr_fb at h2
    split at h2
    · omega
    · rename_i hb
      by_cases e : j = i
      · rw [e]; simpa using hb
      · exact ih (i + 1) j (by omega) h2
theorem kr_fb_yes (h : Nat) : ∀ n i, kr_fb h n i < i + n → h.testBit (kr_fb h n i) = true := by
  intro n
  induction n with
  | zero => intro i h1; unfold kr_fb at h1; omega
  | succ n ih =>
    intro i h1
    unfold kr_fb at h1 ⊢
    split
    · assumption
    · rename_i hb
      rw [if_neg hb] at h1
      exact ih (i + 1) (by omega)
/-- the fewest points of a number: how many places below 12 -/
def kr_ones : Nat → Nat → Nat
  | 0, _ => 0
  | n + 1, a => kr_ones n a + (a.testBit n).toNat
theorem kr_ones_le (a : Nat) : ∀ n, kr_ones n a ≤ n := by
  intro n
  induction n with
  | zero => exact Nat.le_refl _
  | succ n ih => unfold kr_ones; cases a.testBit n <;> simp <;> omega
/-! what may have changed: whole rows W, single places F -/
def kr_keep (W : List Nat) (F : List (Nat × Nat)) (μ μ' : kr_M) : Prop := μ'.2 = μ.2 ∧ ∀ o k, o ∉ W → (o, k) ∉ F → μ'.1 o k = μ.1 o k
theorem kr_keep.rf {W : List Nat} {F : List (Nat × Nat)} {μ : kr_M} : kr_keep W F μ μ := ⟨rfl, fun _ _ _ _ => rfl⟩
theorem kr_keep.tr {W : List Nat} {F : List (Nat × Nat)} {μ μ' μ'' : kr_M} (h : kr_keep W F μ μ') (h' : kr_keep W F μ' μ'') : kr_keep W F μ μ'' := ⟨h'.1.trans h.1, fun o k a b => (h'.2 o k a b).trans (h.2 o k a b)⟩
theorem kr_keep.wk {W W' : List Nat} {F F' : List (Nat × Nat)} {μ μ' : kr_M} (h : kr_keep W F μ μ') (hW : ∀ o, o ∈ W → o ∈ W') (hF : ∀ q, q ∈ F → q ∈ F') : kr_keep W' F' μ μ' := ⟨h.1, fun o k a b => h.2 o k (fun z => a (hW o z)) (fun z => b (hF _ z))⟩
theorem kr_keep.ur {W : List Nat} {F : List (Nat × Nat)} {μ μ' : kr_M} (h : kr_keep W F μ μ') {o : Nat} (f : Nat → Int32) (ho : o ∈ W) : kr_keep W F μ (kr_ur μ' o f) := ⟨h.1, fun a k h1 h2 => by rw [kr_ur_n μ' f (fun e => h1 (by rw [e]; exact ho))]; exact h.2 a k h1 h2⟩
theorem kr_keep.u {W : List Nat} {F : List (Nat × Nat)} {μ μ' : kr_M} (h : kr_keep W F μ μ') {o : Nat} (j : Nat) (v : Int32) (ho : o ∈ W) : kr_keep W F μ (kr_u μ' o j v) := h.ur _ ho
theorem kr_keep.f {W : List Nat} {F : List (Nat × Nat)} {μ μ' : kr_M} (h : kr_keep W F μ μ') {o j : Nat} (v : Int32) (ho : (o, j) ∈ F) : kr_keep W F μ (kr_u μ' o j v) := ⟨h.1, fun a k h1 h2 => by
  by_cases e : a = o
  · subst e
    rw [kr_u_s]
    unfold upd
    rw [if_neg (fun z => h2 (by rw [z]; exact ho))]
    exact h.2 a k h1 h2
  · rw [kr_u_n μ' j v e]
    exact h.2 a k h1 h2⟩
theorem kr_keep.row {W : List Nat} {F : List (Nat × Nat)} {μ μ' : kr_M} (h : kr_keep W F μ μ') {o : Nat} (ho : o ∉ W) (hF : ∀ q ∈ F, q.1 ≠ o) : μ'.1 o = μ.1 o := funext fun k => h.2 o k ho (fun z => hF _ z rfl)
theorem kr_upd_s (f : Nat → Int32) (j : Nat) (v : Int32) : upd f j v j = v := if_pos rfl
theorem kr_upd_n (f : Nat → Int32) {j k : Nat} (v : Int32) (h : k ≠ j) : upd f j v k = f k := if_neg h
/-! the reference's row st as numbers -/
def kr_Mg (μ : kr_M) (g : Nat → Nat) : Prop := ∀ j, j < 375 → μ.1 66 j = nI (g j)
/-- of a line: 0, 1 its points, 2 yards, 3 strength, 4 roof -/
def kr_gk (g : Nat → Nat) (l w : Nat) : Nat := g (1 + 5 * l + w)
theorem kr_ofi (l w : Nat) : (1 + 5 * nI l : Int32) + nI w = nI (1 + 5 * l + w) := by
  rw [show (1 : Int32) = nI 1 from rfl, show (5 : Int32) = nI 5 from rfl, pk_mul, nI_add, nI_add]
theorem kr_ofv {l w : Nat} (hl : l < 12) (hw : w < 5) : vp_in ((1 + 5 * nI l : Int32) + nI w) 375 := by rw [kr_ofi]; exact vp_in_nI (by omega) (by decide)
theorem kr_ofg {μ : kr_M} {g : Nat → Nat} (h : kr_Mg μ g) {l w : Nat} (hl : l < 12) (hw : w < 5) : μ.1 66 ((1 + 5 * nI l : Int32) + nI w).toNatClampNeg = nI (kr_gk g l w) := by
  rw [kr_ofi, nI_clamp (by omega)]
  exact h _ (by omega)
theorem kr_ofv0 {l : Nat} (hl : l < 12) : vp_in ((1 + 5 * nI l : Int32) + 0) 375 := kr_ofv (w := 0) hl (by decide)
theorem kr_ofg0 {μ : kr_M} {g : Nat → Nat} (h : kr_Mg μ g) {l : Nat} (hl : l < 12) : μ.1 66 ((1 + 5 * nI l : Int32) + 0).toNatClampNeg = nI (kr_gk g l 0) := kr_ofg (w := 0) h hl (by decide)
theorem kr_ofv1 {l : Nat} (hl : l < 12) : vp_in ((1 + 5 * nI l : Int32) + 1) 375 := kr_ofv (w := 1) hl (by decide)
theorem kr_ofg1 {μ : kr_M} {g : Nat → Nat} (h : kr_Mg μ g) {l : Nat} (hl : l < 12) : μ.1 66 ((1 + 5 * nI l : Int32) + 1).toNatClampNeg = nI (kr_gk g l 1) := kr_ofg (w := 1) h hl (by decide)
theorem kr_ofv2 {l : Nat} (hl : l < 12) : vp_in ((1 + 5 * nI l : Int32) + 2) 375 := kr_ofv (w := 2) hl (by decide)
theorem kr_ofg2 {μ : kr_M} {g : Nat → Nat} (h : kr_Mg μ g) {l : Nat} (hl : l < 12) : μ.1 66 ((1 + 5 * nI l : Int32) + 2).toNatClampNeg = nI (kr_gk g l 2) := kr_ofg (w := 2) h hl (by decide)
theorem kr_ofv3 {l : Nat} (hl : l < 12) : vp_in ((1 + 5 * nI l : Int32) + 3) 375 := kr_ofv (w := 3) hl (by decide)
theorem kr_ofg3 {μ : kr_M} {g : Nat → Nat} (h : kr_Mg μ g) {l : Nat} (hl : l < 12) : μ.1 66 ((1 + 5 * nI l : Int32) + 3).toNatClampNeg = nI (kr_gk g l 3) := kr_ofg (w := 3) h hl (by decide)
theorem kr_ofv4 {l : Nat} (hl : l < 12) : vp_in ((1 + 5 * nI l : Int32) + 4) 375 := kr_ofv (w := 4) hl (by decide)
theorem kr_ofg4 {μ : kr_M} {g : Nat → Nat} (h : kr_Mg μ g) {l : Nat} (hl : l < 12) : μ.1 66 ((1 + 5 * nI l : Int32) + 4).toNatClampNeg = nI (kr_gk g l 4) := kr_ofg (w := 4) h hl (by decide)
/-- what is told, as it may be: P points, D drawers, K people with t -/
def kr_wf (g : Nat → Nat) (P D K : Nat) (t : Nat → Nat) : Prop :=
  (g 0 ≤ 12 ∧ 2 ≤ P ∧ P ≤ 9 ∧ D ≤ 5 ∧ K ≤ 5) ∧
  (∀ l, l < g 0 → kr_gk g l 0 < P ∧ kr_gk g l 1 < P ∧ kr_gk g l 0 ≠ kr_gk g l 1 ∧ 1 ≤ kr_gk g l 2 ∧ kr_gk g l 2 ≤ 9 ∧ kr_gk g l 3 ≤ 9 ∧ kr_gk g l 4 ≤ 1) ∧
  g 61 < 2 ^ P ∧ (∀ d, d < D → g (62 + d) ≤ 50) ∧
  (∀ p, p < K → t (3 * p) < P ∧ t (3 * p + 1) < P ∧ t (3 * p) ≠ t (3 * p + 1) ∧ t (3 * p + 2) ≤ 40) ∧
  (∀ q, q < 41 → g (67 + q) ≤ 1) ∧ g 108 ≤ 8 ∧ ∀ h, h < g 108 → 1 ≤ g (109 + 2 * h) ∧ g (109 + 2 * h) < 4096 ∧ g (110 + 2 * h) ≤ 1
/-- the rows of a Rock at o hold the same -/
def kr_Rg (μ : kr_M) (o : Nat) (g : Nat → Nat) (P D K : Nat) (t : Nat → Nat) : Prop :=
  (μ.1 o 0 = nI P ∧ μ.1 o 1 = nI (g 61) ∧ μ.1 o 2 = nI (g 0) ∧ μ.1 o 8 = nI D ∧ μ.1 o 10 = nI K ∧ μ.1 o 15 = nI (g 108)) ∧
  (∀ l, l < g 0 → μ.1 (o + 1) l = nI (kr_gk g l 0) ∧ μ.1 (o + 2) l = nI (kr_gk g l 1) ∧ μ.1 (o + 3) l = nI (kr_gk g l 2) ∧ μ.1 (o + 4) l = nI (kr_gk g l 3)) ∧
  μ.1 o 7 = nI (kr_bm (g 0) (fun l => kr_gk g l 4 == 1)) ∧ (∀ d, d < D → μ.1 (o + 5) d = nI (g (62 + d))) ∧
  (∀ p, p < K → μ.1 (o + 6) p = nI (t (3 * p)) ∧ μ.1 (o + 7) p = nI (t (3 * p + 1)) ∧ μ.1 (o + 8) p = nI (t (3 * p + 2))) ∧
  μ.2 o = lN (kr_bm 41 (fun q => decide (1 ≤ q) && g (67 + q) == 1)) ∧
  (∀ h, h < g 108 → μ.1 (o + 9) h = nI (g (109 + 2 * h))) ∧ ∃ c, c < 256 ∧ μ.1 o 17 = nI c ∧ ∀ h, h < g 108 → c.testBit h = (g (110 + 2 * h) == 1)
