/-! the text as a pure reading; the Rock that is told -/
theorem v_R_setHouse14 {d : Nat} {Q : kr_Q} {μ : kr_M} {a1 : Int32} {a2 : Int32} (h : ((a2 = 0 → Q none (kr_u μ 14 1 ((μ.1 14 1) &&& (((1 : Int32) <<< (a1 &&& 31)) ^^^ (-1 : Int32))))) ∧ (¬ (a2 = 0) → Q none (kr_u μ 14 1 ((μ.1 14 1) ||| ((1 : Int32) <<< (a1 &&& 31))))))) : kr_c (d + 1) i_R_setHouse [.ref 14, .int a1, .int a2] μ Q := ⟨rfl, (st_R_setHouse (st_R_setHouse (st_R_setHouse (And.intro (fun z1x => (st_R_setHouse (st_R_setHouse (And.intro rfl (st_R_setHouse (st_R_setHouse (st_R_setHouse (st_R_setHouse (st_R_setHouse (st_R_setHouse (st_R_setHouse (And.intro rfl (st_R_setHouse (h.1 z1x)))))))))))))) (fun z1x => (st_R_setHouse (st_R_setHouse (And.intro rfl (st_R_setHouse (st_R_setHouse (st_R_setHouse (st_R_setHouse (st_R_setHouse (st_R_setHouse (And.intro rfl (st_R_setHouse (h.2 z1x)))))))))))))))))⟩
theorem v_R_addLine14 {d : Nat} {Q : kr_Q} {μ : kr_M} {a1 : Int32} {a2 : Int32} {a3 : Int32} {a4 : Int32} (h : (((μ.1 14 2) < 12 → vp_in (μ.1 14 2) 12 ∧ vp_in (μ.1 14 2) 12 ∧ vp_in (μ.1 14 2) 12 ∧ vp_in (μ.1 14 2) 12 ∧ Q (some (.int (((μ.1 14 2) + (1 : Int32)) - (1 : Int32)))) (kr_u (kr_u (kr_u (kr_u (kr_u μ 15 ((μ.1 14 2).toNatClampNeg) a1) 16 ((μ.1 14 2).toNatClampNeg) a2) 17 ((μ.1 14 2).toNatClampNeg) a3) 18 ((μ.1 14 2).toNatClampNeg) a4) 14 2 ((μ.1 14 2) + (1 : Int32)))) ∧ (¬ ((μ.1 14 2) < 12) → Q (some (.int (-3))) μ))) : kr_c (d + 1) i_R_addLine [.ref 14, .int a1, .int a2, .int a3, .int a4] μ Q := ⟨rfl, (st_R_addLine (st_R_addLine (And.intro rfl (st_R_addLine (st_R_addLine (And.intro (fun z1x => (st_R_addLine (st_R_addLine (And.intro rfl (st_R_addLine (st_R_addLine (And.intro rfl (st_R_addLine (st_R_addLine (And.intro ⟨12, rfl, (h.1 z1x).1⟩ (st_R_addLine (st_R_addLine (And.intro rfl (st_R_addLine (st_R_addLine (And.intro rfl (st_R_addLine (st_R_addLine (And.intro ⟨12, rfl, (h.1 z1x).2.1⟩ (st_R_addLine (st_R_addLine (And.intro rfl (st_R_addLine (st_R_addLine (And.intro rfl (st_R_addLine (st_R_addLine (And.intro ⟨12, rfl, (h.1 z1x).2.2.1⟩ (st_R_addLine (st_R_addLine (And.intro rfl (st_R_addLine (st_R_addLine (And.intro rfl (st_R_addLine (st_R_addLine (And.intro ⟨12, rfl, (h.1 z1x).2.2.2.1⟩ (st_R_addLine (st_R_addLine (st_R_addLine (And.intro rfl (st_R_addLine (st_R_addLine (st_R_addLine (And.intro rfl (st_R_addLine (st_R_addLine (And.intro rfl (st_R_addLine (st_R_addLine (st_R_addLine (h.1 z1x).2.2.2.2))))))))))))))))))))))))))))))))))))))))))))))))))) (fun z1x => (st_R_addLine (st_R_addLine (h.2 z1x))))))))))⟩
theorem st_R_addDrawer {d : Nat} {Q : kr_Q} {pc : Nat} {ls : kr_L} {st : List Value} {μ : kr_M} (h : C_R_addDrawer pc (kr_Wp C_R_addDrawer (kr_c d) Q) (kr_c d) Q ls st μ) : kr_Wp C_R_addDrawer (kr_c d) Q pc ls st μ := kr_Wp.step (fun pc => (kr_ok_R_addDrawer pc).2) (kr_c_om d) h
theorem v_R_addDrawer14 {d : Nat} {Q : kr_Q} {μ : kr_M} {a1 : Int32} (h : (((5 : Int32) ≤ (μ.1 14 8) → Q none μ) ∧ (¬ ((5 : Int32) ≤ (μ.1 14 8)) → vp_in (μ.1 14 8) 5 ∧ Q none (kr_u (kr_u μ 19 ((μ.1 14 8).toNatClampNeg) a1) 14 8 ((μ.1 14 8) + (1 : Int32)))))) : kr_c (d + 1) i_R_addDrawer [.ref 14, .int a1] μ Q := ⟨rfl, (st_R_addDrawer (st_R_addDrawer (And.intro rfl (st_R_addDrawer (st_R_addDrawer (And.intro (fun z1x => (st_R_addDrawer (h.1 z1x))) (fun z1x => (st_R_addDrawer (st_R_addDrawer (And.intro rfl (st_R_addDrawer (st_R_addDrawer (And.intro rfl (st_R_addDrawer (st_R_addDrawer (And.intro ⟨5, rfl, (h.2 z1x).1⟩ (st_R_addDrawer (st_R_addDrawer (st_R_addDrawer (And.intro rfl (st_R_addDrawer (st_R_addDrawer (st_R_addDrawer (And.intro rfl (st_R_addDrawer (h.2 z1x).2)))))))))))))))))))))))))⟩
theorem st_R_addOne {d : Nat} {Q : kr_Q} {pc : Nat} {ls : kr_L} {st : List Value} {μ : kr_M} (h : C_R_addOne pc (kr_Wp C_R_addOne (kr_c d) Q) (kr_c d) Q ls st μ) : kr_Wp C_R_addOne (kr_c d) Q pc ls st μ := kr_Wp.step (fun pc => (kr_ok_R_addOne pc).2) (kr_c_om d) h
theorem v_R_addOne14 {d : Nat} {Q : kr_Q} {μ : kr_M} {a1 : Int32} {a2 : Int32} {a3 : Int32} (h : (((5 : Int32) ≤ (μ.1 14 10) → Q none μ) ∧ (¬ ((5 : Int32) ≤ (μ.1 14 10)) → vp_in (μ.1 14 10) 5 ∧ vp_in (μ.1 14 10) 5 ∧ vp_in (μ.1 14 10) 5 ∧ Q none (kr_u (kr_u (kr_u (kr_u μ 20 ((μ.1 14 10).toNatClampNeg) a1) 21 ((μ.1 14 10).toNatClampNeg) a2) 22 ((μ.1 14 10).toNatClampNeg) a3) 14 10 ((μ.1 14 10) + (1 : Int32)))))) : kr_c (d + 1) i_R_addOne [.ref 14, .int a1, .int a2, .int a3] μ Q := ⟨rfl, (st_R_addOne (st_R_addOne (And.intro rfl (st_R_addOne (st_R_addOne (And.intro (fun z1x => (st_R_addOne (h.1 z1x))) (fun z1x => (st_R_addOne (st_R_addOne (And.intro rfl (st_R_addOne (st_R_addOne (And.intro rfl (st_R_addOne (st_R_addOne (And.intro ⟨5, rfl, (h.2 z1x).1⟩ (st_R_addOne (st_R_addOne (And.intro rfl (st_R_addOne (st_R_addOne (And.intro rfl (st_R_addOne (st_R_addOne (And.intro ⟨5, rfl, (h.2 z1x).2.1⟩ (st_R_addOne (st_R_addOne (And.intro rfl (st_R_addOne (st_R_addOne (And.intro rfl (st_R_addOne (st_R_addOne (And.intro ⟨5, rfl, (h.2 z1x).2.2.1⟩ (st_R_addOne (st_R_addOne (st_R_addOne (And.intro rfl (st_R_addOne (st_R_addOne (st_R_addOne (And.intro rfl (st_R_addOne (h.2 z1x).2.2.2)))))))))))))))))))))))))))))))))))))))))))⟩
theorem v_R_rainsIn14 {d : Nat} {Q : kr_Q} {μ : kr_M} {a1 : Int32} (h : ((¬ ((1 : Int32) ≤ a1 ∧ a1 ≤ 40) → Q (some (.int 0)) μ) ∧ ((1 : Int32) ≤ a1 ∧ a1 ≤ 40 → (((lg_cmp (((μ.2 14) >>> (a1.toInt64 &&& 63)) &&& (1 : Int64)) (0 : Int64)) = 0 → Q (some (.int 0)) μ) ∧ (¬ ((lg_cmp (((μ.2 14) >>> (a1.toInt64 &&& 63)) &&& (1 : Int64)) (0 : Int64)) = 0) → Q (some (.int 1)) μ))))) : kr_c (d + 2) i_R_rainsIn [.ref 14, .int a1] μ Q := ⟨rfl, (st_R_rainsIn (st_R_rainsIn (c_C_isRainQuarter (st_R_rainsIn (And.intro (fun z1x => (st_R_rainsIn (st_R_rainsIn (And.intro (by decide) (h.1 (kr_b0 z1x)))))) (fun z1x => (st_R_rainsIn (st_R_rainsIn (And.intro rfl (st_R_rainsIn (st_R_rainsIn (st_R_rainsIn (st_R_rainsIn (st_R_rainsIn (st_R_rainsIn (st_R_rainsIn (And.intro (fun z2x => (st_R_rainsIn (st_R_rainsIn (And.intro (by decide) ((h.2 (kr_b1 z1x)).1 z2x))))) (fun z2x => (st_R_rainsIn (st_R_rainsIn (st_R_rainsIn (And.intro (by decide) ((h.2 (kr_b1 z1x)).2 z2x)))))))))))))))))))))))⟩
theorem v_R_setRain14 {d : Nat} {Q : kr_Q} {μ : kr_M} {a1 : Int32} {a2 : Int32} (h : ((a2 = 0 → Q none (kr_uL μ 14 ((μ.2 14) &&& (((1 : Int64) <<< (a1.toInt64 &&& 63)) ^^^ (-1 : Int64))))) ∧ (¬ (a2 = 0) → Q none (kr_uL μ 14 ((μ.2 14) ||| ((1 : Int64) <<< (a1.toInt64 &&& 63))))))) : kr_c (d + 1) i_R_setRain [.ref 14, .int a1, .int a2] μ Q := ⟨rfl, (st_R_setRain (st_R_setRain (st_R_setRain (And.intro (fun z1x => (st_R_setRain (st_R_setRain (And.intro rfl (st_R_setRain (st_R_setRain (st_R_setRain (st_R_setRain (st_R_setRain (st_R_setRain (st_R_setRain (And.intro rfl (st_R_setRain (h.1 z1x)))))))))))))) (fun z1x => (st_R_setRain (st_R_setRain (And.intro rfl (st_R_setRain (st_R_setRain (st_R_setRain (st_R_setRain (st_R_setRain (st_R_setRain (And.intro rfl (st_R_setRain (h.2 z1x)))))))))))))))))⟩
theorem st_R_clear {d : Nat} {Q : kr_Q} {pc : Nat} {ls : kr_L} {st : List Value} {μ : kr_M} (h : C_R_clear pc (kr_Wp C_R_clear (kr_c d) Q) (kr_c d) Q ls st μ) : kr_Wp C_R_clear (kr_c d) Q pc ls st μ := kr_Wp.step (fun pc => (kr_ok_R_clear pc).2) (kr_c_om d) h
theorem v_R_clear14 {d : Nat} {Q : kr_Q} {μ : kr_M}  (h : Q none (kr_u (kr_u (kr_uL (kr_u (kr_u (kr_u (kr_u (kr_u (kr_u μ 14 0 5) 14 1 0) 14 2 0) 14 7 0) 14 8 0) 14 10 0) 14 0) 14 15 0) 14 17 0)) : kr_c (d + 1) i_R_clear [.ref 14] μ Q := ⟨rfl, (st_R_clear (st_R_clear (st_R_clear (And.intro rfl (st_R_clear (st_R_clear (st_R_clear (And.intro rfl (st_R_clear (st_R_clear (st_R_clear (And.intro rfl (st_R_clear (st_R_clear (st_R_clear (And.intro rfl (st_R_clear (st_R_clear (st_R_clear (And.intro rfl (st_R_clear (st_R_clear (st_R_clear (And.intro rfl (st_R_clear (st_R_clear (st_R_clear (And.intro rfl (st_R_clear (st_R_clear (st_R_clear (And.intro rfl (st_R_clear (st_R_clear (st_R_clear (And.intro rfl (st_R_clear h)))))))))))))))))))))))))))))))))))))⟩
/-! the reading -/
def kp_bd {A B : Type} (x : Sum (Nat × Nat) A) (f : A → Sum (Nat × Nat) B) : Sum (Nat × Nat) B := match x with
  | .inl e => .inl e
  | .inr a => f a
theorem kp_bd_l {A B : Type} {x : Sum (Nat × Nat) A} {f : A → Sum (Nat × Nat) B} {e : Nat × Nat} (h : x = .inl e) : kp_bd x f = .inl e := by rw [h]; rfl
theorem kp_bd_r {A B : Type} {x : Sum (Nat × Nat) A} {f : A → Sum (Nat × Nat) B} {a : A} (h : x = .inr a) : kp_bd x f = f a := by rw [h]; rfl
/-- a number lo .. hi at x -/
def kp_lk (n : Nat) (b : Nat → Nat) (lo hi : Nat) (x : kp_X) : kp_X := kp_bd x (fun s => if kt_k n b s = 2 then (if lo ≤ kt_v n b s ∧ kt_v n b s ≤ hi then .inr s else .inl (3, s)) else .inl (2, s))
def kp_nm (n : Nat) (b : Nat → Nat) (lo hi p : Nat) : kp_X := kp_lk n b lo hi (kt_nx n b p)
/-- a sign -/
def kp_st (n : Nat) (b : Nat → Nat) (x : kp_X) : kp_X := kp_bd x (fun s => if kt_k n b s = 3 then .inr s else .inl (2, s))
def kp_sg (n : Nat) (b : Nat → Nat) (p : Nat) : kp_X := kp_st n b (kt_nx n b p)
/-- is token s the name j -/
def kt_is (n : Nat) (b : Nat → Nat) (s j : Nat) : Bool := (kt_e n b s == s + (kt_w j).length) && (List.range (kt_w j).length).all (fun i => b (s + i) == (kt_w j).getD i 0)
/-- what is told so far: numbers; points, drawers, people; the people; whether points were told -/
abbrev kp_D : Type := (Nat → Nat) × (Nat × Nat × Nat) × (Nat → Nat) × Bool
abbrev kp_L : Type := Sum (Nat × Nat) (Nat × kp_D)
def kp_fin (n : Nat) (b : Nat → Nat) (p : Nat) (D : kp_D) : kp_L := kp_bd (kp_sg n b p) (fun z => .inr (kt_e n b z, D))
def kz_ln (g : Nat → Nat) (a b y s r : Nat) : Nat → Nat := kx_un (kx_un (kx_un (kx_un (kx_un (kx_un g (1 + 5 * g 0) a) (2 + 5 * g 0) b) (3 + 5 * g 0) y) (4 + 5 * g 0) s) (5 + 5 * g 0) r) 0 (g 0 + 1)
def kz_on (t : Nat → Nat) (K a b q : Nat) : Nat → Nat := kx_un (kx_un (kx_un t (3 * K) a) (3 * K + 1) b) (3 * K + 2) q
def kp_points (n : Nat) (b : Nat → Nat) (s : Nat) (D : kp_D) : kp_L := if D.2.2.2 = true then .inl (4, s) else kp_bd (kp_nm n b 2 9 (kt_e n b s)) (fun a => kp_fin n b (kt_e n b a) (D.1, (kt_v n b a, D.2.1.2), D.2.2.1, true))
def kp_house (n : Nat) (b : Nat → Nat) (s : Nat) (D : kp_D) : kp_L := kp_bd (kp_nm n b 0 8 (kt_e n b s)) (fun a => if (D.1 61).testBit (kt_v n b a) = true then .inl (4, a) else kp_fin n b (kt_e n b a) (kx_un D.1 61 (D.1 61 ||| 2 ^ kt_v n b a), D.2))
def kp_roof (n : Nat) (b : Nat → Nat) (p : Nat) (D D' : kp_D) : kp_L := kp_bd (kt_nx n b p) (fun r => if kt_is n b r 6 = true then kp_fin n b (kt_e n b r) D' else if kt_k n b r = 3 then .inr (kt_e n b r, D) else .inl (2, r))
def kp_line (n : Nat) (b : Nat → Nat) (s : Nat) (D : kp_D) : kp_L := if 12 ≤ D.1 0 then .inl (5, s) else kp_bd (kp_nm n b 0 8 (kt_e n b s)) (fun a => kp_bd (kp_nm n b 0 8 (kt_e n b a)) (fun c => if kt_v n b a = kt_v n b c then .inl (4, c) else kp_bd (kp_nm n b 1 9 (kt_e n b c)) (fun y => kp_bd (kp_nm n b 0 9 (kt_e n b y)) (fun z => kp_roof n b (kt_e n b z) (kz_ln D.1 (kt_v n b a) (kt_v n b c) (kt_v n b y) (kt_v n b z) 0, D.2) (kz_ln D.1 (kt_v n b a) (kt_v n b c) (kt_v n b y) (kt_v n b z) 1, D.2)))))
def kp_drawer (n : Nat) (b : Nat → Nat) (s : Nat) (D : kp_D) : kp_L := if 5 ≤ D.2.1.2.1 then .inl (5, s) else kp_bd (kp_nm n b 0 50 (kt_e n b s)) (fun a => kp_fin n b (kt_e n b a) (kx_un D.1 (62 + D.2.1.2.1) (kt_v n b a), (D.2.1.1, D.2.1.2.1 + 1, D.2.1.2.2), D.2.2))
def kp_one (n : Nat) (b : Nat → Nat) (s : Nat) (D : kp_D) : kp_L := if 5 ≤ D.2.1.2.2 then .inl (5, s) else kp_bd (kp_nm n b 0 8 (kt_e n b s)) (fun a => kp_bd (kp_nm n b 0 8 (kt_e n b a)) (fun c => if kt_v n b a = kt_v n b c then .inl (4, c) else kp_bd (kp_nm n b 0 40 (kt_e n b c)) (fun y => kp_fin n b (kt_e n b y) (D.1, (D.2.1.1, D.2.1.2.1, D.2.1.2.2 + 1), kz_on D.2.2.1 D.2.1.2.2 (kt_v n b a) (kt_v n b c) (kt_v n b y), D.2.2.2))))
def kp_rain (n : Nat) (b : Nat → Nat) (s : Nat) (D : kp_D) : kp_L := kp_bd (kp_nm n b 1 40 (kt_e n b s)) (fun a => if D.1 (67 + kt_v n b a) = 1 then .inl (4, a) else kp_fin n b (kt_e n b a) (kx_un D.1 (67 + kt_v n b a) 1, D.2))
def kp_ln (n : Nat) (b : Nat → Nat) (s : Nat) (D : kp_D) : kp_L :=
  if kt_is n b s 0 = true then kp_points n b s D else if kt_is n b s 1 = true then kp_house n b s D else if kt_is n b s 2 = true then kp_line n b s D else if kt_is n b s 3 = true then kp_drawer n b s D else if kt_is n b s 4 = true then kp_one n b s D else if kt_is n b s 5 = true then kp_rain n b s D else .inl (2, s)
/-- the highest point that is named -/
def kp_h1 (h : Nat) : Nat → Nat
  | 0 => 0
  | i + 1 => if h.testBit i = true then i else kp_h1 h i
def kp_h2 (g : Nat → Nat) : Nat → Nat → Nat
  | 0, x => x
  | l + 1, x => max (kp_h2 g l x) (max (kr_gk g l 0) (kr_gk g l 1))
def kp_h3 (t : Nat → Nat) : Nat → Nat → Nat
  | 0, x => x
  | p + 1, x => max (kp_h3 t p x) (max (t (3 * p)) (t (3 * p + 1)))
def kp_hi (D : kp_D) : Nat := kp_h3 D.2.2.1 D.2.1.2.2 (kp_h2 D.1 (D.1 0) (kp_h1 (D.1 61) 9))
def kp_tx (n : Nat) (b : Nat → Nat) : Nat → Nat → kp_D → Nat → Sum (Nat × Nat) (Nat × kp_D)
  | 0, _, _, _ => .inl (0, 0)
  | F + 1, p, D, m => kp_bd (kt_nx n b p) (fun s => if kt_k n b s = 0 then (if kp_hi D < D.2.1.1 then .inr (m, D) else .inl (6, n)) else kp_bd (kp_ln n b s D) (fun r => kp_tx n b F r.1 r.2 (m + 1)))
/-- as it may be, while it is told -/
def kp_pw (D : kp_D) : Prop := kr_wf D.1 9 D.2.1.2.1 D.2.1.2.2 D.2.2.1 ∧ 2 ≤ D.2.1.1 ∧ D.2.1.1 ≤ 9 ∧ D.1 108 = 0
theorem kp_lk_r {n lo hi s : Nat} {b : Nat → Nat} {x : kp_X} (h : kp_lk n b lo hi x = .inr s) : x = .inr s ∧ kt_k n b s = 2 ∧ lo ≤ kt_v n b s ∧ kt_v n b s ≤ hi := by
  unfold kp_lk kp_bd at h
  cases x with
  | inl e => cases h
  | inr a =>
    dsimp only at h
    split at h
    · split at h
      · rename_i c1 c2
        cases h
        exact ⟨rfl, c1, c2⟩
      · cases h
    · cases h
theorem kt_nx_r {n p s : Nat} {b : Nat → Nat} (hp : p ≤ n) (h : kt_nx n b p = .inr s) : p ≤ s ∧ s ≤ n ∧ kt_ok n b s = true := by
  unfold kt_nx at h
  have := kt_s_le (b := b) hp
  split at h
  · rename_i c
    cases h
    exact ⟨this.1, this.2, c⟩
  · cases h
theorem kp_st_r {n s : Nat} {b : Nat → Nat} {x : kp_X} (h : kp_st n b x = .inr s) : x = .inr s ∧ kt_k n b s = 3 := by
  unfold kp_st kp_bd at h
  cases x with
  | inl e => cases h
  | inr a =>
    dsimp only at h
    split at h
    · rename_i c
      cases h
      exact ⟨rfl, c⟩
    · cases h
theorem kp_nm_r {n p lo hi s : Nat} {b : Nat → Nat} (hp : p ≤ n) (h : kp_nm n b lo hi p = .inr s) : p ≤ s ∧ s < kt_e n b s ∧ kt_e n b s ≤ n ∧ kt_k n b s = 2 ∧ lo ≤ kt_v n b s ∧ kt_v n b s ≤ hi := by
  obtain ⟨h1, h2, h3, h4⟩ := kp_lk_r h
  have h5 := kt_nx_r hp h1
  have h6 := kt_e_1 (Or.inr h2)
  exact ⟨h5.1, h6.2.1, h6.2.2, h2, h3, h4⟩
theorem kp_sg_r {n p s : Nat} {b : Nat → Nat} (hp : p ≤ n) (h : kp_sg n b p = .inr s) : p ≤ s ∧ s < kt_e n b s ∧ kt_e n b s ≤ n ∧ kt_k n b s = 3 := by
  obtain ⟨h1, h2⟩ := kp_st_r h
  have h5 := kt_nx_r hp h1
  have h6 := kt_k3 h2
  exact ⟨h5.1, by omega, by omega, h2⟩
theorem kt_is_1 {n s j : Nat} {b : Nat → Nat} (hj : j < 7) (hok : kt_ok n b s = true) (h : kt_is n b s j = true) : kt_k n b s = 1 ∧ kt_e n b s = s + (kt_w j).length ∧ 3 ≤ (kt_w j).length ∧ ∀ i, i < (kt_w j).length → b (s + i) = (kt_w j).getD i 0 := by
  have hl : ∀ j, j < 7 → 3 ≤ (kt_w j).length := by decide
  unfold kt_is at h
  simp only [Bool.and_eq_true, beq_iff_eq, List.all_eq_true, List.mem_range] at h
  refine ⟨?_, h.1, hl j hj, h.2⟩
  apply Decidable.byContradiction
  intro c
  have h3 := hl j hj
  have he := h.1
  unfold kt_e at he
  rw [if_neg c] at he
  by_cases c2 : kt_k n b s = 2
  · unfold kt_ok at hok
    rw [c2] at hok
    have h1 := h.1
    simp at hok
    omega
  · rw [if_neg c2] at he
    omega
section
variable {d : Nat} {Q : kr_Q} {μ : kr_M} {n : Nat} {b : Nat → Nat} {g t : Nat → Nat} {P D K : Nat}
theorem c_D_nextNumber (hT : kr_TC μ n b) (hw : kx_tw n b) {p lo hi : Nat} (hp : p ≤ n) (hlo : lo < 100) (hhi : hi < 100) (h8 : μ.1 13 8 = nI p) (k1 : ∀ s, kp_nm n b lo hi p = .inr s → ∀ μ', kr_keep [] kr_dT μ μ' → (μ'.1 13 7 = nI s ∧ μ'.1 13 8 = nI (kt_e n b s) ∧ μ'.1 13 9 = nI (kt_v n b s)) → Q (some (.int 1)) μ') (k2 : ∀ c w, kp_nm n b lo hi p = .inl (c, w) → ∀ μ', kr_keep [] kr_dF μ μ' → kr_DF μ' c w → Q (some (.int 0)) μ') : kr_c (d + 3) i_D_nextNumber [.ref 13, .int (nI lo), .int (nI hi)] μ Q := by
  have wk : ∀ {μ'}, kr_keep [] kr_dT μ μ' → kr_keep [] kr_dF μ μ' := fun h => h.wk (by decide) (by decide)
  refine v_D_nextNumber (c_D_nextToken hT hw hp h8 (fun s hs μ' hk h => v_D_nextNumber_4 ?_) (fun s hs μ' hk h => v_D_nextNumber_4 ?_))
  · obtain ⟨t1, t2, t3, t4⟩ := h
    have hkb : kt_k n b s ≤ 4 := by unfold kt_k; split; omega; split; omega; split; omega; split <;> omega
    refine ⟨fun _ => ?_, fun z => absurd z (by decide)⟩
    rw [t1, t2, show (2 : Int32) = nI 2 from rfl, nI_eq (by omega) (by decide)]
    have bad : ∀ c, c < 10 → kp_nm n b lo hi p = .inl (c, s) → Q (some (.int 0)) (kr_u (kr_u μ' 13 3 (nI c)) 13 4 (nI s)) := fun c hc e => k2 c s e _ (((wk hk).f _ (by decide)).f _ (by decide)) ⟨rfl, rfl⟩
    refine ⟨fun c2 => ?_, fun c2 => v_D_fail (d := d + 1) (v_D_nextNumber_26 ⟨Or.inl rfl, bad 2 (by decide) ?_⟩)⟩
    · have hv : kt_v n b s < 1000 := by
        obtain ⟨-, e1, e2⟩ := kt_e_1 (Or.inr c2)
        have d0 := kt_dig c2 (Nat.le_refl s) e1
        unfold kt_v
        split
        · omega
        · have d1 := kt_dig (i := s + 1) c2 (by omega) (by omega)
          omega
      rw [t4 c2, nI_ltI (by omega) (by omega), nI_leI (by omega) (by omega)]
      refine ⟨fun c3 => v_D_fail (d := d + 1) (v_D_nextNumber_52 (br_t rfl (bad 3 (by decide) ?_))), fun c3 => ⟨fun c4 => k1 s ?_ μ' hk ⟨t2, t3, t4 c2⟩, fun c4 => v_D_fail (d := d + 1) (v_D_nextNumber_52 (br_t rfl (bad 3 (by decide) ?_)))⟩⟩
      · unfold kp_nm kp_lk; rw [kp_bd_r hs, if_pos c2, if_neg (by omega)]
      · unfold kp_nm kp_lk; rw [kp_bd_r hs, if_pos c2, if_pos (by omega)]
      · unfold kp_nm kp_lk; rw [kp_bd_r hs, if_pos c2, if_neg (by omega)]
    · unfold kp_nm kp_lk; rw [kp_bd_r hs, if_neg c2]
  · refine ⟨fun z => absurd rfl z, fun _ => k2 1 s ?_ μ' hk h⟩
    unfold kp_nm kp_lk; rw [kp_bd_l hs]
theorem c_D_nextSign (hT : kr_TC μ n b) (hw : kx_tw n b) {p : Nat} (hp : p ≤ n) (h8 : μ.1 13 8 = nI p) (k1 : ∀ s, kp_sg n b p = .inr s → ∀ μ', kr_keep [] kr_dT μ μ' → μ'.1 13 8 = nI (kt_e n b s) → Q (some (.int 1)) μ') (k2 : ∀ c w, kp_sg n b p = .inl (c, w) → ∀ μ', kr_keep [] kr_dF μ μ' → kr_DF μ' c w → Q (some (.int 0)) μ') : kr_c (d + 3) i_D_nextSign [.ref 13] μ Q := by
  have wk : ∀ {μ'}, kr_keep [] kr_dT μ μ' → kr_keep [] kr_dF μ μ' := fun h => h.wk (by decide) (by decide)
  refine v_D_nextSign (c_D_nextToken hT hw hp h8 (fun s hs μ' hk h => v_D_nextSign_4 ?_) (fun s hs μ' hk h => v_D_nextSign_4 ?_))
  · obtain ⟨t1, t2, t3, t4⟩ := h
    have hkb : kt_k n b s ≤ 4 := by unfold kt_k; split; omega; split; omega; split; omega; split <;> omega
    refine br_f (by decide) ?_
    rw [t1, t2, show (3 : Int32) = nI 3 from rfl, nI_eq (by omega) (by decide)]
    refine ⟨fun c2 => k1 s ?_ μ' hk t3, fun c2 => v_D_fail (d := d + 1) (v_D_nextSign_24 (br_t rfl (k2 2 s ?_ _ (((wk hk).f _ (by decide)).f _ (by decide)) ⟨rfl, rfl⟩)))⟩
    · unfold kp_sg kp_st; rw [kp_bd_r hs, if_pos c2]
    · unfold kp_sg kp_st; rw [kp_bd_r hs, if_neg c2]
  · refine br_t rfl (k2 1 s ?_ μ' hk h)
    unfold kp_sg kp_st; rw [kp_bd_l hs]
theorem c_D_nameIs (hT : kr_TC μ n b) (hw : kx_tw n b) {s j : Nat} (hs : s ≤ n) (hok : kt_ok n b s = true) (hj : j < 7) (h7 : μ.1 13 7 = nI s) (h8 : μ.1 13 8 = nI (kt_e n b s)) (k : Q (some (.int (if kt_is n b s j = true then 1 else 0))) μ) : kr_c (d + 5) i_D_nameIs [.ref 13, .ref (86 + j)] μ Q := by
  have h400 := hw.1
  have ho : kr_isS (86 + j) := by unfold kr_isS; omega
  have hw7 := (kt_w_sp j hj).1
  have hl := kr_tlL ho
  have e86 : 86 + j - 86 = j := by omega
  rw [e86] at hl
  have hee : s ≤ kt_e n b s ∧ kt_e n b s ≤ n + 1 := by
    by_cases c : kt_k n b s = 1 ∨ kt_k n b s = 2
    · have := kt_e_1 c; omega
    · unfold kt_e; rw [if_neg (fun z => c (Or.inl z)), if_neg (fun z => c (Or.inr z))]; omega
  refine v_D_nameIs ho (c_J0_length (d := d + 2) ho (v_D_nameIs_13 ho ?_))
  rw [h7, h8, pk_sub hee.1, e86, nI_eq (by omega) (by omega)]
  refine ⟨fun c => ?_, fun c => ?_⟩
  · have c : kt_e n b s = s + (kt_w j).length := by omega
    have main : ∀ m i, i + m = (kt_w j).length → (∀ q, q < i → b (s + q) = (kt_w j).getD q 0) → kr_Wp C_D_nameIs (kr_c (d + 4)) Q 20 [some (.ref 13), some (.ref (86 + j)), some (.int (nI i))] [] μ := by
      intro m
      induction m with
      | zero =>
        intro i hi hq
        refine v_D_nameIs_20 ho (c_J0_length (d := d + 2) ho (v_D_nameIs_25 ho (br_t ?_ ?_)))
        · rw [e86]; exact nI_le (by omega) (by omega)
        · rw [if_pos ?_] at k
          · exact k
          · unfold kt_is
            simp only [Bool.and_eq_true, beq_iff_eq, List.all_eq_true, List.mem_range]
            exact ⟨c, fun q h => hq q (by omega)⟩
      | succ m ih =>
        intro i hi hq
        have hkind : s + i < n := by
          have h3 : ∀ j, j < 7 → 3 ≤ (kt_w j).length := by decide
          have := h3 j hj
          by_cases c2 : kt_k n b s = 1 ∨ kt_k n b s = 2
          · have := kt_e_1 c2; omega
          · have : kt_e n b s = s + 1 := by unfold kt_e; rw [if_neg (fun z => c2 (Or.inl z)), if_neg (fun z => c2 (Or.inr z))]
            omega
        have hb := hw.2 (s + i) hkind
        have hwi := (kt_w_sp j hj).2 i (by omega)
        refine v_D_nameIs_20 ho (c_J0_length (d := d + 2) ho (v_D_nameIs_25 ho (br_f ?_ ?_)))
        · rw [e86]; exact nI_ge (by omega) (by omega)
        rw [h7, nI_add]
        refine c_T_byteAt (d := d + 3) hT hw (by omega) (v_D_nameIs_41 ho (c_J0_charAt (d := d) ho (by rw [e86]; omega) (v_D_nameIs_46 ho ?_)))
        rw [if_pos hkind, e86, nI_eq (by omega) (by omega), kr_n1]
        refine ⟨fun z => ih (i + 1) (by omega) (fun q hq2 => ?_), fun z => ?_⟩
        · by_cases e : q = i
          · rw [e]; exact z
          · exact hq q (by omega)
        · rw [if_neg ?_] at k
          · exact k
          · intro y
            exact z ((kt_is_1 hj hok y).2.2.2 i (by omega))
    exact main (kt_w j).length 0 (by omega) (fun q hq => absurd hq (Nat.not_lt_zero q))
  · rw [if_neg ?_] at k
    · exact k
    · intro y
      have := (kt_is_1 hj hok y).2.1
      omega
theorem kr_Rg.house14 (h : kr_Rg μ 14 g P D K t) {P' : Nat} (hw : kr_wf g P' D K t) {v : Nat} : kr_Rg (kr_u μ 14 1 (nI v)) 14 (kx_un g 61 v) P D K t := by
  obtain ⟨⟨n12, -, -, d5, -⟩, -, -, -, -, -, h8, -⟩ := hw
  obtain ⟨⟨a1, a2, a3, a4, a5, a6⟩, b, r, h6, h7, hl, h10, c, c1, c2, c3⟩ := h
  have hn : ∀ j, j ≠ 61 → kx_un g 61 v j = g j := fun j hj => kx_un_n _ _ hj
  have gk : ∀ l w, l < g 0 → w < 5 → kr_gk (kx_un g 61 v) l w = kr_gk g l w := fun l w hl h1 => hn _ (by omega)
  have g0 := hn 0 (by omega)
  have g108 := hn 108 (by omega)
  have e : ∀ o, o ≠ 14 → (kr_u μ 14 1 (nI v)).1 o = μ.1 o := fun o ho => kr_u_n _ _ _ ho
  refine ⟨⟨a1, ?_, ?_, a4, a5, ?_⟩, fun l hl => ?_, ?_, fun d hd => ?_, fun p hp => h7 p hp, ?_, fun m hm => ?_, c, c1, c2, fun m hm => ?_⟩
  · rw [kx_un_s]; rfl
  · rw [g0]; exact a3
  · rw [g108]; exact a6
  · rw [g0] at hl
    rw [gk l 0 hl (by decide), gk l 1 hl (by decide), gk l 2 hl (by decide), gk l 3 hl (by decide)]
    exact b l hl
  · rw [g0]
    show μ.1 14 7 = _
    rw [r]
    congr 1
    exact kr_bm_congr (fun l hl => by rw [gk l 4 hl (by decide)])
  · rw [hn _ (by omega)]; exact h6 d hd
  · show μ.2 14 = _
    rw [hl]
    exact congrArg lN (kr_bm_congr (fun q hq => by rw [hn (67 + q) (by omega)]))
  · rw [g108] at hm
    rw [hn (109 + 2 * m) (by omega)]; exact h10 m hm
  · rw [g108] at hm
    rw [hn (110 + 2 * m) (by omega)]; exact c3 m hm
theorem kr_Rg.rain14 (h : kr_Rg μ 14 g P D K t) {P' : Nat} (hw : kr_wf g P' D K t) {q v : Nat} (hq : q ≤ 40) {B : Nat} (hB : kx_rb (kx_un g (67 + q) v) = B) : kr_Rg (kr_uL μ 14 (lN B)) 14 (kx_un g (67 + q) v) P D K t := by
  obtain ⟨⟨n12, -, -, d5, -⟩, -, -, -, -, -, h8, -⟩ := hw
  obtain ⟨⟨a1, a2, a3, a4, a5, a6⟩, b, r, h6, h7, hl, h10, c, c1, c2, c3⟩ := h
  have hn : ∀ j, j ≠ 67 + q → kx_un g (67 + q) v j = g j := fun j hj => kx_un_n _ _ hj
  have gk : ∀ l w, l < g 0 → w < 5 → kr_gk (kx_un g (67 + q) v) l w = kr_gk g l w := fun l w hl h1 => hn _ (by omega)
  have g0 := hn 0 (by omega)
  have g108 := hn 108 (by omega)
  refine ⟨⟨a1, ?_, ?_, a4, a5, ?_⟩, fun l hl => ?_, ?_, fun d hd => ?_, fun p hp => h7 p hp, ?_, fun m hm => ?_, c, c1, c2, fun m hm => ?_⟩
  · rw [hn 61 (by omega)]; exact a2
  · rw [g0]; exact a3
  · rw [g108]; exact a6
  · rw [g0] at hl
    rw [gk l 0 hl (by decide), gk l 1 hl (by decide), gk l 2 hl (by decide), gk l 3 hl (by decide)]
    exact b l hl
  · rw [g0]
    show μ.1 14 7 = _
    rw [r]
    congr 1
    exact kr_bm_congr (fun l hl => by rw [gk l 4 hl (by decide)])
  · rw [hn _ (by omega)]; exact h6 d hd
  · rw [kr_uL_s]
    exact congrArg lN hB.symm
  · rw [g108] at hm
    rw [hn (109 + 2 * m) (by omega)]; exact h10 m hm
  · rw [g108] at hm
    rw [hn (110 + 2 * m) (by omega)]; exact c3 m hm
theorem kz_ln_n {a b' y s r j : Nat} (h : j ≠ 0) (h2 : j < 1 + 5 * g 0 ∨ 6 + 5 * g 0 ≤ j) : kz_ln g a b' y s r j = g j := by
  unfold kz_ln
  rw [kx_un_n _ _ h, kx_un_n _ _ (by omega), kx_un_n _ _ (by omega), kx_un_n _ _ (by omega), kx_un_n _ _ (by omega), kx_un_n _ _ (by omega)]
theorem kz_ln_0 {a b' y s r : Nat} : kz_ln g a b' y s r 0 = g 0 + 1 := kx_un_s _ _ _
theorem kz_ln_s {a b' y s r : Nat} : kr_gk (kz_ln g a b' y s r) (g 0) 0 = a ∧ kr_gk (kz_ln g a b' y s r) (g 0) 1 = b' ∧ kr_gk (kz_ln g a b' y s r) (g 0) 2 = y ∧ kr_gk (kz_ln g a b' y s r) (g 0) 3 = s ∧ kr_gk (kz_ln g a b' y s r) (g 0) 4 = r := by
  unfold kr_gk
  rw [show 1 + 5 * g 0 + 0 = 1 + 5 * g 0 by omega, show 1 + 5 * g 0 + 1 = 2 + 5 * g 0 by omega, show 1 + 5 * g 0 + 2 = 3 + 5 * g 0 by omega, show 1 + 5 * g 0 + 3 = 4 + 5 * g 0 by omega, show 1 + 5 * g 0 + 4 = 5 + 5 * g 0 by omega]
  unfold kz_ln
  refine ⟨?_, ?_, ?_, ?_, ?_⟩
  · rw [kx_un_n _ _ (by omega), kx_un_n _ _ (by omega), kx_un_n _ _ (by omega), kx_un_n _ _ (by omega), kx_un_n _ _ (by omega), kx_un_s]
  · rw [kx_un_n _ _ (by omega), kx_un_n _ _ (by omega), kx_un_n _ _ (by omega), kx_un_n _ _ (by omega), kx_un_s]
  · rw [kx_un_n _ _ (by omega), kx_un_n _ _ (by omega), kx_un_n _ _ (by omega), kx_un_s]
  · rw [kx_un_n _ _ (by omega), kx_un_n _ _ (by omega), kx_un_s]
  · rw [kx_un_n _ _ (by omega), kx_un_s]
theorem kz_ln_l {a b' y s r l w : Nat} (hl : l < g 0) (hw : w < 5) : kr_gk (kz_ln g a b' y s r) l w = kr_gk g l w := kz_ln_n (by omega) (by omega)
theorem kz_wf_ln (h : kr_wf g P D K t) {a b' y s r : Nat} (hN : g 0 < 12) (ha : a < P) (hb : b' < P) (hab : a ≠ b') (hy1 : 1 ≤ y) (hy : y ≤ 9) (hs : s ≤ 9) (hr : r ≤ 1) : kr_wf (kz_ln g a b' y s r) P D K t := by
  obtain ⟨⟨a1, a2, a3, a4, a5⟩, b, c, dd, e, f, i, j⟩ := h
  refine ⟨⟨by rw [kz_ln_0]; omega, a2, a3, a4, a5⟩, fun l hl => ?_, ?_, fun d' hd' => ?_, e, fun q' hq' => ?_, ?_, fun m hm => ?_⟩
  · rw [kz_ln_0] at hl
    by_cases el : l = g 0
    · rw [el]
      obtain ⟨p0, p1, p2, p3, p4⟩ := kz_ln_s (g := g) (a := a) (b' := b') (y := y) (s := s) (r := r)
      rw [p0, p1, p2, p3, p4]
      exact ⟨ha, hb, hab, hy1, hy, hs, hr⟩
    · have hl2 : l < g 0 := by omega
      rw [kz_ln_l hl2 (by decide), kz_ln_l hl2 (by decide), kz_ln_l hl2 (by decide), kz_ln_l hl2 (by decide), kz_ln_l hl2 (by decide)]
      exact b l hl2
  · rw [kz_ln_n (by omega) (by omega)]; exact c
  · rw [kz_ln_n (by omega) (by omega)]; exact dd d' hd'
  · rw [kz_ln_n (by omega) (by omega)]; exact f q' hq'
  · rw [kz_ln_n (by omega) (by omega)]; exact i
  · rw [kz_ln_n (by omega) (by omega)] at hm
    rw [kz_ln_n (by omega) (by omega), kz_ln_n (by omega) (by omega)]; exact j m hm
theorem kz_wf_dr (h : kr_wf g P D K t) {v : Nat} (hD : D < 5) (hv : v ≤ 50) : kr_wf (kx_un g (62 + D) v) P (D + 1) K t := by
  obtain ⟨⟨a1, a2, a3, a4, a5⟩, b, c, dd, e, f, i, j⟩ := h
  have hn : ∀ j, j ≠ 62 + D → kx_un g (62 + D) v j = g j := fun j hj => kx_un_n _ _ hj
  refine ⟨⟨by rw [hn 0 (by omega)]; omega, a2, a3, by omega, a5⟩, fun l hl => ?_, ?_, fun d' hd' => ?_, e, fun q hq => ?_, ?_, fun m hm => ?_⟩
  · rw [hn 0 (by omega)] at hl
    have gk : ∀ w, w < 5 → kr_gk (kx_un g (62 + D) v) l w = kr_gk g l w := fun w h1 => hn _ (by omega)
    rw [gk 0 (by decide), gk 1 (by decide), gk 2 (by decide), gk 3 (by decide), gk 4 (by decide)]
    exact b l hl
  · rw [hn 61 (by omega)]; exact c
  · by_cases ed : d' = D
    · rw [ed, kx_un_s]; exact hv
    · rw [hn _ (by omega)]; exact dd d' (by omega)
  · rw [hn _ (by omega)]; exact f q hq
  · rw [hn _ (by omega)]; exact i
  · rw [hn _ (by omega)] at hm
    rw [hn _ (by omega), hn _ (by omega)]; exact j m hm
theorem kz_on_l {a b' q p w : Nat} (hp : p < K) (hw : w < 3) : kz_on t K a b' q (3 * p + w) = t (3 * p + w) := by
  unfold kz_on
  rw [kx_un_n _ _ (by omega), kx_un_n _ _ (by omega), kx_un_n _ _ (by omega)]
theorem kz_on_s {a b' q : Nat} : kz_on t K a b' q (3 * K) = a ∧ kz_on t K a b' q (3 * K + 1) = b' ∧ kz_on t K a b' q (3 * K + 2) = q := by
  unfold kz_on
  refine ⟨?_, ?_, kx_un_s _ _ _⟩
  · rw [kx_un_n _ _ (by omega), kx_un_n _ _ (by omega), kx_un_s]
  · rw [kx_un_n _ _ (by omega), kx_un_s]
theorem kz_wf_on (h : kr_wf g P D K t) {a b' q : Nat} (hK : K < 5) (ha : a < P) (hb : b' < P) (hab : a ≠ b') (hq : q ≤ 40) : kr_wf g P D (K + 1) (kz_on t K a b' q) := by
  obtain ⟨⟨a1, a2, a3, a4, a5⟩, b, c, dd, e, f, i, j⟩ := h
  refine ⟨⟨a1, a2, a3, a4, by omega⟩, b, c, dd, fun p hp => ?_, f, i, j⟩
  by_cases ep : p = K
  · rw [ep]
    obtain ⟨q0, q1, q2⟩ := kz_on_s (t := t) (K := K) (a := a) (b' := b') (q := q)
    rw [q0, q1, q2]
    exact ⟨ha, hb, hab, hq⟩
  · have e0 := kz_on_l (t := t) (K := K) (a := a) (b' := b') (q := q) (p := p) (w := 0) (by omega) (by decide)
    rw [Nat.add_zero] at e0
    rw [e0, kz_on_l (by omega) (by decide), kz_on_l (by omega) (by decide)]
    exact e p (by omega)
end
