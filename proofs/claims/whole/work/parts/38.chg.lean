/-! what is told, changed: as numbers -/
theorem kr_Mg.un {μ : kr_M} {g : Nat → Nat} (h : kr_Mg μ g) {j v : Nat} : kr_Mg (kr_u μ 66 j (nI v)) (kx_un g j v) := by
  intro i hi
  rw [kr_u_s]
  by_cases e : i = j
  · rw [e, kr_upd_s, kx_un_s]
  · rw [kr_upd_n _ _ e, kx_un_n _ _ e]; exact h i hi
def kz_rub (g : Nat → Nat) (l v : Nat) : Nat → Nat := kx_un g (4 + 5 * l) v
def kz_draw (g : Nat → Nat) (d l : Nat) : Nat → Nat := kx_un (kx_un g (62 + d) (g (62 + d) - kr_gk g l 2)) (4 + 5 * l) 9
def kz_wet (g : Nat → Nat) : Nat → Nat := fun j => if 1 ≤ j ∧ j < 1 + 5 * g 0 ∧ j % 5 = 4 ∧ g (j + 1) = 0 then g j - 1 else g j
def kz_plan (g : Nat → Nat) (a b y : Nat) : Nat → Nat := kx_un (kx_un (kx_un (kx_un (kx_un (kx_un g (1 + 5 * g 0) a) (2 + 5 * g 0) b) (3 + 5 * g 0) y) (4 + 5 * g 0) 0) (5 + 5 * g 0) 0) 0 (g 0 + 1)
def kz_hear (g : Nat → Nat) (s c : Nat) : Nat → Nat := kx_un (kx_un (kx_un g (109 + 2 * g 108) s) (110 + 2 * g 108) c) 108 (g 108 + 1)
/-- they agree on all but the images, and but for places that P tells -/
theorem kz_rub_n {g : Nat → Nat} {l v j : Nat} (h : j ≠ 4 + 5 * l) : kz_rub g l v j = g j := kx_un_n _ _ h
theorem kz_rub_s {g : Nat → Nat} {l v : Nat} : kz_rub g l v (4 + 5 * l) = v := kx_un_s _ _ _
theorem kz_gk3 (g : Nat → Nat) (l : Nat) : kr_gk g l 3 = g (4 + 5 * l) := by unfold kr_gk; congr 1; omega
theorem kz_draw_n {g : Nat → Nat} {d l j : Nat} (h : j ≠ 4 + 5 * l) (h2 : j ≠ 62 + d) : kz_draw g d l j = g j := by
  unfold kz_draw; rw [kx_un_n _ _ h, kx_un_n _ _ h2]
theorem kz_wet_n {g : Nat → Nat} {j : Nat} (h : ¬ (1 ≤ j ∧ j < 1 + 5 * g 0 ∧ j % 5 = 4)) : kz_wet g j = g j := if_neg (fun z => h ⟨z.1, z.2.1, z.2.2.1⟩)
theorem kz_wet_3 {g : Nat → Nat} {l : Nat} (h : l < g 0) : kr_gk (kz_wet g) l 3 = if kr_gk g l 4 = 0 then kr_gk g l 3 - 1 else kr_gk g l 3 := by
  have e : kr_gk g l 4 = g (4 + 5 * l + 1) := by unfold kr_gk; congr 1; omega
  rw [kz_gk3, kz_gk3, e]
  unfold kz_wet
  by_cases c : g (4 + 5 * l + 1) = 0
  · rw [if_pos c, if_pos ⟨by omega, by omega, by omega, c⟩]
  · rw [if_neg c, if_neg (fun z => c z.2.2.2)]
theorem kz_plan_n {g : Nat → Nat} {a b y j : Nat} (h : j ≠ 0) (h2 : j < 1 + 5 * g 0 ∨ 6 + 5 * g 0 ≤ j) : kz_plan g a b y j = g j := by
  unfold kz_plan
  rw [kx_un_n _ _ h, kx_un_n _ _ (by omega), kx_un_n _ _ (by omega), kx_un_n _ _ (by omega), kx_un_n _ _ (by omega), kx_un_n _ _ (by omega)]
theorem kz_plan_0 {g : Nat → Nat} {a b y : Nat} : kz_plan g a b y 0 = g 0 + 1 := kx_un_s _ _ _
theorem kz_plan_s {g : Nat → Nat} {a b y : Nat} : kr_gk (kz_plan g a b y) (g 0) 0 = a ∧ kr_gk (kz_plan g a b y) (g 0) 1 = b ∧ kr_gk (kz_plan g a b y) (g 0) 2 = y ∧ kr_gk (kz_plan g a b y) (g 0) 3 = 0 ∧ kr_gk (kz_plan g a b y) (g 0) 4 = 0 := by
  unfold kr_gk
  rw [show 1 + 5 * g 0 + 0 = 1 + 5 * g 0 by omega, show 1 + 5 * g 0 + 1 = 2 + 5 * g 0 by omega, show 1 + 5 * g 0 + 2 = 3 + 5 * g 0 by omega, show 1 + 5 * g 0 + 3 = 4 + 5 * g 0 by omega, show 1 + 5 * g 0 + 4 = 5 + 5 * g 0 by omega]
  unfold kz_plan
  refine ⟨?_, ?_, ?_, ?_, ?_⟩
  · rw [kx_un_n _ _ (by omega), kx_un_n _ _ (by omega), kx_un_n _ _ (by omega), kx_un_n _ _ (by omega), kx_un_n _ _ (by omega), kx_un_s]
  · rw [kx_un_n _ _ (by omega), kx_un_n _ _ (by omega), kx_un_n _ _ (by omega), kx_un_n _ _ (by omega), kx_un_s]
  · rw [kx_un_n _ _ (by omega), kx_un_n _ _ (by omega), kx_un_n _ _ (by omega), kx_un_s]
  · rw [kx_un_n _ _ (by omega), kx_un_n _ _ (by omega), kx_un_s]
  · rw [kx_un_n _ _ (by omega), kx_un_s]
theorem kz_plan_l {g : Nat → Nat} {a b y l w : Nat} (hl : l < g 0) (hw : w < 5) : kr_gk (kz_plan g a b y) l w = kr_gk g l w := kz_plan_n (by omega) (by omega)
theorem kz_hear_n {g : Nat → Nat} {s c j : Nat} (h : j ≠ 108) (h2 : j ≠ 109 + 2 * g 108) (h3 : j ≠ 110 + 2 * g 108) : kz_hear g s c j = g j := by
  unfold kz_hear
  rw [kx_un_n _ _ h, kx_un_n _ _ h3, kx_un_n _ _ h2]
theorem kz_hear_0 {g : Nat → Nat} {s c : Nat} : kz_hear g s c 108 = g 108 + 1 := kx_un_s _ _ _
theorem kz_hear_1 {g : Nat → Nat} {s c : Nat} : kz_hear g s c (109 + 2 * g 108) = s := by
  unfold kz_hear
  rw [kx_un_n _ _ (by omega), kx_un_n _ _ (by omega), kx_un_s]
theorem kz_hear_2 {g : Nat → Nat} {s c : Nat} : kz_hear g s c (110 + 2 * g 108) = c := by
  unfold kz_hear
  rw [kx_un_n _ _ (by omega), kx_un_s]
/-! they stay as they may be -/
theorem kz_wf_line {g g' : Nat → Nat} {P D K : Nat} {t : Nat → Nat} (h : kr_wf g P D K t) (hn : ∀ j, j < 125 → (∀ l, l < g 0 → j ≠ 4 + 5 * l) → g' j = g j) (hs : ∀ l, l < g 0 → g' (4 + 5 * l) ≤ 9) : kr_wf g' P D K t := by
  obtain ⟨⟨a1, a2, a3, a4, a5⟩, b, c, dd, e, f, i, j⟩ := h
  have g0 : g' 0 = g 0 := hn 0 (by decide) (fun l _ => by omega)
  have g108 : g' 108 = g 108 := hn 108 (by decide) (fun l hl => by omega)
  refine ⟨⟨by omega, a2, a3, a4, a5⟩, fun l hl => ?_, ?_, fun d hd => ?_, e, fun q hq => ?_, ?_, fun m hm => ?_⟩
  · rw [g0] at hl
    have gk : ∀ w, w < 5 → w ≠ 3 → kr_gk g' l w = kr_gk g l w := fun w h1 h2 => hn _ (by omega) (fun m hm => by omega)
    have g3 : kr_gk g' l 3 ≤ 9 := by rw [kz_gk3]; exact hs l hl
    have := b l hl
    rw [gk 0 (by decide) (by decide), gk 1 (by decide) (by decide), gk 2 (by decide) (by decide), gk 4 (by decide) (by decide)]
    exact ⟨this.1, this.2.1, this.2.2.1, this.2.2.2.1, this.2.2.2.2.1, g3, this.2.2.2.2.2.2⟩
  · rw [hn 61 (by decide) (fun l hl => by omega)]; exact c
  · rw [hn (62 + d) (by omega) (fun l hl => by omega)]; exact dd d hd
  · rw [hn (67 + q) (by omega) (fun l hl => by omega)]; exact f q hq
  · rw [g108]; exact i
  · rw [g108] at hm
    rw [hn (109 + 2 * m) (by omega) (fun l hl => by omega), hn (110 + 2 * m) (by omega) (fun l hl => by omega)]
    exact j m hm
theorem kz_wf_rub {g : Nat → Nat} {P D K : Nat} {t : Nat → Nat} (h : kr_wf g P D K t) {l v : Nat} (hl : l < g 0) (hv : v ≤ 9) : kr_wf (kz_rub g l v) P D K t := by
  refine kz_wf_line h (fun j _ hj => kz_rub_n (hj l hl)) (fun m hm => ?_)
  by_cases e : m = l
  · rw [e, kz_rub_s]; exact hv
  · rw [kz_rub_n (by omega), ← kz_gk3 g m]
    exact (h.2.1 m hm).2.2.2.2.2.1
theorem kz_wf_wet {g : Nat → Nat} {P D K : Nat} {t : Nat → Nat} (h : kr_wf g P D K t) : kr_wf (kz_wet g) P D K t := by
  refine kz_wf_line h (fun j _ hj => kz_wet_n (fun z => hj (j / 5) (by omega) (by omega))) (fun m hm => ?_)
  rw [← kz_gk3 (kz_wet g) m, kz_wet_3 hm]
  have := (h.2.1 m hm).2.2.2.2.2.1
  split <;> omega
theorem kz_wf_chalk {g : Nat → Nat} {P D K : Nat} {t : Nat → Nat} (h : kr_wf g P D K t) {d v : Nat} (hd : d < D) (hv : v ≤ 50) : kr_wf (kx_un g (62 + d) v) P D K t := by
  obtain ⟨⟨a1, a2, a3, a4, a5⟩, b, c, dd, e, f, i, j⟩ := h
  have hn : ∀ j, j ≠ 62 + d → kx_un g (62 + d) v j = g j := fun j hj => kx_un_n _ _ hj
  refine ⟨⟨by rw [hn 0 (by omega)]; omega, a2, a3, a4, a5⟩, fun l hl => ?_, ?_, fun d' hd' => ?_, e, fun q hq => ?_, ?_, fun m hm => ?_⟩
  · rw [hn 0 (by omega)] at hl
    have gk : ∀ w, w < 5 → kr_gk (kx_un g (62 + d) v) l w = kr_gk g l w := fun w h1 => hn _ (by omega)
    rw [gk 0 (by decide), gk 1 (by decide), gk 2 (by decide), gk 3 (by decide), gk 4 (by decide)]
    exact b l hl
  · rw [hn 61 (by omega)]; exact c
  · by_cases ed : d' = d
    · rw [ed, kx_un_s]; exact hv
    · rw [hn _ (by omega)]; exact dd d' hd'
  · rw [hn _ (by omega)]; exact f q hq
  · rw [hn _ (by omega)]; exact i
  · rw [hn _ (by omega)] at hm
    rw [hn _ (by omega), hn _ (by omega)]; exact j m hm
theorem kz_wf_draw {g : Nat → Nat} {P D K : Nat} {t : Nat → Nat} (h : kr_wf g P D K t) {d l : Nat} (hd : d < D) (hl : l < g 0) : kr_wf (kz_draw g d l) P D K t := by
  have hD := h.1.2.2.2.1
  have hN := h.1.1
  have hc := h.2.2.2.1 d hd
  have h1 := kz_wf_chalk h hd (v := g (62 + d) - kr_gk g l 2) (by omega)
  exact kz_wf_rub h1 (l := l) (v := 9) (by rw [kx_un_n _ _ (by omega)]; exact hl) (Nat.le_refl 9)
theorem kz_wf_cloud {g : Nat → Nat} {P D K : Nat} {t : Nat → Nat} (h : kr_wf g P D K t) {q v : Nat} (hq : q < 41) (hv : v ≤ 1) : kr_wf (kx_un g (67 + q) v) P D K t := by
  obtain ⟨⟨a1, a2, a3, a4, a5⟩, b, c, dd, e, f, i, j⟩ := h
  have hn : ∀ j, j ≠ 67 + q → kx_un g (67 + q) v j = g j := fun j hj => kx_un_n _ _ hj
  refine ⟨⟨by rw [hn 0 (by omega)]; omega, a2, a3, a4, a5⟩, fun l hl => ?_, ?_, fun d' hd' => ?_, e, fun q' hq' => ?_, ?_, fun m hm => ?_⟩
  · rw [hn 0 (by omega)] at hl
    have gk : ∀ w, w < 5 → kr_gk (kx_un g (67 + q) v) l w = kr_gk g l w := fun w h1 => hn _ (by omega)
    rw [gk 0 (by decide), gk 1 (by decide), gk 2 (by decide), gk 3 (by decide), gk 4 (by decide)]
    exact b l hl
  · rw [hn 61 (by omega)]; exact c
  · rw [hn _ (by omega)]; exact dd d' hd'
  · by_cases ed : q' = q
    · rw [ed, kx_un_s]; exact hv
    · rw [hn _ (by omega)]; exact f q' hq'
  · rw [hn _ (by omega)]; exact i
  · rw [hn _ (by omega)] at hm
    rw [hn _ (by omega), hn _ (by omega)]; exact j m hm
theorem kz_wf_build {g : Nat → Nat} {P D K : Nat} {t : Nat → Nat} (h : kr_wf g P D K t) {v : Nat} (hv : v < 2 ^ P) : kr_wf (kx_un g 61 v) P D K t := by
  obtain ⟨⟨a1, a2, a3, a4, a5⟩, b, c, dd, e, f, i, j⟩ := h
  have hn : ∀ j, j ≠ 61 → kx_un g 61 v j = g j := fun j hj => kx_un_n _ _ hj
  refine ⟨⟨by rw [hn 0 (by omega)]; omega, a2, a3, a4, a5⟩, fun l hl => ?_, ?_, fun d' hd' => ?_, e, fun q' hq' => ?_, ?_, fun m hm => ?_⟩
  · rw [hn 0 (by omega)] at hl
    have gk : ∀ w, w < 5 → kr_gk (kx_un g 61 v) l w = kr_gk g l w := fun w h1 => hn _ (by omega)
    rw [gk 0 (by decide), gk 1 (by decide), gk 2 (by decide), gk 3 (by decide), gk 4 (by decide)]
    exact b l hl
  · rw [kx_un_s]; exact hv
  · rw [hn _ (by omega)]; exact dd d' hd'
  · rw [hn _ (by omega)]; exact f q' hq'
  · rw [hn _ (by omega)]; exact i
  · rw [hn _ (by omega)] at hm
    rw [hn _ (by omega), hn _ (by omega)]; exact j m hm
theorem kz_wf_plan {g : Nat → Nat} {P D K : Nat} {t : Nat → Nat} (h : kr_wf g P D K t) {a b' y : Nat} (hN : g 0 < 12) (ha : a < P) (hb : b' < P) (hab : a ≠ b') (hy1 : 1 ≤ y) (hy : y ≤ 9) : kr_wf (kz_plan g a b' y) P D K t := by
  obtain ⟨⟨a1, a2, a3, a4, a5⟩, b, c, dd, e, f, i, j⟩ := h
  refine ⟨⟨by rw [kz_plan_0]; omega, a2, a3, a4, a5⟩, fun l hl => ?_, ?_, fun d' hd' => ?_, e, fun q' hq' => ?_, ?_, fun m hm => ?_⟩
  · rw [kz_plan_0] at hl
    by_cases el : l = g 0
    · rw [el]
      obtain ⟨p0, p1, p2, p3, p4⟩ := kz_plan_s (g := g) (a := a) (b := b') (y := y)
      rw [p0, p1, p2, p3, p4]
      exact ⟨ha, hb, hab, hy1, hy, by omega, by omega⟩
    · have hl2 : l < g 0 := by omega
      rw [kz_plan_l hl2 (by decide), kz_plan_l hl2 (by decide), kz_plan_l hl2 (by decide), kz_plan_l hl2 (by decide), kz_plan_l hl2 (by decide)]
      exact b l hl2
  · rw [kz_plan_n (by omega) (by omega)]; exact c
  · rw [kz_plan_n (by omega) (by omega)]; exact dd d' hd'
  · rw [kz_plan_n (by omega) (by omega)]; exact f q' hq'
  · rw [kz_plan_n (by omega) (by omega)]; exact i
  · rw [kz_plan_n (by omega) (by omega)] at hm
    rw [kz_plan_n (by omega) (by omega), kz_plan_n (by omega) (by omega)]; exact j m hm
theorem kz_wf_hear {g : Nat → Nat} {P D K : Nat} {t : Nat → Nat} (h : kr_wf g P D K t) {s v : Nat} (h8 : g 108 < 8) (hs1 : 1 ≤ s) (hs : s < 4096) (hv : v ≤ 1) : kr_wf (kz_hear g s v) P D K t := by
  obtain ⟨⟨a1, a2, a3, a4, a5⟩, b, c, dd, e, f, i, j⟩ := h
  refine ⟨⟨by rw [kz_hear_n (by omega) (by omega) (by omega)]; omega, a2, a3, a4, a5⟩, fun l hl => ?_, ?_, fun d' hd' => ?_, e, fun q' hq' => ?_, ?_, fun m hm => ?_⟩
  · rw [kz_hear_n (by omega) (by omega) (by omega)] at hl
    have gk : ∀ w, w < 5 → kr_gk (kz_hear g s v) l w = kr_gk g l w := fun w h1 => kz_hear_n (by omega) (by omega) (by omega)
    rw [gk 0 (by decide), gk 1 (by decide), gk 2 (by decide), gk 3 (by decide), gk 4 (by decide)]
    exact b l hl
  · rw [kz_hear_n (by omega) (by omega) (by omega)]; exact c
  · rw [kz_hear_n (by omega) (by omega) (by omega)]; exact dd d' hd'
  · rw [kz_hear_n (by omega) (by omega) (by omega)]; exact f q' hq'
  · rw [kz_hear_0]; omega
  · rw [kz_hear_0] at hm
    by_cases em : m = g 108
    · rw [em, kz_hear_1, kz_hear_2]; exact ⟨hs1, hs, hv⟩
    · rw [kz_hear_n (by omega) (by omega) (by omega), kz_hear_n (by omega) (by omega) (by omega)]; exact j m (by omega)
theorem kz_wf_forget {g : Nat → Nat} {P D K : Nat} {t : Nat → Nat} (h : kr_wf g P D K t) {v : Nat} (hv : v ≤ g 108) : kr_wf (kx_un g 108 v) P D K t := by
  obtain ⟨⟨a1, a2, a3, a4, a5⟩, b, c, dd, e, f, i, j⟩ := h
  have hn : ∀ j, j ≠ 108 → kx_un g 108 v j = g j := fun j hj => kx_un_n _ _ hj
  refine ⟨⟨by rw [hn 0 (by omega)]; omega, a2, a3, a4, a5⟩, fun l hl => ?_, ?_, fun d' hd' => ?_, e, fun q' hq' => ?_, ?_, fun m hm => ?_⟩
  · rw [hn 0 (by omega)] at hl
    have gk : ∀ w, w < 5 → kr_gk (kx_un g 108 v) l w = kr_gk g l w := fun w h1 => hn _ (by omega)
    rw [gk 0 (by decide), gk 1 (by decide), gk 2 (by decide), gk 3 (by decide), gk 4 (by decide)]
    exact b l hl
  · rw [hn _ (by omega)]; exact c
  · rw [hn _ (by omega)]; exact dd d' hd'
  · rw [hn _ (by omega)]; exact f q' hq'
  · rw [kx_un_s]; omega
  · rw [kx_un_s] at hm
    rw [hn _ (by omega), hn _ (by omega)]; exact j m (by omega)
