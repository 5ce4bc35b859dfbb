/-! class and reference, side by side: call by call -/
/-- the numbers that both hold -/
abbrev kr_G : Type := ((Nat → Nat) × (Nat → Nat)) × (Nat × Nat × Nat) × kz_H × (Nat × (Nat → Nat)) × (Nat × Nat × Nat)
abbrev kr_G.g (σ : kr_G) : Nat → Nat := σ.1.1
abbrev kr_G.t (σ : kr_G) : Nat → Nat := σ.1.2
abbrev kr_G.P (σ : kr_G) : Nat := σ.2.1.1
abbrev kr_G.D (σ : kr_G) : Nat := σ.2.1.2.1
abbrev kr_G.K (σ : kr_G) : Nat := σ.2.1.2.2
abbrev kr_G.s (σ : kr_G) : kz_H := σ.2.2.1
abbrev kr_G.n (σ : kr_G) : Nat := σ.2.2.2.1.1
abbrev kr_G.b (σ : kr_G) : Nat → Nat := σ.2.2.2.1.2
abbrev kr_G.f (σ : kr_G) : Nat := σ.2.2.2.2.1
abbrev kr_G.r (σ : kr_G) : Nat := σ.2.2.2.2.2.1
abbrev kr_G.kp (σ : kr_G) : Nat := σ.2.2.2.2.2.2
abbrev kr_Gm (g : Nat → Nat) (t : Nat → Nat) (P : Nat) (D : Nat) (K : Nat) (s : kz_H) (n : Nat) (b : Nat → Nat) (f : Nat) (r : Nat) (kp : Nat) : kr_G := ((g, t), (P, D, K), s, (n, b), (f, r, kp))
section
variable {d : Nat} {Q : kr_Q} {μ μ' : kr_M} {g t : Nat → Nat} {P D K : Nat}
def kr_GW (σ : kr_G) : Prop := kr_wf σ.g σ.P σ.D σ.K σ.t ∧ kx_sw σ.s ∧ kx_tw σ.n σ.b ∧ kx_iw σ.g σ.P σ.D σ.K σ.t σ.kp
def kr_GC (μ : kr_M) (σ : kr_G) : Prop := kr_Rg μ 1 σ.g σ.P σ.D σ.K σ.t ∧ kr_SC μ σ.s ∧ kr_TC μ σ.n σ.b ∧ μ.1 13 3 = nI σ.f ∧ kr_Im μ σ.g σ.P σ.D σ.K σ.t σ.kp ∧ μ.1 0 11 = nI σ.r
def kr_GM (μ : kr_M) (σ : kr_G) : Prop := kr_MI μ σ.g σ.P σ.D σ.K σ.t ∧ kr_SM μ σ.s ∧ kr_TM μ σ.n σ.b ∧ μ.1 65 19 = nI σ.f ∧ kr_Mk μ σ.kp ∧ μ.1 65 44 = nI σ.r
theorem kr_SC.ro {s : kz_H} (h : kr_SC μ s) (h1 : μ'.1 41 = μ.1 41) (h2 : μ'.1 42 = μ.1 42) (h3 : μ'.1 43 = μ.1 43) : kr_SC μ' s := by
  intro k hk
  rw [h1, h2, h3]
  exact h k hk
theorem kr_SM.ro {s : kz_H} (h : kr_SM μ s) (h1 : μ'.1 83 = μ.1 83) (h2 : μ'.1 84 = μ.1 84) (h3 : μ'.1 85 = μ.1 85) : kr_SM μ' s := by
  intro k hk
  rw [h1, h2, h3]
  exact h k hk
theorem kr_TC.ro {n : Nat} {b : Nat → Nat} (h : kr_TC μ n b) (h1 : μ'.1 11 = μ.1 11) (h2 : μ'.1 12 = μ.1 12) : kr_TC μ' n b := by
  unfold kr_TC
  rw [h1, h2]
  exact h
theorem kr_TM.ro {n : Nat} {b : Nat → Nat} (h : kr_TM μ n b) (h1 : μ'.1 65 14 = μ.1 65 14) (h2 : μ'.1 71 = μ.1 71) : kr_TM μ' n b := by
  unfold kr_TM
  rw [h1, h2]
  exact h
theorem kr_Mk.ro {kp : Nat} (h : kr_Mk μ kp) (h1 : μ'.1 67 = μ.1 67) : kr_Mk μ' kp := by
  unfold kr_Mk
  rw [h1]
  exact h
theorem kr_MI.ro (h : kr_MI μ g P D K t) (h1 : μ'.1 66 = μ.1 66) (h2 : μ'.1 68 = μ.1 68) (h3 : μ'.1 65 2 = μ.1 65 2 ∧ μ'.1 65 3 = μ.1 65 3 ∧ μ'.1 65 4 = μ.1 65 4 ∧ μ'.1 65 29 = μ.1 65 29) : kr_MI μ' g P D K t := by
  unfold kr_MI kr_Mg kr_PM
  rw [h1, h2, h3.1, h3.2.1, h3.2.2.1, h3.2.2.2]
  exact h
theorem kr_Im.ro {kp : Nat} (h : kr_Im μ g P D K t kp) (h0 : μ'.1 0 10 = μ.1 0 10) (h1 : ∀ o, 45 ≤ o → o ≤ 64 → μ'.1 o = μ.1 o ∧ μ'.2 o = μ.2 o) : kr_Im μ' g P D K t kp := by
  refine ⟨h0.trans h.1, fun k hk hb => (h.2 k hk hb).mem (fun a h2 h3 => (h1 a (by omega) (by omega)).1) (h1 _ (by omega) (by omega)).2⟩
theorem kx_im_hi {g' : Nat → Nat} {k : Nat} (h : ∀ j, 125 ≤ j → g' j = g j) : kx_im g' k = kx_im g k := funext fun j => h _ (by omega)
theorem kx_iw.hi {g' : Nat → Nat} {kp : Nat} (h : kx_iw g P D K t kp) (he : ∀ j, 125 ≤ j → g' j = g j) : kx_iw g' P D K t kp :=
  ⟨h.1, fun k hk hb => by rw [kx_im_hi he]; exact h.2 k hk hb⟩
theorem kr_Im.hi {g' : Nat → Nat} {kp : Nat} (h : kr_Im μ g P D K t kp) (he : ∀ j, 125 ≤ j → g' j = g j) : kr_Im μ g' P D K t kp :=
  ⟨h.1, fun k hk hb => by rw [kx_im_hi he]; exact h.2 k hk hb⟩
/-- what stays beside -/
theorem kr_GC.q {W : List Nat} {F : List (Nat × Nat)} {σ : kr_G} (h : kr_GC μ σ) (k : kr_keep W F μ μ') (hc : (∀ o ∈ W, (24 ≤ o ∧ o ≤ 40) ∨ 65 ≤ o) ∧ ∀ q ∈ F, (24 ≤ q.1 ∧ q.1 ≤ 40) ∨ 65 ≤ q.1) : kr_GC μ' σ := by
  have e : ∀ o, (o < 24 ∨ (40 < o ∧ o < 65)) → μ'.1 o = μ.1 o := fun o ho => k.row (fun z => by have := hc.1 o z; omega) (fun q hq z => by have := hc.2 q hq; omega)
  have e2 : μ'.2 = μ.2 := k.1
  obtain ⟨a, b, c, f, i, r⟩ := h
  exact ⟨a.mem (fun o h1 h2 => e o (by omega)) (by rw [e2]), b.ro (e 41 (by omega)) (e 42 (by omega)) (e 43 (by omega)), c.ro (e 11 (by omega)) (e 12 (by omega)), by rw [e 13 (by omega)]; exact f, i.ro (by rw [e 0 (by omega)]) (fun o h1 h2 => ⟨e o (by omega), by rw [e2]⟩), by rw [e 0 (by omega)]; exact r⟩
theorem kr_GM.lo {σ : kr_G} (h : kr_GM μ σ) (e : ∀ o, 65 ≤ o → μ'.1 o = μ.1 o) : kr_GM μ' σ := by
  obtain ⟨a, b, c, f, i, r⟩ := h
  have e65 := e 65 (by omega)
  exact ⟨a.ro (e 66 (by omega)) (e 68 (by omega)) ⟨by rw [e65], by rw [e65], by rw [e65], by rw [e65]⟩, b.ro (e 83 (by omega)) (e 84 (by omega)) (e 85 (by omega)), c.ro (by rw [e65]) (e 71 (by omega)), by rw [e65]; exact f, i.ro (e 67 (by omega)), by rw [e65]; exact r⟩
theorem kr_GM.c {W : List Nat} {F : List (Nat × Nat)} {σ : kr_G} (h : kr_GM μ σ) (k : kr_keep W F μ μ') (hc : (∀ o ∈ W, o < 65) ∧ ∀ q ∈ F, q.1 < 65) : kr_GM μ' σ :=
  h.lo (fun o ho => k.row (fun z => by have := hc.1 o z; omega) (fun q hq z => by have := hc.2 q hq; omega))
theorem kr_GM.q {W : List Nat} {F : List (Nat × Nat)} {σ : kr_G} (h : kr_GM μ σ) (k : kr_keep W F μ μ') (hc : (∀ o ∈ W, 72 ≤ o ∧ o ≤ 82) ∧ ∀ q ∈ F, q.1 = 65 ∧ q.2 ∉ [2, 3, 4, 14, 19, 29, 44]) : kr_GM μ' σ := by
  have e : ∀ o, (65 < o ∧ o < 72) ∨ 82 < o → μ'.1 o = μ.1 o := fun o ho => k.row (fun z => by have := hc.1 o z; omega) (fun q hq z => by have := (hc.2 q hq).1; omega)
  have e65 : ∀ j, j ∈ [2, 3, 4, 14, 19, 29, 44] → μ'.1 65 j = μ.1 65 j := fun j hj => k.2 65 j (fun z => by have := hc.1 65 z; omega) (fun z => (hc.2 _ z).2 hj)
  obtain ⟨a, b, c, f, i, r⟩ := h
  exact ⟨a.ro (e 66 (by omega)) (e 68 (by omega)) ⟨e65 2 (by decide), e65 3 (by decide), e65 4 (by decide), e65 29 (by decide)⟩, b.ro (e 83 (by omega)) (e 84 (by omega)) (e 85 (by omega)), c.ro (e65 14 (by decide)) (e 71 (by omega)), by rw [e65 19 (by decide)]; exact f, i.ro (e 67 (by omega)), by rw [e65 44 (by decide)]; exact r⟩
/-- both answer the same, and hold the same again -/
def kr_pair (yC yM : Nat) (as : List Value) : Prop := ∀ σ μ, kr_GW σ → kr_GC μ σ → kr_GM μ σ → ∃ (a : Int32) (σ' : kr_G), kr_GW σ' ∧ (∀ Q : kr_Q, (∀ μ', kr_GC μ' σ' → kr_GM μ' σ → Q (some (.int a)) μ') → kr_c 40 yC (.ref 0 :: as) μ Q) ∧ ∀ μ', kr_GC μ' σ' → kr_GM μ' σ → ∀ Q : kr_Q, (∀ μ'', kr_GC μ'' σ' → kr_GM μ'' σ' → Q (some (.int a)) μ'') → kr_c 40 yM (.ref 65 :: as) μ' Q
theorem kr_GC.hb {σ : kr_G} (h : kr_GC μ σ) : kr_Hc μ σ.g := by
  obtain ⟨⟨⟨-, -, -, -, -, a6⟩, -, -, -, -, -, h10, c, c1, c2, c3⟩, -⟩ := h
  exact ⟨a6, h10, c, c1, c2, c3⟩
theorem kr_wf.hb (h : kr_wf g P D K t) : kx_hb g := h.2.2.2.2.2.2
theorem kr_GM.q29 {W : List Nat} {F : List (Nat × Nat)} {σ : kr_G} (h : kr_GM μ σ) (k : kr_keep W F μ μ') (hc : (∀ o ∈ W, 72 ≤ o ∧ o ≤ 82) ∧ ∀ q ∈ F, q.1 = 65 ∧ q.2 ∉ [2, 3, 4, 14, 19, 44]) (h29 : μ'.1 65 29 = nI 0) : kr_GM μ' σ := by
  have e : ∀ o, (65 < o ∧ o < 72) ∨ 82 < o → μ'.1 o = μ.1 o := fun o ho => k.row (fun z => by have := hc.1 o z; omega) (fun q hq z => by have := (hc.2 q hq).1; omega)
  have e65 : ∀ j, j ∈ [2, 3, 4, 14, 19, 44] → μ'.1 65 j = μ.1 65 j := fun j hj => k.2 65 j (fun z => by have := hc.1 65 z; omega) (fun z => (hc.2 _ z).2 hj)
  obtain ⟨a, b, c, f, i, r⟩ := h
  exact ⟨a.ro (e 66 (by omega)) (e 68 (by omega)) ⟨e65 2 (by decide), e65 3 (by decide), e65 4 (by decide), h29.trans a.2.2.2.2.symm⟩, b.ro (e 83 (by omega)) (e 84 (by omega)) (e 85 (by omega)), c.ro (e65 14 (by decide)) (e 71 (by omega)), by rw [e65 19 (by decide)]; exact f, i.ro (e 67 (by omega)), by rw [e65 44 (by decide)]; exact r⟩
theorem pp_rule {x : Int32} : kr_pair i_C_rule i_M_rule [.int x] := fun σ μ hw hC hM => ⟨ax_rule σ.g σ.P σ.D σ.K x, σ, hw, fun Q k => c_C_rule hC.1 (k μ hC hM), fun μ1 hC' hM' Q k => c_M_rule hM'.1 (k μ1 hC' hM')⟩
theorem pp_line {x y : Int32} : kr_pair i_C_line i_M_line [.int x, .int y] := fun σ μ hw hC hM => ⟨ax_line σ.g x y, σ, hw, fun Q k => c_C_line hw.1 hC.1 (k μ hC hM), fun μ1 hC' hM' Q k => c_M_line hw.1 hM'.1.1 (k μ1 hC' hM')⟩
theorem pp_chalk {x : Int32} : kr_pair i_C_chalk i_M_chalk [.int x] := fun σ μ hw hC hM => ⟨ax_chalk σ.g σ.D x, σ, hw, fun Q k => c_C_chalk hw.1 hC.1 (k μ hC hM), fun μ1 hC' hM' Q k => c_M_chalk hw.1 hM'.1.1 hM'.1.2.2.2.1 (k μ1 hC' hM')⟩
theorem pp_one {x y : Int32} : kr_pair i_C_one i_M_one [.int x, .int y] := fun σ μ hw hC hM => ⟨ax_one σ.t σ.K x y, σ, hw, fun Q k => c_C_one hw.1 hC.1 (k μ hC hM), fun μ1 hC' hM' Q k => c_M_one hw.1 hM'.1.2.1 (k μ1 hC' hM')⟩
theorem pp_rain {x : Int32} : kr_pair i_C_rain i_M_rain [.int x] := fun σ μ hw hC hM => ⟨ax_rain σ.g x, σ, hw, fun Q k => c_C_rain hw.1 hC.1 (k μ hC hM), fun μ1 hC' hM' Q k => c_M_rain hM'.1.1 (k μ1 hC' hM')⟩
theorem pp_way {x y z : Int32} : kr_pair i_C_way i_M_way [.int x, .int y, .int z] := fun σ μ hw hC hM => ⟨kx_way σ.g σ.P x y z, σ, hw, fun Q k => c_C_way hC.1.Wy hw.1.gb hC.1.1.1 hw.1.1.2.2.1 (fun μ2 hk => k μ2 (hC.q hk (by decide)) (hM.c hk (by decide))), fun μ1 hC' hM' Q k => c_M_way hM'.1.1 hw.1.gb hM'.1.2.2.1 hw.1.1.2.2.1 (fun μ2 hk => k μ2 (hC'.q hk (by decide)) (hM'.q hk (by decide)))⟩
theorem pp_part {x : Int32} : kr_pair i_C_part i_M_part [.int x] := fun σ μ hw hC hM => ⟨kx_part σ.g σ.P x, σ, hw, fun Q k => c_C_part hC.1.Wy hw.1.gb hC.1.1.1 hw.1.1.2.2.1 (k μ hC hM), fun μ1 hC' hM' Q k => c_M_part hM'.1.1 hw.1.gb hM'.1.2.2.1 hw.1.1.2.2.1 (k μ1 hC' hM')⟩
theorem pp_meet {x : Int32} : kr_pair i_C_meet i_M_meet [.int x] := fun σ μ hw hC hM => ⟨kx_meetC σ.g x, σ, hw, fun Q k => c_C_meet hC.1.Wy hw.1.gb (k μ hC hM), fun μ1 hC' hM' Q k => c_M_meet hM'.1.1 hw.1.gb (k μ1 hC' hM')⟩
theorem pp_needed : kr_pair i_C_needed i_M_needed [] := fun σ μ hw hC hM => ⟨kx_needed σ.g, σ, hw, fun Q k => c_C_needed hC.1.Wy hw.1.gb (k μ hC hM), fun μ1 hC' hM' Q k => c_M_needed hM'.1.1 hw.1.gb (k μ1 hC' hM')⟩
theorem pp_where {x y : Int32} : kr_pair i_C_where i_M_where [.int x, .int y] := fun σ μ hw hC hM => ⟨ax_where σ.g σ.t σ.K x y, σ, hw, fun Q k => c_C_where hw.1 hC.1 (fun μ2 hk => k μ2 (hC.q hk (by decide)) (hM.c hk (by decide))), fun μ1 hC' hM' Q k => c_M_where hw.1 hM'.1 (fun μ2 hk => k μ2 (hC'.q hk (by decide)) (hM'.q hk (by decide)))⟩
theorem pp_strength {x y : Int32} : kr_pair i_C_strength i_M_strength [.int x, .int y] := fun σ μ hw hC hM => ⟨ax_strength σ.g σ.t σ.K x y, σ, hw, fun Q k => c_C_strength hw.1 hC.1 (fun μ2 hk => k μ2 (hC.q hk (by decide)) (hM.c hk (by decide))), fun μ1 hC' hM' Q k => c_M_strength hw.1 hM'.1 (fun μ2 hk => k μ2 (hC'.q hk (by decide)) (hM'.q hk (by decide)))⟩
theorem pp_comes {x : Int32} : kr_pair i_C_comes i_M_comes [.int x] := fun σ μ hw hC hM => ⟨ax_comes σ.g σ.t σ.K x, σ, hw, fun Q k => c_C_comes hw.1 hC.1 (fun μ2 hk => k μ2 (hC.q hk (by decide)) (hM.c hk (by decide))), fun μ1 hC' hM' Q k => c_M_comes hw.1 hM'.1 (fun μ2 hk => k μ2 (hC'.q hk (by decide)) (hM'.q hk (by decide)))⟩
theorem pp_waited {x y : Int32} : kr_pair i_C_waited i_M_waited [.int x, .int y] := fun σ μ hw hC hM => ⟨ax_waited σ.g σ.t σ.K x y, σ, hw, fun Q k => c_C_waited hw.1 hC.1 (fun μ2 hk => k μ2 (hC.q hk (by decide)) (hM.c hk (by decide))), fun μ1 hC' hM' Q k => c_M_waited hw.1 hM'.1 (fun μ2 hk => k μ2 (hC'.q hk (by decide)) (hM'.q hk (by decide)))⟩
theorem pp_lost {x : Int32} : kr_pair i_C_lost i_M_lost [.int x] := fun σ μ hw hC hM => ⟨ax_lost σ.g σ.t σ.K x, σ, hw, fun Q k => c_C_lost hw.1 hC.1 (fun μ2 hk => k μ2 (hC.q hk (by decide)) (hM.c hk (by decide))), fun μ1 hC' hM' Q k => c_M_lost hw.1 hM'.1 (fun μ2 hk => k μ2 (hC'.q hk (by decide)) (hM'.q hk (by decide)))⟩
theorem pp_storm {x : Int32} : kr_pair i_C_storm i_M_storm [.int x] := fun σ μ hw hC hM => ⟨ax_storm σ.g σ.t σ.K x, σ, hw, fun Q k => c_C_storm hw.1 hC.1 (fun μ2 hk => k μ2 (hC.q hk (by decide)) (hM.c hk (by decide))), fun μ1 hC' hM' Q k => c_M_storm hw.1 hM'.1 (fun μ2 hk => k μ2 (hC'.q hk (by decide)) (hM'.q hk (by decide)))⟩
theorem pp_worst {x : Int32} : kr_pair i_C_worst i_M_worst [.int x] := fun σ μ hw hC hM => ⟨ax_worst σ.g σ.t σ.K x, σ, hw, fun Q k => c_C_worst hw.1 hC.1 (fun μ2 hk => k μ2 (hC.q hk (by decide)) (hM.c hk (by decide))), fun μ1 hC' hM' Q k => c_M_worst hw.1 hM'.1 (fun μ2 hk h29 => k μ2 (hC'.q hk (by decide)) (hM'.q29 hk (by decide) h29))⟩
theorem pp_dawn {x : Int32} : kr_pair i_C_dawn i_M_dawn [.int x] := fun σ μ hw hC hM => ⟨kx_dawn σ.g false x, σ, hw, fun Q k => c_C_dawn hC.1.Wy hw.1.gb (fun μ2 hk => k μ2 (hC.q hk (by decide)) (hM.c hk (by decide))), fun μ1 hC' hM' Q k => c_M_dawn hM'.1.1 hw.1.gb (k μ1 hC' hM')⟩
theorem pp_sure {x : Int32} : kr_pair i_C_sure i_M_sure [.int x] := fun σ μ hw hC hM => ⟨kx_dawn σ.g true x, σ, hw, fun Q k => c_C_sure hC.1.Wy hw.1.gb (fun μ2 hk => k μ2 (hC.q hk (by decide)) (hM.c hk (by decide))), fun μ1 hC' hM' Q k => c_M_sure hM'.1.1 hw.1.gb (k μ1 hC' hM')⟩
theorem pp_share {x y : Int32} : kr_pair i_C_share i_M_share [.int x, .int y] := fun σ μ hw hC hM => ⟨ax_share σ.g σ.D x y, σ, hw, fun Q k => c_C_share hC.1.Wy hw.1.gb hC.1.1.2.2.2.1 hw.1.1.2.2.2.1 hw.1.2.2.2.1 hC.1.2.2.2.1 (fun μ2 hk => k μ2 (hC.q hk (by decide)) (hM.c hk (by decide))), fun μ1 hC' hM' Q k => c_M_share hM'.1.1 hw.1.gb hM'.1.2.2.2.1 hw.1.1.2.2.2.1 hw.1.2.2.2.1 (fun μ2 hk => k μ2 (hC'.q hk (by decide)) (hM'.q hk (by decide)))⟩
theorem pp_breaks {x : Int32} : kr_pair i_C_breaks i_M_breaks [.int x] := fun σ μ hw hC hM => ⟨ax_breaks σ.g x, σ, hw, fun Q k => c_C_breaks hC.1.1.2.2.1 hw.1.1.1 hC.hb hw.1.hb (fun μ2 hk => k μ2 (hC.q hk (by decide)) (hM.c hk (by decide))), fun μ1 hC' hM' Q k => c_M_breaks hM'.1.1 hw.1.1.1 hw.1.hb (fun μ2 hk => k μ2 (hC'.q hk (by decide)) (hM'.q hk (by decide)))⟩
theorem pp_known {x : Int32} : kr_pair i_C_known i_M_known [.int x] := fun σ μ hw hC hM => ⟨ax_known σ.g x, σ, hw, fun Q k => c_C_known hC.1.1.2.2.1 hw.1.1.1 hC.hb hw.1.hb (fun μ2 hk => k μ2 (hC.q hk (by decide)) (hM.c hk (by decide))), fun μ1 hC' hM' Q k => c_M_known hM'.1.1 hw.1.1.1 hw.1.hb (fun μ2 hk => k μ2 (hC'.q hk (by decide)) (hM'.q hk (by decide)))⟩
theorem pp_ask {x : Int32} : kr_pair i_C_ask i_M_ask [.int x] := fun σ μ hw hC hM => ⟨ax_ask σ.g x, σ, hw, fun Q k => c_C_ask hC.1.1.2.2.1 hw.1.1.1 hC.hb hw.1.hb (fun μ2 hk => k μ2 (hC.q hk (by decide)) (hM.c hk (by decide))), fun μ1 hC' hM' Q k => c_M_ask hM'.1.1 hw.1.1.1 hw.1.hb (fun μ2 hk => k μ2 (hC'.q hk (by decide)) (hM'.q hk (by decide)))⟩
theorem pp_count {x : Int32} : kr_pair i_C_count i_M_count [.int x] := fun σ μ hw hC hM => ⟨ax_count σ.g σ.kp σ.n σ.s x, σ, hw, fun Q k => c_C_count hw.1 hC.1 hC.2.2.2.2.1.1 hw.2.2.2.1 hC.2.2.1 hC.2.1 hw.2.1 (k μ hC hM), fun μ1 hC' hM' Q k => c_M_count hw.1 hM'.1.1 hM'.2.2.2.2.1 hw.2.2.2.1 hM'.2.2.1 hM'.2.1 hw.2.1 (k μ1 hC' hM')⟩
theorem pp_fault : kr_pair i_C_fault i_M_fault [] := fun σ μ hw hC hM => ⟨nI σ.f, σ, hw, fun Q k => v_C_fault (d := 39) (by rw [hC.2.2.2.1]; exact k μ hC hM), fun μ1 hC' hM' Q k => v_M_fault (d := 39) (by rw [hM'.2.2.2.1]; exact k μ1 hC' hM')⟩
theorem pp_torn : kr_pair i_C_torn i_M_torn [] := fun σ μ hw hC hM => ⟨nI σ.r, σ, hw, fun Q k => v_C_torn (d := 39) (by rw [hC.2.2.2.2.2]; exact k μ hC hM), fun μ1 hC' hM' Q k => v_M_torn (d := 39) (by rw [hM'.2.2.2.2.2]; exact k μ1 hC' hM')⟩
/-- calls that change the numbers alone -/
theorem kr_pairg {yC yM : Nat} {as : List Value} (G : kr_G → Int32 × (Nat → Nat)) (h1 : ∀ σ, kr_GW σ → kr_wf (G σ).2 σ.P σ.D σ.K σ.t ∧ ∀ j, 125 ≤ j → (G σ).2 j = σ.g j) (hC : ∀ σ μ, kr_GW σ → kr_GC μ σ → ∀ Q : kr_Q, (∀ μ', kr_fR μ μ' → kr_Rg μ' 1 (G σ).2 σ.P σ.D σ.K σ.t → Q (some (.int (G σ).1)) μ') → kr_c 40 yC (.ref 0 :: as) μ Q) (hM : ∀ σ μ, kr_GW σ → kr_GM μ σ → ∀ Q : kr_Q, (∀ μ', kr_keep [66] [] μ μ' → kr_Mg μ' (G σ).2 → Q (some (.int (G σ).1)) μ') → kr_c 40 yM (.ref 65 :: as) μ Q) : kr_pair yC yM as := by
  intro σ μ hw h h'
  obtain ⟨w1, w2⟩ := h1 σ hw
  refine ⟨(G σ).1, (kr_Gm ((G σ).2) σ.t σ.P σ.D σ.K σ.s σ.n σ.b σ.f σ.r σ.kp), ⟨w1, hw.2.1, hw.2.2.1, hw.2.2.2.hi w2⟩, fun Q k => hC σ μ hw h Q (fun μ1 hf hR => k μ1 ?_ ?_), fun μ1 g1 g2 Q k => hM σ μ1 hw g2 Q (fun μ2 hk hg => k μ2 ?_ ?_)⟩
  · obtain ⟨-, b, c, f, i, r⟩ := h
    have e : ∀ o, o = 0 ∨ 10 < o → μ1.1 o = μ.1 o := hf.1
    exact ⟨hR, b.ro (e 41 (by omega)) (e 42 (by omega)) (e 43 (by omega)), c.ro (e 11 (by omega)) (e 12 (by omega)), by rw [e 13 (by omega)]; exact f, (i.hi w2).ro (by rw [e 0 (by omega)]) (fun o z1 z2 => ⟨e o (by omega), hf.2 o (by omega)⟩), by rw [e 0 (by omega)]; exact r⟩
  · exact h'.lo (fun o ho => hf.1 o (by omega))
  · exact g1.q hk (by decide)
  · obtain ⟨⟨a1, a2⟩, b, c, f, i, r⟩ := g2
    have e : ∀ o, o ≠ 66 → μ2.1 o = μ1.1 o := fun o ho => hk.row (by simpa using ho) (fun q hq => by cases hq)
    have e65 := e 65 (by decide)
    refine ⟨⟨hg, ?_⟩, b.ro (e 83 (by decide)) (e 84 (by decide)) (e 85 (by decide)), c.ro (by rw [e65]) (e 71 (by decide)), by rw [e65]; exact f, i.ro (e 67 (by decide)), by rw [e65]; exact r⟩
    show kr_PM μ2 σ.K σ.t ∧ _
    unfold kr_PM
    rw [e65, e 68 (by decide)]
    exact a2
theorem pp_draw {x y : Int32} : kr_pair i_C_draw i_M_draw [.int x, .int y] := by
  refine kr_pairg (fun σ => pz_draw σ.g σ.D x y) (fun σ hw => ?_) (fun σ μ hw hC Q k => c_C_draw hw.1 hC.1 (fun μ' hk hR => k μ' (hk.fR (by decide)) hR)) (fun σ μ hw hM Q k => c_M_draw hw.1 hM.1.1 hM.1.2.2.2.1 k)
  have hD := hw.1.1.2.2.2.1
  have hN := hw.1.1.1
  show kr_wf (pz_draw σ.g σ.D x y).2 _ _ _ _ ∧ ∀ j, _ → (pz_draw σ.g σ.D x y).2 j = _
  unfold pz_draw
  by_cases c : (0 ≤ x ∧ x < nI σ.D) ∧ (0 ≤ y ∧ y < nI (σ.g 0))
  · rw [if_pos c]
    obtain ⟨e, he, rfl⟩ := kr_ix (by omega) c.1
    obtain ⟨l, hl, rfl⟩ := kr_ix (by omega) c.2
    rw [nI_clamp (by omega), nI_clamp (by omega)]
    split
    · refine ⟨kz_wf_draw hw.1 he hl, fun j hj => ?_⟩
      show kz_draw σ.g e l j = _
      unfold kz_draw
      rw [kx_un_n _ _ (by omega), kx_un_n _ _ (by omega)]
    · exact ⟨hw.1, fun j hj => rfl⟩
  · rw [if_neg c]
    exact ⟨hw.1, fun j hj => rfl⟩
theorem pp_rub {x y : Int32} : kr_pair i_C_rub i_M_rub [.int x, .int y] := by
  refine kr_pairg (fun σ => pz_rub σ.g x y) (fun σ hw => ?_) (fun σ μ hw hC Q k => c_C_rub hw.1 hC.1 (fun μ' hk hR => k μ' (hk.fR (by decide)) hR)) (fun σ μ hw hM Q k => c_M_rub hw.1 hM.1.1 k)
  have hN := hw.1.1.1
  show kr_wf (pz_rub σ.g x y).2 _ _ _ _ ∧ ∀ j, _ → (pz_rub σ.g x y).2 j = _
  unfold pz_rub
  by_cases c : (0 ≤ x ∧ x < nI (σ.g 0)) ∧ (0 ≤ y ∧ y ≤ 9)
  · rw [if_pos c]
    obtain ⟨e, he, rfl⟩ := kr_ix (by omega) c.1
    obtain ⟨l, hl, rfl⟩ := kr_ixm (n := 9) (by decide) c.2
    rw [nI_clamp (by omega), nI_clamp (by omega)]
    refine ⟨kz_wf_rub hw.1 he hl, fun j hj => ?_⟩
    show kz_rub σ.g e l j = _
    unfold kz_rub
    rw [kx_un_n _ _ (by omega)]
  · rw [if_neg c]
    exact ⟨hw.1, fun j hj => rfl⟩
theorem pp_wet : kr_pair i_C_wet i_M_wet [] := by
  refine kr_pairg (fun σ => (nI (kz_wetA σ.g), kz_wet σ.g)) (fun σ hw => ⟨kz_wf_wet hw.1, fun j hj => ?_⟩) (fun σ μ hw hC Q k => c_C_wet hw.1 hC.1 (fun μ' hk hR => k μ' (hk.fR (by decide)) hR)) (fun σ μ hw hM Q k => c_M_wet hw.1 hM.1.1 k)
  have hN := hw.1.1.1
  exact if_neg (fun z => by omega)
theorem pp_cloud {x z : Int32} : kr_pair i_C_cloud i_M_cloud [.int x, .int z] := by
  refine kr_pairg (fun σ => pz_cloud σ.g x z) (fun σ hw => ?_) (fun σ μ hw hC Q k => c_C_cloud hw.1 hC.1 k) (fun σ μ hw hM Q k => c_M_cloud hM.1.1 k)
  show kr_wf (pz_cloud σ.g x z).2 _ _ _ _ ∧ ∀ j, _ → (pz_cloud σ.g x z).2 j = _
  unfold pz_cloud
  by_cases c : (1 : Int32) ≤ x ∧ x ≤ 40
  · rw [if_pos c]
    obtain ⟨q, hq, rfl⟩ := kr_ixm (n := 40) (by decide) ⟨Int32.le_trans (by decide) c.1, c.2⟩
    rw [nI_clamp (by omega)]
    refine ⟨kz_wf_cloud hw.1 (by omega) (by split <;> decide), fun j hj => ?_⟩
    show kx_un σ.g (67 + q) _ j = _
    rw [kx_un_n _ _ (by omega)]
  · rw [if_neg c]
    exact ⟨hw.1, fun j hj => rfl⟩
theorem pp_build {x z : Int32} : kr_pair i_C_build i_M_build [.int x, .int z] := by
  refine kr_pairg (fun σ => pz_build σ.g σ.P x z) (fun σ hw => ?_) (fun σ μ hw hC Q k => c_C_build hw.1 hC.1 k) (fun σ μ hw hM Q k => c_M_build hw.1 hM.1.1 hM.1.2.2.1 k)
  have hP := hw.1.1.2.2.1
  have h61 := hw.1.2.2.1
  show kr_wf (pz_build σ.g σ.P x z).2 _ _ _ _ ∧ ∀ j, _ → (pz_build σ.g σ.P x z).2 j = _
  unfold pz_build
  by_cases c : 0 ≤ x ∧ x < nI σ.P
  · rw [if_pos c]
    obtain ⟨v, hv, rfl⟩ := kr_ix (by omega) c
    rw [nI_clamp (by omega)]
    refine ⟨kz_wf_build hw.1 ?_, fun j hj => ?_⟩
    · have p9 : 2 ^ σ.P ≤ 2 ^ 9 := Nat.pow_le_pow_right (by decide) hP
      split
      · exact Nat.lt_of_le_of_lt (kr_cl_le (by omega)) h61
      · exact Nat.or_lt_two_pow h61 (Nat.pow_lt_pow_right (by decide) hv)
    · show kx_un σ.g 61 _ j = _
      rw [kx_un_n _ _ (by omega)]
  · rw [if_neg c]
    exact ⟨hw.1, fun j hj => rfl⟩
theorem pp_plan {x y w : Int32} : kr_pair i_C_plan i_M_plan [.int x, .int y, .int w] := by
  refine kr_pairg (fun σ => pz_plan σ.g σ.P x y w) (fun σ hw => ?_) (fun σ μ hw hC Q k => c_C_plan hw.1 hC.1 k) (fun σ μ hw hM Q k => c_M_plan hw.1 hM.1.1 hM.1.2.2.1 k)
  have hP := hw.1.1.2.2.1
  have hN := hw.1.1.1
  show kr_wf (pz_plan σ.g σ.P x y w).2 _ _ _ _ ∧ ∀ j, _ → (pz_plan σ.g σ.P x y w).2 j = _
  unfold pz_plan
  by_cases c : ((0 ≤ x ∧ x < nI σ.P) ∧ (0 ≤ y ∧ y < nI σ.P)) ∧ (¬ x = y ∧ (1 : Int32) ≤ w ∧ w ≤ 9)
  · rw [if_pos c]
    obtain ⟨⟨c1, c2⟩, c3, c4, c5⟩ := c
    obtain ⟨e, he, rfl⟩ := kr_ix (by omega) c1
    obtain ⟨l, hl, rfl⟩ := kr_ix (by omega) c2
    obtain ⟨v, hv, rfl⟩ := kr_ixm (n := 9) (by decide) ⟨Int32.le_trans (by decide) c4, c5⟩
    rw [nI_clamp (by omega), nI_clamp (by omega), nI_clamp (by omega)]
    split
    · exact ⟨hw.1, fun j hj => rfl⟩
    · refine ⟨kz_wf_plan hw.1 (by omega) he hl (fun z => c3 (by rw [z])) ?_ hv, fun j hj => ?_⟩
      · rw [show (1 : Int32) = nI 1 from rfl, nI_leI (by decide) (by omega)] at c4
        exact c4
      · show kz_plan σ.g e l v j = _
        unfold kz_plan
        rw [kx_un_n _ _ (by omega), kx_un_n _ _ (by omega), kx_un_n _ _ (by omega), kx_un_n _ _ (by omega), kx_un_n _ _ (by omega), kx_un_n _ _ (by omega)]
  · rw [if_neg c]
    exact ⟨hw.1, fun j hj => rfl⟩
theorem pz_hear_hi {x z : Int32} (hw : kr_wf g P D K t) : ∀ j, 125 ≤ j → (pz_hear g x z).2 j = g j := by
  intro j hj
  have h8 := hw.2.2.2.2.2.2.1
  unfold pz_hear
  split
  · split
    · rfl
    · show kz_hear g _ _ j = _
      unfold kz_hear
      rw [kx_un_n _ _ (by omega), kx_un_n _ _ (by omega), kx_un_n _ _ (by omega)]
  · rfl
theorem pp_hear {x z : Int32} : kr_pair i_C_hear i_M_hear [.int x, .int z] :=
  kr_pairg (fun σ => pz_hear σ.g x z) (fun σ hw => ⟨pz_hear_wf hw.1, pz_hear_hi hw.1⟩) (fun σ μ hw hC Q k => c_C_hear hw.1 hC.1 k) (fun σ μ hw hM Q k => c_M_hear hw.1 hM.1.1 k)
theorem pp_forget {x : Int32} : kr_pair i_C_forget i_M_forget [.int x] := by
  refine kr_pairg (fun σ => pz_forget σ.g x) (fun σ hw => ?_) (fun σ μ hw hC Q k => c_C_forget hw.1 hC.1 k) (fun σ μ hw hM Q k => c_M_forget hw.1 hM.1.1 k)
  have h8 := hw.1.2.2.2.2.2.2.1
  show kr_wf (pz_forget σ.g x).2 _ _ _ _ ∧ ∀ j, _ → (pz_forget σ.g x).2 j = _
  unfold pz_forget
  by_cases c : 0 ≤ x ∧ x ≤ nI (σ.g 108)
  · rw [if_pos c]
    obtain ⟨v, hv, rfl⟩ := kr_ixm (by omega) c
    rw [nI_clamp (by omega)]
    refine ⟨kz_wf_forget hw.1 hv, fun j hj => ?_⟩
    show kx_un σ.g 108 _ j = _
    rw [kx_un_n _ _ (by omega)]
  · rw [if_neg c]
    exact ⟨hw.1, fun j hj => rfl⟩
theorem pp_back {x : Int32} : kr_pair i_C_back i_M_back [.int x] := by
  refine kr_pairg (fun σ => pz_back σ.g σ.kp x) (fun σ hw => ⟨(kx_iw_back hw.1 hw.2.2.2).2, fun j hj => ?_⟩) (fun σ μ hw hC Q k => c_C_back hC.1 hC.2.2.2.2.1 hw.2.2.2 (fun μ' hf hR => k μ' ⟨fun o ho => hf.1 o (by omega), hf.2⟩ hR)) (fun σ μ hw hM Q k => c_M_back hM.1.1 hM.2.2.2.2.1 k)
  show (pz_back σ.g σ.kp x).2 j = _
  unfold pz_back
  split
  · split
    · exact if_neg (by omega)
    · rfl
  · rfl
theorem kz_rd_hi {f : Int32} {s : kz_H} {k : Nat} : ∀ m i g, kr_wf g P D K t → ∀ j, 125 ≤ j → (kz_rd f s k m i g).2.1 j = g j := by
  intro m
  induction m with
  | zero => intro i g h j hj; rfl
  | succ m ih =>
    intro i g h j hj
    unfold kz_rd
    split
    · split
      · rw [ih _ _ (pz_hear_wf h) j hj]
        exact pz_hear_hi h j hj
      · show kx_un g 108 _ j = _
        rw [kx_un_n _ _ (by omega)]
    · rfl
theorem pz_read_hi {s : kz_H} {x y f n : Int32} (h : kr_wf g P D K t) : ∀ j, 125 ≤ j → (pz_read g s x y f n).2.1 j = g j := by
  intro j hj
  unfold pz_read
  split
  · split
    · rfl
    · split
      · rfl
      · split
        · rfl
        · exact kz_rd_hi _ _ _ h j hj
  · rfl
theorem pp_read {x y z w : Int32} : kr_pair i_C_read i_M_read [.int x, .int y, .int z, .int w] := by
  intro σ μ hw h h'
  have w2 := pz_read_hi (s := σ.s) (x := x) (y := y) (f := z) (n := w) hw.1
  refine ⟨(pz_read σ.g σ.s x y z w).1, (kr_Gm ((pz_read σ.g σ.s x y z w).2.1) σ.t σ.P σ.D σ.K σ.s σ.n σ.b σ.f (kz_tn σ.r (pz_read σ.g σ.s x y z w).2.2) σ.kp), ⟨pz_read_wf hw.1, hw.2.1, hw.2.2.1, hw.2.2.2.hi w2⟩, fun Q k => c_C_read (d := 35) hw.1 h.1 h.2.1 hw.2.1 h.2.2.2.2.2 (fun μ1 hf hR hr => k μ1 ?_ ?_), fun μ1 g1 g2 Q k => c_M_read (d := 36) hw.1 g2.1.1 g2.2.1 hw.2.1 g2.2.2.2.2.2 (fun μ2 hk hg hr => k μ2 ?_ ?_)⟩
  · obtain ⟨-, b, c, f, i, r⟩ := h
    have e : ∀ o, 10 < o → μ1.1 o = μ.1 o := hf.1
    exact ⟨hR, b.ro (e 41 (by omega)) (e 42 (by omega)) (e 43 (by omega)), c.ro (e 11 (by omega)) (e 12 (by omega)), by rw [e 13 (by omega)]; exact f, (i.hi w2).ro (hf.2.1 10 (by decide)) (fun o z1 z2 => ⟨e o (by omega), hf.2.2 o (by omega)⟩), hr⟩
  · exact h'.lo (fun o ho => hf.1 o (by omega))
  · exact g1.q hk (by decide)
  · obtain ⟨⟨a1, a2, a3, a4, a5⟩, b, c, f, i, r⟩ := g2
    have e : ∀ o, o ≠ 66 → o ≠ 65 → μ2.1 o = μ1.1 o := fun o ho h5 => hk.row (by simpa using ho) (fun q hq => by simp at hq; rw [hq]; exact fun z => h5 z.symm)
    have e65 : ∀ j, j ≠ 44 → μ2.1 65 j = μ1.1 65 j := fun j hj => hk.2 65 j (by decide) (by simpa using hj)
    refine ⟨⟨hg, ⟨?_, ?_⟩, ?_, ?_, ?_⟩, b.ro (e 83 (by decide) (by decide)) (e 84 (by decide) (by decide)) (e 85 (by decide) (by decide)), c.ro (e65 14 (by decide)) (e 71 (by decide) (by decide)), by rw [e65 19 (by decide)]; exact f, i.ro (e 67 (by decide) (by decide)), hr⟩
    · rw [e65 4 (by decide)]; exact a2.1
    · rw [e 68 (by decide) (by decide)]; exact a2.2
    · rw [e65 2 (by decide)]; exact a3
    · rw [e65 3 (by decide)]; exact a4
    · rw [e65 29 (by decide)]; exact a5
theorem pp_keep {x : Int32} : kr_pair i_C_keep i_M_keep [.int x] := by
  intro σ μ hw h h'
  obtain ⟨w1, w2⟩ := kx_iw_keep (x := x) hw.1 hw.2.2.2
  have he : ∀ j, j < 125 → (pz_keep σ.g σ.kp x).2.1 j = σ.g j := by
    intro j hj
    unfold pz_keep
    split
    · exact kz_kp_lo hj
    · rfl
  refine ⟨(pz_keep σ.g σ.kp x).1, (kr_Gm ((pz_keep σ.g σ.kp x).2.1) σ.t σ.P σ.D σ.K σ.s σ.n σ.b σ.f σ.r ((pz_keep σ.g σ.kp x).2.2)), ⟨w2, hw.2.1, hw.2.2.1, w1⟩, fun Q k => c_C_keep (d := 38) hw.1 h.1 h.2.2.2.2.1 hw.2.2.2 (fun μ1 hf hI => k μ1 ?_ ?_), fun μ1 g1 g2 Q k => c_M_keep (d := 38) hw.2.2.2.1 g2.1.1 g2.2.2.2.2.1 (fun μ2 hk hg hm => k μ2 ?_ ?_)⟩
  · obtain ⟨a, b, c, f, i, r⟩ := h
    have e : ∀ o, (1 ≤ o ∧ o ≤ 44) → μ1.1 o = μ.1 o := fun o ho => hf.1 o (Or.inl ho)
    exact ⟨(a.mem (fun o z1 z2 => e o (by omega)) (hf.2.2 1 (by decide))).cg hw.1 he, b.ro (e 41 (by omega)) (e 42 (by omega)) (e 43 (by omega)), c.ro (e 11 (by omega)) (e 12 (by omega)), by rw [e 13 (by omega)]; exact f, hI, by rw [hf.2.1 11 (by decide)]; exact r⟩
  · exact h'.lo (fun o ho => hf.1 o (Or.inr (by omega)))
  · exact g1.q hk (by decide)
  · obtain ⟨⟨a1, a2⟩, b, c, f, i, r⟩ := g2
    have e : ∀ o, o ≠ 66 → o ≠ 67 → μ2.1 o = μ1.1 o := fun o ho h7 => hk.row (by simp [ho, h7]) (fun q hq => by cases hq)
    have e65 := e 65 (by decide) (by decide)
    refine ⟨⟨hg, ?_⟩, b.ro (e 83 (by decide) (by decide)) (e 84 (by decide) (by decide)) (e 85 (by decide) (by decide)), c.ro (by rw [e65]) (e 71 (by decide) (by decide)), by rw [e65]; exact f, hm, by rw [e65]; exact r⟩
    show kr_PM μ2 σ.K σ.t ∧ _
    unfold kr_PM
    rw [e65, e 68 (by decide) (by decide)]
    exact a2
theorem kr_GC.tp {σ : kr_G} {n : Nat} {b : Nat → Nat} (h : kr_GC μ σ) (hk : kr_keep [11, 12] [] μ μ') (hT : kr_TC μ' n b) : kr_GC μ' (kr_Gm σ.g σ.t σ.P σ.D σ.K σ.s (n) (b) σ.f σ.r σ.kp) := by
  obtain ⟨a, b, -, f, i, r⟩ := h
  have e : ∀ o, o ∉ [11, 12] → μ'.1 o = μ.1 o := fun o ho => hk.row ho (fun q hq => by cases hq)
  have e' : ∀ o, o < 11 ∨ 12 < o → μ'.1 o = μ.1 o := fun o ho => e o (fun z => by simp at z; omega)
  exact ⟨a.mem (fun o z1 z2 => e' o (by omega)) (by rw [hk.1]), b.ro (e' 41 (by omega)) (e' 42 (by omega)) (e' 43 (by omega)), hT, by rw [e' 13 (by omega)]; exact f, i.ro (by rw [e' 0 (by omega)]) (fun o z1 z2 => ⟨e' o (by omega), by rw [hk.1]⟩), by rw [e' 0 (by omega)]; exact r⟩
theorem kr_GM.tp {σ : kr_G} {n : Nat} {b : Nat → Nat} (h : kr_GM μ σ) (hk : kr_keep [71] [(65, 14)] μ μ') (hT : kr_TM μ' n b) : kr_GM μ' (kr_Gm σ.g σ.t σ.P σ.D σ.K σ.s (n) (b) σ.f σ.r σ.kp) := by
  obtain ⟨⟨a1, a2, a3, a4, a5⟩, b, -, f, i, r⟩ := h
  have e : ∀ o, o ≠ 71 → o ≠ 65 → μ'.1 o = μ.1 o := fun o ho h5 => hk.row (by simpa using ho) (fun q hq => by simp at hq; rw [hq]; exact fun z => h5 z.symm)
  have e65 : ∀ j, j ≠ 14 → μ'.1 65 j = μ.1 65 j := fun j hj => hk.2 65 j (by decide) (by simpa using hj)
  refine ⟨⟨?_, ⟨?_, ?_⟩, ?_, ?_, ?_⟩, b.ro (e 83 (by decide) (by decide)) (e 84 (by decide) (by decide)) (e 85 (by decide) (by decide)), hT, by rw [e65 19 (by decide)]; exact f, i.ro (e 67 (by decide) (by decide)), by rw [e65 44 (by decide)]; exact r⟩
  · unfold kr_Mg
    rw [e 66 (by decide) (by decide)]; exact a1
  · rw [e65 4 (by decide)]; exact a2.1
  · rw [e 68 (by decide) (by decide)]; exact a2.2
  · rw [e65 2 (by decide)]; exact a3
  · rw [e65 3 (by decide)]; exact a4
  · rw [e65 29 (by decide)]; exact a5
theorem kr_GC.sh {σ : kr_G} {s : kz_H} {W : List Nat} (h : kr_GC μ σ) (hk : kr_keep W [] μ μ') (hW : ∀ o ∈ W, 41 ≤ o ∧ o ≤ 43) (hT : kr_SC μ' s) : kr_GC μ' (kr_Gm σ.g σ.t σ.P σ.D σ.K (s) σ.n σ.b σ.f σ.r σ.kp) := by
  obtain ⟨a, -, c, f, i, r⟩ := h
  have e' : ∀ o, o < 41 ∨ 43 < o → μ'.1 o = μ.1 o := fun o ho => hk.row (fun z => by have := hW o z; omega) (fun q hq => by cases hq)
  exact ⟨a.mem (fun o z1 z2 => e' o (by omega)) (by rw [hk.1]), hT, c.ro (e' 11 (by omega)) (e' 12 (by omega)), by rw [e' 13 (by omega)]; exact f, i.ro (by rw [e' 0 (by omega)]) (fun o z1 z2 => ⟨e' o (by omega), by rw [hk.1]⟩), by rw [e' 0 (by omega)]; exact r⟩
theorem kr_GM.sh {σ : kr_G} {s : kz_H} {W : List Nat} (h : kr_GM μ σ) (hk : kr_keep W [] μ μ') (hW : ∀ o ∈ W, 83 ≤ o ∧ o ≤ 85) (hT : kr_SM μ' s) : kr_GM μ' (kr_Gm σ.g σ.t σ.P σ.D σ.K (s) σ.n σ.b σ.f σ.r σ.kp) := by
  obtain ⟨a, -, c, f, i, r⟩ := h
  have e : ∀ o, o < 83 → μ'.1 o = μ.1 o := fun o ho => hk.row (fun z => by have := hW o z; omega) (fun q hq => by cases hq)
  have e65 := e 65 (by decide)
  exact ⟨a.ro (e 66 (by decide)) (e 68 (by decide)) ⟨by rw [e65], by rw [e65], by rw [e65], by rw [e65]⟩, hT, c.ro (by rw [e65]) (e 71 (by decide)), by rw [e65]; exact f, i.ro (e 67 (by decide)), by rw [e65]; exact r⟩
theorem pp_feed {v : Int64} : kr_pair i_C_feed i_M_feed [.long v] := by
  intro σ μ hw h h'
  refine ⟨(pz_feed σ.n σ.b v).1, (kr_Gm σ.g σ.t σ.P σ.D σ.K σ.s ((pz_feed σ.n σ.b v).2.1) ((pz_feed σ.n σ.b v).2.2) σ.f σ.r σ.kp), ⟨hw.1, hw.2.1, kx_tw_feed hw.2.2.1, hw.2.2.2⟩, fun Q k => c_C_feed (d := 38) hw.2.2.1 h.2.2.1 (fun μ1 hk hT => k μ1 ?_ (h'.c hk (by decide))), fun μ1 g1 g2 Q k => c_M_feed (d := 39) hw.2.2.1 g2.2.2.1 (fun μ2 hk hT => k μ2 (g1.q hk (by decide)) ?_)⟩
  · exact kr_GC.tp h hk hT
  · exact kr_GM.tp g2 hk hT
theorem pp_end {x : Int32} : kr_pair i_C_end i_M_end [.int x] := by
  intro σ μ hw h h'
  refine ⟨(pz_end σ.n σ.b x).1, (kr_Gm σ.g σ.t σ.P σ.D σ.K σ.s ((pz_end σ.n σ.b x).2.1) ((pz_end σ.n σ.b x).2.2) σ.f σ.r σ.kp), ⟨hw.1, hw.2.1, kx_tw_end hw.2.2.1, hw.2.2.2⟩, fun Q k => c_C_end (d := 38) hw.2.2.1 h.2.2.1 (fun μ1 hk hT => k μ1 ?_ (h'.c hk (by decide))), fun μ1 g1 g2 Q k => c_M_end (d := 38) hw.2.2.1 g2.2.2.1 (fun μ2 hk hT => k μ2 (g1.q hk (by decide)) ?_)⟩
  · exact kr_GC.tp h hk hT
  · exact kr_GM.tp g2 hk hT
theorem pp_sheet {x y z : Int32} : kr_pair i_C_sheet i_M_sheet [.int x, .int y, .int z] := by
  intro σ μ hw h h'
  refine ⟨(pz_sheet σ.s x y z).1, (kr_Gm σ.g σ.t σ.P σ.D σ.K ((pz_sheet σ.s x y z).2) σ.n σ.b σ.f σ.r σ.kp), ⟨hw.1, kx_sw_sheet hw.2.1, hw.2.2.1, hw.2.2.2⟩, fun Q k => c_C_sheet (d := 38) h.2.1 hw.2.1 (fun μ1 hk hT => k μ1 ?_ (h'.c hk (by decide))), fun μ1 g1 g2 Q k => c_M_sheet (d := 37) g2.2.1 hw.2.1 (fun μ2 hk hT => k μ2 (g1.q hk (by decide)) ?_)⟩
  · exact kr_GC.sh h hk (by decide) hT
  · exact kr_GM.sh g2 hk (by decide) hT
theorem pp_lay {x y z : Int32} : kr_pair i_C_lay i_M_lay [.int x, .int y, .int z] := by
  intro σ μ hw h h'
  refine ⟨(pz_lay σ.s x y z).1, (kr_Gm σ.g σ.t σ.P σ.D σ.K ((pz_lay σ.s x y z).2) σ.n σ.b σ.f σ.r σ.kp), ⟨hw.1, kx_sw_lay hw.2.1, hw.2.2.1, hw.2.2.2⟩, fun Q k => c_C_lay (d := 38) h.2.1 hw.2.1 (fun μ1 hk hT => k μ1 ?_ (h'.c hk (by decide))), fun μ1 g1 g2 Q k => c_M_lay (d := 37) g2.2.1 hw.2.1 (fun μ2 hk hT => k μ2 (g1.q hk (by decide)) ?_)⟩
  · exact kr_GC.sh h hk (by decide) hT
  · exact kr_GM.sh g2 hk (by decide) hT
theorem pp_text : kr_pair i_C_text i_M_text [] := by
  intro σ μ hw h h'
  cases hx : kp_tx σ.n σ.b 401 0 kp_D0 0 with
  | inl q =>
    obtain ⟨c, w⟩ := q
    refine ⟨-10 - nI w, (kr_Gm σ.g σ.t σ.P σ.D σ.K σ.s (0) σ.b (c) σ.r σ.kp), ⟨hw.1, hw.2.1, ⟨by show 0 ≤ 400; decide, fun j hj => absurd hj (Nat.not_lt_zero j)⟩, hw.2.2.2⟩, fun Q k => c_C_text (d := 30) h.2.2.1 hw.2.2.1 (fun m E e => by rw [hx] at e; cases e) (fun c' w' e _ _ μ1 e1 e2 hT hf => ?_), fun μ1 g1 g2 Q k => c_M_text (d := 32) g2.2.2.1 hw.2.2.1 (fun m E e => by rw [hx] at e; cases e) (fun c' w' e _ _ μ2 hk hT hf => ?_)⟩
    · rw [hx] at e
      cases e
      refine k μ1 ?_ (h'.lo (fun o ho => e1 o (by omega)))
      obtain ⟨a, b, -, -, i, r⟩ := h
      exact ⟨a.mem (fun o z1 z2 => e1 o (by omega)) (e2 1 (by decide)), b.ro (e1 41 (by omega)) (e1 42 (by omega)) (e1 43 (by omega)), hT, hf, i.ro (by rw [e1 0 (by omega)]) (fun o z1 z2 => ⟨e1 o (by omega), e2 o (by omega)⟩), by rw [e1 0 (by omega)]; exact r⟩
    · rw [hx] at e
      cases e
      refine k μ2 (g1.q hk (by decide)) ?_
      obtain ⟨⟨a1, a2, a3, a4, a5⟩, b, -, -, i, r⟩ := g2
      have e : ∀ o, o ∉ [65, 69, 70] → μ2.1 o = μ1.1 o := fun o ho => hk.row (fun z => ho (List.mem_cons_of_mem _ z)) (fun q hq z => ho (by
        have : ∀ q ∈ kr_mY, q.1 = 65 := by decide
        rw [← z, this q hq]; decide))
      have e65 : ∀ j, (65, j) ∉ kr_mY → μ2.1 65 j = μ1.1 65 j := fun j hj => hk.2 65 j (by decide) hj
      refine ⟨⟨?_, ⟨?_, ?_⟩, ?_, ?_, ?_⟩, b.ro (e 83 (by decide)) (e 84 (by decide)) (e 85 (by decide)), hT, hf, i.ro (e 67 (by decide)), by rw [e65 44 (by decide)]; exact r⟩
      · unfold kr_Mg
        rw [e 66 (by decide)]; exact a1
      · rw [e65 4 (by decide)]; exact a2.1
      · rw [e 68 (by decide)]; exact a2.2
      · rw [e65 2 (by decide)]; exact a3
      · rw [e65 3 (by decide)]; exact a4
      · rw [e65 29 (by decide)]; exact a5
  | inr q =>
    obtain ⟨m, E⟩ := q
    by_cases hwf : kr_wf E.1 E.2.1.1 E.2.1.2.1 E.2.1.2.2 E.2.2.1
    · have lo : ∀ j, j < 125 → (fun j => if j < 125 then E.1 j else σ.g j) j = E.1 j := fun j hj => if_pos hj
      have hi : ∀ j, 125 ≤ j → (fun j => if j < 125 then E.1 j else σ.g j) j = σ.g j := fun j hj => if_neg (by omega)
      generalize (fun j => if j < 125 then E.1 j else σ.g j) = g' at lo hi
      refine ⟨nI m, (kr_Gm (g') (E.2.2.1) (E.2.1.1) (E.2.1.2.1) (E.2.1.2.2) σ.s (0) σ.b (0) σ.r (0)), ⟨hwf.cg lo, hw.2.1, ⟨by show 0 ≤ 400; decide, fun j hj => absurd hj (Nat.not_lt_zero j)⟩, show 0 < 4 by decide, fun k _ hb => absurd hb (by show ¬ (0 : Nat).testBit k = true; simp)⟩, fun Q k => c_C_text (d := 30) h.2.2.1 hw.2.2.1 (fun m' E' e _ μ1 e1 e0 hR hT h10 h3 => ?_) (fun c w e => by rw [hx] at e; cases e), fun μ1 g1 g2 Q k => c_M_text (d := 32) g2.2.2.1 hw.2.2.1 (fun m' E' e _ μ2 hk h66 h66b hPM h2 h3 hMk hT hf => ?_) (fun c w e => by rw [hx] at e; cases e)⟩
      · rw [hx] at e
        cases e
        refine k μ1 ?_ (h'.lo (fun o ho => e1 o (by omega)))
        obtain ⟨a, b, -, -, i, r⟩ := h
        exact ⟨hR.cg hwf lo, b.ro (e1 41 (by omega)) (e1 42 (by omega)) (e1 43 (by omega)), hT, h3, ⟨h10, fun k _ hb => absurd hb (by show ¬ (0 : Nat).testBit k = true; simp)⟩, by rw [e0 11 (by decide)]; exact r⟩
      · rw [hx] at e
        cases e
        refine k μ2 (g1.q hk (by decide)) ?_
        obtain ⟨⟨a1, a2, a3, a4, a5⟩, b, -, -, i, r⟩ := g2
        have e : ∀ o, o ∉ [65, 66, 67, 68, 69, 70] → μ2.1 o = μ1.1 o := fun o ho => hk.row (fun z => ho (List.mem_cons_of_mem _ z)) (fun q hq z => ho (by
          have : ∀ q ∈ kr_mX, q.1 = 65 := by decide
          rw [← z, this q hq]; decide))
        have e65 : ∀ j, (65, j) ∉ kr_mX → μ2.1 65 j = μ1.1 65 j := fun j hj => hk.2 65 j (by decide) hj
        refine ⟨⟨fun j hj => ?_, hPM, h2, h3, ?_⟩, b.ro (e 83 (by decide)) (e 84 (by decide)) (e 85 (by decide)), hT, hf, hMk, by rw [e65 44 (by decide)]; exact r⟩
        · rcases Nat.lt_or_ge j 125 with c | c
          · rw [h66 j c]
            show _ = nI (g' j)
            rw [lo j c]
          · rw [h66b j c, a1 j hj]
            show _ = nI (g' j)
            rw [hi j c]
        · rw [e65 29 (by decide)]; exact a5
    · refine ⟨0, σ, hw, fun Q k => c_C_text (d := 30) h.2.2.1 hw.2.2.1 (fun m' E' e hz => ?_) (fun c w e => by rw [hx] at e; cases e), fun μ1 g1 g2 Q k => c_M_text (d := 32) g2.2.2.1 hw.2.2.1 (fun m' E' e hz => ?_) (fun c w e => by rw [hx] at e; cases e)⟩
      · rw [hx] at e
        cases e
        exact absurd hz hwf
      · rw [hx] at e
        cases e
        exact absurd hz hwf
end
