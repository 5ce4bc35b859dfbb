/-! the reference's constructor: its tail -/
/-- the world that the reference's constructor starts on -/
def w_X910 (cs : ClassId × ClassId × ClassId) (g0 : Nat) (u : Nat → Nat) (h0 : Nat) : va_W := (h0, .inr (10, n_f10)) :: w_X9 cs g0 u
def kr_post (D : va_G) (cs : ClassId × ClassId × ClassId) (g0 h0 : Nat) (aS : Nat → Nat) (A : Nat → Prop) (w : (Nat → Nat) × kr_M) : Prop := w.1 0 = g0 ∧ w.1 65 = h0 ∧ (∀ k, 86 ≤ k → w.1 k = aS k) ∧ kr_inj w.1 ∧ (∀ k, k < 86 → A (w.1 k)) ∧ kr_GC w.2 kr_σ0 ∧ kr_GM w.2 kr_σ0
set_option maxHeartbeats 4000000 in
theorem n_X10t {p : Program} {l : Launch} {e : Env} {s : State} {m : MethodId} {below : List Frame} {meth : Method} {c : Code} {A : Nat → Prop} {D : va_G} {cs : ClassId × ClassId × ClassId} {g0 h0 : Nat} {aS ad : Nat → Nat} {H : Heap} {locs : List Loc} {ls : Array Slot} (C : kr_Cn RX10 cX10_init 2 p s m ([.ref h0] : List Value).toArray meth c D cs A) (hr : meth.sig.returnType = none) (hlocks : meth.locks = false) (hl : lv_has ls 2 [(0, .ref h0)]) (hSt : kr_St aS A s s.heap) (hW3 : kr_Wd D A s (kr_ws ad cs kr_μ0) H locs) (e0 : ad 0 = g0) (e65 : ad 65 = h0) (ehi : ∀ k, 86 ≤ k → ad k = aS k) : W p l e (headSpec (kr_mi yX10_init cX10_init 2) { frames := 50, cells := 20, slots := 5264, locals := 2000 }).room s m ([.ref h0] : List Value).toArray below meth c H locs 20 5264 (MQ below (va_Qv (kr_post D cs g0 h0 aS A) (fun w t => va_P D vwCl (kr_ws w.1 cs w.2) t.heap) A) ([.ref h0] : List Value).toArray s 20 5264 A) (F0 m 158 ls []) := by
  obtain ⟨hP3, hD3, hS3⟩ := hW3
  have hinj : kr_inj ad := fun i j hi hj he => hD3.1 i j _ _ (kr_ws_at hi) (kr_ws_at hj) he
  have hAd : ∀ k, k < 86 → A (ad k) := fun k hk => hD3.2 k _ (kr_ws_at hk)
  have hO : kr_Os l (headSpec (kr_mi yX10_init cX10_init 2) { frames := 50, cells := 20, slots := 5264, locals := 2000 }).room D ad cs (kr_c 40) := by
    intro y' as' μ' Q' h'
    refine ⟨kr_rm 40, rfl, rfl, Nat.le_of_ble_eq_true rfl, ?_, kr_all l D ad cs hinj 40 y' as' μ' Q' h'⟩
    have := kr_mL_le y'
    show 8 + (kr_mL y' + 11) + (60 + 40 * 40) ≤ 2000
    omega
  have hCx : kr_Cx kr_E0 RX10 cX10_init 2 p (headSpec (kr_mi yX10_init cX10_init 2) { frames := 50, cells := 20, slots := 5264, locals := 2000 }).room s m ([.ref h0] : List Value).toArray c A D ad cs 20 5264 :=
    ⟨C.1, C.2.1, hinj, hAd, hSt.cg ehi, ⟨Nat.le_of_ble_eq_true rfl, Nat.le_of_ble_eq_true rfl⟩, ⟨Nat.le_of_ble_eq_true rfl, Nat.le_of_ble_eq_true rfl⟩, trivial⟩
  have key := c_ini (Q := fun v μ => v = none ∧ kr_GC μ kr_σ0 ∧ kr_GM μ kr_σ0) (fun μ' h1 h2 => ⟨rfl, h1, h2⟩)
  have hR : kr_Rt p l e (headSpec (kr_mi yX10_init cX10_init 2) { frames := 50, cells := 20, slots := 5264, locals := 2000 }).room s m ([.ref h0] : List Value).toArray below meth c A D ad cs 20 5264 (MQ below (va_Qv (kr_post D cs g0 h0 aS A) (fun w t => va_P D vwCl (kr_ws w.1 cs w.2) t.heap) A) ([.ref h0] : List Value).toArray s 20 5264 A) cX10_init none (fun v μ => v = none ∧ kr_GC μ kr_σ0 ∧ kr_GM μ kr_σ0) := by
    refine ⟨fun pc v ty μ H locs lsA hd hr hn hq hP hS => (by cases hr), fun pc μ H locs lsA hd _ hq hP hS => ?_⟩
    exact W.vret C.1.1 C.1.2.1 hr (fun t ht hw => ⟨⟨(ad, μ), rfl, ⟨e0, e65, ehi, hinj, hAd, hq.2.1, hq.2.2⟩, by show va_P D vwCl (kr_ws ad cs μ) t.heap; rw [ht]; exact hP⟩, hS.F ht⟩) hS.2.2 hd
  have hlh : kr_lh ad 2 ls [some (.ref 65), none] := by
    refine ⟨hl.1, hl.2.1, fun i v hv => ?_⟩
    match i, hv with
    | 0, hv =>
      cases hv
      show ls[0]? = some (.val (.ref (ad 65)))
      rw [e65]
      exact lv_at hl 0 rfl
    | 1, hv => cases hv
    | i + 2, hv => cases hv
  exact key (kr_WK p l e _ s m _ below meth c A D ad cs 20 5264 _ 2)
    (fun pc ls st μ k => (kr_ok_ini pc).1 p l e _ s m _ below meth c A D ad cs 20 5264 _ hCx (kr_c 40) hO _ _ (fun _ _ _ _ z => z) hR ls st μ k)
    (fun pc l1 l2 st μ hs k H locs lsA hP hS hl => k H locs lsA hP hS ⟨hl.1, hl.2.1, fun i v hv => hl.2.2 i v (hs i v hv)⟩) H _ ls hP3 hS3 hlh
/-- the cells in order -/
theorem n_X10w {D : va_G} {cs : ClassId × ClassId × ClassId} {A : Nat → Prop} {s : State} {H : Heap} {locs : List Loc} {g0 h0 : Nat} {u : Nat → Nat} {q0 q1 q2 q3 q4 q5 q6 q7 q8 q9 q10 q11 q12 q13 q14 q15 q16 q17 q18 q19 : Nat} (aS : Nat → Nat) (hW : kr_Wd D A s ((h0, .inr (10, [.ref q0, .ref q1, .int 0, .int 0, .int 0, .ref q2, .ref q3, .int 0, .int 0, .int 0, .ref q4, .int 0, .int 0, .ref q5, .int 0, .int 0, .int 0, .int 0, .int 0, .int 0, .int 0, .ref q6, .ref q7, .ref q8, .ref q9, .ref q10, .ref q11, .ref q12, .int 0, .int 0, .ref q13, .ref q14, .ref q15, .int 0, .int 0, .int 0, .int 0, .int 0, .int 0, .int 0, .ref q16, .ref q17, .ref q18, .ref q19, .int 0])) :: (w_X9 cs g0 u ++ [(q0, .inl (cs.1, 375, .inl (fun _ => 0))), (q1, .inl (cs.2.1, 2, .inl (fun _ => 0))), (q2, .inl (cs.1, 15, .inl (fun _ => 0))), (q3, .inl (cs.1, 125, .inl (fun _ => 0))), (q4, .inl (cs.1, 15, .inl (fun _ => 0))), (q5, .inl (cs.1, 400, .inl (fun _ => 0))), (q6, .inl (cs.1, 12, .inl (fun _ => 0))), (q7, .inl (cs.1, 9, .inl (fun _ => 0))), (q8, .inl (cs.1, 5, .inl (fun _ => 0))), (q9, .inl (cs.1, 5, .inl (fun _ => 0))), (q10, .inl (cs.1, 5, .inl (fun _ => 0))), (q11, .inl (cs.1, 5, .inl (fun _ => 0))), (q12, .inl (cs.1, 5, .inl (fun _ => 0))), (q13, .inl (cs.1, 4096, .inl (fun _ => 0))), (q14, .inl (cs.1, 5, .inl (fun _ => 0))), (q15, .inl (cs.1, 5, .inl (fun _ => 0))), (q16, .inl (cs.1, 12, .inl (fun _ => 0))), (q17, .inl (cs.1, 4, .inl (fun _ => 0))), (q18, .inl (cs.1, 4, .inl (fun _ => 0))), (q19, .inl (cs.1, 160, .inl (fun _ => 0)))])) H locs) : kr_Wd D A s (kr_ws (kr_ad g0 h0 u (kr_nth 0 [q0, q1, q2, q3, q4, q5, q6, q7, q8, q9, q10, q11, q12, q13, q14, q15, q16, q17, q18, q19]) aS) cs kr_μ0) H locs := by
  have hW2 : kr_Wd D A s (w_X9 cs g0 u ++ ((h0, .inr (10, [.ref q0, .ref q1, .int 0, .int 0, .int 0, .ref q2, .ref q3, .int 0, .int 0, .int 0, .ref q4, .int 0, .int 0, .ref q5, .int 0, .int 0, .int 0, .int 0, .int 0, .int 0, .int 0, .ref q6, .ref q7, .ref q8, .ref q9, .ref q10, .ref q11, .ref q12, .int 0, .int 0, .ref q13, .ref q14, .ref q15, .int 0, .int 0, .int 0, .int 0, .int 0, .int 0, .int 0, .ref q16, .ref q17, .ref q18, .ref q19, .int 0])) :: [(q0, .inl (cs.1, 375, .inl (fun _ => 0))), (q1, .inl (cs.2.1, 2, .inl (fun _ => 0))), (q2, .inl (cs.1, 15, .inl (fun _ => 0))), (q3, .inl (cs.1, 125, .inl (fun _ => 0))), (q4, .inl (cs.1, 15, .inl (fun _ => 0))), (q5, .inl (cs.1, 400, .inl (fun _ => 0))), (q6, .inl (cs.1, 12, .inl (fun _ => 0))), (q7, .inl (cs.1, 9, .inl (fun _ => 0))), (q8, .inl (cs.1, 5, .inl (fun _ => 0))), (q9, .inl (cs.1, 5, .inl (fun _ => 0))), (q10, .inl (cs.1, 5, .inl (fun _ => 0))), (q11, .inl (cs.1, 5, .inl (fun _ => 0))), (q12, .inl (cs.1, 5, .inl (fun _ => 0))), (q13, .inl (cs.1, 4096, .inl (fun _ => 0))), (q14, .inl (cs.1, 5, .inl (fun _ => 0))), (q15, .inl (cs.1, 5, .inl (fun _ => 0))), (q16, .inl (cs.1, 12, .inl (fun _ => 0))), (q17, .inl (cs.1, 4, .inl (fun _ => 0))), (q18, .inl (cs.1, 4, .inl (fun _ => 0))), (q19, .inl (cs.1, 160, .inl (fun _ => 0)))])) H locs := ⟨kr_P_rot hW.1, kr_D_rot hW.2.1, hW.2.2⟩
  exact kr_wd0 (v := kr_nth 0 [q0, q1, q2, q3, q4, q5, q6, q7, q8, q9, q10, q11, q12, q13, q14, q15, q16, q17, q18, q19]) aS hW2
