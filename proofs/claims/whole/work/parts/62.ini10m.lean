/-! the reference's constructor: its contract -/
set_option maxHeartbeats 8000000 in
set_option maxRecDepth 100000 in
theorem n_X10 (l : Launch) (D : va_G) (cs : ClassId × ClassId × ClassId) (g0 : Nat) (u : Nat → Nat) (aS : Nat → Nat) (h0 sz : Nat) : Met l yX10_init (kr_mi yX10_init cX10_init 2) { frames := 50, cells := 20, slots := 5264, locals := 2000 } (va_Pc [.ref h0] (fun U => U.heap.size = sz ∧ va_P D vwCl (w_X910 cs g0 u h0) U.heap ∧ va_K D vwCl (kr_tys cs) U ∧ va_D (fun _ => True) (w_X910 cs g0 u h0) ∧ kr_St aS (va_A (w_X910 cs g0 u h0) sz) U U.heap)) (va_Qv (kr_post D cs g0 h0 aS (va_A (w_X910 cs g0 u h0) sz)) (fun w t => va_P D vwCl (kr_ws w.1 cs w.2) t.heap) (va_A (w_X910 cs g0 u h0) sz)) 20 5264 (va_A (w_X910 cs g0 u h0) sz) := by
  refine Met.ofW (cc := cX10_init) (maxL := 2) (ret := none) (by decide +kernel) rfl ?_
  intro p e s m args below meth c s₁ B hml hv
  obtain ⟨rfl, hsz, hP, hK, hD0, hSt⟩ := hv
  have hts := atoms_spec (ws := kr_mi yX10_init cX10_init 2) B.pre
  have hown : s.vm.findClass RX10 = some m.cls := findClass_of_methodNamed B.named
  have hlocks := B.notSynchronized
  have hin : meth.name = "<init>" := (name_of_methodNamed B.named B.method).1
  have hr := B.returns
  subst hsz
  have hD := hD0.self (sz := s.heap.size)
  generalize hAe : va_A (w_X910 cs g0 u h0) s.heap.size = A at hD hSt ⊢
  have hA : ∀ q : Nat, s.heap.size ≤ q → A q := fun q h => by rw [← hAe]; exact Or.inr h
  have C : kr_Cn RX10 cX10_init 2 p s m ([.ref h0] : List Value).toArray meth c D cs A := ⟨⟨B.exec, B.bytes, hml, hown, fun w hw => hts w (List.mem_cons_of_mem _ hw)⟩, hK, hA, hin⟩
  have hW : kr_Wd D A s ((h0, .inr (10, n_f10)) :: w_X9 cs g0 u) s.heap [] := ⟨hP, hD, va_S.rf⟩
  have hl := lv_entry ([.ref h0]) (n := 2) (Nat.le_of_ble_eq_true rfl)
  rw [lg_entry_eq]
  generalize (lg_sl ([.ref h0]) ++ List.replicate (2 - (lg_sl ([.ref h0])).length) Slot.unset).toArray = ls at hl ⊢
  have hl : lv_has ls 2 [(0, .ref h0)] := hl
  generalize hw0 : w_X9 cs g0 u = w0 at hW
  refine lv_aload_n C.1.1 C.1.2.1 dX10_init_0 rfl (lv_at hl 0 rfl) ?_
  refine kr_i_obj C kr_w_o_X10_1 kr_w_oi kr_w_oc hl.1 dX10_init_1 ⟨Nat.le_of_ble_eq_true rfl, Nat.le_of_ble_eq_true rfl⟩ ?_
  refine lv_aload_n C.1.1 C.1.2.1 dX10_init_4 rfl (lv_at hl 0 rfl) ?_
  refine lv_sipush (v := 375) C.1.1 C.1.2.1 dX10_init_5 (by decide) ?_
  refine kr_i_newa (N := 375) C hW kr_w_y_int (by decide) (by decide) (by decide) (Nat.le_of_ble_eq_true rfl) (Nat.le_of_ble_eq_true rfl) dX10_init_8 (fun q0 H hW => ?_)
  have hW : kr_Wd D A s ((h0, .inr (10, [.null, .null, .int 0, .int 0, .int 0, .null, .null, .int 0, .int 0, .int 0, .null, .int 0, .int 0, .null, .int 0, .int 0, .int 0, .int 0, .int 0, .int 0, .int 0, .null, .null, .null, .null, .null, .null, .null, .int 0, .int 0, .null, .null, .null, .int 0, .int 0, .int 0, .int 0, .int 0, .int 0, .int 0, .null, .null, .null, .null, .int 0])) :: (w0 ++ [(q0, .inl (cs.1, 375, .inl (fun _ => 0)))])) H _ := hW
  generalize hw1 : w0 ++ [(q0, .inl (cs.1, 375, .inl (fun _ => 0)))] = w1 at hW
  refine kr_i_putF (k := 0) (v := .ref q0) (ty := .array .int) C hW kr_cl10 kr_w_f_ChalkRoadsModel_7 (by decide) rfl rfl (by decide +kernel) rfl rfl (Nat.le_of_ble_eq_true rfl) dX10_init_10 (fun H locs hW => ?_)
  have hW : kr_Wd D A s ((h0, .inr (10, [.ref q0, .null, .int 0, .int 0, .int 0, .null, .null, .int 0, .int 0, .int 0, .null, .int 0, .int 0, .null, .int 0, .int 0, .int 0, .int 0, .int 0, .int 0, .int 0, .null, .null, .null, .null, .null, .null, .null, .int 0, .int 0, .null, .null, .null, .int 0, .int 0, .int 0, .int 0, .int 0, .int 0, .int 0, .null, .null, .null, .null, .int 0])) :: w1) H _ := hW
  refine lv_aload_n C.1.1 C.1.2.1 dX10_init_13 rfl (lv_at hl 0 rfl) ?_
  refine lv_iconst (v := 2) C.1.1 C.1.2.1 dX10_init_14 (by decide) ?_
  refine kr_i_newz (N := 2) C hW kr_w_y_boolean (by decide) (by decide) (by decide) (Nat.le_of_ble_eq_true rfl) (Nat.le_of_ble_eq_true rfl) dX10_init_15 (fun q1 H hW => ?_)
  have hW : kr_Wd D A s ((h0, .inr (10, [.ref q0, .null, .int 0, .int 0, .int 0, .null, .null, .int 0, .int 0, .int 0, .null, .int 0, .int 0, .null, .int 0, .int 0, .int 0, .int 0, .int 0, .int 0, .int 0, .null, .null, .null, .null, .null, .null, .null, .int 0, .int 0, .null, .null, .null, .int 0, .int 0, .int 0, .int 0, .int 0, .int 0, .int 0, .null, .null, .null, .null, .int 0])) :: (w1 ++ [(q1, .inl (cs.2.1, 2, .inl (fun _ => 0)))])) H _ := hW
  generalize hw2 : w1 ++ [(q1, .inl (cs.2.1, 2, .inl (fun _ => 0)))] = w2 at hW
  refine kr_i_putF (k := 1) (v := .ref q1) (ty := .array .boolean) C hW kr_cl10 kr_w_f_ChalkRoadsModel_13 (by decide) rfl rfl (by decide +kernel) rfl rfl (Nat.le_of_ble_eq_true rfl) dX10_init_17 (fun H locs hW => ?_)
  have hW : kr_Wd D A s ((h0, .inr (10, [.ref q0, .ref q1, .int 0, .int 0, .int 0, .null, .null, .int 0, .int 0, .int 0, .null, .int 0, .int 0, .null, .int 0, .int 0, .int 0, .int 0, .int 0, .int 0, .int 0, .null, .null, .null, .null, .null, .null, .null, .int 0, .int 0, .null, .null, .null, .int 0, .int 0, .int 0, .int 0, .int 0, .int 0, .int 0, .null, .null, .null, .null, .int 0])) :: w2) H _ := hW
  refine lv_aload_n C.1.1 C.1.2.1 dX10_init_20 rfl (lv_at hl 0 rfl) ?_
  refine lv_bipush (v := 15) C.1.1 C.1.2.1 dX10_init_21 (by decide) ?_
  refine kr_i_newa (N := 15) C hW kr_w_y_int (by decide) (by decide) (by decide) (Nat.le_of_ble_eq_true rfl) (Nat.le_of_ble_eq_true rfl) dX10_init_23 (fun q2 H hW => ?_)
  have hW : kr_Wd D A s ((h0, .inr (10, [.ref q0, .ref q1, .int 0, .int 0, .int 0, .null, .null, .int 0, .int 0, .int 0, .null, .int 0, .int 0, .null, .int 0, .int 0, .int 0, .int 0, .int 0, .int 0, .int 0, .null, .null, .null, .null, .null, .null, .null, .int 0, .int 0, .null, .null, .null, .int 0, .int 0, .int 0, .int 0, .int 0, .int 0, .int 0, .null, .null, .null, .null, .int 0])) :: (w2 ++ [(q2, .inl (cs.1, 15, .inl (fun _ => 0)))])) H _ := hW
  generalize hw3 : w2 ++ [(q2, .inl (cs.1, 15, .inl (fun _ => 0)))] = w3 at hW
  refine kr_i_putF (k := 5) (v := .ref q2) (ty := .array .int) C hW kr_cl10 kr_w_f_ChalkRoadsModel_17 (by decide) rfl rfl (by decide +kernel) rfl rfl (Nat.le_of_ble_eq_true rfl) dX10_init_25 (fun H locs hW => ?_)
  have hW : kr_Wd D A s ((h0, .inr (10, [.ref q0, .ref q1, .int 0, .int 0, .int 0, .ref q2, .null, .int 0, .int 0, .int 0, .null, .int 0, .int 0, .null, .int 0, .int 0, .int 0, .int 0, .int 0, .int 0, .int 0, .null, .null, .null, .null, .null, .null, .null, .int 0, .int 0, .null, .null, .null, .int 0, .int 0, .int 0, .int 0, .int 0, .int 0, .int 0, .null, .null, .null, .null, .int 0])) :: w3) H _ := hW
  refine lv_aload_n C.1.1 C.1.2.1 dX10_init_28 rfl (lv_at hl 0 rfl) ?_
  refine lv_bipush (v := 125) C.1.1 C.1.2.1 dX10_init_29 (by decide) ?_
  refine kr_i_newa (N := 125) C hW kr_w_y_int (by decide) (by decide) (by decide) (Nat.le_of_ble_eq_true rfl) (Nat.le_of_ble_eq_true rfl) dX10_init_31 (fun q3 H hW => ?_)
  have hW : kr_Wd D A s ((h0, .inr (10, [.ref q0, .ref q1, .int 0, .int 0, .int 0, .ref q2, .null, .int 0, .int 0, .int 0, .null, .int 0, .int 0, .null, .int 0, .int 0, .int 0, .int 0, .int 0, .int 0, .int 0, .null, .null, .null, .null, .null, .null, .null, .int 0, .int 0, .null, .null, .null, .int 0, .int 0, .int 0, .int 0, .int 0, .int 0, .int 0, .null, .null, .null, .null, .int 0])) :: (w3 ++ [(q3, .inl (cs.1, 125, .inl (fun _ => 0)))])) H _ := hW
  generalize hw4 : w3 ++ [(q3, .inl (cs.1, 125, .inl (fun _ => 0)))] = w4 at hW
  refine kr_i_putF (k := 6) (v := .ref q3) (ty := .array .int) C hW kr_cl10 kr_w_f_ChalkRoadsModel_20 (by decide) rfl rfl (by decide +kernel) rfl rfl (Nat.le_of_ble_eq_true rfl) dX10_init_33 (fun H locs hW => ?_)
  have hW : kr_Wd D A s ((h0, .inr (10, [.ref q0, .ref q1, .int 0, .int 0, .int 0, .ref q2, .ref q3, .int 0, .int 0, .int 0, .null, .int 0, .int 0, .null, .int 0, .int 0, .int 0, .int 0, .int 0, .int 0, .int 0, .null, .null, .null, .null, .null, .null, .null, .int 0, .int 0, .null, .null, .null, .int 0, .int 0, .int 0, .int 0, .int 0, .int 0, .int 0, .null, .null, .null, .null, .int 0])) :: w4) H _ := hW
  refine lv_aload_n C.1.1 C.1.2.1 dX10_init_36 rfl (lv_at hl 0 rfl) ?_
  refine lv_bipush (v := 15) C.1.1 C.1.2.1 dX10_init_37 (by decide) ?_
  refine kr_i_newa (N := 15) C hW kr_w_y_int (by decide) (by decide) (by decide) (Nat.le_of_ble_eq_true rfl) (Nat.le_of_ble_eq_true rfl) dX10_init_39 (fun q4 H hW => ?_)
  have hW : kr_Wd D A s ((h0, .inr (10, [.ref q0, .ref q1, .int 0, .int 0, .int 0, .ref q2, .ref q3, .int 0, .int 0, .int 0, .null, .int 0, .int 0, .null, .int 0, .int 0, .int 0, .int 0, .int 0, .int 0, .int 0, .null, .null, .null, .null, .null, .null, .null, .int 0, .int 0, .null, .null, .null, .int 0, .int 0, .int 0, .int 0, .int 0, .int 0, .int 0, .null, .null, .null, .null, .int 0])) :: (w4 ++ [(q4, .inl (cs.1, 15, .inl (fun _ => 0)))])) H _ := hW
  generalize hw5 : w4 ++ [(q4, .inl (cs.1, 15, .inl (fun _ => 0)))] = w5 at hW
  refine kr_i_putF (k := 10) (v := .ref q4) (ty := .array .int) C hW kr_cl10 kr_w_f_ChalkRoadsModel_23 (by decide) rfl rfl (by decide +kernel) rfl rfl (Nat.le_of_ble_eq_true rfl) dX10_init_41 (fun H locs hW => ?_)
  have hW : kr_Wd D A s ((h0, .inr (10, [.ref q0, .ref q1, .int 0, .int 0, .int 0, .ref q2, .ref q3, .int 0, .int 0, .int 0, .ref q4, .int 0, .int 0, .null, .int 0, .int 0, .int 0, .int 0, .int 0, .int 0, .int 0, .null, .null, .null, .null, .null, .null, .null, .int 0, .int 0, .null, .null, .null, .int 0, .int 0, .int 0, .int 0, .int 0, .int 0, .int 0, .null, .null, .null, .null, .int 0])) :: w5) H _ := hW
  refine lv_aload_n C.1.1 C.1.2.1 dX10_init_44 rfl (lv_at hl 0 rfl) ?_
  refine lv_sipush (v := 400) C.1.1 C.1.2.1 dX10_init_45 (by decide) ?_
  refine kr_i_newa (N := 400) C hW kr_w_y_int (by decide) (by decide) (by decide) (Nat.le_of_ble_eq_true rfl) (Nat.le_of_ble_eq_true rfl) dX10_init_48 (fun q5 H hW => ?_)
  have hW : kr_Wd D A s ((h0, .inr (10, [.ref q0, .ref q1, .int 0, .int 0, .int 0, .ref q2, .ref q3, .int 0, .int 0, .int 0, .ref q4, .int 0, .int 0, .null, .int 0, .int 0, .int 0, .int 0, .int 0, .int 0, .int 0, .null, .null, .null, .null, .null, .null, .null, .int 0, .int 0, .null, .null, .null, .int 0, .int 0, .int 0, .int 0, .int 0, .int 0, .int 0, .null, .null, .null, .null, .int 0])) :: (w5 ++ [(q5, .inl (cs.1, 400, .inl (fun _ => 0)))])) H _ := hW
  generalize hw6 : w5 ++ [(q5, .inl (cs.1, 400, .inl (fun _ => 0)))] = w6 at hW
  refine kr_i_putF (k := 13) (v := .ref q5) (ty := .array .int) C hW kr_cl10 kr_w_f_ChalkRoadsModel_26 (by decide) rfl rfl (by decide +kernel) rfl rfl (Nat.le_of_ble_eq_true rfl) dX10_init_50 (fun H locs hW => ?_)
  have hW : kr_Wd D A s ((h0, .inr (10, [.ref q0, .ref q1, .int 0, .int 0, .int 0, .ref q2, .ref q3, .int 0, .int 0, .int 0, .ref q4, .int 0, .int 0, .ref q5, .int 0, .int 0, .int 0, .int 0, .int 0, .int 0, .int 0, .null, .null, .null, .null, .null, .null, .null, .int 0, .int 0, .null, .null, .null, .int 0, .int 0, .int 0, .int 0, .int 0, .int 0, .int 0, .null, .null, .null, .null, .int 0])) :: w6) H _ := hW
  refine lv_aload_n C.1.1 C.1.2.1 dX10_init_53 rfl (lv_at hl 0 rfl) ?_
  refine lv_bipush (v := 12) C.1.1 C.1.2.1 dX10_init_54 (by decide) ?_
  refine kr_i_newa (N := 12) C hW kr_w_y_int (by decide) (by decide) (by decide) (Nat.le_of_ble_eq_true rfl) (Nat.le_of_ble_eq_true rfl) dX10_init_56 (fun q6 H hW => ?_)
  have hW : kr_Wd D A s ((h0, .inr (10, [.ref q0, .ref q1, .int 0, .int 0, .int 0, .ref q2, .ref q3, .int 0, .int 0, .int 0, .ref q4, .int 0, .int 0, .ref q5, .int 0, .int 0, .int 0, .int 0, .int 0, .int 0, .int 0, .null, .null, .null, .null, .null, .null, .null, .int 0, .int 0, .null, .null, .null, .int 0, .int 0, .int 0, .int 0, .int 0, .int 0, .int 0, .null, .null, .null, .null, .int 0])) :: (w6 ++ [(q6, .inl (cs.1, 12, .inl (fun _ => 0)))])) H _ := hW
  generalize hw7 : w6 ++ [(q6, .inl (cs.1, 12, .inl (fun _ => 0)))] = w7 at hW
  refine kr_i_putF (k := 21) (v := .ref q6) (ty := .array .int) C hW kr_cl10 kr_w_f_ChalkRoadsModel_29 (by decide) rfl rfl (by decide +kernel) rfl rfl (Nat.le_of_ble_eq_true rfl) dX10_init_58 (fun H locs hW => ?_)
  have hW : kr_Wd D A s ((h0, .inr (10, [.ref q0, .ref q1, .int 0, .int 0, .int 0, .ref q2, .ref q3, .int 0, .int 0, .int 0, .ref q4, .int 0, .int 0, .ref q5, .int 0, .int 0, .int 0, .int 0, .int 0, .int 0, .int 0, .ref q6, .null, .null, .null, .null, .null, .null, .int 0, .int 0, .null, .null, .null, .int 0, .int 0, .int 0, .int 0, .int 0, .int 0, .int 0, .null, .null, .null, .null, .int 0])) :: w7) H _ := hW
  refine lv_aload_n C.1.1 C.1.2.1 dX10_init_61 rfl (lv_at hl 0 rfl) ?_
  refine lv_bipush (v := 9) C.1.1 C.1.2.1 dX10_init_62 (by decide) ?_
  refine kr_i_newa (N := 9) C hW kr_w_y_int (by decide) (by decide) (by decide) (Nat.le_of_ble_eq_true rfl) (Nat.le_of_ble_eq_true rfl) dX10_init_64 (fun q7 H hW => ?_)
  have hW : kr_Wd D A s ((h0, .inr (10, [.ref q0, .ref q1, .int 0, .int 0, .int 0, .ref q2, .ref q3, .int 0, .int 0, .int 0, .ref q4, .int 0, .int 0, .ref q5, .int 0, .int 0, .int 0, .int 0, .int 0, .int 0, .int 0, .ref q6, .null, .null, .null, .null, .null, .null, .int 0, .int 0, .null, .null, .null, .int 0, .int 0, .int 0, .int 0, .int 0, .int 0, .int 0, .null, .null, .null, .null, .int 0])) :: (w7 ++ [(q7, .inl (cs.1, 9, .inl (fun _ => 0)))])) H _ := hW
  generalize hw8 : w7 ++ [(q7, .inl (cs.1, 9, .inl (fun _ => 0)))] = w8 at hW
  refine kr_i_putF (k := 22) (v := .ref q7) (ty := .array .int) C hW kr_cl10 kr_w_f_ChalkRoadsModel_32 (by decide) rfl rfl (by decide +kernel) rfl rfl (Nat.le_of_ble_eq_true rfl) dX10_init_66 (fun H locs hW => ?_)
  have hW : kr_Wd D A s ((h0, .inr (10, [.ref q0, .ref q1, .int 0, .int 0, .int 0, .ref q2, .ref q3, .int 0, .int 0, .int 0, .ref q4, .int 0, .int 0, .ref q5, .int 0, .int 0, .int 0, .int 0, .int 0, .int 0, .int 0, .ref q6, .ref q7, .null, .null, .null, .null, .null, .int 0, .int 0, .null, .null, .null, .int 0, .int 0, .int 0, .int 0, .int 0, .int 0, .int 0, .null, .null, .null, .null, .int 0])) :: w8) H _ := hW
  refine lv_aload_n C.1.1 C.1.2.1 dX10_init_69 rfl (lv_at hl 0 rfl) ?_
  refine lv_iconst (v := 5) C.1.1 C.1.2.1 dX10_init_70 (by decide) ?_
  refine kr_i_newa (N := 5) C hW kr_w_y_int (by decide) (by decide) (by decide) (Nat.le_of_ble_eq_true rfl) (Nat.le_of_ble_eq_true rfl) dX10_init_71 (fun q8 H hW => ?_)
  have hW : kr_Wd D A s ((h0, .inr (10, [.ref q0, .ref q1, .int 0, .int 0, .int 0, .ref q2, .ref q3, .int 0, .int 0, .int 0, .ref q4, .int 0, .int 0, .ref q5, .int 0, .int 0, .int 0, .int 0, .int 0, .int 0, .int 0, .ref q6, .ref q7, .null, .null, .null, .null, .null, .int 0, .int 0, .null, .null, .null, .int 0, .int 0, .int 0, .int 0, .int 0, .int 0, .int 0, .null, .null, .null, .null, .int 0])) :: (w8 ++ [(q8, .inl (cs.1, 5, .inl (fun _ => 0)))])) H _ := hW
  generalize hw9 : w8 ++ [(q8, .inl (cs.1, 5, .inl (fun _ => 0)))] = w9 at hW
  refine kr_i_putF (k := 23) (v := .ref q8) (ty := .array .int) C hW kr_cl10 kr_w_f_ChalkRoadsModel_35 (by decide) rfl rfl (by decide +kernel) rfl rfl (Nat.le_of_ble_eq_true rfl) dX10_init_73 (fun H locs hW => ?_)
  have hW : kr_Wd D A s ((h0, .inr (10, [.ref q0, .ref q1, .int 0, .int 0, .int 0, .ref q2, .ref q3, .int 0, .int 0, .int 0, .ref q4, .int 0, .int 0, .ref q5, .int 0, .int 0, .int 0, .int 0, .int 0, .int 0, .int 0, .ref q6, .ref q7, .ref q8, .null, .null, .null, .null, .int 0, .int 0, .null, .null, .null, .int 0, .int 0, .int 0, .int 0, .int 0, .int 0, .int 0, .null, .null, .null, .null, .int 0])) :: w9) H _ := hW
  refine lv_aload_n C.1.1 C.1.2.1 dX10_init_76 rfl (lv_at hl 0 rfl) ?_
  refine lv_iconst (v := 5) C.1.1 C.1.2.1 dX10_init_77 (by decide) ?_
  refine kr_i_newa (N := 5) C hW kr_w_y_int (by decide) (by decide) (by decide) (Nat.le_of_ble_eq_true rfl) (Nat.le_of_ble_eq_true rfl) dX10_init_78 (fun q9 H hW => ?_)
  have hW : kr_Wd D A s ((h0, .inr (10, [.ref q0, .ref q1, .int 0, .int 0, .int 0, .ref q2, .ref q3, .int 0, .int 0, .int 0, .ref q4, .int 0, .int 0, .ref q5, .int 0, .int 0, .int 0, .int 0, .int 0, .int 0, .int 0, .ref q6, .ref q7, .ref q8, .null, .null, .null, .null, .int 0, .int 0, .null, .null, .null, .int 0, .int 0, .int 0, .int 0, .int 0, .int 0, .int 0, .null, .null, .null, .null, .int 0])) :: (w9 ++ [(q9, .inl (cs.1, 5, .inl (fun _ => 0)))])) H _ := hW
  generalize hw10 : w9 ++ [(q9, .inl (cs.1, 5, .inl (fun _ => 0)))] = w10 at hW
  refine kr_i_putF (k := 24) (v := .ref q9) (ty := .array .int) C hW kr_cl10 kr_w_f_ChalkRoadsModel_38 (by decide) rfl rfl (by decide +kernel) rfl rfl (Nat.le_of_ble_eq_true rfl) dX10_init_80 (fun H locs hW => ?_)
  have hW : kr_Wd D A s ((h0, .inr (10, [.ref q0, .ref q1, .int 0, .int 0, .int 0, .ref q2, .ref q3, .int 0, .int 0, .int 0, .ref q4, .int 0, .int 0, .ref q5, .int 0, .int 0, .int 0, .int 0, .int 0, .int 0, .int 0, .ref q6, .ref q7, .ref q8, .ref q9, .null, .null, .null, .int 0, .int 0, .null, .null, .null, .int 0, .int 0, .int 0, .int 0, .int 0, .int 0, .int 0, .null, .null, .null, .null, .int 0])) :: w10) H _ := hW
  refine lv_aload_n C.1.1 C.1.2.1 dX10_init_83 rfl (lv_at hl 0 rfl) ?_
  refine lv_iconst (v := 5) C.1.1 C.1.2.1 dX10_init_84 (by decide) ?_
  refine kr_i_newa (N := 5) C hW kr_w_y_int (by decide) (by decide) (by decide) (Nat.le_of_ble_eq_true rfl) (Nat.le_of_ble_eq_true rfl) dX10_init_85 (fun q10 H hW => ?_)
  have hW : kr_Wd D A s ((h0, .inr (10, [.ref q0, .ref q1, .int 0, .int 0, .int 0, .ref q2, .ref q3, .int 0, .int 0, .int 0, .ref q4, .int 0, .int 0, .ref q5, .int 0, .int 0, .int 0, .int 0, .int 0, .int 0, .int 0, .ref q6, .ref q7, .ref q8, .ref q9, .null, .null, .null, .int 0, .int 0, .null, .null, .null, .int 0, .int 0, .int 0, .int 0, .int 0, .int 0, .int 0, .null, .null, .null, .null, .int 0])) :: (w10 ++ [(q10, .inl (cs.1, 5, .inl (fun _ => 0)))])) H _ := hW
  generalize hw11 : w10 ++ [(q10, .inl (cs.1, 5, .inl (fun _ => 0)))] = w11 at hW
  refine kr_i_putF (k := 25) (v := .ref q10) (ty := .array .int) C hW kr_cl10 kr_w_f_ChalkRoadsModel_41 (by decide) rfl rfl (by decide +kernel) rfl rfl (Nat.le_of_ble_eq_true rfl) dX10_init_87 (fun H locs hW => ?_)
  have hW : kr_Wd D A s ((h0, .inr (10, [.ref q0, .ref q1, .int 0, .int 0, .int 0, .ref q2, .ref q3, .int 0, .int 0, .int 0, .ref q4, .int 0, .int 0, .ref q5, .int 0, .int 0, .int 0, .int 0, .int 0, .int 0, .int 0, .ref q6, .ref q7, .ref q8, .ref q9, .ref q10, .null, .null, .int 0, .int 0, .null, .null, .null, .int 0, .int 0, .int 0, .int 0, .int 0, .int 0, .int 0, .null, .null, .null, .null, .int 0])) :: w11) H _ := hW
  refine lv_aload_n C.1.1 C.1.2.1 dX10_init_90 rfl (lv_at hl 0 rfl) ?_
  refine lv_iconst (v := 5) C.1.1 C.1.2.1 dX10_init_91 (by decide) ?_
  refine kr_i_newa (N := 5) C hW kr_w_y_int (by decide) (by decide) (by decide) (Nat.le_of_ble_eq_true rfl) (Nat.le_of_ble_eq_true rfl) dX10_init_92 (fun q11 H hW => ?_)
  have hW : kr_Wd D A s ((h0, .inr (10, [.ref q0, .ref q1, .int 0, .int 0, .int 0, .ref q2, .ref q3, .int 0, .int 0, .int 0, .ref q4, .int 0, .int 0, .ref q5, .int 0, .int 0, .int 0, .int 0, .int 0, .int 0, .int 0, .ref q6, .ref q7, .ref q8, .ref q9, .ref q10, .null, .null, .int 0, .int 0, .null, .null, .null, .int 0, .int 0, .int 0, .int 0, .int 0, .int 0, .int 0, .null, .null, .null, .null, .int 0])) :: (w11 ++ [(q11, .inl (cs.1, 5, .inl (fun _ => 0)))])) H _ := hW
  generalize hw12 : w11 ++ [(q11, .inl (cs.1, 5, .inl (fun _ => 0)))] = w12 at hW
  refine kr_i_putF (k := 26) (v := .ref q11) (ty := .array .int) C hW kr_cl10 kr_w_f_ChalkRoadsModel_44 (by decide) rfl rfl (by decide +kernel) rfl rfl (Nat.le_of_ble_eq_true rfl) dX10_init_94 (fun H locs hW => ?_)
  have hW : kr_Wd D A s ((h0, .inr (10, [.ref q0, .ref q1, .int 0, .int 0, .int 0, .ref q2, .ref q3, .int 0, .int 0, .int 0, .ref q4, .int 0, .int 0, .ref q5, .int 0, .int 0, .int 0, .int 0, .int 0, .int 0, .int 0, .ref q6, .ref q7, .ref q8, .ref q9, .ref q10, .ref q11, .null, .int 0, .int 0, .null, .null, .null, .int 0, .int 0, .int 0, .int 0, .int 0, .int 0, .int 0, .null, .null, .null, .null, .int 0])) :: w12) H _ := hW
  refine lv_aload_n C.1.1 C.1.2.1 dX10_init_97 rfl (lv_at hl 0 rfl) ?_
  refine lv_iconst (v := 5) C.1.1 C.1.2.1 dX10_init_98 (by decide) ?_
  refine kr_i_newa (N := 5) C hW kr_w_y_int (by decide) (by decide) (by decide) (Nat.le_of_ble_eq_true rfl) (Nat.le_of_ble_eq_true rfl) dX10_init_99 (fun q12 H hW => ?_)
  have hW : kr_Wd D A s ((h0, .inr (10, [.ref q0, .ref q1, .int 0, .int 0, .int 0, .ref q2, .ref q3, .int 0, .int 0, .int 0, .ref q4, .int 0, .int 0, .ref q5, .int 0, .int 0, .int 0, .int 0, .int 0, .int 0, .int 0, .ref q6, .ref q7, .ref q8, .ref q9, .ref q10, .ref q11, .null, .int 0, .int 0, .null, .null, .null, .int 0, .int 0, .int 0, .int 0, .int 0, .int 0, .int 0, .null, .null, .null, .null, .int 0])) :: (w12 ++ [(q12, .inl (cs.1, 5, .inl (fun _ => 0)))])) H _ := hW
  generalize hw13 : w12 ++ [(q12, .inl (cs.1, 5, .inl (fun _ => 0)))] = w13 at hW
  refine kr_i_putF (k := 27) (v := .ref q12) (ty := .array .int) C hW kr_cl10 kr_w_f_ChalkRoadsModel_47 (by decide) rfl rfl (by decide +kernel) rfl rfl (Nat.le_of_ble_eq_true rfl) dX10_init_101 (fun H locs hW => ?_)
  have hW : kr_Wd D A s ((h0, .inr (10, [.ref q0, .ref q1, .int 0, .int 0, .int 0, .ref q2, .ref q3, .int 0, .int 0, .int 0, .ref q4, .int 0, .int 0, .ref q5, .int 0, .int 0, .int 0, .int 0, .int 0, .int 0, .int 0, .ref q6, .ref q7, .ref q8, .ref q9, .ref q10, .ref q11, .ref q12, .int 0, .int 0, .null, .null, .null, .int 0, .int 0, .int 0, .int 0, .int 0, .int 0, .int 0, .null, .null, .null, .null, .int 0])) :: w13) H _ := hW
  refine lv_aload_n C.1.1 C.1.2.1 dX10_init_104 rfl (lv_at hl 0 rfl) ?_
  refine lv_sipush (v := 4096) C.1.1 C.1.2.1 dX10_init_105 (by decide) ?_
  refine kr_i_newa (N := 4096) C hW kr_w_y_int (by decide) (by decide) (by decide) (Nat.le_of_ble_eq_true rfl) (Nat.le_of_ble_eq_true rfl) dX10_init_108 (fun q13 H hW => ?_)
  have hW : kr_Wd D A s ((h0, .inr (10, [.ref q0, .ref q1, .int 0, .int 0, .int 0, .ref q2, .ref q3, .int 0, .int 0, .int 0, .ref q4, .int 0, .int 0, .ref q5, .int 0, .int 0, .int 0, .int 0, .int 0, .int 0, .int 0, .ref q6, .ref q7, .ref q8, .ref q9, .ref q10, .ref q11, .ref q12, .int 0, .int 0, .null, .null, .null, .int 0, .int 0, .int 0, .int 0, .int 0, .int 0, .int 0, .null, .null, .null, .null, .int 0])) :: (w13 ++ [(q13, .inl (cs.1, 4096, .inl (fun _ => 0)))])) H _ := hW
  generalize hw14 : w13 ++ [(q13, .inl (cs.1, 4096, .inl (fun _ => 0)))] = w14 at hW
  refine kr_i_putF (k := 30) (v := .ref q13) (ty := .array .int) C hW kr_cl10 kr_w_f_ChalkRoadsModel_50 (by decide) rfl rfl (by decide +kernel) rfl rfl (Nat.le_of_ble_eq_true rfl) dX10_init_110 (fun H locs hW => ?_)
  have hW : kr_Wd D A s ((h0, .inr (10, [.ref q0, .ref q1, .int 0, .int 0, .int 0, .ref q2, .ref q3, .int 0, .int 0, .int 0, .ref q4, .int 0, .int 0, .ref q5, .int 0, .int 0, .int 0, .int 0, .int 0, .int 0, .int 0, .ref q6, .ref q7, .ref q8, .ref q9, .ref q10, .ref q11, .ref q12, .int 0, .int 0, .ref q13, .null, .null, .int 0, .int 0, .int 0, .int 0, .int 0, .int 0, .int 0, .null, .null, .null, .null, .int 0])) :: w14) H _ := hW
  refine lv_aload_n C.1.1 C.1.2.1 dX10_init_113 rfl (lv_at hl 0 rfl) ?_
  refine lv_iconst (v := 5) C.1.1 C.1.2.1 dX10_init_114 (by decide) ?_
  refine kr_i_newa (N := 5) C hW kr_w_y_int (by decide) (by decide) (by decide) (Nat.le_of_ble_eq_true rfl) (Nat.le_of_ble_eq_true rfl) dX10_init_115 (fun q14 H hW => ?_)
  have hW : kr_Wd D A s ((h0, .inr (10, [.ref q0, .ref q1, .int 0, .int 0, .int 0, .ref q2, .ref q3, .int 0, .int 0, .int 0, .ref q4, .int 0, .int 0, .ref q5, .int 0, .int 0, .int 0, .int 0, .int 0, .int 0, .int 0, .ref q6, .ref q7, .ref q8, .ref q9, .ref q10, .ref q11, .ref q12, .int 0, .int 0, .ref q13, .null, .null, .int 0, .int 0, .int 0, .int 0, .int 0, .int 0, .int 0, .null, .null, .null, .null, .int 0])) :: (w14 ++ [(q14, .inl (cs.1, 5, .inl (fun _ => 0)))])) H _ := hW
  generalize hw15 : w14 ++ [(q14, .inl (cs.1, 5, .inl (fun _ => 0)))] = w15 at hW
  refine kr_i_putF (k := 31) (v := .ref q14) (ty := .array .int) C hW kr_cl10 kr_w_f_ChalkRoadsModel_53 (by decide) rfl rfl (by decide +kernel) rfl rfl (Nat.le_of_ble_eq_true rfl) dX10_init_117 (fun H locs hW => ?_)
  have hW : kr_Wd D A s ((h0, .inr (10, [.ref q0, .ref q1, .int 0, .int 0, .int 0, .ref q2, .ref q3, .int 0, .int 0, .int 0, .ref q4, .int 0, .int 0, .ref q5, .int 0, .int 0, .int 0, .int 0, .int 0, .int 0, .int 0, .ref q6, .ref q7, .ref q8, .ref q9, .ref q10, .ref q11, .ref q12, .int 0, .int 0, .ref q13, .ref q14, .null, .int 0, .int 0, .int 0, .int 0, .int 0, .int 0, .int 0, .null, .null, .null, .null, .int 0])) :: w15) H _ := hW
  refine lv_aload_n C.1.1 C.1.2.1 dX10_init_120 rfl (lv_at hl 0 rfl) ?_
  refine lv_iconst (v := 5) C.1.1 C.1.2.1 dX10_init_121 (by decide) ?_
  refine kr_i_newa (N := 5) C hW kr_w_y_int (by decide) (by decide) (by decide) (Nat.le_of_ble_eq_true rfl) (Nat.le_of_ble_eq_true rfl) dX10_init_122 (fun q15 H hW => ?_)
  have hW : kr_Wd D A s ((h0, .inr (10, [.ref q0, .ref q1, .int 0, .int 0, .int 0, .ref q2, .ref q3, .int 0, .int 0, .int 0, .ref q4, .int 0, .int 0, .ref q5, .int 0, .int 0, .int 0, .int 0, .int 0, .int 0, .int 0, .ref q6, .ref q7, .ref q8, .ref q9, .ref q10, .ref q11, .ref q12, .int 0, .int 0, .ref q13, .ref q14, .null, .int 0, .int 0, .int 0, .int 0, .int 0, .int 0, .int 0, .null, .null, .null, .null, .int 0])) :: (w15 ++ [(q15, .inl (cs.1, 5, .inl (fun _ => 0)))])) H _ := hW
  generalize hw16 : w15 ++ [(q15, .inl (cs.1, 5, .inl (fun _ => 0)))] = w16 at hW
  refine kr_i_putF (k := 32) (v := .ref q15) (ty := .array .int) C hW kr_cl10 kr_w_f_ChalkRoadsModel_56 (by decide) rfl rfl (by decide +kernel) rfl rfl (Nat.le_of_ble_eq_true rfl) dX10_init_124 (fun H locs hW => ?_)
  have hW : kr_Wd D A s ((h0, .inr (10, [.ref q0, .ref q1, .int 0, .int 0, .int 0, .ref q2, .ref q3, .int 0, .int 0, .int 0, .ref q4, .int 0, .int 0, .ref q5, .int 0, .int 0, .int 0, .int 0, .int 0, .int 0, .int 0, .ref q6, .ref q7, .ref q8, .ref q9, .ref q10, .ref q11, .ref q12, .int 0, .int 0, .ref q13, .ref q14, .ref q15, .int 0, .int 0, .int 0, .int 0, .int 0, .int 0, .int 0, .null, .null, .null, .null, .int 0])) :: w16) H _ := hW
  refine lv_aload_n C.1.1 C.1.2.1 dX10_init_127 rfl (lv_at hl 0 rfl) ?_
  refine lv_bipush (v := 12) C.1.1 C.1.2.1 dX10_init_128 (by decide) ?_
  refine kr_i_newa (N := 12) C hW kr_w_y_int (by decide) (by decide) (by decide) (Nat.le_of_ble_eq_true rfl) (Nat.le_of_ble_eq_true rfl) dX10_init_130 (fun q16 H hW => ?_)
  have hW : kr_Wd D A s ((h0, .inr (10, [.ref q0, .ref q1, .int 0, .int 0, .int 0, .ref q2, .ref q3, .int 0, .int 0, .int 0, .ref q4, .int 0, .int 0, .ref q5, .int 0, .int 0, .int 0, .int 0, .int 0, .int 0, .int 0, .ref q6, .ref q7, .ref q8, .ref q9, .ref q10, .ref q11, .ref q12, .int 0, .int 0, .ref q13, .ref q14, .ref q15, .int 0, .int 0, .int 0, .int 0, .int 0, .int 0, .int 0, .null, .null, .null, .null, .int 0])) :: (w16 ++ [(q16, .inl (cs.1, 12, .inl (fun _ => 0)))])) H _ := hW
  generalize hw17 : w16 ++ [(q16, .inl (cs.1, 12, .inl (fun _ => 0)))] = w17 at hW
  refine kr_i_putF (k := 40) (v := .ref q16) (ty := .array .int) C hW kr_cl10 kr_w_f_ChalkRoadsModel_59 (by decide) rfl rfl (by decide +kernel) rfl rfl (Nat.le_of_ble_eq_true rfl) dX10_init_132 (fun H locs hW => ?_)
  have hW : kr_Wd D A s ((h0, .inr (10, [.ref q0, .ref q1, .int 0, .int 0, .int 0, .ref q2, .ref q3, .int 0, .int 0, .int 0, .ref q4, .int 0, .int 0, .ref q5, .int 0, .int 0, .int 0, .int 0, .int 0, .int 0, .int 0, .ref q6, .ref q7, .ref q8, .ref q9, .ref q10, .ref q11, .ref q12, .int 0, .int 0, .ref q13, .ref q14, .ref q15, .int 0, .int 0, .int 0, .int 0, .int 0, .int 0, .int 0, .ref q16, .null, .null, .null, .int 0])) :: w17) H _ := hW
  refine lv_aload_n C.1.1 C.1.2.1 dX10_init_135 rfl (lv_at hl 0 rfl) ?_
  refine lv_iconst (v := 4) C.1.1 C.1.2.1 dX10_init_136 (by decide) ?_
  refine kr_i_newa (N := 4) C hW kr_w_y_int (by decide) (by decide) (by decide) (Nat.le_of_ble_eq_true rfl) (Nat.le_of_ble_eq_true rfl) dX10_init_137 (fun q17 H hW => ?_)
  have hW : kr_Wd D A s ((h0, .inr (10, [.ref q0, .ref q1, .int 0, .int 0, .int 0, .ref q2, .ref q3, .int 0, .int 0, .int 0, .ref q4, .int 0, .int 0, .ref q5, .int 0, .int 0, .int 0, .int 0, .int 0, .int 0, .int 0, .ref q6, .ref q7, .ref q8, .ref q9, .ref q10, .ref q11, .ref q12, .int 0, .int 0, .ref q13, .ref q14, .ref q15, .int 0, .int 0, .int 0, .int 0, .int 0, .int 0, .int 0, .ref q16, .null, .null, .null, .int 0])) :: (w17 ++ [(q17, .inl (cs.1, 4, .inl (fun _ => 0)))])) H _ := hW
  generalize hw18 : w17 ++ [(q17, .inl (cs.1, 4, .inl (fun _ => 0)))] = w18 at hW
  refine kr_i_putF (k := 41) (v := .ref q17) (ty := .array .int) C hW kr_cl10 kr_w_f_ChalkRoadsModel_62 (by decide) rfl rfl (by decide +kernel) rfl rfl (Nat.le_of_ble_eq_true rfl) dX10_init_139 (fun H locs hW => ?_)
  have hW : kr_Wd D A s ((h0, .inr (10, [.ref q0, .ref q1, .int 0, .int 0, .int 0, .ref q2, .ref q3, .int 0, .int 0, .int 0, .ref q4, .int 0, .int 0, .ref q5, .int 0, .int 0, .int 0, .int 0, .int 0, .int 0, .int 0, .ref q6, .ref q7, .ref q8, .ref q9, .ref q10, .ref q11, .ref q12, .int 0, .int 0, .ref q13, .ref q14, .ref q15, .int 0, .int 0, .int 0, .int 0, .int 0, .int 0, .int 0, .ref q16, .ref q17, .null, .null, .int 0])) :: w18) H _ := hW
  refine lv_aload_n C.1.1 C.1.2.1 dX10_init_142 rfl (lv_at hl 0 rfl) ?_
  refine lv_iconst (v := 4) C.1.1 C.1.2.1 dX10_init_143 (by decide) ?_
  refine kr_i_newa (N := 4) C hW kr_w_y_int (by decide) (by decide) (by decide) (Nat.le_of_ble_eq_true rfl) (Nat.le_of_ble_eq_true rfl) dX10_init_144 (fun q18 H hW => ?_)
  have hW : kr_Wd D A s ((h0, .inr (10, [.ref q0, .ref q1, .int 0, .int 0, .int 0, .ref q2, .ref q3, .int 0, .int 0, .int 0, .ref q4, .int 0, .int 0, .ref q5, .int 0, .int 0, .int 0, .int 0, .int 0, .int 0, .int 0, .ref q6, .ref q7, .ref q8, .ref q9, .ref q10, .ref q11, .ref q12, .int 0, .int 0, .ref q13, .ref q14, .ref q15, .int 0, .int 0, .int 0, .int 0, .int 0, .int 0, .int 0, .ref q16, .ref q17, .null, .null, .int 0])) :: (w18 ++ [(q18, .inl (cs.1, 4, .inl (fun _ => 0)))])) H _ := hW
  generalize hw19 : w18 ++ [(q18, .inl (cs.1, 4, .inl (fun _ => 0)))] = w19 at hW
  refine kr_i_putF (k := 42) (v := .ref q18) (ty := .array .int) C hW kr_cl10 kr_w_f_ChalkRoadsModel_65 (by decide) rfl rfl (by decide +kernel) rfl rfl (Nat.le_of_ble_eq_true rfl) dX10_init_146 (fun H locs hW => ?_)
  have hW : kr_Wd D A s ((h0, .inr (10, [.ref q0, .ref q1, .int 0, .int 0, .int 0, .ref q2, .ref q3, .int 0, .int 0, .int 0, .ref q4, .int 0, .int 0, .ref q5, .int 0, .int 0, .int 0, .int 0, .int 0, .int 0, .int 0, .ref q6, .ref q7, .ref q8, .ref q9, .ref q10, .ref q11, .ref q12, .int 0, .int 0, .ref q13, .ref q14, .ref q15, .int 0, .int 0, .int 0, .int 0, .int 0, .int 0, .int 0, .ref q16, .ref q17, .ref q18, .null, .int 0])) :: w19) H _ := hW
  refine lv_aload_n C.1.1 C.1.2.1 dX10_init_149 rfl (lv_at hl 0 rfl) ?_
  refine lv_sipush (v := 160) C.1.1 C.1.2.1 dX10_init_150 (by decide) ?_
  refine kr_i_newa (N := 160) C hW kr_w_y_int (by decide) (by decide) (by decide) (Nat.le_of_ble_eq_true rfl) (Nat.le_of_ble_eq_true rfl) dX10_init_153 (fun q19 H hW => ?_)
  have hW : kr_Wd D A s ((h0, .inr (10, [.ref q0, .ref q1, .int 0, .int 0, .int 0, .ref q2, .ref q3, .int 0, .int 0, .int 0, .ref q4, .int 0, .int 0, .ref q5, .int 0, .int 0, .int 0, .int 0, .int 0, .int 0, .int 0, .ref q6, .ref q7, .ref q8, .ref q9, .ref q10, .ref q11, .ref q12, .int 0, .int 0, .ref q13, .ref q14, .ref q15, .int 0, .int 0, .int 0, .int 0, .int 0, .int 0, .int 0, .ref q16, .ref q17, .ref q18, .null, .int 0])) :: (w19 ++ [(q19, .inl (cs.1, 160, .inl (fun _ => 0)))])) H _ := hW
  generalize hw20 : w19 ++ [(q19, .inl (cs.1, 160, .inl (fun _ => 0)))] = w20 at hW
  refine kr_i_putF (k := 43) (v := .ref q19) (ty := .array .int) C hW kr_cl10 kr_w_f_ChalkRoadsModel_68 (by decide) rfl rfl (by decide +kernel) rfl rfl (Nat.le_of_ble_eq_true rfl) dX10_init_155 (fun H locs hW => ?_)
  have hW : kr_Wd D A s ((h0, .inr (10, [.ref q0, .ref q1, .int 0, .int 0, .int 0, .ref q2, .ref q3, .int 0, .int 0, .int 0, .ref q4, .int 0, .int 0, .ref q5, .int 0, .int 0, .int 0, .int 0, .int 0, .int 0, .int 0, .ref q6, .ref q7, .ref q8, .ref q9, .ref q10, .ref q11, .ref q12, .int 0, .int 0, .ref q13, .ref q14, .ref q15, .int 0, .int 0, .int 0, .int 0, .int 0, .int 0, .int 0, .ref q16, .ref q17, .ref q18, .ref q19, .int 0])) :: w20) H _ := hW
  have hw : w20 = w0 ++ [(q0, .inl (cs.1, 375, .inl (fun _ => 0))), (q1, .inl (cs.2.1, 2, .inl (fun _ => 0))), (q2, .inl (cs.1, 15, .inl (fun _ => 0))), (q3, .inl (cs.1, 125, .inl (fun _ => 0))), (q4, .inl (cs.1, 15, .inl (fun _ => 0))), (q5, .inl (cs.1, 400, .inl (fun _ => 0))), (q6, .inl (cs.1, 12, .inl (fun _ => 0))), (q7, .inl (cs.1, 9, .inl (fun _ => 0))), (q8, .inl (cs.1, 5, .inl (fun _ => 0))), (q9, .inl (cs.1, 5, .inl (fun _ => 0))), (q10, .inl (cs.1, 5, .inl (fun _ => 0))), (q11, .inl (cs.1, 5, .inl (fun _ => 0))), (q12, .inl (cs.1, 5, .inl (fun _ => 0))), (q13, .inl (cs.1, 4096, .inl (fun _ => 0))), (q14, .inl (cs.1, 5, .inl (fun _ => 0))), (q15, .inl (cs.1, 5, .inl (fun _ => 0))), (q16, .inl (cs.1, 12, .inl (fun _ => 0))), (q17, .inl (cs.1, 4, .inl (fun _ => 0))), (q18, .inl (cs.1, 4, .inl (fun _ => 0))), (q19, .inl (cs.1, 160, .inl (fun _ => 0)))] := by
    rw [← hw20, ← hw19, ← hw18, ← hw17, ← hw16, ← hw15, ← hw14, ← hw13, ← hw12, ← hw11, ← hw10, ← hw9, ← hw8, ← hw7, ← hw6, ← hw5, ← hw4, ← hw3, ← hw2, ← hw1]
    simp only [List.append_assoc, List.cons_append, List.nil_append]
  rw [hw, ← hw0] at hW
  refine W.widen (k := 20) (n := 5264) (Nat.le_of_ble_eq_true rfl) (Nat.le_of_ble_eq_true rfl) ?_
  exact n_X10t C hr hlocks hl hSt (n_X10w aS hW) rfl rfl kr_ad_hi
