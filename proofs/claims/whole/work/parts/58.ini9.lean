/-! the class's constructor -/
/-- a constructor's contract that makes an array of Rocks -/
def kr_Mia (l : Launch) (D : va_G) (cs : ClassId × ClassId × ClassId) (y : MethodName) (cc : ByteArray) (nL : Nat) (rm : Room) (h0 : Nat) (o : Nat × List Value) (as : List Value) (w1 : (Nat → Nat) → va_W) : Prop := ∀ sz : Nat,
  Met l y (kr_mi y cc nL) rm (va_Pc (.ref h0 :: as) (fun U => U.heap.size = sz ∧ va_P D vwCl [(h0, .inr o)] U.heap ∧ va_K D vwCl (kr_tys cs) U ∧ va_D (fun _ => True) [(h0, .inr o)] ∧ va_AO "ChalkRoads$Rock" U)) (va_Qv (fun _ : Nat → Nat => True) (fun u t => va_P D vwCl (w1 u) t.heap ∧ va_D (va_A [(h0, .inr o)] sz) (w1 u)) (va_A [(h0, .inr o)] sz)) rm.cells rm.slots (va_A [(h0, .inr o)] sz)
theorem kr_w_o_X9_1 : Cond.methodLink RX9 1 objectInit ∈ kr_gw := kr_gm (i := 73) (by decide +kernel) rfl
theorem kr_w_k_X9_7 : Cond.classLink RX9 7 RX3 ∈ kr_gw := kr_gm (i := 76) (by decide +kernel) rfl
theorem kr_w_n_X9_9 : Cond.methodLink RX9 9 yX3_init ∈ kr_gw := kr_gm (i := 78) (by decide +kernel) rfl
theorem kr_w_k_X9_16 : Cond.classLink RX9 16 RX6 ∈ kr_gw := kr_gm (i := 177) (by decide +kernel) rfl
theorem kr_w_t_X6 : Cond.instantiable RX6 2 ∈ kr_gw := kr_gm (i := 178) (by decide +kernel) rfl
theorem kr_w_z_X6 : Cond.initialized RX6 ∈ kr_gw := kr_gm (i := 52) (by decide +kernel) rfl
theorem kr_w_nc_X6 : Cond.code yX6_init cX6_init 1 none ∈ kr_gw := kr_gm (i := 181) (by decide +kernel) rfl
theorem kr_w_n_X9_18 : Cond.methodLink RX9 18 yX6_init ∈ kr_gw := kr_gm (i := 179) (by decide +kernel) rfl
theorem kr_w_ni_X6 : Cond.instanceMethod yX6_init ∈ kr_gw := kr_gm (i := 180) (by decide +kernel) rfl
theorem kr_w_k_X9_23 : Cond.classLink RX9 23 RX2 ∈ kr_gw := kr_gm (i := 192) (by decide +kernel) rfl
theorem kr_w_t_X2 : Cond.instantiable RX2 10 ∈ kr_gw := kr_gm (i := 193) (by decide +kernel) rfl
theorem kr_w_z_X2 : Cond.initialized RX2 ∈ kr_gw := kr_gm (i := 53) (by decide +kernel) rfl
theorem kr_w_nc_X2 : Cond.code yX2_init cX2_init 2 none ∈ kr_gw := kr_gm (i := 196) (by decide +kernel) rfl
theorem kr_w_n_X9_25 : Cond.methodLink RX9 25 yX2_init ∈ kr_gw := kr_gm (i := 194) (by decide +kernel) rfl
theorem kr_w_ni_X2 : Cond.instanceMethod yX2_init ∈ kr_gw := kr_gm (i := 195) (by decide +kernel) rfl
theorem kr_w_k_X9_32 : Cond.classLink RX9 32 RX8 ∈ kr_gw := kr_gm (i := 235) (by decide +kernel) rfl
theorem kr_w_t_X8 : Cond.instantiable RX8 3 ∈ kr_gw := kr_gm (i := 236) (by decide +kernel) rfl
theorem kr_w_z_X8 : Cond.initialized RX8 ∈ kr_gw := kr_gm (i := 54) (by decide +kernel) rfl
theorem kr_w_nc_X8 : Cond.code yX8_init cX8_init 2 none ∈ kr_gw := kr_gm (i := 239) (by decide +kernel) rfl
theorem kr_w_n_X9_34 : Cond.methodLink RX9 34 yX8_init ∈ kr_gw := kr_gm (i := 237) (by decide +kernel) rfl
theorem kr_w_ni_X8 : Cond.instanceMethod yX8_init ∈ kr_gw := kr_gm (i := 238) (by decide +kernel) rfl
theorem kr_w_k_X9_41 : Cond.classLink RX9 41 RX7 ∈ kr_gw := kr_gm (i := 251) (by decide +kernel) rfl
theorem kr_w_t_X7 : Cond.instantiable RX7 8 ∈ kr_gw := kr_gm (i := 252) (by decide +kernel) rfl
theorem kr_w_z_X7 : Cond.initialized RX7 ∈ kr_gw := kr_gm (i := 55) (by decide +kernel) rfl
theorem kr_w_nc_X7 : Cond.code yX7_init cX7_init 3 none ∈ kr_gw := kr_gm (i := 255) (by decide +kernel) rfl
theorem kr_w_n_X9_43 : Cond.methodLink RX9 43 yX7_init ∈ kr_gw := kr_gm (i := 253) (by decide +kernel) rfl
theorem kr_w_ni_X7 : Cond.instanceMethod yX7_init ∈ kr_gw := kr_gm (i := 254) (by decide +kernel) rfl
theorem kr_w_k_X9_50 : Cond.classLink RX9 50 RX0 ∈ kr_gw := kr_gm (i := 286) (by decide +kernel) rfl
theorem kr_w_t_X0 : Cond.instantiable RX0 4 ∈ kr_gw := kr_gm (i := 287) (by decide +kernel) rfl
theorem kr_w_z_X0 : Cond.initialized RX0 ∈ kr_gw := kr_gm (i := 56) (by decide +kernel) rfl
theorem kr_w_nc_X0 : Cond.code yX0_init cX0_init 3 none ∈ kr_gw := kr_gm (i := 290) (by decide +kernel) rfl
theorem kr_w_n_X9_52 : Cond.methodLink RX9 52 yX0_init ∈ kr_gw := kr_gm (i := 288) (by decide +kernel) rfl
theorem kr_w_ni_X0 : Cond.instanceMethod yX0_init ∈ kr_gw := kr_gm (i := 289) (by decide +kernel) rfl
theorem kr_w_k_X9_57 : Cond.classLink RX9 57 RX4 ∈ kr_gw := kr_gm (i := 305) (by decide +kernel) rfl
theorem kr_w_t_X4 : Cond.instantiable RX4 3 ∈ kr_gw := kr_gm (i := 306) (by decide +kernel) rfl
theorem kr_w_z_X4 : Cond.initialized RX4 ∈ kr_gw := kr_gm (i := 57) (by decide +kernel) rfl
theorem kr_w_nc_X4 : Cond.code yX4_init cX4_init 2 none ∈ kr_gw := kr_gm (i := 309) (by decide +kernel) rfl
theorem kr_w_n_X9_59 : Cond.methodLink RX9 59 yX4_init ∈ kr_gw := kr_gm (i := 307) (by decide +kernel) rfl
theorem kr_w_ni_X4 : Cond.instanceMethod yX4_init ∈ kr_gw := kr_gm (i := 308) (by decide +kernel) rfl
theorem kr_w_k_X9_64 : Cond.classLink RX9 64 RX1 ∈ kr_gw := kr_gm (i := 322) (by decide +kernel) rfl
theorem kr_w_t_X1 : Cond.instantiable RX1 8 ∈ kr_gw := kr_gm (i := 323) (by decide +kernel) rfl
theorem kr_w_z_X1 : Cond.initialized RX1 ∈ kr_gw := kr_gm (i := 58) (by decide +kernel) rfl
theorem kr_w_nc_X1 : Cond.code yX1_init cX1_init 2 none ∈ kr_gw := kr_gm (i := 326) (by decide +kernel) rfl
theorem kr_w_n_X9_66 : Cond.methodLink RX9 66 yX1_init ∈ kr_gw := kr_gm (i := 324) (by decide +kernel) rfl
theorem kr_w_ni_X1 : Cond.instanceMethod yX1_init ∈ kr_gw := kr_gm (i := 325) (by decide +kernel) rfl
theorem kr_w_k_X9_71 : Cond.classLink RX9 71 RX5 ∈ kr_gw := kr_gm (i := 359) (by decide +kernel) rfl
theorem kr_w_t_X5 : Cond.instantiable RX5 3 ∈ kr_gw := kr_gm (i := 360) (by decide +kernel) rfl
theorem kr_w_z_X5 : Cond.initialized RX5 ∈ kr_gw := kr_gm (i := 59) (by decide +kernel) rfl
theorem kr_w_nc_X5 : Cond.code yX5_init cX5_init 2 none ∈ kr_gw := kr_gm (i := 363) (by decide +kernel) rfl
theorem kr_w_n_X9_73 : Cond.methodLink RX9 73 yX5_init ∈ kr_gw := kr_gm (i := 361) (by decide +kernel) rfl
theorem kr_w_ni_X5 : Cond.instanceMethod yX5_init ∈ kr_gw := kr_gm (i := 362) (by decide +kernel) rfl
theorem dX9_init_0 : decode cX9_init 0 = .ok (.aload_n 0, 1) := by decide +kernel
theorem dX9_init_1 : decode cX9_init 1 = .ok (.invokespecial 1, 3) := by decide +kernel
theorem dX9_init_4 : decode cX9_init 4 = .ok (.aload_n 0, 1) := by decide +kernel
theorem dX9_init_5 : decode cX9_init 5 = .ok (.new 7, 3) := by decide +kernel
theorem dX9_init_8 : decode cX9_init 8 = .ok (.dup, 1) := by decide +kernel
theorem dX9_init_9 : decode cX9_init 9 = .ok (.invokespecial 9, 3) := by decide +kernel
theorem dX9_init_12 : decode cX9_init 12 = .ok (.putfield 10, 3) := by decide +kernel
theorem dX9_init_15 : decode cX9_init 15 = .ok (.aload_n 0, 1) := by decide +kernel
theorem dX9_init_16 : decode cX9_init 16 = .ok (.new 16, 3) := by decide +kernel
theorem dX9_init_19 : decode cX9_init 19 = .ok (.dup, 1) := by decide +kernel
theorem dX9_init_20 : decode cX9_init 20 = .ok (.invokespecial 18, 3) := by decide +kernel
theorem dX9_init_23 : decode cX9_init 23 = .ok (.putfield 19, 3) := by decide +kernel
theorem dX9_init_26 : decode cX9_init 26 = .ok (.aload_n 0, 1) := by decide +kernel
theorem dX9_init_27 : decode cX9_init 27 = .ok (.new 23, 3) := by decide +kernel
theorem dX9_init_30 : decode cX9_init 30 = .ok (.dup, 1) := by decide +kernel
theorem dX9_init_31 : decode cX9_init 31 = .ok (.aload_n 0, 1) := by decide +kernel
theorem dX9_init_32 : decode cX9_init 32 = .ok (.getfield 19, 3) := by decide +kernel
theorem dX9_init_35 : decode cX9_init 35 = .ok (.invokespecial 25, 3) := by decide +kernel
theorem dX9_init_38 : decode cX9_init 38 = .ok (.putfield 28, 3) := by decide +kernel
theorem dX9_init_41 : decode cX9_init 41 = .ok (.aload_n 0, 1) := by decide +kernel
theorem dX9_init_42 : decode cX9_init 42 = .ok (.new 32, 3) := by decide +kernel
theorem dX9_init_45 : decode cX9_init 45 = .ok (.dup, 1) := by decide +kernel
theorem dX9_init_46 : decode cX9_init 46 = .ok (.aload_n 0, 1) := by decide +kernel
theorem dX9_init_47 : decode cX9_init 47 = .ok (.getfield 10, 3) := by decide +kernel
theorem dX9_init_50 : decode cX9_init 50 = .ok (.invokespecial 34, 3) := by decide +kernel
theorem dX9_init_53 : decode cX9_init 53 = .ok (.putfield 37, 3) := by decide +kernel
theorem dX9_init_56 : decode cX9_init 56 = .ok (.aload_n 0, 1) := by decide +kernel
theorem dX9_init_57 : decode cX9_init 57 = .ok (.new 41, 3) := by decide +kernel
theorem dX9_init_60 : decode cX9_init 60 = .ok (.dup, 1) := by decide +kernel
theorem dX9_init_61 : decode cX9_init 61 = .ok (.aload_n 0, 1) := by decide +kernel
theorem dX9_init_62 : decode cX9_init 62 = .ok (.getfield 10, 3) := by decide +kernel
theorem dX9_init_65 : decode cX9_init 65 = .ok (.aload_n 0, 1) := by decide +kernel
theorem dX9_init_66 : decode cX9_init 66 = .ok (.getfield 37, 3) := by decide +kernel
theorem dX9_init_69 : decode cX9_init 69 = .ok (.invokespecial 43, 3) := by decide +kernel
theorem dX9_init_72 : decode cX9_init 72 = .ok (.putfield 46, 3) := by decide +kernel
theorem dX9_init_75 : decode cX9_init 75 = .ok (.aload_n 0, 1) := by decide +kernel
theorem dX9_init_76 : decode cX9_init 76 = .ok (.new 50, 3) := by decide +kernel
theorem dX9_init_79 : decode cX9_init 79 = .ok (.dup, 1) := by decide +kernel
theorem dX9_init_80 : decode cX9_init 80 = .ok (.aload_n 0, 1) := by decide +kernel
theorem dX9_init_81 : decode cX9_init 81 = .ok (.getfield 10, 3) := by decide +kernel
theorem dX9_init_84 : decode cX9_init 84 = .ok (.aload_n 0, 1) := by decide +kernel
theorem dX9_init_85 : decode cX9_init 85 = .ok (.getfield 37, 3) := by decide +kernel
theorem dX9_init_88 : decode cX9_init 88 = .ok (.invokespecial 52, 3) := by decide +kernel
theorem dX9_init_91 : decode cX9_init 91 = .ok (.putfield 53, 3) := by decide +kernel
theorem dX9_init_94 : decode cX9_init 94 = .ok (.aload_n 0, 1) := by decide +kernel
theorem dX9_init_95 : decode cX9_init 95 = .ok (.new 57, 3) := by decide +kernel
theorem dX9_init_98 : decode cX9_init 98 = .ok (.dup, 1) := by decide +kernel
theorem dX9_init_99 : decode cX9_init 99 = .ok (.aload_n 0, 1) := by decide +kernel
theorem dX9_init_100 : decode cX9_init 100 = .ok (.getfield 10, 3) := by decide +kernel
theorem dX9_init_103 : decode cX9_init 103 = .ok (.invokespecial 59, 3) := by decide +kernel
theorem dX9_init_106 : decode cX9_init 106 = .ok (.putfield 60, 3) := by decide +kernel
theorem dX9_init_109 : decode cX9_init 109 = .ok (.aload_n 0, 1) := by decide +kernel
theorem dX9_init_110 : decode cX9_init 110 = .ok (.new 64, 3) := by decide +kernel
theorem dX9_init_113 : decode cX9_init 113 = .ok (.dup, 1) := by decide +kernel
theorem dX9_init_114 : decode cX9_init 114 = .ok (.aload_n 0, 1) := by decide +kernel
theorem dX9_init_115 : decode cX9_init 115 = .ok (.getfield 10, 3) := by decide +kernel
theorem dX9_init_118 : decode cX9_init 118 = .ok (.invokespecial 66, 3) := by decide +kernel
theorem dX9_init_121 : decode cX9_init 121 = .ok (.putfield 67, 3) := by decide +kernel
theorem dX9_init_124 : decode cX9_init 124 = .ok (.aload_n 0, 1) := by decide +kernel
theorem dX9_init_125 : decode cX9_init 125 = .ok (.new 71, 3) := by decide +kernel
theorem dX9_init_128 : decode cX9_init 128 = .ok (.dup, 1) := by decide +kernel
theorem dX9_init_129 : decode cX9_init 129 = .ok (.invokespecial 73, 3) := by decide +kernel
theorem dX9_init_132 : decode cX9_init 132 = .ok (.putfield 74, 3) := by decide +kernel
theorem dX9_init_135 : decode cX9_init 135 = .ok (.aload_n 0, 1) := by decide +kernel
theorem dX9_init_136 : decode cX9_init 136 = .ok (.iconst 2, 1) := by decide +kernel
theorem dX9_init_137 : decode cX9_init 137 = .ok (.anewarray 7, 3) := by decide +kernel
theorem dX9_init_140 : decode cX9_init 140 = .ok (.putfield 78, 3) := by decide +kernel
theorem dX9_init_143 : decode cX9_init 143 = .ok (.iconst 0, 1) := by decide +kernel
theorem dX9_init_144 : decode cX9_init 144 = .ok (.istore_n 1, 1) := by decide +kernel
theorem dX9_init_145 : decode cX9_init 145 = .ok (.iload_n 1, 1) := by decide +kernel
theorem dX9_init_146 : decode cX9_init 146 = .ok (.iconst 2, 1) := by decide +kernel
theorem dX9_init_147 : decode cX9_init 147 = .ok (.if_icmp .ge 22, 3) := by decide +kernel
theorem dX9_init_150 : decode cX9_init 150 = .ok (.aload_n 0, 1) := by decide +kernel
theorem dX9_init_151 : decode cX9_init 151 = .ok (.getfield 78, 3) := by decide +kernel
theorem dX9_init_154 : decode cX9_init 154 = .ok (.iload_n 1, 1) := by decide +kernel
theorem dX9_init_155 : decode cX9_init 155 = .ok (.new 7, 3) := by decide +kernel
theorem dX9_init_158 : decode cX9_init 158 = .ok (.dup, 1) := by decide +kernel
theorem dX9_init_159 : decode cX9_init 159 = .ok (.invokespecial 9, 3) := by decide +kernel
theorem dX9_init_162 : decode cX9_init 162 = .ok (.aastore, 1) := by decide +kernel
theorem dX9_init_163 : decode cX9_init 163 = .ok (.iinc 1 1, 3) := by decide +kernel
theorem dX9_init_166 : decode cX9_init 166 = .ok (.goto (-21), 3) := by decide +kernel
theorem dX9_init_169 : decode cX9_init 169 = .ok (.aload_n 0, 1) := by decide +kernel
theorem dX9_init_170 : decode cX9_init 170 = .ok (.iconst 0, 1) := by decide +kernel
theorem dX9_init_171 : decode cX9_init 171 = .ok (.putfield 82, 3) := by decide +kernel
theorem dX9_init_174 : decode cX9_init 174 = .ok (.aload_n 0, 1) := by decide +kernel
theorem dX9_init_175 : decode cX9_init 175 = .ok (.iconst 0, 1) := by decide +kernel
theorem dX9_init_176 : decode cX9_init 176 = .ok (.putfield 86, 3) := by decide +kernel
theorem dX9_init_179 : decode cX9_init 179 = .ok (.return_, 1) := by decide +kernel
abbrev n_f9 : List Value := [.null, .null, .null, .null, .null, .null, .null, .null, .null, .null, .int 0, .int 0]
theorem n_df9 : ∀ j, j < 12 → defaultValue (tyX9 j) = vp_V n_f9 j := by decide +kernel
def w_X9 (cs : ClassId × ClassId × ClassId) (h0 : Nat) (u : Nat → Nat) : va_W := [(h0, .inr (9, [.ref (u 0), .ref (u 10), .ref (u 12), .ref (u 23), .ref (u 26), .ref (u 33), .ref (u 34), .ref (u 37), .ref (u 39), .ref (u 43), .int 0, .int 0]))] ++ w_X3 cs (u 0) (fun j => u (j + 1)) ++ w_X6 cs (u 10) (fun j => u (j + 11)) ++ w_X2 cs (u 12) (u 10) (fun j => u (j + 13)) ++ w_X8 cs (u 23) (u 0) (fun j => u (j + 24)) ++ w_X7 cs (u 26) (u 0) (u 23) (fun j => u (j + 27)) ++ w_X0 cs (u 33) (u 0) (u 23) (fun j => u (j + 34)) ++ w_X4 cs (u 34) (u 0) (fun j => u (j + 35)) ++ w_X1 cs (u 37) (u 0) (fun j => u (j + 38)) ++ w_X5 cs (u 39) (fun j => u (j + 40)) ++ [((u 43), .inl (cs.2.2, 2, .inr (.inr (.inr (.inr (va_up (va_up (fun _ => none) ((0 : Int32).toNatClampNeg) (some (u 44))) ((1 : Int32).toNatClampNeg) (some (u 54))))))))] ++ w_X3 cs (u 44) (fun j => u (j + 45)) ++ w_X3 cs (u 54) (fun j => u (j + 55))
set_option maxHeartbeats 4000000 in
set_option maxRecDepth 100000 in
theorem n_X9 (l : Launch) (D : va_G) (cs : ClassId × ClassId × ClassId) (h0 : Nat) : kr_Mia l D cs yX9_init cX9_init 2 { frames := 3, cells := 64, slots := 1143, locals := 53 } h0 (9, n_f9) [] (w_X9 cs h0) := by
  intro sz
  refine Met.ofW (cc := cX9_init) (maxL := 2) (ret := none) (by decide +kernel) rfl ?_
  intro p e s m args below meth c s₁ B hml hv
  obtain ⟨rfl, hsz, hP, hK, hD0, hAO⟩ := hv
  have hts := atoms_spec (ws := kr_mi yX9_init cX9_init 2) B.pre
  have hown : s.vm.findClass RX9 = some m.cls := findClass_of_methodNamed B.named
  have hlocks := B.notSynchronized
  have hin : meth.name = "<init>" := (name_of_methodNamed B.named B.method).1
  have hr := B.returns
  subst hsz
  have hD := hD0.self (sz := s.heap.size)
  generalize hAe : va_A [(h0, .inr (9, n_f9))] s.heap.size = A at hD ⊢
  have hA : ∀ q : Nat, s.heap.size ≤ q → A q := fun q h => by rw [← hAe]; exact Or.inr h
  have C : kr_Cn RX9 cX9_init 2 p s m ([.ref h0] : List Value).toArray meth c D cs A := ⟨⟨B.exec, B.bytes, hml, hown, fun w hw => hts w (List.mem_cons_of_mem _ hw)⟩, hK, hA, hin⟩
  have hW : kr_Wd D A s [(h0, .inr (9, n_f9))] s.heap [] := ⟨hP, hD, va_S.rf⟩
  have hl := lv_entry ([.ref h0]) (n := 2) (Nat.le_of_ble_eq_true rfl)
  rw [lg_entry_eq]
  generalize (lg_sl ([.ref h0]) ++ List.replicate (2 - (lg_sl ([.ref h0])).length) Slot.unset).toArray = ls at hl ⊢
  have hl : lv_has ls 2 [(0, .ref h0)] := hl
  refine lv_aload_n C.1.1 C.1.2.1 dX9_init_0 rfl (lv_at hl 0 rfl) ?_
  refine kr_i_obj C kr_w_o_X9_1 kr_w_oi kr_w_oc hl.1 dX9_init_1 ⟨Nat.le_of_ble_eq_true rfl, Nat.le_of_ble_eq_true rfl⟩ ?_
  refine lv_aload_n C.1.1 C.1.2.1 dX9_init_4 rfl (lv_at hl 0 rfl) ?_
  refine kr_i_new C hW kr_cl3 (fs := n_f3) tyX3 tyX3_ok n_df3 kr_w_k_X9_7 kr_w_t_X3 kr_w_z_X3 (Nat.le_of_ble_eq_true rfl) (Nat.le_of_ble_eq_true rfl) dX9_init_5 (fun q0 H hW => ?_)
  have hW : kr_Wd D A s (((h0, .inr (9, [.null, .null, .null, .null, .null, .null, .null, .null, .null, .null, .int 0, .int 0])) :: ([])) ++ [(q0, .inr (3, n_f3))]) H _ := hW
  refine lv_dup C.1.1 C.1.2.1 dX9_init_8 rfl ?_
  refine kr_i_init (n := 0) (wr := ((h0, .inr (9, [.null, .null, .null, .null, .null, .null, .null, .null, .null, .null, .int 0, .int 0])) :: ([]))) (As := []) (rest := [.ref q0, .ref h0]) C hW (n_X3 l D cs q0) kr_w_nc_X3 kr_w_z_X3 kr_w_n_X9_9 kr_w_ni_X3 rfl (by decide +kernel) ⟨Nat.le_of_ble_eq_true rfl, Nat.le_of_ble_eq_true rfl⟩ rfl hl.1 rfl (Nat.le_of_ble_eq_true rfl) ⟨Nat.le_of_ble_eq_true rfl, Nat.le_of_ble_eq_true rfl⟩ dX9_init_9 (fun u1 H locs hW => ?_)
  have hW : kr_Wd D A s ((h0, .inr (9, [.null, .null, .null, .null, .null, .null, .null, .null, .null, .null, .int 0, .int 0])) :: (w_X3 cs q0 u1)) H _ := hW
  refine kr_i_putF (k := 0) (v := .ref q0) (ty := .object "ChalkRoads$Rock") C hW kr_cl9 kr_w_f_ChalkRoads_10 (by decide) rfl rfl (by decide +kernel) rfl rfl (Nat.le_of_ble_eq_true rfl) dX9_init_12 (fun H locs hW => ?_)
  have hW : kr_Wd D A s ((h0, .inr (9, [.ref q0, .null, .null, .null, .null, .null, .null, .null, .null, .null, .int 0, .int 0])) :: (w_X3 cs q0 u1)) H _ := hW
  refine lv_aload_n C.1.1 C.1.2.1 dX9_init_15 rfl (lv_at hl 0 rfl) ?_
  refine kr_i_new C hW kr_cl6 (fs := n_f6) tyX6 tyX6_ok n_df6 kr_w_k_X9_16 kr_w_t_X6 kr_w_z_X6 (Nat.le_of_ble_eq_true rfl) (Nat.le_of_ble_eq_true rfl) dX9_init_16 (fun q10 H hW => ?_)
  have hW : kr_Wd D A s (((h0, .inr (9, [.ref q0, .null, .null, .null, .null, .null, .null, .null, .null, .null, .int 0, .int 0])) :: (w_X3 cs q0 u1)) ++ [(q10, .inr (6, n_f6))]) H _ := hW
  refine lv_dup C.1.1 C.1.2.1 dX9_init_19 rfl ?_
  refine kr_i_init (n := 0) (wr := ((h0, .inr (9, [.ref q0, .null, .null, .null, .null, .null, .null, .null, .null, .null, .int 0, .int 0])) :: (w_X3 cs q0 u1))) (As := []) (rest := [.ref q10, .ref h0]) C hW (n_X6 l D cs q10) kr_w_nc_X6 kr_w_z_X6 kr_w_n_X9_18 kr_w_ni_X6 rfl (by decide +kernel) ⟨Nat.le_of_ble_eq_true rfl, Nat.le_of_ble_eq_true rfl⟩ rfl hl.1 rfl (Nat.le_of_ble_eq_true rfl) ⟨Nat.le_of_ble_eq_true rfl, Nat.le_of_ble_eq_true rfl⟩ dX9_init_20 (fun u11 H locs hW => ?_)
  have hW : kr_Wd D A s ((h0, .inr (9, [.ref q0, .null, .null, .null, .null, .null, .null, .null, .null, .null, .int 0, .int 0])) :: (w_X3 cs q0 u1 ++ w_X6 cs q10 u11)) H _ := hW
  refine kr_i_putF (k := 1) (v := .ref q10) (ty := .object "ChalkRoads$Tape") C hW kr_cl9 kr_w_f_ChalkRoads_19 (by decide) rfl rfl (by decide +kernel) rfl rfl (Nat.le_of_ble_eq_true rfl) dX9_init_23 (fun H locs hW => ?_)
  have hW : kr_Wd D A s ((h0, .inr (9, [.ref q0, .ref q10, .null, .null, .null, .null, .null, .null, .null, .null, .int 0, .int 0])) :: (w_X3 cs q0 u1 ++ w_X6 cs q10 u11)) H _ := hW
  refine lv_aload_n C.1.1 C.1.2.1 dX9_init_26 rfl (lv_at hl 0 rfl) ?_
  refine kr_i_new C hW kr_cl2 (fs := n_f2) tyX2 tyX2_ok n_df2 kr_w_k_X9_23 kr_w_t_X2 kr_w_z_X2 (Nat.le_of_ble_eq_true rfl) (Nat.le_of_ble_eq_true rfl) dX9_init_27 (fun q12 H hW => ?_)
  have hW : kr_Wd D A s (((h0, .inr (9, [.ref q0, .ref q10, .null, .null, .null, .null, .null, .null, .null, .null, .int 0, .int 0])) :: (w_X3 cs q0 u1 ++ w_X6 cs q10 u11)) ++ [(q12, .inr (2, n_f2))]) H _ := hW
  refine lv_dup C.1.1 C.1.2.1 dX9_init_30 rfl ?_
  refine lv_aload_n C.1.1 C.1.2.1 dX9_init_31 rfl (lv_at hl 0 rfl) ?_
  refine kr_i_get (k := 1) (v := .ref q10) C hW kr_cl9 kr_w_f_ChalkRoads_19 (by decide) rfl dX9_init_32 ?_
  refine kr_i_init (n := 1) (wr := ((h0, .inr (9, [.ref q0, .ref q10, .null, .null, .null, .null, .null, .null, .null, .null, .int 0, .int 0])) :: (w_X3 cs q0 u1 ++ w_X6 cs q10 u11))) (As := [.ref q10]) (rest := [.ref q12, .ref h0]) C hW (n_X2 l D cs q12 q10) kr_w_nc_X2 kr_w_z_X2 kr_w_n_X9_25 kr_w_ni_X2 rfl (by decide +kernel) ⟨Nat.le_of_ble_eq_true rfl, Nat.le_of_ble_eq_true rfl⟩ rfl hl.1 rfl (Nat.le_of_ble_eq_true rfl) ⟨Nat.le_of_ble_eq_true rfl, Nat.le_of_ble_eq_true rfl⟩ dX9_init_35 (fun u13 H locs hW => ?_)
  have hW : kr_Wd D A s ((h0, .inr (9, [.ref q0, .ref q10, .null, .null, .null, .null, .null, .null, .null, .null, .int 0, .int 0])) :: (w_X3 cs q0 u1 ++ w_X6 cs q10 u11 ++ w_X2 cs q12 q10 u13)) H _ := hW
  refine kr_i_putF (k := 2) (v := .ref q12) (ty := .object "ChalkRoads$Reader") C hW kr_cl9 kr_w_f_ChalkRoads_28 (by decide) rfl rfl (by decide +kernel) rfl rfl (Nat.le_of_ble_eq_true rfl) dX9_init_38 (fun H locs hW => ?_)
  have hW : kr_Wd D A s ((h0, .inr (9, [.ref q0, .ref q10, .ref q12, .null, .null, .null, .null, .null, .null, .null, .int 0, .int 0])) :: (w_X3 cs q0 u1 ++ w_X6 cs q10 u11 ++ w_X2 cs q12 q10 u13)) H _ := hW
  refine lv_aload_n C.1.1 C.1.2.1 dX9_init_41 rfl (lv_at hl 0 rfl) ?_
  refine kr_i_new C hW kr_cl8 (fs := n_f8) tyX8 tyX8_ok n_df8 kr_w_k_X9_32 kr_w_t_X8 kr_w_z_X8 (Nat.le_of_ble_eq_true rfl) (Nat.le_of_ble_eq_true rfl) dX9_init_42 (fun q23 H hW => ?_)
  have hW : kr_Wd D A s (((h0, .inr (9, [.ref q0, .ref q10, .ref q12, .null, .null, .null, .null, .null, .null, .null, .int 0, .int 0])) :: (w_X3 cs q0 u1 ++ w_X6 cs q10 u11 ++ w_X2 cs q12 q10 u13)) ++ [(q23, .inr (8, n_f8))]) H _ := hW
  refine lv_dup C.1.1 C.1.2.1 dX9_init_45 rfl ?_
  refine lv_aload_n C.1.1 C.1.2.1 dX9_init_46 rfl (lv_at hl 0 rfl) ?_
  refine kr_i_get (k := 0) (v := .ref q0) C hW kr_cl9 kr_w_f_ChalkRoads_10 (by decide) rfl dX9_init_47 ?_
  refine kr_i_init (n := 1) (wr := ((h0, .inr (9, [.ref q0, .ref q10, .ref q12, .null, .null, .null, .null, .null, .null, .null, .int 0, .int 0])) :: (w_X3 cs q0 u1 ++ w_X6 cs q10 u11 ++ w_X2 cs q12 q10 u13))) (As := [.ref q0]) (rest := [.ref q23, .ref h0]) C hW (n_X8 l D cs q23 q0) kr_w_nc_X8 kr_w_z_X8 kr_w_n_X9_34 kr_w_ni_X8 rfl (by decide +kernel) ⟨Nat.le_of_ble_eq_true rfl, Nat.le_of_ble_eq_true rfl⟩ rfl hl.1 rfl (Nat.le_of_ble_eq_true rfl) ⟨Nat.le_of_ble_eq_true rfl, Nat.le_of_ble_eq_true rfl⟩ dX9_init_50 (fun u24 H locs hW => ?_)
  have hW : kr_Wd D A s ((h0, .inr (9, [.ref q0, .ref q10, .ref q12, .null, .null, .null, .null, .null, .null, .null, .int 0, .int 0])) :: (w_X3 cs q0 u1 ++ w_X6 cs q10 u11 ++ w_X2 cs q12 q10 u13 ++ w_X8 cs q23 q0 u24)) H _ := hW
  refine kr_i_putF (k := 3) (v := .ref q23) (ty := .object "ChalkRoads$Ways") C hW kr_cl9 kr_w_f_ChalkRoads_37 (by decide) rfl rfl (by decide +kernel) rfl rfl (Nat.le_of_ble_eq_true rfl) dX9_init_53 (fun H locs hW => ?_)
  have hW : kr_Wd D A s ((h0, .inr (9, [.ref q0, .ref q10, .ref q12, .ref q23, .null, .null, .null, .null, .null, .null, .int 0, .int 0])) :: (w_X3 cs q0 u1 ++ w_X6 cs q10 u11 ++ w_X2 cs q12 q10 u13 ++ w_X8 cs q23 q0 u24)) H _ := hW
  refine lv_aload_n C.1.1 C.1.2.1 dX9_init_56 rfl (lv_at hl 0 rfl) ?_
  refine kr_i_new C hW kr_cl7 (fs := n_f7) tyX7 tyX7_ok n_df7 kr_w_k_X9_41 kr_w_t_X7 kr_w_z_X7 (Nat.le_of_ble_eq_true rfl) (Nat.le_of_ble_eq_true rfl) dX9_init_57 (fun q26 H hW => ?_)
  have hW : kr_Wd D A s (((h0, .inr (9, [.ref q0, .ref q10, .ref q12, .ref q23, .null, .null, .null, .null, .null, .null, .int 0, .int 0])) :: (w_X3 cs q0 u1 ++ w_X6 cs q10 u11 ++ w_X2 cs q12 q10 u13 ++ w_X8 cs q23 q0 u24)) ++ [(q26, .inr (7, n_f7))]) H _ := hW
  refine lv_dup C.1.1 C.1.2.1 dX9_init_60 rfl ?_
  refine lv_aload_n C.1.1 C.1.2.1 dX9_init_61 rfl (lv_at hl 0 rfl) ?_
  refine kr_i_get (k := 0) (v := .ref q0) C hW kr_cl9 kr_w_f_ChalkRoads_10 (by decide) rfl dX9_init_62 ?_
  refine lv_aload_n C.1.1 C.1.2.1 dX9_init_65 rfl (lv_at hl 0 rfl) ?_
  refine kr_i_get (k := 3) (v := .ref q23) C hW kr_cl9 kr_w_f_ChalkRoads_37 (by decide) rfl dX9_init_66 ?_
  refine kr_i_init (n := 2) (wr := ((h0, .inr (9, [.ref q0, .ref q10, .ref q12, .ref q23, .null, .null, .null, .null, .null, .null, .int 0, .int 0])) :: (w_X3 cs q0 u1 ++ w_X6 cs q10 u11 ++ w_X2 cs q12 q10 u13 ++ w_X8 cs q23 q0 u24))) (As := [.ref q0, .ref q23]) (rest := [.ref q26, .ref h0]) C hW (n_X7 l D cs q26 q0 q23) kr_w_nc_X7 kr_w_z_X7 kr_w_n_X9_43 kr_w_ni_X7 rfl (by decide +kernel) ⟨Nat.le_of_ble_eq_true rfl, Nat.le_of_ble_eq_true rfl⟩ rfl hl.1 rfl (Nat.le_of_ble_eq_true rfl) ⟨Nat.le_of_ble_eq_true rfl, Nat.le_of_ble_eq_true rfl⟩ dX9_init_69 (fun u27 H locs hW => ?_)
  have hW : kr_Wd D A s ((h0, .inr (9, [.ref q0, .ref q10, .ref q12, .ref q23, .null, .null, .null, .null, .null, .null, .int 0, .int 0])) :: (w_X3 cs q0 u1 ++ w_X6 cs q10 u11 ++ w_X2 cs q12 q10 u13 ++ w_X8 cs q23 q0 u24 ++ w_X7 cs q26 q0 q23 u27)) H _ := hW
  refine kr_i_putF (k := 4) (v := .ref q26) (ty := .object "ChalkRoads$Walk") C hW kr_cl9 kr_w_f_ChalkRoads_46 (by decide) rfl rfl (by decide +kernel) rfl rfl (Nat.le_of_ble_eq_true rfl) dX9_init_72 (fun H locs hW => ?_)
  have hW : kr_Wd D A s ((h0, .inr (9, [.ref q0, .ref q10, .ref q12, .ref q23, .ref q26, .null, .null, .null, .null, .null, .int 0, .int 0])) :: (w_X3 cs q0 u1 ++ w_X6 cs q10 u11 ++ w_X2 cs q12 q10 u13 ++ w_X8 cs q23 q0 u24 ++ w_X7 cs q26 q0 q23 u27)) H _ := hW
  refine lv_aload_n C.1.1 C.1.2.1 dX9_init_75 rfl (lv_at hl 0 rfl) ?_
  refine kr_i_new C hW kr_cl0 (fs := n_f0) tyX0 tyX0_ok n_df0 kr_w_k_X9_50 kr_w_t_X0 kr_w_z_X0 (Nat.le_of_ble_eq_true rfl) (Nat.le_of_ble_eq_true rfl) dX9_init_76 (fun q33 H hW => ?_)
  have hW : kr_Wd D A s (((h0, .inr (9, [.ref q0, .ref q10, .ref q12, .ref q23, .ref q26, .null, .null, .null, .null, .null, .int 0, .int 0])) :: (w_X3 cs q0 u1 ++ w_X6 cs q10 u11 ++ w_X2 cs q12 q10 u13 ++ w_X8 cs q23 q0 u24 ++ w_X7 cs q26 q0 q23 u27)) ++ [(q33, .inr (0, n_f0))]) H _ := hW
  refine lv_dup C.1.1 C.1.2.1 dX9_init_79 rfl ?_
  refine lv_aload_n C.1.1 C.1.2.1 dX9_init_80 rfl (lv_at hl 0 rfl) ?_
  refine kr_i_get (k := 0) (v := .ref q0) C hW kr_cl9 kr_w_f_ChalkRoads_10 (by decide) rfl dX9_init_81 ?_
  refine lv_aload_n C.1.1 C.1.2.1 dX9_init_84 rfl (lv_at hl 0 rfl) ?_
  refine kr_i_get (k := 3) (v := .ref q23) C hW kr_cl9 kr_w_f_ChalkRoads_37 (by decide) rfl dX9_init_85 ?_
  refine kr_i_init (n := 2) (wr := ((h0, .inr (9, [.ref q0, .ref q10, .ref q12, .ref q23, .ref q26, .null, .null, .null, .null, .null, .int 0, .int 0])) :: (w_X3 cs q0 u1 ++ w_X6 cs q10 u11 ++ w_X2 cs q12 q10 u13 ++ w_X8 cs q23 q0 u24 ++ w_X7 cs q26 q0 q23 u27))) (As := [.ref q0, .ref q23]) (rest := [.ref q33, .ref h0]) C hW (n_X0 l D cs q33 q0 q23) kr_w_nc_X0 kr_w_z_X0 kr_w_n_X9_52 kr_w_ni_X0 rfl (by decide +kernel) ⟨Nat.le_of_ble_eq_true rfl, Nat.le_of_ble_eq_true rfl⟩ rfl hl.1 rfl (Nat.le_of_ble_eq_true rfl) ⟨Nat.le_of_ble_eq_true rfl, Nat.le_of_ble_eq_true rfl⟩ dX9_init_88 (fun u34 H locs hW => ?_)
  have hW : kr_Wd D A s ((h0, .inr (9, [.ref q0, .ref q10, .ref q12, .ref q23, .ref q26, .null, .null, .null, .null, .null, .int 0, .int 0])) :: (w_X3 cs q0 u1 ++ w_X6 cs q10 u11 ++ w_X2 cs q12 q10 u13 ++ w_X8 cs q23 q0 u24 ++ w_X7 cs q26 q0 q23 u27 ++ w_X0 cs q33 q0 q23 u34)) H _ := hW
  refine kr_i_putF (k := 5) (v := .ref q33) (ty := .object "ChalkRoads$Dawn") C hW kr_cl9 kr_w_f_ChalkRoads_53 (by decide) rfl rfl (by decide +kernel) rfl rfl (Nat.le_of_ble_eq_true rfl) dX9_init_91 (fun H locs hW => ?_)
  have hW : kr_Wd D A s ((h0, .inr (9, [.ref q0, .ref q10, .ref q12, .ref q23, .ref q26, .ref q33, .null, .null, .null, .null, .int 0, .int 0])) :: (w_X3 cs q0 u1 ++ w_X6 cs q10 u11 ++ w_X2 cs q12 q10 u13 ++ w_X8 cs q23 q0 u24 ++ w_X7 cs q26 q0 q23 u27 ++ w_X0 cs q33 q0 q23 u34)) H _ := hW
  refine lv_aload_n C.1.1 C.1.2.1 dX9_init_94 rfl (lv_at hl 0 rfl) ?_
  refine kr_i_new C hW kr_cl4 (fs := n_f4) tyX4 tyX4_ok n_df4 kr_w_k_X9_57 kr_w_t_X4 kr_w_z_X4 (Nat.le_of_ble_eq_true rfl) (Nat.le_of_ble_eq_true rfl) dX9_init_95 (fun q34 H hW => ?_)
  have hW : kr_Wd D A s (((h0, .inr (9, [.ref q0, .ref q10, .ref q12, .ref q23, .ref q26, .ref q33, .null, .null, .null, .null, .int 0, .int 0])) :: (w_X3 cs q0 u1 ++ w_X6 cs q10 u11 ++ w_X2 cs q12 q10 u13 ++ w_X8 cs q23 q0 u24 ++ w_X7 cs q26 q0 q23 u27 ++ w_X0 cs q33 q0 q23 u34)) ++ [(q34, .inr (4, n_f4))]) H _ := hW
  refine lv_dup C.1.1 C.1.2.1 dX9_init_98 rfl ?_
  refine lv_aload_n C.1.1 C.1.2.1 dX9_init_99 rfl (lv_at hl 0 rfl) ?_
  refine kr_i_get (k := 0) (v := .ref q0) C hW kr_cl9 kr_w_f_ChalkRoads_10 (by decide) rfl dX9_init_100 ?_
  refine kr_i_init (n := 1) (wr := ((h0, .inr (9, [.ref q0, .ref q10, .ref q12, .ref q23, .ref q26, .ref q33, .null, .null, .null, .null, .int 0, .int 0])) :: (w_X3 cs q0 u1 ++ w_X6 cs q10 u11 ++ w_X2 cs q12 q10 u13 ++ w_X8 cs q23 q0 u24 ++ w_X7 cs q26 q0 q23 u27 ++ w_X0 cs q33 q0 q23 u34))) (As := [.ref q0]) (rest := [.ref q34, .ref h0]) C hW (n_X4 l D cs q34 q0) kr_w_nc_X4 kr_w_z_X4 kr_w_n_X9_59 kr_w_ni_X4 rfl (by decide +kernel) ⟨Nat.le_of_ble_eq_true rfl, Nat.le_of_ble_eq_true rfl⟩ rfl hl.1 rfl (Nat.le_of_ble_eq_true rfl) ⟨Nat.le_of_ble_eq_true rfl, Nat.le_of_ble_eq_true rfl⟩ dX9_init_103 (fun u35 H locs hW => ?_)
  have hW : kr_Wd D A s ((h0, .inr (9, [.ref q0, .ref q10, .ref q12, .ref q23, .ref q26, .ref q33, .null, .null, .null, .null, .int 0, .int 0])) :: (w_X3 cs q0 u1 ++ w_X6 cs q10 u11 ++ w_X2 cs q12 q10 u13 ++ w_X8 cs q23 q0 u24 ++ w_X7 cs q26 q0 q23 u27 ++ w_X0 cs q33 q0 q23 u34 ++ w_X4 cs q34 q0 u35)) H _ := hW
  refine kr_i_putF (k := 6) (v := .ref q34) (ty := .object "ChalkRoads$Sharing") C hW kr_cl9 kr_w_f_ChalkRoads_60 (by decide) rfl rfl (by decide +kernel) rfl rfl (Nat.le_of_ble_eq_true rfl) dX9_init_106 (fun H locs hW => ?_)
  have hW : kr_Wd D A s ((h0, .inr (9, [.ref q0, .ref q10, .ref q12, .ref q23, .ref q26, .ref q33, .ref q34, .null, .null, .null, .int 0, .int 0])) :: (w_X3 cs q0 u1 ++ w_X6 cs q10 u11 ++ w_X2 cs q12 q10 u13 ++ w_X8 cs q23 q0 u24 ++ w_X7 cs q26 q0 q23 u27 ++ w_X0 cs q33 q0 q23 u34 ++ w_X4 cs q34 q0 u35)) H _ := hW
  refine lv_aload_n C.1.1 C.1.2.1 dX9_init_109 rfl (lv_at hl 0 rfl) ?_
  refine kr_i_new C hW kr_cl1 (fs := n_f1) tyX1 tyX1_ok n_df1 kr_w_k_X9_64 kr_w_t_X1 kr_w_z_X1 (Nat.le_of_ble_eq_true rfl) (Nat.le_of_ble_eq_true rfl) dX9_init_110 (fun q37 H hW => ?_)
  have hW : kr_Wd D A s (((h0, .inr (9, [.ref q0, .ref q10, .ref q12, .ref q23, .ref q26, .ref q33, .ref q34, .null, .null, .null, .int 0, .int 0])) :: (w_X3 cs q0 u1 ++ w_X6 cs q10 u11 ++ w_X2 cs q12 q10 u13 ++ w_X8 cs q23 q0 u24 ++ w_X7 cs q26 q0 q23 u27 ++ w_X0 cs q33 q0 q23 u34 ++ w_X4 cs q34 q0 u35)) ++ [(q37, .inr (1, n_f1))]) H _ := hW
  refine lv_dup C.1.1 C.1.2.1 dX9_init_113 rfl ?_
  refine lv_aload_n C.1.1 C.1.2.1 dX9_init_114 rfl (lv_at hl 0 rfl) ?_
  refine kr_i_get (k := 0) (v := .ref q0) C hW kr_cl9 kr_w_f_ChalkRoads_10 (by decide) rfl dX9_init_115 ?_
  refine kr_i_init (n := 1) (wr := ((h0, .inr (9, [.ref q0, .ref q10, .ref q12, .ref q23, .ref q26, .ref q33, .ref q34, .null, .null, .null, .int 0, .int 0])) :: (w_X3 cs q0 u1 ++ w_X6 cs q10 u11 ++ w_X2 cs q12 q10 u13 ++ w_X8 cs q23 q0 u24 ++ w_X7 cs q26 q0 q23 u27 ++ w_X0 cs q33 q0 q23 u34 ++ w_X4 cs q34 q0 u35))) (As := [.ref q0]) (rest := [.ref q37, .ref h0]) C hW (n_X1 l D cs q37 q0) kr_w_nc_X1 kr_w_z_X1 kr_w_n_X9_66 kr_w_ni_X1 rfl (by decide +kernel) ⟨Nat.le_of_ble_eq_true rfl, Nat.le_of_ble_eq_true rfl⟩ rfl hl.1 rfl (Nat.le_of_ble_eq_true rfl) ⟨Nat.le_of_ble_eq_true rfl, Nat.le_of_ble_eq_true rfl⟩ dX9_init_118 (fun u38 H locs hW => ?_)
  have hW : kr_Wd D A s ((h0, .inr (9, [.ref q0, .ref q10, .ref q12, .ref q23, .ref q26, .ref q33, .ref q34, .null, .null, .null, .int 0, .int 0])) :: (w_X3 cs q0 u1 ++ w_X6 cs q10 u11 ++ w_X2 cs q12 q10 u13 ++ w_X8 cs q23 q0 u24 ++ w_X7 cs q26 q0 q23 u27 ++ w_X0 cs q33 q0 q23 u34 ++ w_X4 cs q34 q0 u35 ++ w_X1 cs q37 q0 u38)) H _ := hW
  refine kr_i_putF (k := 7) (v := .ref q37) (ty := .object "ChalkRoads$Guess") C hW kr_cl9 kr_w_f_ChalkRoads_67 (by decide) rfl rfl (by decide +kernel) rfl rfl (Nat.le_of_ble_eq_true rfl) dX9_init_121 (fun H locs hW => ?_)
  have hW : kr_Wd D A s ((h0, .inr (9, [.ref q0, .ref q10, .ref q12, .ref q23, .ref q26, .ref q33, .ref q34, .ref q37, .null, .null, .int 0, .int 0])) :: (w_X3 cs q0 u1 ++ w_X6 cs q10 u11 ++ w_X2 cs q12 q10 u13 ++ w_X8 cs q23 q0 u24 ++ w_X7 cs q26 q0 q23 u27 ++ w_X0 cs q33 q0 q23 u34 ++ w_X4 cs q34 q0 u35 ++ w_X1 cs q37 q0 u38)) H _ := hW
  refine lv_aload_n C.1.1 C.1.2.1 dX9_init_124 rfl (lv_at hl 0 rfl) ?_
  refine kr_i_new C hW kr_cl5 (fs := n_f5) tyX5 tyX5_ok n_df5 kr_w_k_X9_71 kr_w_t_X5 kr_w_z_X5 (Nat.le_of_ble_eq_true rfl) (Nat.le_of_ble_eq_true rfl) dX9_init_125 (fun q39 H hW => ?_)
  have hW : kr_Wd D A s (((h0, .inr (9, [.ref q0, .ref q10, .ref q12, .ref q23, .ref q26, .ref q33, .ref q34, .ref q37, .null, .null, .int 0, .int 0])) :: (w_X3 cs q0 u1 ++ w_X6 cs q10 u11 ++ w_X2 cs q12 q10 u13 ++ w_X8 cs q23 q0 u24 ++ w_X7 cs q26 q0 q23 u27 ++ w_X0 cs q33 q0 q23 u34 ++ w_X4 cs q34 q0 u35 ++ w_X1 cs q37 q0 u38)) ++ [(q39, .inr (5, n_f5))]) H _ := hW
  refine lv_dup C.1.1 C.1.2.1 dX9_init_128 rfl ?_
  refine kr_i_init (n := 0) (wr := ((h0, .inr (9, [.ref q0, .ref q10, .ref q12, .ref q23, .ref q26, .ref q33, .ref q34, .ref q37, .null, .null, .int 0, .int 0])) :: (w_X3 cs q0 u1 ++ w_X6 cs q10 u11 ++ w_X2 cs q12 q10 u13 ++ w_X8 cs q23 q0 u24 ++ w_X7 cs q26 q0 q23 u27 ++ w_X0 cs q33 q0 q23 u34 ++ w_X4 cs q34 q0 u35 ++ w_X1 cs q37 q0 u38))) (As := []) (rest := [.ref q39, .ref h0]) C hW (n_X5 l D cs q39) kr_w_nc_X5 kr_w_z_X5 kr_w_n_X9_73 kr_w_ni_X5 rfl (by decide +kernel) ⟨Nat.le_of_ble_eq_true rfl, Nat.le_of_ble_eq_true rfl⟩ rfl hl.1 rfl (Nat.le_of_ble_eq_true rfl) ⟨Nat.le_of_ble_eq_true rfl, Nat.le_of_ble_eq_true rfl⟩ dX9_init_129 (fun u40 H locs hW => ?_)
  have hW : kr_Wd D A s ((h0, .inr (9, [.ref q0, .ref q10, .ref q12, .ref q23, .ref q26, .ref q33, .ref q34, .ref q37, .null, .null, .int 0, .int 0])) :: (w_X3 cs q0 u1 ++ w_X6 cs q10 u11 ++ w_X2 cs q12 q10 u13 ++ w_X8 cs q23 q0 u24 ++ w_X7 cs q26 q0 q23 u27 ++ w_X0 cs q33 q0 q23 u34 ++ w_X4 cs q34 q0 u35 ++ w_X1 cs q37 q0 u38 ++ w_X5 cs q39 u40)) H _ := hW
  refine kr_i_putF (k := 8) (v := .ref q39) (ty := .object "ChalkRoads$Sheets") C hW kr_cl9 kr_w_f_ChalkRoads_74 (by decide) rfl rfl (by decide +kernel) rfl rfl (Nat.le_of_ble_eq_true rfl) dX9_init_132 (fun H locs hW => ?_)
  have hW : kr_Wd D A s ((h0, .inr (9, [.ref q0, .ref q10, .ref q12, .ref q23, .ref q26, .ref q33, .ref q34, .ref q37, .ref q39, .null, .int 0, .int 0])) :: (w_X3 cs q0 u1 ++ w_X6 cs q10 u11 ++ w_X2 cs q12 q10 u13 ++ w_X8 cs q23 q0 u24 ++ w_X7 cs q26 q0 q23 u27 ++ w_X0 cs q33 q0 q23 u34 ++ w_X4 cs q34 q0 u35 ++ w_X1 cs q37 q0 u38 ++ w_X5 cs q39 u40)) H _ := hW
  refine lv_aload_n C.1.1 C.1.2.1 dX9_init_135 rfl (lv_at hl 0 rfl) ?_
  refine lv_iconst (v := 2) C.1.1 C.1.2.1 dX9_init_136 (by decide) ?_
  refine kr_i_newq (N := 2) C hW kr_w_k_X9_7 hAO (by decide) (by decide) (by decide) (Nat.le_of_ble_eq_true rfl) (Nat.le_of_ble_eq_true rfl) dX9_init_137 (fun q43 H hW => ?_)
  have hW : kr_Wd D A s ((h0, .inr (9, [.ref q0, .ref q10, .ref q12, .ref q23, .ref q26, .ref q33, .ref q34, .ref q37, .ref q39, .null, .int 0, .int 0])) :: (w_X3 cs q0 u1 ++ w_X6 cs q10 u11 ++ w_X2 cs q12 q10 u13 ++ w_X8 cs q23 q0 u24 ++ w_X7 cs q26 q0 q23 u27 ++ w_X0 cs q33 q0 q23 u34 ++ w_X4 cs q34 q0 u35 ++ w_X1 cs q37 q0 u38 ++ w_X5 cs q39 u40 ++ [(q43, .inl (cs.2.2, 2, .inr (.inr (.inr (.inr (fun _ => none))))))])) H _ := hW
  refine kr_i_putF (k := 9) (v := .ref q43) (ty := .array (.object "ChalkRoads$Rock")) C hW kr_cl9 kr_w_f_ChalkRoads_78 (by decide) rfl rfl (by decide +kernel) rfl rfl (Nat.le_of_ble_eq_true rfl) dX9_init_140 (fun H locs hW => ?_)
  have hW : kr_Wd D A s ((h0, .inr (9, [.ref q0, .ref q10, .ref q12, .ref q23, .ref q26, .ref q33, .ref q34, .ref q37, .ref q39, .ref q43, .int 0, .int 0])) :: (w_X3 cs q0 u1 ++ w_X6 cs q10 u11 ++ w_X2 cs q12 q10 u13 ++ w_X8 cs q23 q0 u24 ++ w_X7 cs q26 q0 q23 u27 ++ w_X0 cs q33 q0 q23 u34 ++ w_X4 cs q34 q0 u35 ++ w_X1 cs q37 q0 u38 ++ w_X5 cs q39 u40 ++ [(q43, .inl (cs.2.2, 2, .inr (.inr (.inr (.inr (fun _ => none))))))])) H _ := hW
  refine lv_iconst (v := 0) C.1.1 C.1.2.1 dX9_init_143 (by decide) ?_
  refine lv_istore_n (lv' := [(1, .int 0), (0, .ref h0)]) C.1.1 C.1.2.1 dX9_init_144 rfl hl (by decide) rfl (fun ls hl => ?_)
  refine lv_iload_n C.1.1 C.1.2.1 dX9_init_145 rfl (lv_at hl 0 rfl) ?_
  refine lv_iconst (v := 2) C.1.1 C.1.2.1 dX9_init_146 (by decide) ?_
  refine lv_icmp_ge (tgt := 169) C.1.1 C.1.2.1 dX9_init_147 (by decide) (fun z => absurd z (by decide)) (fun _ => ?_)
  refine lv_aload_n C.1.1 C.1.2.1 dX9_init_150 rfl (lv_at hl 1 rfl) ?_
  refine kr_i_get (k := 9) (v := .ref q43) C hW kr_cl9 kr_w_f_ChalkRoads_78 (by decide) rfl dX9_init_151 ?_
  refine lv_iload_n C.1.1 C.1.2.1 dX9_init_154 rfl (lv_at hl 0 rfl) ?_
  refine kr_i_new C hW kr_cl3 (fs := n_f3) tyX3 tyX3_ok n_df3 kr_w_k_X9_7 kr_w_t_X3 kr_w_z_X3 (Nat.le_of_ble_eq_true rfl) (Nat.le_of_ble_eq_true rfl) dX9_init_155 (fun q44 H hW => ?_)
  have hW : kr_Wd D A s (((h0, .inr (9, [.ref q0, .ref q10, .ref q12, .ref q23, .ref q26, .ref q33, .ref q34, .ref q37, .ref q39, .ref q43, .int 0, .int 0])) :: (w_X3 cs q0 u1 ++ w_X6 cs q10 u11 ++ w_X2 cs q12 q10 u13 ++ w_X8 cs q23 q0 u24 ++ w_X7 cs q26 q0 q23 u27 ++ w_X0 cs q33 q0 q23 u34 ++ w_X4 cs q34 q0 u35 ++ w_X1 cs q37 q0 u38 ++ w_X5 cs q39 u40 ++ [(q43, .inl (cs.2.2, 2, .inr (.inr (.inr (.inr (fun _ => none))))))])) ++ [(q44, .inr (3, n_f3))]) H _ := hW
  refine lv_dup C.1.1 C.1.2.1 dX9_init_158 rfl ?_
  refine kr_i_init (n := 0) (wr := ((h0, .inr (9, [.ref q0, .ref q10, .ref q12, .ref q23, .ref q26, .ref q33, .ref q34, .ref q37, .ref q39, .ref q43, .int 0, .int 0])) :: (w_X3 cs q0 u1 ++ w_X6 cs q10 u11 ++ w_X2 cs q12 q10 u13 ++ w_X8 cs q23 q0 u24 ++ w_X7 cs q26 q0 q23 u27 ++ w_X0 cs q33 q0 q23 u34 ++ w_X4 cs q34 q0 u35 ++ w_X1 cs q37 q0 u38 ++ w_X5 cs q39 u40 ++ [(q43, .inl (cs.2.2, 2, .inr (.inr (.inr (.inr (fun _ => none))))))]))) (As := []) (rest := [.ref q44, .int 0, .ref q43]) C hW (n_X3 l D cs q44) kr_w_nc_X3 kr_w_z_X3 kr_w_n_X9_9 kr_w_ni_X3 rfl (by decide +kernel) ⟨Nat.le_of_ble_eq_true rfl, Nat.le_of_ble_eq_true rfl⟩ rfl hl.1 rfl (Nat.le_of_ble_eq_true rfl) ⟨Nat.le_of_ble_eq_true rfl, Nat.le_of_ble_eq_true rfl⟩ dX9_init_159 (fun u45 H locs hW => ?_)
  have hW : kr_Wd D A s ((h0, .inr (9, [.ref q0, .ref q10, .ref q12, .ref q23, .ref q26, .ref q33, .ref q34, .ref q37, .ref q39, .ref q43, .int 0, .int 0])) :: (w_X3 cs q0 u1 ++ w_X6 cs q10 u11 ++ w_X2 cs q12 q10 u13 ++ w_X8 cs q23 q0 u24 ++ w_X7 cs q26 q0 q23 u27 ++ w_X0 cs q33 q0 q23 u34 ++ w_X4 cs q34 q0 u35 ++ w_X1 cs q37 q0 u38 ++ w_X5 cs q39 u40 ++ [(q43, .inl (cs.2.2, 2, .inr (.inr (.inr (.inr (fun _ => none))))))] ++ w_X3 cs q44 u45)) H _ := hW
  refine va_astq C.1.1 C.1.2.1 C.2.1 hW.1 hW.2.1 hW.2.2 44 2 45 3 (r := (RX3, TX3, 18)) rfl rfl rfl rfl (kr_vp rfl) dX9_init_162 (fun H locs hP hD hS => ?_)
  have hW : kr_Wd D A s ((h0, .inr (9, [.ref q0, .ref q10, .ref q12, .ref q23, .ref q26, .ref q33, .ref q34, .ref q37, .ref q39, .ref q43, .int 0, .int 0])) :: (w_X3 cs q0 u1 ++ w_X6 cs q10 u11 ++ w_X2 cs q12 q10 u13 ++ w_X8 cs q23 q0 u24 ++ w_X7 cs q26 q0 q23 u27 ++ w_X0 cs q33 q0 q23 u34 ++ w_X4 cs q34 q0 u35 ++ w_X1 cs q37 q0 u38 ++ w_X5 cs q39 u40 ++ [(q43, .inl (cs.2.2, 2, .inr (.inr (.inr (.inr (va_up (fun _ => none) ((0 : Int32).toNatClampNeg) (some q44)))))))] ++ w_X3 cs q44 u45)) H locs := ⟨hP, hD, hS⟩
  refine lv_iinc (k := 0) (v := 1) (lv' := [(1, .int 1), (0, .ref h0)]) C.1.1 C.1.2.1 dX9_init_163 hl rfl (by decide) (by decide) rfl (fun ls hl => ?_)
  refine lv_goto (tgt := 145) C.1.1 C.1.2.1 dX9_init_166 (by decide) ?_
  refine lv_iload_n C.1.1 C.1.2.1 dX9_init_145 rfl (lv_at hl 0 rfl) ?_
  refine lv_iconst (v := 2) C.1.1 C.1.2.1 dX9_init_146 (by decide) ?_
  refine lv_icmp_ge (tgt := 169) C.1.1 C.1.2.1 dX9_init_147 (by decide) (fun z => absurd z (by decide)) (fun _ => ?_)
  refine lv_aload_n C.1.1 C.1.2.1 dX9_init_150 rfl (lv_at hl 1 rfl) ?_
  refine kr_i_get (k := 9) (v := .ref q43) C hW kr_cl9 kr_w_f_ChalkRoads_78 (by decide) rfl dX9_init_151 ?_
  refine lv_iload_n C.1.1 C.1.2.1 dX9_init_154 rfl (lv_at hl 0 rfl) ?_
  refine kr_i_new C hW kr_cl3 (fs := n_f3) tyX3 tyX3_ok n_df3 kr_w_k_X9_7 kr_w_t_X3 kr_w_z_X3 (Nat.le_of_ble_eq_true rfl) (Nat.le_of_ble_eq_true rfl) dX9_init_155 (fun q54 H hW => ?_)
  have hW : kr_Wd D A s (((h0, .inr (9, [.ref q0, .ref q10, .ref q12, .ref q23, .ref q26, .ref q33, .ref q34, .ref q37, .ref q39, .ref q43, .int 0, .int 0])) :: (w_X3 cs q0 u1 ++ w_X6 cs q10 u11 ++ w_X2 cs q12 q10 u13 ++ w_X8 cs q23 q0 u24 ++ w_X7 cs q26 q0 q23 u27 ++ w_X0 cs q33 q0 q23 u34 ++ w_X4 cs q34 q0 u35 ++ w_X1 cs q37 q0 u38 ++ w_X5 cs q39 u40 ++ [(q43, .inl (cs.2.2, 2, .inr (.inr (.inr (.inr (va_up (fun _ => none) ((0 : Int32).toNatClampNeg) (some q44)))))))] ++ w_X3 cs q44 u45)) ++ [(q54, .inr (3, n_f3))]) H _ := hW
  refine lv_dup C.1.1 C.1.2.1 dX9_init_158 rfl ?_
  refine kr_i_init (n := 0) (wr := ((h0, .inr (9, [.ref q0, .ref q10, .ref q12, .ref q23, .ref q26, .ref q33, .ref q34, .ref q37, .ref q39, .ref q43, .int 0, .int 0])) :: (w_X3 cs q0 u1 ++ w_X6 cs q10 u11 ++ w_X2 cs q12 q10 u13 ++ w_X8 cs q23 q0 u24 ++ w_X7 cs q26 q0 q23 u27 ++ w_X0 cs q33 q0 q23 u34 ++ w_X4 cs q34 q0 u35 ++ w_X1 cs q37 q0 u38 ++ w_X5 cs q39 u40 ++ [(q43, .inl (cs.2.2, 2, .inr (.inr (.inr (.inr (va_up (fun _ => none) ((0 : Int32).toNatClampNeg) (some q44)))))))] ++ w_X3 cs q44 u45))) (As := []) (rest := [.ref q54, .int 1, .ref q43]) C hW (n_X3 l D cs q54) kr_w_nc_X3 kr_w_z_X3 kr_w_n_X9_9 kr_w_ni_X3 rfl (by decide +kernel) ⟨Nat.le_of_ble_eq_true rfl, Nat.le_of_ble_eq_true rfl⟩ rfl hl.1 rfl (Nat.le_of_ble_eq_true rfl) ⟨Nat.le_of_ble_eq_true rfl, Nat.le_of_ble_eq_true rfl⟩ dX9_init_159 (fun u55 H locs hW => ?_)
  have hW : kr_Wd D A s ((h0, .inr (9, [.ref q0, .ref q10, .ref q12, .ref q23, .ref q26, .ref q33, .ref q34, .ref q37, .ref q39, .ref q43, .int 0, .int 0])) :: (w_X3 cs q0 u1 ++ w_X6 cs q10 u11 ++ w_X2 cs q12 q10 u13 ++ w_X8 cs q23 q0 u24 ++ w_X7 cs q26 q0 q23 u27 ++ w_X0 cs q33 q0 q23 u34 ++ w_X4 cs q34 q0 u35 ++ w_X1 cs q37 q0 u38 ++ w_X5 cs q39 u40 ++ [(q43, .inl (cs.2.2, 2, .inr (.inr (.inr (.inr (va_up (fun _ => none) ((0 : Int32).toNatClampNeg) (some q44)))))))] ++ w_X3 cs q44 u45 ++ w_X3 cs q54 u55)) H _ := hW
  refine va_astq C.1.1 C.1.2.1 C.2.1 hW.1 hW.2.1 hW.2.2 44 2 55 3 (r := (RX3, TX3, 18)) rfl rfl rfl rfl (kr_vp rfl) dX9_init_162 (fun H locs hP hD hS => ?_)
  have hW : kr_Wd D A s ((h0, .inr (9, [.ref q0, .ref q10, .ref q12, .ref q23, .ref q26, .ref q33, .ref q34, .ref q37, .ref q39, .ref q43, .int 0, .int 0])) :: (w_X3 cs q0 u1 ++ w_X6 cs q10 u11 ++ w_X2 cs q12 q10 u13 ++ w_X8 cs q23 q0 u24 ++ w_X7 cs q26 q0 q23 u27 ++ w_X0 cs q33 q0 q23 u34 ++ w_X4 cs q34 q0 u35 ++ w_X1 cs q37 q0 u38 ++ w_X5 cs q39 u40 ++ [(q43, .inl (cs.2.2, 2, .inr (.inr (.inr (.inr (va_up (va_up (fun _ => none) ((0 : Int32).toNatClampNeg) (some q44)) ((1 : Int32).toNatClampNeg) (some q54)))))))] ++ w_X3 cs q44 u45 ++ w_X3 cs q54 u55)) H locs := ⟨hP, hD, hS⟩
  refine lv_iinc (k := 0) (v := 2) (lv' := [(1, .int 2), (0, .ref h0)]) C.1.1 C.1.2.1 dX9_init_163 hl rfl (by decide) (by decide) rfl (fun ls hl => ?_)
  refine lv_goto (tgt := 145) C.1.1 C.1.2.1 dX9_init_166 (by decide) ?_
  refine lv_iload_n C.1.1 C.1.2.1 dX9_init_145 rfl (lv_at hl 0 rfl) ?_
  refine lv_iconst (v := 2) C.1.1 C.1.2.1 dX9_init_146 (by decide) ?_
  refine lv_icmp_ge (tgt := 169) C.1.1 C.1.2.1 dX9_init_147 (by decide) (fun _ => ?_) (fun z => absurd (by decide) z)
  refine lv_aload_n C.1.1 C.1.2.1 dX9_init_169 rfl (lv_at hl 1 rfl) ?_
  refine lv_iconst (v := 0) C.1.1 C.1.2.1 dX9_init_170 (by decide) ?_
  refine kr_i_put (k := 10) (v := .int 0) (ty := .int) C hW kr_cl9 kr_w_f_ChalkRoads_82 (by decide) rfl (by decide +kernel) rfl rfl (Nat.le_of_ble_eq_true rfl) dX9_init_171 (fun H locs hW => ?_)
  have hW : kr_Wd D A s ((h0, .inr (9, [.ref q0, .ref q10, .ref q12, .ref q23, .ref q26, .ref q33, .ref q34, .ref q37, .ref q39, .ref q43, .int 0, .int 0])) :: (w_X3 cs q0 u1 ++ w_X6 cs q10 u11 ++ w_X2 cs q12 q10 u13 ++ w_X8 cs q23 q0 u24 ++ w_X7 cs q26 q0 q23 u27 ++ w_X0 cs q33 q0 q23 u34 ++ w_X4 cs q34 q0 u35 ++ w_X1 cs q37 q0 u38 ++ w_X5 cs q39 u40 ++ [(q43, .inl (cs.2.2, 2, .inr (.inr (.inr (.inr (va_up (va_up (fun _ => none) ((0 : Int32).toNatClampNeg) (some q44)) ((1 : Int32).toNatClampNeg) (some q54)))))))] ++ w_X3 cs q44 u45 ++ w_X3 cs q54 u55)) H _ := hW
  refine lv_aload_n C.1.1 C.1.2.1 dX9_init_174 rfl (lv_at hl 1 rfl) ?_
  refine lv_iconst (v := 0) C.1.1 C.1.2.1 dX9_init_175 (by decide) ?_
  refine kr_i_put (k := 11) (v := .int 0) (ty := .int) C hW kr_cl9 kr_w_f_ChalkRoads_86 (by decide) rfl (by decide +kernel) rfl rfl (Nat.le_of_ble_eq_true rfl) dX9_init_176 (fun H locs hW => ?_)
  have hW : kr_Wd D A s ((h0, .inr (9, [.ref q0, .ref q10, .ref q12, .ref q23, .ref q26, .ref q33, .ref q34, .ref q37, .ref q39, .ref q43, .int 0, .int 0])) :: (w_X3 cs q0 u1 ++ w_X6 cs q10 u11 ++ w_X2 cs q12 q10 u13 ++ w_X8 cs q23 q0 u24 ++ w_X7 cs q26 q0 q23 u27 ++ w_X0 cs q33 q0 q23 u34 ++ w_X4 cs q34 q0 u35 ++ w_X1 cs q37 q0 u38 ++ w_X5 cs q39 u40 ++ [(q43, .inl (cs.2.2, 2, .inr (.inr (.inr (.inr (va_up (va_up (fun _ => none) ((0 : Int32).toNatClampNeg) (some q44)) ((1 : Int32).toNatClampNeg) (some q54)))))))] ++ w_X3 cs q44 u45 ++ w_X3 cs q54 u55)) H _ := hW
  refine W.widen (k := 64) (n := 1143) (Nat.le_of_ble_eq_true rfl) (Nat.le_of_ble_eq_true rfl) ?_
  exact W.vret B.exec B.bytes hr (fun t ht hw => ⟨⟨(kr_nth 0 [q0, (u1 0), (u1 1), (u1 2), (u1 3), (u1 4), (u1 5), (u1 6), (u1 7), (u1 8), q10, (u11 0), q12, (u13 0), (u13 1), (u13 2), (u13 3), (u13 4), (u13 5), (u13 6), (u13 7), (u13 8), (u13 9), q23, (u24 0), (u24 1), q26, (u27 0), (u27 1), (u27 2), (u27 3), (u27 4), (u27 5), q33, q34, (u35 0), (u35 1), q37, (u38 0), q39, (u40 0), (u40 1), (u40 2), q43, q44, (u45 0), (u45 1), (u45 2), (u45 3), (u45 4), (u45 5), (u45 6), (u45 7), (u45 8), q54, (u55 0), (u55 1), (u55 2), (u55 3), (u55 4), (u55 5), (u55 6), (u55 7), (u55 8)]), rfl, trivial, by rw [ht]; exact hW.1, hW.2.1⟩, hW.2.2.F ht⟩) hW.2.2.2.2 dX9_init_179
