/-! the constructors -/
theorem kr_w_o_X3_3 : Cond.methodLink RX3 3 objectInit ∈ kr_gw := kr_gm (i := 81) (by decide +kernel) rfl
theorem kr_w_oi : Cond.instanceMethod objectInit ∈ kr_gw := kr_gm (i := 74) (by decide +kernel) rfl
theorem kr_w_oc : Cond.code objectInit ⟨#[0xb1]⟩ 1 none ∈ kr_gw := kr_gm (i := 75) (by decide +kernel) rfl
theorem kr_w_y_int : Cond.arrayClass .int ∈ kr_gw := kr_gm (i := 176) (by decide +kernel) rfl
theorem kr_w_o_X6_3 : Cond.methodLink RX6 3 objectInit ∈ kr_gw := kr_gm (i := 182) (by decide +kernel) rfl
theorem kr_w_o_X2_3 : Cond.methodLink RX2 3 objectInit ∈ kr_gw := kr_gm (i := 197) (by decide +kernel) rfl
theorem kr_w_k_X2_15 : Cond.classLink RX2 15 RX3 ∈ kr_gw := kr_gm (i := 198) (by decide +kernel) rfl
theorem kr_w_t_X3 : Cond.instantiable RX3 18 ∈ kr_gw := kr_gm (i := 77) (by decide +kernel) rfl
theorem kr_w_z_X3 : Cond.initialized RX3 ∈ kr_gw := kr_gm (i := 51) (by decide +kernel) rfl
theorem kr_w_nc_X3 : Cond.code yX3_init cX3_init 1 none ∈ kr_gw := kr_gm (i := 80) (by decide +kernel) rfl
theorem kr_w_n_X2_17 : Cond.methodLink RX2 17 yX3_init ∈ kr_gw := kr_gm (i := 199) (by decide +kernel) rfl
theorem kr_w_ni_X3 : Cond.instanceMethod yX3_init ∈ kr_gw := kr_gm (i := 79) (by decide +kernel) rfl
theorem kr_w_o_X8_3 : Cond.methodLink RX8 3 objectInit ∈ kr_gw := kr_gm (i := 240) (by decide +kernel) rfl
theorem kr_w_o_X7_3 : Cond.methodLink RX7 3 objectInit ∈ kr_gw := kr_gm (i := 256) (by decide +kernel) rfl
theorem kr_w_o_X0_3 : Cond.methodLink RX0 3 objectInit ∈ kr_gw := kr_gm (i := 291) (by decide +kernel) rfl
theorem kr_w_o_X4_3 : Cond.methodLink RX4 3 objectInit ∈ kr_gw := kr_gm (i := 310) (by decide +kernel) rfl
theorem kr_w_o_X1_3 : Cond.methodLink RX1 3 objectInit ∈ kr_gw := kr_gm (i := 327) (by decide +kernel) rfl
theorem kr_w_o_X5_3 : Cond.methodLink RX5 3 objectInit ∈ kr_gw := kr_gm (i := 364) (by decide +kernel) rfl
theorem dX0_init_0 : decode cX0_init 0 = .ok (.aload_n 0, 1) := by decide +kernel
theorem dX0_init_1 : decode cX0_init 1 = .ok (.invokespecial 3, 3) := by decide +kernel
theorem dX0_init_4 : decode cX0_init 4 = .ok (.aload_n 0, 1) := by decide +kernel
theorem dX0_init_5 : decode cX0_init 5 = .ok (.aload_n 1, 1) := by decide +kernel
theorem dX0_init_6 : decode cX0_init 6 = .ok (.putfield 9, 3) := by decide +kernel
theorem dX0_init_9 : decode cX0_init 9 = .ok (.aload_n 0, 1) := by decide +kernel
theorem dX0_init_10 : decode cX0_init 10 = .ok (.aload_n 2, 1) := by decide +kernel
theorem dX0_init_11 : decode cX0_init 11 = .ok (.putfield 15, 3) := by decide +kernel
theorem dX0_init_14 : decode cX0_init 14 = .ok (.return_, 1) := by decide +kernel
theorem dX1_init_0 : decode cX1_init 0 = .ok (.aload_n 0, 1) := by decide +kernel
theorem dX1_init_1 : decode cX1_init 1 = .ok (.invokespecial 3, 3) := by decide +kernel
theorem dX1_init_4 : decode cX1_init 4 = .ok (.aload_n 0, 1) := by decide +kernel
theorem dX1_init_5 : decode cX1_init 5 = .ok (.aload_n 1, 1) := by decide +kernel
theorem dX1_init_6 : decode cX1_init 6 = .ok (.putfield 9, 3) := by decide +kernel
theorem dX1_init_9 : decode cX1_init 9 = .ok (.aload_n 0, 1) := by decide +kernel
theorem dX1_init_10 : decode cX1_init 10 = .ok (.bipush 12, 2) := by decide +kernel
theorem dX1_init_12 : decode cX1_init 12 = .ok (.newarray .int, 2) := by decide +kernel
theorem dX1_init_14 : decode cX1_init 14 = .ok (.putfield 15, 3) := by decide +kernel
theorem dX1_init_17 : decode cX1_init 17 = .ok (.return_, 1) := by decide +kernel
theorem dX2_init_0 : decode cX2_init 0 = .ok (.aload_n 0, 1) := by decide +kernel
theorem dX2_init_1 : decode cX2_init 1 = .ok (.invokespecial 3, 3) := by decide +kernel
theorem dX2_init_4 : decode cX2_init 4 = .ok (.aload_n 0, 1) := by decide +kernel
theorem dX2_init_5 : decode cX2_init 5 = .ok (.aload_n 1, 1) := by decide +kernel
theorem dX2_init_6 : decode cX2_init 6 = .ok (.putfield 9, 3) := by decide +kernel
theorem dX2_init_9 : decode cX2_init 9 = .ok (.aload_n 0, 1) := by decide +kernel
theorem dX2_init_10 : decode cX2_init 10 = .ok (.new 15, 3) := by decide +kernel
theorem dX2_init_13 : decode cX2_init 13 = .ok (.dup, 1) := by decide +kernel
theorem dX2_init_14 : decode cX2_init 14 = .ok (.invokespecial 17, 3) := by decide +kernel
theorem dX2_init_17 : decode cX2_init 17 = .ok (.putfield 18, 3) := by decide +kernel
theorem dX2_init_20 : decode cX2_init 20 = .ok (.return_, 1) := by decide +kernel
theorem dX3_init_0 : decode cX3_init 0 = .ok (.aload_n 0, 1) := by decide +kernel
theorem dX3_init_1 : decode cX3_init 1 = .ok (.invokespecial 3, 3) := by decide +kernel
theorem dX3_init_4 : decode cX3_init 4 = .ok (.aload_n 0, 1) := by decide +kernel
theorem dX3_init_5 : decode cX3_init 5 = .ok (.bipush 12, 2) := by decide +kernel
theorem dX3_init_7 : decode cX3_init 7 = .ok (.newarray .int, 2) := by decide +kernel
theorem dX3_init_9 : decode cX3_init 9 = .ok (.putfield 9, 3) := by decide +kernel
theorem dX3_init_12 : decode cX3_init 12 = .ok (.aload_n 0, 1) := by decide +kernel
theorem dX3_init_13 : decode cX3_init 13 = .ok (.bipush 12, 2) := by decide +kernel
theorem dX3_init_15 : decode cX3_init 15 = .ok (.newarray .int, 2) := by decide +kernel
theorem dX3_init_17 : decode cX3_init 17 = .ok (.putfield 15, 3) := by decide +kernel
theorem dX3_init_20 : decode cX3_init 20 = .ok (.aload_n 0, 1) := by decide +kernel
theorem dX3_init_21 : decode cX3_init 21 = .ok (.bipush 12, 2) := by decide +kernel
theorem dX3_init_23 : decode cX3_init 23 = .ok (.newarray .int, 2) := by decide +kernel
theorem dX3_init_25 : decode cX3_init 25 = .ok (.putfield 18, 3) := by decide +kernel
theorem dX3_init_28 : decode cX3_init 28 = .ok (.aload_n 0, 1) := by decide +kernel
theorem dX3_init_29 : decode cX3_init 29 = .ok (.bipush 12, 2) := by decide +kernel
theorem dX3_init_31 : decode cX3_init 31 = .ok (.newarray .int, 2) := by decide +kernel
theorem dX3_init_33 : decode cX3_init 33 = .ok (.putfield 21, 3) := by decide +kernel
theorem dX3_init_36 : decode cX3_init 36 = .ok (.aload_n 0, 1) := by decide +kernel
theorem dX3_init_37 : decode cX3_init 37 = .ok (.iconst 5, 1) := by decide +kernel
theorem dX3_init_38 : decode cX3_init 38 = .ok (.newarray .int, 2) := by decide +kernel
theorem dX3_init_40 : decode cX3_init 40 = .ok (.putfield 24, 3) := by decide +kernel
theorem dX3_init_43 : decode cX3_init 43 = .ok (.aload_n 0, 1) := by decide +kernel
theorem dX3_init_44 : decode cX3_init 44 = .ok (.iconst 5, 1) := by decide +kernel
theorem dX3_init_45 : decode cX3_init 45 = .ok (.newarray .int, 2) := by decide +kernel
theorem dX3_init_47 : decode cX3_init 47 = .ok (.putfield 27, 3) := by decide +kernel
theorem dX3_init_50 : decode cX3_init 50 = .ok (.aload_n 0, 1) := by decide +kernel
theorem dX3_init_51 : decode cX3_init 51 = .ok (.iconst 5, 1) := by decide +kernel
theorem dX3_init_52 : decode cX3_init 52 = .ok (.newarray .int, 2) := by decide +kernel
theorem dX3_init_54 : decode cX3_init 54 = .ok (.putfield 30, 3) := by decide +kernel
theorem dX3_init_57 : decode cX3_init 57 = .ok (.aload_n 0, 1) := by decide +kernel
theorem dX3_init_58 : decode cX3_init 58 = .ok (.iconst 5, 1) := by decide +kernel
theorem dX3_init_59 : decode cX3_init 59 = .ok (.newarray .int, 2) := by decide +kernel
theorem dX3_init_61 : decode cX3_init 61 = .ok (.putfield 33, 3) := by decide +kernel
theorem dX3_init_64 : decode cX3_init 64 = .ok (.aload_n 0, 1) := by decide +kernel
theorem dX3_init_65 : decode cX3_init 65 = .ok (.bipush 8, 2) := by decide +kernel
theorem dX3_init_67 : decode cX3_init 67 = .ok (.newarray .int, 2) := by decide +kernel
theorem dX3_init_69 : decode cX3_init 69 = .ok (.putfield 36, 3) := by decide +kernel
theorem dX3_init_72 : decode cX3_init 72 = .ok (.aload_n 0, 1) := by decide +kernel
theorem dX3_init_73 : decode cX3_init 73 = .ok (.iconst 5, 1) := by decide +kernel
theorem dX3_init_74 : decode cX3_init 74 = .ok (.putfield 39, 3) := by decide +kernel
theorem dX3_init_77 : decode cX3_init 77 = .ok (.return_, 1) := by decide +kernel
theorem dX4_init_0 : decode cX4_init 0 = .ok (.aload_n 0, 1) := by decide +kernel
theorem dX4_init_1 : decode cX4_init 1 = .ok (.invokespecial 3, 3) := by decide +kernel
theorem dX4_init_4 : decode cX4_init 4 = .ok (.aload_n 0, 1) := by decide +kernel
theorem dX4_init_5 : decode cX4_init 5 = .ok (.aload_n 1, 1) := by decide +kernel
theorem dX4_init_6 : decode cX4_init 6 = .ok (.putfield 9, 3) := by decide +kernel
theorem dX4_init_9 : decode cX4_init 9 = .ok (.aload_n 0, 1) := by decide +kernel
theorem dX4_init_10 : decode cX4_init 10 = .ok (.iconst 5, 1) := by decide +kernel
theorem dX4_init_11 : decode cX4_init 11 = .ok (.newarray .int, 2) := by decide +kernel
theorem dX4_init_13 : decode cX4_init 13 = .ok (.putfield 15, 3) := by decide +kernel
theorem dX4_init_16 : decode cX4_init 16 = .ok (.aload_n 0, 1) := by decide +kernel
theorem dX4_init_17 : decode cX4_init 17 = .ok (.bipush 12, 2) := by decide +kernel
theorem dX4_init_19 : decode cX4_init 19 = .ok (.newarray .int, 2) := by decide +kernel
theorem dX4_init_21 : decode cX4_init 21 = .ok (.putfield 19, 3) := by decide +kernel
theorem dX4_init_24 : decode cX4_init 24 = .ok (.return_, 1) := by decide +kernel
theorem dX5_init_0 : decode cX5_init 0 = .ok (.aload_n 0, 1) := by decide +kernel
theorem dX5_init_1 : decode cX5_init 1 = .ok (.invokespecial 3, 3) := by decide +kernel
theorem dX5_init_4 : decode cX5_init 4 = .ok (.aload_n 0, 1) := by decide +kernel
theorem dX5_init_5 : decode cX5_init 5 = .ok (.sipush 160, 3) := by decide +kernel
theorem dX5_init_8 : decode cX5_init 8 = .ok (.newarray .int, 2) := by decide +kernel
theorem dX5_init_10 : decode cX5_init 10 = .ok (.putfield 11, 3) := by decide +kernel
theorem dX5_init_13 : decode cX5_init 13 = .ok (.aload_n 0, 1) := by decide +kernel
theorem dX5_init_14 : decode cX5_init 14 = .ok (.iconst 4, 1) := by decide +kernel
theorem dX5_init_15 : decode cX5_init 15 = .ok (.newarray .int, 2) := by decide +kernel
theorem dX5_init_17 : decode cX5_init 17 = .ok (.putfield 15, 3) := by decide +kernel
theorem dX5_init_20 : decode cX5_init 20 = .ok (.aload_n 0, 1) := by decide +kernel
theorem dX5_init_21 : decode cX5_init 21 = .ok (.iconst 4, 1) := by decide +kernel
theorem dX5_init_22 : decode cX5_init 22 = .ok (.newarray .int, 2) := by decide +kernel
theorem dX5_init_24 : decode cX5_init 24 = .ok (.putfield 18, 3) := by decide +kernel
theorem dX5_init_27 : decode cX5_init 27 = .ok (.iconst 0, 1) := by decide +kernel
theorem dX5_init_28 : decode cX5_init 28 = .ok (.istore_n 1, 1) := by decide +kernel
theorem dX5_init_29 : decode cX5_init 29 = .ok (.iload_n 1, 1) := by decide +kernel
theorem dX5_init_30 : decode cX5_init 30 = .ok (.iconst 4, 1) := by decide +kernel
theorem dX5_init_31 : decode cX5_init 31 = .ok (.if_icmp .ge 16, 3) := by decide +kernel
theorem dX5_init_34 : decode cX5_init 34 = .ok (.aload_n 0, 1) := by decide +kernel
theorem dX5_init_35 : decode cX5_init 35 = .ok (.getfield 18, 3) := by decide +kernel
theorem dX5_init_38 : decode cX5_init 38 = .ok (.iload_n 1, 1) := by decide +kernel
theorem dX5_init_39 : decode cX5_init 39 = .ok (.iconst (-1), 1) := by decide +kernel
theorem dX5_init_40 : decode cX5_init 40 = .ok (.iastore, 1) := by decide +kernel
theorem dX5_init_41 : decode cX5_init 41 = .ok (.iinc 1 1, 3) := by decide +kernel
theorem dX5_init_44 : decode cX5_init 44 = .ok (.goto (-15), 3) := by decide +kernel
theorem dX5_init_47 : decode cX5_init 47 = .ok (.return_, 1) := by decide +kernel
theorem dX6_init_0 : decode cX6_init 0 = .ok (.aload_n 0, 1) := by decide +kernel
theorem dX6_init_1 : decode cX6_init 1 = .ok (.invokespecial 3, 3) := by decide +kernel
theorem dX6_init_4 : decode cX6_init 4 = .ok (.aload_n 0, 1) := by decide +kernel
theorem dX6_init_5 : decode cX6_init 5 = .ok (.sipush 400, 3) := by decide +kernel
theorem dX6_init_8 : decode cX6_init 8 = .ok (.newarray .int, 2) := by decide +kernel
theorem dX6_init_10 : decode cX6_init 10 = .ok (.putfield 11, 3) := by decide +kernel
theorem dX6_init_13 : decode cX6_init 13 = .ok (.aload_n 0, 1) := by decide +kernel
theorem dX6_init_14 : decode cX6_init 14 = .ok (.iconst 0, 1) := by decide +kernel
theorem dX6_init_15 : decode cX6_init 15 = .ok (.putfield 15, 3) := by decide +kernel
theorem dX6_init_18 : decode cX6_init 18 = .ok (.return_, 1) := by decide +kernel
theorem dX7_init_0 : decode cX7_init 0 = .ok (.aload_n 0, 1) := by decide +kernel
theorem dX7_init_1 : decode cX7_init 1 = .ok (.invokespecial 3, 3) := by decide +kernel
theorem dX7_init_4 : decode cX7_init 4 = .ok (.aload_n 0, 1) := by decide +kernel
theorem dX7_init_5 : decode cX7_init 5 = .ok (.aload_n 1, 1) := by decide +kernel
theorem dX7_init_6 : decode cX7_init 6 = .ok (.putfield 9, 3) := by decide +kernel
theorem dX7_init_9 : decode cX7_init 9 = .ok (.aload_n 0, 1) := by decide +kernel
theorem dX7_init_10 : decode cX7_init 10 = .ok (.aload_n 2, 1) := by decide +kernel
theorem dX7_init_11 : decode cX7_init 11 = .ok (.putfield 15, 3) := by decide +kernel
theorem dX7_init_14 : decode cX7_init 14 = .ok (.aload_n 0, 1) := by decide +kernel
theorem dX7_init_15 : decode cX7_init 15 = .ok (.bipush 12, 2) := by decide +kernel
theorem dX7_init_17 : decode cX7_init 17 = .ok (.newarray .int, 2) := by decide +kernel
theorem dX7_init_19 : decode cX7_init 19 = .ok (.putfield 19, 3) := by decide +kernel
theorem dX7_init_22 : decode cX7_init 22 = .ok (.aload_n 0, 1) := by decide +kernel
theorem dX7_init_23 : decode cX7_init 23 = .ok (.iconst 5, 1) := by decide +kernel
theorem dX7_init_24 : decode cX7_init 24 = .ok (.newarray .int, 2) := by decide +kernel
theorem dX7_init_26 : decode cX7_init 26 = .ok (.putfield 23, 3) := by decide +kernel
theorem dX7_init_29 : decode cX7_init 29 = .ok (.aload_n 0, 1) := by decide +kernel
theorem dX7_init_30 : decode cX7_init 30 = .ok (.iconst 5, 1) := by decide +kernel
theorem dX7_init_31 : decode cX7_init 31 = .ok (.newarray .int, 2) := by decide +kernel
theorem dX7_init_33 : decode cX7_init 33 = .ok (.putfield 26, 3) := by decide +kernel
theorem dX7_init_36 : decode cX7_init 36 = .ok (.aload_n 0, 1) := by decide +kernel
theorem dX7_init_37 : decode cX7_init 37 = .ok (.iconst 5, 1) := by decide +kernel
theorem dX7_init_38 : decode cX7_init 38 = .ok (.newarray .int, 2) := by decide +kernel
theorem dX7_init_40 : decode cX7_init 40 = .ok (.putfield 29, 3) := by decide +kernel
theorem dX7_init_43 : decode cX7_init 43 = .ok (.aload_n 0, 1) := by decide +kernel
theorem dX7_init_44 : decode cX7_init 44 = .ok (.iconst 5, 1) := by decide +kernel
theorem dX7_init_45 : decode cX7_init 45 = .ok (.newarray .int, 2) := by decide +kernel
theorem dX7_init_47 : decode cX7_init 47 = .ok (.putfield 32, 3) := by decide +kernel
theorem dX7_init_50 : decode cX7_init 50 = .ok (.aload_n 0, 1) := by decide +kernel
theorem dX7_init_51 : decode cX7_init 51 = .ok (.iconst 5, 1) := by decide +kernel
theorem dX7_init_52 : decode cX7_init 52 = .ok (.newarray .int, 2) := by decide +kernel
theorem dX7_init_54 : decode cX7_init 54 = .ok (.putfield 35, 3) := by decide +kernel
theorem dX7_init_57 : decode cX7_init 57 = .ok (.return_, 1) := by decide +kernel
theorem dX8_init_0 : decode cX8_init 0 = .ok (.aload_n 0, 1) := by decide +kernel
theorem dX8_init_1 : decode cX8_init 1 = .ok (.invokespecial 3, 3) := by decide +kernel
theorem dX8_init_4 : decode cX8_init 4 = .ok (.aload_n 0, 1) := by decide +kernel
theorem dX8_init_5 : decode cX8_init 5 = .ok (.aload_n 1, 1) := by decide +kernel
theorem dX8_init_6 : decode cX8_init 6 = .ok (.putfield 9, 3) := by decide +kernel
theorem dX8_init_9 : decode cX8_init 9 = .ok (.aload_n 0, 1) := by decide +kernel
theorem dX8_init_10 : decode cX8_init 10 = .ok (.bipush 81, 2) := by decide +kernel
theorem dX8_init_12 : decode cX8_init 12 = .ok (.newarray .int, 2) := by decide +kernel
theorem dX8_init_14 : decode cX8_init 14 = .ok (.putfield 15, 3) := by decide +kernel
theorem dX8_init_17 : decode cX8_init 17 = .ok (.aload_n 0, 1) := by decide +kernel
theorem dX8_init_18 : decode cX8_init 18 = .ok (.bipush 9, 2) := by decide +kernel
theorem dX8_init_20 : decode cX8_init 20 = .ok (.newarray .int, 2) := by decide +kernel
theorem dX8_init_22 : decode cX8_init 22 = .ok (.putfield 19, 3) := by decide +kernel
theorem dX8_init_25 : decode cX8_init 25 = .ok (.return_, 1) := by decide +kernel
abbrev n_f3 : List Value := [.int 0, .int 0, .int 0, .null, .null, .null, .null, .int 0, .int 0, .null, .int 0, .null, .null, .null, .long 0, .int 0, .null, .int 0]
theorem n_df3 : ∀ j, j < 18 → defaultValue (tyX3 j) = vp_V n_f3 j := by decide +kernel
def w_X3 (cs : ClassId × ClassId × ClassId) (h0 : Nat) (u : Nat → Nat) : va_W := [(h0, .inr (3, [.int 5, .int 0, .int 0, .ref (u 0), .ref (u 1), .ref (u 2), .ref (u 3), .int 0, .int 0, .ref (u 4), .int 0, .ref (u 5), .ref (u 6), .ref (u 7), .long 0, .int 0, .ref (u 8), .int 0])), ((u 0), .inl (cs.1, 12, .inl (fun _ => 0))), ((u 1), .inl (cs.1, 12, .inl (fun _ => 0))), ((u 2), .inl (cs.1, 12, .inl (fun _ => 0))), ((u 3), .inl (cs.1, 12, .inl (fun _ => 0))), ((u 4), .inl (cs.1, 5, .inl (fun _ => 0))), ((u 5), .inl (cs.1, 5, .inl (fun _ => 0))), ((u 6), .inl (cs.1, 5, .inl (fun _ => 0))), ((u 7), .inl (cs.1, 5, .inl (fun _ => 0))), ((u 8), .inl (cs.1, 8, .inl (fun _ => 0)))]
abbrev n_f6 : List Value := [.null, .int 0]
theorem n_df6 : ∀ j, j < 2 → defaultValue (tyX6 j) = vp_V n_f6 j := by decide +kernel
def w_X6 (cs : ClassId × ClassId × ClassId) (h0 : Nat) (u : Nat → Nat) : va_W := [(h0, .inr (6, [.ref (u 0), .int 0])), ((u 0), .inl (cs.1, 400, .inl (fun _ => 0)))]
abbrev n_f2 : List Value := [.null, .null, .int 0, .int 0, .int 0, .int 0, .int 0, .int 0, .int 0, .int 0]
theorem n_df2 : ∀ j, j < 10 → defaultValue (tyX2 j) = vp_V n_f2 j := by decide +kernel
def w_X2 (cs : ClassId × ClassId × ClassId) (h0 : Nat) (a1 : Nat) (u : Nat → Nat) : va_W := [(h0, .inr (2, [.ref a1, .ref (u 0), .int 0, .int 0, .int 0, .int 0, .int 0, .int 0, .int 0, .int 0]))] ++ w_X3 cs (u 0) (fun j => u (j + 1))
abbrev n_f8 : List Value := [.null, .null, .null]
theorem n_df8 : ∀ j, j < 3 → defaultValue (tyX8 j) = vp_V n_f8 j := by decide +kernel
def w_X8 (cs : ClassId × ClassId × ClassId) (h0 : Nat) (a1 : Nat) (u : Nat → Nat) : va_W := [(h0, .inr (8, [.ref a1, .ref (u 0), .ref (u 1)])), ((u 0), .inl (cs.1, 81, .inl (fun _ => 0))), ((u 1), .inl (cs.1, 9, .inl (fun _ => 0)))]
abbrev n_f7 : List Value := [.null, .null, .null, .null, .null, .null, .null, .null]
theorem n_df7 : ∀ j, j < 8 → defaultValue (tyX7 j) = vp_V n_f7 j := by decide +kernel
def w_X7 (cs : ClassId × ClassId × ClassId) (h0 : Nat) (a1 : Nat) (a2 : Nat) (u : Nat → Nat) : va_W := [(h0, .inr (7, [.ref a1, .ref a2, .ref (u 0), .ref (u 1), .ref (u 2), .ref (u 3), .ref (u 4), .ref (u 5)])), ((u 0), .inl (cs.1, 12, .inl (fun _ => 0))), ((u 1), .inl (cs.1, 5, .inl (fun _ => 0))), ((u 2), .inl (cs.1, 5, .inl (fun _ => 0))), ((u 3), .inl (cs.1, 5, .inl (fun _ => 0))), ((u 4), .inl (cs.1, 5, .inl (fun _ => 0))), ((u 5), .inl (cs.1, 5, .inl (fun _ => 0)))]
abbrev n_f0 : List Value := [.null, .null, .int 0, .int 0]
theorem n_df0 : ∀ j, j < 4 → defaultValue (tyX0 j) = vp_V n_f0 j := by decide +kernel
def w_X0 (cs : ClassId × ClassId × ClassId) (h0 : Nat) (a1 : Nat) (a2 : Nat) (u : Nat → Nat) : va_W := [(h0, .inr (0, [.ref a1, .ref a2, .int 0, .int 0]))]
abbrev n_f4 : List Value := [.null, .null, .null]
theorem n_df4 : ∀ j, j < 3 → defaultValue (tyX4 j) = vp_V n_f4 j := by decide +kernel
def w_X4 (cs : ClassId × ClassId × ClassId) (h0 : Nat) (a1 : Nat) (u : Nat → Nat) : va_W := [(h0, .inr (4, [.ref a1, .ref (u 0), .ref (u 1)])), ((u 0), .inl (cs.1, 5, .inl (fun _ => 0))), ((u 1), .inl (cs.1, 12, .inl (fun _ => 0)))]
abbrev n_f1 : List Value := [.null, .int 0, .int 0, .int 0, .int 0, .int 0, .int 0, .null]
theorem n_df1 : ∀ j, j < 8 → defaultValue (tyX1 j) = vp_V n_f1 j := by decide +kernel
def w_X1 (cs : ClassId × ClassId × ClassId) (h0 : Nat) (a1 : Nat) (u : Nat → Nat) : va_W := [(h0, .inr (1, [.ref a1, .int 0, .int 0, .int 0, .int 0, .int 0, .int 0, .ref (u 0)])), ((u 0), .inl (cs.1, 12, .inl (fun _ => 0)))]
abbrev n_f5 : List Value := [.null, .null, .null]
theorem n_df5 : ∀ j, j < 3 → defaultValue (tyX5 j) = vp_V n_f5 j := by decide +kernel
def w_X5 (cs : ClassId × ClassId × ClassId) (h0 : Nat) (u : Nat → Nat) : va_W := [(h0, .inr (5, [.ref (u 0), .ref (u 1), .ref (u 2)])), ((u 0), .inl (cs.1, 160, .inl (fun _ => 0))), ((u 1), .inl (cs.1, 4, .inl (fun _ => 0))), ((u 2), .inl (cs.1, 4, .inl (upd (upd (upd (upd (fun _ => 0) ((0 : Int32).toNatClampNeg) (-1)) ((1 : Int32).toNatClampNeg) (-1)) ((2 : Int32).toNatClampNeg) (-1)) ((3 : Int32).toNatClampNeg) (-1))))]
set_option maxHeartbeats 4000000 in
set_option maxRecDepth 100000 in
theorem n_X3 (l : Launch) (D : va_G) (cs : ClassId × ClassId × ClassId) (h0 : Nat) : kr_Mi l D cs yX3_init cX3_init 1 { frames := 1, cells := 9, slots := 76, locals := 12 } h0 (3, n_f3) [] (w_X3 cs h0) := by
  intro sz
  refine Met.ofW (cc := cX3_init) (maxL := 1) (ret := none) (by decide +kernel) rfl ?_
  intro p e s m args below meth c s₁ B hml hv
  obtain ⟨rfl, hsz, hP, hK, hD0⟩ := hv
  have hts := atoms_spec (ws := kr_mi yX3_init cX3_init 1) B.pre
  have hown : s.vm.findClass RX3 = some m.cls := findClass_of_methodNamed B.named
  have hlocks := B.notSynchronized
  have hin : meth.name = "<init>" := (name_of_methodNamed B.named B.method).1
  have hr := B.returns
  subst hsz
  have hD := hD0.self (sz := s.heap.size)
  generalize hAe : va_A [(h0, .inr (3, n_f3))] s.heap.size = A at hD ⊢
  have hA : ∀ q : Nat, s.heap.size ≤ q → A q := fun q h => by rw [← hAe]; exact Or.inr h
  have C : kr_Cn RX3 cX3_init 1 p s m ([.ref h0] : List Value).toArray meth c D cs A := ⟨⟨B.exec, B.bytes, hml, hown, fun w hw => hts w (List.mem_cons_of_mem _ hw)⟩, hK, hA, hin⟩
  have hW : kr_Wd D A s [(h0, .inr (3, n_f3))] s.heap [] := ⟨hP, hD, va_S.rf⟩
  have hl := lv_entry ([.ref h0]) (n := 1) (Nat.le_of_ble_eq_true rfl)
  rw [lg_entry_eq]
  generalize (lg_sl ([.ref h0]) ++ List.replicate (1 - (lg_sl ([.ref h0])).length) Slot.unset).toArray = ls at hl ⊢
  have hl : lv_has ls 1 [(0, .ref h0)] := hl
  refine lv_aload_n C.1.1 C.1.2.1 dX3_init_0 rfl (lv_at hl 0 rfl) ?_
  refine kr_i_obj C kr_w_o_X3_3 kr_w_oi kr_w_oc hl.1 dX3_init_1 ⟨Nat.le_of_ble_eq_true rfl, Nat.le_of_ble_eq_true rfl⟩ ?_
  refine lv_aload_n C.1.1 C.1.2.1 dX3_init_4 rfl (lv_at hl 0 rfl) ?_
  refine lv_bipush (v := 12) C.1.1 C.1.2.1 dX3_init_5 (by decide) ?_
  refine kr_i_newa (N := 12) C hW kr_w_y_int (by decide) (by decide) (by decide) (Nat.le_of_ble_eq_true rfl) (Nat.le_of_ble_eq_true rfl) dX3_init_7 (fun q0 H hW => ?_)
  have hW : kr_Wd D A s ((h0, .inr (3, [.int 0, .int 0, .int 0, .null, .null, .null, .null, .int 0, .int 0, .null, .int 0, .null, .null, .null, .long 0, .int 0, .null, .int 0])) :: ([(q0, .inl (cs.1, 12, .inl (fun _ => 0)))])) H _ := hW
  refine kr_i_putF (k := 3) (v := .ref q0) (ty := .array .int) C hW kr_cl3 kr_w_f_Rock_9 (by decide) rfl rfl (by decide +kernel) rfl rfl (Nat.le_of_ble_eq_true rfl) dX3_init_9 (fun H locs hW => ?_)
  have hW : kr_Wd D A s ((h0, .inr (3, [.int 0, .int 0, .int 0, .ref q0, .null, .null, .null, .int 0, .int 0, .null, .int 0, .null, .null, .null, .long 0, .int 0, .null, .int 0])) :: ([(q0, .inl (cs.1, 12, .inl (fun _ => 0)))])) H _ := hW
  refine lv_aload_n C.1.1 C.1.2.1 dX3_init_12 rfl (lv_at hl 0 rfl) ?_
  refine lv_bipush (v := 12) C.1.1 C.1.2.1 dX3_init_13 (by decide) ?_
  refine kr_i_newa (N := 12) C hW kr_w_y_int (by decide) (by decide) (by decide) (Nat.le_of_ble_eq_true rfl) (Nat.le_of_ble_eq_true rfl) dX3_init_15 (fun q1 H hW => ?_)
  have hW : kr_Wd D A s ((h0, .inr (3, [.int 0, .int 0, .int 0, .ref q0, .null, .null, .null, .int 0, .int 0, .null, .int 0, .null, .null, .null, .long 0, .int 0, .null, .int 0])) :: ([(q0, .inl (cs.1, 12, .inl (fun _ => 0))), (q1, .inl (cs.1, 12, .inl (fun _ => 0)))])) H _ := hW
  refine kr_i_putF (k := 4) (v := .ref q1) (ty := .array .int) C hW kr_cl3 kr_w_f_Rock_15 (by decide) rfl rfl (by decide +kernel) rfl rfl (Nat.le_of_ble_eq_true rfl) dX3_init_17 (fun H locs hW => ?_)
  have hW : kr_Wd D A s ((h0, .inr (3, [.int 0, .int 0, .int 0, .ref q0, .ref q1, .null, .null, .int 0, .int 0, .null, .int 0, .null, .null, .null, .long 0, .int 0, .null, .int 0])) :: ([(q0, .inl (cs.1, 12, .inl (fun _ => 0))), (q1, .inl (cs.1, 12, .inl (fun _ => 0)))])) H _ := hW
  refine lv_aload_n C.1.1 C.1.2.1 dX3_init_20 rfl (lv_at hl 0 rfl) ?_
  refine lv_bipush (v := 12) C.1.1 C.1.2.1 dX3_init_21 (by decide) ?_
  refine kr_i_newa (N := 12) C hW kr_w_y_int (by decide) (by decide) (by decide) (Nat.le_of_ble_eq_true rfl) (Nat.le_of_ble_eq_true rfl) dX3_init_23 (fun q2 H hW => ?_)
  have hW : kr_Wd D A s ((h0, .inr (3, [.int 0, .int 0, .int 0, .ref q0, .ref q1, .null, .null, .int 0, .int 0, .null, .int 0, .null, .null, .null, .long 0, .int 0, .null, .int 0])) :: ([(q0, .inl (cs.1, 12, .inl (fun _ => 0))), (q1, .inl (cs.1, 12, .inl (fun _ => 0))), (q2, .inl (cs.1, 12, .inl (fun _ => 0)))])) H _ := hW
  refine kr_i_putF (k := 5) (v := .ref q2) (ty := .array .int) C hW kr_cl3 kr_w_f_Rock_18 (by decide) rfl rfl (by decide +kernel) rfl rfl (Nat.le_of_ble_eq_true rfl) dX3_init_25 (fun H locs hW => ?_)
  have hW : kr_Wd D A s ((h0, .inr (3, [.int 0, .int 0, .int 0, .ref q0, .ref q1, .ref q2, .null, .int 0, .int 0, .null, .int 0, .null, .null, .null, .long 0, .int 0, .null, .int 0])) :: ([(q0, .inl (cs.1, 12, .inl (fun _ => 0))), (q1, .inl (cs.1, 12, .inl (fun _ => 0))), (q2, .inl (cs.1, 12, .inl (fun _ => 0)))])) H _ := hW
  refine lv_aload_n C.1.1 C.1.2.1 dX3_init_28 rfl (lv_at hl 0 rfl) ?_
  refine lv_bipush (v := 12) C.1.1 C.1.2.1 dX3_init_29 (by decide) ?_
  refine kr_i_newa (N := 12) C hW kr_w_y_int (by decide) (by decide) (by decide) (Nat.le_of_ble_eq_true rfl) (Nat.le_of_ble_eq_true rfl) dX3_init_31 (fun q3 H hW => ?_)
  have hW : kr_Wd D A s ((h0, .inr (3, [.int 0, .int 0, .int 0, .ref q0, .ref q1, .ref q2, .null, .int 0, .int 0, .null, .int 0, .null, .null, .null, .long 0, .int 0, .null, .int 0])) :: ([(q0, .inl (cs.1, 12, .inl (fun _ => 0))), (q1, .inl (cs.1, 12, .inl (fun _ => 0))), (q2, .inl (cs.1, 12, .inl (fun _ => 0))), (q3, .inl (cs.1, 12, .inl (fun _ => 0)))])) H _ := hW
  refine kr_i_putF (k := 6) (v := .ref q3) (ty := .array .int) C hW kr_cl3 kr_w_f_Rock_21 (by decide) rfl rfl (by decide +kernel) rfl rfl (Nat.le_of_ble_eq_true rfl) dX3_init_33 (fun H locs hW => ?_)
  have hW : kr_Wd D A s ((h0, .inr (3, [.int 0, .int 0, .int 0, .ref q0, .ref q1, .ref q2, .ref q3, .int 0, .int 0, .null, .int 0, .null, .null, .null, .long 0, .int 0, .null, .int 0])) :: ([(q0, .inl (cs.1, 12, .inl (fun _ => 0))), (q1, .inl (cs.1, 12, .inl (fun _ => 0))), (q2, .inl (cs.1, 12, .inl (fun _ => 0))), (q3, .inl (cs.1, 12, .inl (fun _ => 0)))])) H _ := hW
  refine lv_aload_n C.1.1 C.1.2.1 dX3_init_36 rfl (lv_at hl 0 rfl) ?_
  refine lv_iconst (v := 5) C.1.1 C.1.2.1 dX3_init_37 (by decide) ?_
  refine kr_i_newa (N := 5) C hW kr_w_y_int (by decide) (by decide) (by decide) (Nat.le_of_ble_eq_true rfl) (Nat.le_of_ble_eq_true rfl) dX3_init_38 (fun q4 H hW => ?_)
  have hW : kr_Wd D A s ((h0, .inr (3, [.int 0, .int 0, .int 0, .ref q0, .ref q1, .ref q2, .ref q3, .int 0, .int 0, .null, .int 0, .null, .null, .null, .long 0, .int 0, .null, .int 0])) :: ([(q0, .inl (cs.1, 12, .inl (fun _ => 0))), (q1, .inl (cs.1, 12, .inl (fun _ => 0))), (q2, .inl (cs.1, 12, .inl (fun _ => 0))), (q3, .inl (cs.1, 12, .inl (fun _ => 0))), (q4, .inl (cs.1, 5, .inl (fun _ => 0)))])) H _ := hW
  refine kr_i_putF (k := 9) (v := .ref q4) (ty := .array .int) C hW kr_cl3 kr_w_f_Rock_24 (by decide) rfl rfl (by decide +kernel) rfl rfl (Nat.le_of_ble_eq_true rfl) dX3_init_40 (fun H locs hW => ?_)
  have hW : kr_Wd D A s ((h0, .inr (3, [.int 0, .int 0, .int 0, .ref q0, .ref q1, .ref q2, .ref q3, .int 0, .int 0, .ref q4, .int 0, .null, .null, .null, .long 0, .int 0, .null, .int 0])) :: ([(q0, .inl (cs.1, 12, .inl (fun _ => 0))), (q1, .inl (cs.1, 12, .inl (fun _ => 0))), (q2, .inl (cs.1, 12, .inl (fun _ => 0))), (q3, .inl (cs.1, 12, .inl (fun _ => 0))), (q4, .inl (cs.1, 5, .inl (fun _ => 0)))])) H _ := hW
  refine lv_aload_n C.1.1 C.1.2.1 dX3_init_43 rfl (lv_at hl 0 rfl) ?_
  refine lv_iconst (v := 5) C.1.1 C.1.2.1 dX3_init_44 (by decide) ?_
  refine kr_i_newa (N := 5) C hW kr_w_y_int (by decide) (by decide) (by decide) (Nat.le_of_ble_eq_true rfl) (Nat.le_of_ble_eq_true rfl) dX3_init_45 (fun q5 H hW => ?_)
  have hW : kr_Wd D A s ((h0, .inr (3, [.int 0, .int 0, .int 0, .ref q0, .ref q1, .ref q2, .ref q3, .int 0, .int 0, .ref q4, .int 0, .null, .null, .null, .long 0, .int 0, .null, .int 0])) :: ([(q0, .inl (cs.1, 12, .inl (fun _ => 0))), (q1, .inl (cs.1, 12, .inl (fun _ => 0))), (q2, .inl (cs.1, 12, .inl (fun _ => 0))), (q3, .inl (cs.1, 12, .inl (fun _ => 0))), (q4, .inl (cs.1, 5, .inl (fun _ => 0))), (q5, .inl (cs.1, 5, .inl (fun _ => 0)))])) H _ := hW
  refine kr_i_putF (k := 11) (v := .ref q5) (ty := .array .int) C hW kr_cl3 kr_w_f_Rock_27 (by decide) rfl rfl (by decide +kernel) rfl rfl (Nat.le_of_ble_eq_true rfl) dX3_init_47 (fun H locs hW => ?_)
  have hW : kr_Wd D A s ((h0, .inr (3, [.int 0, .int 0, .int 0, .ref q0, .ref q1, .ref q2, .ref q3, .int 0, .int 0, .ref q4, .int 0, .ref q5, .null, .null, .long 0, .int 0, .null, .int 0])) :: ([(q0, .inl (cs.1, 12, .inl (fun _ => 0))), (q1, .inl (cs.1, 12, .inl (fun _ => 0))), (q2, .inl (cs.1, 12, .inl (fun _ => 0))), (q3, .inl (cs.1, 12, .inl (fun _ => 0))), (q4, .inl (cs.1, 5, .inl (fun _ => 0))), (q5, .inl (cs.1, 5, .inl (fun _ => 0)))])) H _ := hW
  refine lv_aload_n C.1.1 C.1.2.1 dX3_init_50 rfl (lv_at hl 0 rfl) ?_
  refine lv_iconst (v := 5) C.1.1 C.1.2.1 dX3_init_51 (by decide) ?_
  refine kr_i_newa (N := 5) C hW kr_w_y_int (by decide) (by decide) (by decide) (Nat.le_of_ble_eq_true rfl) (Nat.le_of_ble_eq_true rfl) dX3_init_52 (fun q6 H hW => ?_)
  have hW : kr_Wd D A s ((h0, .inr (3, [.int 0, .int 0, .int 0, .ref q0, .ref q1, .ref q2, .ref q3, .int 0, .int 0, .ref q4, .int 0, .ref q5, .null, .null, .long 0, .int 0, .null, .int 0])) :: ([(q0, .inl (cs.1, 12, .inl (fun _ => 0))), (q1, .inl (cs.1, 12, .inl (fun _ => 0))), (q2, .inl (cs.1, 12, .inl (fun _ => 0))), (q3, .inl (cs.1, 12, .inl (fun _ => 0))), (q4, .inl (cs.1, 5, .inl (fun _ => 0))), (q5, .inl (cs.1, 5, .inl (fun _ => 0))), (q6, .inl (cs.1, 5, .inl (fun _ => 0)))])) H _ := hW
  refine kr_i_putF (k := 12) (v := .ref q6) (ty := .array .int) C hW kr_cl3 kr_w_f_Rock_30 (by decide) rfl rfl (by decide +kernel) rfl rfl (Nat.le_of_ble_eq_true rfl) dX3_init_54 (fun H locs hW => ?_)
  have hW : kr_Wd D A s ((h0, .inr (3, [.int 0, .int 0, .int 0, .ref q0, .ref q1, .ref q2, .ref q3, .int 0, .int 0, .ref q4, .int 0, .ref q5, .ref q6, .null, .long 0, .int 0, .null, .int 0])) :: ([(q0, .inl (cs.1, 12, .inl (fun _ => 0))), (q1, .inl (cs.1, 12, .inl (fun _ => 0))), (q2, .inl (cs.1, 12, .inl (fun _ => 0))), (q3, .inl (cs.1, 12, .inl (fun _ => 0))), (q4, .inl (cs.1, 5, .inl (fun _ => 0))), (q5, .inl (cs.1, 5, .inl (fun _ => 0))), (q6, .inl (cs.1, 5, .inl (fun _ => 0)))])) H _ := hW
  refine lv_aload_n C.1.1 C.1.2.1 dX3_init_57 rfl (lv_at hl 0 rfl) ?_
  refine lv_iconst (v := 5) C.1.1 C.1.2.1 dX3_init_58 (by decide) ?_
  refine kr_i_newa (N := 5) C hW kr_w_y_int (by decide) (by decide) (by decide) (Nat.le_of_ble_eq_true rfl) (Nat.le_of_ble_eq_true rfl) dX3_init_59 (fun q7 H hW => ?_)
  have hW : kr_Wd D A s ((h0, .inr (3, [.int 0, .int 0, .int 0, .ref q0, .ref q1, .ref q2, .ref q3, .int 0, .int 0, .ref q4, .int 0, .ref q5, .ref q6, .null, .long 0, .int 0, .null, .int 0])) :: ([(q0, .inl (cs.1, 12, .inl (fun _ => 0))), (q1, .inl (cs.1, 12, .inl (fun _ => 0))), (q2, .inl (cs.1, 12, .inl (fun _ => 0))), (q3, .inl (cs.1, 12, .inl (fun _ => 0))), (q4, .inl (cs.1, 5, .inl (fun _ => 0))), (q5, .inl (cs.1, 5, .inl (fun _ => 0))), (q6, .inl (cs.1, 5, .inl (fun _ => 0))), (q7, .inl (cs.1, 5, .inl (fun _ => 0)))])) H _ := hW
  refine kr_i_putF (k := 13) (v := .ref q7) (ty := .array .int) C hW kr_cl3 kr_w_f_Rock_33 (by decide) rfl rfl (by decide +kernel) rfl rfl (Nat.le_of_ble_eq_true rfl) dX3_init_61 (fun H locs hW => ?_)
  have hW : kr_Wd D A s ((h0, .inr (3, [.int 0, .int 0, .int 0, .ref q0, .ref q1, .ref q2, .ref q3, .int 0, .int 0, .ref q4, .int 0, .ref q5, .ref q6, .ref q7, .long 0, .int 0, .null, .int 0])) :: ([(q0, .inl (cs.1, 12, .inl (fun _ => 0))), (q1, .inl (cs.1, 12, .inl (fun _ => 0))), (q2, .inl (cs.1, 12, .inl (fun _ => 0))), (q3, .inl (cs.1, 12, .inl (fun _ => 0))), (q4, .inl (cs.1, 5, .inl (fun _ => 0))), (q5, .inl (cs.1, 5, .inl (fun _ => 0))), (q6, .inl (cs.1, 5, .inl (fun _ => 0))), (q7, .inl (cs.1, 5, .inl (fun _ => 0)))])) H _ := hW
  refine lv_aload_n C.1.1 C.1.2.1 dX3_init_64 rfl (lv_at hl 0 rfl) ?_
  refine lv_bipush (v := 8) C.1.1 C.1.2.1 dX3_init_65 (by decide) ?_
  refine kr_i_newa (N := 8) C hW kr_w_y_int (by decide) (by decide) (by decide) (Nat.le_of_ble_eq_true rfl) (Nat.le_of_ble_eq_true rfl) dX3_init_67 (fun q8 H hW => ?_)
  have hW : kr_Wd D A s ((h0, .inr (3, [.int 0, .int 0, .int 0, .ref q0, .ref q1, .ref q2, .ref q3, .int 0, .int 0, .ref q4, .int 0, .ref q5, .ref q6, .ref q7, .long 0, .int 0, .null, .int 0])) :: ([(q0, .inl (cs.1, 12, .inl (fun _ => 0))), (q1, .inl (cs.1, 12, .inl (fun _ => 0))), (q2, .inl (cs.1, 12, .inl (fun _ => 0))), (q3, .inl (cs.1, 12, .inl (fun _ => 0))), (q4, .inl (cs.1, 5, .inl (fun _ => 0))), (q5, .inl (cs.1, 5, .inl (fun _ => 0))), (q6, .inl (cs.1, 5, .inl (fun _ => 0))), (q7, .inl (cs.1, 5, .inl (fun _ => 0))), (q8, .inl (cs.1, 8, .inl (fun _ => 0)))])) H _ := hW
  refine kr_i_putF (k := 16) (v := .ref q8) (ty := .array .int) C hW kr_cl3 kr_w_f_Rock_36 (by decide) rfl rfl (by decide +kernel) rfl rfl (Nat.le_of_ble_eq_true rfl) dX3_init_69 (fun H locs hW => ?_)
  have hW : kr_Wd D A s ((h0, .inr (3, [.int 0, .int 0, .int 0, .ref q0, .ref q1, .ref q2, .ref q3, .int 0, .int 0, .ref q4, .int 0, .ref q5, .ref q6, .ref q7, .long 0, .int 0, .ref q8, .int 0])) :: ([(q0, .inl (cs.1, 12, .inl (fun _ => 0))), (q1, .inl (cs.1, 12, .inl (fun _ => 0))), (q2, .inl (cs.1, 12, .inl (fun _ => 0))), (q3, .inl (cs.1, 12, .inl (fun _ => 0))), (q4, .inl (cs.1, 5, .inl (fun _ => 0))), (q5, .inl (cs.1, 5, .inl (fun _ => 0))), (q6, .inl (cs.1, 5, .inl (fun _ => 0))), (q7, .inl (cs.1, 5, .inl (fun _ => 0))), (q8, .inl (cs.1, 8, .inl (fun _ => 0)))])) H _ := hW
  refine lv_aload_n C.1.1 C.1.2.1 dX3_init_72 rfl (lv_at hl 0 rfl) ?_
  refine lv_iconst (v := 5) C.1.1 C.1.2.1 dX3_init_73 (by decide) ?_
  refine kr_i_put (k := 0) (v := .int 5) (ty := .int) C hW kr_cl3 kr_w_f_Rock_39 (by decide) rfl (by decide +kernel) rfl rfl (Nat.le_of_ble_eq_true rfl) dX3_init_74 (fun H locs hW => ?_)
  have hW : kr_Wd D A s ((h0, .inr (3, [.int 5, .int 0, .int 0, .ref q0, .ref q1, .ref q2, .ref q3, .int 0, .int 0, .ref q4, .int 0, .ref q5, .ref q6, .ref q7, .long 0, .int 0, .ref q8, .int 0])) :: ([(q0, .inl (cs.1, 12, .inl (fun _ => 0))), (q1, .inl (cs.1, 12, .inl (fun _ => 0))), (q2, .inl (cs.1, 12, .inl (fun _ => 0))), (q3, .inl (cs.1, 12, .inl (fun _ => 0))), (q4, .inl (cs.1, 5, .inl (fun _ => 0))), (q5, .inl (cs.1, 5, .inl (fun _ => 0))), (q6, .inl (cs.1, 5, .inl (fun _ => 0))), (q7, .inl (cs.1, 5, .inl (fun _ => 0))), (q8, .inl (cs.1, 8, .inl (fun _ => 0)))])) H _ := hW
  refine W.widen (k := 9) (n := 76) (Nat.le_of_ble_eq_true rfl) (Nat.le_of_ble_eq_true rfl) ?_
  exact W.vret B.exec B.bytes hr (fun t ht hw => ⟨⟨(kr_nth 0 [q0, q1, q2, q3, q4, q5, q6, q7, q8]), rfl, trivial, by rw [ht]; exact hW.1, hW.2.1⟩, hW.2.2.F ht⟩) hW.2.2.2.2 dX3_init_77
set_option maxHeartbeats 4000000 in
set_option maxRecDepth 100000 in
theorem n_X6 (l : Launch) (D : va_G) (cs : ClassId × ClassId × ClassId) (h0 : Nat) : kr_Mi l D cs yX6_init cX6_init 1 { frames := 1, cells := 1, slots := 400, locals := 12 } h0 (6, n_f6) [] (w_X6 cs h0) := by
  intro sz
  refine Met.ofW (cc := cX6_init) (maxL := 1) (ret := none) (by decide +kernel) rfl ?_
  intro p e s m args below meth c s₁ B hml hv
  obtain ⟨rfl, hsz, hP, hK, hD0⟩ := hv
  have hts := atoms_spec (ws := kr_mi yX6_init cX6_init 1) B.pre
  have hown : s.vm.findClass RX6 = some m.cls := findClass_of_methodNamed B.named
  have hlocks := B.notSynchronized
  have hin : meth.name = "<init>" := (name_of_methodNamed B.named B.method).1
  have hr := B.returns
  subst hsz
  have hD := hD0.self (sz := s.heap.size)
  generalize hAe : va_A [(h0, .inr (6, n_f6))] s.heap.size = A at hD ⊢
  have hA : ∀ q : Nat, s.heap.size ≤ q → A q := fun q h => by rw [← hAe]; exact Or.inr h
  have C : kr_Cn RX6 cX6_init 1 p s m ([.ref h0] : List Value).toArray meth c D cs A := ⟨⟨B.exec, B.bytes, hml, hown, fun w hw => hts w (List.mem_cons_of_mem _ hw)⟩, hK, hA, hin⟩
  have hW : kr_Wd D A s [(h0, .inr (6, n_f6))] s.heap [] := ⟨hP, hD, va_S.rf⟩
  have hl := lv_entry ([.ref h0]) (n := 1) (Nat.le_of_ble_eq_true rfl)
  rw [lg_entry_eq]
  generalize (lg_sl ([.ref h0]) ++ List.replicate (1 - (lg_sl ([.ref h0])).length) Slot.unset).toArray = ls at hl ⊢
  have hl : lv_has ls 1 [(0, .ref h0)] := hl
  refine lv_aload_n C.1.1 C.1.2.1 dX6_init_0 rfl (lv_at hl 0 rfl) ?_
  refine kr_i_obj C kr_w_o_X6_3 kr_w_oi kr_w_oc hl.1 dX6_init_1 ⟨Nat.le_of_ble_eq_true rfl, Nat.le_of_ble_eq_true rfl⟩ ?_
  refine lv_aload_n C.1.1 C.1.2.1 dX6_init_4 rfl (lv_at hl 0 rfl) ?_
  refine lv_sipush (v := 400) C.1.1 C.1.2.1 dX6_init_5 (by decide) ?_
  refine kr_i_newa (N := 400) C hW kr_w_y_int (by decide) (by decide) (by decide) (Nat.le_of_ble_eq_true rfl) (Nat.le_of_ble_eq_true rfl) dX6_init_8 (fun q0 H hW => ?_)
  have hW : kr_Wd D A s ((h0, .inr (6, [.null, .int 0])) :: ([(q0, .inl (cs.1, 400, .inl (fun _ => 0)))])) H _ := hW
  refine kr_i_putF (k := 0) (v := .ref q0) (ty := .array .int) C hW kr_cl6 kr_w_f_Tape_11 (by decide) rfl rfl (by decide +kernel) rfl rfl (Nat.le_of_ble_eq_true rfl) dX6_init_10 (fun H locs hW => ?_)
  have hW : kr_Wd D A s ((h0, .inr (6, [.ref q0, .int 0])) :: ([(q0, .inl (cs.1, 400, .inl (fun _ => 0)))])) H _ := hW
  refine lv_aload_n C.1.1 C.1.2.1 dX6_init_13 rfl (lv_at hl 0 rfl) ?_
  refine lv_iconst (v := 0) C.1.1 C.1.2.1 dX6_init_14 (by decide) ?_
  refine kr_i_put (k := 1) (v := .int 0) (ty := .int) C hW kr_cl6 kr_w_f_Tape_15 (by decide) rfl (by decide +kernel) rfl rfl (Nat.le_of_ble_eq_true rfl) dX6_init_15 (fun H locs hW => ?_)
  have hW : kr_Wd D A s ((h0, .inr (6, [.ref q0, .int 0])) :: ([(q0, .inl (cs.1, 400, .inl (fun _ => 0)))])) H _ := hW
  refine W.widen (k := 1) (n := 400) (Nat.le_of_ble_eq_true rfl) (Nat.le_of_ble_eq_true rfl) ?_
  exact W.vret B.exec B.bytes hr (fun t ht hw => ⟨⟨(kr_nth 0 [q0]), rfl, trivial, by rw [ht]; exact hW.1, hW.2.1⟩, hW.2.2.F ht⟩) hW.2.2.2.2 dX6_init_18
set_option maxHeartbeats 4000000 in
set_option maxRecDepth 100000 in
theorem n_X2 (l : Launch) (D : va_G) (cs : ClassId × ClassId × ClassId) (h0 : Nat) (a1 : Nat) : kr_Mi l D cs yX2_init cX2_init 2 { frames := 2, cells := 10, slots := 94, locals := 32 } h0 (2, n_f2) [.ref a1] (w_X2 cs h0 a1) := by
  intro sz
  refine Met.ofW (cc := cX2_init) (maxL := 2) (ret := none) (by decide +kernel) rfl ?_
  intro p e s m args below meth c s₁ B hml hv
  obtain ⟨rfl, hsz, hP, hK, hD0⟩ := hv
  have hts := atoms_spec (ws := kr_mi yX2_init cX2_init 2) B.pre
  have hown : s.vm.findClass RX2 = some m.cls := findClass_of_methodNamed B.named
  have hlocks := B.notSynchronized
  have hin : meth.name = "<init>" := (name_of_methodNamed B.named B.method).1
  have hr := B.returns
  subst hsz
  have hD := hD0.self (sz := s.heap.size)
  generalize hAe : va_A [(h0, .inr (2, n_f2))] s.heap.size = A at hD ⊢
  have hA : ∀ q : Nat, s.heap.size ≤ q → A q := fun q h => by rw [← hAe]; exact Or.inr h
  have C : kr_Cn RX2 cX2_init 2 p s m ([.ref h0, .ref a1] : List Value).toArray meth c D cs A := ⟨⟨B.exec, B.bytes, hml, hown, fun w hw => hts w (List.mem_cons_of_mem _ hw)⟩, hK, hA, hin⟩
  have hW : kr_Wd D A s [(h0, .inr (2, n_f2))] s.heap [] := ⟨hP, hD, va_S.rf⟩
  have hl := lv_entry ([.ref h0, .ref a1]) (n := 2) (Nat.le_of_ble_eq_true rfl)
  rw [lg_entry_eq]
  generalize (lg_sl ([.ref h0, .ref a1]) ++ List.replicate (2 - (lg_sl ([.ref h0, .ref a1])).length) Slot.unset).toArray = ls at hl ⊢
  have hl : lv_has ls 2 [(0, .ref h0), (1, .ref a1)] := hl
  refine lv_aload_n C.1.1 C.1.2.1 dX2_init_0 rfl (lv_at hl 0 rfl) ?_
  refine kr_i_obj C kr_w_o_X2_3 kr_w_oi kr_w_oc hl.1 dX2_init_1 ⟨Nat.le_of_ble_eq_true rfl, Nat.le_of_ble_eq_true rfl⟩ ?_
  refine lv_aload_n C.1.1 C.1.2.1 dX2_init_4 rfl (lv_at hl 0 rfl) ?_
  refine lv_aload_n C.1.1 C.1.2.1 dX2_init_5 rfl (lv_at hl 1 rfl) ?_
  refine kr_i_putF (k := 0) (v := .ref a1) (ty := .object "ChalkRoads$Tape") C hW kr_cl2 kr_w_f_Reader_9 (by decide) rfl rfl (by decide +kernel) rfl rfl (Nat.le_of_ble_eq_true rfl) dX2_init_6 (fun H locs hW => ?_)
  have hW : kr_Wd D A s ((h0, .inr (2, [.ref a1, .null, .int 0, .int 0, .int 0, .int 0, .int 0, .int 0, .int 0, .int 0])) :: ([])) H _ := hW
  refine lv_aload_n C.1.1 C.1.2.1 dX2_init_9 rfl (lv_at hl 0 rfl) ?_
  refine kr_i_new C hW kr_cl3 (fs := n_f3) tyX3 tyX3_ok n_df3 kr_w_k_X2_15 kr_w_t_X3 kr_w_z_X3 (Nat.le_of_ble_eq_true rfl) (Nat.le_of_ble_eq_true rfl) dX2_init_10 (fun q0 H hW => ?_)
  have hW : kr_Wd D A s (((h0, .inr (2, [.ref a1, .null, .int 0, .int 0, .int 0, .int 0, .int 0, .int 0, .int 0, .int 0])) :: ([])) ++ [(q0, .inr (3, n_f3))]) H _ := hW
  refine lv_dup C.1.1 C.1.2.1 dX2_init_13 rfl ?_
  refine kr_i_init (n := 0) (wr := ((h0, .inr (2, [.ref a1, .null, .int 0, .int 0, .int 0, .int 0, .int 0, .int 0, .int 0, .int 0])) :: ([]))) (As := []) (rest := [.ref q0, .ref h0]) C hW (n_X3 l D cs q0) kr_w_nc_X3 kr_w_z_X3 kr_w_n_X2_17 kr_w_ni_X3 rfl (by decide +kernel) ⟨Nat.le_of_ble_eq_true rfl, Nat.le_of_ble_eq_true rfl⟩ rfl hl.1 rfl (Nat.le_of_ble_eq_true rfl) ⟨Nat.le_of_ble_eq_true rfl, Nat.le_of_ble_eq_true rfl⟩ dX2_init_14 (fun u1 H locs hW => ?_)
  have hW : kr_Wd D A s ((h0, .inr (2, [.ref a1, .null, .int 0, .int 0, .int 0, .int 0, .int 0, .int 0, .int 0, .int 0])) :: (w_X3 cs q0 u1)) H _ := hW
  refine kr_i_putF (k := 1) (v := .ref q0) (ty := .object "ChalkRoads$Rock") C hW kr_cl2 kr_w_f_Reader_18 (by decide) rfl rfl (by decide +kernel) rfl rfl (Nat.le_of_ble_eq_true rfl) dX2_init_17 (fun H locs hW => ?_)
  have hW : kr_Wd D A s ((h0, .inr (2, [.ref a1, .ref q0, .int 0, .int 0, .int 0, .int 0, .int 0, .int 0, .int 0, .int 0])) :: (w_X3 cs q0 u1)) H _ := hW
  refine W.widen (k := 10) (n := 94) (Nat.le_of_ble_eq_true rfl) (Nat.le_of_ble_eq_true rfl) ?_
  exact W.vret B.exec B.bytes hr (fun t ht hw => ⟨⟨(kr_nth 0 [q0, (u1 0), (u1 1), (u1 2), (u1 3), (u1 4), (u1 5), (u1 6), (u1 7), (u1 8)]), rfl, trivial, by rw [ht]; exact hW.1, hW.2.1⟩, hW.2.2.F ht⟩) hW.2.2.2.2 dX2_init_20
set_option maxHeartbeats 4000000 in
set_option maxRecDepth 100000 in
theorem n_X8 (l : Launch) (D : va_G) (cs : ClassId × ClassId × ClassId) (h0 : Nat) (a1 : Nat) : kr_Mi l D cs yX8_init cX8_init 2 { frames := 1, cells := 2, slots := 90, locals := 12 } h0 (8, n_f8) [.ref a1] (w_X8 cs h0 a1) := by
  intro sz
  refine Met.ofW (cc := cX8_init) (maxL := 2) (ret := none) (by decide +kernel) rfl ?_
  intro p e s m args below meth c s₁ B hml hv
  obtain ⟨rfl, hsz, hP, hK, hD0⟩ := hv
  have hts := atoms_spec (ws := kr_mi yX8_init cX8_init 2) B.pre
  have hown : s.vm.findClass RX8 = some m.cls := findClass_of_methodNamed B.named
  have hlocks := B.notSynchronized
  have hin : meth.name = "<init>" := (name_of_methodNamed B.named B.method).1
  have hr := B.returns
  subst hsz
  have hD := hD0.self (sz := s.heap.size)
  generalize hAe : va_A [(h0, .inr (8, n_f8))] s.heap.size = A at hD ⊢
  have hA : ∀ q : Nat, s.heap.size ≤ q → A q := fun q h => by rw [← hAe]; exact Or.inr h
  have C : kr_Cn RX8 cX8_init 2 p s m ([.ref h0, .ref a1] : List Value).toArray meth c D cs A := ⟨⟨B.exec, B.bytes, hml, hown, fun w hw => hts w (List.mem_cons_of_mem _ hw)⟩, hK, hA, hin⟩
  have hW : kr_Wd D A s [(h0, .inr (8, n_f8))] s.heap [] := ⟨hP, hD, va_S.rf⟩
  have hl := lv_entry ([.ref h0, .ref a1]) (n := 2) (Nat.le_of_ble_eq_true rfl)
  rw [lg_entry_eq]
  generalize (lg_sl ([.ref h0, .ref a1]) ++ List.replicate (2 - (lg_sl ([.ref h0, .ref a1])).length) Slot.unset).toArray = ls at hl ⊢
  have hl : lv_has ls 2 [(0, .ref h0), (1, .ref a1)] := hl
  refine lv_aload_n C.1.1 C.1.2.1 dX8_init_0 rfl (lv_at hl 0 rfl) ?_
  refine kr_i_obj C kr_w_o_X8_3 kr_w_oi kr_w_oc hl.1 dX8_init_1 ⟨Nat.le_of_ble_eq_true rfl, Nat.le_of_ble_eq_true rfl⟩ ?_
  refine lv_aload_n C.1.1 C.1.2.1 dX8_init_4 rfl (lv_at hl 0 rfl) ?_
  refine lv_aload_n C.1.1 C.1.2.1 dX8_init_5 rfl (lv_at hl 1 rfl) ?_
  refine kr_i_putF (k := 0) (v := .ref a1) (ty := .object "ChalkRoads$Rock") C hW kr_cl8 kr_w_f_Ways_9 (by decide) rfl rfl (by decide +kernel) rfl rfl (Nat.le_of_ble_eq_true rfl) dX8_init_6 (fun H locs hW => ?_)
  have hW : kr_Wd D A s ((h0, .inr (8, [.ref a1, .null, .null])) :: ([])) H _ := hW
  refine lv_aload_n C.1.1 C.1.2.1 dX8_init_9 rfl (lv_at hl 0 rfl) ?_
  refine lv_bipush (v := 81) C.1.1 C.1.2.1 dX8_init_10 (by decide) ?_
  refine kr_i_newa (N := 81) C hW kr_w_y_int (by decide) (by decide) (by decide) (Nat.le_of_ble_eq_true rfl) (Nat.le_of_ble_eq_true rfl) dX8_init_12 (fun q0 H hW => ?_)
  have hW : kr_Wd D A s ((h0, .inr (8, [.ref a1, .null, .null])) :: ([(q0, .inl (cs.1, 81, .inl (fun _ => 0)))])) H _ := hW
  refine kr_i_putF (k := 1) (v := .ref q0) (ty := .array .int) C hW kr_cl8 kr_w_f_Ways_15 (by decide) rfl rfl (by decide +kernel) rfl rfl (Nat.le_of_ble_eq_true rfl) dX8_init_14 (fun H locs hW => ?_)
  have hW : kr_Wd D A s ((h0, .inr (8, [.ref a1, .ref q0, .null])) :: ([(q0, .inl (cs.1, 81, .inl (fun _ => 0)))])) H _ := hW
  refine lv_aload_n C.1.1 C.1.2.1 dX8_init_17 rfl (lv_at hl 0 rfl) ?_
  refine lv_bipush (v := 9) C.1.1 C.1.2.1 dX8_init_18 (by decide) ?_
  refine kr_i_newa (N := 9) C hW kr_w_y_int (by decide) (by decide) (by decide) (Nat.le_of_ble_eq_true rfl) (Nat.le_of_ble_eq_true rfl) dX8_init_20 (fun q1 H hW => ?_)
  have hW : kr_Wd D A s ((h0, .inr (8, [.ref a1, .ref q0, .null])) :: ([(q0, .inl (cs.1, 81, .inl (fun _ => 0))), (q1, .inl (cs.1, 9, .inl (fun _ => 0)))])) H _ := hW
  refine kr_i_putF (k := 2) (v := .ref q1) (ty := .array .int) C hW kr_cl8 kr_w_f_Ways_19 (by decide) rfl rfl (by decide +kernel) rfl rfl (Nat.le_of_ble_eq_true rfl) dX8_init_22 (fun H locs hW => ?_)
  have hW : kr_Wd D A s ((h0, .inr (8, [.ref a1, .ref q0, .ref q1])) :: ([(q0, .inl (cs.1, 81, .inl (fun _ => 0))), (q1, .inl (cs.1, 9, .inl (fun _ => 0)))])) H _ := hW
  refine W.widen (k := 2) (n := 90) (Nat.le_of_ble_eq_true rfl) (Nat.le_of_ble_eq_true rfl) ?_
  exact W.vret B.exec B.bytes hr (fun t ht hw => ⟨⟨(kr_nth 0 [q0, q1]), rfl, trivial, by rw [ht]; exact hW.1, hW.2.1⟩, hW.2.2.F ht⟩) hW.2.2.2.2 dX8_init_25
set_option maxHeartbeats 4000000 in
set_option maxRecDepth 100000 in
theorem n_X7 (l : Launch) (D : va_G) (cs : ClassId × ClassId × ClassId) (h0 : Nat) (a1 : Nat) (a2 : Nat) : kr_Mi l D cs yX7_init cX7_init 3 { frames := 1, cells := 6, slots := 37, locals := 12 } h0 (7, n_f7) [.ref a1, .ref a2] (w_X7 cs h0 a1 a2) := by
  intro sz
  refine Met.ofW (cc := cX7_init) (maxL := 3) (ret := none) (by decide +kernel) rfl ?_
  intro p e s m args below meth c s₁ B hml hv
  obtain ⟨rfl, hsz, hP, hK, hD0⟩ := hv
  have hts := atoms_spec (ws := kr_mi yX7_init cX7_init 3) B.pre
  have hown : s.vm.findClass RX7 = some m.cls := findClass_of_methodNamed B.named
  have hlocks := B.notSynchronized
  have hin : meth.name = "<init>" := (name_of_methodNamed B.named B.method).1
  have hr := B.returns
  subst hsz
  have hD := hD0.self (sz := s.heap.size)
  generalize hAe : va_A [(h0, .inr (7, n_f7))] s.heap.size = A at hD ⊢
  have hA : ∀ q : Nat, s.heap.size ≤ q → A q := fun q h => by rw [← hAe]; exact Or.inr h
  have C : kr_Cn RX7 cX7_init 3 p s m ([.ref h0, .ref a1, .ref a2] : List Value).toArray meth c D cs A := ⟨⟨B.exec, B.bytes, hml, hown, fun w hw => hts w (List.mem_cons_of_mem _ hw)⟩, hK, hA, hin⟩
  have hW : kr_Wd D A s [(h0, .inr (7, n_f7))] s.heap [] := ⟨hP, hD, va_S.rf⟩
  have hl := lv_entry ([.ref h0, .ref a1, .ref a2]) (n := 3) (Nat.le_of_ble_eq_true rfl)
  rw [lg_entry_eq]
  generalize (lg_sl ([.ref h0, .ref a1, .ref a2]) ++ List.replicate (3 - (lg_sl ([.ref h0, .ref a1, .ref a2])).length) Slot.unset).toArray = ls at hl ⊢
  have hl : lv_has ls 3 [(0, .ref h0), (1, .ref a1), (2, .ref a2)] := hl
  refine lv_aload_n C.1.1 C.1.2.1 dX7_init_0 rfl (lv_at hl 0 rfl) ?_
  refine kr_i_obj C kr_w_o_X7_3 kr_w_oi kr_w_oc hl.1 dX7_init_1 ⟨Nat.le_of_ble_eq_true rfl, Nat.le_of_ble_eq_true rfl⟩ ?_
  refine lv_aload_n C.1.1 C.1.2.1 dX7_init_4 rfl (lv_at hl 0 rfl) ?_
  refine lv_aload_n C.1.1 C.1.2.1 dX7_init_5 rfl (lv_at hl 1 rfl) ?_
  refine kr_i_putF (k := 0) (v := .ref a1) (ty := .object "ChalkRoads$Rock") C hW kr_cl7 kr_w_f_Walk_9 (by decide) rfl rfl (by decide +kernel) rfl rfl (Nat.le_of_ble_eq_true rfl) dX7_init_6 (fun H locs hW => ?_)
  have hW : kr_Wd D A s ((h0, .inr (7, [.ref a1, .null, .null, .null, .null, .null, .null, .null])) :: ([])) H _ := hW
  refine lv_aload_n C.1.1 C.1.2.1 dX7_init_9 rfl (lv_at hl 0 rfl) ?_
  refine lv_aload_n C.1.1 C.1.2.1 dX7_init_10 rfl (lv_at hl 2 rfl) ?_
  refine kr_i_putF (k := 1) (v := .ref a2) (ty := .object "ChalkRoads$Ways") C hW kr_cl7 kr_w_f_Walk_15 (by decide) rfl rfl (by decide +kernel) rfl rfl (Nat.le_of_ble_eq_true rfl) dX7_init_11 (fun H locs hW => ?_)
  have hW : kr_Wd D A s ((h0, .inr (7, [.ref a1, .ref a2, .null, .null, .null, .null, .null, .null])) :: ([])) H _ := hW
  refine lv_aload_n C.1.1 C.1.2.1 dX7_init_14 rfl (lv_at hl 0 rfl) ?_
  refine lv_bipush (v := 12) C.1.1 C.1.2.1 dX7_init_15 (by decide) ?_
  refine kr_i_newa (N := 12) C hW kr_w_y_int (by decide) (by decide) (by decide) (Nat.le_of_ble_eq_true rfl) (Nat.le_of_ble_eq_true rfl) dX7_init_17 (fun q0 H hW => ?_)
  have hW : kr_Wd D A s ((h0, .inr (7, [.ref a1, .ref a2, .null, .null, .null, .null, .null, .null])) :: ([(q0, .inl (cs.1, 12, .inl (fun _ => 0)))])) H _ := hW
  refine kr_i_putF (k := 2) (v := .ref q0) (ty := .array .int) C hW kr_cl7 kr_w_f_Walk_19 (by decide) rfl rfl (by decide +kernel) rfl rfl (Nat.le_of_ble_eq_true rfl) dX7_init_19 (fun H locs hW => ?_)
  have hW : kr_Wd D A s ((h0, .inr (7, [.ref a1, .ref a2, .ref q0, .null, .null, .null, .null, .null])) :: ([(q0, .inl (cs.1, 12, .inl (fun _ => 0)))])) H _ := hW
  refine lv_aload_n C.1.1 C.1.2.1 dX7_init_22 rfl (lv_at hl 0 rfl) ?_
  refine lv_iconst (v := 5) C.1.1 C.1.2.1 dX7_init_23 (by decide) ?_
  refine kr_i_newa (N := 5) C hW kr_w_y_int (by decide) (by decide) (by decide) (Nat.le_of_ble_eq_true rfl) (Nat.le_of_ble_eq_true rfl) dX7_init_24 (fun q1 H hW => ?_)
  have hW : kr_Wd D A s ((h0, .inr (7, [.ref a1, .ref a2, .ref q0, .null, .null, .null, .null, .null])) :: ([(q0, .inl (cs.1, 12, .inl (fun _ => 0))), (q1, .inl (cs.1, 5, .inl (fun _ => 0)))])) H _ := hW
  refine kr_i_putF (k := 3) (v := .ref q1) (ty := .array .int) C hW kr_cl7 kr_w_f_Walk_23 (by decide) rfl rfl (by decide +kernel) rfl rfl (Nat.le_of_ble_eq_true rfl) dX7_init_26 (fun H locs hW => ?_)
  have hW : kr_Wd D A s ((h0, .inr (7, [.ref a1, .ref a2, .ref q0, .ref q1, .null, .null, .null, .null])) :: ([(q0, .inl (cs.1, 12, .inl (fun _ => 0))), (q1, .inl (cs.1, 5, .inl (fun _ => 0)))])) H _ := hW
  refine lv_aload_n C.1.1 C.1.2.1 dX7_init_29 rfl (lv_at hl 0 rfl) ?_
  refine lv_iconst (v := 5) C.1.1 C.1.2.1 dX7_init_30 (by decide) ?_
  refine kr_i_newa (N := 5) C hW kr_w_y_int (by decide) (by decide) (by decide) (Nat.le_of_ble_eq_true rfl) (Nat.le_of_ble_eq_true rfl) dX7_init_31 (fun q2 H hW => ?_)
  have hW : kr_Wd D A s ((h0, .inr (7, [.ref a1, .ref a2, .ref q0, .ref q1, .null, .null, .null, .null])) :: ([(q0, .inl (cs.1, 12, .inl (fun _ => 0))), (q1, .inl (cs.1, 5, .inl (fun _ => 0))), (q2, .inl (cs.1, 5, .inl (fun _ => 0)))])) H _ := hW
  refine kr_i_putF (k := 4) (v := .ref q2) (ty := .array .int) C hW kr_cl7 kr_w_f_Walk_26 (by decide) rfl rfl (by decide +kernel) rfl rfl (Nat.le_of_ble_eq_true rfl) dX7_init_33 (fun H locs hW => ?_)
  have hW : kr_Wd D A s ((h0, .inr (7, [.ref a1, .ref a2, .ref q0, .ref q1, .ref q2, .null, .null, .null])) :: ([(q0, .inl (cs.1, 12, .inl (fun _ => 0))), (q1, .inl (cs.1, 5, .inl (fun _ => 0))), (q2, .inl (cs.1, 5, .inl (fun _ => 0)))])) H _ := hW
  refine lv_aload_n C.1.1 C.1.2.1 dX7_init_36 rfl (lv_at hl 0 rfl) ?_
  refine lv_iconst (v := 5) C.1.1 C.1.2.1 dX7_init_37 (by decide) ?_
  refine kr_i_newa (N := 5) C hW kr_w_y_int (by decide) (by decide) (by decide) (Nat.le_of_ble_eq_true rfl) (Nat.le_of_ble_eq_true rfl) dX7_init_38 (fun q3 H hW => ?_)
  have hW : kr_Wd D A s ((h0, .inr (7, [.ref a1, .ref a2, .ref q0, .ref q1, .ref q2, .null, .null, .null])) :: ([(q0, .inl (cs.1, 12, .inl (fun _ => 0))), (q1, .inl (cs.1, 5, .inl (fun _ => 0))), (q2, .inl (cs.1, 5, .inl (fun _ => 0))), (q3, .inl (cs.1, 5, .inl (fun _ => 0)))])) H _ := hW
  refine kr_i_putF (k := 5) (v := .ref q3) (ty := .array .int) C hW kr_cl7 kr_w_f_Walk_29 (by decide) rfl rfl (by decide +kernel) rfl rfl (Nat.le_of_ble_eq_true rfl) dX7_init_40 (fun H locs hW => ?_)
  have hW : kr_Wd D A s ((h0, .inr (7, [.ref a1, .ref a2, .ref q0, .ref q1, .ref q2, .ref q3, .null, .null])) :: ([(q0, .inl (cs.1, 12, .inl (fun _ => 0))), (q1, .inl (cs.1, 5, .inl (fun _ => 0))), (q2, .inl (cs.1, 5, .inl (fun _ => 0))), (q3, .inl (cs.1, 5, .inl (fun _ => 0)))])) H _ := hW
  refine lv_aload_n C.1.1 C.1.2.1 dX7_init_43 rfl (lv_at hl 0 rfl) ?_
  refine lv_iconst (v := 5) C.1.1 C.1.2.1 dX7_init_44 (by decide) ?_
  refine kr_i_newa (N := 5) C hW kr_w_y_int (by decide) (by decide) (by decide) (Nat.le_of_ble_eq_true rfl) (Nat.le_of_ble_eq_true rfl) dX7_init_45 (fun q4 H hW => ?_)
  have hW : kr_Wd D A s ((h0, .inr (7, [.ref a1, .ref a2, .ref q0, .ref q1, .ref q2, .ref q3, .null, .null])) :: ([(q0, .inl (cs.1, 12, .inl (fun _ => 0))), (q1, .inl (cs.1, 5, .inl (fun _ => 0))), (q2, .inl (cs.1, 5, .inl (fun _ => 0))), (q3, .inl (cs.1, 5, .inl (fun _ => 0))), (q4, .inl (cs.1, 5, .inl (fun _ => 0)))])) H _ := hW
  refine kr_i_putF (k := 6) (v := .ref q4) (ty := .array .int) C hW kr_cl7 kr_w_f_Walk_32 (by decide) rfl rfl (by decide +kernel) rfl rfl (Nat.le_of_ble_eq_true rfl) dX7_init_47 (fun H locs hW => ?_)
  have hW : kr_Wd D A s ((h0, .inr (7, [.ref a1, .ref a2, .ref q0, .ref q1, .ref q2, .ref q3, .ref q4, .null])) :: ([(q0, .inl (cs.1, 12, .inl (fun _ => 0))), (q1, .inl (cs.1, 5, .inl (fun _ => 0))), (q2, .inl (cs.1, 5, .inl (fun _ => 0))), (q3, .inl (cs.1, 5, .inl (fun _ => 0))), (q4, .inl (cs.1, 5, .inl (fun _ => 0)))])) H _ := hW
  refine lv_aload_n C.1.1 C.1.2.1 dX7_init_50 rfl (lv_at hl 0 rfl) ?_
  refine lv_iconst (v := 5) C.1.1 C.1.2.1 dX7_init_51 (by decide) ?_
  refine kr_i_newa (N := 5) C hW kr_w_y_int (by decide) (by decide) (by decide) (Nat.le_of_ble_eq_true rfl) (Nat.le_of_ble_eq_true rfl) dX7_init_52 (fun q5 H hW => ?_)
  have hW : kr_Wd D A s ((h0, .inr (7, [.ref a1, .ref a2, .ref q0, .ref q1, .ref q2, .ref q3, .ref q4, .null])) :: ([(q0, .inl (cs.1, 12, .inl (fun _ => 0))), (q1, .inl (cs.1, 5, .inl (fun _ => 0))), (q2, .inl (cs.1, 5, .inl (fun _ => 0))), (q3, .inl (cs.1, 5, .inl (fun _ => 0))), (q4, .inl (cs.1, 5, .inl (fun _ => 0))), (q5, .inl (cs.1, 5, .inl (fun _ => 0)))])) H _ := hW
  refine kr_i_putF (k := 7) (v := .ref q5) (ty := .array .int) C hW kr_cl7 kr_w_f_Walk_35 (by decide) rfl rfl (by decide +kernel) rfl rfl (Nat.le_of_ble_eq_true rfl) dX7_init_54 (fun H locs hW => ?_)
  have hW : kr_Wd D A s ((h0, .inr (7, [.ref a1, .ref a2, .ref q0, .ref q1, .ref q2, .ref q3, .ref q4, .ref q5])) :: ([(q0, .inl (cs.1, 12, .inl (fun _ => 0))), (q1, .inl (cs.1, 5, .inl (fun _ => 0))), (q2, .inl (cs.1, 5, .inl (fun _ => 0))), (q3, .inl (cs.1, 5, .inl (fun _ => 0))), (q4, .inl (cs.1, 5, .inl (fun _ => 0))), (q5, .inl (cs.1, 5, .inl (fun _ => 0)))])) H _ := hW
  refine W.widen (k := 6) (n := 37) (Nat.le_of_ble_eq_true rfl) (Nat.le_of_ble_eq_true rfl) ?_
  exact W.vret B.exec B.bytes hr (fun t ht hw => ⟨⟨(kr_nth 0 [q0, q1, q2, q3, q4, q5]), rfl, trivial, by rw [ht]; exact hW.1, hW.2.1⟩, hW.2.2.F ht⟩) hW.2.2.2.2 dX7_init_57
set_option maxHeartbeats 4000000 in
set_option maxRecDepth 100000 in
theorem n_X0 (l : Launch) (D : va_G) (cs : ClassId × ClassId × ClassId) (h0 : Nat) (a1 : Nat) (a2 : Nat) : kr_Mi l D cs yX0_init cX0_init 3 { frames := 1, cells := 0, slots := 0, locals := 12 } h0 (0, n_f0) [.ref a1, .ref a2] (w_X0 cs h0 a1 a2) := by
  intro sz
  refine Met.ofW (cc := cX0_init) (maxL := 3) (ret := none) (by decide +kernel) rfl ?_
  intro p e s m args below meth c s₁ B hml hv
  obtain ⟨rfl, hsz, hP, hK, hD0⟩ := hv
  have hts := atoms_spec (ws := kr_mi yX0_init cX0_init 3) B.pre
  have hown : s.vm.findClass RX0 = some m.cls := findClass_of_methodNamed B.named
  have hlocks := B.notSynchronized
  have hin : meth.name = "<init>" := (name_of_methodNamed B.named B.method).1
  have hr := B.returns
  subst hsz
  have hD := hD0.self (sz := s.heap.size)
  generalize hAe : va_A [(h0, .inr (0, n_f0))] s.heap.size = A at hD ⊢
  have hA : ∀ q : Nat, s.heap.size ≤ q → A q := fun q h => by rw [← hAe]; exact Or.inr h
  have C : kr_Cn RX0 cX0_init 3 p s m ([.ref h0, .ref a1, .ref a2] : List Value).toArray meth c D cs A := ⟨⟨B.exec, B.bytes, hml, hown, fun w hw => hts w (List.mem_cons_of_mem _ hw)⟩, hK, hA, hin⟩
  have hW : kr_Wd D A s [(h0, .inr (0, n_f0))] s.heap [] := ⟨hP, hD, va_S.rf⟩
  have hl := lv_entry ([.ref h0, .ref a1, .ref a2]) (n := 3) (Nat.le_of_ble_eq_true rfl)
  rw [lg_entry_eq]
  generalize (lg_sl ([.ref h0, .ref a1, .ref a2]) ++ List.replicate (3 - (lg_sl ([.ref h0, .ref a1, .ref a2])).length) Slot.unset).toArray = ls at hl ⊢
  have hl : lv_has ls 3 [(0, .ref h0), (1, .ref a1), (2, .ref a2)] := hl
  refine lv_aload_n C.1.1 C.1.2.1 dX0_init_0 rfl (lv_at hl 0 rfl) ?_
  refine kr_i_obj C kr_w_o_X0_3 kr_w_oi kr_w_oc hl.1 dX0_init_1 ⟨Nat.le_of_ble_eq_true rfl, Nat.le_of_ble_eq_true rfl⟩ ?_
  refine lv_aload_n C.1.1 C.1.2.1 dX0_init_4 rfl (lv_at hl 0 rfl) ?_
  refine lv_aload_n C.1.1 C.1.2.1 dX0_init_5 rfl (lv_at hl 1 rfl) ?_
  refine kr_i_putF (k := 0) (v := .ref a1) (ty := .object "ChalkRoads$Rock") C hW kr_cl0 kr_w_f_Dawn_9 (by decide) rfl rfl (by decide +kernel) rfl rfl (Nat.le_of_ble_eq_true rfl) dX0_init_6 (fun H locs hW => ?_)
  have hW : kr_Wd D A s ((h0, .inr (0, [.ref a1, .null, .int 0, .int 0])) :: ([])) H _ := hW
  refine lv_aload_n C.1.1 C.1.2.1 dX0_init_9 rfl (lv_at hl 0 rfl) ?_
  refine lv_aload_n C.1.1 C.1.2.1 dX0_init_10 rfl (lv_at hl 2 rfl) ?_
  refine kr_i_putF (k := 1) (v := .ref a2) (ty := .object "ChalkRoads$Ways") C hW kr_cl0 kr_w_f_Dawn_15 (by decide) rfl rfl (by decide +kernel) rfl rfl (Nat.le_of_ble_eq_true rfl) dX0_init_11 (fun H locs hW => ?_)
  have hW : kr_Wd D A s ((h0, .inr (0, [.ref a1, .ref a2, .int 0, .int 0])) :: ([])) H _ := hW
  refine W.widen (k := 0) (n := 0) (Nat.le_of_ble_eq_true rfl) (Nat.le_of_ble_eq_true rfl) ?_
  exact W.vret B.exec B.bytes hr (fun t ht hw => ⟨⟨(fun _ => 0), rfl, trivial, by rw [ht]; exact hW.1, hW.2.1⟩, hW.2.2.F ht⟩) hW.2.2.2.2 dX0_init_14
set_option maxHeartbeats 4000000 in
set_option maxRecDepth 100000 in
theorem n_X4 (l : Launch) (D : va_G) (cs : ClassId × ClassId × ClassId) (h0 : Nat) (a1 : Nat) : kr_Mi l D cs yX4_init cX4_init 2 { frames := 1, cells := 2, slots := 17, locals := 12 } h0 (4, n_f4) [.ref a1] (w_X4 cs h0 a1) := by
  intro sz
  refine Met.ofW (cc := cX4_init) (maxL := 2) (ret := none) (by decide +kernel) rfl ?_
  intro p e s m args below meth c s₁ B hml hv
  obtain ⟨rfl, hsz, hP, hK, hD0⟩ := hv
  have hts := atoms_spec (ws := kr_mi yX4_init cX4_init 2) B.pre
  have hown : s.vm.findClass RX4 = some m.cls := findClass_of_methodNamed B.named
  have hlocks := B.notSynchronized
  have hin : meth.name = "<init>" := (name_of_methodNamed B.named B.method).1
  have hr := B.returns
  subst hsz
  have hD := hD0.self (sz := s.heap.size)
  generalize hAe : va_A [(h0, .inr (4, n_f4))] s.heap.size = A at hD ⊢
  have hA : ∀ q : Nat, s.heap.size ≤ q → A q := fun q h => by rw [← hAe]; exact Or.inr h
  have C : kr_Cn RX4 cX4_init 2 p s m ([.ref h0, .ref a1] : List Value).toArray meth c D cs A := ⟨⟨B.exec, B.bytes, hml, hown, fun w hw => hts w (List.mem_cons_of_mem _ hw)⟩, hK, hA, hin⟩
  have hW : kr_Wd D A s [(h0, .inr (4, n_f4))] s.heap [] := ⟨hP, hD, va_S.rf⟩
  have hl := lv_entry ([.ref h0, .ref a1]) (n := 2) (Nat.le_of_ble_eq_true rfl)
  rw [lg_entry_eq]
  generalize (lg_sl ([.ref h0, .ref a1]) ++ List.replicate (2 - (lg_sl ([.ref h0, .ref a1])).length) Slot.unset).toArray = ls at hl ⊢
  have hl : lv_has ls 2 [(0, .ref h0), (1, .ref a1)] := hl
  refine lv_aload_n C.1.1 C.1.2.1 dX4_init_0 rfl (lv_at hl 0 rfl) ?_
  refine kr_i_obj C kr_w_o_X4_3 kr_w_oi kr_w_oc hl.1 dX4_init_1 ⟨Nat.le_of_ble_eq_true rfl, Nat.le_of_ble_eq_true rfl⟩ ?_
  refine lv_aload_n C.1.1 C.1.2.1 dX4_init_4 rfl (lv_at hl 0 rfl) ?_
  refine lv_aload_n C.1.1 C.1.2.1 dX4_init_5 rfl (lv_at hl 1 rfl) ?_
  refine kr_i_putF (k := 0) (v := .ref a1) (ty := .object "ChalkRoads$Rock") C hW kr_cl4 kr_w_f_Sharing_9 (by decide) rfl rfl (by decide +kernel) rfl rfl (Nat.le_of_ble_eq_true rfl) dX4_init_6 (fun H locs hW => ?_)
  have hW : kr_Wd D A s ((h0, .inr (4, [.ref a1, .null, .null])) :: ([])) H _ := hW
  refine lv_aload_n C.1.1 C.1.2.1 dX4_init_9 rfl (lv_at hl 0 rfl) ?_
  refine lv_iconst (v := 5) C.1.1 C.1.2.1 dX4_init_10 (by decide) ?_
  refine kr_i_newa (N := 5) C hW kr_w_y_int (by decide) (by decide) (by decide) (Nat.le_of_ble_eq_true rfl) (Nat.le_of_ble_eq_true rfl) dX4_init_11 (fun q0 H hW => ?_)
  have hW : kr_Wd D A s ((h0, .inr (4, [.ref a1, .null, .null])) :: ([(q0, .inl (cs.1, 5, .inl (fun _ => 0)))])) H _ := hW
  refine kr_i_putF (k := 1) (v := .ref q0) (ty := .array .int) C hW kr_cl4 kr_w_f_Sharing_15 (by decide) rfl rfl (by decide +kernel) rfl rfl (Nat.le_of_ble_eq_true rfl) dX4_init_13 (fun H locs hW => ?_)
  have hW : kr_Wd D A s ((h0, .inr (4, [.ref a1, .ref q0, .null])) :: ([(q0, .inl (cs.1, 5, .inl (fun _ => 0)))])) H _ := hW
  refine lv_aload_n C.1.1 C.1.2.1 dX4_init_16 rfl (lv_at hl 0 rfl) ?_
  refine lv_bipush (v := 12) C.1.1 C.1.2.1 dX4_init_17 (by decide) ?_
  refine kr_i_newa (N := 12) C hW kr_w_y_int (by decide) (by decide) (by decide) (Nat.le_of_ble_eq_true rfl) (Nat.le_of_ble_eq_true rfl) dX4_init_19 (fun q1 H hW => ?_)
  have hW : kr_Wd D A s ((h0, .inr (4, [.ref a1, .ref q0, .null])) :: ([(q0, .inl (cs.1, 5, .inl (fun _ => 0))), (q1, .inl (cs.1, 12, .inl (fun _ => 0)))])) H _ := hW
  refine kr_i_putF (k := 2) (v := .ref q1) (ty := .array .int) C hW kr_cl4 kr_w_f_Sharing_19 (by decide) rfl rfl (by decide +kernel) rfl rfl (Nat.le_of_ble_eq_true rfl) dX4_init_21 (fun H locs hW => ?_)
  have hW : kr_Wd D A s ((h0, .inr (4, [.ref a1, .ref q0, .ref q1])) :: ([(q0, .inl (cs.1, 5, .inl (fun _ => 0))), (q1, .inl (cs.1, 12, .inl (fun _ => 0)))])) H _ := hW
  refine W.widen (k := 2) (n := 17) (Nat.le_of_ble_eq_true rfl) (Nat.le_of_ble_eq_true rfl) ?_
  exact W.vret B.exec B.bytes hr (fun t ht hw => ⟨⟨(kr_nth 0 [q0, q1]), rfl, trivial, by rw [ht]; exact hW.1, hW.2.1⟩, hW.2.2.F ht⟩) hW.2.2.2.2 dX4_init_24
set_option maxHeartbeats 4000000 in
set_option maxRecDepth 100000 in
theorem n_X1 (l : Launch) (D : va_G) (cs : ClassId × ClassId × ClassId) (h0 : Nat) (a1 : Nat) : kr_Mi l D cs yX1_init cX1_init 2 { frames := 1, cells := 1, slots := 12, locals := 12 } h0 (1, n_f1) [.ref a1] (w_X1 cs h0 a1) := by
  intro sz
  refine Met.ofW (cc := cX1_init) (maxL := 2) (ret := none) (by decide +kernel) rfl ?_
  intro p e s m args below meth c s₁ B hml hv
  obtain ⟨rfl, hsz, hP, hK, hD0⟩ := hv
  have hts := atoms_spec (ws := kr_mi yX1_init cX1_init 2) B.pre
  have hown : s.vm.findClass RX1 = some m.cls := findClass_of_methodNamed B.named
  have hlocks := B.notSynchronized
  have hin : meth.name = "<init>" := (name_of_methodNamed B.named B.method).1
  have hr := B.returns
  subst hsz
  have hD := hD0.self (sz := s.heap.size)
  generalize hAe : va_A [(h0, .inr (1, n_f1))] s.heap.size = A at hD ⊢
  have hA : ∀ q : Nat, s.heap.size ≤ q → A q := fun q h => by rw [← hAe]; exact Or.inr h
  have C : kr_Cn RX1 cX1_init 2 p s m ([.ref h0, .ref a1] : List Value).toArray meth c D cs A := ⟨⟨B.exec, B.bytes, hml, hown, fun w hw => hts w (List.mem_cons_of_mem _ hw)⟩, hK, hA, hin⟩
  have hW : kr_Wd D A s [(h0, .inr (1, n_f1))] s.heap [] := ⟨hP, hD, va_S.rf⟩
  have hl := lv_entry ([.ref h0, .ref a1]) (n := 2) (Nat.le_of_ble_eq_true rfl)
  rw [lg_entry_eq]
  generalize (lg_sl ([.ref h0, .ref a1]) ++ List.replicate (2 - (lg_sl ([.ref h0, .ref a1])).length) Slot.unset).toArray = ls at hl ⊢
  have hl : lv_has ls 2 [(0, .ref h0), (1, .ref a1)] := hl
  refine lv_aload_n C.1.1 C.1.2.1 dX1_init_0 rfl (lv_at hl 0 rfl) ?_
  refine kr_i_obj C kr_w_o_X1_3 kr_w_oi kr_w_oc hl.1 dX1_init_1 ⟨Nat.le_of_ble_eq_true rfl, Nat.le_of_ble_eq_true rfl⟩ ?_
  refine lv_aload_n C.1.1 C.1.2.1 dX1_init_4 rfl (lv_at hl 0 rfl) ?_
  refine lv_aload_n C.1.1 C.1.2.1 dX1_init_5 rfl (lv_at hl 1 rfl) ?_
  refine kr_i_putF (k := 0) (v := .ref a1) (ty := .object "ChalkRoads$Rock") C hW kr_cl1 kr_w_f_Guess_9 (by decide) rfl rfl (by decide +kernel) rfl rfl (Nat.le_of_ble_eq_true rfl) dX1_init_6 (fun H locs hW => ?_)
  have hW : kr_Wd D A s ((h0, .inr (1, [.ref a1, .int 0, .int 0, .int 0, .int 0, .int 0, .int 0, .null])) :: ([])) H _ := hW
  refine lv_aload_n C.1.1 C.1.2.1 dX1_init_9 rfl (lv_at hl 0 rfl) ?_
  refine lv_bipush (v := 12) C.1.1 C.1.2.1 dX1_init_10 (by decide) ?_
  refine kr_i_newa (N := 12) C hW kr_w_y_int (by decide) (by decide) (by decide) (Nat.le_of_ble_eq_true rfl) (Nat.le_of_ble_eq_true rfl) dX1_init_12 (fun q0 H hW => ?_)
  have hW : kr_Wd D A s ((h0, .inr (1, [.ref a1, .int 0, .int 0, .int 0, .int 0, .int 0, .int 0, .null])) :: ([(q0, .inl (cs.1, 12, .inl (fun _ => 0)))])) H _ := hW
  refine kr_i_putF (k := 7) (v := .ref q0) (ty := .array .int) C hW kr_cl1 kr_w_f_Guess_15 (by decide) rfl rfl (by decide +kernel) rfl rfl (Nat.le_of_ble_eq_true rfl) dX1_init_14 (fun H locs hW => ?_)
  have hW : kr_Wd D A s ((h0, .inr (1, [.ref a1, .int 0, .int 0, .int 0, .int 0, .int 0, .int 0, .ref q0])) :: ([(q0, .inl (cs.1, 12, .inl (fun _ => 0)))])) H _ := hW
  refine W.widen (k := 1) (n := 12) (Nat.le_of_ble_eq_true rfl) (Nat.le_of_ble_eq_true rfl) ?_
  exact W.vret B.exec B.bytes hr (fun t ht hw => ⟨⟨(kr_nth 0 [q0]), rfl, trivial, by rw [ht]; exact hW.1, hW.2.1⟩, hW.2.2.F ht⟩) hW.2.2.2.2 dX1_init_17
set_option maxHeartbeats 4000000 in
set_option maxRecDepth 100000 in
theorem n_X5 (l : Launch) (D : va_G) (cs : ClassId × ClassId × ClassId) (h0 : Nat) : kr_Mi l D cs yX5_init cX5_init 2 { frames := 1, cells := 3, slots := 168, locals := 12 } h0 (5, n_f5) [] (w_X5 cs h0) := by
  intro sz
  refine Met.ofW (cc := cX5_init) (maxL := 2) (ret := none) (by decide +kernel) rfl ?_
  intro p e s m args below meth c s₁ B hml hv
  obtain ⟨rfl, hsz, hP, hK, hD0⟩ := hv
  have hts := atoms_spec (ws := kr_mi yX5_init cX5_init 2) B.pre
  have hown : s.vm.findClass RX5 = some m.cls := findClass_of_methodNamed B.named
  have hlocks := B.notSynchronized
  have hin : meth.name = "<init>" := (name_of_methodNamed B.named B.method).1
  have hr := B.returns
  subst hsz
  have hD := hD0.self (sz := s.heap.size)
  generalize hAe : va_A [(h0, .inr (5, n_f5))] s.heap.size = A at hD ⊢
  have hA : ∀ q : Nat, s.heap.size ≤ q → A q := fun q h => by rw [← hAe]; exact Or.inr h
  have C : kr_Cn RX5 cX5_init 2 p s m ([.ref h0] : List Value).toArray meth c D cs A := ⟨⟨B.exec, B.bytes, hml, hown, fun w hw => hts w (List.mem_cons_of_mem _ hw)⟩, hK, hA, hin⟩
  have hW : kr_Wd D A s [(h0, .inr (5, n_f5))] s.heap [] := ⟨hP, hD, va_S.rf⟩
  have hl := lv_entry ([.ref h0]) (n := 2) (Nat.le_of_ble_eq_true rfl)
  rw [lg_entry_eq]
  generalize (lg_sl ([.ref h0]) ++ List.replicate (2 - (lg_sl ([.ref h0])).length) Slot.unset).toArray = ls at hl ⊢
  have hl : lv_has ls 2 [(0, .ref h0)] := hl
  refine lv_aload_n C.1.1 C.1.2.1 dX5_init_0 rfl (lv_at hl 0 rfl) ?_
  refine kr_i_obj C kr_w_o_X5_3 kr_w_oi kr_w_oc hl.1 dX5_init_1 ⟨Nat.le_of_ble_eq_true rfl, Nat.le_of_ble_eq_true rfl⟩ ?_
  refine lv_aload_n C.1.1 C.1.2.1 dX5_init_4 rfl (lv_at hl 0 rfl) ?_
  refine lv_sipush (v := 160) C.1.1 C.1.2.1 dX5_init_5 (by decide) ?_
  refine kr_i_newa (N := 160) C hW kr_w_y_int (by decide) (by decide) (by decide) (Nat.le_of_ble_eq_true rfl) (Nat.le_of_ble_eq_true rfl) dX5_init_8 (fun q0 H hW => ?_)
  have hW : kr_Wd D A s ((h0, .inr (5, [.null, .null, .null])) :: ([(q0, .inl (cs.1, 160, .inl (fun _ => 0)))])) H _ := hW
  refine kr_i_putF (k := 0) (v := .ref q0) (ty := .array .int) C hW kr_cl5 kr_w_f_Sheets_11 (by decide) rfl rfl (by decide +kernel) rfl rfl (Nat.le_of_ble_eq_true rfl) dX5_init_10 (fun H locs hW => ?_)
  have hW : kr_Wd D A s ((h0, .inr (5, [.ref q0, .null, .null])) :: ([(q0, .inl (cs.1, 160, .inl (fun _ => 0)))])) H _ := hW
  refine lv_aload_n C.1.1 C.1.2.1 dX5_init_13 rfl (lv_at hl 0 rfl) ?_
  refine lv_iconst (v := 4) C.1.1 C.1.2.1 dX5_init_14 (by decide) ?_
  refine kr_i_newa (N := 4) C hW kr_w_y_int (by decide) (by decide) (by decide) (Nat.le_of_ble_eq_true rfl) (Nat.le_of_ble_eq_true rfl) dX5_init_15 (fun q1 H hW => ?_)
  have hW : kr_Wd D A s ((h0, .inr (5, [.ref q0, .null, .null])) :: ([(q0, .inl (cs.1, 160, .inl (fun _ => 0))), (q1, .inl (cs.1, 4, .inl (fun _ => 0)))])) H _ := hW
  refine kr_i_putF (k := 1) (v := .ref q1) (ty := .array .int) C hW kr_cl5 kr_w_f_Sheets_15 (by decide) rfl rfl (by decide +kernel) rfl rfl (Nat.le_of_ble_eq_true rfl) dX5_init_17 (fun H locs hW => ?_)
  have hW : kr_Wd D A s ((h0, .inr (5, [.ref q0, .ref q1, .null])) :: ([(q0, .inl (cs.1, 160, .inl (fun _ => 0))), (q1, .inl (cs.1, 4, .inl (fun _ => 0)))])) H _ := hW
  refine lv_aload_n C.1.1 C.1.2.1 dX5_init_20 rfl (lv_at hl 0 rfl) ?_
  refine lv_iconst (v := 4) C.1.1 C.1.2.1 dX5_init_21 (by decide) ?_
  refine kr_i_newa (N := 4) C hW kr_w_y_int (by decide) (by decide) (by decide) (Nat.le_of_ble_eq_true rfl) (Nat.le_of_ble_eq_true rfl) dX5_init_22 (fun q2 H hW => ?_)
  have hW : kr_Wd D A s ((h0, .inr (5, [.ref q0, .ref q1, .null])) :: ([(q0, .inl (cs.1, 160, .inl (fun _ => 0))), (q1, .inl (cs.1, 4, .inl (fun _ => 0))), (q2, .inl (cs.1, 4, .inl (fun _ => 0)))])) H _ := hW
  refine kr_i_putF (k := 2) (v := .ref q2) (ty := .array .int) C hW kr_cl5 kr_w_f_Sheets_18 (by decide) rfl rfl (by decide +kernel) rfl rfl (Nat.le_of_ble_eq_true rfl) dX5_init_24 (fun H locs hW => ?_)
  have hW : kr_Wd D A s ((h0, .inr (5, [.ref q0, .ref q1, .ref q2])) :: ([(q0, .inl (cs.1, 160, .inl (fun _ => 0))), (q1, .inl (cs.1, 4, .inl (fun _ => 0))), (q2, .inl (cs.1, 4, .inl (fun _ => 0)))])) H _ := hW
  refine lv_iconst (v := 0) C.1.1 C.1.2.1 dX5_init_27 (by decide) ?_
  refine lv_istore_n (lv' := [(1, .int 0), (0, .ref h0)]) C.1.1 C.1.2.1 dX5_init_28 rfl hl (by decide) rfl (fun ls hl => ?_)
  refine lv_iload_n C.1.1 C.1.2.1 dX5_init_29 rfl (lv_at hl 0 rfl) ?_
  refine lv_iconst (v := 4) C.1.1 C.1.2.1 dX5_init_30 (by decide) ?_
  refine lv_icmp_ge (tgt := 47) C.1.1 C.1.2.1 dX5_init_31 (by decide) (fun z => absurd z (by decide)) (fun _ => ?_)
  refine lv_aload_n C.1.1 C.1.2.1 dX5_init_34 rfl (lv_at hl 1 rfl) ?_
  refine kr_i_get (k := 2) (v := .ref q2) C hW kr_cl5 kr_w_f_Sheets_18 (by decide) rfl dX5_init_35 ?_
  refine lv_iload_n C.1.1 C.1.2.1 dX5_init_38 rfl (lv_at hl 0 rfl) ?_
  refine lv_iconst (v := (-1)) C.1.1 C.1.2.1 dX5_init_39 (by decide) ?_
  refine va_iast (q0 := 3) (t0 := 0) C.1.1 C.1.2.1 C.2.1 hW.1 hW.2.1 hW.2.2 rfl rfl (kr_vp rfl) dX5_init_40 (fun H locs hP hD hS => ?_)
  have hW : kr_Wd D A s ((h0, .inr (5, [.ref q0, .ref q1, .ref q2])) :: ([(q0, .inl (cs.1, 160, .inl (fun _ => 0))), (q1, .inl (cs.1, 4, .inl (fun _ => 0))), (q2, .inl (cs.1, 4, .inl (upd (fun _ => 0) ((0 : Int32).toNatClampNeg) (-1))))])) H locs := ⟨hP, hD, hS⟩
  refine lv_iinc (k := 0) (v := 1) (lv' := [(1, .int 1), (0, .ref h0)]) C.1.1 C.1.2.1 dX5_init_41 hl rfl (by decide) (by decide) rfl (fun ls hl => ?_)
  refine lv_goto (tgt := 29) C.1.1 C.1.2.1 dX5_init_44 (by decide) ?_
  refine lv_iload_n C.1.1 C.1.2.1 dX5_init_29 rfl (lv_at hl 0 rfl) ?_
  refine lv_iconst (v := 4) C.1.1 C.1.2.1 dX5_init_30 (by decide) ?_
  refine lv_icmp_ge (tgt := 47) C.1.1 C.1.2.1 dX5_init_31 (by decide) (fun z => absurd z (by decide)) (fun _ => ?_)
  refine lv_aload_n C.1.1 C.1.2.1 dX5_init_34 rfl (lv_at hl 1 rfl) ?_
  refine kr_i_get (k := 2) (v := .ref q2) C hW kr_cl5 kr_w_f_Sheets_18 (by decide) rfl dX5_init_35 ?_
  refine lv_iload_n C.1.1 C.1.2.1 dX5_init_38 rfl (lv_at hl 0 rfl) ?_
  refine lv_iconst (v := (-1)) C.1.1 C.1.2.1 dX5_init_39 (by decide) ?_
  refine va_iast (q0 := 3) (t0 := 0) C.1.1 C.1.2.1 C.2.1 hW.1 hW.2.1 hW.2.2 rfl rfl (kr_vp rfl) dX5_init_40 (fun H locs hP hD hS => ?_)
  have hW : kr_Wd D A s ((h0, .inr (5, [.ref q0, .ref q1, .ref q2])) :: ([(q0, .inl (cs.1, 160, .inl (fun _ => 0))), (q1, .inl (cs.1, 4, .inl (fun _ => 0))), (q2, .inl (cs.1, 4, .inl (upd (upd (fun _ => 0) ((0 : Int32).toNatClampNeg) (-1)) ((1 : Int32).toNatClampNeg) (-1))))])) H locs := ⟨hP, hD, hS⟩
  refine lv_iinc (k := 0) (v := 2) (lv' := [(1, .int 2), (0, .ref h0)]) C.1.1 C.1.2.1 dX5_init_41 hl rfl (by decide) (by decide) rfl (fun ls hl => ?_)
  refine lv_goto (tgt := 29) C.1.1 C.1.2.1 dX5_init_44 (by decide) ?_
  refine lv_iload_n C.1.1 C.1.2.1 dX5_init_29 rfl (lv_at hl 0 rfl) ?_
  refine lv_iconst (v := 4) C.1.1 C.1.2.1 dX5_init_30 (by decide) ?_
  refine lv_icmp_ge (tgt := 47) C.1.1 C.1.2.1 dX5_init_31 (by decide) (fun z => absurd z (by decide)) (fun _ => ?_)
  refine lv_aload_n C.1.1 C.1.2.1 dX5_init_34 rfl (lv_at hl 1 rfl) ?_
  refine kr_i_get (k := 2) (v := .ref q2) C hW kr_cl5 kr_w_f_Sheets_18 (by decide) rfl dX5_init_35 ?_
  refine lv_iload_n C.1.1 C.1.2.1 dX5_init_38 rfl (lv_at hl 0 rfl) ?_
  refine lv_iconst (v := (-1)) C.1.1 C.1.2.1 dX5_init_39 (by decide) ?_
  refine va_iast (q0 := 3) (t0 := 0) C.1.1 C.1.2.1 C.2.1 hW.1 hW.2.1 hW.2.2 rfl rfl (kr_vp rfl) dX5_init_40 (fun H locs hP hD hS => ?_)
  have hW : kr_Wd D A s ((h0, .inr (5, [.ref q0, .ref q1, .ref q2])) :: ([(q0, .inl (cs.1, 160, .inl (fun _ => 0))), (q1, .inl (cs.1, 4, .inl (fun _ => 0))), (q2, .inl (cs.1, 4, .inl (upd (upd (upd (fun _ => 0) ((0 : Int32).toNatClampNeg) (-1)) ((1 : Int32).toNatClampNeg) (-1)) ((2 : Int32).toNatClampNeg) (-1))))])) H locs := ⟨hP, hD, hS⟩
  refine lv_iinc (k := 0) (v := 3) (lv' := [(1, .int 3), (0, .ref h0)]) C.1.1 C.1.2.1 dX5_init_41 hl rfl (by decide) (by decide) rfl (fun ls hl => ?_)
  refine lv_goto (tgt := 29) C.1.1 C.1.2.1 dX5_init_44 (by decide) ?_
  refine lv_iload_n C.1.1 C.1.2.1 dX5_init_29 rfl (lv_at hl 0 rfl) ?_
  refine lv_iconst (v := 4) C.1.1 C.1.2.1 dX5_init_30 (by decide) ?_
  refine lv_icmp_ge (tgt := 47) C.1.1 C.1.2.1 dX5_init_31 (by decide) (fun z => absurd z (by decide)) (fun _ => ?_)
  refine lv_aload_n C.1.1 C.1.2.1 dX5_init_34 rfl (lv_at hl 1 rfl) ?_
  refine kr_i_get (k := 2) (v := .ref q2) C hW kr_cl5 kr_w_f_Sheets_18 (by decide) rfl dX5_init_35 ?_
  refine lv_iload_n C.1.1 C.1.2.1 dX5_init_38 rfl (lv_at hl 0 rfl) ?_
  refine lv_iconst (v := (-1)) C.1.1 C.1.2.1 dX5_init_39 (by decide) ?_
  refine va_iast (q0 := 3) (t0 := 0) C.1.1 C.1.2.1 C.2.1 hW.1 hW.2.1 hW.2.2 rfl rfl (kr_vp rfl) dX5_init_40 (fun H locs hP hD hS => ?_)
  have hW : kr_Wd D A s ((h0, .inr (5, [.ref q0, .ref q1, .ref q2])) :: ([(q0, .inl (cs.1, 160, .inl (fun _ => 0))), (q1, .inl (cs.1, 4, .inl (fun _ => 0))), (q2, .inl (cs.1, 4, .inl (upd (upd (upd (upd (fun _ => 0) ((0 : Int32).toNatClampNeg) (-1)) ((1 : Int32).toNatClampNeg) (-1)) ((2 : Int32).toNatClampNeg) (-1)) ((3 : Int32).toNatClampNeg) (-1))))])) H locs := ⟨hP, hD, hS⟩
  refine lv_iinc (k := 0) (v := 4) (lv' := [(1, .int 4), (0, .ref h0)]) C.1.1 C.1.2.1 dX5_init_41 hl rfl (by decide) (by decide) rfl (fun ls hl => ?_)
  refine lv_goto (tgt := 29) C.1.1 C.1.2.1 dX5_init_44 (by decide) ?_
  refine lv_iload_n C.1.1 C.1.2.1 dX5_init_29 rfl (lv_at hl 0 rfl) ?_
  refine lv_iconst (v := 4) C.1.1 C.1.2.1 dX5_init_30 (by decide) ?_
  refine lv_icmp_ge (tgt := 47) C.1.1 C.1.2.1 dX5_init_31 (by decide) (fun _ => ?_) (fun z => absurd (by decide) z)
  refine W.widen (k := 3) (n := 168) (Nat.le_of_ble_eq_true rfl) (Nat.le_of_ble_eq_true rfl) ?_
  exact W.vret B.exec B.bytes hr (fun t ht hw => ⟨⟨(kr_nth 0 [q0, q1, q2]), rfl, trivial, by rw [ht]; exact hW.1, hW.2.1⟩, hW.2.2.F ht⟩) hW.2.2.2.2 dX5_init_47
