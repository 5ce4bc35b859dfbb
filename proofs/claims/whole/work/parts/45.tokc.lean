/-! tokens: the class -/
theorem kr_p7V {o : Nat} (h : kr_isS o) : kr_isV (kr_p7 o) := by unfold kr_isS at h; unfold kr_isV kr_p7; omega
theorem st_J0_coder {d : Nat} {Q : kr_Q} {pc : Nat} {ls : kr_L} {st : List Value} {μ : kr_M} (h : C_J0_coder pc (kr_Wp C_J0_coder (kr_c d) Q) (kr_c d) Q ls st μ) : kr_Wp C_J0_coder (kr_c d) Q pc ls st μ := kr_Wp.step (fun pc => (kr_ok_J0_coder pc).2) (kr_c_om d) h
theorem v_J0_coder {d : Nat} {Q : kr_Q} {μ : kr_M} {o : Nat} (ho : kr_isS o)  (h : Q (some (.int 0)) μ) : kr_c (d + 1) i_J0_coder [.ref o] μ Q := ⟨rfl, (st_J0_coder (st_J0_coder (And.intro (fun q => absurd q (by decide)) (fun _ => (st_J0_coder (st_J0_coder (And.intro ho (st_J0_coder (st_J0_coder (And.intro rfl h))))))))))⟩
theorem st_J0_isLatin1 {d : Nat} {Q : kr_Q} {pc : Nat} {ls : kr_L} {st : List Value} {μ : kr_M} (h : C_J0_isLatin1 pc (kr_Wp C_J0_isLatin1 (kr_c d) Q) (kr_c d) Q ls st μ) : kr_Wp C_J0_isLatin1 (kr_c d) Q pc ls st μ := kr_Wp.step (fun pc => (kr_ok_J0_isLatin1 pc).2) (kr_c_om d) h
theorem v_J0_isLatin1 {d : Nat} {Q : kr_Q} {μ : kr_M} {o : Nat} (ho : kr_isS o)  (h : Q (some (.int 1)) μ) : kr_c (d + 1) i_J0_isLatin1 [.ref o] μ Q := ⟨rfl, (st_J0_isLatin1 (st_J0_isLatin1 (And.intro (fun q => absurd q (by decide)) (fun _ => (st_J0_isLatin1 (st_J0_isLatin1 (And.intro ho (st_J0_isLatin1 (And.intro (fun q => absurd q (by decide)) (fun _ => (st_J0_isLatin1 (st_J0_isLatin1 (st_J0_isLatin1 (And.intro (by decide) h))))))))))))))⟩
theorem st_J0_length {d : Nat} {Q : kr_Q} {pc : Nat} {ls : kr_L} {st : List Value} {μ : kr_M} (h : C_J0_length pc (kr_Wp C_J0_length (kr_c d) Q) (kr_c d) Q ls st μ) : kr_Wp C_J0_length (kr_c d) Q pc ls st μ := kr_Wp.step (fun pc => (kr_ok_J0_length pc).2) (kr_c_om d) h
theorem v_J0_length {d : Nat} {Q : kr_Q} {μ : kr_M} {o : Nat} (ho : kr_isS o)  (h : kr_c (d + 1) i_J0_coder [.ref o] μ (kr_bk (kr_Wp C_J0_length (kr_c (d + 1)) Q) 9 [some (.ref o)] [.int (Int32.ofNat (kr_tlo (kr_p7 o)))])) : kr_c (d + 2) i_J0_length [.ref o] μ Q := ⟨rfl, (st_J0_length (st_J0_length (And.intro ho (st_J0_length (And.intro (kr_p7V ho) (st_J0_length (st_J0_length (And.intro ho h))))))))⟩
theorem v_J0_length_9 {d : Nat} {Q : kr_Q} {μ : kr_M} {o : Nat} (ho : kr_isS o)   {r : Int32} {s0 : Int32} (h : Q (some (.int (s0 >>> (r &&& 31)))) μ) : kr_Wp C_J0_length (kr_c (d + 1)) Q 9 [some (.ref o)] [.int r, .int s0] μ := (st_J0_length (st_J0_length h))
theorem st_J3_checkIndex {d : Nat} {Q : kr_Q} {pc : Nat} {ls : kr_L} {st : List Value} {μ : kr_M} (h : C_J3_checkIndex pc (kr_Wp C_J3_checkIndex (kr_c d) Q) (kr_c d) Q ls st μ) : kr_Wp C_J3_checkIndex (kr_c d) Q pc ls st μ := kr_Wp.step (fun pc => (kr_ok_J3_checkIndex pc).2) (kr_c_om d) h
theorem v_J3_checkIndexN {d : Nat} {Q : kr_Q} {μ : kr_M} {a1 : Int32} {a2 : Int32} (h : ((a1 < 0 → kr_Wp C_J3_checkIndex (kr_c d) Q 9 [some (.int a1), some (.int a2), none] [] μ) ∧ (¬ (a1 < 0) → ((a1 < a2 → Q (some (.int a1)) μ) ∧ (¬ (a1 < a2) → kr_Wp C_J3_checkIndex (kr_c d) Q 9 [some (.int a1), some (.int a2), none] [] μ))))) : kr_c (d + 1) i_J3_checkIndex [.int a1, .int a2, .null] μ Q := ⟨rfl, (st_J3_checkIndex (st_J3_checkIndex (And.intro (fun z1x => (kr_Wp.lm [true, true, false] (h.1 z1x))) (fun z1x => (st_J3_checkIndex (st_J3_checkIndex (st_J3_checkIndex (And.intro (fun z2x => (st_J3_checkIndex (st_J3_checkIndex ((h.2 z1x).1 z2x)))) (fun z2x => (kr_Wp.lm [true, true, false] ((h.2 z1x).2 z2x)))))))))))⟩
theorem v_J3_checkIndexR {d : Nat} {Q : kr_Q} {μ : kr_M} {a1 : Int32} {a2 : Int32} (h : ((a1 < 0 → kr_Wp C_J3_checkIndex (kr_c d) Q 9 [some (.int a1), some (.int a2), none] [] μ) ∧ (¬ (a1 < 0) → ((a1 < a2 → Q (some (.int a1)) μ) ∧ (¬ (a1 < a2) → kr_Wp C_J3_checkIndex (kr_c d) Q 9 [some (.int a1), some (.int a2), none] [] μ))))) : kr_c (d + 1) i_J3_checkIndex [.int a1, .int a2, .ref 100] μ Q := ⟨rfl, (st_J3_checkIndex (st_J3_checkIndex (And.intro (fun z1x => (kr_Wp.lm [true, true, false] (h.1 z1x))) (fun z1x => (st_J3_checkIndex (st_J3_checkIndex (st_J3_checkIndex (And.intro (fun z2x => (st_J3_checkIndex (st_J3_checkIndex ((h.2 z1x).1 z2x)))) (fun z2x => (kr_Wp.lm [true, true, false] ((h.2 z1x).2 z2x)))))))))))⟩
theorem st_J0_checkIndex {d : Nat} {Q : kr_Q} {pc : Nat} {ls : kr_L} {st : List Value} {μ : kr_M} (h : C_J0_checkIndex pc (kr_Wp C_J0_checkIndex (kr_c d) Q) (kr_c d) Q ls st μ) : kr_Wp C_J0_checkIndex (kr_c d) Q pc ls st μ := kr_Wp.step (fun pc => (kr_ok_J0_checkIndex pc).2) (kr_c_om d) h
theorem v_J0_checkIndex {d : Nat} {Q : kr_Q} {μ : kr_M} {a1 : Int32} {a2 : Int32} (h : (kr_c (d + 1) i_J3_checkIndex [.int a1, .int a2, .null] μ (kr_bk (kr_Wp C_J0_checkIndex (kr_c (d + 1)) Q) 8 [some (.int a1), some (.int a2)] [])) ∧ (kr_c (d + 1) i_J3_checkIndex [.int a1, .int a2, .ref 100] μ (kr_bk (kr_Wp C_J0_checkIndex (kr_c (d + 1)) Q) 8 [some (.int a1), some (.int a2)] []))) : kr_c (d + 2) i_J0_checkIndex [.int a1, .int a2] μ Q := ⟨rfl, (st_J0_checkIndex (st_J0_checkIndex (st_J0_checkIndex (And.intro (st_J0_checkIndex h.1) (st_J0_checkIndex h.2)))))⟩
theorem v_J0_checkIndex_8 {d : Nat} {Q : kr_Q} {μ : kr_M} {a0 : Int32} {a1 : Int32} {r : Int32} (h : Q none μ) : kr_Wp C_J0_checkIndex (kr_c (d + 1)) Q 8 [some (.int a0), some (.int a1)] [.int r] μ := (st_J0_checkIndex (st_J0_checkIndex h))
theorem st_J1_charAt {d : Nat} {Q : kr_Q} {pc : Nat} {ls : kr_L} {st : List Value} {μ : kr_M} (h : C_J1_charAt pc (kr_Wp C_J1_charAt (kr_c d) Q) (kr_c d) Q ls st μ) : kr_Wp C_J1_charAt (kr_c d) Q pc ls st μ := kr_Wp.step (fun pc => (kr_ok_J1_charAt pc).2) (kr_c_om d) h
theorem v_J1_charAt {d : Nat} {Q : kr_Q} {μ : kr_M} {v : Nat} (hv : kr_isV v) {a1 : Int32} (h : kr_c (d + 2) i_J0_checkIndex [.int a1, .int (Int32.ofNat (kr_tlo v))] μ (kr_bk (kr_Wp C_J1_charAt (kr_c (d + 2)) Q) 6 [some (.ref v), some (.int a1)] [])) : kr_c (d + 3) i_J1_charAt [.ref v, .int a1] μ Q := ⟨rfl, (st_J1_charAt (st_J1_charAt (st_J1_charAt (And.intro hv (st_J1_charAt h)))))⟩
theorem v_J1_charAt_6 {d : Nat} {Q : kr_Q} {μ : kr_M} {v : Nat} (hv : kr_isV v)  {a1 : Int32} (h : vp_in a1 (kr_tlo v) ∧ Q (some (.int ((((kr_tbo v a1.toNatClampNeg) &&& (255 : Int32)).toUInt32 % 65536).toInt32))) μ) : kr_Wp C_J1_charAt (kr_c (d + 2)) Q 6 [some (.ref v), some (.int a1)] [] μ := (st_J1_charAt (st_J1_charAt (st_J1_charAt (And.intro ⟨hv, h.1⟩ (st_J1_charAt (st_J1_charAt (st_J1_charAt (st_J1_charAt (And.intro (pk_nc _) h.2)))))))))
theorem st_J0_charAt {d : Nat} {Q : kr_Q} {pc : Nat} {ls : kr_L} {st : List Value} {μ : kr_M} (h : C_J0_charAt pc (kr_Wp C_J0_charAt (kr_c d) Q) (kr_c d) Q ls st μ) : kr_Wp C_J0_charAt (kr_c d) Q pc ls st μ := kr_Wp.step (fun pc => (kr_ok_J0_charAt pc).2) (kr_c_om d) h
theorem v_J0_charAt {d : Nat} {Q : kr_Q} {μ : kr_M} {o : Nat} (ho : kr_isS o) {a1 : Int32} (h : kr_c (d + 3) i_J0_isLatin1 [.ref o] μ (kr_bk (kr_Wp C_J0_charAt (kr_c (d + 3)) Q) 4 [some (.ref o), some (.int a1)] [])) : kr_c (d + 4) i_J0_charAt [.ref o, .int a1] μ Q := ⟨rfl, (st_J0_charAt (st_J0_charAt (And.intro ho h)))⟩
theorem v_J0_charAt_4 {d : Nat} {Q : kr_Q} {μ : kr_M} {o : Nat} (ho : kr_isS o)  {a1 : Int32} {r : Int32} (h : ((r = 0 → kr_Wp C_J0_charAt (kr_c (d + 3)) Q 16 [some (.ref o), some (.int a1)] [] μ) ∧ (¬ (r = 0) → kr_c (d + 3) i_J1_charAt [.ref (kr_p7 o), .int a1] μ (kr_bk (kr_Wp C_J0_charAt (kr_c (d + 3)) Q) 15 [some (.ref o), some (.int a1)] [])))) : kr_Wp C_J0_charAt (kr_c (d + 3)) Q 4 [some (.ref o), some (.int a1)] [.int r] μ := (st_J0_charAt (And.intro (fun z1x => (h.1 z1x)) (fun z1x => (st_J0_charAt (st_J0_charAt (And.intro ho (st_J0_charAt (st_J0_charAt (h.2 z1x)))))))))
theorem v_J0_charAt_15 {d : Nat} {Q : kr_Q} {μ : kr_M} {o : Nat} (ho : kr_isS o)  {a1 : Int32} {r : Int32} (h : narrow .char (.int r) = .int r ∧ Q (some (.int r)) μ) : kr_Wp C_J0_charAt (kr_c (d + 3)) Q 15 [some (.ref o), some (.int a1)] [.int r] μ := (st_J0_charAt h)
theorem st_D_nameIs {d : Nat} {Q : kr_Q} {pc : Nat} {ls : kr_L} {st : List Value} {μ : kr_M} (h : C_D_nameIs pc (kr_Wp C_D_nameIs (kr_c d) Q) (kr_c d) Q ls st μ) : kr_Wp C_D_nameIs (kr_c d) Q pc ls st μ := kr_Wp.step (fun pc => (kr_ok_D_nameIs pc).2) (kr_c_om d) h
theorem v_D_nameIs {d : Nat} {Q : kr_Q} {μ : kr_M} {o : Nat} (ho : kr_isS o)  (h : kr_c (d + 4) i_J0_length [.ref o] μ (kr_bk (kr_Wp C_D_nameIs (kr_c (d + 4)) Q) 13 [some (.ref 13), some (.ref o), none] [.int ((μ.1 13 8) - (μ.1 13 7))])) : kr_c (d + 5) i_D_nameIs [.ref 13, .ref o] μ Q := ⟨rfl, (st_D_nameIs (st_D_nameIs (And.intro rfl (st_D_nameIs (st_D_nameIs (And.intro rfl (st_D_nameIs (st_D_nameIs (st_D_nameIs (And.intro ho h))))))))))⟩
theorem v_D_nameIs_20 {d : Nat} {Q : kr_Q} {μ : kr_M} {o : Nat} (ho : kr_isS o)  {a2 : Int32} (h : kr_c (d + 4) i_J0_length [.ref o] μ (kr_bk (kr_Wp C_D_nameIs (kr_c (d + 4)) Q) 25 [some (.ref 13), some (.ref o), some (.int a2)] [.int a2])) : kr_Wp C_D_nameIs (kr_c (d + 4)) Q 20 [some (.ref 13), some (.ref o), some (.int a2)] [] μ := (st_D_nameIs (st_D_nameIs (st_D_nameIs (And.intro ho h))))
theorem v_D_nameIs_13 {d : Nat} {Q : kr_Q} {μ : kr_M} {o : Nat} (ho : kr_isS o)   {r : Int32} {s0 : Int32} (h : ((s0 = r → kr_Wp C_D_nameIs (kr_c (d + 4)) Q 20 [some (.ref 13), some (.ref o), some (.int 0)] [] μ) ∧ (¬ (s0 = r) → Q (some (.int 0)) μ))) : kr_Wp C_D_nameIs (kr_c (d + 4)) Q 13 [some (.ref 13), some (.ref o), none] [.int r, .int s0] μ := (st_D_nameIs (And.intro (fun z1x => (st_D_nameIs (st_D_nameIs (h.1 z1x)))) (fun z1x => (st_D_nameIs (st_D_nameIs (And.intro (by decide) (h.2 z1x)))))))
theorem v_D_nameIs_25 {d : Nat} {Q : kr_Q} {μ : kr_M} {o : Nat} (ho : kr_isS o)  {a2 : Int32} {r : Int32} {s0 : Int32} (h : ((r ≤ s0 → Q (some (.int 1)) μ) ∧ (¬ (r ≤ s0) → kr_c (d + 4) i_T_byteAt [.ref 11, .int ((μ.1 13 7) + a2)] μ (kr_bk (kr_Wp C_D_nameIs (kr_c (d + 4)) Q) 41 [some (.ref 13), some (.ref o), some (.int a2)] [])))) : kr_Wp C_D_nameIs (kr_c (d + 4)) Q 25 [some (.ref 13), some (.ref o), some (.int a2)] [.int r, .int s0] μ := (st_D_nameIs (And.intro (fun z1x => (st_D_nameIs (st_D_nameIs (And.intro (by decide) (h.1 z1x))))) (fun z1x => (st_D_nameIs (st_D_nameIs (And.intro rfl (st_D_nameIs (st_D_nameIs (And.intro rfl (st_D_nameIs (st_D_nameIs (st_D_nameIs (And.intro rfl (h.2 z1x))))))))))))))
theorem v_D_nameIs_41 {d : Nat} {Q : kr_Q} {μ : kr_M} {o : Nat} (ho : kr_isS o)  {a2 : Int32} {r : Int32} (h : kr_c (d + 4) i_J0_charAt [.ref o, .int a2] μ (kr_bk (kr_Wp C_D_nameIs (kr_c (d + 4)) Q) 46 [some (.ref 13), some (.ref o), some (.int a2)] [.int r])) : kr_Wp C_D_nameIs (kr_c (d + 4)) Q 41 [some (.ref 13), some (.ref o), some (.int a2)] [.int r] μ := (st_D_nameIs (st_D_nameIs (st_D_nameIs (And.intro ho h))))
theorem v_D_nameIs_46 {d : Nat} {Q : kr_Q} {μ : kr_M} {o : Nat} (ho : kr_isS o)  {a2 : Int32} {r : Int32} {s0 : Int32} (h : ((s0 = r → kr_Wp C_D_nameIs (kr_c (d + 4)) Q 20 [some (.ref 13), some (.ref o), some (.int (a2 + 1))] [] μ) ∧ (¬ (s0 = r) → Q (some (.int 0)) μ))) : kr_Wp C_D_nameIs (kr_c (d + 4)) Q 46 [some (.ref 13), some (.ref o), some (.int a2)] [.int r, .int s0] μ := (st_D_nameIs (And.intro (fun z1x => (st_D_nameIs (st_D_nameIs (h.1 z1x)))) (fun z1x => (st_D_nameIs (st_D_nameIs (And.intro (by decide) (h.2 z1x)))))))
theorem st_T_behindAll {d : Nat} {Q : kr_Q} {pc : Nat} {ls : kr_L} {st : List Value} {μ : kr_M} (h : C_T_behindAll pc (kr_Wp C_T_behindAll (kr_c d) Q) (kr_c d) Q ls st μ) : kr_Wp C_T_behindAll (kr_c d) Q pc ls st μ := kr_Wp.step (fun pc => (kr_ok_T_behindAll pc).2) (kr_c_om d) h
theorem v_T_behindAll {d : Nat} {Q : kr_Q} {μ : kr_M} {a1 : Int32} {a2 : Int32} {a3 : Int32} (h : kr_Wp C_T_behindAll (kr_c d) Q 3 [some (.ref 11), some (.int a1), some (.int a2), some (.int a3), some (.int a1)] [] μ) : kr_c (d + 1) i_T_behindAll [.ref 11, .int a1, .int a2, .int a3] μ Q := ⟨rfl, (st_T_behindAll (st_T_behindAll h))⟩
theorem v_T_behindAll_3 {d : Nat} {Q : kr_Q} {μ : kr_M} {a1 : Int32} {a2 : Int32} {a3 : Int32} {a4 : Int32} (h : ((a4 < 0 → Q (some (.int a4)) μ) ∧ (¬ (a4 < 0) → (((μ.1 11 1) ≤ a4 → Q (some (.int a4)) μ) ∧ (¬ ((μ.1 11 1) ≤ a4) → vp_in a4 400 ∧ (((μ.1 12 a4.toNatClampNeg) < a2 → Q (some (.int a4)) μ) ∧ (¬ ((μ.1 12 a4.toNatClampNeg) < a2) → vp_in a4 400 ∧ ((a3 < (μ.1 12 a4.toNatClampNeg) → Q (some (.int a4)) μ) ∧ (¬ (a3 < (μ.1 12 a4.toNatClampNeg)) → kr_Wp C_T_behindAll (kr_c d) Q 3 [some (.ref 11), some (.int a1), some (.int a2), some (.int a3), some (.int (a4 + 1))] [] μ))))))))) : kr_Wp C_T_behindAll (kr_c d) Q 3 [some (.ref 11), some (.int a1), some (.int a2), some (.int a3), some (.int a4)] [] μ := (st_T_behindAll (st_T_behindAll (And.intro (fun z1x => (st_T_behindAll (st_T_behindAll (h.1 z1x)))) (fun z1x => (st_T_behindAll (st_T_behindAll (st_T_behindAll (And.intro rfl (st_T_behindAll (And.intro (fun z2x => (st_T_behindAll (st_T_behindAll ((h.2 z1x).1 z2x)))) (fun z2x => (st_T_behindAll (st_T_behindAll (And.intro rfl (st_T_behindAll (st_T_behindAll (And.intro ⟨400, rfl, ((h.2 z1x).2 z2x).1⟩ (st_T_behindAll (st_T_behindAll (And.intro (fun z3x => (st_T_behindAll (st_T_behindAll (((h.2 z1x).2 z2x).2.1 z3x)))) (fun z3x => (st_T_behindAll (st_T_behindAll (And.intro rfl (st_T_behindAll (st_T_behindAll (And.intro ⟨400, rfl, (((h.2 z1x).2 z2x).2.2 z3x).1⟩ (st_T_behindAll (st_T_behindAll (And.intro (fun z4x => (st_T_behindAll (st_T_behindAll ((((h.2 z1x).2 z2x).2.2 z3x).2.1 z4x)))) (fun z4x => (st_T_behindAll (st_T_behindAll ((((h.2 z1x).2 z2x).2.2 z3x).2.2 z4x))))))))))))))))))))))))))))))))))
theorem st_T_numberOf {d : Nat} {Q : kr_Q} {pc : Nat} {ls : kr_L} {st : List Value} {μ : kr_M} (h : C_T_numberOf pc (kr_Wp C_T_numberOf (kr_c d) Q) (kr_c d) Q ls st μ) : kr_Wp C_T_numberOf (kr_c d) Q pc ls st μ := kr_Wp.step (fun pc => (kr_ok_T_numberOf pc).2) (kr_c_om d) h
theorem v_T_numberOf {d : Nat} {Q : kr_Q} {μ : kr_M} {a1 : Int32} {a2 : Int32} (h : kr_Wp C_T_numberOf (kr_c d) Q 5 [some (.ref 11), some (.int a1), some (.int a2), some (.int 0), some (.int a1)] [] μ) : kr_c (d + 1) i_T_numberOf [.ref 11, .int a1, .int a2] μ Q := ⟨rfl, (st_T_numberOf (st_T_numberOf (st_T_numberOf (st_T_numberOf h))))⟩
theorem v_T_numberOf_5 {d : Nat} {Q : kr_Q} {μ : kr_M} {a1 : Int32} {a2 : Int32} {a3 : Int32} {a4 : Int32} (h : ((a4 < 0 → Q (some (.int a3)) μ) ∧ (¬ (a4 < 0) → (((μ.1 11 1) ≤ a4 → Q (some (.int a3)) μ) ∧ (¬ ((μ.1 11 1) ≤ a4) → ((a2 ≤ a4 → Q (some (.int a3)) μ) ∧ (¬ (a2 ≤ a4) → (((a1 + (2 : Int32)) ≤ a4 → Q (some (.int a3)) μ) ∧ (¬ ((a1 + (2 : Int32)) ≤ a4) → vp_in a4 400 ∧ kr_Wp C_T_numberOf (kr_c d) Q 5 [some (.ref 11), some (.int a1), some (.int a2), some (.int (((a3 * (10 : Int32)) + (μ.1 12 a4.toNatClampNeg)) - (48 : Int32))), some (.int (a4 + 1))] [] μ))))))))) : kr_Wp C_T_numberOf (kr_c d) Q 5 [some (.ref 11), some (.int a1), some (.int a2), some (.int a3), some (.int a4)] [] μ := (st_T_numberOf (st_T_numberOf (And.intro (fun z1x => (st_T_numberOf (st_T_numberOf (h.1 z1x)))) (fun z1x => (st_T_numberOf (st_T_numberOf (st_T_numberOf (And.intro rfl (st_T_numberOf (And.intro (fun z2x => (st_T_numberOf (st_T_numberOf ((h.2 z1x).1 z2x)))) (fun z2x => (st_T_numberOf (st_T_numberOf (st_T_numberOf (And.intro (fun z3x => (st_T_numberOf (st_T_numberOf (((h.2 z1x).2 z2x).1 z3x)))) (fun z3x => (st_T_numberOf (st_T_numberOf (st_T_numberOf (st_T_numberOf (st_T_numberOf (And.intro (fun z4x => (st_T_numberOf (st_T_numberOf ((((h.2 z1x).2 z2x).2 z3x).1 z4x)))) (fun z4x => (st_T_numberOf (st_T_numberOf (st_T_numberOf (st_T_numberOf (st_T_numberOf (And.intro rfl (st_T_numberOf (st_T_numberOf (And.intro ⟨400, rfl, ((((h.2 z1x).2 z2x).2 z3x).2 z4x).1⟩ (st_T_numberOf (st_T_numberOf (st_T_numberOf (st_T_numberOf (st_T_numberOf (st_T_numberOf ((((h.2 z1x).2 z2x).2 z3x).2 z4x).2))))))))))))))))))))))))))))))))))))))
theorem st_T_byteAt {d : Nat} {Q : kr_Q} {pc : Nat} {ls : kr_L} {st : List Value} {μ : kr_M} (h : C_T_byteAt pc (kr_Wp C_T_byteAt (kr_c d) Q) (kr_c d) Q ls st μ) : kr_Wp C_T_byteAt (kr_c d) Q pc ls st μ := kr_Wp.step (fun pc => (kr_ok_T_byteAt pc).2) (kr_c_om d) h
theorem v_T_byteAt {d : Nat} {Q : kr_Q} {μ : kr_M} {a1 : Int32} (h : ((a1 < 0 → Q (some (.int (-1))) μ) ∧ (¬ (a1 < 0) → (((μ.1 11 1) ≤ a1 → Q (some (.int (-1))) μ) ∧ (¬ ((μ.1 11 1) ≤ a1) → vp_in a1 400 ∧ Q (some (.int (μ.1 12 a1.toNatClampNeg))) μ))))) : kr_c (d + 1) i_T_byteAt [.ref 11, .int a1] μ Q := ⟨rfl, (st_T_byteAt (st_T_byteAt (And.intro (fun z1x => (st_T_byteAt (st_T_byteAt (h.1 z1x)))) (fun z1x => (st_T_byteAt (st_T_byteAt (st_T_byteAt (And.intro rfl (st_T_byteAt (And.intro (fun z2x => (st_T_byteAt (st_T_byteAt ((h.2 z1x).1 z2x)))) (fun z2x => (st_T_byteAt (st_T_byteAt (And.intro rfl (st_T_byteAt (st_T_byteAt (And.intro ⟨400, rfl, ((h.2 z1x).2 z2x).1⟩ (st_T_byteAt (st_T_byteAt ((h.2 z1x).2 z2x).2)))))))))))))))))))⟩
theorem st_D_fail {d : Nat} {Q : kr_Q} {pc : Nat} {ls : kr_L} {st : List Value} {μ : kr_M} (h : C_D_fail pc (kr_Wp C_D_fail (kr_c d) Q) (kr_c d) Q ls st μ) : kr_Wp C_D_fail (kr_c d) Q pc ls st μ := kr_Wp.step (fun pc => (kr_ok_D_fail pc).2) (kr_c_om d) h
theorem v_D_fail {d : Nat} {Q : kr_Q} {μ : kr_M} {a1 : Int32} {a2 : Int32} (h : Q (some (.int 0)) (kr_u (kr_u μ 13 3 a1) 13 4 a2)) : kr_c (d + 1) i_D_fail [.ref 13, .int a1, .int a2] μ Q := ⟨rfl, (st_D_fail (st_D_fail (st_D_fail (And.intro rfl (st_D_fail (st_D_fail (st_D_fail (And.intro rfl (st_D_fail (st_D_fail (And.intro (by decide) h)))))))))))⟩
theorem st_D_nextToken {d : Nat} {Q : kr_Q} {pc : Nat} {ls : kr_L} {st : List Value} {μ : kr_M} (h : C_D_nextToken pc (kr_Wp C_D_nextToken (kr_c d) Q) (kr_c d) Q ls st μ) : kr_Wp C_D_nextToken (kr_c d) Q pc ls st μ := kr_Wp.step (fun pc => (kr_ok_D_nextToken pc).2) (kr_c_om d) h
theorem v_D_nextToken {d : Nat} {Q : kr_Q} {μ : kr_M}  (h : kr_c (d + 1) i_T_behindAll [.ref 11, .int (μ.1 13 8), .int 32, .int 32] μ (kr_bk (kr_Wp C_D_nextToken (kr_c (d + 1)) Q) 16 [some (.ref 13), none] [.ref 13])) : kr_c (d + 2) i_D_nextToken [.ref 13] μ Q := ⟨rfl, (st_D_nextToken (st_D_nextToken (st_D_nextToken (And.intro rfl (st_D_nextToken (st_D_nextToken (And.intro rfl (st_D_nextToken (st_D_nextToken (st_D_nextToken (And.intro rfl h)))))))))))⟩
theorem v_D_nextToken_16 {d : Nat} {Q : kr_Q} {μ : kr_M} {r : Int32} (h : kr_c (d + 1) i_T_byteAt [.ref 11, .int r] (kr_u (kr_u μ 13 7 r) 13 8 (r + (1 : Int32))) (kr_bk (kr_Wp C_D_nextToken (kr_c (d + 1)) Q) 40 [some (.ref 13), none] [])) : kr_Wp C_D_nextToken (kr_c (d + 1)) Q 16 [some (.ref 13), none] [.int r, .ref 13] μ := (st_D_nextToken (And.intro rfl (st_D_nextToken (st_D_nextToken (st_D_nextToken (And.intro rfl (st_D_nextToken (st_D_nextToken (st_D_nextToken (And.intro rfl (st_D_nextToken (st_D_nextToken (And.intro rfl (st_D_nextToken (st_D_nextToken (And.intro rfl (st_D_nextToken (And.intro rfl h))))))))))))))))))
theorem v_D_nextToken_40 {d : Nat} {Q : kr_Q} {μ : kr_M} {r : Int32} (h : (((0 : Int32) ≤ r → ((¬ r = 59 → ((r < 97 → ((r < 48 → kr_c (d + 1) i_D_fail [.ref 13, .int 1, .int (μ.1 13 7)] μ (kr_bk (kr_Wp C_D_nextToken (kr_c (d + 1)) Q) 201 [some (.ref 13), some (.int r)] [])) ∧ (¬ (r < 48) → (((57 : Int32) < r → kr_c (d + 1) i_D_fail [.ref 13, .int 1, .int (μ.1 13 7)] μ (kr_bk (kr_Wp C_D_nextToken (kr_c (d + 1)) Q) 201 [some (.ref 13), some (.int r)] [])) ∧ (¬ ((57 : Int32) < r) → kr_c (d + 1) i_T_behindAll [.ref 11, .int (μ.1 13 7), .int 48, .int 57] (kr_u μ 13 6 2) (kr_bk (kr_Wp C_D_nextToken (kr_c (d + 1)) Q) 139 [some (.ref 13), some (.int r)] [.ref 13])))))) ∧ (¬ (r < 97) → (((122 : Int32) < r → ((r < 48 → kr_c (d + 1) i_D_fail [.ref 13, .int 1, .int (μ.1 13 7)] μ (kr_bk (kr_Wp C_D_nextToken (kr_c (d + 1)) Q) 201 [some (.ref 13), some (.int r)] [])) ∧ (¬ (r < 48) → (((57 : Int32) < r → kr_c (d + 1) i_D_fail [.ref 13, .int 1, .int (μ.1 13 7)] μ (kr_bk (kr_Wp C_D_nextToken (kr_c (d + 1)) Q) 201 [some (.ref 13), some (.int r)] [])) ∧ (¬ ((57 : Int32) < r) → kr_c (d + 1) i_T_behindAll [.ref 11, .int (μ.1 13 7), .int 48, .int 57] (kr_u μ 13 6 2) (kr_bk (kr_Wp C_D_nextToken (kr_c (d + 1)) Q) 139 [some (.ref 13), some (.int r)] [.ref 13])))))) ∧ (¬ ((122 : Int32) < r) → kr_c (d + 1) i_T_behindAll [.ref 11, .int (μ.1 13 7), .int 97, .int 122] (kr_u μ 13 6 1) (kr_bk (kr_Wp C_D_nextToken (kr_c (d + 1)) Q) 100 [some (.ref 13), some (.int r)] [.ref 13])))))) ∧ (r = 59 → Q (some (.int 1)) (kr_u μ 13 6 3)))) ∧ (¬ ((0 : Int32) ≤ r) → Q (some (.int 1)) (kr_u μ 13 6 0)))) : kr_Wp C_D_nextToken (kr_c (d + 1)) Q 40 [some (.ref 13), none] [.int r] μ := (st_D_nextToken (st_D_nextToken (st_D_nextToken (And.intro (fun z1x => (st_D_nextToken (st_D_nextToken (st_D_nextToken (And.intro (fun z2x => (st_D_nextToken (st_D_nextToken (st_D_nextToken (And.intro (fun z3x => (st_D_nextToken (st_D_nextToken (st_D_nextToken (And.intro (fun z4x => (st_D_nextToken (st_D_nextToken (st_D_nextToken (st_D_nextToken (And.intro rfl (st_D_nextToken (And.intro rfl ((((h.1 z1x).1 z2x).1 z3x).1 z4x))))))))) (fun z4x => (st_D_nextToken (st_D_nextToken (st_D_nextToken (And.intro (fun z5x => (st_D_nextToken (st_D_nextToken (st_D_nextToken (st_D_nextToken (And.intro rfl (st_D_nextToken (And.intro rfl (((((h.1 z1x).1 z2x).1 z3x).2 z4x).1 z5x))))))))) (fun z5x => (st_D_nextToken (st_D_nextToken (st_D_nextToken (And.intro rfl (st_D_nextToken (st_D_nextToken (st_D_nextToken (And.intro rfl (st_D_nextToken (st_D_nextToken (And.intro rfl (st_D_nextToken (st_D_nextToken (st_D_nextToken (And.intro rfl (((((h.1 z1x).1 z2x).1 z3x).2 z4x).2 z5x))))))))))))))))))))))))))) (fun z3x => (st_D_nextToken (st_D_nextToken (st_D_nextToken (And.intro (fun z6x => (st_D_nextToken (st_D_nextToken (st_D_nextToken (And.intro (fun z7x => (st_D_nextToken (st_D_nextToken (st_D_nextToken (st_D_nextToken (And.intro rfl (st_D_nextToken (And.intro rfl (((((h.1 z1x).1 z2x).2 z3x).1 z6x).1 z7x))))))))) (fun z7x => (st_D_nextToken (st_D_nextToken (st_D_nextToken (And.intro (fun z8x => (st_D_nextToken (st_D_nextToken (st_D_nextToken (st_D_nextToken (And.intro rfl (st_D_nextToken (And.intro rfl ((((((h.1 z1x).1 z2x).2 z3x).1 z6x).2 z7x).1 z8x))))))))) (fun z8x => (st_D_nextToken (st_D_nextToken (st_D_nextToken (And.intro rfl (st_D_nextToken (st_D_nextToken (st_D_nextToken (And.intro rfl (st_D_nextToken (st_D_nextToken (And.intro rfl (st_D_nextToken (st_D_nextToken (st_D_nextToken (And.intro rfl ((((((h.1 z1x).1 z2x).2 z3x).1 z6x).2 z7x).2 z8x))))))))))))))))))))))))))) (fun z6x => (st_D_nextToken (st_D_nextToken (st_D_nextToken (And.intro rfl (st_D_nextToken (st_D_nextToken (st_D_nextToken (And.intro rfl (st_D_nextToken (st_D_nextToken (And.intro rfl (st_D_nextToken (st_D_nextToken (st_D_nextToken (And.intro rfl ((((h.1 z1x).1 z2x).2 z3x).2 z6x))))))))))))))))))))))))))) (fun z2x => (st_D_nextToken (st_D_nextToken (st_D_nextToken (And.intro rfl (st_D_nextToken (st_D_nextToken (st_D_nextToken (And.intro (by decide) ((h.1 z1x).2 (Decidable.not_not.mp z2x)))))))))))))))) (fun z1x => (st_D_nextToken (st_D_nextToken (st_D_nextToken (And.intro rfl (st_D_nextToken (st_D_nextToken (st_D_nextToken (And.intro (by decide) (h.2 z1x))))))))))))))
theorem v_D_nextToken_201 {d : Nat} {Q : kr_Q} {μ : kr_M} {a1 : Int32} {r : Int32} (h : (r = 0 ∨ r = 1) ∧ Q (some (.int r)) μ) : kr_Wp C_D_nextToken (kr_c (d + 1)) Q 201 [some (.ref 13), some (.int a1)] [.int r] μ := (st_D_nextToken h)
theorem v_D_nextToken_139 {d : Nat} {Q : kr_Q} {μ : kr_M} {a1 : Int32} {r : Int32} (h : kr_c (d + 1) i_T_numberOf [.ref 11, .int (μ.1 13 7), .int r] (kr_u μ 13 8 r) (kr_bk (kr_Wp C_D_nextToken (kr_c (d + 1)) Q) 158 [some (.ref 13), some (.int a1)] [.ref 13])) : kr_Wp C_D_nextToken (kr_c (d + 1)) Q 139 [some (.ref 13), some (.int a1)] [.int r, .ref 13] μ := (st_D_nextToken (And.intro rfl (st_D_nextToken (st_D_nextToken (st_D_nextToken (And.intro rfl (st_D_nextToken (st_D_nextToken (And.intro rfl (st_D_nextToken (st_D_nextToken (And.intro rfl (st_D_nextToken (And.intro rfl h))))))))))))))
theorem v_D_nextToken_100 {d : Nat} {Q : kr_Q} {μ : kr_M} {a1 : Int32} {r : Int32} (h : Q (some (.int 1)) (kr_u μ 13 8 r)) : kr_Wp C_D_nextToken (kr_c (d + 1)) Q 100 [some (.ref 13), some (.int a1)] [.int r, .ref 13] μ := (st_D_nextToken (And.intro rfl (st_D_nextToken (st_D_nextToken (st_D_nextToken (And.intro (by decide) h))))))
theorem v_D_nextToken_158 {d : Nat} {Q : kr_Q} {μ : kr_M} {a1 : Int32} {r : Int32} (h : ((((μ.1 13 8) - (μ.1 13 7)) ≤ 2 → Q (some (.int 1)) (kr_u μ 13 9 r)) ∧ (¬ (((μ.1 13 8) - (μ.1 13 7)) ≤ 2) → kr_c (d + 1) i_D_fail [.ref 13, .int 1, .int (μ.1 13 7)] (kr_u μ 13 9 r) (kr_bk (kr_Wp C_D_nextToken (kr_c (d + 1)) Q) 183 [some (.ref 13), some (.int a1)] [])))) : kr_Wp C_D_nextToken (kr_c (d + 1)) Q 158 [some (.ref 13), some (.int a1)] [.int r, .ref 13] μ := (st_D_nextToken (And.intro rfl (st_D_nextToken (st_D_nextToken (And.intro rfl (st_D_nextToken (st_D_nextToken (And.intro rfl (st_D_nextToken (st_D_nextToken (st_D_nextToken (And.intro (fun z1x => (st_D_nextToken (st_D_nextToken (st_D_nextToken (And.intro (by decide) (h.1 z1x)))))) (fun z1x => (st_D_nextToken (st_D_nextToken (st_D_nextToken (st_D_nextToken (And.intro rfl (st_D_nextToken (And.intro rfl (h.2 z1x)))))))))))))))))))))
theorem v_D_nextToken_183 {d : Nat} {Q : kr_Q} {μ : kr_M} {a1 : Int32} {r : Int32} (h : ((r = 0 → Q (some (.int 0)) μ) ∧ (¬ (r = 0) → Q (some (.int 1)) μ))) : kr_Wp C_D_nextToken (kr_c (d + 1)) Q 183 [some (.ref 13), some (.int a1)] [.int r] μ := (st_D_nextToken (And.intro (fun z1x => (st_D_nextToken (st_D_nextToken (And.intro (by decide) (h.1 z1x))))) (fun z1x => (st_D_nextToken (st_D_nextToken (st_D_nextToken (And.intro (by decide) (h.2 z1x))))))))
theorem st_D_nextSign {d : Nat} {Q : kr_Q} {pc : Nat} {ls : kr_L} {st : List Value} {μ : kr_M} (h : C_D_nextSign pc (kr_Wp C_D_nextSign (kr_c d) Q) (kr_c d) Q ls st μ) : kr_Wp C_D_nextSign (kr_c d) Q pc ls st μ := kr_Wp.step (fun pc => (kr_ok_D_nextSign pc).2) (kr_c_om d) h
theorem v_D_nextSign {d : Nat} {Q : kr_Q} {μ : kr_M}  (h : kr_c (d + 2) i_D_nextToken [.ref 13] μ (kr_bk (kr_Wp C_D_nextSign (kr_c (d + 2)) Q) 4 [some (.ref 13)] [])) : kr_c (d + 3) i_D_nextSign [.ref 13] μ Q := ⟨rfl, (st_D_nextSign (st_D_nextSign (And.intro rfl h)))⟩
theorem v_D_nextSign_4 {d : Nat} {Q : kr_Q} {μ : kr_M} {r : Int32} (h : ((r = 0 → Q (some (.int 0)) μ) ∧ (¬ (r = 0) → (((μ.1 13 6) = 3 → Q (some (.int 1)) μ) ∧ (¬ ((μ.1 13 6) = 3) → kr_c (d + 2) i_D_fail [.ref 13, .int 2, .int (μ.1 13 7)] μ (kr_bk (kr_Wp C_D_nextSign (kr_c (d + 2)) Q) 24 [some (.ref 13)] [])))))) : kr_Wp C_D_nextSign (kr_c (d + 2)) Q 4 [some (.ref 13)] [.int r] μ := (st_D_nextSign (And.intro (fun z1x => (st_D_nextSign (st_D_nextSign (And.intro (by decide) (h.1 z1x))))) (fun z1x => (st_D_nextSign (st_D_nextSign (And.intro rfl (st_D_nextSign (st_D_nextSign (And.intro (fun z2x => (st_D_nextSign (st_D_nextSign (st_D_nextSign (And.intro (by decide) ((h.2 z1x).1 z2x)))))) (fun z2x => (st_D_nextSign (st_D_nextSign (st_D_nextSign (st_D_nextSign (And.intro rfl (st_D_nextSign (And.intro rfl ((h.2 z1x).2 z2x))))))))))))))))))
theorem v_D_nextSign_24 {d : Nat} {Q : kr_Q} {μ : kr_M} {r : Int32} (h : ((r = 0 → Q (some (.int 0)) μ) ∧ (¬ (r = 0) → Q (some (.int 1)) μ))) : kr_Wp C_D_nextSign (kr_c (d + 2)) Q 24 [some (.ref 13)] [.int r] μ := (st_D_nextSign (And.intro (fun z1x => (st_D_nextSign (st_D_nextSign (And.intro (by decide) (h.1 z1x))))) (fun z1x => (st_D_nextSign (st_D_nextSign (st_D_nextSign (And.intro (by decide) (h.2 z1x))))))))
theorem st_D_nextNumber {d : Nat} {Q : kr_Q} {pc : Nat} {ls : kr_L} {st : List Value} {μ : kr_M} (h : C_D_nextNumber pc (kr_Wp C_D_nextNumber (kr_c d) Q) (kr_c d) Q ls st μ) : kr_Wp C_D_nextNumber (kr_c d) Q pc ls st μ := kr_Wp.step (fun pc => (kr_ok_D_nextNumber pc).2) (kr_c_om d) h
theorem v_D_nextNumber {d : Nat} {Q : kr_Q} {μ : kr_M} {a1 : Int32} {a2 : Int32} (h : kr_c (d + 2) i_D_nextToken [.ref 13] μ (kr_bk (kr_Wp C_D_nextNumber (kr_c (d + 2)) Q) 4 [some (.ref 13), some (.int a1), some (.int a2)] [])) : kr_c (d + 3) i_D_nextNumber [.ref 13, .int a1, .int a2] μ Q := ⟨rfl, (st_D_nextNumber (st_D_nextNumber (And.intro rfl h)))⟩
theorem v_D_nextNumber_4 {d : Nat} {Q : kr_Q} {μ : kr_M} {a1 : Int32} {a2 : Int32} {r : Int32} (h : ((¬ r = 0 → (((μ.1 13 6) = 2 → (((μ.1 13 9) < a1 → kr_c (d + 2) i_D_fail [.ref 13, .int 3, .int (μ.1 13 7)] μ (kr_bk (kr_Wp C_D_nextNumber (kr_c (d + 2)) Q) 52 [some (.ref 13), some (.int a1), some (.int a2)] [])) ∧ (¬ ((μ.1 13 9) < a1) → (((μ.1 13 9) ≤ a2 → Q (some (.int 1)) μ) ∧ (¬ ((μ.1 13 9) ≤ a2) → kr_c (d + 2) i_D_fail [.ref 13, .int 3, .int (μ.1 13 7)] μ (kr_bk (kr_Wp C_D_nextNumber (kr_c (d + 2)) Q) 52 [some (.ref 13), some (.int a1), some (.int a2)] [])))))) ∧ (¬ ((μ.1 13 6) = 2) → kr_c (d + 2) i_D_fail [.ref 13, .int 2, .int (μ.1 13 7)] μ (kr_bk (kr_Wp C_D_nextNumber (kr_c (d + 2)) Q) 26 [some (.ref 13), some (.int a1), some (.int a2)] [])))) ∧ (r = 0 → Q (some (.int 0)) μ))) : kr_Wp C_D_nextNumber (kr_c (d + 2)) Q 4 [some (.ref 13), some (.int a1), some (.int a2)] [.int r] μ := (st_D_nextNumber (And.intro (fun z1x => (st_D_nextNumber (st_D_nextNumber (And.intro rfl (st_D_nextNumber (st_D_nextNumber (And.intro (fun z2x => (st_D_nextNumber (st_D_nextNumber (And.intro rfl (st_D_nextNumber (st_D_nextNumber (And.intro (fun z3x => (st_D_nextNumber (st_D_nextNumber (st_D_nextNumber (st_D_nextNumber (And.intro rfl (st_D_nextNumber (And.intro rfl (((h.1 z1x).1 z2x).1 z3x))))))))) (fun z3x => (st_D_nextNumber (st_D_nextNumber (And.intro rfl (st_D_nextNumber (st_D_nextNumber (And.intro (fun z4x => (st_D_nextNumber (st_D_nextNumber (st_D_nextNumber (And.intro (by decide) ((((h.1 z1x).1 z2x).2 z3x).1 z4x)))))) (fun z4x => (st_D_nextNumber (st_D_nextNumber (st_D_nextNumber (st_D_nextNumber (And.intro rfl (st_D_nextNumber (And.intro rfl ((((h.1 z1x).1 z2x).2 z3x).2 z4x))))))))))))))))))))))) (fun z2x => (st_D_nextNumber (st_D_nextNumber (st_D_nextNumber (st_D_nextNumber (And.intro rfl (st_D_nextNumber (And.intro rfl ((h.1 z1x).2 z2x)))))))))))))))) (fun z1x => (st_D_nextNumber (st_D_nextNumber (And.intro (by decide) (h.2 (Decidable.not_not.mp z1x))))))))
theorem v_D_nextNumber_52 {d : Nat} {Q : kr_Q} {μ : kr_M} {a1 : Int32} {a2 : Int32} {r : Int32} (h : ((r = 0 → Q (some (.int 0)) μ) ∧ (¬ (r = 0) → Q (some (.int 1)) μ))) : kr_Wp C_D_nextNumber (kr_c (d + 2)) Q 52 [some (.ref 13), some (.int a1), some (.int a2)] [.int r] μ := (st_D_nextNumber (And.intro (fun z1x => (st_D_nextNumber (st_D_nextNumber (And.intro (by decide) (h.1 z1x))))) (fun z1x => (st_D_nextNumber (st_D_nextNumber (st_D_nextNumber (And.intro (by decide) (h.2 z1x))))))))
theorem v_D_nextNumber_26 {d : Nat} {Q : kr_Q} {μ : kr_M} {a1 : Int32} {a2 : Int32} {r : Int32} (h : (r = 0 ∨ r = 1) ∧ Q (some (.int r)) μ) : kr_Wp C_D_nextNumber (kr_c (d + 2)) Q 26 [some (.ref 13), some (.int a1), some (.int a2)] [.int r] μ := (st_D_nextNumber h)
theorem kr_tlL {o : Nat} (ho : kr_isS o) : kr_tl (o - 86) < 10 := by
  unfold kr_isS at ho
  obtain ⟨h1, h2⟩ := ho
  have : o - 86 < 7 := by omega
  generalize o - 86 = j at this
  have key : ∀ j, j < 7 → kr_tl j < 10 := by decide
  exact key j this
theorem c_J0_length {d : Nat} {Q : kr_Q} {μ : kr_M} {o : Nat} (ho : kr_isS o) (k : Q (some (.int (nI (kr_tl (o - 86))))) μ) : kr_c (d + 2) i_J0_length [.ref o] μ Q := by
  refine v_J0_length ho (v_J0_coder (d := d) ho (v_J0_length_9 ho ?_))
  rw [show Int32.ofNat (kr_tlo (kr_p7 o)) = nI (kr_tl (o - 86)) from ?_]
  · have hl := kr_tlL ho
    rw [show (nI (kr_tl (o - 86)) >>> ((0 : Int32) &&& 31)) = nI (kr_tl (o - 86)) from ?_]
    · exact k
    · have := kr_shr (n := kr_tl (o - 86)) (i := 0) (by omega) (by decide)
      rw [Nat.pow_zero, Nat.div_one] at this
      exact this
  · show nI (kr_tl (kr_p7 o - 93)) = _
    unfold kr_p7
    rw [show o + 7 - 93 = o - 86 by omega]
theorem c_J0_checkIndex {d : Nat} {Q : kr_Q} {μ : kr_M} {i n : Nat} (h : i < n) (hn : n < 100) (k : Q none μ) : kr_c (d + 2) i_J0_checkIndex [.int (nI i), .int (nI n)] μ Q := by
  refine v_J0_checkIndex ⟨v_J3_checkIndexN (d := d) ⟨fun z => absurd z (nI_pos (by omega)), fun _ => ⟨fun _ => v_J0_checkIndex_8 k, fun z => absurd (nI_lt h (by omega)) z⟩⟩, v_J3_checkIndexR (d := d) ⟨fun z => absurd z (nI_pos (by omega)), fun _ => ⟨fun _ => v_J0_checkIndex_8 k, fun z => absurd (nI_lt h (by omega)) z⟩⟩⟩
/-- the letters of the names -/
def kt_w (j : Nat) : List Nat := [[112, 111, 105, 110, 116, 115], [104, 111, 117, 115, 101], [108, 105, 110, 101], [100, 114, 97, 119, 101, 114], [111, 110, 101], [114, 97, 105, 110], [114, 111, 111, 102]].getD j []
theorem kt_w_sp : ∀ j, j < 7 → (kt_w j).length = kr_tl j ∧ ∀ i, i < kr_tl j → kr_tb j i = nI ((kt_w j).getD i 0) ∧ ((((nI ((kt_w j).getD i 0)) &&& (255 : Int32)).toUInt32 % 65536).toInt32) = nI ((kt_w j).getD i 0) ∧ (kt_w j).getD i 0 < 256 ∧ narrow .char (.int (nI ((kt_w j).getD i 0))) = .int (nI ((kt_w j).getD i 0)) := by decide
theorem c_J0_charAt {d : Nat} {Q : kr_Q} {μ : kr_M} {o i : Nat} (ho : kr_isS o) (hi : i < kr_tl (o - 86)) (k : Q (some (.int (nI ((kt_w (o - 86)).getD i 0)))) μ) : kr_c (d + 4) i_J0_charAt [.ref o, .int (nI i)] μ Q := by
  have hl := kr_tlL ho
  have hj : o - 86 < 7 := by unfold kr_isS at ho; omega
  obtain ⟨w0, w1⟩ := kt_w_sp (o - 86) hj
  obtain ⟨e1, e2, e3, e4⟩ := w1 i hi
  have etl : kr_tlo (kr_p7 o) = kr_tl (o - 86) := by
    show kr_tl (kr_p7 o - 93) = _
    unfold kr_p7
    rw [show o + 7 - 93 = o - 86 by omega]
  have etb : kr_tbo (kr_p7 o) i = kr_tb (o - 86) i := by
    show kr_tb (kr_p7 o - 93) i = _
    unfold kr_p7
    rw [show o + 7 - 93 = o - 86 by omega]
  refine v_J0_charAt ho (v_J0_isLatin1 (d := d + 2) ho (v_J0_charAt_4 ho (br_f (by decide) (v_J1_charAt (d := d) (kr_p7V ho) ?_))))
  rw [show Int32.ofNat (kr_tlo (kr_p7 o)) = nI (kr_tl (o - 86)) from by rw [etl]; rfl]
  refine c_J0_checkIndex hi (by omega) (v_J1_charAt_6 (kr_p7V ho) ?_)
  rw [nI_clamp (by omega), etl, etb, e1, e2]
  exact ⟨vp_in_nI hi (by omega), v_J0_charAt_15 ho ⟨e4, k⟩⟩
/-- behind all bytes lo .. hi, from p on -/
def kt_run (n : Nat) (b : Nat → Nat) (lo hi p : Nat) : Nat := kx_ff (fun i => !(decide (lo ≤ b i) && decide (b i ≤ hi))) (n - p) p
theorem kt_run_le {n lo hi p : Nat} {b : Nat → Nat} (hp : p ≤ n) : p ≤ kt_run n b lo hi p ∧ kt_run n b lo hi p ≤ n := by
  have := kx_ff_le (fun i => !(decide (lo ≤ b i) && decide (b i ≤ hi))) (n - p) p
  unfold kt_run
  omega
theorem kt_run_0 {n lo hi p : Nat} {b : Nat → Nat} (hp : n ≤ p) : kt_run n b lo hi p = p := by
  unfold kt_run
  rw [show n - p = 0 by omega]
  rfl
theorem kt_run_n {n lo hi p : Nat} {b : Nat → Nat} (h : ¬ (lo ≤ b p ∧ b p ≤ hi)) : kt_run n b lo hi p = p := by
  unfold kt_run
  cases hn : n - p with
  | zero => rfl
  | succ m =>
    show (if (!(decide (lo ≤ b p) && decide (b p ≤ hi))) = true then p else _) = p
    rw [if_pos (by simp; omega)]
theorem kt_run_y {n lo hi p : Nat} {b : Nat → Nat} (hp : p < n) (h : lo ≤ b p ∧ b p ≤ hi) : kt_run n b lo hi p = kt_run n b lo hi (p + 1) := by
  unfold kt_run
  rw [show n - p = (n - (p + 1)) + 1 by omega]
  show (if (!(decide (lo ≤ b p) && decide (b p ≤ hi))) = true then p else _) = _
  rw [if_neg (by simp [h.1, h.2])]
/-- a token's start, kind (0 end, 1 name, 2 number, 3 sign, 4 none), end, number -/
def kt_s (n : Nat) (b : Nat → Nat) (p : Nat) : Nat := kt_run n b 32 32 p
def kt_k (n : Nat) (b : Nat → Nat) (s : Nat) : Nat := if n ≤ s then 0 else if b s = 59 then 3 else if 97 ≤ b s ∧ b s ≤ 122 then 1 else if 48 ≤ b s ∧ b s ≤ 57 then 2 else 4
def kt_e (n : Nat) (b : Nat → Nat) (s : Nat) : Nat := if kt_k n b s = 1 then kt_run n b 97 122 s else if kt_k n b s = 2 then kt_run n b 48 57 s else s + 1
def kt_v (n : Nat) (b : Nat → Nat) (s : Nat) : Nat := if kt_e n b s = s + 1 then b s - 48 else 10 * (b s - 48) + b (s + 1) - 48
def kt_ok (n : Nat) (b : Nat → Nat) (s : Nat) : Bool := !(kt_k n b s == 4) && (!(kt_k n b s == 2) || decide (kt_e n b s ≤ s + 2))
abbrev kp_X : Type := Sum (Nat × Nat) Nat
def kt_nx (n : Nat) (b : Nat → Nat) (p : Nat) : kp_X := if kt_ok n b (kt_s n b p) = true then .inr (kt_s n b p) else .inl (1, kt_s n b p)
theorem kt_s_le {n p : Nat} {b : Nat → Nat} (hp : p ≤ n) : p ≤ kt_s n b p ∧ kt_s n b p ≤ n := kt_run_le hp
theorem kt_e_1 {n s : Nat} {b : Nat → Nat} (hk : kt_k n b s = 1 ∨ kt_k n b s = 2) : s < n ∧ s < kt_e n b s ∧ kt_e n b s ≤ n := by
  have hs : s < n := by
    apply Decidable.byContradiction
    intro c
    unfold kt_k at hk
    rw [if_pos (by omega)] at hk
    omega
  refine ⟨hs, ?_⟩
  rcases hk with hk | hk
  · have hc : 97 ≤ b s ∧ b s ≤ 122 := by
      unfold kt_k at hk
      rw [if_neg (by omega)] at hk
      by_cases c1 : b s = 59
      · rw [if_pos c1] at hk; omega
      · rw [if_neg c1] at hk
        by_cases c2 : 97 ≤ b s ∧ b s ≤ 122
        · exact c2
        · rw [if_neg c2] at hk
          split at hk <;> omega
    unfold kt_e
    rw [if_pos hk, kt_run_y hs hc]
    have := kt_run_le (n := n) (b := b) (lo := 97) (hi := 122) (p := s + 1) (by omega)
    omega
  · have hc : 48 ≤ b s ∧ b s ≤ 57 := by
      unfold kt_k at hk
      rw [if_neg (by omega)] at hk
      by_cases c1 : b s = 59
      · rw [if_pos c1] at hk; omega
      · rw [if_neg c1] at hk
        by_cases c2 : 97 ≤ b s ∧ b s ≤ 122
        · rw [if_pos c2] at hk; omega
        · rw [if_neg c2] at hk
          by_cases c3 : 48 ≤ b s ∧ b s ≤ 57
          · exact c3
          · rw [if_neg c3] at hk; omega
    unfold kt_e
    rw [if_neg (by omega), if_pos hk, kt_run_y hs hc]
    have := kt_run_le (n := n) (b := b) (lo := 48) (hi := 57) (p := s + 1) (by omega)
    omega
theorem kt_k3 {n s : Nat} {b : Nat → Nat} (hk : kt_k n b s = 3) : s < n ∧ kt_e n b s = s + 1 := by
  refine ⟨?_, ?_⟩
  · apply Decidable.byContradiction
    intro c
    unfold kt_k at hk
    rw [if_pos (by omega)] at hk
    omega
  · unfold kt_e
    rw [if_neg (by omega), if_neg (by omega)]
theorem kt_dig {n s i : Nat} {b : Nat → Nat} (hk : kt_k n b s = 2) (h1 : s ≤ i) (h2 : i < kt_e n b s) : 48 ≤ b i ∧ b i ≤ 57 := by
  have e : kt_e n b s = kt_run n b 48 57 s := by unfold kt_e; rw [if_neg (by omega), if_pos hk]
  rw [e] at h2
  have := kx_ff_no (fun i => !(decide (48 ≤ b i) && decide (b i ≤ 57))) (n - s) s i h1 h2
  simpa using this
section
variable {d : Nat} {Q : kr_Q} {μ : kr_M} {n : Nat} {b : Nat → Nat}
theorem c_T_behindAll (hT : kr_TC μ n b) (hw : kx_tw n b) {p lo hi : Nat} (hp : p ≤ n) (hl : lo < 256) (hh : hi < 256) (k : Q (some (.int (nI (kt_run n b lo hi p)))) μ) : kr_c (d + 1) i_T_behindAll [.ref 11, .int (nI p), .int (nI lo), .int (nI hi)] μ Q := by
  have h400 := hw.1
  refine v_T_behindAll ?_
  have main : ∀ m i, i + m = n → kt_run n b lo hi p = kt_run n b lo hi i → kr_Wp C_T_behindAll (kr_c d) Q 3 [some (.ref 11), some (.int (nI p)), some (.int (nI lo)), some (.int (nI hi)), some (.int (nI i))] [] μ := by
    intro m
    induction m with
    | zero =>
      intro i hi' e
      rw [e, kt_run_0 (by omega)] at k
      refine v_T_behindAll_3 (br_f (nI_pos (by omega)) (br_t ?_ k))
      rw [hT.1]; exact nI_le (by omega) (by omega)
    | succ m ih =>
      intro i hi' e
      have hb := hw.2 i (by omega)
      refine v_T_behindAll_3 (br_f (nI_pos (by omega)) (br_f (by rw [hT.1]; exact nI_ge (by omega) (by omega)) ?_))
      rw [nI_clamp (by omega), hT.2 i (by omega), nI_ltI (by omega) (by omega), nI_ltI (by omega) (by omega), kr_n1]
      have v4 : vp_in (nI i) 400 := vp_in_nI (by omega) (by decide)
      refine ⟨v4, fun c => ?_, fun c => ⟨v4, fun c2 => ?_, fun c2 => ?_⟩⟩
      · rw [e, kt_run_n (by omega)] at k; exact k
      · rw [e, kt_run_n (by omega)] at k; exact k
      · exact ih (i + 1) (by omega) (by rw [e, kt_run_y (by omega) (by omega)])
  exact main (n - p) p (by omega) rfl
theorem c_T_byteAt (hT : kr_TC μ n b) (hw : kx_tw n b) {i : Nat} (hi : i < 2 ^ 31) (k : Q (some (.int (if i < n then nI (b i) else -1))) μ) : kr_c (d + 1) i_T_byteAt [.ref 11, .int (nI i)] μ Q := by
  have h400 := hw.1
  refine v_T_byteAt (br_f (nI_pos hi) ?_)
  rw [hT.1, nI_leI (by omega) hi]
  refine ⟨fun c => by rw [if_neg (by omega)] at k; exact k, fun c => ?_⟩
  rw [if_pos (by omega)] at k
  rw [nI_clamp hi, hT.2 i (by omega)]
  exact ⟨vp_in_nI (by omega) (by decide), k⟩
theorem c_T_numberOf (hT : kr_TC μ n b) (hw : kx_tw n b) {s : Nat} (hk : kt_k n b s = 2) (k : Q (some (.int (nI (kt_v n b s)))) μ) : kr_c (d + 1) i_T_numberOf [.ref 11, .int (nI s), .int (nI (kt_e n b s))] μ Q := by
  have h400 := hw.1
  obtain ⟨hs, he1, he2⟩ := kt_e_1 (Or.inr hk)
  have d0 := kt_dig hk (Nat.le_refl s) he1
  refine v_T_numberOf (v_T_numberOf_5 (br_f (nI_pos (by omega)) (br_f (by rw [hT.1]; exact nI_ge hs (by omega)) (br_f (nI_ge he1 (by omega)) (br_f ?_ ⟨vp_in_nI (by omega) (by decide), ?_⟩)))))
  · rw [show (2 : Int32) = nI 2 from rfl, nI_add]; exact nI_ge (by omega) (by omega)
  rw [nI_clamp (by omega), hT.2 s hs, kr_n1, show ((0 : Int32) * 10 + nI (b s)) - 48 = nI (b s - 48) from by rw [show (0 : Int32) * 10 = nI 0 from by decide, nI_add, Nat.zero_add, show (48 : Int32) = nI 48 from rfl, pk_sub d0.1]]
  refine v_T_numberOf_5 (br_f (nI_pos (by omega)) ?_)
  rw [hT.1, nI_leI (by omega) (by omega)]
  unfold kt_v at k
  by_cases c : kt_e n b s = s + 1
  · rw [if_pos c] at k
    exact ⟨fun _ => k, fun _ => br_t (by rw [c]; exact Int32.le_refl _) k⟩
  · rw [if_neg c] at k
    have d1 := kt_dig (i := s + 1) hk (by omega) (by omega)
    refine ⟨fun z => by omega, fun _ => br_f (nI_ge (by omega) (by omega)) (br_f ?_ ⟨vp_in_nI (by omega) (by decide), ?_⟩)⟩
    · rw [show (2 : Int32) = nI 2 from rfl, nI_add]; exact nI_ge (by omega) (by omega)
    rw [nI_clamp (by omega), hT.2 (s + 1) (by omega), kr_n1, show (10 : Int32) = nI 10 from rfl, pk_mul, nI_add, show (48 : Int32) = nI 48 from rfl, pk_sub (by omega)]
    refine v_T_numberOf_5 (br_f (nI_pos (by omega)) ?_)
    have k' : Q (some (.int (nI ((b s - 48) * 10 + b (s + 1) - 48)))) μ := by rw [Nat.mul_comm]; exact k
    have last : (s + 2 : Nat) = s + 1 + 1 := rfl
    refine ⟨fun _ => k', fun _ => ⟨fun _ => k', fun _ => br_t ?_ k'⟩⟩
    rw [show (2 : Int32) = nI 2 from rfl, nI_add]; exact Int32.le_refl _
abbrev kr_dT : List (Nat × Nat) := [(13, 6), (13, 7), (13, 8), (13, 9)]
abbrev kr_dF : List (Nat × Nat) := [(13, 3), (13, 4), (13, 6), (13, 7), (13, 8), (13, 9)]
/-- the class stands at token s -/
def kr_DT (μ : kr_M) (n : Nat) (b : Nat → Nat) (s : Nat) : Prop := μ.1 13 6 = nI (kt_k n b s) ∧ μ.1 13 7 = nI s ∧ μ.1 13 8 = nI (kt_e n b s) ∧ (kt_k n b s = 2 → μ.1 13 9 = nI (kt_v n b s))
def kr_DF (μ : kr_M) (c w : Nat) : Prop := μ.1 13 3 = nI c ∧ μ.1 13 4 = nI w
theorem kr_TC.kp {μ' : kr_M} {W : List Nat} {F : List (Nat × Nat)} (h : kr_TC μ n b) (k : kr_keep W F μ μ') (hW : (11 ∉ W ∧ 12 ∉ W) ∧ ∀ q ∈ F, q.1 ≠ 11 ∧ q.1 ≠ 12) : kr_TC μ' n b := by
  unfold kr_TC
  rw [k.row hW.1.1 (fun q hq => (hW.2 q hq).1), k.row hW.1.2 (fun q hq => (hW.2 q hq).2)]
  exact h
theorem c_D_nextToken (hT : kr_TC μ n b) (hw : kx_tw n b) {p : Nat} (hp : p ≤ n) (h8 : μ.1 13 8 = nI p) (k1 : ∀ s, kt_nx n b p = .inr s → ∀ μ', kr_keep [] kr_dT μ μ' → kr_DT μ' n b s → Q (some (.int 1)) μ') (k2 : ∀ s, kt_nx n b p = .inl (1, s) → ∀ μ', kr_keep [] kr_dF μ μ' → kr_DF μ' 1 s → Q (some (.int 0)) μ') : kr_c (d + 2) i_D_nextToken [.ref 13] μ Q := by
  have h400 := hw.1
  refine v_D_nextToken ?_
  rw [h8, show (32 : Int32) = nI 32 from rfl]
  refine c_T_behindAll hT hw hp (by decide) (by decide) (v_D_nextToken_16 ?_)
  obtain ⟨hs1, hs2⟩ := kt_s_le (b := b) hp
  change kr_c (d + 1) i_T_byteAt [.ref 11, .int (nI (kt_s n b p))] (kr_u (kr_u μ 13 7 (nI (kt_s n b p))) 13 8 (nI (kt_s n b p) + 1)) _
  have hnx : kt_nx n b p = if kt_ok n b (kt_s n b p) = true then .inr (kt_s n b p) else .inl (1, kt_s n b p) := rfl
  generalize kt_s n b p = s at *
  rw [kr_n1]
  have hk0 : kr_keep [] kr_dT μ (kr_u (kr_u μ 13 7 (nI s)) 13 8 (nI (s + 1))) := (kr_keep.rf.f _ (by decide)).f _ (by decide)
  have hT0 := hT.kp hk0 (by decide)
  generalize hμ1 : kr_u (kr_u μ 13 7 (nI s)) 13 8 (nI (s + 1)) = μ1 at *
  have f7 : μ1.1 13 7 = nI s := by rw [← hμ1]; rfl
  have f8 : μ1.1 13 8 = nI (s + 1) := by rw [← hμ1]; rfl
  refine c_T_byteAt hT0 hw (by omega) (v_D_nextToken_40 ?_)
  have wk : ∀ {μ'}, kr_keep [] kr_dT μ μ' → kr_keep [] kr_dF μ μ' := fun h => h.wk (by decide) (by decide)
  by_cases hsn : s < n
  · rw [if_pos hsn]
    have hb := hw.2 s hsn
    refine br_t (nI_pos' (by omega)) ?_
    rw [show (59 : Int32) = nI 59 from rfl, show (97 : Int32) = nI 97 from rfl, show (48 : Int32) = nI 48 from rfl, show (57 : Int32) = nI 57 from rfl, show (122 : Int32) = nI 122 from rfl, nI_eq (by omega) (by decide), nI_ltI (by omega) (by decide), nI_ltI (by omega) (by decide), nI_ltI (by decide) (by omega), nI_ltI (by decide) (by omega), f7]
    -- no token
    have none_ : kt_k n b s = 4 → kr_c (d + 1) i_D_fail [.ref 13, .int 1, .int (nI s)] μ1 (kr_bk (kr_Wp C_D_nextToken (kr_c (d + 1)) Q) 201 [some (.ref 13), some (.int (nI (b s)))] []) := by
      intro hk
      refine v_D_fail (d := d) (v_D_nextToken_201 ⟨Or.inl rfl, ?_⟩)
      refine k2 s (by rw [hnx, if_neg]; unfold kt_ok; rw [hk]; simp) _ (((wk hk0).f _ (by decide)).f _ (by decide)) ⟨rfl, rfl⟩
    -- a number
    have num_ : kt_k n b s = 2 → kr_c (d + 1) i_T_behindAll [.ref 11, .int (nI s), .int (nI 48), .int (nI 57)] (kr_u μ1 13 6 2) (kr_bk (kr_Wp C_D_nextToken (kr_c (d + 1)) Q) 139 [some (.ref 13), some (.int (nI (b s)))] [.ref 13]) := by
      intro hk
      obtain ⟨-, he1, he2⟩ := kt_e_1 (Or.inr hk)
      have ee : kt_e n b s = kt_run n b 48 57 s := by unfold kt_e; rw [if_neg (by omega), if_pos hk]
      have hk2 : kr_keep [] kr_dT μ (kr_u μ1 13 6 2) := hk0.f _ (by decide)
      refine c_T_behindAll (hT.kp hk2 (by decide)) hw (by omega) (by decide) (by decide) (v_D_nextToken_139 ?_)
      rw [← ee]
      have hk3 : kr_keep [] kr_dT μ (kr_u (kr_u μ1 13 6 2) 13 8 (nI (kt_e n b s))) := hk2.f _ (by decide)
      change kr_c (d + 1) i_T_numberOf [.ref 11, .int (μ1.1 13 7), .int (nI (kt_e n b s))] _ _
      rw [f7]
      refine c_T_numberOf (hT.kp hk3 (by decide)) hw hk (v_D_nextToken_158 ?_)
      change (nI (kt_e n b s) - μ1.1 13 7 ≤ 2 → Q (some (.int 1)) _) ∧ (¬ (nI (kt_e n b s) - μ1.1 13 7 ≤ 2) → kr_c (d + 1) i_D_fail [.ref 13, .int 1, .int (μ1.1 13 7)] _ _)
      rw [f7, pk_sub (by omega), show (2 : Int32) = nI 2 from rfl, nI_leI (by omega) (by decide)]
      have hk4 : kr_keep [] kr_dT μ (kr_u (kr_u (kr_u μ1 13 6 (nI 2)) 13 8 (nI (kt_e n b s))) 13 9 (nI (kt_v n b s))) := hk3.f _ (by decide)
      refine ⟨fun c => k1 s (by rw [hnx, if_pos]; unfold kt_ok; rw [hk]; simp; omega) _ hk4 ⟨by rw [hk]; rfl, f7, rfl, fun _ => rfl⟩, fun c => v_D_fail (d := d) (v_D_nextToken_183 (br_t rfl ?_))⟩
      exact k2 s (by rw [hnx, if_neg]; unfold kt_ok; rw [hk]; simp; omega) _ (((wk hk4).f _ (by decide)).f _ (by decide)) ⟨rfl, rfl⟩
    have kd : kt_k n b s = if b s = 59 then 3 else if 97 ≤ b s ∧ b s ≤ 122 then 1 else if 48 ≤ b s ∧ b s ≤ 57 then 2 else 4 := if_neg (by omega)
    -- neither sign nor name
    have oth : ¬ b s = 59 → ¬ (97 ≤ b s ∧ b s ≤ 122) → ((b s < 48 → kr_c (d + 1) i_D_fail [.ref 13, .int 1, .int (nI s)] μ1 (kr_bk (kr_Wp C_D_nextToken (kr_c (d + 1)) Q) 201 [some (.ref 13), some (.int (nI (b s)))] [])) ∧ (¬ b s < 48 → ((57 < b s → kr_c (d + 1) i_D_fail [.ref 13, .int 1, .int (nI s)] μ1 (kr_bk (kr_Wp C_D_nextToken (kr_c (d + 1)) Q) 201 [some (.ref 13), some (.int (nI (b s)))] [])) ∧ (¬ 57 < b s → kr_c (d + 1) i_T_behindAll [.ref 11, .int (nI s), .int (nI 48), .int (nI 57)] (kr_u μ1 13 6 2) (kr_bk (kr_Wp C_D_nextToken (kr_c (d + 1)) Q) 139 [some (.ref 13), some (.int (nI (b s)))] [.ref 13]))))) := by
      intro c1 c2
      rw [if_neg c1, if_neg c2] at kd
      exact ⟨fun c => none_ (by rw [kd, if_neg (by omega)]), fun c => ⟨fun c3 => none_ (by rw [kd, if_neg (by omega)]), fun c3 => num_ (by rw [kd, if_pos (by omega)])⟩⟩
    refine ⟨fun c1 => ⟨fun c2 => oth c1 (by omega), fun c2 => ⟨fun c3 => oth c1 (by omega), fun c3 => ?_⟩⟩, fun c1 => ?_⟩
    · have hk : kt_k n b s = 1 := by rw [kd, if_neg c1, if_pos (by omega)]
      obtain ⟨-, he1, he2⟩ := kt_e_1 (Or.inl hk)
      have ee : kt_e n b s = kt_run n b 97 122 s := by unfold kt_e; rw [if_pos hk]
      have hk2 : kr_keep [] kr_dT μ (kr_u μ1 13 6 1) := hk0.f _ (by decide)
      refine c_T_behindAll (hT.kp hk2 (by decide)) hw (by omega) (by decide) (by decide) (v_D_nextToken_100 ?_)
      rw [← ee]
      exact k1 s (by rw [hnx, if_pos]; unfold kt_ok; rw [hk]; rfl) _ (hk2.f _ (by decide)) ⟨by rw [hk]; rfl, f7, rfl, fun z => by omega⟩
    · have hk : kt_k n b s = 3 := by rw [kd, if_pos c1]
      obtain ⟨-, he1⟩ := kt_k3 hk
      exact k1 s (by rw [hnx, if_pos]; unfold kt_ok; rw [hk]; rfl) _ (hk0.f _ (by decide)) ⟨by rw [hk]; rfl, f7, by rw [he1]; exact f8, fun z => by omega⟩
  · rw [if_neg hsn]
    have hk : kt_k n b s = 0 := if_pos (by omega)
    have he1 : kt_e n b s = s + 1 := by unfold kt_e; rw [if_neg (by omega), if_neg (by omega)]
    refine br_f (by decide) ?_
    exact k1 s (by rw [hnx, if_pos]; unfold kt_ok; rw [hk]; rfl) _ (hk0.f _ (by decide)) ⟨by rw [hk]; rfl, f7, by rw [he1]; exact f8, fun z => by omega⟩
end
