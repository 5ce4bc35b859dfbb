/-! the tail of the reference's constructor, over all objects; the first state -/
theorem dX10_init_0 : decode cX10_init 0 = .ok (.aload_n 0, 1) := by decide +kernel
theorem dX10_init_1 : decode cX10_init 1 = .ok (.invokespecial 1, 3) := by decide +kernel
theorem dX10_init_4 : decode cX10_init 4 = .ok (.aload_n 0, 1) := by decide +kernel
theorem dX10_init_5 : decode cX10_init 5 = .ok (.sipush 375, 3) := by decide +kernel
theorem dX10_init_8 : decode cX10_init 8 = .ok (.newarray .int, 2) := by decide +kernel
theorem dX10_init_10 : decode cX10_init 10 = .ok (.putfield 7, 3) := by decide +kernel
theorem dX10_init_13 : decode cX10_init 13 = .ok (.aload_n 0, 1) := by decide +kernel
theorem dX10_init_14 : decode cX10_init 14 = .ok (.iconst 2, 1) := by decide +kernel
theorem dX10_init_15 : decode cX10_init 15 = .ok (.newarray .boolean, 2) := by decide +kernel
theorem dX10_init_17 : decode cX10_init 17 = .ok (.putfield 13, 3) := by decide +kernel
theorem dX10_init_20 : decode cX10_init 20 = .ok (.aload_n 0, 1) := by decide +kernel
theorem dX10_init_21 : decode cX10_init 21 = .ok (.bipush 15, 2) := by decide +kernel
theorem dX10_init_23 : decode cX10_init 23 = .ok (.newarray .int, 2) := by decide +kernel
theorem dX10_init_25 : decode cX10_init 25 = .ok (.putfield 17, 3) := by decide +kernel
theorem dX10_init_28 : decode cX10_init 28 = .ok (.aload_n 0, 1) := by decide +kernel
theorem dX10_init_29 : decode cX10_init 29 = .ok (.bipush 125, 2) := by decide +kernel
theorem dX10_init_31 : decode cX10_init 31 = .ok (.newarray .int, 2) := by decide +kernel
theorem dX10_init_33 : decode cX10_init 33 = .ok (.putfield 20, 3) := by decide +kernel
theorem dX10_init_36 : decode cX10_init 36 = .ok (.aload_n 0, 1) := by decide +kernel
theorem dX10_init_37 : decode cX10_init 37 = .ok (.bipush 15, 2) := by decide +kernel
theorem dX10_init_39 : decode cX10_init 39 = .ok (.newarray .int, 2) := by decide +kernel
theorem dX10_init_41 : decode cX10_init 41 = .ok (.putfield 23, 3) := by decide +kernel
theorem dX10_init_44 : decode cX10_init 44 = .ok (.aload_n 0, 1) := by decide +kernel
theorem dX10_init_45 : decode cX10_init 45 = .ok (.sipush 400, 3) := by decide +kernel
theorem dX10_init_48 : decode cX10_init 48 = .ok (.newarray .int, 2) := by decide +kernel
theorem dX10_init_50 : decode cX10_init 50 = .ok (.putfield 26, 3) := by decide +kernel
theorem dX10_init_53 : decode cX10_init 53 = .ok (.aload_n 0, 1) := by decide +kernel
theorem dX10_init_54 : decode cX10_init 54 = .ok (.bipush 12, 2) := by decide +kernel
theorem dX10_init_56 : decode cX10_init 56 = .ok (.newarray .int, 2) := by decide +kernel
theorem dX10_init_58 : decode cX10_init 58 = .ok (.putfield 29, 3) := by decide +kernel
theorem dX10_init_61 : decode cX10_init 61 = .ok (.aload_n 0, 1) := by decide +kernel
theorem dX10_init_62 : decode cX10_init 62 = .ok (.bipush 9, 2) := by decide +kernel
theorem dX10_init_64 : decode cX10_init 64 = .ok (.newarray .int, 2) := by decide +kernel
theorem dX10_init_66 : decode cX10_init 66 = .ok (.putfield 32, 3) := by decide +kernel
theorem dX10_init_69 : decode cX10_init 69 = .ok (.aload_n 0, 1) := by decide +kernel
theorem dX10_init_70 : decode cX10_init 70 = .ok (.iconst 5, 1) := by decide +kernel
theorem dX10_init_71 : decode cX10_init 71 = .ok (.newarray .int, 2) := by decide +kernel
theorem dX10_init_73 : decode cX10_init 73 = .ok (.putfield 35, 3) := by decide +kernel
theorem dX10_init_76 : decode cX10_init 76 = .ok (.aload_n 0, 1) := by decide +kernel
theorem dX10_init_77 : decode cX10_init 77 = .ok (.iconst 5, 1) := by decide +kernel
theorem dX10_init_78 : decode cX10_init 78 = .ok (.newarray .int, 2) := by decide +kernel
theorem dX10_init_80 : decode cX10_init 80 = .ok (.putfield 38, 3) := by decide +kernel
theorem dX10_init_83 : decode cX10_init 83 = .ok (.aload_n 0, 1) := by decide +kernel
theorem dX10_init_84 : decode cX10_init 84 = .ok (.iconst 5, 1) := by decide +kernel
theorem dX10_init_85 : decode cX10_init 85 = .ok (.newarray .int, 2) := by decide +kernel
theorem dX10_init_87 : decode cX10_init 87 = .ok (.putfield 41, 3) := by decide +kernel
theorem dX10_init_90 : decode cX10_init 90 = .ok (.aload_n 0, 1) := by decide +kernel
theorem dX10_init_91 : decode cX10_init 91 = .ok (.iconst 5, 1) := by decide +kernel
theorem dX10_init_92 : decode cX10_init 92 = .ok (.newarray .int, 2) := by decide +kernel
theorem dX10_init_94 : decode cX10_init 94 = .ok (.putfield 44, 3) := by decide +kernel
theorem dX10_init_97 : decode cX10_init 97 = .ok (.aload_n 0, 1) := by decide +kernel
theorem dX10_init_98 : decode cX10_init 98 = .ok (.iconst 5, 1) := by decide +kernel
theorem dX10_init_99 : decode cX10_init 99 = .ok (.newarray .int, 2) := by decide +kernel
theorem dX10_init_101 : decode cX10_init 101 = .ok (.putfield 47, 3) := by decide +kernel
theorem dX10_init_104 : decode cX10_init 104 = .ok (.aload_n 0, 1) := by decide +kernel
theorem dX10_init_105 : decode cX10_init 105 = .ok (.sipush 4096, 3) := by decide +kernel
theorem dX10_init_108 : decode cX10_init 108 = .ok (.newarray .int, 2) := by decide +kernel
theorem dX10_init_110 : decode cX10_init 110 = .ok (.putfield 50, 3) := by decide +kernel
theorem dX10_init_113 : decode cX10_init 113 = .ok (.aload_n 0, 1) := by decide +kernel
theorem dX10_init_114 : decode cX10_init 114 = .ok (.iconst 5, 1) := by decide +kernel
theorem dX10_init_115 : decode cX10_init 115 = .ok (.newarray .int, 2) := by decide +kernel
theorem dX10_init_117 : decode cX10_init 117 = .ok (.putfield 53, 3) := by decide +kernel
theorem dX10_init_120 : decode cX10_init 120 = .ok (.aload_n 0, 1) := by decide +kernel
theorem dX10_init_121 : decode cX10_init 121 = .ok (.iconst 5, 1) := by decide +kernel
theorem dX10_init_122 : decode cX10_init 122 = .ok (.newarray .int, 2) := by decide +kernel
theorem dX10_init_124 : decode cX10_init 124 = .ok (.putfield 56, 3) := by decide +kernel
theorem dX10_init_127 : decode cX10_init 127 = .ok (.aload_n 0, 1) := by decide +kernel
theorem dX10_init_128 : decode cX10_init 128 = .ok (.bipush 12, 2) := by decide +kernel
theorem dX10_init_130 : decode cX10_init 130 = .ok (.newarray .int, 2) := by decide +kernel
theorem dX10_init_132 : decode cX10_init 132 = .ok (.putfield 59, 3) := by decide +kernel
theorem dX10_init_135 : decode cX10_init 135 = .ok (.aload_n 0, 1) := by decide +kernel
theorem dX10_init_136 : decode cX10_init 136 = .ok (.iconst 4, 1) := by decide +kernel
theorem dX10_init_137 : decode cX10_init 137 = .ok (.newarray .int, 2) := by decide +kernel
theorem dX10_init_139 : decode cX10_init 139 = .ok (.putfield 62, 3) := by decide +kernel
theorem dX10_init_142 : decode cX10_init 142 = .ok (.aload_n 0, 1) := by decide +kernel
theorem dX10_init_143 : decode cX10_init 143 = .ok (.iconst 4, 1) := by decide +kernel
theorem dX10_init_144 : decode cX10_init 144 = .ok (.newarray .int, 2) := by decide +kernel
theorem dX10_init_146 : decode cX10_init 146 = .ok (.putfield 65, 3) := by decide +kernel
theorem dX10_init_149 : decode cX10_init 149 = .ok (.aload_n 0, 1) := by decide +kernel
theorem dX10_init_150 : decode cX10_init 150 = .ok (.sipush 160, 3) := by decide +kernel
theorem dX10_init_153 : decode cX10_init 153 = .ok (.newarray .int, 2) := by decide +kernel
theorem dX10_init_155 : decode cX10_init 155 = .ok (.putfield 68, 3) := by decide +kernel
theorem dX10_init_158 : decode cX10_init 158 = .ok (.iconst 0, 1) := by decide +kernel
theorem dX10_init_159 : decode cX10_init 159 = .ok (.istore_n 1, 1) := by decide +kernel
theorem dX10_init_160 : decode cX10_init 160 = .ok (.iload_n 1, 1) := by decide +kernel
theorem dX10_init_161 : decode cX10_init 161 = .ok (.iconst 4, 1) := by decide +kernel
theorem dX10_init_162 : decode cX10_init 162 = .ok (.if_icmp .ge 17, 3) := by decide +kernel
theorem dX10_init_165 : decode cX10_init 165 = .ok (.aload_n 0, 1) := by decide +kernel
theorem dX10_init_166 : decode cX10_init 166 = .ok (.getfield 62, 3) := by decide +kernel
theorem dX10_init_169 : decode cX10_init 169 = .ok (.iload_n 1, 1) := by decide +kernel
theorem dX10_init_170 : decode cX10_init 170 = .ok (.bipush (-4), 2) := by decide +kernel
theorem dX10_init_172 : decode cX10_init 172 = .ok (.iastore, 1) := by decide +kernel
theorem dX10_init_173 : decode cX10_init 173 = .ok (.iinc 1 1, 3) := by decide +kernel
theorem dX10_init_176 : decode cX10_init 176 = .ok (.goto (-16), 3) := by decide +kernel
theorem dX10_init_179 : decode cX10_init 179 = .ok (.aload_n 0, 1) := by decide +kernel
theorem dX10_init_180 : decode cX10_init 180 = .ok (.invokevirtual 71, 3) := by decide +kernel
theorem dX10_init_183 : decode cX10_init 183 = .ok (.aload_n 0, 1) := by decide +kernel
theorem dX10_init_184 : decode cX10_init 184 = .ok (.invokevirtual 74, 3) := by decide +kernel
theorem dX10_init_187 : decode cX10_init 187 = .ok (.return_, 1) := by decide +kernel
def C_ini : Nat → kr_S := (kr_nd 170 (kr_nd 162 (kr_nd 160 (kr_nd 159 (kr_lf 158 (kr_const 159 (.int 0))) (kr_lf 159 (kr_is 160 1))) (kr_nd 161 (kr_lf 160 (kr_il 161 1)) (kr_lf 161 (kr_const 162 (.int 4))))) (kr_nd 166 (kr_nd 165 (kr_lf 162 (kr_ic 165 179 (fun x y => y ≤ x))) (kr_lf 165 (kr_al 166 0))) (kr_nd 169 (kr_lf 166 (kr_gr 169 10 41)) (kr_lf 169 (kr_il 170 1))))) (kr_nd 179 (kr_nd 173 (kr_nd 172 (kr_lf 170 (kr_const 172 (.int (-4)))) (kr_lf 172 (kr_ias 173))) (kr_nd 176 (kr_lf 173 (kr_inc 176 1 1)) (kr_lf 176 (kr_goto 160)))) (kr_nd 183 (kr_nd 180 (kr_lf 179 (kr_al 180 0)) (kr_lf 180 (kr_cv 183 i_M_firstDraft 1 10))) (kr_nd 184 (kr_lf 183 (kr_al 184 0)) (kr_nd 187 (kr_lf 184 (kr_cv 187 i_M_keepDraft 1 10)) (kr_lf 187 (kr_rv)))))))
theorem kr_ok_ini : kr_ok kr_E0 RX10 cX10_init 2 none C_ini := (kr_ok.nd (kr_ok.nd (kr_ok.nd (kr_ok.nd (kr_ok.lf (kr_s_iconst dX10_init_158 (by decide)) (kr_mn_const _ _)) (kr_ok.lf (kr_s_istore_n dX10_init_159 rfl (by decide)) (kr_mn_is _ _))) (kr_ok.nd (kr_ok.lf (kr_s_iload_n dX10_init_160 rfl) (kr_mn_il _ _)) (kr_ok.lf (kr_s_iconst dX10_init_161 (by decide)) (kr_mn_const _ _)))) (kr_ok.nd (kr_ok.nd (kr_ok.lf (kr_s_ic_ge dX10_init_162 (by decide)) (kr_mn_ic _ _ _)) (kr_ok.lf (kr_s_aload_n dX10_init_165 rfl) (kr_mn_al _ _))) (kr_ok.nd (kr_ok.lf (kr_s_gr kr_cl10 dX10_init_166 kr_w_f_ChalkRoadsModel_62 (by decide) (by decide)) (kr_mn_gr _ _ _)) (kr_ok.lf (kr_s_iload_n dX10_init_169 rfl) (kr_mn_il _ _))))) (kr_ok.nd (kr_ok.nd (kr_ok.nd (kr_ok.lf (kr_s_bipush dX10_init_170 (by decide)) (kr_mn_const _ _)) (kr_ok.lf (kr_s_ias dX10_init_172) (kr_mn_ias _))) (kr_ok.nd (kr_ok.lf (kr_s_iinc dX10_init_173 (by decide) (by decide)) (kr_mn_inc _ _ _)) (kr_ok.lf (kr_s_goto dX10_init_176 (by decide)) (kr_mn_goto _)))) (kr_ok.nd (kr_ok.nd (kr_ok.lf (kr_s_aload_n dX10_init_179 rfl) (kr_mn_al _ _)) (kr_ok.lf (kr_s_cv kr_cl10 kr_mf_M_firstDraft dX10_init_180 kr_w_m_ChalkRoadsModel_71 kr_w_i_M_firstDraft kr_w_e_M_firstDraft) (kr_mn_cv _ _ _ _))) (kr_ok.nd (kr_ok.lf (kr_s_aload_n dX10_init_183 rfl) (kr_mn_al _ _)) (kr_ok.nd (kr_ok.lf (kr_s_cv kr_cl10 kr_mf_M_keepDraft dX10_init_184 kr_w_m_ChalkRoadsModel_74 kr_w_i_M_keepDraft kr_w_e_M_keepDraft) (kr_mn_cv _ _ _ _)) (kr_ok.lf (kr_s_rv dX10_init_187 rfl) (kr_mn_rv)))))))
theorem st_ini {Q : kr_Q} {pc : Nat} {ls : kr_L} {st : List Value} {μ : kr_M} (h : C_ini pc (kr_Wp C_ini (kr_c 40) Q) (kr_c 40) Q ls st μ) : kr_Wp C_ini (kr_c 40) Q pc ls st μ := kr_Wp.step (fun pc => (kr_ok_ini pc).2) (kr_c_om 40) h
theorem v_ini_158 {Q : kr_Q} {μ : kr_M}  (h : kr_Wp C_ini (kr_c 40) Q 160 [some (.ref 65), some (.int 0)] [] μ) : kr_Wp C_ini (kr_c 40) Q 158 [some (.ref 65), none] [] μ := (st_ini (st_ini h))
theorem v_ini_160 {Q : kr_Q} {μ : kr_M} {iv : Int32} (h : (((4 : Int32) ≤ iv → kr_c 40 i_M_firstDraft [.ref 65] μ (kr_bk (kr_Wp C_ini (kr_c 40) Q) 183 [some (.ref 65), some (.int iv)] [])) ∧ (¬ ((4 : Int32) ≤ iv) → vp_in iv 4 ∧ kr_Wp C_ini (kr_c 40) Q 160 [some (.ref 65), some (.int (iv + 1))] [] (kr_u μ 83 iv.toNatClampNeg (-4))))) : kr_Wp C_ini (kr_c 40) Q 160 [some (.ref 65), some (.int iv)] [] μ := (st_ini (st_ini (st_ini (And.intro (fun z1x => (st_ini (st_ini (And.intro rfl (h.1 z1x))))) (fun z1x => (st_ini (st_ini (And.intro rfl (st_ini (st_ini (st_ini (And.intro ⟨4, rfl, (h.2 z1x).1⟩ (st_ini (st_ini (h.2 z1x).2))))))))))))))
theorem v_ini_183 {Q : kr_Q} {μ : kr_M} {iv : Int32} (h : kr_c 40 i_M_keepDraft [.ref 65] μ (kr_bk (kr_Wp C_ini (kr_c 40) Q) 187 [some (.ref 65), some (.int iv)] [])) : kr_Wp C_ini (kr_c 40) Q 183 [some (.ref 65), some (.int iv)] [] μ := (st_ini (st_ini (And.intro rfl h)))
theorem v_ini_187 {Q : kr_Q} {μ : kr_M} {iv : Int32} (h : Q none μ) : kr_Wp C_ini (kr_c 40) Q 187 [some (.ref 65), some (.int iv)] [] μ := (st_ini h)
/-- the first memory -/
def kr_r0 : List (Nat → Int32) := [(fun _ => 0), (fun j => if j = 0 then 5 else 0), (fun _ => 0), (fun _ => 0), (fun _ => 0), (fun _ => 0), (fun _ => 0), (fun _ => 0), (fun _ => 0), (fun _ => 0), (fun _ => 0), (fun _ => 0), (fun _ => 0), (fun _ => 0), (fun j => if j = 0 then 5 else 0), (fun _ => 0), (fun _ => 0), (fun _ => 0), (fun _ => 0), (fun _ => 0), (fun _ => 0), (fun _ => 0), (fun _ => 0), (fun _ => 0), (fun _ => 0), (fun _ => 0), (fun _ => 0), (fun _ => 0), (fun _ => 0), (fun _ => 0), (fun _ => 0), (fun _ => 0), (fun _ => 0), (fun _ => 0), (fun _ => 0), (fun _ => 0), (fun _ => 0), (fun _ => 0), (fun _ => 0), (fun _ => 0), (fun _ => 0), (fun _ => 0), (fun _ => 0), (upd (upd (upd (upd (fun _ => 0) ((0 : Int32).toNatClampNeg) (-1)) ((1 : Int32).toNatClampNeg) (-1)) ((2 : Int32).toNatClampNeg) (-1)) ((3 : Int32).toNatClampNeg) (-1)), (fun _ => 0), (fun j => if j = 0 then 5 else 0), (fun _ => 0), (fun _ => 0), (fun _ => 0), (fun _ => 0), (fun _ => 0), (fun _ => 0), (fun _ => 0), (fun _ => 0), (fun _ => 0), (fun j => if j = 0 then 5 else 0), (fun _ => 0), (fun _ => 0), (fun _ => 0), (fun _ => 0), (fun _ => 0), (fun _ => 0), (fun _ => 0), (fun _ => 0), (fun _ => 0), (fun _ => 0), (fun _ => 0), (fun _ => 0), (fun _ => 0), (fun _ => 0), (fun _ => 0), (fun _ => 0), (fun _ => 0), (fun _ => 0), (fun _ => 0), (fun _ => 0), (fun _ => 0), (fun _ => 0), (fun _ => 0), (fun _ => 0), (fun _ => 0), (fun _ => 0), (fun _ => 0), (fun _ => 0), (fun _ => 0), (fun _ => 0)]
def kr_μ0 : kr_M := (fun o => kr_nth (fun _ => 0) kr_r0 o, fun _ => 0)
def kr_σ0 : kr_G := kr_Gm (fun _ => 0) (fun _ => 0) 5 0 0 (fun _ => 3, fun _ => 0, fun _ => 0) 0 (fun _ => 0) 0 0 0
theorem kr_GW0 : kr_GW kr_σ0 := ⟨⟨by decide, fun l hl => absurd hl (Nat.not_lt_zero l), by decide, fun d hd => absurd hd (Nat.not_lt_zero d), fun d hd => absurd hd (Nat.not_lt_zero d), fun q _ => Nat.zero_le _, by decide, fun h hh => absurd hh (Nat.not_lt_zero h)⟩, fun k _ => ⟨Nat.le_refl 3, Nat.zero_le _⟩, ⟨Nat.zero_le _, fun j hj => absurd hj (Nat.not_lt_zero j)⟩, by decide, fun k _ hb => absurd hb (by show ¬ (0 : Nat).testBit k = true; simp)⟩
theorem kr_GC0 : kr_GC kr_μ0 kr_σ0 := by
  refine ⟨⟨⟨rfl, rfl, rfl, rfl, rfl, rfl⟩, fun l hl => absurd hl (Nat.not_lt_zero l), rfl, fun d hd => absurd hd (Nat.not_lt_zero d), fun d hd => absurd hd (Nat.not_lt_zero d), ?_, fun h hh => absurd hh (Nat.not_lt_zero h), 0, by decide, rfl, fun h hh => absurd hh (Nat.not_lt_zero h)⟩, fun k hk => ⟨fun _ => ?_, fun z => absurd rfl z⟩, ⟨rfl, fun j hj => absurd hj (Nat.not_lt_zero j)⟩, rfl, ⟨rfl, fun k _ hb => absurd hb (by show ¬ (0 : Nat).testBit k = true; simp)⟩, rfl⟩
  · show (0 : Int64) = lN (kr_bm 41 _)
    decide
  · rcases (by omega : k = 0 ∨ k = 1 ∨ k = 2 ∨ k = 3) with rfl | rfl | rfl | rfl <;> decide
theorem c_ini {Q : kr_Q} (k : ∀ μ', kr_GC μ' kr_σ0 → kr_GM μ' kr_σ0 → Q none μ') : kr_Wp C_ini (kr_c 40) Q 158 [some (.ref 65), none] [] kr_μ0 := by
  have fin : ∀ μ, kr_keep [83] [] kr_μ0 μ → (∀ j, j < 4 → μ.1 83 j = -4) → kr_Wp C_ini (kr_c 40) Q 160 [some (.ref 65), some (.int 4)] [] μ := by
    intro μ hk h83
    refine v_ini_160 (br_t (by decide) (c_M_firstDraft (d := 39) (fun μ1 hk1 hv1 hh1 e15 e19 => v_ini_183 (c_M_keepDraft (d := 39) hv1 (Nat.zero_le 5) (fun μ2 hk2 h66 h66b hPM h2 h3 hMk => v_ini_187 (k μ2 ?_ ?_))))))
    · exact ((kr_GC0.q hk (by decide)).q hk1 (by decide)).q hk2 (by decide)
    · have z : ∀ j, (65, j) ∉ kr_mQ → j ∉ [2, 3, 4] → μ2.1 65 j = 0 := by
        intro j hj hj2
        rw [hk2.2 65 j (by decide) (fun q => hj2 (by simpa using q)), hk1.2 65 j (by decide) hj, hk.2 65 j (by decide) (by simp)]
        rfl
      have r : ∀ o, o ∉ [65, 66, 67, 68, 69, 83] → μ2.1 o = kr_μ0.1 o := by
        intro o ho
        simp at ho
        rw [hk2.row (o := o) (by simp; omega) (fun q hq => by simp at hq; rcases hq with rfl | rfl | rfl <;> (intro e; exact ho.1 e.symm)), hk1.row (o := o) (by simp; omega) (fun q hq e => by
          have : ∀ q ∈ kr_mQ, q.1 = 65 := by decide
          exact ho.1 (by rw [← e]; exact this q hq)), hk.row (o := o) (by simp; omega) (fun q hq => by cases hq)]
      refine ⟨⟨fun j hj => ?_, hPM, h2, h3, z 29 (by decide) (by decide)⟩, fun q hq => ⟨fun _ => ?_, fun y => absurd rfl y⟩, ⟨z 14 (by decide) (by decide), fun j hj => absurd hj (Nat.not_lt_zero j)⟩, ?_, hMk, z 44 (by decide) (by decide)⟩
      · rcases Nat.lt_or_ge j 125 with c | c
        · exact h66 j c
        · rw [h66b j c, hk1.row (o := 66) (by decide) (by decide), hk.row (o := 66) (by decide) (by decide)]
          rfl
      · rw [hk2.row (o := 83) (by decide) (by decide), hk1.row (o := 83) (by decide) (by decide)]
        exact h83 q hq
      · rw [hk2.2 65 19 (by decide) (by decide), e19, hk.2 65 19 (by decide) (by decide)]
        rfl
  have loop : ∀ m i μ, i + m = 4 → kr_keep [83] [] kr_μ0 μ → (∀ j, j < i → μ.1 83 j = -4) → kr_Wp C_ini (kr_c 40) Q 160 [some (.ref 65), some (.int (nI i))] [] μ := by
    intro m
    induction m with
    | zero =>
      intro i μ hi hk h83
      obtain rfl : i = 4 := by omega
      exact fin μ hk h83
    | succ m ih =>
      intro i μ hi hk h83
      refine v_ini_160 (br_f (nI_ge (b := 4) (by omega) (by decide)) ⟨vp_in_nI (by omega) (by decide), ?_⟩)
      rw [kr_n1, nI_clamp (by omega)]
      refine ih (i + 1) _ (by omega) (hk.u _ _ (by decide)) (fun j hj => ?_)
      rw [kr_u_s]
      by_cases e : j = i
      · rw [e, kr_upd_s]
      · rw [kr_upd_n _ _ e]; exact h83 j (by omega)
  exact v_ini_158 (loop 4 0 kr_μ0 rfl kr_keep.rf (fun j hj => absurd hj (Nat.not_lt_zero j)))
