/-! THE CLAIM OUT OF ONE WALK OF THE LAW'S BODY. Your part is whole_start (and what it stands on); all else here is the same for every law, but numbers. -/
def R_law : String := "ChalkRoadsLaw"
def lw_P (b : Addr) (xs : List Int32) (args : Array Value) (s : State) : Prop := args = #[.ref b] ∧ s.IntsAt b xs ∧ xs.length ≤ 2560 ∧ (Jvm.Cond.and given_1 narrow_1).before args s = true
def lw_Q (_ : Array Value) (s : State) (o : Outcome) (t : State) : Prop := o = .returned (some (.int 1)) ∧ Framed s o t [] 600000 7302250
def lw_Z (below : List Frame) (a : Array Value) (s : State) : State → Prop := fun t => ∃ o, t.status = .running ∧ Ended t below o ∧ lw_Q a s o t
/-- the law's own end, with 1 on the stack, nothing written that was there before, its room as the claim has it -/
theorem lw_ret {p : Program} {l : Launch} {e : Env} {s : State} {m : MethodId} {below : List Frame} {meth : Method} {c : Code} {b : Nat} (hx : p.tables.exec = Jvm.exec) (hb : c.code = code) (hr : meth.sig.returnType = ret) (hlocks : meth.locks = false) {pc : Nat} {H : Heap} {ls : Array Slot} (hdg : decode code pc = .ok (.ireturn, 1)) : W p l e room_1 s m #[Value.ref b] below meth c H [] 600000 7302250 (lw_Z below #[Value.ref b] s) (F0 m pc ls [.int 1]) := by
  intro T hT X
  obtain ⟨fs, hret, hrun, hended, hW, hframe⟩ := X.leave (v := some (.int 1)) (hlocks := hlocks) (fun h => by rw [hr] at h; cases h)
  have hmeth' : T.vm.method? m = some meth := X.method'
  refine ⟨T.setFrames fs, ?_, .returned (some (.int 1)), hrun, hended, rfl, ⟨_, rfl⟩, hW, hframe⟩
  jvm_step X.here [X.here.top, hx, hb, hdg, hmeth', hr, ret, narrow_b1]
  (try refine ⟨rfl, ?_⟩); (try refine ⟨rfl, ?_⟩)
  first | (intro acts; rw [hret _ acts rfl rfl rfl]) | rw [hret _ _ rfl rfl rfl]
  exact Steps.refl _
/-- what holds at the law's entry: the machine, the code, the tables' words (any of lw_tbl by 'hts w (by decide +kernel)'), the script of L ints xs at the cell b, what the Statement gives of the start (any of its parts by flat_of_before) -/
def lw_At (p : Program) (s : State) (m : MethodId) (meth : Method) (c : Code) (b L : Nat) (xs : Nat → Int32) : Prop :=
  p.tables.exec = Jvm.exec ∧ c.code = code ∧ meth.sig.returnType = ret ∧ c.maxLocals = 4 ∧ s.vm.findClass R_law = some m.cls ∧ (∀ w ∈ lw_tbl, w.before #[Value.ref b] s = true) ∧ va_X b L xs s s.heap ∧ b < s.heap.size ∧ meth.locks = false ∧ (Jvm.Cond.and given_1 narrow_1).before #[Value.ref b] s = true
theorem kr_v_t_0 : Cond.instantiable RX0 4 ∈ kr_gw := kr_gm (i := 287) (by decide +kernel) rfl
theorem kr_v_t_1 : Cond.instantiable RX1 8 ∈ kr_gw := kr_gm (i := 323) (by decide +kernel) rfl
theorem kr_v_t_2 : Cond.instantiable RX2 10 ∈ kr_gw := kr_gm (i := 193) (by decide +kernel) rfl
theorem kr_v_t_3 : Cond.instantiable RX3 18 ∈ kr_gw := kr_gm (i := 77) (by decide +kernel) rfl
theorem kr_v_t_4 : Cond.instantiable RX4 3 ∈ kr_gw := kr_gm (i := 306) (by decide +kernel) rfl
theorem kr_v_t_5 : Cond.instantiable RX5 3 ∈ kr_gw := kr_gm (i := 360) (by decide +kernel) rfl
theorem kr_v_t_6 : Cond.instantiable RX6 2 ∈ kr_gw := kr_gm (i := 178) (by decide +kernel) rfl
theorem kr_v_t_7 : Cond.instantiable RX7 8 ∈ kr_gw := kr_gm (i := 252) (by decide +kernel) rfl
theorem kr_v_t_8 : Cond.instantiable RX8 3 ∈ kr_gw := kr_gm (i := 236) (by decide +kernel) rfl
theorem kr_v_t_9 : Cond.instantiable RX9 12 ∈ kr_gw := kr_gm (i := 69) (by decide +kernel) rfl
theorem kr_v_t_10 : Cond.instantiable RX10 45 ∈ kr_gw := kr_gm (i := 1035) (by decide +kernel) rfl
theorem kr_v_int : Cond.arrayClass .int ∈ kr_gw := kr_gm (i := 176) (by decide +kernel) rfl
theorem kr_v_bool : Cond.arrayClass .boolean ∈ kr_gw := kr_gm (i := 1184) (by decide +kernel) rfl
theorem kr_v_ao : Cond.arrayOver (.object "ChalkRoads$Rock") ∈ lw_tbl := List.mem_of_getElem? (i := 375) (by decide +kernel)
theorem kr_v_k9 : Cond.classLink RL 7 RX9 ∈ kr_gw := kr_gm (i := 68) (by decide +kernel) rfl
theorem kr_v_k10 : Cond.classLink RL 10 RX10 ∈ kr_gw := kr_gm (i := 1034) (by decide +kernel) rfl
theorem kr_v_z9 : Cond.initialized RX9 ∈ kr_gw := kr_gm (i := 50) (by decide +kernel) rfl
theorem kr_v_z10 : Cond.initialized RX10 ∈ kr_gw := kr_gm (i := 60) (by decide +kernel) rfl
theorem kr_v_n9 : Cond.methodLink RL 9 yX9_init ∈ kr_gw := kr_gm (i := 70) (by decide +kernel) rfl
theorem kr_v_i9 : Cond.instanceMethod yX9_init ∈ kr_gw := kr_gm (i := 71) (by decide +kernel) rfl
theorem kr_v_c9 : Cond.code yX9_init cX9_init 2 none ∈ kr_gw := kr_gm (i := 72) (by decide +kernel) rfl
theorem kr_v_n10 : Cond.methodLink RL 12 yX10_init ∈ kr_gw := kr_gm (i := 1036) (by decide +kernel) rfl
theorem kr_v_i10 : Cond.instanceMethod yX10_init ∈ kr_gw := kr_gm (i := 1037) (by decide +kernel) rfl
theorem kr_v_c10 : Cond.code yX10_init cX10_init 2 none ∈ kr_gw := kr_gm (i := 1038) (by decide +kernel) rfl
theorem kr_v_s0 : Cond.stringRef "ChalkRoads$Reader" 68 "points" ∈ lw_tbl := List.mem_of_getElem? (i := 466) (by decide +kernel)
theorem kr_v_s1 : Cond.stringRef "ChalkRoads$Reader" 76 "house" ∈ lw_tbl := List.mem_of_getElem? (i := 531) (by decide +kernel)
theorem kr_v_s2 : Cond.stringRef "ChalkRoads$Reader" 81 "line" ∈ lw_tbl := List.mem_of_getElem? (i := 547) (by decide +kernel)
theorem kr_v_s3 : Cond.stringRef "ChalkRoads$Reader" 86 "drawer" ∈ lw_tbl := List.mem_of_getElem? (i := 561) (by decide +kernel)
theorem kr_v_s4 : Cond.stringRef "ChalkRoads$Reader" 91 "one" ∈ lw_tbl := List.mem_of_getElem? (i := 570) (by decide +kernel)
theorem kr_v_s5 : Cond.stringRef "ChalkRoads$Reader" 96 "rain" ∈ lw_tbl := List.mem_of_getElem? (i := 579) (by decide +kernel)
theorem kr_v_s6 : Cond.stringRef "ChalkRoads$Reader" 131 "roof" ∈ lw_tbl := List.mem_of_getElem? (i := 560) (by decide +kernel)
theorem kr_v_lc : Cond.laysStatic "java/lang/String" "COMPACT_STRINGS" "Z" ∈ lw_tbl := List.mem_of_getElem? (i := 480) (by decide +kernel)
theorem kr_v_ls : Cond.laysStatic "jdk/internal/util/Preconditions" "SIOOBE_FORMATTER" "Ljava/util/function/BiFunction;" ∈ lw_tbl := List.mem_of_getElem? (i := 496) (by decide +kernel)
theorem kr_v_zS : Cond.initialized "java/lang/String" ∈ lw_tbl := List.mem_of_getElem? (i := 61) (by decide +kernel)
theorem kr_v_zP : Cond.initialized "jdk/internal/util/Preconditions" ∈ lw_tbl := List.mem_of_getElem? (i := 63) (by decide +kernel)
theorem kr_v_m0 : Cond.methodLinkNest "ChalkRoads$Rock" 78 (kr_nm 190) "ChalkRoads" ∈ lw_tbl := List.mem_of_getElem? (i := 540) (by decide +kernel)
theorem kr_v_m1 : Cond.methodLinkNest "ChalkRoads$Rock" 82 (kr_nm 194) "ChalkRoads" ∈ lw_tbl := List.mem_of_getElem? (i := 588) (by decide +kernel)
theorem kr_v_m2 : Cond.methodLinkNest "ChalkRoads$Ways" 41 (kr_nm 190) "ChalkRoads" ∈ lw_tbl := List.mem_of_getElem? (i := 722) (by decide +kernel)
theorem kr_v_m3 : Cond.methodLinkNest "ChalkRoads$Sharing" 38 (kr_nm 190) "ChalkRoads" ∈ lw_tbl := List.mem_of_getElem? (i := 902) (by decide +kernel)
theorem kr_v_m4 : Cond.methodLinkNest "ChalkRoads$Guess" 61 (kr_nm 190) "ChalkRoads" ∈ lw_tbl := List.mem_of_getElem? (i := 934) (by decide +kernel)
theorem kr_v_m5 : Cond.methodLinkNest "ChalkRoads$Guess" 68 (kr_nm 177) "ChalkRoads" ∈ lw_tbl := List.mem_of_getElem? (i := 939) (by decide +kernel)
theorem dL_law_0 : decode cL_law 0 = .ok (.new 7, 3) := by decide +kernel
theorem dL_law_3 : decode cL_law 3 = .ok (.dup, 1) := by decide +kernel
theorem dL_law_4 : decode cL_law 4 = .ok (.invokespecial 9, 3) := by decide +kernel
theorem dL_law_7 : decode cL_law 7 = .ok (.astore_n 1, 1) := by decide +kernel
theorem dL_law_8 : decode cL_law 8 = .ok (.new 10, 3) := by decide +kernel
theorem dL_law_11 : decode cL_law 11 = .ok (.dup, 1) := by decide +kernel
theorem dL_law_12 : decode cL_law 12 = .ok (.invokespecial 12, 3) := by decide +kernel
theorem dL_law_15 : decode cL_law 15 = .ok (.astore_n 2, 1) := by decide +kernel
theorem kr_D_unrot {A : Nat → Prop} {x : Nat × va_E} {w : va_W} (h : va_D A (w ++ [x])) : va_D A (x :: w) := by
  have key : ∀ i p, (x :: w)[i]? = some p → (w ++ [x])[if i = 0 then w.length else i - 1]? = some p ∧ i ≤ w.length := by
    intro i p hi
    cases i with
    | zero =>
      refine ⟨?_, Nat.zero_le _⟩
      rw [if_pos rfl, List.getElem?_append_right (Nat.le_refl _), Nat.sub_self]
      exact hi
    | succ i =>
      rw [List.getElem?_cons_succ] at hi
      have hl : i < w.length := (List.getElem?_eq_some_iff.mp hi).1
      rw [if_neg (Nat.succ_ne_zero i), Nat.add_sub_cancel, List.getElem?_append_left hl]
      exact ⟨hi, hl⟩
  refine ⟨fun i j p q h1 h2 h3 => ?_, fun k q hk => h.2 _ q (key k q hk).1⟩
  obtain ⟨a1, a2⟩ := key i p h1
  obtain ⟨b1, b2⟩ := key j q h2
  have := h.1 _ _ p q a1 b1 h3
  split at this <;> split at this <;> omega
theorem kr_P_unrot {D : va_G} {cl : List vw_C} {x : Nat × va_E} {w : va_W} {H : Heap} (h : va_P D cl (w ++ [x]) H) : va_P D cl (x :: w) H := by
  intro k q hq
  have hm : q ∈ x :: w := List.mem_of_getElem? hq
  have hm2 : q ∈ w ++ [x] := by
    rcases List.mem_cons.mp hm with a | a
    · exact List.mem_append.mpr (Or.inr (List.mem_singleton.mpr a))
    · exact List.mem_append.mpr (Or.inl a)
  obtain ⟨k', hk'⟩ := List.getElem?_of_mem hm2
  exact h k' q hk'
/-- the classes' numbers -/
theorem kr_Dex {s : State} {args : Array Value} (hts : ∀ w ∈ kr_gw, w.before args s = true) : ∃ D : va_G, ∀ (k : Nat) (q : vw_C), vwCl[k]? = some q → u_Kn s q.1 q.2.1 q.2.2 (D.1 k) (D.2 k) := by
  have h : ∀ k : Nat, ∃ d : ClassId × (Nat → Nat), ∀ q : vw_C, vwCl[k]? = some q → u_Kn s q.1 q.2.1 q.2.2 d.1 d.2 := by
    intro k
    match k with
    | 0 =>
      obtain ⟨c, i, h⟩ := u_known (C := RX0) (T := TX0) (N := 4) (n := 4) hts kr_cl0.2.1 (hts _ kr_v_t_0)
      exact ⟨(c, i), fun q hq => by obtain rfl : (RX0, TX0, 4) = q := Option.some.inj hq; exact h⟩
    | 1 =>
      obtain ⟨c, i, h⟩ := u_known (C := RX1) (T := TX1) (N := 8) (n := 8) hts kr_cl1.2.1 (hts _ kr_v_t_1)
      exact ⟨(c, i), fun q hq => by obtain rfl : (RX1, TX1, 8) = q := Option.some.inj hq; exact h⟩
    | 2 =>
      obtain ⟨c, i, h⟩ := u_known (C := RX2) (T := TX2) (N := 10) (n := 10) hts kr_cl2.2.1 (hts _ kr_v_t_2)
      exact ⟨(c, i), fun q hq => by obtain rfl : (RX2, TX2, 10) = q := Option.some.inj hq; exact h⟩
    | 3 =>
      obtain ⟨c, i, h⟩ := u_known (C := RX3) (T := TX3) (N := 18) (n := 18) hts kr_cl3.2.1 (hts _ kr_v_t_3)
      exact ⟨(c, i), fun q hq => by obtain rfl : (RX3, TX3, 18) = q := Option.some.inj hq; exact h⟩
    | 4 =>
      obtain ⟨c, i, h⟩ := u_known (C := RX4) (T := TX4) (N := 3) (n := 3) hts kr_cl4.2.1 (hts _ kr_v_t_4)
      exact ⟨(c, i), fun q hq => by obtain rfl : (RX4, TX4, 3) = q := Option.some.inj hq; exact h⟩
    | 5 =>
      obtain ⟨c, i, h⟩ := u_known (C := RX5) (T := TX5) (N := 3) (n := 3) hts kr_cl5.2.1 (hts _ kr_v_t_5)
      exact ⟨(c, i), fun q hq => by obtain rfl : (RX5, TX5, 3) = q := Option.some.inj hq; exact h⟩
    | 6 =>
      obtain ⟨c, i, h⟩ := u_known (C := RX6) (T := TX6) (N := 2) (n := 2) hts kr_cl6.2.1 (hts _ kr_v_t_6)
      exact ⟨(c, i), fun q hq => by obtain rfl : (RX6, TX6, 2) = q := Option.some.inj hq; exact h⟩
    | 7 =>
      obtain ⟨c, i, h⟩ := u_known (C := RX7) (T := TX7) (N := 8) (n := 8) hts kr_cl7.2.1 (hts _ kr_v_t_7)
      exact ⟨(c, i), fun q hq => by obtain rfl : (RX7, TX7, 8) = q := Option.some.inj hq; exact h⟩
    | 8 =>
      obtain ⟨c, i, h⟩ := u_known (C := RX8) (T := TX8) (N := 3) (n := 3) hts kr_cl8.2.1 (hts _ kr_v_t_8)
      exact ⟨(c, i), fun q hq => by obtain rfl : (RX8, TX8, 3) = q := Option.some.inj hq; exact h⟩
    | 9 =>
      obtain ⟨c, i, h⟩ := u_known (C := RX9) (T := TX9) (N := 12) (n := 12) hts kr_cl9.2.1 (hts _ kr_v_t_9)
      exact ⟨(c, i), fun q hq => by obtain rfl : (RX9, TX9, 12) = q := Option.some.inj hq; exact h⟩
    | 10 =>
      obtain ⟨c, i, h⟩ := u_known (C := RX10) (T := TX10) (N := 45) (n := 45) hts kr_cl10.2.1 (hts _ kr_v_t_10)
      exact ⟨(c, i), fun q hq => by obtain rfl : (RX10, TX10, 45) = q := Option.some.inj hq; exact h⟩
    | k + 11 =>
      obtain ⟨c, i, h⟩ := u_known (C := RX0) (T := TX0) (N := 4) (n := 4) hts kr_cl0.2.1 (hts _ kr_v_t_0)
      exact ⟨(c, i), fun q hq => by simp [vwCl] at hq⟩
  obtain ⟨f, hf⟩ := Classical.axiomOfChoice h
  exact ⟨(fun k => (f k).1, fun k => (f k).2), hf⟩
/-- the array classes' numbers -/
theorem kr_Aex {s : State} {args : Array Value} (h1 : (Cond.arrayClass .int).before args s = true) (h2 : (Cond.arrayClass .boolean).before args s = true) (h3 : va_AO "ChalkRoads$Rock" s) : ∃ cs : ClassId × ClassId × ClassId, ∀ (k : Nat) (q : ClassId × FieldType), (kr_tys cs)[k]? = some q → ArrOfT s q.1 q.2 ∧ va_RA s q.1 q.2 := by
  obtain ⟨a, ka, ca, a1, a2, a3⟩ := Cond.arrayClass_spec h1
  obtain ⟨b, kb, cb, b1, b2, b3⟩ := Cond.arrayClass_spec h2
  obtain ⟨comp, c, k, c1, -, c3, c4, c5⟩ := Cond.arrayOver_spec h3
  refine ⟨(a, b, c), fun i q hq => ?_⟩
  match i, hq with
  | 0, hq => obtain rfl : (a, FieldType.int) = q := Option.some.inj hq; exact ⟨fun n z => ⟨(fun k h => by cases h), ka, a2, ca, a3⟩, a1⟩
  | 1, hq => obtain rfl : (b, FieldType.boolean) = q := Option.some.inj hq; exact ⟨fun n z => ⟨(fun k h => by cases h), kb, b2, cb, b3⟩, b1⟩
  | 2, hq => obtain rfl : (c, FieldType.object "ChalkRoads$Rock") = q := Option.some.inj hq; exact ⟨fun n z => ⟨(fun k h => by cases h), k, c3, comp, c4⟩, k, comp, c3, c4, c1, c5⟩
  | i + 3, hq => simp [kr_tys] at hq
/-- the String constants -/
abbrev kr_tm (i : Nat) : Term := .string "ChalkRoads$Reader" (kr_sk.getD i (0, "")).1
abbrev kr_fl : List Cond := flatC (Jvm.Cond.and given_1 narrow_1)
theorem kr_x1 : ∀ i, i < 7 → Cond.exactly (kr_tm i) "java/lang/String" ∈ kr_fl := by decide +kernel
theorem kr_x2 : ∀ i, i < 7 → Cond.eq (.field (kr_tm i) "java/lang/String" "coder" "B") (.int 0) ∈ kr_fl := by decide +kernel
theorem kr_x3 : ∀ i, i < 7 → Cond.arrayOf (.field (kr_tm i) "java/lang/String" "value" "[B") .byte ∈ kr_fl := by decide +kernel
theorem kr_x4 : ∀ i, i < 7 → Cond.eq (.length (.field (kr_tm i) "java/lang/String" "value" "[B")) (.int (Int32.ofNat (kr_len.getD i 0))) ∈ kr_fl := by decide +kernel
theorem kr_x5 : ∀ i, i < 7 → ∀ j, j < kr_len.getD i 0 → Cond.eq (.elem (.field (kr_tm i) "java/lang/String" "value" "[B") (.int (Int32.ofNat j))) (.int ((kr_txt.getD i []).getD j 0)) ∈ kr_fl := by decide +kernel
theorem kr_x6 : ∀ i, i < 7 → ∀ j, j < 7 → i ≠ j → (Cond.not (Cond.eq (kr_tm i) (kr_tm j)) ∈ kr_fl ∨ Cond.not (Cond.eq (kr_tm j) (kr_tm i)) ∈ kr_fl) := by decide +kernel
theorem kr_x7 : Cond.eq (.static "java/lang/String" "COMPACT_STRINGS" "Z") (.int 1) ∈ kr_fl := by decide +kernel
theorem kr_x8 : Cond.isRef (.static "jdk/internal/util/Preconditions" "SIOOBE_FORMATTER" "Ljava/util/function/BiFunction;") ∈ kr_fl := by decide +kernel
theorem kr_Stex {s : State} {b : Nat} (hts : ∀ w ∈ lw_tbl, w.before #[Value.ref b] s = true) (hgv : (Jvm.Cond.and given_1 narrow_1).before #[Value.ref b] s = true) : ∃ aS : Nat → Nat, kr_St aS (fun q => s.heap.size ≤ q) s s.heap ∧ aS 101 = b := by
  have hs := flat_of_before _ hgv
  have hA : ∀ a : Nat, a < s.heap.size → ¬ (fun q : Nat => s.heap.size ≤ q) a := fun a h => Nat.not_le.mpr h
  obtain ⟨adK, adV, hS, hE⟩ := vk_Sof (args := #[Value.ref b]) (s := s) (N := 7) (tm := kr_tm) (len := kr_len) (byt := kr_txt) (A := fun q => s.heap.size ≤ q) (by decide +kernel) (fun i hi => hs _ (kr_x1 i hi)) (fun i hi => hs _ (kr_x2 i hi)) (fun i hi => hs _ (kr_x3 i hi)) (fun i hi => hs _ (kr_x4 i hi)) (fun i hi j hj => hs _ (kr_x5 i hi j hj)) (fun i j hi hj hij => (kr_x6 i hi j hj hij).imp (hs _) (hs _)) hA
  have hC := va_Zof (A := fun q => s.heap.size ≤ q) (hts _ kr_v_lc) (hts _ kr_v_zS) (va_eqi (hs _ kr_x7)) hA
  have hZ : ∃ z : Nat, va_Z "jdk/internal/util/Preconditions" "SIOOBE_FORMATTER" "Ljava/util/function/BiFunction;" .null (fun q => s.heap.size ≤ q) s s.heap ∨ va_Z "jdk/internal/util/Preconditions" "SIOOBE_FORMATTER" "Ljava/util/function/BiFunction;" (.ref z) (fun q => s.heap.size ≤ q) s s.heap := by
    obtain ⟨v, hv, hr⟩ := Cond.isRef_spec (hs _ kr_x8)
    have h9 := va_Zof (A := fun q => s.heap.size ≤ q) (hts _ kr_v_ls) (hts _ kr_v_zP) hv hA
    cases v with
    | null => exact ⟨0, Or.inl h9⟩
    | ref z => exact ⟨z, Or.inr h9⟩
    | _ => simp [Value.isRef] at hr
  obtain ⟨z, hZ⟩ := hZ
  have e1 : ∀ i, i < 7 → (fun k : Nat => if k < 93 then adK (k - 86) else if k < 100 then adV (k - 93) else if k = 100 then z else b) (86 + i) = adK i := by
    intro i hi
    show (if 86 + i < 93 then _ else _) = _
    rw [if_pos (by omega), Nat.add_sub_cancel_left]
  have e2 : ∀ i, i < 7 → (fun k : Nat => if k < 93 then adK (k - 86) else if k < 100 then adV (k - 93) else if k = 100 then z else b) (93 + i) = adV i := by
    intro i hi
    show (if 93 + i < 93 then _ else if 93 + i < 100 then _ else _) = _
    rw [if_neg (by omega), if_pos (by omega), Nat.add_sub_cancel_left]
  refine ⟨fun k => if k < 93 then adK (k - 86) else if k < 100 then adV (k - 93) else if k = 100 then z else b, ⟨⟨fun i hi => ?_, fun i j hi hj he => ?_⟩, fun i q hq => ?_, hC, hZ, ?_⟩, rfl⟩
  · have h := hS.1 i hi
    rw [← e1 i hi, ← e2 i hi] at h
    exact h
  · exact hS.2 i j hi hj ((e1 i hi).symm.trans (he.trans (e1 j hj)))
  · have hi : i < 7 := (List.getElem?_eq_some_iff.mp hq).1
    have h := hE i hi
    rw [← e1 i hi] at h
    have hw : Cond.stringRef "ChalkRoads$Reader" q.1 q.2 ∈ lw_tbl := by
      match i, hq with
      | 0, hq => obtain rfl : (68, "points") = q := Option.some.inj hq; exact kr_v_s0
      | 1, hq => obtain rfl : (76, "house") = q := Option.some.inj hq; exact kr_v_s1
      | 2, hq => obtain rfl : (81, "line") = q := Option.some.inj hq; exact kr_v_s2
      | 3, hq => obtain rfl : (86, "drawer") = q := Option.some.inj hq; exact kr_v_s3
      | 4, hq => obtain rfl : (91, "one") = q := Option.some.inj hq; exact kr_v_s4
      | 5, hq => obtain rfl : (96, "rain") = q := Option.some.inj hq; exact kr_v_s5
      | 6, hq => obtain rfl : (131, "roof") = q := Option.some.inj hq; exact kr_v_s6
      | i + 7, hq => omega
    have hq1 : (kr_sk.getD i (0, "")).1 = q.1 := by rw [List.getD_eq_getElem?_getD, hq]; rfl
    have h' : (Term.string "ChalkRoads$Reader" (kr_sk.getD i (0, "")).1).eval #[Value.ref b] s none [] s = _ := h
    rw [hq1] at h'
    exact vk_R.of (hts _ hw) h'
  · have hn : ∀ q ∈ kr_nst, Cond.methodLinkNest q.1 q.2.1 (kr_nm q.2.2) "ChalkRoads" ∈ lw_tbl :=
      List.forall_mem_cons.mpr ⟨kr_v_m0, List.forall_mem_cons.mpr ⟨kr_v_m1, List.forall_mem_cons.mpr ⟨kr_v_m2, List.forall_mem_cons.mpr ⟨kr_v_m3, List.forall_mem_cons.mpr ⟨kr_v_m4, List.forall_mem_cons.mpr ⟨kr_v_m5, fun _ h => absurd h List.not_mem_nil⟩⟩⟩⟩⟩⟩
    exact fun q hq => va_Nw.of rfl (hts _ (hn q hq))
set_option maxHeartbeats 4000000 in
set_option maxRecDepth 100000 in
/-- from the entry, for every script of at most 2560 ints, the law comes to its end with true -/
theorem whole_start {p : Program} {e : Env} {s : State} {m : MethodId} {below : List Frame} {meth : Method} {c : Code} (l : Launch) (hflags : l.flags = flags0) {b L : Nat} {xs : Nat → Int32} (hL : L ≤ 2560) (C0 : lw_At p s m meth c b L xs) : W p l e room_1 s m #[Value.ref b] below meth c s.heap [] 0 0 (lw_Z below #[Value.ref b] s) (entryFrame m ([Value.ref b] : List Value).toArray 4) := by
  obtain ⟨hx, hb, hr, hml, hown, hts, hX, hbl, hlocks, hgv⟩ := id C0
  have hgw : ∀ w ∈ kr_gw, w.before #[Value.ref b] s = true := fun w hw => hts w (List.mem_filter.mp hw).1
  have hAO : va_AO "ChalkRoads$Rock" s := va_AO.of (hts _ kr_v_ao)
  obtain ⟨D, hKc⟩ := kr_Dex hgw
  obtain ⟨cs, hKa⟩ := kr_Aex (hgw _ kr_v_int) (hgw _ kr_v_bool) hAO
  have hK : va_K D vwCl (kr_tys cs) s := ⟨hKc, hKa⟩
  obtain ⟨aS, hSt, h101⟩ := kr_Stex hts hgv
  have hbA : ¬ (fun q : Nat => s.heap.size ≤ q) b := Nat.not_le.mpr hbl
  have hA : ∀ q : Nat, s.heap.size ≤ q → (fun q : Nat => s.heap.size ≤ q) q := fun q h => h
  have hA' : ∀ q : Nat, (fun q : Nat => s.heap.size ≤ q) q → s.heap.size ≤ q := fun q h => h
  generalize (fun q : Nat => s.heap.size ≤ q) = A at hSt hbA hA hA'
  have hS : va_S A s.heap s.heap [] := va_S.rf
  have hP : va_P D vwCl [] s.heap := fun k q h => by simp at h
  have hD : va_D A [] := ⟨fun i j p q h => by simp at h, fun k q h => by simp at h⟩
  have hl := lv_entry ([.ref b]) (n := 4) (Nat.le_of_ble_eq_true rfl)
  rw [lg_entry_eq]
  generalize (lg_sl ([.ref b]) ++ List.replicate (4 - (lg_sl ([.ref b])).length) Slot.unset).toArray = ls at hl ⊢
  have hl : lv_has ls 4 [(0, .ref b)] := hl
  refine va_new (ci := 9) (fs := n_f9) (C := RX9) (T := TX9) (N := 12) hx hb hgw kr_cl9.2.1 tyX9 tyX9_ok hown (hgw _ kr_v_k9) (hgw _ kr_v_t_9) (hgw _ kr_v_z9) hK hP hD hS hA rfl n_df9 (Nat.le_of_ble_eq_true rfl) (Nat.le_of_ble_eq_true rfl) dL_law_0 (fun g0 H hP hD hS => ?_)
  have hP : va_P D vwCl [(g0, .inr (9, n_f9))] H := hP
  have hD : va_D A [(g0, .inr (9, n_f9))] := hD
  refine lv_dup hx hb dL_law_3 rfl ?_
  have hFc := va_free (wc := [(g0, .inr (9, n_f9))]) hD hS hA [0] rfl
  refine va_callv (va_runI (b := g0) (As := []) (rest := [.ref g0]) ⟨hx, hb, hml, hown, hgw⟩ (n_X9 l D cs g0 H.size) (cwI 0 hgw (kr_mi_good kr_v_c9) rfl rfl rfl (hgw _ kr_v_z9) (hgw _ kr_v_n9) (hgw _ kr_v_i9) rfl (by decide +kernel) ⟨Nat.le_of_ble_eq_true rfl, Nat.le_of_ble_eq_true rfl⟩) ⟨fun a U g mk q => by obtain ⟨q0, q1, qP, qK, qD, qA⟩ := q; exact ⟨q0, q1, qP, va_K.moved (u := U) (U := U.calling g mk a) (Vm.Alike.refl U.vm) qK, qD, va_AO.moved (u := U) (U := U.calling g mk a) (Vm.Alike.refl U.vm) qA⟩, fun U hU hW => ⟨rfl, by rw [hU], by rw [hU]; exact hP, va_K.moved hW.alike hK, hD.weaken (fun _ _ _ _ => trivial), va_AO.moved hW.alike hAO⟩⟩ rfl rfl hl.1 rfl (lv_room (Nat.le_of_ble_eq_true rfl)) dL_law_4 ⟨Nat.le_of_ble_eq_true rfl, Nat.le_of_ble_eq_true rfl⟩) hS (fun q _ h => hFc q h) hFc (fun u t H1 locs ht hvm _ hB hz1 hk1 hS => ?_)
  obtain ⟨hP1, hD1⟩ := hB
  rw [ht] at hP1
  obtain ⟨hP, hD⟩ := va_join (wr := []) (w1 := w_X9 cs g0 u) hP hD [0] [] rfl rfl (by decide) (by decide) hk1 hFc hP1 hD1
  have hP : va_P D vwCl (w_X9 cs g0 u) H1 := hP
  have hD : va_D A (w_X9 cs g0 u) := hD
  clear hP1 hD1 hFc hk1 hz1
  refine lv_astore_n (lv' := [(1, .ref g0), (0, .ref b)]) hx hb dL_law_7 rfl hl (by decide) rfl (fun ls hl => ?_)
  refine va_new (ci := 10) (fs := n_f10) (C := RX10) (T := TX10) (N := 45) hx hb hgw kr_cl10.2.1 tyX10 tyX10_ok hown (hgw _ kr_v_k10) (hgw _ kr_v_t_10) (hgw _ kr_v_z10) hK hP hD hS hA rfl n_df10 (Nat.le_of_ble_eq_true rfl) (Nat.le_of_ble_eq_true rfl) dL_law_8 (fun h0 H2 hP hD hS => ?_)
  have hP : va_P D vwCl (w_X910 cs g0 u h0) H2 := kr_P_unrot hP
  have hD : va_D A (w_X910 cs g0 u h0) := kr_D_unrot hD
  refine lv_dup hx hb dL_law_11 rfl ?_
  have hFc : ∀ q, va_A (w_X910 cs g0 u h0) H2.size q → A q := fun q h => h.elim (fun ⟨k, e, hk⟩ => hD.2 k (q, e) hk) (fun h => hA q (Nat.le_trans hS.1 h))
  refine va_callv (va_runI (b := h0) (As := []) (rest := [.ref h0]) ⟨hx, hb, hml, hown, hgw⟩ (n_X10 l D cs g0 u aS h0 H2.size) (cwI 0 hgw (kr_mi_good kr_v_c10) rfl rfl rfl (hgw _ kr_v_z10) (hgw _ kr_v_n10) (hgw _ kr_v_i10) rfl (by decide +kernel) ⟨Nat.le_of_ble_eq_true rfl, Nat.le_of_ble_eq_true rfl⟩) ⟨fun a U g mk q => by obtain ⟨q0, q1, qP, qK, qD, qA⟩ := q; exact ⟨q0, q1, qP, va_K.moved (u := U) (U := U.calling g mk a) (Vm.Alike.refl U.vm) qK, qD, qA.same rfl⟩, fun U hU hW => ⟨rfl, by rw [hU], by rw [hU]; exact hP, va_K.moved hW.alike hK, hD.weaken (fun _ _ _ _ => trivial), by rw [hU]; exact ((hSt.kept hS.2.1).narrow hFc).warm hW⟩⟩ rfl rfl hl.1 rfl (lv_room (Nat.le_of_ble_eq_true rfl)) dL_law_12 ⟨Nat.le_of_ble_eq_true rfl, Nat.le_of_ble_eq_true rfl⟩) hS (fun q _ h => hFc q h) hFc (fun w t H3 locs ht hvm hpost hB hz1 hk1 hS => ?_)
  obtain ⟨ad, μ⟩ := w
  obtain ⟨e0, e65, ehi, hinj, hAd0, hGC, hGM⟩ := hpost
  have e0 : ad 0 = g0 := e0
  have e65 : ad 65 = h0 := e65
  have ehi : ∀ k, 86 ≤ k → ad k = aS k := ehi
  have hinj : kr_inj ad := hinj
  have hAd : ∀ k, k < 86 → A (ad k) := fun k hk => hFc _ (hAd0 k hk)
  have hGC : kr_GC μ kr_σ0 := hGC
  have hGM : kr_GM μ kr_σ0 := hGM
  have hP3 : va_P D vwCl (kr_ws ad cs μ) H3 := by rw [← ht]; exact hB
  clear hB hP hD
  refine lv_astore_n (lv' := [(2, .ref h0), (1, .ref g0), (0, .ref b)]) hx hb dL_law_15 rfl hl (by decide) rfl (fun ls hl => ?_)
  refine W.widen (k := 600000) (n := 7302250) (Nat.le_of_ble_eq_true rfl) (Nat.le_of_ble_eq_true rfl) ?_
  have e101 : ad 101 = b := (ehi 101 (by decide)).trans h101
  have hO : kr_Os l room_1 D ad cs (kr_c 40) := by
    intro y' as' μ' Q' h'
    refine ⟨kr_rm 40, rfl, rfl, Nat.le_of_ble_eq_true rfl, ?_, kr_all l D ad cs hinj 40 y' as' μ' Q' h'⟩
    have := kr_mL_le y'
    show 8 + (kr_mL y' + 11) + (60 + 40 * 40) ≤ 84000
    omega
  have hCx : kr_Cx (kr_EX L xs) RL cL_law 4 p room_1 s m #[Value.ref b] c A D ad cs 600000 7302250 :=
    ⟨⟨hx, hb, hml, hown, hgw⟩, hK, hinj, hAd, hSt.cg ehi, ⟨Nat.le_refl _, Nat.le_refl _⟩, ⟨Nat.le_of_ble_eq_true rfl, Nat.le_of_ble_eq_true rfl⟩, by rw [kr_EX, e101]; exact ⟨hX, hbl, hbA⟩⟩
  have hR : kr_Rt p l e room_1 s m #[Value.ref b] below meth c A D ad cs 600000 7302250 (lw_Z below #[Value.ref b] s) cL_law ret (fun v _ => v = some (.int 1)) := by
    refine ⟨fun pc v ty μ H locs lsA hd hrt hn hq hP hS => ?_, fun pc μ H locs lsA hd hrt hq hP hS => absurd hrt (by decide)⟩
    cases hq
    exact va_forget (fun q hq => hA' _ (hS.2.2 q hq)) (lw_ret hx hb hr hlocks hd)
  have hlh : kr_lh ad 4 ls [some (.ref 101), some (.ref 0), some (.ref 65), none] := by
    refine ⟨hl.1, hl.2.1, fun i v hv => ?_⟩
    match i, hv with
    | 0, hv =>
      cases hv
      show ls[0]? = some (.val (.ref (ad 101)))
      rw [e101]
      exact lv_at hl 2 rfl
    | 1, hv =>
      cases hv
      show ls[1]? = some (.val (.ref (ad 0)))
      rw [e0]
      exact lv_at hl 1 rfl
    | 2, hv =>
      cases hv
      show ls[2]? = some (.val (.ref (ad 65)))
      rw [e65]
      exact lv_at hl 0 rfl
    | 3, hv => cases hv
    | i + 4, hv => cases hv
  have key : kr_Wp (C_law L xs) (kr_c 40) (fun v _ => v = some (.int 1)) 16 [some (.ref 101), some (.ref 0), some (.ref 65), none] [] μ :=
    st_law (st_law (c_law hL (fun μ => rfl) (L + 1) 0 μ kr_σ0 (by omega) (by omega) kr_GW0 hGC hGM))
  exact key (kr_WK p l e _ s m _ below meth c A D ad cs 600000 7302250 _ 4)
    (fun pc ls st μ k => (kr_ok_law L xs pc).1 p l e _ s m _ below meth c A D ad cs 600000 7302250 _ hCx (kr_c 40) hO _ _ (fun _ _ _ _ z => z) hR ls st μ k)
    (fun pc l1 l2 st μ hs k H locs lsA hP hS hl => k H locs lsA hP hS ⟨hl.1, hl.2.1, fun i v hv => hl.2.2 i v (hs i v hv)⟩) H3 _ ls hP3 hS hlh
