/-! instruction by instruction, against the kit's rows -/
/-- String constants and statics: what stays outside -/
def kr_sk : List (Nat × String) := [(68, "points"), (76, "house"), (81, "line"), (86, "drawer"), (91, "one"), (96, "rain"), (131, "roof")]
def kr_nst : List (String × Nat × Nat) := [("ChalkRoads$Rock", 78, 190), ("ChalkRoads$Rock", 82, 194), ("ChalkRoads$Ways", 41, 190), ("ChalkRoads$Sharing", 38, 190), ("ChalkRoads$Guess", 61, 190), ("ChalkRoads$Guess", 68, 177)]
def kr_St (ad : Nat → Nat) (A : Nat → Prop) (U : State) (H : Heap) : Prop :=
  vk_S 7 kr_len kr_txt (fun i => ad (86 + i)) (fun i => ad (93 + i)) A U H ∧ (∀ i : Nat, ∀ q : Nat × String, kr_sk[i]? = some q → vk_R "ChalkRoads$Reader" q.1 q.2 (ad (86 + i)) U) ∧
  va_Z "java/lang/String" "COMPACT_STRINGS" "Z" (.int 1) A U H ∧ (va_Z "jdk/internal/util/Preconditions" "SIOOBE_FORMATTER" "Ljava/util/function/BiFunction;" .null A U H ∨ va_Z "jdk/internal/util/Preconditions" "SIOOBE_FORMATTER" "Ljava/util/function/BiFunction;" (.ref (ad 100)) A U H) ∧
  ∀ q ∈ kr_nst, va_Nw (.methodLinkNest q.1 q.2.1 (kr_nm q.2.2) "ChalkRoads") U
theorem kr_St.narrow {ad : Nat → Nat} {A B : Nat → Prop} {U : State} {H : Heap} (h : kr_St ad A U H) (hAB : ∀ q, B q → A q) : kr_St ad B U H :=
  ⟨h.1.narrow hAB, h.2.1, h.2.2.1.narrow hAB, h.2.2.2.1.elim (fun z => Or.inl (z.narrow hAB)) (fun z => Or.inr (z.narrow hAB)), h.2.2.2.2⟩
theorem kr_St.kept {ad : Nat → Nat} {A : Nat → Prop} {U : State} {H H1 : Heap} (h : kr_St ad A U H) (hq : ∀ a : Nat, a < H.size → ¬ A a → H1[a]? = H[a]?) : kr_St ad A U H1 :=
  ⟨h.1.kept hq, h.2.1, h.2.2.1.kept hq, h.2.2.2.1.elim (fun z => Or.inl (z.kept hq)) (fun z => Or.inr (z.kept hq)), h.2.2.2.2⟩
theorem kr_St.warm {ad : Nat → Nat} {A : Nat → Prop} {s U : State} {H : Heap} (hW : s.WarmedH U.vm) (h : kr_St ad A s H) : kr_St ad A U H :=
  ⟨h.1.moved hW.alike, fun i q hq => (h.2.1 i q hq).warm hW, h.2.2.1.moved hW.alike, h.2.2.2.1.elim (fun z => Or.inl (z.moved hW.alike)) (fun z => Or.inr (z.moved hW.alike)), fun q hq => (h.2.2.2.2 q hq).warmM hW⟩
theorem kr_St.same {ad : Nat → Nat} {A : Nat → Prop} {u U : State} {H : Heap} (hv : U.vm = u.vm) (h : kr_St ad A u H) : kr_St ad A U H :=
  ⟨h.1.moved (by rw [hv]; exact Vm.Alike.refl _), fun i q hq => (h.2.1 i q hq).same hv, h.2.2.1.moved (by rw [hv]; exact Vm.Alike.refl _), h.2.2.2.1.elim (fun z => Or.inl (z.moved (by rw [hv]; exact Vm.Alike.refl _))) (fun z => Or.inr (z.moved (by rw [hv]; exact Vm.Alike.refl _))), fun q hq => va_Nw.same rfl hv.symm (h.2.2.2.2 q hq)⟩
abbrev kr_E : Type := State → (Nat → Nat) → (Nat → Prop) → Prop
def kr_WK (p : Program) (l : Launch) (e : Env) (R : Room) (s : State) (m : MethodId) (args : Array Value) (below : List Frame) (meth : Method) (c : Code) (A : Nat → Prop) (D : va_G) (ad : Nat → Nat) (cs : ClassId × ClassId × ClassId) (cells slots : Nat) (Qm : State → Prop) (nL : Nat) : kr_K :=
  fun pc ls st μ => ∀ (H : Heap) (locs : List Loc) (lsA : Array Slot), va_P D vwCl (kr_ws ad cs μ) H → va_S A s.heap H locs → kr_lh ad nL lsA ls → W p l e R s m args below meth c H locs cells slots Qm (F0 m pc lsA (st.map (kr_vv ad)))
def kr_Cx (E : kr_E) (own : String) (cc : ByteArray) (nL : Nat) (p : Program) (R : Room) (s : State) (m : MethodId) (args : Array Value) (c : Code) (A : Nat → Prop) (D : va_G) (ad : Nat → Nat) (cs : ClassId × ClassId × ClassId) (cells slots : Nat) : Prop :=
  (p.tables.exec = Jvm.exec ∧ c.code = cc ∧ c.maxLocals = nL ∧ s.vm.findClass own = some m.cls ∧ ∀ w ∈ kr_gw, w.before args s = true) ∧ va_K D vwCl (kr_tys cs) s ∧ kr_inj ad ∧ (∀ k, k < 86 → A (ad k)) ∧ kr_St ad A s s.heap ∧ (cells ≤ R.cells ∧ slots ≤ R.slots) ∧ (1 ≤ R.frames ∧ 60 ≤ R.locals) ∧ E s ad A
def kr_fr (ad : Nat → Nat) : Nat → Prop := fun q => ∃ k, k < 86 ∧ q = ad k
def kr_Pc (D : va_G) (ad : Nat → Nat) (cs : ClassId × ClassId × ClassId) (as : List Value) (μ : kr_M) : Array Value → State → Prop :=
  va_Pc (as.map (kr_vv ad)) (fun U => va_P D vwCl (kr_ws ad cs μ) U.heap ∧ va_K D vwCl (kr_tys cs) U ∧ kr_St ad (kr_fr ad) U U.heap)
def kr_Qc (D : va_G) (ad : Nat → Nat) (cs : ClassId × ClassId × ClassId) (Q : kr_Q) : Array Value → State → Outcome → State → Prop :=
  fun _ st o t => (∃ (v : Option Value) (μ : kr_M), o = .returned (v.map (kr_vv ad)) ∧ Q v μ ∧ va_P D vwCl (kr_ws ad cs μ) t.heap) ∧ va_F (kr_fr ad) st t
def kr_ms (y : Nat) : List Cond := .code (kr_nm y) (kr_bc y) (kr_mL y) (kr_rt y) :: kr_gw
/-- calls come out as CO says -/
def kr_Os (l : Launch) (R : Room) (D : va_G) (ad : Nat → Nat) (cs : ClassId × ClassId × ClassId) (CO : kr_O) : Prop := ∀ (y : Nat) (as : List Value) (μ : kr_M) (Q : kr_Q), CO y as μ Q →
  ∃ rm : Room, rm.cells = 0 ∧ rm.slots = 0 ∧ rm.frames + 1 ≤ R.frames ∧ 8 + (kr_mL y + 11) + rm.locals ≤ R.locals ∧ Met l (kr_nm y) (kr_ms y) rm (kr_Pc D ad cs as μ) (kr_Qc D ad cs Q) 0 0 (kr_fr ad)
def kr_Rt (p : Program) (l : Launch) (e : Env) (R : Room) (s : State) (m : MethodId) (args : Array Value) (below : List Frame) (meth : Method) (c : Code) (A : Nat → Prop) (D : va_G) (ad : Nat → Nat) (cs : ClassId × ClassId × ClassId) (cells slots : Nat) (Qm : State → Prop) (cc : ByteArray) (ret : Option FieldType) (Q : kr_Q) : Prop :=
  (∀ (pc : Nat) (v : Int32) (ty : FieldType) (μ : kr_M) (H : Heap) (locs : List Loc) (lsA : Array Slot), decode cc pc = .ok (.ireturn, 1) → ret = some ty → narrow ty (.int v) = .int v → Q (some (.int v)) μ → va_P D vwCl (kr_ws ad cs μ) H → va_S A s.heap H locs → W p l e R s m args below meth c H locs cells slots Qm (F0 m pc lsA [.int v])) ∧
  (∀ (pc : Nat) (μ : kr_M) (H : Heap) (locs : List Loc) (lsA : Array Slot), decode cc pc = .ok (.return_, 1) → ret = none → Q none μ → va_P D vwCl (kr_ws ad cs μ) H → va_S A s.heap H locs → W p l e R s m args below meth c H locs cells slots Qm (F0 m pc lsA []))
/-- the machine bears the instruction S at pc -/
def kr_Snd (E : kr_E) (own : String) (cc : ByteArray) (nL : Nat) (ret : Option FieldType) (S : kr_S) (pc : Nat) : Prop :=
  ∀ (p : Program) (l : Launch) (e : Env) (R : Room) (s : State) (m : MethodId) (args : Array Value) (below : List Frame) (meth : Method) (c : Code) (A : Nat → Prop) (D : va_G) (ad : Nat → Nat) (cs : ClassId × ClassId × ClassId) (cells slots : Nat) (Qm : State → Prop),
  kr_Cx E own cc nL p R s m args c A D ad cs cells slots → ∀ CO : kr_O, kr_Os l R D ad cs CO → ∀ (K : kr_K) (Q : kr_Q), (∀ pc ls st μ, K pc ls st μ → kr_WK p l e R s m args below meth c A D ad cs cells slots Qm nL pc ls st μ) →
  kr_Rt p l e R s m args below meth c A D ad cs cells slots Qm cc ret Q → ∀ ls st μ, S K CO Q ls st μ → kr_WK p l e R s m args below meth c A D ad cs cells slots Qm nL pc ls st μ
section SND
variable {E : kr_E} {own : String} {cc : ByteArray} {nL : Nat} {ret : Option FieldType} {pc : Nat}
theorem kr_s_no  : kr_Snd E own cc nL ret (kr_no) pc := by
  intro p l e R s m args below meth c A D ad cs cells slots Qm ⟨⟨hx, hb, hml, hown, hts⟩, hK, hinj, hAd, hSt, hcs, hfl, hE⟩ CO hO K Q hk hR ls st μ h H locs lsA hP hS hl
  exact h.elim
theorem kr_s_iconst {n : Int} {v : Int32} (hd : decode cc pc = .ok (.iconst n, 1)) (hv : Int32.ofInt n = v) : kr_Snd E own cc nL ret (kr_const (pc + 1) (.int v)) pc := by
  intro p l e R s m args below meth c A D ad cs cells slots Qm ⟨⟨hx, hb, hml, hown, hts⟩, hK, hinj, hAd, hSt, hcs, hfl, hE⟩ CO hO K Q hk hR ls st μ h H locs lsA hP hS hl
  exact lv_iconst hx hb hd hv (hk _ _ _ _ h H locs lsA hP hS hl)
theorem kr_s_bipush {n : Int} {v : Int32} (hd : decode cc pc = .ok (.bipush n, 2)) (hv : (Int8.ofInt n).toInt32 = v) : kr_Snd E own cc nL ret (kr_const (pc + 2) (.int v)) pc := by
  intro p l e R s m args below meth c A D ad cs cells slots Qm ⟨⟨hx, hb, hml, hown, hts⟩, hK, hinj, hAd, hSt, hcs, hfl, hE⟩ CO hO K Q hk hR ls st μ h H locs lsA hP hS hl
  exact lv_bipush hx hb hd hv (hk _ _ _ _ h H locs lsA hP hS hl)
theorem kr_s_sipush {n : Int} {v : Int32} (hd : decode cc pc = .ok (.sipush n, 3)) (hv : (Int16.ofInt n).toInt32 = v) : kr_Snd E own cc nL ret (kr_const (pc + 3) (.int v)) pc := by
  intro p l e R s m args below meth c A D ad cs cells slots Qm ⟨⟨hx, hb, hml, hown, hts⟩, hK, hinj, hAd, hSt, hcs, hfl, hE⟩ CO hO K Q hk hR ls st μ h H locs lsA hP hS hl
  exact lv_sipush hx hb hd hv (hk _ _ _ _ h H locs lsA hP hS hl)
theorem kr_s_lconst {n : Fin 2} {v : Int64} (hd : decode cc pc = .ok (.lconst n, 1)) (hv : Int64.ofNat (n : Nat) = v) : kr_Snd E own cc nL ret (kr_const (pc + 1) (.long v)) pc := by
  intro p l e R s m args below meth c A D ad cs cells slots Qm ⟨⟨hx, hb, hml, hown, hts⟩, hK, hinj, hAd, hSt, hcs, hfl, hE⟩ CO hO K Q hk hR ls st μ h H locs lsA hP hS hl
  exact lv_lconst hx hb hd hv (hk _ _ _ _ h H locs lsA hP hS hl)
theorem kr_s_ldc {i : Nat} {v : Int32} (hd : decode cc pc = .ok (.ldc i, 2)) (hw : Cond.constant own i v ∈ kr_gw) : kr_Snd E own cc nL ret (kr_const (pc + 2) (.int v)) pc := by
  intro p l e R s m args below meth c A D ad cs cells slots Qm ⟨⟨hx, hb, hml, hown, hts⟩, hK, hinj, hAd, hSt, hcs, hfl, hE⟩ CO hO K Q hk hR ls st μ h H locs lsA hP hS hl
  exact lv_ldc hx hb hown (hts _ hw) hd (hk _ _ _ _ h H locs lsA hP hS hl)
theorem kr_s_ldcw {i : Nat} {v : Int32} (hd : decode cc pc = .ok (.ldc_w i, 3)) (hw : Cond.constant own i v ∈ kr_gw) : kr_Snd E own cc nL ret (kr_const (pc + 3) (.int v)) pc := by
  intro p l e R s m args below meth c A D ad cs cells slots Qm ⟨⟨hx, hb, hml, hown, hts⟩, hK, hinj, hAd, hSt, hcs, hfl, hE⟩ CO hO K Q hk hR ls st μ h H locs lsA hP hS hl
  exact lv_ldcw hx hb hown (hts _ hw) hd (hk _ _ _ _ h H locs lsA hP hS hl)
theorem kr_s_ldc2 {i : Nat} {v : Int64} (hd : decode cc pc = .ok (.ldc2_w i, 3)) (hw : Cond.constantLong own i v ∈ kr_gw) : kr_Snd E own cc nL ret (kr_const (pc + 3) (.long v)) pc := by
  intro p l e R s m args below meth c A D ad cs cells slots Qm ⟨⟨hx, hb, hml, hown, hts⟩, hK, hinj, hAd, hSt, hcs, hfl, hE⟩ CO hO K Q hk hR ls st μ h H locs lsA hP hS hl
  exact lv_ldc2 hx hb hown (hts _ hw) hd (hk _ _ _ _ h H locs lsA hP hS hl)
theorem kr_s_ldcs {i k : Nat} {tx : String} (hd : decode cc pc = .ok (.ldc k, 2)) (ho : own = "ChalkRoads$Reader") (hi : kr_sk[i]? = some (k, tx)) : kr_Snd E own cc nL ret (kr_const (pc + 2) (.ref (86 + i))) pc := by
  intro p l e R s m args below meth c A D ad cs cells slots Qm ⟨⟨hx, hb, hml, hown, hts⟩, hK, hinj, hAd, hSt, hcs, hfl, hE⟩ CO hO K Q hk hR ls st μ h H locs lsA hP hS hl
  subst ho
  exact va_ldcS hx hb hown (hSt.2.1 i _ hi) hd (hk _ _ _ _ h H locs lsA hP hS hl)
theorem kr_s_iload_n {k : Fin 4} {i : Nat} (hd : decode cc pc = .ok (.iload_n k, 1)) (hi : (k : Nat) = i) : kr_Snd E own cc nL ret (kr_il (pc + 1) i) pc := by
  intro p l e R s m args below meth c A D ad cs cells slots Qm ⟨⟨hx, hb, hml, hown, hts⟩, hK, hinj, hAd, hSt, hcs, hfl, hE⟩ CO hO K Q hk hR ls st μ h H locs lsA hP hS hl
  unfold kr_il at h
  split at h
  · rename_i x hx0
    exact lv_iload_n hx hb hd hi (hl.get hx0) (hk _ _ _ _ h H locs lsA hP hS hl)
  · exact h.elim
theorem kr_s_iload {i : Nat} (hd : decode cc pc = .ok (.iload i, 2)) : kr_Snd E own cc nL ret (kr_il (pc + 2) i) pc := by
  intro p l e R s m args below meth c A D ad cs cells slots Qm ⟨⟨hx, hb, hml, hown, hts⟩, hK, hinj, hAd, hSt, hcs, hfl, hE⟩ CO hO K Q hk hR ls st μ h H locs lsA hP hS hl
  unfold kr_il at h
  split at h
  · rename_i x hx0
    exact lv_iload hx hb hd (hl.get hx0) (hk _ _ _ _ h H locs lsA hP hS hl)
  · exact h.elim
theorem kr_s_lload_n {k : Fin 4} {i : Nat} (hd : decode cc pc = .ok (.lload_n k, 1)) (hi : (k : Nat) = i) : kr_Snd E own cc nL ret (kr_ll (pc + 1) i) pc := by
  intro p l e R s m args below meth c A D ad cs cells slots Qm ⟨⟨hx, hb, hml, hown, hts⟩, hK, hinj, hAd, hSt, hcs, hfl, hE⟩ CO hO K Q hk hR ls st μ h H locs lsA hP hS hl
  unfold kr_ll at h
  split at h
  · rename_i x hx0
    exact lv_lload_n hx hb hd hi (hl.get hx0) (hk _ _ _ _ h H locs lsA hP hS hl)
  · exact h.elim
theorem kr_s_lload {i : Nat} (hd : decode cc pc = .ok (.lload i, 2)) : kr_Snd E own cc nL ret (kr_ll (pc + 2) i) pc := by
  intro p l e R s m args below meth c A D ad cs cells slots Qm ⟨⟨hx, hb, hml, hown, hts⟩, hK, hinj, hAd, hSt, hcs, hfl, hE⟩ CO hO K Q hk hR ls st μ h H locs lsA hP hS hl
  unfold kr_ll at h
  split at h
  · rename_i x hx0
    exact lv_lload hx hb hd (hl.get hx0) (hk _ _ _ _ h H locs lsA hP hS hl)
  · exact h.elim
theorem kr_s_aload_n {k : Fin 4} {i : Nat} (hd : decode cc pc = .ok (.aload_n k, 1)) (hi : (k : Nat) = i) : kr_Snd E own cc nL ret (kr_al (pc + 1) i) pc := by
  intro p l e R s m args below meth c A D ad cs cells slots Qm ⟨⟨hx, hb, hml, hown, hts⟩, hK, hinj, hAd, hSt, hcs, hfl, hE⟩ CO hO K Q hk hR ls st μ h H locs lsA hP hS hl
  unfold kr_al at h
  split at h
  · rename_i x hx0
    exact lv_aload_n hx hb hd hi (hl.get hx0) (hk _ _ _ _ h H locs lsA hP hS hl)
  · exact h.elim
theorem kr_s_aload {i : Nat} (hd : decode cc pc = .ok (.aload i, 2)) : kr_Snd E own cc nL ret (kr_al (pc + 2) i) pc := by
  intro p l e R s m args below meth c A D ad cs cells slots Qm ⟨⟨hx, hb, hml, hown, hts⟩, hK, hinj, hAd, hSt, hcs, hfl, hE⟩ CO hO K Q hk hR ls st μ h H locs lsA hP hS hl
  unfold kr_al at h
  split at h
  · rename_i x hx0
    exact lv_aload hx hb hd (hl.get hx0) (hk _ _ _ _ h H locs lsA hP hS hl)
  · exact h.elim
theorem kr_s_istore_n {k : Fin 4} {i : Nat} (hd : decode cc pc = .ok (.istore_n k, 1)) (hi : (k : Nat) = i) (hn : i < nL) : kr_Snd E own cc nL ret (kr_is (pc + 1) i) pc := by
  intro p l e R s m args below meth c A D ad cs cells slots Qm ⟨⟨hx, hb, hml, hown, hts⟩, hK, hinj, hAd, hSt, hcs, hfl, hE⟩ CO hO K Q hk hR ls st μ h H locs lsA hP hS hl
  unfold kr_is at h
  split at h
  · split at h
    · rename_i hn0
      refine lv_istore_n hx hb hd hi hl.has hn rfl (fun ls' hl' => ?_)
      exact hk _ _ _ _ h H locs ls' hP hS (kr_lh.st (v := .int _) hl' hn0)
    · exact h.elim
  · exact h.elim
theorem kr_s_istore {i : Nat} (hd : decode cc pc = .ok (.istore i, 2)) (hn : i < nL) : kr_Snd E own cc nL ret (kr_is (pc + 2) i) pc := by
  intro p l e R s m args below meth c A D ad cs cells slots Qm ⟨⟨hx, hb, hml, hown, hts⟩, hK, hinj, hAd, hSt, hcs, hfl, hE⟩ CO hO K Q hk hR ls st μ h H locs lsA hP hS hl
  unfold kr_is at h
  split at h
  · split at h
    · rename_i hn0
      refine lv_istore hx hb hd hl.has hn rfl (fun ls' hl' => ?_)
      exact hk _ _ _ _ h H locs ls' hP hS (kr_lh.st (v := .int _) hl' hn0)
    · exact h.elim
  · exact h.elim
theorem kr_s_astore_n {k : Fin 4} {i : Nat} (hd : decode cc pc = .ok (.astore_n k, 1)) (hi : (k : Nat) = i) (hn : i < nL) : kr_Snd E own cc nL ret (kr_as (pc + 1) i) pc := by
  intro p l e R s m args below meth c A D ad cs cells slots Qm ⟨⟨hx, hb, hml, hown, hts⟩, hK, hinj, hAd, hSt, hcs, hfl, hE⟩ CO hO K Q hk hR ls st μ h H locs lsA hP hS hl
  unfold kr_as at h
  split at h
  · split at h
    · rename_i hn0
      refine lv_astore_n hx hb hd hi hl.has hn rfl (fun ls' hl' => ?_)
      exact hk _ _ _ _ h H locs ls' hP hS (kr_lh.st (v := .ref _) hl' hn0)
    · exact h.elim
  · exact h.elim
theorem kr_s_astore {i : Nat} (hd : decode cc pc = .ok (.astore i, 2)) (hn : i < nL) : kr_Snd E own cc nL ret (kr_as (pc + 2) i) pc := by
  intro p l e R s m args below meth c A D ad cs cells slots Qm ⟨⟨hx, hb, hml, hown, hts⟩, hK, hinj, hAd, hSt, hcs, hfl, hE⟩ CO hO K Q hk hR ls st μ h H locs lsA hP hS hl
  unfold kr_as at h
  split at h
  · split at h
    · rename_i hn0
      refine lv_astore hx hb hd hl.has hn rfl (fun ls' hl' => ?_)
      exact hk _ _ _ _ h H locs ls' hP hS (kr_lh.st (v := .ref _) hl' hn0)
    · exact h.elim
  · exact h.elim
theorem kr_s_lstore {i : Nat} (hd : decode cc pc = .ok (.lstore i, 2)) (hn : i + 1 < nL) : kr_Snd E own cc nL ret (kr_lst (pc + 2) i) pc := by
  intro p l e R s m args below meth c A D ad cs cells slots Qm ⟨⟨hx, hb, hml, hown, hts⟩, hK, hinj, hAd, hSt, hcs, hfl, hE⟩ CO hO K Q hk hR ls st μ h H locs lsA hP hS hl
  unfold kr_lst at h
  split at h
  · split at h
    · rename_i hn0
      refine lv_lstore hx hb hd hl.has hn rfl (fun ls' hl' => ?_)
      exact hk _ _ _ _ h H locs ls' hP hS (kr_lh.st2 (v := .long _) hl' hn0)
    · exact h.elim
  · exact h.elim
theorem kr_s_iinc {i : Nat} {n : Int} {k : Int32} (hd : decode cc pc = .ok (.iinc i n, 3)) (hv : Int32.ofInt n = k) (hn : i < nL) : kr_Snd E own cc nL ret (kr_inc (pc + 3) i k) pc := by
  intro p l e R s m args below meth c A D ad cs cells slots Qm ⟨⟨hx, hb, hml, hown, hts⟩, hK, hinj, hAd, hSt, hcs, hfl, hE⟩ CO hO K Q hk hR ls st μ h H locs lsA hP hS hl
  unfold kr_inc at h
  split at h
  · rename_i x hx0
    split at h
    · rename_i hn0
      obtain ⟨q, hq⟩ := hl.at hx0
      refine lv_iinc (v := x + k) hx hb hd hl.has (k := q) hq (by rw [hv]) hn rfl (fun ls' hl' => ?_)
      exact hk _ _ _ _ h H locs ls' hP hS (kr_lh.st (v := .int (x + k)) hl' hn0)
    · exact h.elim
  · exact h.elim
theorem kr_s_iadd (hd : decode cc pc = .ok (.iadd, 1)) : kr_Snd E own cc nL ret (kr_i2 (pc + 1) (fun x y => x + y)) pc := by
  intro p l e R s m args below meth c A D ad cs cells slots Qm ⟨⟨hx, hb, hml, hown, hts⟩, hK, hinj, hAd, hSt, hcs, hfl, hE⟩ CO hO K Q hk hR ls st μ h H locs lsA hP hS hl
  unfold kr_i2 at h
  split at h
  · exact lv_iadd hx hb hd (hk _ _ _ _ h H locs lsA hP hS hl)
  · exact h.elim
theorem kr_s_isub (hd : decode cc pc = .ok (.isub, 1)) : kr_Snd E own cc nL ret (kr_i2 (pc + 1) (fun x y => x - y)) pc := by
  intro p l e R s m args below meth c A D ad cs cells slots Qm ⟨⟨hx, hb, hml, hown, hts⟩, hK, hinj, hAd, hSt, hcs, hfl, hE⟩ CO hO K Q hk hR ls st μ h H locs lsA hP hS hl
  unfold kr_i2 at h
  split at h
  · exact lv_isub hx hb hd (hk _ _ _ _ h H locs lsA hP hS hl)
  · exact h.elim
theorem kr_s_imul (hd : decode cc pc = .ok (.imul, 1)) : kr_Snd E own cc nL ret (kr_i2 (pc + 1) (fun x y => x * y)) pc := by
  intro p l e R s m args below meth c A D ad cs cells slots Qm ⟨⟨hx, hb, hml, hown, hts⟩, hK, hinj, hAd, hSt, hcs, hfl, hE⟩ CO hO K Q hk hR ls st μ h H locs lsA hP hS hl
  unfold kr_i2 at h
  split at h
  · exact lv_imul hx hb hd (hk _ _ _ _ h H locs lsA hP hS hl)
  · exact h.elim
theorem kr_s_iand (hd : decode cc pc = .ok (.iand, 1)) : kr_Snd E own cc nL ret (kr_i2 (pc + 1) (fun x y => x &&& y)) pc := by
  intro p l e R s m args below meth c A D ad cs cells slots Qm ⟨⟨hx, hb, hml, hown, hts⟩, hK, hinj, hAd, hSt, hcs, hfl, hE⟩ CO hO K Q hk hR ls st μ h H locs lsA hP hS hl
  unfold kr_i2 at h
  split at h
  · exact lv_iand hx hb hd (hk _ _ _ _ h H locs lsA hP hS hl)
  · exact h.elim
theorem kr_s_ior (hd : decode cc pc = .ok (.ior, 1)) : kr_Snd E own cc nL ret (kr_i2 (pc + 1) (fun x y => x ||| y)) pc := by
  intro p l e R s m args below meth c A D ad cs cells slots Qm ⟨⟨hx, hb, hml, hown, hts⟩, hK, hinj, hAd, hSt, hcs, hfl, hE⟩ CO hO K Q hk hR ls st μ h H locs lsA hP hS hl
  unfold kr_i2 at h
  split at h
  · exact lv_ior hx hb hd (hk _ _ _ _ h H locs lsA hP hS hl)
  · exact h.elim
theorem kr_s_ixor (hd : decode cc pc = .ok (.ixor, 1)) : kr_Snd E own cc nL ret (kr_i2 (pc + 1) (fun x y => x ^^^ y)) pc := by
  intro p l e R s m args below meth c A D ad cs cells slots Qm ⟨⟨hx, hb, hml, hown, hts⟩, hK, hinj, hAd, hSt, hcs, hfl, hE⟩ CO hO K Q hk hR ls st μ h H locs lsA hP hS hl
  unfold kr_i2 at h
  split at h
  · exact lv_ixor hx hb hd (hk _ _ _ _ h H locs lsA hP hS hl)
  · exact h.elim
theorem kr_s_ishl (hd : decode cc pc = .ok (.ishl, 1)) : kr_Snd E own cc nL ret (kr_i2 (pc + 1) (fun x y => x <<< (y &&& 31))) pc := by
  intro p l e R s m args below meth c A D ad cs cells slots Qm ⟨⟨hx, hb, hml, hown, hts⟩, hK, hinj, hAd, hSt, hcs, hfl, hE⟩ CO hO K Q hk hR ls st μ h H locs lsA hP hS hl
  unfold kr_i2 at h
  split at h
  · exact lv_ishl hx hb hd (hk _ _ _ _ h H locs lsA hP hS hl)
  · exact h.elim
theorem kr_s_ishr (hd : decode cc pc = .ok (.ishr, 1)) : kr_Snd E own cc nL ret (kr_i2 (pc + 1) (fun x y => x >>> (y &&& 31))) pc := by
  intro p l e R s m args below meth c A D ad cs cells slots Qm ⟨⟨hx, hb, hml, hown, hts⟩, hK, hinj, hAd, hSt, hcs, hfl, hE⟩ CO hO K Q hk hR ls st μ h H locs lsA hP hS hl
  unfold kr_i2 at h
  split at h
  · exact lv_ishr hx hb hd (hk _ _ _ _ h H locs lsA hP hS hl)
  · exact h.elim
theorem kr_s_iushr (hd : decode cc pc = .ok (.iushr, 1)) : kr_Snd E own cc nL ret (kr_i2 (pc + 1) (fun x y => (x.toUInt32 >>> (y.toUInt32 &&& Int32.toUInt32 31)).toInt32)) pc := by
  intro p l e R s m args below meth c A D ad cs cells slots Qm ⟨⟨hx, hb, hml, hown, hts⟩, hK, hinj, hAd, hSt, hcs, hfl, hE⟩ CO hO K Q hk hR ls st μ h H locs lsA hP hS hl
  unfold kr_i2 at h
  split at h
  · exact lv_iushr hx hb hd rfl (hk _ _ _ _ h H locs lsA hP hS hl)
  · exact h.elim
theorem kr_s_idiv (hd : decode cc pc = .ok (.idiv, 1)) : kr_Snd E own cc nL ret (kr_dv (pc + 1) (fun x y => x / y)) pc := by
  intro p l e R s m args below meth c A D ad cs cells slots Qm ⟨⟨hx, hb, hml, hown, hts⟩, hK, hinj, hAd, hSt, hcs, hfl, hE⟩ CO hO K Q hk hR ls st μ h H locs lsA hP hS hl
  unfold kr_dv at h
  split at h
  · exact lv_idiv hx hb hd h.1 (hk _ _ _ _ h.2 H locs lsA hP hS hl)
  · exact h.elim
theorem kr_s_irem (hd : decode cc pc = .ok (.irem, 1)) : kr_Snd E own cc nL ret (kr_dv (pc + 1) (fun x y => x - x / y * y)) pc := by
  intro p l e R s m args below meth c A D ad cs cells slots Qm ⟨⟨hx, hb, hml, hown, hts⟩, hK, hinj, hAd, hSt, hcs, hfl, hE⟩ CO hO K Q hk hR ls st μ h H locs lsA hP hS hl
  unfold kr_dv at h
  split at h
  · exact lv_irem hx hb hd h.1 (hk _ _ _ _ h.2 H locs lsA hP hS hl)
  · exact h.elim
theorem kr_s_ladd (hd : decode cc pc = .ok (.ladd, 1)) : kr_Snd E own cc nL ret (kr_l2 (pc + 1) (fun x y => x + y)) pc := by
  intro p l e R s m args below meth c A D ad cs cells slots Qm ⟨⟨hx, hb, hml, hown, hts⟩, hK, hinj, hAd, hSt, hcs, hfl, hE⟩ CO hO K Q hk hR ls st μ h H locs lsA hP hS hl
  unfold kr_l2 at h
  split at h
  · exact lv_ladd hx hb hd (hk _ _ _ _ h H locs lsA hP hS hl)
  · exact h.elim
theorem kr_s_land (hd : decode cc pc = .ok (.land, 1)) : kr_Snd E own cc nL ret (kr_l2 (pc + 1) (fun x y => x &&& y)) pc := by
  intro p l e R s m args below meth c A D ad cs cells slots Qm ⟨⟨hx, hb, hml, hown, hts⟩, hK, hinj, hAd, hSt, hcs, hfl, hE⟩ CO hO K Q hk hR ls st μ h H locs lsA hP hS hl
  unfold kr_l2 at h
  split at h
  · exact lv_land hx hb hd (hk _ _ _ _ h H locs lsA hP hS hl)
  · exact h.elim
theorem kr_s_lor (hd : decode cc pc = .ok (.lor, 1)) : kr_Snd E own cc nL ret (kr_l2 (pc + 1) (fun x y => x ||| y)) pc := by
  intro p l e R s m args below meth c A D ad cs cells slots Qm ⟨⟨hx, hb, hml, hown, hts⟩, hK, hinj, hAd, hSt, hcs, hfl, hE⟩ CO hO K Q hk hR ls st μ h H locs lsA hP hS hl
  unfold kr_l2 at h
  split at h
  · exact lv_lor hx hb hd (hk _ _ _ _ h H locs lsA hP hS hl)
  · exact h.elim
theorem kr_s_lxor (hd : decode cc pc = .ok (.lxor, 1)) : kr_Snd E own cc nL ret (kr_l2 (pc + 1) (fun x y => x ^^^ y)) pc := by
  intro p l e R s m args below meth c A D ad cs cells slots Qm ⟨⟨hx, hb, hml, hown, hts⟩, hK, hinj, hAd, hSt, hcs, hfl, hE⟩ CO hO K Q hk hR ls st μ h H locs lsA hP hS hl
  unfold kr_l2 at h
  split at h
  · exact lv_lxor hx hb hd (hk _ _ _ _ h H locs lsA hP hS hl)
  · exact h.elim
theorem kr_s_lshl (hd : decode cc pc = .ok (.lshl, 1)) : kr_Snd E own cc nL ret (kr_lsh (pc + 1) (fun x y => x <<< (y.toInt64 &&& 63))) pc := by
  intro p l e R s m args below meth c A D ad cs cells slots Qm ⟨⟨hx, hb, hml, hown, hts⟩, hK, hinj, hAd, hSt, hcs, hfl, hE⟩ CO hO K Q hk hR ls st μ h H locs lsA hP hS hl
  unfold kr_lsh at h
  split at h
  · exact lv_lshl hx hb hd rfl (hk _ _ _ _ h H locs lsA hP hS hl)
  · exact h.elim
theorem kr_s_lshr (hd : decode cc pc = .ok (.lshr, 1)) : kr_Snd E own cc nL ret (kr_lsh (pc + 1) (fun x y => x >>> (y.toInt64 &&& 63))) pc := by
  intro p l e R s m args below meth c A D ad cs cells slots Qm ⟨⟨hx, hb, hml, hown, hts⟩, hK, hinj, hAd, hSt, hcs, hfl, hE⟩ CO hO K Q hk hR ls st μ h H locs lsA hP hS hl
  unfold kr_lsh at h
  split at h
  · exact lv_lshr hx hb hd rfl (hk _ _ _ _ h H locs lsA hP hS hl)
  · exact h.elim
theorem kr_s_i2b (hd : decode cc pc = .ok (.i2b, 1)) : kr_Snd E own cc nL ret (kr_i1 (pc + 1) (fun x => x.toInt8.toInt32)) pc := by
  intro p l e R s m args below meth c A D ad cs cells slots Qm ⟨⟨hx, hb, hml, hown, hts⟩, hK, hinj, hAd, hSt, hcs, hfl, hE⟩ CO hO K Q hk hR ls st μ h H locs lsA hP hS hl
  unfold kr_i1 at h
  split at h
  · exact lv_i2b hx hb hd rfl (hk _ _ _ _ h H locs lsA hP hS hl)
  · exact h.elim
theorem kr_s_i2s (hd : decode cc pc = .ok (.i2s, 1)) : kr_Snd E own cc nL ret (kr_i1 (pc + 1) (fun x => x.toInt16.toInt32)) pc := by
  intro p l e R s m args below meth c A D ad cs cells slots Qm ⟨⟨hx, hb, hml, hown, hts⟩, hK, hinj, hAd, hSt, hcs, hfl, hE⟩ CO hO K Q hk hR ls st μ h H locs lsA hP hS hl
  unfold kr_i1 at h
  split at h
  · exact lv_i2s hx hb hd rfl (hk _ _ _ _ h H locs lsA hP hS hl)
  · exact h.elim
theorem kr_s_i2c (hd : decode cc pc = .ok (.i2c, 1)) : kr_Snd E own cc nL ret (kr_i1 (pc + 1) (fun x => (x.toUInt32 % 65536).toInt32)) pc := by
  intro p l e R s m args below meth c A D ad cs cells slots Qm ⟨⟨hx, hb, hml, hown, hts⟩, hK, hinj, hAd, hSt, hcs, hfl, hE⟩ CO hO K Q hk hR ls st μ h H locs lsA hP hS hl
  unfold kr_i1 at h
  split at h
  · exact lv_i2c hx hb hd rfl (hk _ _ _ _ h H locs lsA hP hS hl)
  · exact h.elim
theorem kr_s_i2l (hd : decode cc pc = .ok (.i2l, 1)) : kr_Snd E own cc nL ret (kr_i2l (pc + 1)) pc := by
  intro p l e R s m args below meth c A D ad cs cells slots Qm ⟨⟨hx, hb, hml, hown, hts⟩, hK, hinj, hAd, hSt, hcs, hfl, hE⟩ CO hO K Q hk hR ls st μ h H locs lsA hP hS hl
  unfold kr_i2l at h
  split at h
  · exact lv_i2l hx hb hd rfl (hk _ _ _ _ h H locs lsA hP hS hl)
  · exact h.elim
theorem kr_s_l2i (hd : decode cc pc = .ok (.l2i, 1)) : kr_Snd E own cc nL ret (kr_l2i (pc + 1)) pc := by
  intro p l e R s m args below meth c A D ad cs cells slots Qm ⟨⟨hx, hb, hml, hown, hts⟩, hK, hinj, hAd, hSt, hcs, hfl, hE⟩ CO hO K Q hk hR ls st μ h H locs lsA hP hS hl
  unfold kr_l2i at h
  split at h
  · exact lv_l2i hx hb hd rfl (hk _ _ _ _ h H locs lsA hP hS hl)
  · exact h.elim
theorem kr_s_lcmp (hd : decode cc pc = .ok (.lcmp, 1)) : kr_Snd E own cc nL ret (kr_lcmp (pc + 1)) pc := by
  intro p l e R s m args below meth c A D ad cs cells slots Qm ⟨⟨hx, hb, hml, hown, hts⟩, hK, hinj, hAd, hSt, hcs, hfl, hE⟩ CO hO K Q hk hR ls st μ h H locs lsA hP hS hl
  unfold kr_lcmp at h
  split at h
  · exact W.lcmp hx hb hd (hk _ _ _ _ h H locs lsA hP hS hl)
  · exact h.elim
theorem kr_s_dup (hd : decode cc pc = .ok (.dup, 1)) : kr_Snd E own cc nL ret (kr_dup (pc + 1)) pc := by
  intro p l e R s m args below meth c A D ad cs cells slots Qm ⟨⟨hx, hb, hml, hown, hts⟩, hK, hinj, hAd, hSt, hcs, hfl, hE⟩ CO hO K Q hk hR ls st μ h H locs lsA hP hS hl
  unfold kr_dup at h
  split at h
  · exact lv_dup hx hb hd rfl (hk _ _ _ _ h H locs lsA hP hS hl)
  · exact lv_dup hx hb hd rfl (hk _ _ _ _ h H locs lsA hP hS hl)
  · exact h.elim
theorem kr_s_dup2 (hd : decode cc pc = .ok (.dup2, 1)) : kr_Snd E own cc nL ret (kr_dup2 (pc + 1)) pc := by
  intro p l e R s m args below meth c A D ad cs cells slots Qm ⟨⟨hx, hb, hml, hown, hts⟩, hK, hinj, hAd, hSt, hcs, hfl, hE⟩ CO hO K Q hk hR ls st μ h H locs lsA hP hS hl
  unfold kr_dup2 at h
  split at h
  · exact lv_dup2_11 hx hb hd rfl rfl (hk _ _ _ _ h H locs lsA hP hS hl)
  · exact h.elim
theorem kr_s_pop (hd : decode cc pc = .ok (.pop, 1)) : kr_Snd E own cc nL ret (kr_pop (pc + 1)) pc := by
  intro p l e R s m args below meth c A D ad cs cells slots Qm ⟨⟨hx, hb, hml, hown, hts⟩, hK, hinj, hAd, hSt, hcs, hfl, hE⟩ CO hO K Q hk hR ls st μ h H locs lsA hP hS hl
  unfold kr_pop at h
  split at h
  · exact lv_pop hx hb hd rfl (hk _ _ _ _ h H locs lsA hP hS hl)
  · exact lv_pop hx hb hd rfl (hk _ _ _ _ h H locs lsA hP hS hl)
  · exact h.elim
theorem kr_s_if_eq {off : Int} {tgt : Nat} (hd : decode cc pc = .ok (.ifCond .eq off, 3)) (ht : (pc : Int) + off = (tgt : Int)) : kr_Snd E own cc nL ret (kr_if (pc + 3) tgt (fun x => x = 0)) pc := by
  intro p l e R s m args below meth c A D ad cs cells slots Qm ⟨⟨hx, hb, hml, hown, hts⟩, hK, hinj, hAd, hSt, hcs, hfl, hE⟩ CO hO K Q hk hR ls st μ h H locs lsA hP hS hl
  unfold kr_if at h
  split at h
  · exact lv_if_eq hx hb hd ht (fun z => hk _ _ _ _ (h.1 z) H locs lsA hP hS hl) (fun z => hk _ _ _ _ (h.2 z) H locs lsA hP hS hl)
  · exact h.elim
theorem kr_s_ic_eq {off : Int} {tgt : Nat} (hd : decode cc pc = .ok (.if_icmp .eq off, 3)) (ht : (pc : Int) + off = (tgt : Int)) : kr_Snd E own cc nL ret (kr_ic (pc + 3) tgt (fun x y => x = y)) pc := by
  intro p l e R s m args below meth c A D ad cs cells slots Qm ⟨⟨hx, hb, hml, hown, hts⟩, hK, hinj, hAd, hSt, hcs, hfl, hE⟩ CO hO K Q hk hR ls st μ h H locs lsA hP hS hl
  unfold kr_ic at h
  split at h
  · exact lv_icmp_eq hx hb hd ht (fun z => hk _ _ _ _ (h.1 z) H locs lsA hP hS hl) (fun z => hk _ _ _ _ (h.2 z) H locs lsA hP hS hl)
  · exact h.elim
theorem kr_s_if_ne {off : Int} {tgt : Nat} (hd : decode cc pc = .ok (.ifCond .ne off, 3)) (ht : (pc : Int) + off = (tgt : Int)) : kr_Snd E own cc nL ret (kr_if (pc + 3) tgt (fun x => ¬ x = 0)) pc := by
  intro p l e R s m args below meth c A D ad cs cells slots Qm ⟨⟨hx, hb, hml, hown, hts⟩, hK, hinj, hAd, hSt, hcs, hfl, hE⟩ CO hO K Q hk hR ls st μ h H locs lsA hP hS hl
  unfold kr_if at h
  split at h
  · exact lv_if_ne hx hb hd ht (fun z => hk _ _ _ _ (h.1 z) H locs lsA hP hS hl) (fun z => hk _ _ _ _ (h.2 (fun q => q z)) H locs lsA hP hS hl)
  · exact h.elim
theorem kr_s_ic_ne {off : Int} {tgt : Nat} (hd : decode cc pc = .ok (.if_icmp .ne off, 3)) (ht : (pc : Int) + off = (tgt : Int)) : kr_Snd E own cc nL ret (kr_ic (pc + 3) tgt (fun x y => ¬ x = y)) pc := by
  intro p l e R s m args below meth c A D ad cs cells slots Qm ⟨⟨hx, hb, hml, hown, hts⟩, hK, hinj, hAd, hSt, hcs, hfl, hE⟩ CO hO K Q hk hR ls st μ h H locs lsA hP hS hl
  unfold kr_ic at h
  split at h
  · exact lv_icmp_ne hx hb hd ht (fun z => hk _ _ _ _ (h.1 z) H locs lsA hP hS hl) (fun z => hk _ _ _ _ (h.2 (fun q => q z)) H locs lsA hP hS hl)
  · exact h.elim
theorem kr_s_if_lt {off : Int} {tgt : Nat} (hd : decode cc pc = .ok (.ifCond .lt off, 3)) (ht : (pc : Int) + off = (tgt : Int)) : kr_Snd E own cc nL ret (kr_if (pc + 3) tgt (fun x => x < 0)) pc := by
  intro p l e R s m args below meth c A D ad cs cells slots Qm ⟨⟨hx, hb, hml, hown, hts⟩, hK, hinj, hAd, hSt, hcs, hfl, hE⟩ CO hO K Q hk hR ls st μ h H locs lsA hP hS hl
  unfold kr_if at h
  split at h
  · exact lv_if_lt hx hb hd ht (fun z => hk _ _ _ _ (h.1 z) H locs lsA hP hS hl) (fun z => hk _ _ _ _ (h.2 z) H locs lsA hP hS hl)
  · exact h.elim
theorem kr_s_ic_lt {off : Int} {tgt : Nat} (hd : decode cc pc = .ok (.if_icmp .lt off, 3)) (ht : (pc : Int) + off = (tgt : Int)) : kr_Snd E own cc nL ret (kr_ic (pc + 3) tgt (fun x y => x < y)) pc := by
  intro p l e R s m args below meth c A D ad cs cells slots Qm ⟨⟨hx, hb, hml, hown, hts⟩, hK, hinj, hAd, hSt, hcs, hfl, hE⟩ CO hO K Q hk hR ls st μ h H locs lsA hP hS hl
  unfold kr_ic at h
  split at h
  · exact lv_icmp_lt hx hb hd ht (fun z => hk _ _ _ _ (h.1 z) H locs lsA hP hS hl) (fun z => hk _ _ _ _ (h.2 z) H locs lsA hP hS hl)
  · exact h.elim
theorem kr_s_if_ge {off : Int} {tgt : Nat} (hd : decode cc pc = .ok (.ifCond .ge off, 3)) (ht : (pc : Int) + off = (tgt : Int)) : kr_Snd E own cc nL ret (kr_if (pc + 3) tgt (fun x => 0 ≤ x)) pc := by
  intro p l e R s m args below meth c A D ad cs cells slots Qm ⟨⟨hx, hb, hml, hown, hts⟩, hK, hinj, hAd, hSt, hcs, hfl, hE⟩ CO hO K Q hk hR ls st μ h H locs lsA hP hS hl
  unfold kr_if at h
  split at h
  · exact lv_if_ge hx hb hd ht (fun z => hk _ _ _ _ (h.1 z) H locs lsA hP hS hl) (fun z => hk _ _ _ _ (h.2 z) H locs lsA hP hS hl)
  · exact h.elim
theorem kr_s_ic_ge {off : Int} {tgt : Nat} (hd : decode cc pc = .ok (.if_icmp .ge off, 3)) (ht : (pc : Int) + off = (tgt : Int)) : kr_Snd E own cc nL ret (kr_ic (pc + 3) tgt (fun x y => y ≤ x)) pc := by
  intro p l e R s m args below meth c A D ad cs cells slots Qm ⟨⟨hx, hb, hml, hown, hts⟩, hK, hinj, hAd, hSt, hcs, hfl, hE⟩ CO hO K Q hk hR ls st μ h H locs lsA hP hS hl
  unfold kr_ic at h
  split at h
  · exact lv_icmp_ge hx hb hd ht (fun z => hk _ _ _ _ (h.1 z) H locs lsA hP hS hl) (fun z => hk _ _ _ _ (h.2 z) H locs lsA hP hS hl)
  · exact h.elim
theorem kr_s_if_gt {off : Int} {tgt : Nat} (hd : decode cc pc = .ok (.ifCond .gt off, 3)) (ht : (pc : Int) + off = (tgt : Int)) : kr_Snd E own cc nL ret (kr_if (pc + 3) tgt (fun x => 0 < x)) pc := by
  intro p l e R s m args below meth c A D ad cs cells slots Qm ⟨⟨hx, hb, hml, hown, hts⟩, hK, hinj, hAd, hSt, hcs, hfl, hE⟩ CO hO K Q hk hR ls st μ h H locs lsA hP hS hl
  unfold kr_if at h
  split at h
  · exact lv_if_gt hx hb hd ht (fun z => hk _ _ _ _ (h.1 z) H locs lsA hP hS hl) (fun z => hk _ _ _ _ (h.2 z) H locs lsA hP hS hl)
  · exact h.elim
theorem kr_s_ic_gt {off : Int} {tgt : Nat} (hd : decode cc pc = .ok (.if_icmp .gt off, 3)) (ht : (pc : Int) + off = (tgt : Int)) : kr_Snd E own cc nL ret (kr_ic (pc + 3) tgt (fun x y => y < x)) pc := by
  intro p l e R s m args below meth c A D ad cs cells slots Qm ⟨⟨hx, hb, hml, hown, hts⟩, hK, hinj, hAd, hSt, hcs, hfl, hE⟩ CO hO K Q hk hR ls st μ h H locs lsA hP hS hl
  unfold kr_ic at h
  split at h
  · exact lv_icmp_gt hx hb hd ht (fun z => hk _ _ _ _ (h.1 z) H locs lsA hP hS hl) (fun z => hk _ _ _ _ (h.2 z) H locs lsA hP hS hl)
  · exact h.elim
theorem kr_s_if_le {off : Int} {tgt : Nat} (hd : decode cc pc = .ok (.ifCond .le off, 3)) (ht : (pc : Int) + off = (tgt : Int)) : kr_Snd E own cc nL ret (kr_if (pc + 3) tgt (fun x => x ≤ 0)) pc := by
  intro p l e R s m args below meth c A D ad cs cells slots Qm ⟨⟨hx, hb, hml, hown, hts⟩, hK, hinj, hAd, hSt, hcs, hfl, hE⟩ CO hO K Q hk hR ls st μ h H locs lsA hP hS hl
  unfold kr_if at h
  split at h
  · exact lv_if_le hx hb hd ht (fun z => hk _ _ _ _ (h.1 z) H locs lsA hP hS hl) (fun z => hk _ _ _ _ (h.2 z) H locs lsA hP hS hl)
  · exact h.elim
theorem kr_s_ic_le {off : Int} {tgt : Nat} (hd : decode cc pc = .ok (.if_icmp .le off, 3)) (ht : (pc : Int) + off = (tgt : Int)) : kr_Snd E own cc nL ret (kr_ic (pc + 3) tgt (fun x y => x ≤ y)) pc := by
  intro p l e R s m args below meth c A D ad cs cells slots Qm ⟨⟨hx, hb, hml, hown, hts⟩, hK, hinj, hAd, hSt, hcs, hfl, hE⟩ CO hO K Q hk hR ls st μ h H locs lsA hP hS hl
  unfold kr_ic at h
  split at h
  · exact lv_icmp_le hx hb hd ht (fun z => hk _ _ _ _ (h.1 z) H locs lsA hP hS hl) (fun z => hk _ _ _ _ (h.2 z) H locs lsA hP hS hl)
  · exact h.elim
theorem kr_s_goto {off : Int} {tgt : Nat} (hd : decode cc pc = .ok (.goto off, 3)) (ht : (pc : Int) + off = (tgt : Int)) : kr_Snd E own cc nL ret (kr_goto tgt) pc := by
  intro p l e R s m args below meth c A D ad cs cells slots Qm ⟨⟨hx, hb, hml, hown, hts⟩, hK, hinj, hAd, hSt, hcs, hfl, hE⟩ CO hO K Q hk hR ls st μ h H locs lsA hP hS hl
  exact lv_goto hx hb hd ht (hk _ _ _ _ h H locs lsA hP hS hl)
theorem kr_s_tsw {df lo hi : Int} {offs : Array Int} {len : Nat} {ts : List Nat} {dt : Nat} (hd : decode cc pc = .ok (.tableswitch df lo hi offs, len)) (h0 : (pc : Int) + df = (dt : Int)) (hn : (hi - lo).toNat + 1 = ts.length) (ho : offs.toList.map (fun o => (pc : Int) + o) = ts.map (fun q : Nat => (q : Int))) : kr_Snd E own cc nL ret (kr_tsw lo hi ts dt) pc := by
  intro p l e R s m args below meth c A D ad cs cells slots Qm ⟨⟨hx, hb, hml, hown, hts⟩, hK, hinj, hAd, hSt, hcs, hfl, hE⟩ CO hO K Q hk hR ls st μ h H locs lsA hP hS hl
  unfold kr_tsw at h
  split at h
  · rename_i x r
    by_cases h1 : x.toInt < lo
    · unfold kr_tg at h
      rw [if_pos h1] at h
      exact lv_tableOut hx hb hd (Or.inl h1) h0 (hk _ _ _ _ h H locs lsA hP hS hl)
    by_cases h2 : hi < x.toInt
    · unfold kr_tg at h
      rw [if_neg h1, if_pos h2] at h
      exact lv_tableOut hx hb hd (Or.inr h2) h0 (hk _ _ _ _ h H locs lsA hP hS hl)
    unfold kr_tg at h
    rw [if_neg h1, if_neg h2] at h
    have hlt : (x.toInt - lo).toNat < ts.length := by omega
    have e1 : (offs.toList.map (fun o => (pc : Int) + o))[(x.toInt - lo).toNat]? = (ts.map (fun q : Nat => (q : Int)))[(x.toInt - lo).toNat]? := by rw [ho]
    rw [List.getElem?_map, List.getElem?_map, List.getElem?_eq_getElem hlt] at e1
    cases e2 : offs.toList[(x.toInt - lo).toNat]? with
    | none => rw [e2] at e1; cases e1
    | some off =>
      rw [e2] at e1
      have e3 : (pc : Int) + off = ((ts[(x.toInt - lo).toNat] : Nat) : Int) := Option.some.inj e1
      have e4 : ts.getD (x.toInt - lo).toNat dt = ts[(x.toInt - lo).toNat] := by simp [List.getD, List.getElem?_eq_getElem hlt]
      rw [e4] at h
      exact lv_tableIn hx hb hd h1 h2 (by rw [← Array.getElem?_toList]; exact e2) e3 (hk _ _ _ _ h H locs lsA hP hS hl)
  · exact h.elim
/-- a class's facts: its number among 'classes', its fields, their words -/
def kr_cls (ci : Nat) (C : String) (T : u_T) (N : Nat) : Prop := vwCl[ci]? = some (C, T, N) ∧ (∀ w ∈ u_ws C T N, w ∈ kr_gw) ∧ kr_nf ci = N ∧ (∃ ty : Nat → FieldType, ∀ k, k < N → parseFieldDescriptor (T k).2.2.1 = some (ty k)) ∧ ∀ a, a < N → ∀ b, b < N → a ≠ b → (T a).2.1 ≠ (T b).2.1
theorem kr_s_gi {ci k i N : Nat} {C : String} {T : u_T} (hc : kr_cls ci C T N) (hd : decode cc pc = .ok (.getfield i, 3)) (hw : Cond.fieldLink own i (T k).1 (T k).2.1 (T k).2.2.1 ∈ kr_gw) (hkn : k < N) (ht : kr_ty ci k = 0 ∨ kr_ty ci k = 1) : kr_Snd E own cc nL ret (kr_gi (pc + 3) ci k) pc := by
  intro p l e R s m args below meth c A D ad cs cells slots Qm ⟨⟨hx, hb, hml, hown, hts⟩, hK, hinj, hAd, hSt, hcs, hfl, hE⟩ CO hO K Q hk hR ls st μ h H locs lsA hP hS hl
  obtain ⟨hc1, hc2, hc3, -, -⟩ := hc
  unfold kr_gi at h
  split at h
  · rename_i o r
    have hv : (kr_fv ad μ o ci)[k]? = some (.int (μ.1 o k)) := by
      rw [kr_fv_at (by rw [hc3]; exact hkn)]
      unfold kr_val
      rcases ht with ht | ht <;> rw [ht] <;> rfl
    exact va_get hx hb hts hc2 hown hK hP o (kr_ws_c h.1) hc1 k hkn (hts _ hw) (fun x z => z) hv hd (hk _ _ _ _ h.2 H locs lsA hP hS hl)
  · exact h.elim
theorem kr_s_gr {ci k i N : Nat} {C : String} {T : u_T} (hc : kr_cls ci C T N) (hd : decode cc pc = .ok (.getfield i, 3)) (hw : Cond.fieldLink own i (T k).1 (T k).2.1 (T k).2.2.1 ∈ kr_gw) (hkn : k < N) (ht : kr_ty ci k = 2) : kr_Snd E own cc nL ret (kr_gr (pc + 3) ci k) pc := by
  intro p l e R s m args below meth c A D ad cs cells slots Qm ⟨⟨hx, hb, hml, hown, hts⟩, hK, hinj, hAd, hSt, hcs, hfl, hE⟩ CO hO K Q hk hR ls st μ h H locs lsA hP hS hl
  obtain ⟨hc1, hc2, hc3, -, -⟩ := hc
  unfold kr_gr at h
  split at h
  · rename_i o r
    have hv : (kr_fv ad μ o ci)[k]? = some (.ref (ad (kr_rf o k))) := by
      rw [kr_fv_at (by rw [hc3]; exact hkn)]
      unfold kr_val
      rw [ht]
      rfl
    exact va_get hx hb hts hc2 hown hK hP o (kr_ws_c h.1) hc1 k hkn (hts _ hw) (fun x z => z) hv hd (hk _ _ _ _ h.2 H locs lsA hP hS hl)
  · exact h.elim
theorem kr_s_gl {ci k i N : Nat} {C : String} {T : u_T} (hc : kr_cls ci C T N) (hd : decode cc pc = .ok (.getfield i, 3)) (hw : Cond.fieldLink own i (T k).1 (T k).2.1 (T k).2.2.1 ∈ kr_gw) (hkn : k < N) (ht : kr_ty ci k = 3) : kr_Snd E own cc nL ret (kr_gl (pc + 3) ci) pc := by
  intro p l e R s m args below meth c A D ad cs cells slots Qm ⟨⟨hx, hb, hml, hown, hts⟩, hK, hinj, hAd, hSt, hcs, hfl, hE⟩ CO hO K Q hk hR ls st μ h H locs lsA hP hS hl
  obtain ⟨hc1, hc2, hc3, -, -⟩ := hc
  unfold kr_gl at h
  split at h
  · rename_i o r
    have hv : (kr_fv ad μ o ci)[k]? = some (.long (μ.2 o)) := by
      rw [kr_fv_at (by rw [hc3]; exact hkn)]
      unfold kr_val
      rw [ht]
      rfl
    exact va_get hx hb hts hc2 hown hK hP o (kr_ws_c h.1) hc1 k hkn (hts _ hw) (fun x z => z) hv hd (hk _ _ _ _ h.2 H locs lsA hP hS hl)
  · exact h.elim
theorem kr_s_pi {ci k i N : Nat} {C : String} {T : u_T} (hc : kr_cls ci C T N) (hd : decode cc pc = .ok (.putfield i, 3)) (hw : Cond.fieldLink own i (T k).1 (T k).2.1 (T k).2.2.1 ∈ kr_gw) (hkn : k < N) (ht : kr_ty ci k = 0) (hp : parseFieldDescriptor (T k).2.2.1 = some .int) (hf : (T k).2.2.2 = false) : kr_Snd E own cc nL ret (kr_pi (pc + 3) ci k) pc := by
  intro p l e R s m args below meth c A D ad cs cells slots Qm ⟨⟨hx, hb, hml, hown, hts⟩, hK, hinj, hAd, hSt, hcs, hfl, hE⟩ CO hO K Q hk hR ls st μ h H locs lsA hP hS hl
  obtain ⟨hc1, hc2, hc3, ⟨ty0, hc4⟩, hc5⟩ := hc
  unfold kr_pi at h
  split at h
  · rename_i v o r
    refine va_put (ty := .int) (v := .int v) hx hb hts hc2 ty0 hc4 hc5 hown hK hP (kr_ws_D hinj hAd) hS o (kr_ws_c h.1) hc1 k hkn (hts _ hw) (fun x z => z) hf hp rfl rfl (by rw [kr_fv_len, hc3]; exact hkn) hd (fun H1 locs1 hP1 _ hS1 => ?_)
    rw [kr_ws_uc h.1 (by rw [hc3]; exact hkn) (Or.inl ht)] at hP1
    exact hk _ _ _ _ h.2 H1 locs1 lsA hP1 hS1 hl
  · exact h.elim
theorem kr_s_pz {ci k i N : Nat} {C : String} {T : u_T} (hc : kr_cls ci C T N) (hd : decode cc pc = .ok (.putfield i, 3)) (hw : Cond.fieldLink own i (T k).1 (T k).2.1 (T k).2.2.1 ∈ kr_gw) (hkn : k < N) (ht : kr_ty ci k = 1) (hp : parseFieldDescriptor (T k).2.2.1 = some .boolean) (hf : (T k).2.2.2 = false) : kr_Snd E own cc nL ret (kr_pz (pc + 3) ci k) pc := by
  intro p l e R s m args below meth c A D ad cs cells slots Qm ⟨⟨hx, hb, hml, hown, hts⟩, hK, hinj, hAd, hSt, hcs, hfl, hE⟩ CO hO K Q hk hR ls st μ h H locs lsA hP hS hl
  obtain ⟨hc1, hc2, hc3, ⟨ty0, hc4⟩, hc5⟩ := hc
  unfold kr_pz at h
  split at h
  · rename_i v o r
    refine va_put (ty := .boolean) (v := .int v) hx hb hts hc2 ty0 hc4 hc5 hown hK hP (kr_ws_D hinj hAd) hS o (kr_ws_c h.1.1) hc1 k hkn (hts _ hw) (fun x z => z) hf hp (by rcases h.1.2 with z | z <;> rw [z] <;> rfl) (by rcases h.1.2 with z | z <;> rw [z] <;> rfl) (by rw [kr_fv_len, hc3]; exact hkn) hd (fun H1 locs1 hP1 _ hS1 => ?_)
    rw [kr_ws_uc h.1.1 (by rw [hc3]; exact hkn) (Or.inr ht)] at hP1
    exact hk _ _ _ _ h.2 H1 locs1 lsA hP1 hS1 hl
  · exact h.elim
theorem kr_s_pl {ci k i N : Nat} {C : String} {T : u_T} (hc : kr_cls ci C T N) (hd : decode cc pc = .ok (.putfield i, 3)) (hw : Cond.fieldLink own i (T k).1 (T k).2.1 (T k).2.2.1 ∈ kr_gw) (hkn : k < N) (ht : kr_ty ci k = 3) (hj : ∀ j, kr_ty ci j = 3 → j = k) (hp : parseFieldDescriptor (T k).2.2.1 = some .long) (hf : (T k).2.2.2 = false) : kr_Snd E own cc nL ret (kr_pl (pc + 3) ci) pc := by
  intro p l e R s m args below meth c A D ad cs cells slots Qm ⟨⟨hx, hb, hml, hown, hts⟩, hK, hinj, hAd, hSt, hcs, hfl, hE⟩ CO hO K Q hk hR ls st μ h H locs lsA hP hS hl
  obtain ⟨hc1, hc2, hc3, ⟨ty0, hc4⟩, hc5⟩ := hc
  unfold kr_pl at h
  split at h
  · rename_i v o r
    refine va_put (ty := .long) (v := .long v) hx hb hts hc2 ty0 hc4 hc5 hown hK hP (kr_ws_D hinj hAd) hS o (kr_ws_c h.1) hc1 k hkn (hts _ hw) (fun x z => z) hf hp rfl rfl (by rw [kr_fv_len, hc3]; exact hkn) hd (fun H1 locs1 hP1 _ hS1 => ?_)
    rw [kr_ws_uL h.1 (by rw [hc3]; exact hkn) ht hj] at hP1
    exact hk _ _ _ _ h.2 H1 locs1 lsA hP1 hS1 hl
  · exact h.elim
theorem kr_s_ia (hd : decode cc pc = .ok (.iaload, 1)) : kr_Snd E own cc nL ret (kr_ia (pc + 1)) pc := by
  intro p l e R s m args below meth c A D ad cs cells slots Qm ⟨⟨hx, hb, hml, hown, hts⟩, hK, hinj, hAd, hSt, hcs, hfl, hE⟩ CO hO K Q hk hR ls st μ h H locs lsA hP hS hl
  unfold kr_ia at h
  split at h
  · obtain ⟨⟨N, hN, hin⟩, h⟩ := h
    exact va_iald hx hb hK hP _ 0 (kr_ws_a hN) rfl hin hd (hk _ _ _ _ h H locs lsA hP hS hl)
  · exact h.elim
theorem kr_s_za (hd : decode cc pc = .ok (.baload, 1)) : kr_Snd E own cc nL ret (kr_za (pc + 1)) pc := by
  intro p l e R s m args below meth c A D ad cs cells slots Qm ⟨⟨hx, hb, hml, hown, hts⟩, hK, hinj, hAd, hSt, hcs, hfl, hE⟩ CO hO K Q hk hR ls st μ h H locs lsA hP hS hl
  unfold kr_za at h
  split at h
  · obtain ⟨⟨N, hN, hin⟩, h⟩ := h
    exact va_zald hx hb hK hP _ 1 (kr_ws_z hN) rfl hin hd (hk _ _ _ _ h H locs lsA hP hS hl)
  · exact h.elim
theorem kr_s_ra (hd : decode cc pc = .ok (.aaload, 1)) : kr_Snd E own cc nL ret (kr_ra (pc + 1)) pc := by
  intro p l e R s m args below meth c A D ad cs cells slots Qm ⟨⟨hx, hb, hml, hown, hts⟩, hK, hinj, hAd, hSt, hcs, hfl, hE⟩ CO hO K Q hk hR ls st μ h H locs lsA hP hS hl
  unfold kr_ra at h
  split at h
  · obtain ⟨⟨N, hN, hin⟩, h⟩ := h
    exact va_aldq hx hb hK hP _ 2 (kr_ws_r hN) rfl hin hd (hk _ _ _ _ h H locs lsA hP hS hl)
  · exact h.elim
theorem kr_s_ias (hd : decode cc pc = .ok (.iastore, 1)) : kr_Snd E own cc nL ret (kr_ias (pc + 1)) pc := by
  intro p l e R s m args below meth c A D ad cs cells slots Qm ⟨⟨hx, hb, hml, hown, hts⟩, hK, hinj, hAd, hSt, hcs, hfl, hE⟩ CO hO K Q hk hR ls st μ h H locs lsA hP hS hl
  unfold kr_ias at h
  split at h
  · obtain ⟨⟨N, hN, hin⟩, h⟩ := h
    refine va_iast hx hb hK hP (kr_ws_D hinj hAd) hS _ 0 (kr_ws_a hN) rfl hin hd (fun H1 locs1 hP1 _ hS1 => ?_)
    rw [kr_ws_ur hN] at hP1
    exact hk _ _ _ _ h H1 locs1 lsA hP1 hS1 hl
  · exact h.elim
theorem kr_s_zas (hd : decode cc pc = .ok (.bastore, 1)) : kr_Snd E own cc nL ret (kr_zas (pc + 1)) pc := by
  intro p l e R s m args below meth c A D ad cs cells slots Qm ⟨⟨hx, hb, hml, hown, hts⟩, hK, hinj, hAd, hSt, hcs, hfl, hE⟩ CO hO K Q hk hR ls st μ h H locs lsA hP hS hl
  unfold kr_zas at h
  split at h
  · obtain ⟨⟨⟨N, hN, hin⟩, hz⟩, h⟩ := h
    rename_i x i o r
    refine va_zast hx hb hK hP (kr_ws_D hinj hAd) hS _ 1 (kr_ws_z hN) rfl hin hd (fun H1 locs1 hP1 _ hS1 => ?_)
    have e : vp_nar .boolean x = x := by rcases hz with z | z <;> rw [z] <;> rfl
    rw [e, kr_ws_uz hN] at hP1
    exact hk _ _ _ _ h H1 locs1 lsA hP1 hS1 hl
  · exact h.elim
theorem kr_s_mmax {i : Nat} (hd : decode cc pc = .ok (.invokestatic i, 3)) (h1 : Cond.methodLink own i Lib.Math.max.name ∈ kr_gw) (h2 : Cond.static Lib.Math.max.name ∈ kr_gw) (h3 : Cond.initialized "java/lang/Math" ∈ kr_gw) (h4 : Cond.code Lib.Math.max.name Lib.Math.max.code 2 (some .int) ∈ kr_gw) : kr_Snd E own cc nL ret (kr_m2 (pc + 3) (fun x y => if x < y then y else x)) pc := by
  intro p l e R s m args below meth c A D ad cs cells slots Qm ⟨⟨hx, hb, hml, hown, hts⟩, hK, hinj, hAd, hSt, hcs, hfl, hE⟩ CO hO K Q hk hR ls st μ h H locs lsA hP hS hl
  unfold kr_m2 at h
  split at h
  · split at h
    · rename_i y x r z hz
      exact va_mmax hx hb (hml.trans hl.1.symm) hown (hts _ h1) (hts _ h2) (hts _ h3) (hts _ h4) hfl.1 (by rw [kr_sum_vv]; have := of_decide_eq_true hz; omega) hcs.1 hcs.2 hd (hk _ _ _ _ h H locs lsA hP hS hl)
    · exact h.elim
  · exact h.elim
theorem kr_s_mmin {i : Nat} (hd : decode cc pc = .ok (.invokestatic i, 3)) (h1 : Cond.methodLink own i Lib.Math.min.name ∈ kr_gw) (h2 : Cond.static Lib.Math.min.name ∈ kr_gw) (h3 : Cond.initialized "java/lang/Math" ∈ kr_gw) (h4 : Cond.code Lib.Math.min.name Lib.Math.min.code 2 (some .int) ∈ kr_gw) : kr_Snd E own cc nL ret (kr_m2 (pc + 3) (fun x y => if y < x then y else x)) pc := by
  intro p l e R s m args below meth c A D ad cs cells slots Qm ⟨⟨hx, hb, hml, hown, hts⟩, hK, hinj, hAd, hSt, hcs, hfl, hE⟩ CO hO K Q hk hR ls st μ h H locs lsA hP hS hl
  unfold kr_m2 at h
  split at h
  · split at h
    · rename_i y x r z hz
      exact va_mmin hx hb (hml.trans hl.1.symm) hown (hts _ h1) (hts _ h2) (hts _ h3) (hts _ h4) hfl.1 (by rw [kr_sum_vv]; have := of_decide_eq_true hz; omega) hcs.1 hcs.2 hd (hk _ _ _ _ h H locs lsA hP hS hl)
    · exact h.elim
  · exact h.elim
theorem kr_s_mabs {i : Nat} (hd : decode cc pc = .ok (.invokestatic i, 3)) (h1 : Cond.methodLink own i Lib.Math.abs.name ∈ kr_gw) (h2 : Cond.static Lib.Math.abs.name ∈ kr_gw) (h3 : Cond.initialized "java/lang/Math" ∈ kr_gw) (h4 : Cond.code Lib.Math.abs.name Lib.Math.abs.code 1 (some .int) ∈ kr_gw) : kr_Snd E own cc nL ret (kr_m1 (pc + 3) (fun x => if 0 ≤ x then x else 0 - x)) pc := by
  intro p l e R s m args below meth c A D ad cs cells slots Qm ⟨⟨hx, hb, hml, hown, hts⟩, hK, hinj, hAd, hSt, hcs, hfl, hE⟩ CO hO K Q hk hR ls st μ h H locs lsA hP hS hl
  unfold kr_m1 at h
  split at h
  · split at h
    · rename_i x r z hz
      exact va_mabs hx hb (hml.trans hl.1.symm) hown (hts _ h1) (hts _ h2) (hts _ h3) (hts _ h4) hfl.1 (by rw [kr_sum_vv]; have := of_decide_eq_true hz; omega) hcs.1 hcs.2 hd (hk _ _ _ _ h H locs lsA hP hS hl)
    · exact h.elim
  · exact h.elim
theorem kr_s_cp {i : Nat} (hd : decode cc pc = .ok (.invokestatic i, 3)) (h1 : Cond.methodLink own i arraycopyName ∈ kr_gw) (h2 : Cond.native arraycopyName ∈ kr_gw) (h3 : Cond.static arraycopyName ∈ kr_gw) (h4 : Cond.initialized "java/lang/System" ∈ kr_gw) : kr_Snd E own cc nL ret (kr_cp (pc + 3)) pc := by
  intro p l e R s m args below meth c A D ad cs cells slots Qm ⟨⟨hx, hb, hml, hown, hts⟩, hK, hinj, hAd, hSt, hcs, hfl, hE⟩ CO hO K Q hk hR ls st μ h H locs lsA hP hS hl
  unfold kr_cp at h
  split at h
  · obtain ⟨⟨⟨rfl, rfl⟩, N, hNa, hNb, hk0, hkN⟩, h⟩ := h
    rename_i k b a
    refine va_copyi (sp := 0) (dp := 0) hx hb (hml.trans hl.1.symm) hown (hts _ h1) (hts _ h2) (hts _ h3) (hts _ h4) hK hP (kr_ws_D hinj hAd) hS _ _ 0 0 (kr_ws_a hNa) (kr_ws_a hNb) rfl rfl rfl (by decide) (by decide) hk0 (by rw [hkN]; show 0 + N ≤ N; omega) (by rw [hkN]; show 0 + N ≤ N; omega) (fun j _ => rfl) hfl.1 (Nat.le_trans (show 0 + (nativeFrameWords "java/lang/System" "arraycopy" 5 + 11) ≤ 60 by decide +kernel) hfl.2) hd (fun H1 locs1 hP1 _ hS1 => ?_)
    rw [kr_ws_ur hNb] at hP1
    exact hk _ _ _ _ h H1 locs1 lsA hP1 hS1 hl
  · exact h.elim
theorem kr_s_ri (hd : decode cc pc = .ok (.ireturn, 1)) (hr : ret = some .int) : kr_Snd E own cc nL ret (kr_ri) pc := by
  intro p l e R s m args below meth c A D ad cs cells slots Qm ⟨⟨hx, hb, hml, hown, hts⟩, hK, hinj, hAd, hSt, hcs, hfl, hE⟩ CO hO K Q hk hR ls st μ h H locs lsA hP hS hl
  unfold kr_ri at h
  split at h
  · exact hR.1 pc _ .int μ H locs lsA hd hr rfl h hP hS
  · exact h.elim
theorem kr_s_rz (hd : decode cc pc = .ok (.ireturn, 1)) (hr : ret = some .boolean) : kr_Snd E own cc nL ret (kr_rz) pc := by
  intro p l e R s m args below meth c A D ad cs cells slots Qm ⟨⟨hx, hb, hml, hown, hts⟩, hK, hinj, hAd, hSt, hcs, hfl, hE⟩ CO hO K Q hk hR ls st μ h H locs lsA hP hS hl
  unfold kr_rz at h
  split at h
  · exact hR.1 pc _ .boolean μ H locs lsA hd hr (by rcases h.1 with z | z <;> rw [z] <;> rfl) h.2 hP hS
  · exact h.elim
theorem kr_s_rn {ty : FieldType} (hd : decode cc pc = .ok (.ireturn, 1)) (hr : ret = some ty) : kr_Snd E own cc nL ret (kr_rn (fun v => narrow ty (.int v) = .int v)) pc := by
  intro p l e R s m args below meth c A D ad cs cells slots Qm ⟨⟨hx, hb, hml, hown, hts⟩, hK, hinj, hAd, hSt, hcs, hfl, hE⟩ CO hO K Q hk hR ls st μ h H locs lsA hP hS hl
  unfold kr_rn at h
  split at h
  · exact hR.1 pc _ ty μ H locs lsA hd hr h.1 h.2 hP hS
  · exact h.elim
theorem kr_s_rv (hd : decode cc pc = .ok (.return_, 1)) (hr : ret = none) : kr_Snd E own cc nL ret (kr_rv) pc := by
  intro p l e R s m args below meth c A D ad cs cells slots Qm ⟨⟨hx, hb, hml, hown, hts⟩, hK, hinj, hAd, hSt, hcs, hfl, hE⟩ CO hO K Q hk hR ls st μ h H locs lsA hP hS hl
  unfold kr_rv at h
  split at h
  · exact hR.2 pc μ H locs lsA hd hr h hP hS
  · exact h.elim
theorem kr_s_gsc {i : Nat} (hd : decode cc pc = .ok (.getstatic i, 3)) (hw : Cond.fieldLink own i "java/lang/String" "COMPACT_STRINGS" "Z" ∈ kr_gw) : kr_Snd E own cc nL ret (kr_const (pc + 3) (.int 1)) pc := by
  intro p l e R s m args below meth c A D ad cs cells slots Qm ⟨⟨hx, hb, hml, hown, hts⟩, hK, hinj, hAd, hSt, hcs, hfl, hE⟩ CO hO K Q hk hR ls st μ h H locs lsA hP hS hl
  exact va_gets hx hb hSt.2.2.1 hS hown (hts _ hw) (fun x z => z) hd (hk _ _ _ _ h H locs lsA hP hS hl)
theorem kr_s_gs {i : Nat} (hd : decode cc pc = .ok (.getstatic i, 3)) (hw : Cond.fieldLink own i "jdk/internal/util/Preconditions" "SIOOBE_FORMATTER" "Ljava/util/function/BiFunction;" ∈ kr_gw) : kr_Snd E own cc nL ret (kr_gs (pc + 3)) pc := by
  intro p l e R s m args below meth c A D ad cs cells slots Qm ⟨⟨hx, hb, hml, hown, hts⟩, hK, hinj, hAd, hSt, hcs, hfl, hE⟩ CO hO K Q hk hR ls st μ h H locs lsA hP hS hl
  rcases hSt.2.2.2.1 with z | z
  · exact va_gets hx hb z hS hown (hts _ hw) (fun x z => z) hd (hk _ _ _ _ h.1 H locs lsA hP hS hl)
  · exact va_gets hx hb z hS hown (hts _ hw) (fun x z => z) hd (hk _ _ _ _ h.2 H locs lsA hP hS hl)
theorem kr_s_sc {i : Nat} (hd : decode cc pc = .ok (.getfield i, 3)) (hw : Cond.fieldLink own i "java/lang/String" "coder" "B" ∈ kr_gw) : kr_Snd E own cc nL ret (kr_sc (pc + 3)) pc := by
  intro p l e R s m args below meth c A D ad cs cells slots Qm ⟨⟨hx, hb, hml, hown, hts⟩, hK, hinj, hAd, hSt, hcs, hfl, hE⟩ CO hO K Q hk hR ls st μ h H locs lsA hP hS hl
  unfold kr_sc at h
  split at h
  · rename_i o r
    obtain ⟨h1, h⟩ := h
    have hq := (hSt.1.1 (kr_m 86 o) (kr_mS h1).1).2.1
    have e := (kr_mS h1).2.1
    dsimp only at hq
    rw [e] at hq
    exact vk_getf hx hb hq hS hown (hts _ hw) (fun x z => z) hd (hk _ _ _ _ h H locs lsA hP hS hl)
  · exact h.elim
theorem kr_s_sv {i : Nat} (hd : decode cc pc = .ok (.getfield i, 3)) (hw : Cond.fieldLink own i "java/lang/String" "value" "[B" ∈ kr_gw) : kr_Snd E own cc nL ret (kr_sv (pc + 3)) pc := by
  intro p l e R s m args below meth c A D ad cs cells slots Qm ⟨⟨hx, hb, hml, hown, hts⟩, hK, hinj, hAd, hSt, hcs, hfl, hE⟩ CO hO K Q hk hR ls st μ h H locs lsA hP hS hl
  unfold kr_sv at h
  split at h
  · rename_i o r
    obtain ⟨h1, h⟩ := h
    have hq := (hSt.1.1 (kr_m 86 o) (kr_mS h1).1).2.2.1
    have e := (kr_mS h1).2.1
    have e2 := (kr_mS h1).2.2
    dsimp only at hq
    rw [e, e2] at hq
    exact vk_getf hx hb hq hS hown (hts _ hw) (fun x z => z) hd (hk _ _ _ _ h H locs lsA hP hS hl)
  · exact h.elim
theorem kr_s_sb (hd : decode cc pc = .ok (.baload, 1)) : kr_Snd E own cc nL ret (kr_sb (pc + 1)) pc := by
  intro p l e R s m args below meth c A D ad cs cells slots Qm ⟨⟨hx, hb, hml, hown, hts⟩, hK, hinj, hAd, hSt, hcs, hfl, hE⟩ CO hO K Q hk hR ls st μ h H locs lsA hP hS hl
  unfold kr_sb at h
  split at h
  · rename_i i o r
    obtain ⟨⟨h1, hin⟩, h⟩ := h
    have hq := (hSt.1.1 (kr_m 93 o) (kr_mV h1).1).2.2.2
    have e := (kr_mV h1).2
    dsimp only at hq
    rw [e] at hq
    exact va_tb hx hb hq hS hin rfl hd (hk _ _ _ _ h H locs lsA hP hS hl)
  · exact h.elim
theorem kr_s_sl2 (hd : decode cc pc = .ok (.arraylength, 1)) : kr_Snd E own cc nL ret (kr_sl2 (pc + 1)) pc := by
  intro p l e R s m args below meth c A D ad cs cells slots Qm ⟨⟨hx, hb, hml, hown, hts⟩, hK, hinj, hAd, hSt, hcs, hfl, hE⟩ CO hO K Q hk hR ls st μ h H locs lsA hP hS hl
  unfold kr_sl2 at h
  split at h
  · rename_i o r
    obtain ⟨h1, h⟩ := h
    have hq := (hSt.1.1 (kr_m 93 o) (kr_mV h1).1).2.2.2
    have e := (kr_mV h1).2
    dsimp only at hq
    rw [e] at hq
    exact va_tlen hx hb hq hS rfl hd (hk _ _ _ _ h H locs lsA hP hS hl)
  · exact h.elim
end SND
/-- the law's context: the script lies at b = ad 101 -/
def kr_EX (L : Nat) (xs : Nat → Int32) : kr_E := fun s ad A => va_X (ad 101) L xs s s.heap ∧ ad 101 < s.heap.size ∧ ¬ A (ad 101)
section SNX
variable {L : Nat} {xs : Nat → Int32} {own : String} {cc : ByteArray} {nL : Nat} {ret : Option FieldType} {pc : Nat}
theorem kr_s_sa (hd : decode cc pc = .ok (.iaload, 1)) : kr_Snd (kr_EX L xs) own cc nL ret (kr_sa L xs (pc + 1)) pc := by
  intro p l e R s m args below meth c A D ad cs cells slots Qm ⟨⟨hx, hb, hml, hown, hts⟩, hK, hinj, hAd, hSt, hcs, hfl, hE⟩ CO hO K Q hk hR ls st μ h H locs lsA hP hS hl
  unfold kr_sa at h
  split at h
  · obtain ⟨⟨rfl, hin⟩, h⟩ := h
    exact va_sld hx hb hE.1 hE.2.1 hE.2.2 hS hin hd (hk _ _ _ _ h H locs lsA hP hS hl)
  · exact h.elim
theorem kr_s_sn (hd : decode cc pc = .ok (.arraylength, 1)) : kr_Snd (kr_EX L xs) own cc nL ret (kr_sn L (pc + 1)) pc := by
  intro p l e R s m args below meth c A D ad cs cells slots Qm ⟨⟨hx, hb, hml, hown, hts⟩, hK, hinj, hAd, hSt, hcs, hfl, hE⟩ CO hO K Q hk hR ls st μ h H locs lsA hP hS hl
  unfold kr_sn at h
  split at h
  · obtain ⟨rfl, h⟩ := h
    exact va_slen hx hb hE.1 hE.2.1 hE.2.2 hS hd (hk _ _ _ _ h H locs lsA hP hS hl)
  · exact h.elim
end SNX
/-! calls -/
theorem kr_sp_of : ∀ (n : Nat) (st acc as r : List Value), kr_sp n st acc = some (as, r) → ∃ pre : List Value, st = pre ++ r ∧ as = pre.reverse ++ acc ∧ pre.length = n := by
  intro n
  induction n with
  | zero => intro st acc as r h; simp only [kr_sp, Option.some.injEq, Prod.mk.injEq] at h; exact ⟨[], h.2, h.1.symm, rfl⟩
  | succ n ih =>
    intro st acc as r h
    cases st with
    | nil => simp [kr_sp] at h
    | cons v st =>
      simp only [kr_sp] at h
      obtain ⟨pre, h1, h2, h3⟩ := ih st (v :: acc) as r h
      exact ⟨v :: pre, by rw [h1]; rfl, by rw [h2]; simp, by simp [h3]⟩
def kr_mf (y na : Nat) : Prop := Cond.code (kr_nm y) (kr_bc y) (kr_mL y) (kr_rt y) ∈ kr_gw ∧ Cond.initialized (kr_nm y).cls ∈ kr_gw ∧ (kr_nm y).cls ≠ "java/lang/invoke/MethodHandle" ∧ (kr_nm y).cls ≠ "java/lang/invoke/VarHandle" ∧ (parseMethodDescriptor (kr_nm y).desc).map (fun d => d.parameters.length) = some na
theorem kr_ms_good {y na : Nat} (h : kr_mf y na) : GoodIn kr_gw (kr_ms y) := kr_goodIn (fun w hw => by
  rcases List.mem_cons.mp hw with z | z
  · rw [z]; exact h.1
  · exact z)
theorem kr_blind (D : va_G) (ad : Nat → Nat) (cs : ClassId × ClassId × ClassId) (as : List Value) (μ : kr_M) : FrameBlind (kr_Pc D ad cs as μ) := by
  intro a U g mk ⟨h1, h2, h3, h4⟩
  exact ⟨h1, h2, va_K.moved (u := U) (U := U.calling g mk a) (Vm.Alike.refl U.vm) h3, h4.same rfl⟩
section KRC
variable {p : Program} {l : Launch} {e : Env} {R : Room} {s : State} {m : MethodId} {args : Array Value} {below : List Frame} {meth : Method} {c : Code} {H : Heap} {locs : List Loc} {cells slots : Nat} {Qm : State → Prop} {A : Nat → Prop} {D : va_G} {ad : Nat → Nat} {cs : ClassId × ClassId × ClassId}
theorem kr_after {pc : Nat} {lsA : Array Slot} {rest st0 : List Value} {a : Array Value} {Q : kr_Q} (hr : va_Run p l e R s m args below meth c H locs cells slots 0 0 (F0 m pc lsA st0) rest (kr_Qc D ad cs Q a) (kr_fr ad)) (hS : va_S A s.heap H locs) (hA : ∀ q, kr_fr ad q → A q)
    (kk : ∀ (v : Option Value) (μ : kr_M) (H1 : Heap) (locs1 : List Loc), Q v μ → va_P D vwCl (kr_ws ad cs μ) H1 → va_S A s.heap H1 locs1 → W p l e R s m args below meth c H1 locs1 cells slots Qm (F0 m (pc + 3) lsA ((v.map (kr_vv ad)).toList ++ rest))) : W p l e R s m args below meth c H locs cells slots Qm (F0 m pc lsA st0) := by
  intro T hT X
  obtain ⟨v, st₀, t, T', L, h0, X', hL, e1, e2, ⟨⟨v', μ', hv, hq, hp⟩, hz, hk⟩, st⟩ := hr T hT X
  cases hv
  rw [h0] at hz hk
  obtain ⟨t2, a1, b1⟩ := kk v' μ' T'.heap (locs ++ L) hq (by rw [e1]; exact hp) ⟨Nat.le_trans hS.1 (by rw [e1]; exact hz), fun q h1 h2 => by rw [e1, hk q (Nat.lt_of_lt_of_le h1 hS.1) (fun z => h2 (hA q z))]; exact hS.2.1 q h1 h2, fun q hq => by
      rcases List.mem_append.mp hq with h | h
      · exact hS.2.2 q h
      · exact hA _ (hL q h)⟩ T' rfl X'
  exact ⟨t2, st t2 a1, b1⟩
/-- what a callee finds at its start -/
theorem kr_pre {as : List Value} {μ : kr_M} (hP : va_P D vwCl (kr_ws ad cs μ) H) (hK : va_K D vwCl (kr_tys cs) s) (hSt : kr_St ad A s s.heap) (hS : va_S A s.heap H locs) (hA : ∀ q, kr_fr ad q → A q) : ∀ U : State, U.heap = H → s.WarmedH U.vm → kr_Pc D ad cs as μ (as.map (kr_vv ad)).toArray U := by
  intro U hU hW
  refine ⟨rfl, by rw [hU]; exact hP, va_K.moved hW.alike hK, ?_⟩
  rw [hU]
  exact ((hSt.kept hS.2.1).narrow hA).warm hW
end KRC
section SNC
variable {E : kr_E} {own : String} {cc : ByteArray} {nL : Nat} {ret : Option FieldType} {pc : Nat}
theorem kr_s_cv {y i na ci N : Nat} {C : String} {T : u_T} (hc : kr_cls ci C T N) (hm : kr_mf y na) (hd : decode cc pc = .ok (.invokevirtual i, 3)) (h1 : Cond.methodLink own i (kr_nm y) ∈ kr_gw) (h2 : Cond.instanceMethod (kr_nm y) ∈ kr_gw) (h3 : Cond.selects C (kr_nm y) (kr_nm y) ∈ kr_gw) : kr_Snd E own cc nL ret (kr_cv (pc + 3) y (na + 1) ci) pc := by
  intro p l e R s m args below meth c A D ad cs cells slots Qm ⟨⟨hx, hb, hml, hown, hts⟩, hK, hinj, hAd, hSt, hcs, hfl, hE⟩ CO hO K Q hk hR ls st μ h H locs lsA hP hS hl
  unfold kr_cv at h
  split at h
  · split at h
    · rename_i o as r hsp z hz
      obtain ⟨hko, h⟩ := h
      obtain ⟨rm, g1, g2, g3, g4, hM⟩ := hO _ _ _ _ h
      obtain ⟨pre, e1, e2, e3⟩ := kr_sp_of _ _ _ _ _ hsp
      have hA : ∀ q, kr_fr ad q → A q := fun q ⟨k, hk1, hk2⟩ => by rw [hk2]; exact hAd k hk1
      have est : pre = as.reverse ++ [.ref o] := by
        have := congrArg List.reverse e2
        simpa using this.symm
      subst e1
      subst est
      have e4 : as.length = na := by simpa using e3
      obtain ⟨f1, f2, f3, f4, f5⟩ := hm
      refine kr_after (va_runV (b := ad o) (As := as.map (kr_vv ad)) (rest := r.map (kr_vv ad)) (Ts := kr_gw) (cc := cc) (nL := nL) (own := own) (C := C) (n := na) ⟨hx, hb, hml, hown, hts⟩ hM ⟨callB_of na hts (kr_ms_good ⟨f1, f2, f3, f4, f5⟩) rfl g1 g2 (hts _ f2) (hts _ h1) ⟨f3, f4, f5⟩ ⟨g3, g4⟩, hts _ h2, hts _ h3⟩ ⟨kr_blind _ _ _ _ _, va_recv hK hP hc.1 (kr_ws_c hko), kr_pre hP hK hSt hS hA⟩ rfl (by rw [List.length_map]; exact e4) hl.1 (by simp [List.map_reverse, kr_vv]) (lv_room (by rw [kr_sum_vv]; exact of_decide_eq_true hz)) hd hcs) hS hA (fun v μ1 H1 locs1 hq hp hs => by
      unfold kr_bk at hq
      split at hq
      · exact hk _ _ _ _ hq H1 locs1 lsA hp hs hl
      · exact hk _ _ _ _ hq H1 locs1 lsA hp hs hl
      · exact hq.elim)
    · exact h.elim
  · exact h.elim
theorem kr_s_ct {y i na : Nat} (hm : kr_mf y na) (hd : decode cc pc = .ok (.invokevirtual i, 3)) (h1 : Cond.methodLink own i (kr_nm y) ∈ kr_gw) (h2 : Cond.instanceMethod (kr_nm y) ∈ kr_gw) (h3 : Cond.selects "java/lang/String" (kr_nm y) (kr_nm y) ∈ kr_gw) : kr_Snd E own cc nL ret (kr_ct (pc + 3) y (na + 1)) pc := by
  intro p l e R s m args below meth c A D ad cs cells slots Qm ⟨⟨hx, hb, hml, hown, hts⟩, hK, hinj, hAd, hSt, hcs, hfl, hE⟩ CO hO K Q hk hR ls st μ h H locs lsA hP hS hl
  unfold kr_ct at h
  split at h
  · split at h
    · rename_i o as r hsp z hz
      obtain ⟨hkS, h⟩ := h
      obtain ⟨rm, g1, g2, g3, g4, hM⟩ := hO _ _ _ _ h
      obtain ⟨pre, e1, e2, e3⟩ := kr_sp_of _ _ _ _ _ hsp
      have hA : ∀ q, kr_fr ad q → A q := fun q ⟨k, hk1, hk2⟩ => by rw [hk2]; exact hAd k hk1
      have est : pre = as.reverse ++ [.ref o] := by
        have := congrArg List.reverse e2
        simpa using this.symm
      subst e1
      subst est
      have e4 : as.length = na := by simpa using e3
      obtain ⟨f1, f2, f3, f4, f5⟩ := hm
      have hrv := vk_recv hSt.1 (i := kr_m 86 o) (kr_mS hkS).1 hS
      have e5 := (kr_mS hkS).2.1
      rw [e5] at hrv
      refine kr_after (va_runV (b := ad o) (As := as.map (kr_vv ad)) (rest := r.map (kr_vv ad)) (Ts := kr_gw) (cc := cc) (nL := nL) (own := own) (C := "java/lang/String") (n := na) ⟨hx, hb, hml, hown, hts⟩ hM ⟨callB_of na hts (kr_ms_good ⟨f1, f2, f3, f4, f5⟩) rfl g1 g2 (hts _ f2) (hts _ h1) ⟨f3, f4, f5⟩ ⟨g3, g4⟩, hts _ h2, hts _ h3⟩ ⟨kr_blind _ _ _ _ _, hrv, kr_pre hP hK hSt hS hA⟩ rfl (by rw [List.length_map]; exact e4) hl.1 (by simp [List.map_reverse, kr_vv]) (lv_room (by rw [kr_sum_vv]; exact of_decide_eq_true hz)) hd hcs) hS hA (fun v μ1 H1 locs1 hq hp hs => by
      unfold kr_bk at hq
      split at hq
      · exact hk _ _ _ _ hq H1 locs1 lsA hp hs hl
      · exact hk _ _ _ _ hq H1 locs1 lsA hp hs hl
      · exact hq.elim)
    · exact h.elim
  · exact h.elim
theorem kr_s_cs {y i na : Nat} (hm : kr_mf y na) (hd : decode cc pc = .ok (.invokestatic i, 3)) (h1 : Cond.methodLink own i (kr_nm y) ∈ kr_gw) (h2 : Cond.static (kr_nm y) ∈ kr_gw) : kr_Snd E own cc nL ret (kr_cs (pc + 3) y na) pc := by
  intro p l e R s m args below meth c A D ad cs cells slots Qm ⟨⟨hx, hb, hml, hown, hts⟩, hK, hinj, hAd, hSt, hcs, hfl, hE⟩ CO hO K Q hk hR ls st μ h H locs lsA hP hS hl
  unfold kr_cs at h
  split at h
  · split at h
    · rename_i as r hsp z hz
      obtain ⟨rm, g1, g2, g3, g4, hM⟩ := hO _ _ _ _ h
      obtain ⟨pre, e1, e2, e3⟩ := kr_sp_of _ _ _ _ _ hsp
      have hA : ∀ q, kr_fr ad q → A q := fun q ⟨k, hk1, hk2⟩ => by rw [hk2]; exact hAd k hk1
      have est : pre = as.reverse := by
        have := congrArg List.reverse e2
        simpa using this.symm
      subst e1
      subst est
      have e4 : as.length = na := by simpa using e3
      obtain ⟨f1, f2, f3, f4, f5⟩ := hm
      refine kr_after (va_runS (As := as.map (kr_vv ad)) (rest := r.map (kr_vv ad)) (Ts := kr_gw) (cc := cc) (nL := nL) (own := own) (n := na) ⟨hx, hb, hml, hown, hts⟩ hM ⟨callB_of na hts (kr_ms_good ⟨f1, f2, f3, f4, f5⟩) rfl g1 g2 (hts _ f2) (hts _ h1) ⟨f3, f4, f5⟩ ⟨g3, g4⟩, hts _ h2⟩ ⟨kr_blind _ _ _ _ _, kr_pre hP hK hSt hS hA⟩ rfl (by rw [List.length_map]; exact e4) hl.1 (by simp [List.map_reverse]) (lv_room (by rw [kr_sum_vv]; exact of_decide_eq_true hz)) hd hcs) hS hA (fun v μ1 H1 locs1 hq hp hs => by
      unfold kr_bk at hq
      split at hq
      · exact hk _ _ _ _ hq H1 locs1 lsA hp hs hl
      · exact hk _ _ _ _ hq H1 locs1 lsA hp hs hl
      · exact hq.elim)
    · exact h.elim
  · exact h.elim
theorem kr_s_cn {y i na : Nat} (hm : kr_mf y na) (hd : decode cc pc = .ok (.invokestatic i, 3)) (h1 : (own, i, y) ∈ kr_nst) (h2 : Cond.static (kr_nm y) ∈ kr_gw) : kr_Snd E own cc nL ret (kr_cs (pc + 3) y na) pc := by
  intro p l e R s m args below meth c A D ad cs cells slots Qm ⟨⟨hx, hb, hml, hown, hts⟩, hK, hinj, hAd, hSt, hcs, hfl, hE⟩ CO hO K Q hk hR ls st μ h H locs lsA hP hS hl
  unfold kr_cs at h
  split at h
  · split at h
    · rename_i as r hsp z hz
      obtain ⟨rm, g1, g2, g3, g4, hM⟩ := hO _ _ _ _ h
      obtain ⟨pre, e1, e2, e3⟩ := kr_sp_of _ _ _ _ _ hsp
      have hA : ∀ q, kr_fr ad q → A q := fun q ⟨k, hk1, hk2⟩ => by rw [hk2]; exact hAd k hk1
      have est : pre = as.reverse := by
        have := congrArg List.reverse e2
        simpa using this.symm
      subst e1
      subst est
      have e4 : as.length = na := by simpa using e3
      obtain ⟨f1, f2, f3, f4, f5⟩ := hm
      refine kr_after (va_runSN (host := "ChalkRoads") (As := as.map (kr_vv ad)) (rest := r.map (kr_vv ad)) (Ts := kr_gw) (cc := cc) (nL := nL) (own := own) (n := na) ⟨hx, hb, hml, hown, hts⟩ hM ⟨va_cnB na hts (kr_ms_good ⟨f1, f2, f3, f4, f5⟩) rfl g1 g2 (hSt.2.2.2.2 _ h1) (hts _ f2) ⟨f3, f4, f5⟩ ⟨g3, g4⟩, hts _ h2, trivial⟩ ⟨kr_blind _ _ _ _ _, kr_pre hP hK hSt hS hA⟩ rfl (by rw [List.length_map]; exact e4) hl.1 (by simp [List.map_reverse]) (lv_room (by rw [kr_sum_vv]; exact of_decide_eq_true hz)) hd hcs) hS hA (fun v μ1 H1 locs1 hq hp hs => by
      unfold kr_bk at hq
      split at hq
      · exact hk _ _ _ _ hq H1 locs1 lsA hp hs hl
      · exact hk _ _ _ _ hq H1 locs1 lsA hp hs hl
      · exact hq.elim)
    · exact h.elim
  · exact h.elim
end SNC
