/-! constructors: rows over a world of cells -/
/-- what a constructor's body stands on -/
def kr_Cn (own : String) (cc : ByteArray) (nL : Nat) (p : Program) (s : State) (m : MethodId) (args : Array Value) (meth : Method) (c : Code) (D : va_G) (cs : ClassId × ClassId × ClassId) (A : Nat → Prop) : Prop :=
  (p.tables.exec = Jvm.exec ∧ c.code = cc ∧ c.maxLocals = nL ∧ s.vm.findClass own = some m.cls ∧ ∀ w ∈ kr_gw, w.before args s = true) ∧ va_K D vwCl (kr_tys cs) s ∧ (∀ q : Nat, s.heap.size ≤ q → A q) ∧ meth.name = "<init>"
def kr_Wd (D : va_G) (A : Nat → Prop) (s : State) (ws : va_W) (H : Heap) (locs : List Loc) : Prop := va_P D vwCl ws H ∧ va_D A ws ∧ va_S A s.heap H locs
def kr_mi (y : MethodName) (cc : ByteArray) (nL : Nat) : List Cond := .code y cc nL none :: kr_gw
/-- a constructor's contract: of its object's cell alone it makes the world w1 -/
def kr_Mi (l : Launch) (D : va_G) (cs : ClassId × ClassId × ClassId) (y : MethodName) (cc : ByteArray) (nL : Nat) (rm : Room) (h0 : Nat) (o : Nat × List Value) (as : List Value) (w1 : (Nat → Nat) → va_W) : Prop := ∀ sz : Nat,
  Met l y (kr_mi y cc nL) rm (va_Pc (.ref h0 :: as) (fun U => U.heap.size = sz ∧ va_P D vwCl [(h0, .inr o)] U.heap ∧ va_K D vwCl (kr_tys cs) U ∧ va_D (fun _ => True) [(h0, .inr o)])) (va_Qv (fun _ : Nat → Nat => True) (fun u t => va_P D vwCl (w1 u) t.heap ∧ va_D (va_A [(h0, .inr o)] sz) (w1 u)) (va_A [(h0, .inr o)] sz)) rm.cells rm.slots (va_A [(h0, .inr o)] sz)
theorem kr_mi_good {y : MethodName} {cc : ByteArray} {nL : Nat} (h : Cond.code y cc nL none ∈ kr_gw) : GoodIn kr_gw (kr_mi y cc nL) := kr_goodIn (fun w hw => by
  rcases List.mem_cons.mp hw with z | z
  · rw [z]; exact h
  · exact z)
section
variable {p : Program} {l : Launch} {e : Env} {R : Room} {s : State} {m : MethodId} {args : Array Value} {below : List Frame} {meth : Method} {c : Code} {H : Heap} {locs : List Loc} {cells slots : Nat} {Q : State → Prop} {A : Nat → Prop} {D : va_G} {cs : ClassId × ClassId × ClassId} {own : String} {cc : ByteArray} {nL : Nat} {ws : va_W} {pc : Nat} {ls : Array Slot} {rest : List Value}
theorem kr_i_newa (C : kr_Cn own cc nL p s m args meth c D cs A) (hW : kr_Wd D A s ws H locs) (harr : Cond.arrayClass .int ∈ kr_gw) {n : Int32} {N : Nat} (hn : ¬ n < 0) (hN : n.toNatClampNeg = N) (hb : N * 4 ≤ 536870912) (hc : cells + 1 ≤ R.cells) (hsl : slots + N ≤ R.slots) (hd : decode cc pc = .ok (.newarray .int, 2))
    (kk : ∀ (q : Nat) (H1 : Heap), kr_Wd D A s (ws ++ [(q, .inl (cs.1, N, .inl (fun _ => 0)))]) H1 locs → W p l e R s m args below meth c H1 locs (cells + 1) (slots + N) Q (F0 m (pc + 2) ls (.ref q :: rest))) : W p l e R s m args below meth c H locs cells slots Q (F0 m pc ls (.int n :: rest)) := by
  obtain ⟨⟨hx, hbc, -, -, hts⟩, hK, hA, -⟩ := C
  refine va_newa (a0 := (N, .inl (fun _ => 0))) hx hbc (atype := .int) (hts _ harr) rfl hK hW.1 hW.2.1 hW.2.2 hA (fun cA => rfl) hn hN hb hc hsl hd (fun q cA H1 hK1 hP1 hD1 hS1 => ?_)
  have e : cA = cs.1 := by
    have h1 := (hK1.2 3 (cA, .int) rfl).2
    have h2 := (hK.2 0 (cs.1, .int) rfl).2
    exact Option.some.inj (h1.symm.trans h2)
  subst e
  exact kk q H1 ⟨hP1, hD1, hS1⟩
theorem kr_i_newz (C : kr_Cn own cc nL p s m args meth c D cs A) (hW : kr_Wd D A s ws H locs) (harr : Cond.arrayClass .boolean ∈ kr_gw) {n : Int32} {N : Nat} (hn : ¬ n < 0) (hN : n.toNatClampNeg = N) (hb : N * 1 ≤ 536870912) (hc : cells + 1 ≤ R.cells) (hsl : slots + N ≤ R.slots) (hd : decode cc pc = .ok (.newarray .boolean, 2))
    (kk : ∀ (q : Nat) (H1 : Heap), kr_Wd D A s (ws ++ [(q, .inl (cs.2.1, N, .inl (fun _ => 0)))]) H1 locs → W p l e R s m args below meth c H1 locs (cells + 1) (slots + N) Q (F0 m (pc + 2) ls (.ref q :: rest))) : W p l e R s m args below meth c H locs cells slots Q (F0 m pc ls (.int n :: rest)) := by
  obtain ⟨⟨hx, hbc, -, -, hts⟩, hK, hA, -⟩ := C
  refine va_newa (a0 := (N, .inl (fun _ => 0))) hx hbc (atype := .boolean) (hts _ harr) rfl hK hW.1 hW.2.1 hW.2.2 hA (fun cA => rfl) hn hN hb hc hsl hd (fun q cA H1 hK1 hP1 hD1 hS1 => ?_)
  have e : cA = cs.2.1 := by
    have h1 := (hK1.2 3 (cA, .boolean) rfl).2
    have h2 := (hK.2 1 (cs.2.1, .boolean) rfl).2
    exact Option.some.inj (h1.symm.trans h2)
  subst e
  exact kk q H1 ⟨hP1, hD1, hS1⟩
theorem kr_i_newq (C : kr_Cn own cc nL p s m args meth c D cs A) (hW : kr_Wd D A s ws H locs) {index : Nat} (hcl : Cond.classLink own index "ChalkRoads$Rock" ∈ kr_gw) (hov : va_AO "ChalkRoads$Rock" s) {n : Int32} {N : Nat} (hn : ¬ n < 0) (hN : n.toNatClampNeg = N) (hb : N * 4 ≤ 536870912) (hc : cells + 1 ≤ R.cells) (hsl : slots + N ≤ R.slots) (hd : decode cc pc = .ok (.anewarray index, 3))
    (kk : ∀ (q : Nat) (H1 : Heap), kr_Wd D A s (ws ++ [(q, .inl (cs.2.2, N, .inr (.inr (.inr (.inr (fun _ => none))))))]) H1 locs → W p l e R s m args below meth c H1 locs (cells + 1) (slots + N) Q (F0 m (pc + 3) ls (.ref q :: rest))) : W p l e R s m args below meth c H locs cells slots Q (F0 m pc ls (.int n :: rest)) := by
  obtain ⟨⟨hx, hbc, -, hown, hts⟩, hK, hA, -⟩ := C
  refine va_newq hx hbc hown (hts _ hcl) hov hK hW.1 hW.2.1 hW.2.2 hA hn hN hb hc hsl hd (fun q cA H1 hK1 hP1 hD1 hS1 => ?_)
  have e : cA = cs.2.2 := by
    obtain ⟨k1, c1, -, -, -, h1⟩ := (hK1.2 3 (cA, .object "ChalkRoads$Rock") rfl).2
    obtain ⟨k2, c2, -, -, -, h2⟩ := (hK.2 2 (cs.2.2, .object "ChalkRoads$Rock") rfl).2
    exact Option.some.inj (h1.symm.trans h2)
  subst e
  exact kk q H1 ⟨hP1, hD1, hS1⟩
theorem kr_i_new (C : kr_Cn own cc nL p s m args meth c D cs A) (hW : kr_Wd D A s ws H locs) {ci N index : Nat} {Cn : String} {T : u_T} (hc : kr_cls ci Cn T N) {fs : List Value} (ty : Nat → FieldType) (hty : ∀ k, k < N → parseFieldDescriptor (T k).2.2.1 = some (ty k)) (hfs : ∀ j, j < N → defaultValue (ty j) = vp_V fs j) (w1 : Cond.classLink own index Cn ∈ kr_gw) (w2 : Cond.instantiable Cn N ∈ kr_gw) (w3 : Cond.initialized Cn ∈ kr_gw) (hcc : cells + 1 ≤ R.cells) (hsl : slots + N ≤ R.slots) (hd : decode cc pc = .ok (.new index, 3))
    (kk : ∀ (q : Nat) (H1 : Heap), kr_Wd D A s (ws ++ [(q, .inr (ci, fs))]) H1 locs → W p l e R s m args below meth c H1 locs (cells + 1) (slots + N) Q (F0 m (pc + 3) ls (.ref q :: rest))) : W p l e R s m args below meth c H locs cells slots Q (F0 m pc ls rest) := by
  obtain ⟨⟨hx, hbc, -, hown, hts⟩, hK, hA, -⟩ := C
  exact va_new hx hbc hts hc.2.1 ty hty hown (hts _ w1) (hts _ w2) (hts _ w3) hK hW.1 hW.2.1 hW.2.2 hA hc.1 hfs hcc hsl hd (fun q H1 hP1 hD1 hS1 => kk q H1 ⟨hP1, hD1, hS1⟩)
theorem kr_i_putF (C : kr_Cn own cc nL p s m args meth c D cs A) {h0 ci N index k : Nat} {Cn : String} {T : u_T} {fs : List Value} {wr : va_W} (hW : kr_Wd D A s ((h0, .inr (ci, fs)) :: wr) H locs) (hc : kr_cls ci Cn T N) (w1 : Cond.fieldLink own index (T k).1 (T k).2.1 (T k).2.2.1 ∈ kr_gw) (hk : k < N) (hfin : (T k).2.2.2 = true) (hdecl : (T k).1 = own) {ty : FieldType} {v : Value} (hdt : parseFieldDescriptor (T k).2.2.1 = some ty) (hn : narrow ty v = v) (hfit : fits ty v = true) (hl : k < fs.length) (hd : decode cc pc = .ok (.putfield index, 3))
    (kk : ∀ (H1 : Heap) (locs1 : List Loc), kr_Wd D A s ((h0, .inr (ci, fs.set k v)) :: wr) H1 locs1 → W p l e R s m args below meth c H1 locs1 cells slots Q (F0 m (pc + 3) ls rest)) : W p l e R s m args below meth c H locs cells slots Q (F0 m pc ls (v :: .ref h0 :: rest)) := by
  obtain ⟨⟨hx, hbc, -, hown, hts⟩, hK, hA, hin⟩ := C
  obtain ⟨ty0, hty⟩ := hc.2.2.2.1
  exact va_putF hx hbc hts hc.2.1 ty0 hty hc.2.2.2.2 hown hK hW.1 hW.2.1 hW.2.2 0 rfl hc.1 k hk (hts _ w1) (fun _ h9 => h9) hfin hin hdecl hdt hn hfit hl hd (fun H1 locs1 hP1 hD1 hS1 => kk H1 locs1 ⟨hP1, hD1, hS1⟩)
theorem kr_i_put (C : kr_Cn own cc nL p s m args meth c D cs A) {h0 ci N index k : Nat} {Cn : String} {T : u_T} {fs : List Value} {wr : va_W} (hW : kr_Wd D A s ((h0, .inr (ci, fs)) :: wr) H locs) (hc : kr_cls ci Cn T N) (w1 : Cond.fieldLink own index (T k).1 (T k).2.1 (T k).2.2.1 ∈ kr_gw) (hk : k < N) (hfin : (T k).2.2.2 = false) {ty : FieldType} {v : Value} (hdt : parseFieldDescriptor (T k).2.2.1 = some ty) (hn : narrow ty v = v) (hfit : fits ty v = true) (hl : k < fs.length) (hd : decode cc pc = .ok (.putfield index, 3))
    (kk : ∀ (H1 : Heap) (locs1 : List Loc), kr_Wd D A s ((h0, .inr (ci, fs.set k v)) :: wr) H1 locs1 → W p l e R s m args below meth c H1 locs1 cells slots Q (F0 m (pc + 3) ls rest)) : W p l e R s m args below meth c H locs cells slots Q (F0 m pc ls (v :: .ref h0 :: rest)) := by
  obtain ⟨⟨hx, hbc, -, hown, hts⟩, hK, hA, hin⟩ := C
  obtain ⟨ty0, hty⟩ := hc.2.2.2.1
  exact va_put hx hbc hts hc.2.1 ty0 hty hc.2.2.2.2 hown hK hW.1 hW.2.1 hW.2.2 0 rfl hc.1 k hk (hts _ w1) (fun _ h9 => h9) hfin hdt hn hfit hl hd (fun H1 locs1 hP1 hD1 hS1 => kk H1 locs1 ⟨hP1, hD1, hS1⟩)
theorem kr_i_get (C : kr_Cn own cc nL p s m args meth c D cs A) {h0 ci N index k : Nat} {Cn : String} {T : u_T} {fs : List Value} {wr : va_W} (hW : kr_Wd D A s ((h0, .inr (ci, fs)) :: wr) H locs) (hc : kr_cls ci Cn T N) (w1 : Cond.fieldLink own index (T k).1 (T k).2.1 (T k).2.2.1 ∈ kr_gw) (hk : k < N) {v : Value} (hv : fs[k]? = some v) (hd : decode cc pc = .ok (.getfield index, 3))
    (kk : W p l e R s m args below meth c H locs cells slots Q (F0 m (pc + 3) ls (v :: rest))) : W p l e R s m args below meth c H locs cells slots Q (F0 m pc ls (.ref h0 :: rest)) := by
  obtain ⟨⟨hx, hbc, -, hown, hts⟩, hK, hA, hin⟩ := C
  exact va_get hx hbc hts hc.2.1 hown hK hW.1 0 rfl hc.1 k hk (hts _ w1) (fun _ h9 => h9) hv hd kk
theorem kr_i_obj (C : kr_Cn own cc nL p s m args meth c D cs A) {idx a : Nat} (w1 : Cond.methodLink own idx objectInit ∈ kr_gw) (w2 : Cond.instanceMethod objectInit ∈ kr_gw) (w3 : Cond.code objectInit ⟨#[0xb1]⟩ 1 none ∈ kr_gw) (hls : ls.size = nL) (hd : decode cc pc = .ok (.invokespecial idx, 3)) (hR : 1 ≤ R.frames ∧ 12 ≤ R.locals)
    (kk : W p l e R s m args below meth c H locs cells slots Q (F0 m (pc + 3) ls [])) : W p l e R s m args below meth c H locs cells slots Q (F0 m pc ls [.ref a]) := by
  obtain ⟨⟨hx, hbc, hml, hown, hts⟩, -⟩ := C
  refine W.objInit hx hbc hown (hts _ w1) (hts _ w2) (hts _ w3) rfl (by rw [hml]; exact hls) rfl hd hR.1 (by show 2 * 0 + 0 + 12 ≤ _; exact hR.2) ?_
  exact W.eq (g2 := F0 m (pc + 3) ls []) rfl kk
theorem kr_rg (wr : va_W) (x : Nat × va_E) : (List.range wr.length).map (fun i => (wr ++ [x])[i]?) = wr.map some := by
  apply List.ext_getElem?
  intro i
  rw [List.getElem?_map, List.getElem?_map]
  rcases Nat.lt_or_ge i wr.length with h | h
  · rw [List.getElem?_range h, List.getElem?_eq_getElem h]
    show some ((wr ++ [x])[i]?) = _
    rw [List.getElem?_append_left h, List.getElem?_eq_getElem h]
    rfl
  · rw [List.getElem?_eq_none (by simpa using h), List.getElem?_eq_none h]
    rfl
theorem kr_ndp : ∀ l : List Nat, l.Nodup → va_nd l = true := by
  intro l
  induction l with
  | nil => intro _; rfl
  | cons a l ih =>
    intro h
    have h2 := List.nodup_cons.mp h
    show (decide (a ∉ l) && va_nd l) = true
    rw [ih h2.2, decide_eq_true h2.1]
    rfl
theorem kr_rgn (n : Nat) : va_nd (List.range n) = true := kr_ndp _ List.nodup_range
theorem kr_i_init (C : kr_Cn own cc nL p s m args meth c D cs A) {wr : va_W} {q index n : Nat} {o : Nat × List Value} (hW : kr_Wd D A s (wr ++ [(q, .inr o)]) H locs) {y : MethodName} {cy : ByteArray} {nY : Nat} {rm : Room} {As : List Value} {w1 : (Nat → Nat) → va_W} (hM : kr_Mi l D cs y cy nY rm q o As w1) (v1 : Cond.code y cy nY none ∈ kr_gw) (v2 : Cond.initialized y.cls ∈ kr_gw) (v3 : Cond.methodLink own index y ∈ kr_gw) (v4 : Cond.instanceMethod y ∈ kr_gw) (hy1 : y.name = "<init>") (hy : y.cls ≠ "java/lang/invoke/MethodHandle" ∧ y.cls ≠ "java/lang/invoke/VarHandle" ∧ (parseMethodDescriptor y.desc).map (fun d => d.parameters.length) = some n) (hR : rm.frames + 1 ≤ R.frames ∧ 8 + (nY + 11) + rm.locals ≤ R.locals) (hn : As.length = n) (hls : ls.size = nL) {st : List Value} (hst : st = As.reverse ++ .ref q :: rest) (hrm : (rest.map fun v => v.category).sum ≤ 8) (hf : cells + rm.cells ≤ R.cells ∧ slots + rm.slots ≤ R.slots) (hd : decode cc pc = .ok (.invokespecial index, 3))
    (kk : ∀ (u : Nat → Nat) (H1 : Heap) (locs1 : List Loc), kr_Wd D A s (wr ++ w1 u) H1 locs1 → W p l e R s m args below meth c H1 locs1 (cells + rm.cells) (slots + rm.slots) Q (F0 m (pc + 3) ls rest)) : W p l e R s m args below meth c H locs cells slots Q (F0 m pc ls st) := by
  have C' := C
  obtain ⟨⟨hx, hbc, hml, hown, hts⟩, hK, hA, hin⟩ := C
  obtain ⟨hP, hD, hS⟩ := hW
  subst hst
  have hcm : [wr.length].map (fun i => (wr ++ [(q, Sum.inr o)])[i]?) = [(q, (Sum.inr o : va_E))].map some := by
    simp
  have hcf : [wr.length].filterMap (fun i => (wr ++ [(q, Sum.inr o)])[i]?) = [(q, (Sum.inr o : va_E))] := by
    simp
  have hPc := hP.sub (ws' := [(q, .inr o)]) [wr.length] hcf
  have hDc := hD.sub (ws' := [(q, .inr o)]) [wr.length] (kr_ndp _ (by simp)) hcm
  have hFc := va_free (wc := [(q, .inr o)]) hD hS hA [wr.length] hcm
  refine va_callv (va_runI (b := q) (As := As) (rest := rest) ⟨hx, hbc, hml, hown, hts⟩ (hM H.size) (cwI n hts (kr_mi_good v1) rfl rfl rfl (hts _ v2) (hts _ v3) (hts _ v4) hy1 hy hR) ⟨fun a U g mk q => by obtain ⟨q0, q1, qP, qK, qD⟩ := q; exact ⟨q0, q1, qP, va_K.moved (u := U) (U := U.calling g mk a) (Vm.Alike.refl U.vm) qK, qD⟩, fun U hU hW => ⟨rfl, by rw [hU], by rw [hU]; exact hPc, va_K.moved hW.alike hK, hDc.weaken (fun _ _ _ _ => trivial)⟩⟩ rfl hn hls rfl (lv_room hrm) hd hf) hS (fun q _ h => hFc q h) hFc (fun u t H1 locs1 ht hvm _ hB hz1 hk1 hS1 => ?_)
  obtain ⟨hP1, hD1⟩ := hB
  rw [ht] at hP1
  obtain ⟨hP2, hD2⟩ := va_join (wr := wr) (w1 := w1 u) hP hD [wr.length] (List.range wr.length) hcm (kr_rg _ _) (kr_rgn _) (fun i hi => by simp at hi ⊢; omega) hk1 hFc hP1 hD1
  exact kk u H1 locs1 ⟨hP2, hD2, hS1⟩
end
