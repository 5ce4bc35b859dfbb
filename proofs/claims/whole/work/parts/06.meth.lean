/-! code as a tree; a whole method -/
def kr_lf (k : Nat) (S : kr_S) : Nat → kr_S := fun pc => cond (Nat.beq pc k) S kr_no
def kr_nd (k : Nat) (A B : Nat → kr_S) : Nat → kr_S := fun pc => cond (Nat.blt pc k) (A pc) (B pc)
def kr_ok (E : kr_E) (own : String) (cc : ByteArray) (nL : Nat) (ret : Option FieldType) (C : Nat → kr_S) : Prop := ∀ pc, kr_Snd E own cc nL ret (C pc) pc ∧ kr_mn (C pc)
section KRT
variable {E : kr_E} {own : String} {cc : ByteArray} {nL : Nat} {ret : Option FieldType}
theorem kr_ok.lf {k : Nat} {S : kr_S} (h : kr_Snd E own cc nL ret S k) (hm : kr_mn S) : kr_ok E own cc nL ret (kr_lf k S) := by
  intro pc
  unfold kr_lf
  cases e : Nat.beq pc k with
  | true =>
    have := Nat.eq_of_beq_eq_true e
    subst this
    exact ⟨h, hm⟩
  | false => exact ⟨kr_s_no, kr_mn_no⟩
theorem kr_ok.nd {k : Nat} {A B : Nat → kr_S} (hA : kr_ok E own cc nL ret A) (hB : kr_ok E own cc nL ret B) : kr_ok E own cc nL ret (kr_nd k A B) := by
  intro pc
  unfold kr_nd
  cases Nat.blt pc k with
  | true => exact hA pc
  | false => exact hB pc
theorem kr_ok.no : kr_ok E own cc nL ret (fun _ => kr_no) := fun _ => ⟨kr_s_no, kr_mn_no⟩
end KRT
def kr_E0 : kr_E := fun _ _ _ => True
theorem kr_sl_lg (vs : List Value) : (kr_sl vs).length = (lg_sl vs).length := by
  induction vs with
  | nil => rfl
  | cons v r ih =>
    cases v <;> simp [kr_sl, lg_sl, Value.category] at ih ⊢ <;> omega
theorem kr_sl_vv (ad : Nat → Nat) (vs : List Value) : (kr_sl (vs.map (kr_vv ad))).length = (kr_sl vs).length := by
  induction vs with
  | nil => rfl
  | cons v r ih => cases v <;> simp [kr_sl, kr_vv, ih]
theorem kr_lg_pad : ∀ (n : Nat) (l : kr_L) (i : Nat) (v : Value), kr_lg (kr_pad n l) i = some v → kr_lg l i = some v := by
  intro n
  induction n with
  | zero => intro l i v h; simp [kr_pad, kr_lg] at h
  | succ n ih =>
    intro l i v h
    cases l with
    | nil =>
      cases i with
      | zero => simp [kr_pad, kr_lg] at h
      | succ i => exact ih [] i v h
    | cons a l =>
      cases i with
      | zero => exact h
      | succ i => exact ih l i v h
theorem kr_sl_args (ad : Nat → Nat) : ∀ (vs : List Value) (k i : Nat) (v : Value), kr_lg (kr_sl vs) i = some v → (k + i, kr_vv ad v) ∈ lv_args k (vs.map (kr_vv ad)) := by
  intro vs
  induction vs with
  | nil => intro k i v h; simp [kr_sl, kr_lg] at h
  | cons w r ih =>
    intro k i v h
    have key1 : ∀ (j : Nat), i = j + 1 → kr_cat w = 1 → kr_lg (kr_sl r) j = some v → (k + i, kr_vv ad v) ∈ lv_args k ((w :: r).map (kr_vv ad)) := by
      intro j hj hc hv
      have h1 := ih (k + 1) j v hv
      rw [List.map_cons]
      refine List.mem_cons_of_mem _ ?_
      rw [if_neg (by rw [kr_vv_cat, hc]; decide), hj, show k + (j + 1) = k + 1 + j by omega]
      exact h1
    have key2 : ∀ (j : Nat), i = j + 2 → kr_cat w = 2 → kr_lg (kr_sl r) j = some v → (k + i, kr_vv ad v) ∈ lv_args k ((w :: r).map (kr_vv ad)) := by
      intro j hj hc hv
      have h1 := ih (k + 2) j v hv
      rw [List.map_cons]
      refine List.mem_cons_of_mem _ ?_
      rw [if_pos (by rw [kr_vv_cat, hc]), hj, show k + (j + 2) = k + 2 + j by omega]
      exact h1
    have key0 : i = 0 → v = w → (k + i, kr_vv ad v) ∈ lv_args k ((w :: r).map (kr_vv ad)) := by
      intro h0 h1
      subst h0
      subst h1
      exact List.mem_cons_self
    cases w with
    | long x =>
      match i, h with
      | 0, h => exact key0 rfl (Option.some.inj h).symm
      | 1, h => simp [kr_sl, kr_lg] at h
      | j + 2, h => exact key2 j rfl rfl h
    | double x =>
      match i, h with
      | 0, h => exact key0 rfl (Option.some.inj h).symm
      | 1, h => simp [kr_sl, kr_lg] at h
      | j + 2, h => exact key2 j rfl rfl h
    | int x =>
      match i, h with
      | 0, h => exact key0 rfl (Option.some.inj h).symm
      | j + 1, h => exact key1 j rfl rfl h
    | float x =>
      match i, h with
      | 0, h => exact key0 rfl (Option.some.inj h).symm
      | j + 1, h => exact key1 j rfl rfl h
    | ref x =>
      match i, h with
      | 0, h => exact key0 rfl (Option.some.inj h).symm
      | j + 1, h => exact key1 j rfl rfl h
    | null =>
      match i, h with
      | 0, h => exact key0 rfl (Option.some.inj h).symm
      | j + 1, h => exact key1 j rfl rfl h
    | retAddr x =>
      match i, h with
      | 0, h => exact key0 rfl (Option.some.inj h).symm
      | j + 1, h => exact key1 j rfl rfl h
/-- a method's room: d calls deep -/
def kr_rm (d : Nat) : Room := { frames := d + 1, cells := 0, slots := 0, locals := 60 + 40 * d }
theorem kr_meth (l : Launch) (D : va_G) (ad : Nat → Nat) (cs : ClassId × ClassId × ClassId) (hinj : kr_inj ad) (C : Nat → Nat → kr_S) (hC : ∀ y, y < kr_cnt → kr_ok kr_E0 (kr_nm y).cls (kr_bc y) (kr_mL y) (kr_rt y) (C y)) (hC0 : ∀ y, kr_cnt ≤ y → ∀ pc, C y pc = kr_no) (hpn : ∀ y, y < kr_cnt → plainName (kr_nm y).cls = true) :
    ∀ (d y : Nat) (as : List Value) (μ : kr_M) (Q : kr_Q), kr_co C kr_mL d y as μ Q → Met l (kr_nm y) (kr_ms y) (kr_rm d) (kr_Pc D ad cs as μ) (kr_Qc D ad cs Q) 0 0 (kr_fr ad) := by
  intro d
  induction d with
  | zero => intro y as μ Q h; exact h.elim
  | succ d ih =>
    intro y as μ Q ⟨hlen, h⟩
    rcases Nat.lt_or_ge y kr_cnt with hy | hy
    · refine Met.ofW (cc := kr_bc y) (maxL := kr_mL y) (ret := kr_rt y) (hpn y hy) rfl ?_
      intro p e s m args below meth c s₁ B hml hv
      obtain ⟨rfl, hP, hK, hSt⟩ := hv
      have hts := atoms_spec (ws := kr_ms y) B.pre
      have hown : s.vm.findClass (kr_nm y).cls = some m.cls := findClass_of_methodNamed B.named
      have hle : (lg_sl (as.map (kr_vv ad))).length ≤ kr_mL y := by
        rw [← kr_sl_lg, kr_sl_vv]
        exact Nat.le_of_ble_eq_true hlen
      have hl := lv_entry (as.map (kr_vv ad)) (n := kr_mL y) hle
      rw [lg_entry_eq]
      generalize (lg_sl (as.map (kr_vv ad)) ++ List.replicate (kr_mL y - (lg_sl (as.map (kr_vv ad))).length) Slot.unset).toArray = lsA at hl ⊢
      have hlh : kr_lh ad (kr_mL y) lsA (kr_pad (kr_mL y) (kr_sl as)) := by
        refine ⟨hl.1, hl.2.1, fun i v hv => ?_⟩
        have h1 := kr_sl_args ad as 0 i v (kr_lg_pad _ _ _ _ hv)
        have h2 := hl.2.2 _ h1
        rw [Nat.zero_add] at h2
        exact h2
      have hO : kr_Os l (kr_rm (d + 1)) D ad cs (kr_co C kr_mL d) := by
        intro y' as' μ' Q' h'
        refine ⟨kr_rm d, rfl, rfl, Nat.le_refl _, ?_, ih y' as' μ' Q' h'⟩
        have := kr_mL_le y'
        show 8 + (kr_mL y' + 11) + (60 + 40 * d) ≤ 60 + 40 * (d + 1)
        omega
      have hCx : kr_Cx kr_E0 (kr_nm y).cls (kr_bc y) (kr_mL y) p (kr_rm (d + 1)) s m (as.map (kr_vv ad)).toArray c (kr_fr ad) D ad cs 0 0 :=
        ⟨⟨B.exec, B.bytes, hml, hown, fun w hw => hts w (List.mem_cons_of_mem _ hw)⟩, hK, hinj, fun k hk => ⟨k, hk, rfl⟩, hSt, ⟨Nat.zero_le _, Nat.zero_le _⟩, ⟨Nat.succ_le_succ (Nat.zero_le _), Nat.le_add_right _ _⟩, trivial⟩
      have hR : kr_Rt p l e (kr_rm (d + 1)) s m (as.map (kr_vv ad)).toArray below meth c (kr_fr ad) D ad cs 0 0 (MQ below (kr_Qc D ad cs Q) (as.map (kr_vv ad)).toArray s 0 0 (kr_fr ad)) (kr_bc y) (kr_rt y) Q := by
        refine ⟨fun pc v ty μ H locs lsA hd hr hn hq hP hS => ?_, fun pc μ H locs lsA hd hr hq hP hS => ?_⟩
        · exact W.zret B.exec B.bytes (B.returns.trans hr) hn (fun t ht _ => ⟨⟨some (.int v), μ, rfl, hq, by rw [ht]; exact hP⟩, va_S.F hS ht⟩) hS.2.2 hd B.notSynchronized
        · exact W.vret B.exec B.bytes (B.returns.trans hr) (fun t ht _ => ⟨⟨none, μ, rfl, hq, by rw [ht]; exact hP⟩, va_S.F hS ht⟩) hS.2.2 hd B.notSynchronized
      have key := h (kr_WK p l e (kr_rm (d + 1)) s m (as.map (kr_vv ad)).toArray below meth c (kr_fr ad) D ad cs 0 0 (MQ below (kr_Qc D ad cs Q) (as.map (kr_vv ad)).toArray s 0 0 (kr_fr ad)) (kr_mL y))
        (fun pc ls st μ k => (hC y hy pc).1 p l e (kr_rm (d + 1)) s m _ below meth c (kr_fr ad) D ad cs 0 0 _ hCx (kr_co C kr_mL d) hO _ Q (fun _ _ _ _ z => z) hR ls st μ k)
        (fun pc l1 l2 st μ hs k H locs lsA hP hS hl => k H locs lsA hP hS ⟨hl.1, hl.2.1, fun i v hv => hl.2.2 i v (hs i v hv)⟩)
      exact key s.heap [] lsA hP va_S.rf hlh
    · exact (h (fun _ _ _ _ => False) (fun pc ls st μ k => by rw [hC0 y hy pc] at k; exact k) (fun _ _ _ _ _ _ k => k)).elim
