/-! the reference's constructor, behind the class's -/
theorem kr_w_o_X10_1 : Cond.methodLink RX10 1 objectInit ∈ kr_gw := kr_gm (i := 1039) (by decide +kernel) rfl
theorem kr_w_y_boolean : Cond.arrayClass .boolean ∈ kr_gw := kr_gm (i := 1184) (by decide +kernel) rfl
abbrev n_f10 : List Value := [.null, .null, .int 0, .int 0, .int 0, .null, .null, .int 0, .int 0, .int 0, .null, .int 0, .int 0, .null, .int 0, .int 0, .int 0, .int 0, .int 0, .int 0, .int 0, .null, .null, .null, .null, .null, .null, .null, .int 0, .int 0, .null, .null, .null, .int 0, .int 0, .int 0, .int 0, .int 0, .int 0, .int 0, .null, .null, .null, .null, .int 0]
theorem n_df10 : ∀ j, j < 45 → defaultValue (tyX10 j) = vp_V n_f10 j := by decide +kernel
theorem kr_P_rot {D : va_G} {cl : List vw_C} {x : Nat × va_E} {w1 w2 : va_W} {H : Heap} (h : va_P D cl (x :: (w1 ++ w2)) H) : va_P D cl (w1 ++ (x :: w2)) H := by
  intro k q hq
  have hm : q ∈ w1 ++ (x :: w2) := List.mem_of_getElem? hq
  have hm2 : q ∈ x :: (w1 ++ w2) := by
    simp only [List.mem_append, List.mem_cons] at hm ⊢
    rcases hm with a | a | a
    · exact Or.inr (Or.inl a)
    · exact Or.inl a
    · exact Or.inr (Or.inr a)
  obtain ⟨k', hk'⟩ := List.getElem?_of_mem hm2
  exact h k' q hk'
theorem kr_rot_at {x : Nat × va_E} {w1 w2 : va_W} (i : Nat) : (w1 ++ (x :: w2))[i]? = (x :: (w1 ++ w2))[if i < w1.length then i + 1 else if i = w1.length then 0 else i]? := by
  by_cases a : i < w1.length
  · rw [if_pos a, List.getElem?_append_left a, List.getElem?_cons_succ, List.getElem?_append_left a]
  · rw [if_neg a, List.getElem?_append_right (by omega)]
    by_cases b : i = w1.length
    · rw [if_pos b, b, Nat.sub_self]; rfl
    · rw [if_neg b]
      obtain ⟨j, rfl⟩ : ∃ j, i = w1.length + 1 + j := ⟨i - w1.length - 1, by omega⟩
      rw [show w1.length + 1 + j - w1.length = j + 1 by omega, show w1.length + 1 + j = (w1.length + j) + 1 by omega, List.getElem?_cons_succ, List.getElem?_cons_succ, List.getElem?_append_right (by omega)]
      congr 1
      omega
theorem kr_D_rot {A : Nat → Prop} {x : Nat × va_E} {w1 w2 : va_W} (h : va_D A (x :: (w1 ++ w2))) : va_D A (w1 ++ (x :: w2)) := by
  refine ⟨fun i j p q h1 h2 h3 => ?_, fun k q hq => ?_⟩
  · rw [kr_rot_at] at h1 h2
    have := h.1 _ _ p q h1 h2 h3
    split at this
    · split at this
      · omega
      · split at this <;> omega
    · split at this
      · split at this
        · omega
        · split at this <;> omega
      · split at this
        · omega
        · split at this <;> omega
  · rw [kr_rot_at] at hq
    exact h.2 _ q hq
theorem kr_St.cg {ad aS : Nat → Nat} {A : Nat → Prop} {U : State} {H : Heap} (h : kr_St aS A U H) (he : ∀ k, 86 ≤ k → ad k = aS k) : kr_St ad A U H := by
  have e1 : (fun i => ad (86 + i)) = fun i => aS (86 + i) := funext fun i => he _ (by omega)
  have e2 : (fun i => ad (93 + i)) = fun i => aS (93 + i) := funext fun i => he _ (by omega)
  unfold kr_St
  rw [e1, e2, he 100 (by decide)]
  refine ⟨h.1, fun i q hq => ?_, h.2.2⟩
  rw [he _ (by omega)]
  exact h.2.1 i q hq
def kr_ad (g0 h0 : Nat) (u v aS : Nat → Nat) : Nat → Nat := fun k => if k = 0 then g0 else if k < 65 then u (k - 1) else if k = 65 then h0 else if k < 86 then v (k - 66) else aS k
theorem kr_ad_hi {g0 h0 : Nat} {u v aS : Nat → Nat} (k : Nat) (h : 86 ≤ k) : kr_ad g0 h0 u v aS k = aS k := by
  unfold kr_ad
  rw [if_neg (by omega), if_neg (by omega), if_neg (by omega), if_neg (by omega)]
/-- the first memory's cells, in order -/
def w_X10 (cs : ClassId × ClassId × ClassId) (h0 : Nat) (v : Nat → Nat) : va_W := (h0, .inr (10, [.ref (v 0), .ref (v 1), .int 0, .int 0, .int 0, .ref (v 2), .ref (v 3), .int 0, .int 0, .int 0, .ref (v 4), .int 0, .int 0, .ref (v 5), .int 0, .int 0, .int 0, .int 0, .int 0, .int 0, .int 0, .ref (v 6), .ref (v 7), .ref (v 8), .ref (v 9), .ref (v 10), .ref (v 11), .ref (v 12), .int 0, .int 0, .ref (v 13), .ref (v 14), .ref (v 15), .int 0, .int 0, .int 0, .int 0, .int 0, .int 0, .int 0, .ref (v 16), .ref (v 17), .ref (v 18), .ref (v 19), .int 0])) :: [(v 0, .inl (cs.1, 375, .inl (fun _ => 0))), (v 1, .inl (cs.2.1, 2, .inl (fun _ => 0))), (v 2, .inl (cs.1, 15, .inl (fun _ => 0))), (v 3, .inl (cs.1, 125, .inl (fun _ => 0))), (v 4, .inl (cs.1, 15, .inl (fun _ => 0))), (v 5, .inl (cs.1, 400, .inl (fun _ => 0))), (v 6, .inl (cs.1, 12, .inl (fun _ => 0))), (v 7, .inl (cs.1, 9, .inl (fun _ => 0))), (v 8, .inl (cs.1, 5, .inl (fun _ => 0))), (v 9, .inl (cs.1, 5, .inl (fun _ => 0))), (v 10, .inl (cs.1, 5, .inl (fun _ => 0))), (v 11, .inl (cs.1, 5, .inl (fun _ => 0))), (v 12, .inl (cs.1, 5, .inl (fun _ => 0))), (v 13, .inl (cs.1, 4096, .inl (fun _ => 0))), (v 14, .inl (cs.1, 5, .inl (fun _ => 0))), (v 15, .inl (cs.1, 5, .inl (fun _ => 0))), (v 16, .inl (cs.1, 12, .inl (fun _ => 0))), (v 17, .inl (cs.1, 4, .inl (fun _ => 0))), (v 18, .inl (cs.1, 4, .inl (fun _ => 0))), (v 19, .inl (cs.1, 160, .inl (fun _ => 0)))]
theorem kr_cell_q {cA : ClassId} {f f' : Nat → Option Nat} (h0 : f 0 = f' 0) (h1 : f 1 = f' 1) : vp_cell cA (2, .inr (.inr (.inr (.inr f)))) = vp_cell cA (2, .inr (.inr (.inr (.inr f')))) := by
  show arrV cA 2 (fun j => va_rf (f j)) = arrV cA 2 (fun j => va_rf (f' j))
  unfold arrV
  congr 1
  congr 1
  funext j
  rcases (by omega : j.val = 0 ∨ j.val = 1) with e | e <;> rw [e]
  · exact congrArg va_rf h0
  · exact congrArg va_rf h1
theorem kr_P_img {D : va_G} {cl : List vw_C} {ws : va_W} {H : Heap} {k a : Nat} {cA : ClassId} {f f' : Nat → Option Nat} (h : va_P D cl ws H) (he : ws[k]? = some (a, .inl (cA, 2, .inr (.inr (.inr (.inr f)))))) (h0 : f 0 = f' 0) (h1 : f 1 = f' 1) : va_P D cl (ws.set k (a, .inl (cA, 2, .inr (.inr (.inr (.inr f')))))) H := by
  intro i q hq
  rw [List.getElem?_set] at hq
  split at hq
  · rename_i e
    split at hq
    · cases hq
      have h2 : H[a]? = some (vp_cell cA (2, .inr (.inr (.inr (.inr f))))) := h k _ he
      show H[a]? = some (vp_cell cA (2, .inr (.inr (.inr (.inr f')))))
      rw [h2, kr_cell_q h0 h1]
    · cases hq
  · exact h i q hq
set_option maxHeartbeats 8000000 in
set_option maxRecDepth 100000 in
theorem kr_ws0 (cs : ClassId × ClassId × ClassId) (g0 h0 : Nat) (u v aS : Nat → Nat) : kr_ws (kr_ad g0 h0 u v aS) cs kr_μ0 = (w_X9 cs g0 u ++ w_X10 cs h0 v).set 44 (u 43, .inl (cs.2.2, 2, .inr (.inr (.inr (.inr (fun j => some (kr_ad g0 h0 u v aS (kr_rf 44 j)))))))) := rfl
theorem kr_wd0 {D : va_G} {A : Nat → Prop} {s : State} {H : Heap} {locs : List Loc} {cs : ClassId × ClassId × ClassId} {g0 h0 : Nat} {u v : Nat → Nat} (aS : Nat → Nat) (h : kr_Wd D A s (w_X9 cs g0 u ++ w_X10 cs h0 v) H locs) : kr_Wd D A s (kr_ws (kr_ad g0 h0 u v aS) cs kr_μ0) H locs := by
  rw [kr_ws0]
  exact ⟨kr_P_img h.1 rfl rfl rfl, h.2.1.set rfl, h.2.2⟩
