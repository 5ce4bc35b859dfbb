/-! THE BYTECODE OVER ONE MEMORY. Once the constructors are through, which object refers to which never changes: so a state of the class and of the reference is kr_M (an int at each place of each object; one long a Rock). kr_S: what an instruction does, as a predicate transformer; kr_Wp: from here on the method comes to its end with Q (the least such predicate); kr_co d: a call, at most d deep. -/
abbrev kr_M : Type := (Nat → Nat → Int32) × (Nat → Int64)
abbrev kr_L : Type := List (Option Value)
abbrev kr_K : Type := Nat → kr_L → List Value → kr_M → Prop
abbrev kr_Q : Type := Option Value → kr_M → Prop
abbrev kr_O : Type := Nat → List Value → kr_M → kr_Q → Prop
abbrev kr_S : Type := kr_K → kr_O → kr_Q → kr_L → List Value → kr_M → Prop
/-- locals: read, write, clear; whether place i is no long's second half -/
def kr_lg : kr_L → Nat → Option Value
  | [], _ => none
  | a :: _, 0 => a
  | _ :: l, n + 1 => kr_lg l n
def kr_ls : kr_L → Nat → Value → kr_L
  | [], _, _ => []
  | _ :: l, 0, v => some v :: l
  | a :: l, n + 1, v => a :: kr_ls l n v
def kr_lc : kr_L → Nat → kr_L
  | [], _ => []
  | _ :: l, 0 => none :: l
  | a :: l, n + 1 => a :: kr_lc l n
def kr_nl (l : kr_L) : Nat → Bool
  | 0 => true
  | j + 1 => match kr_lg l j with
    | some (.long _) => false
    | some (.double _) => false
    | _ => true
/-- fewer locals are known -/
def kr_lm : List Bool → kr_L → kr_L
  | true :: b, a :: l => a :: kr_lm b l
  | false :: b, _ :: l => none :: kr_lm b l
  | _, _ => []
/-- a method's locals at its start -/
def kr_sl : List Value → kr_L
  | [] => []
  | .long x :: r => some (.long x) :: none :: kr_sl r
  | .double x :: r => some (.double x) :: none :: kr_sl r
  | v :: r => some v :: kr_sl r
def kr_pad : Nat → kr_L → kr_L
  | 0, _ => []
  | n + 1, [] => none :: kr_pad n []
  | n + 1, a :: l => a :: kr_pad n l
/-- the last n of the stack, as arguments -/
def kr_sp : Nat → List Value → List Value → Option (List Value × List Value)
  | 0, st, as => some (as, st)
  | _ + 1, [], _ => none
  | n + 1, v :: st, as => kr_sp n st (v :: as)
def kr_cat : Value → Nat
  | .long _ => 2
  | .double _ => 2
  | _ => 1
def kr_sum : List Value → Nat
  | [] => 0
  | v :: r => kr_cat v + kr_sum r
/-- another row of an object; one place of it; the long of a Rock -/
def kr_ur (μ : kr_M) (o : Nat) (f : Nat → Int32) : kr_M := (fun a => if a = o then f else μ.1 a, μ.2)
def kr_u (μ : kr_M) (o j : Nat) (v : Int32) : kr_M := kr_ur μ o (upd (μ.1 o) j v)
def kr_uL (μ : kr_M) (o : Nat) (v : Int64) : kr_M := (μ.1, fun a => if a = o then v else μ.2 a)
theorem kr_ur_s (μ : kr_M) (o : Nat) (f : Nat → Int32) : (kr_ur μ o f).1 o = f := if_pos rfl
theorem kr_ur_n (μ : kr_M) {o a : Nat} (f : Nat → Int32) (h : a ≠ o) : (kr_ur μ o f).1 a = μ.1 a := if_neg h
theorem kr_ur_2 (μ : kr_M) (o : Nat) (f : Nat → Int32) : (kr_ur μ o f).2 = μ.2 := rfl
theorem kr_u_s (μ : kr_M) (o j : Nat) (v : Int32) : (kr_u μ o j v).1 o = upd (μ.1 o) j v := if_pos rfl
theorem kr_u_n (μ : kr_M) {o a : Nat} (j : Nat) (v : Int32) (h : a ≠ o) : (kr_u μ o j v).1 a = μ.1 a := if_neg h
theorem kr_u_2 (μ : kr_M) (o j : Nat) (v : Int32) : (kr_u μ o j v).2 = μ.2 := rfl
theorem kr_uL_1 (μ : kr_M) (o : Nat) (v : Int64) : (kr_uL μ o v).1 = μ.1 := rfl
theorem kr_uL_s (μ : kr_M) (o : Nat) (v : Int64) : (kr_uL μ o v).2 o = v := if_pos rfl
theorem kr_uL_n (μ : kr_M) {o a : Nat} (v : Int64) (h : a ≠ o) : (kr_uL μ o v).2 a = μ.2 a := if_neg h
/-! the instructions; n is the next instruction's place -/
def kr_no : kr_S := fun _ _ _ _ _ _ => False
def kr_const (n : Nat) (v : Value) : kr_S := fun K _ _ ls st μ => K n ls (v :: st) μ
def kr_il (n i : Nat) : kr_S := fun K _ _ ls st μ => match kr_lg ls i with
  | some (.int x) => K n ls (.int x :: st) μ
  | _ => False
def kr_al (n i : Nat) : kr_S := fun K _ _ ls st μ => match kr_lg ls i with
  | some (.ref x) => K n ls (.ref x :: st) μ
  | _ => False
def kr_ll (n i : Nat) : kr_S := fun K _ _ ls st μ => match kr_lg ls i with
  | some (.long x) => K n ls (.long x :: st) μ
  | _ => False
def kr_is (n i : Nat) : kr_S := fun K _ _ ls st μ => match st with
  | .int x :: r => match kr_nl ls i with
    | true => K n (kr_ls ls i (.int x)) r μ
    | false => False
  | _ => False
def kr_as (n i : Nat) : kr_S := fun K _ _ ls st μ => match st with
  | .ref x :: r => match kr_nl ls i with
    | true => K n (kr_ls ls i (.ref x)) r μ
    | false => False
  | _ => False
def kr_lst (n i : Nat) : kr_S := fun K _ _ ls st μ => match st with
  | .long x :: r => match kr_nl ls i with
    | true => K n (kr_lc (kr_ls ls i (.long x)) (i + 1)) r μ
    | false => False
  | _ => False
def kr_inc (n i : Nat) (k : Int32) : kr_S := fun K _ _ ls st μ => match kr_lg ls i with
  | some (.int x) => match kr_nl ls i with
    | true => K n (kr_ls ls i (.int (x + k))) st μ
    | false => False
  | _ => False
def kr_i2 (n : Nat) (f : Int32 → Int32 → Int32) : kr_S := fun K _ _ ls st μ => match st with
  | .int y :: .int x :: r => K n ls (.int (f x y) :: r) μ
  | _ => False
def kr_dv (n : Nat) (f : Int32 → Int32 → Int32) : kr_S := fun K _ _ ls st μ => match st with
  | .int y :: .int x :: r => (¬ y = 0) ∧ K n ls (.int (f x y) :: r) μ
  | _ => False
def kr_i1 (n : Nat) (f : Int32 → Int32) : kr_S := fun K _ _ ls st μ => match st with
  | .int x :: r => K n ls (.int (f x) :: r) μ
  | _ => False
def kr_l2 (n : Nat) (f : Int64 → Int64 → Int64) : kr_S := fun K _ _ ls st μ => match st with
  | .long y :: .long x :: r => K n ls (.long (f x y) :: r) μ
  | _ => False
def kr_lsh (n : Nat) (f : Int64 → Int32 → Int64) : kr_S := fun K _ _ ls st μ => match st with
  | .int y :: .long x :: r => K n ls (.long (f x y) :: r) μ
  | _ => False
def kr_i2l (n : Nat) : kr_S := fun K _ _ ls st μ => match st with
  | .int x :: r => K n ls (.long x.toInt64 :: r) μ
  | _ => False
def kr_l2i (n : Nat) : kr_S := fun K _ _ ls st μ => match st with
  | .long x :: r => K n ls (.int x.toInt32 :: r) μ
  | _ => False
def kr_lcmp (n : Nat) : kr_S := fun K _ _ ls st μ => match st with
  | .long y :: .long x :: r => K n ls (.int (lg_cmp x y) :: r) μ
  | _ => False
def kr_dup (n : Nat) : kr_S := fun K _ _ ls st μ => match st with
  | .int x :: r => K n ls (.int x :: .int x :: r) μ
  | .ref x :: r => K n ls (.ref x :: .ref x :: r) μ
  | _ => False
def kr_dup2 (n : Nat) : kr_S := fun K _ _ ls st μ => match st with
  | .int x :: .ref y :: r => K n ls (.int x :: .ref y :: .int x :: .ref y :: r) μ
  | _ => False
def kr_pop (n : Nat) : kr_S := fun K _ _ ls st μ => match st with
  | .int _ :: r => K n ls r μ
  | .ref _ :: r => K n ls r μ
  | _ => False
def kr_if (n t : Nat) (P : Int32 → Prop) : kr_S := fun K _ _ ls st μ => match st with
  | .int x :: r => (P x → K t ls r μ) ∧ (¬ P x → K n ls r μ)
  | _ => False
def kr_ic (n t : Nat) (P : Int32 → Int32 → Prop) : kr_S := fun K _ _ ls st μ => match st with
  | .int y :: .int x :: r => (P x y → K t ls r μ) ∧ (¬ P x y → K n ls r μ)
  | _ => False
def kr_goto (t : Nat) : kr_S := fun K _ _ ls st μ => K t ls st μ
def kr_tg (lo hi : Int) (ts : List Nat) (df : Nat) (x : Int32) : Nat := if x.toInt < lo then df else if hi < x.toInt then df else ts.getD (x.toInt - lo).toNat df
def kr_tsw (lo hi : Int) (ts : List Nat) (df : Nat) : kr_S := fun K _ _ ls st μ => match st with
  | .int x :: r => K (kr_tg lo hi ts df x) ls r μ
  | _ => False
/-! objects: kinds (0 an instance of a class, 1 ints, 2 booleans, 3 Rocks, with the length), what refers to what -/
def kr_tab : List (Nat × Nat) := [(0, 9), (0, 3), (1, 12), (1, 12), (1, 12), (1, 12), (1, 5), (1, 5), (1, 5), (1, 5), (1, 8), (0, 6), (1, 400), (0, 2), (0, 3), (1, 12), (1, 12), (1, 12), (1, 12), (1, 5), (1, 5), (1, 5), (1, 5), (1, 8), (0, 8), (1, 81), (1, 9), (0, 7), (1, 12), (1, 5), (1, 5), (1, 5), (1, 5), (1, 5), (0, 0), (0, 4), (1, 5), (1, 12), (0, 1), (1, 12), (0, 5), (1, 160), (1, 4), (1, 4), (3, 2), (0, 3), (1, 12), (1, 12), (1, 12), (1, 12), (1, 5), (1, 5), (1, 5), (1, 5), (1, 8), (0, 3), (1, 12), (1, 12), (1, 12), (1, 12), (1, 5), (1, 5), (1, 5), (1, 5), (1, 8), (0, 10), (1, 375), (2, 2), (1, 15), (1, 125), (1, 15), (1, 400), (1, 12), (1, 9), (1, 5), (1, 5), (1, 5), (1, 5), (1, 5), (1, 4096), (1, 5), (1, 5), (1, 12), (1, 4), (1, 4), (1, 160)]
def kr_rft : List (List Nat) := [[1, 11, 13, 24, 27, 34, 35, 38, 40, 44], [0, 0, 0, 2, 3, 4, 5, 0, 0, 6, 0, 7, 8, 9, 0, 0, 10], [], [], [], [], [], [], [], [], [], [12], [], [11, 14], [0, 0, 0, 15, 16, 17, 18, 0, 0, 19, 0, 20, 21, 22, 0, 0, 23], [], [], [], [], [], [], [], [], [], [1, 25, 26], [], [], [1, 24, 28, 29, 30, 31, 32, 33], [], [], [], [], [], [], [1, 24], [1, 36, 37], [], [], [1, 0, 0, 0, 0, 0, 0, 39], [], [41, 42, 43], [], [], [], [45, 55], [0, 0, 0, 46, 47, 48, 49, 0, 0, 50, 0, 51, 52, 53, 0, 0, 54], [], [], [], [], [], [], [], [], [], [0, 0, 0, 56, 57, 58, 59, 0, 0, 60, 0, 61, 62, 63, 0, 0, 64], [], [], [], [], [], [], [], [], [], [66, 67, 0, 0, 0, 68, 69, 0, 0, 0, 70, 0, 0, 71, 0, 0, 0, 0, 0, 0, 0, 72, 73, 74, 75, 76, 77, 78, 0, 0, 79, 80, 81, 0, 0, 0, 0, 0, 0, 0, 82, 83, 84, 85], [], [], [], [], [], [], [], [], [], [], [], [], [], [], [], [], [], [], [], []]
def kr_nth {α : Type} (d : α) : List α → Nat → α
  | [], _ => d
  | a :: _, 0 => a
  | _ :: l, n + 1 => kr_nth d l n
def kr_rf (o k : Nat) : Nat := kr_nth 0 (kr_nth [] kr_rft o) k
def kr_kd (o : Nat) : Nat × Nat := kr_nth (9, 0) kr_tab o
/-- o is an instance of class c; an array of n ints; of n booleans; of n Rocks -/
def kr_kc (o c : Nat) : Prop := kr_kd o = (0, c)
def kr_ka (o n : Nat) : Prop := kr_kd o = (1, n)
def kr_kz (o n : Nat) : Prop := kr_kd o = (2, n)
def kr_kr (o n : Nat) : Prop := kr_kd o = (3, n)
def kr_gi (n c k : Nat) : kr_S := fun K _ _ ls st μ => match st with
  | .ref o :: r => kr_kc o c ∧ K n ls (.int (μ.1 o k) :: r) μ
  | _ => False
def kr_gr (n c k : Nat) : kr_S := fun K _ _ ls st μ => match st with
  | .ref o :: r => kr_kc o c ∧ K n ls (.ref (kr_rf o k) :: r) μ
  | _ => False
def kr_gl (n c : Nat) : kr_S := fun K _ _ ls st μ => match st with
  | .ref o :: r => kr_kc o c ∧ K n ls (.long (μ.2 o) :: r) μ
  | _ => False
def kr_pi (n c k : Nat) : kr_S := fun K _ _ ls st μ => match st with
  | .int v :: .ref o :: r => kr_kc o c ∧ K n ls r (kr_u μ o k v)
  | _ => False
def kr_pz (n c k : Nat) : kr_S := fun K _ _ ls st μ => match st with
  | .int v :: .ref o :: r => (kr_kc o c ∧ (v = 0 ∨ v = 1)) ∧ K n ls r (kr_u μ o k v)
  | _ => False
def kr_pl (n c : Nat) : kr_S := fun K _ _ ls st μ => match st with
  | .long v :: .ref o :: r => kr_kc o c ∧ K n ls r (kr_uL μ o v)
  | _ => False
def kr_ia (n : Nat) : kr_S := fun K _ _ ls st μ => match st with
  | .int i :: .ref o :: r => (∃ N, kr_ka o N ∧ vp_in i N) ∧ K n ls (.int (μ.1 o i.toNatClampNeg) :: r) μ
  | _ => False
def kr_ias (n : Nat) : kr_S := fun K _ _ ls st μ => match st with
  | .int x :: .int i :: .ref o :: r => (∃ N, kr_ka o N ∧ vp_in i N) ∧ K n ls r (kr_u μ o i.toNatClampNeg x)
  | _ => False
def kr_za (n : Nat) : kr_S := fun K _ _ ls st μ => match st with
  | .int i :: .ref o :: r => (∃ N, kr_kz o N ∧ vp_in i N) ∧ K n ls (.int (μ.1 o i.toNatClampNeg) :: r) μ
  | _ => False
def kr_zas (n : Nat) : kr_S := fun K _ _ ls st μ => match st with
  | .int x :: .int i :: .ref o :: r => ((∃ N, kr_kz o N ∧ vp_in i N) ∧ (x = 0 ∨ x = 1)) ∧ K n ls r (kr_u μ o i.toNatClampNeg x)
  | _ => False
def kr_ra (n : Nat) : kr_S := fun K _ _ ls st μ => match st with
  | .int i :: .ref o :: r => (∃ N, kr_kr o N ∧ vp_in i N) ∧ K n ls (.ref (kr_rf o i.toNatClampNeg) :: r) μ
  | _ => False
/-- the law's script: L ints xs, at place 101 -/
def kr_sa (L : Nat) (xs : Nat → Int32) (n : Nat) : kr_S := fun K _ _ ls st μ => match st with
  | .int i :: .ref o :: r => (o = 101 ∧ vp_in i L) ∧ K n ls (.int (xs i.toNatClampNeg) :: r) μ
  | _ => False
def kr_sn (L : Nat) (n : Nat) : kr_S := fun K _ _ ls st μ => match st with
  | .ref o :: r => o = 101 ∧ K n ls (.int (Int32.ofNat L) :: r) μ
  | _ => False
/-- String constants: 7, at places 86 to 92, their bytes at 93 to 99 -/
def kr_txt : List (List Int32) := [[112, 111, 105, 110, 116, 115], [104, 111, 117, 115, 101], [108, 105, 110, 101], [100, 114, 97, 119, 101, 114], [111, 110, 101], [114, 97, 105, 110], [114, 111, 111, 102]]
def kr_len : List Nat := [6, 5, 4, 6, 3, 4, 4]
def kr_tl (i : Nat) : Nat := kr_len.getD i 0
def kr_tb (i j : Nat) : Int32 := (kr_txt.getD i []).getD j 0
def kr_p7 (o : Nat) : Nat := o + 7
def kr_isS (o : Nat) : Prop := 86 ≤ o ∧ o < 93
def kr_isV (o : Nat) : Prop := 93 ≤ o ∧ o < 100
def kr_m (k o : Nat) : Nat := o - k
theorem kr_mS {o : Nat} (h : kr_isS o) : kr_m 86 o < 7 ∧ 86 + kr_m 86 o = o ∧ 93 + kr_m 86 o = kr_p7 o := by unfold kr_isS at h; unfold kr_m kr_p7; omega
theorem kr_mV {o : Nat} (h : kr_isV o) : kr_m 93 o < 7 ∧ 93 + kr_m 93 o = o := by unfold kr_isV at h; unfold kr_m; omega
def kr_tlo (o : Nat) : Nat := kr_tl (o - 93)
def kr_tbo (o j : Nat) : Int32 := kr_tb (o - 93) j
def kr_sc (n : Nat) : kr_S := fun K _ _ ls st μ => match st with
  | .ref o :: r => kr_isS o ∧ K n ls (.int 0 :: r) μ
  | _ => False
def kr_sv (n : Nat) : kr_S := fun K _ _ ls st μ => match st with
  | .ref o :: r => kr_isS o ∧ K n ls (.ref (kr_p7 o) :: r) μ
  | _ => False
def kr_sb (n : Nat) : kr_S := fun K _ _ ls st μ => match st with
  | .int i :: .ref o :: r => (kr_isV o ∧ vp_in i (kr_tlo o)) ∧ K n ls (.int (kr_tbo o i.toNatClampNeg) :: r) μ
  | _ => False
def kr_sl2 (n : Nat) : kr_S := fun K _ _ ls st μ => match st with
  | .ref o :: r => kr_isV o ∧ K n ls (.int (Int32.ofNat (kr_tlo o)) :: r) μ
  | _ => False
/-- a static of the JDK's: null, or a reference that nobody looks at -/
def kr_gs (n : Nat) : kr_S := fun K _ _ ls st μ => K n ls (.null :: st) μ ∧ K n ls (.ref 100 :: st) μ
/-! returns, calls -/
def kr_ri : kr_S := fun _ _ Q _ st μ => match st with
  | [.int v] => Q (some (.int v)) μ
  | _ => False
def kr_rz : kr_S := fun _ _ Q _ st μ => match st with
  | [.int v] => (v = 0 ∨ v = 1) ∧ Q (some (.int v)) μ
  | _ => False
def kr_rn (P : Int32 → Prop) : kr_S := fun _ _ Q _ st μ => match st with
  | [.int v] => P v ∧ Q (some (.int v)) μ
  | _ => False
def kr_rv : kr_S := fun _ _ Q _ st μ => match st with
  | [] => Q none μ
  | _ => False
/-- behind a call -/
def kr_bk (K : kr_K) (n : Nat) (ls : kr_L) (r : List Value) : kr_Q := fun v μ => match v with
  | some (.int x) => K n ls (.int x :: r) μ
  | none => K n ls r μ
  | _ => False
def kr_cs (n y na : Nat) : kr_S := fun K CO _ ls st μ => match kr_sp na st [] with
  | some (as, r) => match decide (kr_sum r ≤ 8) with
    | true => CO y as μ (kr_bk K n ls r)
    | false => False
  | none => False
def kr_cv (n y na c : Nat) : kr_S := fun K CO _ ls st μ => match kr_sp na st [] with
  | some (.ref o :: as, r) => match decide (kr_sum r ≤ 8) with
    | true => kr_kc o c ∧ CO y (.ref o :: as) μ (kr_bk K n ls r)
    | false => False
  | _ => False
/-- a call on a String constant -/
def kr_ct (n y na : Nat) : kr_S := fun K CO _ ls st μ => match kr_sp na st [] with
  | some (.ref o :: as, r) => match decide (kr_sum r ≤ 8) with
    | true => kr_isS o ∧ CO y (.ref o :: as) μ (kr_bk K n ls r)
    | false => False
  | _ => False
/-- Math.max, min, abs; System.arraycopy of ints -/
def kr_m2 (n : Nat) (f : Int32 → Int32 → Int32) : kr_S := fun K _ _ ls st μ => match st with
  | .int y :: .int x :: r => match decide (kr_sum r ≤ 8) with
    | true => K n ls (.int (f x y) :: r) μ
    | false => False
  | _ => False
def kr_m1 (n : Nat) (f : Int32 → Int32) : kr_S := fun K _ _ ls st μ => match st with
  | .int x :: r => match decide (kr_sum r ≤ 8) with
    | true => K n ls (.int (f x) :: r) μ
    | false => False
  | _ => False
def kr_cp (n : Nat) : kr_S := fun K _ _ ls st μ => match st with
  | [.int k, .int dp, .ref b, .int sp, .ref a] => ((sp = 0 ∧ dp = 0) ∧ ∃ N, kr_ka a N ∧ kr_ka b N ∧ ¬ k < 0 ∧ k.toNatClampNeg = N) ∧ K n ls [] (kr_ur μ b (va_cpy (μ.1 a) (μ.1 b) 0 0 k.toNatClampNeg))
  | _ => False
/-! monotone: what an instruction asks of what comes behind it -/
def kr_om (CO CO' : kr_O) : Prop := ∀ (y : Nat) (as : List Value) (μ : kr_M) (Qa Qb : kr_Q), (∀ v μ, Qa v μ → Qb v μ) → CO y as μ Qa → CO' y as μ Qb
def kr_mn (S : kr_S) : Prop := ∀ (K K' : kr_K) (CO CO' : kr_O) (Q Q' : kr_Q), (∀ pc ls st μ, K pc ls st μ → K' pc ls st μ) → kr_om CO CO' → (∀ v μ, Q v μ → Q' v μ) → ∀ ls st μ, S K CO Q ls st μ → S K' CO' Q' ls st μ
theorem kr_mn_const (n : Nat) (v : Value) : kr_mn (kr_const n v) := by
  intro K K' CO CO' Q Q' hK hO hQ ls st μ h
  exact hK _ _ _ _ h
theorem kr_mn_goto (t : Nat) : kr_mn (kr_goto t) := by
  intro K K' CO CO' Q Q' hK hO hQ ls st μ h
  exact hK _ _ _ _ h
theorem kr_mn_gs (n : Nat) : kr_mn (kr_gs n) := by
  intro K K' CO CO' Q Q' hK hO hQ ls st μ h
  exact ⟨hK _ _ _ _ h.1, hK _ _ _ _ h.2⟩
theorem kr_mn_no  : kr_mn (kr_no) := by
  intro K K' CO CO' Q Q' hK hO hQ ls st μ h
  exact h
theorem kr_mn_il (n i : Nat) : kr_mn (kr_il n i) := by
  intro K K' CO CO' Q Q' hK hO hQ ls st μ h
  unfold kr_il at h ⊢
  split at h <;> first | exact hK _ _ _ _ h | exact h.elim
theorem kr_mn_al (n i : Nat) : kr_mn (kr_al n i) := by
  intro K K' CO CO' Q Q' hK hO hQ ls st μ h
  unfold kr_al at h ⊢
  split at h <;> first | exact hK _ _ _ _ h | exact h.elim
theorem kr_mn_ll (n i : Nat) : kr_mn (kr_ll n i) := by
  intro K K' CO CO' Q Q' hK hO hQ ls st μ h
  unfold kr_ll at h ⊢
  split at h <;> first | exact hK _ _ _ _ h | exact h.elim
theorem kr_mn_i2 (n : Nat) (f : Int32 → Int32 → Int32) : kr_mn (kr_i2 n f) := by
  intro K K' CO CO' Q Q' hK hO hQ ls st μ h
  unfold kr_i2 at h ⊢
  split at h <;> first | exact hK _ _ _ _ h | exact h.elim
theorem kr_mn_i1 (n : Nat) (f : Int32 → Int32) : kr_mn (kr_i1 n f) := by
  intro K K' CO CO' Q Q' hK hO hQ ls st μ h
  unfold kr_i1 at h ⊢
  split at h <;> first | exact hK _ _ _ _ h | exact h.elim
theorem kr_mn_l2 (n : Nat) (f : Int64 → Int64 → Int64) : kr_mn (kr_l2 n f) := by
  intro K K' CO CO' Q Q' hK hO hQ ls st μ h
  unfold kr_l2 at h ⊢
  split at h <;> first | exact hK _ _ _ _ h | exact h.elim
theorem kr_mn_lsh (n : Nat) (f : Int64 → Int32 → Int64) : kr_mn (kr_lsh n f) := by
  intro K K' CO CO' Q Q' hK hO hQ ls st μ h
  unfold kr_lsh at h ⊢
  split at h <;> first | exact hK _ _ _ _ h | exact h.elim
theorem kr_mn_i2l (n : Nat) : kr_mn (kr_i2l n) := by
  intro K K' CO CO' Q Q' hK hO hQ ls st μ h
  unfold kr_i2l at h ⊢
  split at h <;> first | exact hK _ _ _ _ h | exact h.elim
theorem kr_mn_l2i (n : Nat) : kr_mn (kr_l2i n) := by
  intro K K' CO CO' Q Q' hK hO hQ ls st μ h
  unfold kr_l2i at h ⊢
  split at h <;> first | exact hK _ _ _ _ h | exact h.elim
theorem kr_mn_lcmp (n : Nat) : kr_mn (kr_lcmp n) := by
  intro K K' CO CO' Q Q' hK hO hQ ls st μ h
  unfold kr_lcmp at h ⊢
  split at h <;> first | exact hK _ _ _ _ h | exact h.elim
theorem kr_mn_dup (n : Nat) : kr_mn (kr_dup n) := by
  intro K K' CO CO' Q Q' hK hO hQ ls st μ h
  unfold kr_dup at h ⊢
  split at h <;> first | exact hK _ _ _ _ h | exact h.elim
theorem kr_mn_dup2 (n : Nat) : kr_mn (kr_dup2 n) := by
  intro K K' CO CO' Q Q' hK hO hQ ls st μ h
  unfold kr_dup2 at h ⊢
  split at h <;> first | exact hK _ _ _ _ h | exact h.elim
theorem kr_mn_pop (n : Nat) : kr_mn (kr_pop n) := by
  intro K K' CO CO' Q Q' hK hO hQ ls st μ h
  unfold kr_pop at h ⊢
  split at h <;> first | exact hK _ _ _ _ h | exact h.elim
theorem kr_mn_tsw (lo hi : Int) (ts : List Nat) (df : Nat) : kr_mn (kr_tsw lo hi ts df) := by
  intro K K' CO CO' Q Q' hK hO hQ ls st μ h
  unfold kr_tsw at h ⊢
  split at h <;> first | exact hK _ _ _ _ h | exact h.elim
theorem kr_mn_is (n i : Nat) : kr_mn (kr_is n i) := by
  intro K K' CO CO' Q Q' hK hO hQ ls st μ h
  unfold kr_is at h ⊢
  split at h
  · try dsimp only
    split at h
    · exact hK _ _ _ _ h
    · exact h.elim
  · exact h.elim
theorem kr_mn_as (n i : Nat) : kr_mn (kr_as n i) := by
  intro K K' CO CO' Q Q' hK hO hQ ls st μ h
  unfold kr_as at h ⊢
  split at h
  · try dsimp only
    split at h
    · exact hK _ _ _ _ h
    · exact h.elim
  · exact h.elim
theorem kr_mn_lst (n i : Nat) : kr_mn (kr_lst n i) := by
  intro K K' CO CO' Q Q' hK hO hQ ls st μ h
  unfold kr_lst at h ⊢
  split at h
  · try dsimp only
    split at h
    · exact hK _ _ _ _ h
    · exact h.elim
  · exact h.elim
theorem kr_mn_inc (n i : Nat) (k : Int32) : kr_mn (kr_inc n i k) := by
  intro K K' CO CO' Q Q' hK hO hQ ls st μ h
  unfold kr_inc at h ⊢
  split at h
  · try dsimp only
    split at h
    · exact hK _ _ _ _ h
    · exact h.elim
  · exact h.elim
theorem kr_mn_m2 (n : Nat) (f : Int32 → Int32 → Int32) : kr_mn (kr_m2 n f) := by
  intro K K' CO CO' Q Q' hK hO hQ ls st μ h
  unfold kr_m2 at h ⊢
  split at h
  · try dsimp only
    split at h
    · exact hK _ _ _ _ h
    · exact h.elim
  · exact h.elim
theorem kr_mn_m1 (n : Nat) (f : Int32 → Int32) : kr_mn (kr_m1 n f) := by
  intro K K' CO CO' Q Q' hK hO hQ ls st μ h
  unfold kr_m1 at h ⊢
  split at h
  · try dsimp only
    split at h
    · exact hK _ _ _ _ h
    · exact h.elim
  · exact h.elim
theorem kr_mn_dv (n : Nat) (f : Int32 → Int32 → Int32) : kr_mn (kr_dv n f) := by
  intro K K' CO CO' Q Q' hK hO hQ ls st μ h
  unfold kr_dv at h ⊢
  split at h
  · exact ⟨h.1, hK _ _ _ _ h.2⟩
  · exact h.elim
theorem kr_mn_gi (n c k : Nat) : kr_mn (kr_gi n c k) := by
  intro K K' CO CO' Q Q' hK hO hQ ls st μ h
  unfold kr_gi at h ⊢
  split at h
  · exact ⟨h.1, hK _ _ _ _ h.2⟩
  · exact h.elim
theorem kr_mn_gr (n c k : Nat) : kr_mn (kr_gr n c k) := by
  intro K K' CO CO' Q Q' hK hO hQ ls st μ h
  unfold kr_gr at h ⊢
  split at h
  · exact ⟨h.1, hK _ _ _ _ h.2⟩
  · exact h.elim
theorem kr_mn_gl (n c : Nat) : kr_mn (kr_gl n c) := by
  intro K K' CO CO' Q Q' hK hO hQ ls st μ h
  unfold kr_gl at h ⊢
  split at h
  · exact ⟨h.1, hK _ _ _ _ h.2⟩
  · exact h.elim
theorem kr_mn_pi (n c k : Nat) : kr_mn (kr_pi n c k) := by
  intro K K' CO CO' Q Q' hK hO hQ ls st μ h
  unfold kr_pi at h ⊢
  split at h
  · exact ⟨h.1, hK _ _ _ _ h.2⟩
  · exact h.elim
theorem kr_mn_pz (n c k : Nat) : kr_mn (kr_pz n c k) := by
  intro K K' CO CO' Q Q' hK hO hQ ls st μ h
  unfold kr_pz at h ⊢
  split at h
  · exact ⟨h.1, hK _ _ _ _ h.2⟩
  · exact h.elim
theorem kr_mn_pl (n c : Nat) : kr_mn (kr_pl n c) := by
  intro K K' CO CO' Q Q' hK hO hQ ls st μ h
  unfold kr_pl at h ⊢
  split at h
  · exact ⟨h.1, hK _ _ _ _ h.2⟩
  · exact h.elim
theorem kr_mn_ia (n : Nat) : kr_mn (kr_ia n) := by
  intro K K' CO CO' Q Q' hK hO hQ ls st μ h
  unfold kr_ia at h ⊢
  split at h
  · exact ⟨h.1, hK _ _ _ _ h.2⟩
  · exact h.elim
theorem kr_mn_ias (n : Nat) : kr_mn (kr_ias n) := by
  intro K K' CO CO' Q Q' hK hO hQ ls st μ h
  unfold kr_ias at h ⊢
  split at h
  · exact ⟨h.1, hK _ _ _ _ h.2⟩
  · exact h.elim
theorem kr_mn_za (n : Nat) : kr_mn (kr_za n) := by
  intro K K' CO CO' Q Q' hK hO hQ ls st μ h
  unfold kr_za at h ⊢
  split at h
  · exact ⟨h.1, hK _ _ _ _ h.2⟩
  · exact h.elim
theorem kr_mn_zas (n : Nat) : kr_mn (kr_zas n) := by
  intro K K' CO CO' Q Q' hK hO hQ ls st μ h
  unfold kr_zas at h ⊢
  split at h
  · exact ⟨h.1, hK _ _ _ _ h.2⟩
  · exact h.elim
theorem kr_mn_ra (n : Nat) : kr_mn (kr_ra n) := by
  intro K K' CO CO' Q Q' hK hO hQ ls st μ h
  unfold kr_ra at h ⊢
  split at h
  · exact ⟨h.1, hK _ _ _ _ h.2⟩
  · exact h.elim
theorem kr_mn_sa (L : Nat) (xs : Nat → Int32) (n : Nat) : kr_mn (kr_sa L xs n) := by
  intro K K' CO CO' Q Q' hK hO hQ ls st μ h
  unfold kr_sa at h ⊢
  split at h
  · exact ⟨h.1, hK _ _ _ _ h.2⟩
  · exact h.elim
theorem kr_mn_sn (L n : Nat) : kr_mn (kr_sn L n) := by
  intro K K' CO CO' Q Q' hK hO hQ ls st μ h
  unfold kr_sn at h ⊢
  split at h
  · exact ⟨h.1, hK _ _ _ _ h.2⟩
  · exact h.elim
theorem kr_mn_sc (n : Nat) : kr_mn (kr_sc n) := by
  intro K K' CO CO' Q Q' hK hO hQ ls st μ h
  unfold kr_sc at h ⊢
  split at h
  · exact ⟨h.1, hK _ _ _ _ h.2⟩
  · exact h.elim
theorem kr_mn_sv (n : Nat) : kr_mn (kr_sv n) := by
  intro K K' CO CO' Q Q' hK hO hQ ls st μ h
  unfold kr_sv at h ⊢
  split at h
  · exact ⟨h.1, hK _ _ _ _ h.2⟩
  · exact h.elim
theorem kr_mn_sb (n : Nat) : kr_mn (kr_sb n) := by
  intro K K' CO CO' Q Q' hK hO hQ ls st μ h
  unfold kr_sb at h ⊢
  split at h
  · exact ⟨h.1, hK _ _ _ _ h.2⟩
  · exact h.elim
theorem kr_mn_sl2 (n : Nat) : kr_mn (kr_sl2 n) := by
  intro K K' CO CO' Q Q' hK hO hQ ls st μ h
  unfold kr_sl2 at h ⊢
  split at h
  · exact ⟨h.1, hK _ _ _ _ h.2⟩
  · exact h.elim
theorem kr_mn_cp (n : Nat) : kr_mn (kr_cp n) := by
  intro K K' CO CO' Q Q' hK hO hQ ls st μ h
  unfold kr_cp at h ⊢
  split at h
  · exact ⟨h.1, hK _ _ _ _ h.2⟩
  · exact h.elim
theorem kr_mn_if (n t : Nat) (P : Int32 → Prop) : kr_mn (kr_if n t P) := by
  intro K K' CO CO' Q Q' hK hO hQ ls st μ h
  unfold kr_if at h ⊢
  split at h
  · exact ⟨fun z => hK _ _ _ _ (h.1 z), fun z => hK _ _ _ _ (h.2 z)⟩
  · exact h.elim
theorem kr_mn_ic (n t : Nat) (P : Int32 → Int32 → Prop) : kr_mn (kr_ic n t P) := by
  intro K K' CO CO' Q Q' hK hO hQ ls st μ h
  unfold kr_ic at h ⊢
  split at h
  · exact ⟨fun z => hK _ _ _ _ (h.1 z), fun z => hK _ _ _ _ (h.2 z)⟩
  · exact h.elim
theorem kr_mn_ri  : kr_mn (kr_ri) := by
  intro K K' CO CO' Q Q' hK hO hQ ls st μ h
  unfold kr_ri at h ⊢
  split at h <;> first | exact hQ _ _ h | exact h.elim
theorem kr_mn_rv  : kr_mn (kr_rv) := by
  intro K K' CO CO' Q Q' hK hO hQ ls st μ h
  unfold kr_rv at h ⊢
  split at h <;> first | exact hQ _ _ h | exact h.elim
theorem kr_mn_rz  : kr_mn (kr_rz) := by
  intro K K' CO CO' Q Q' hK hO hQ ls st μ h
  unfold kr_rz at h ⊢
  split at h <;> first | exact ⟨h.1, hQ _ _ h.2⟩ | exact h.elim
theorem kr_mn_rn (P : Int32 → Prop) : kr_mn (kr_rn P) := by
  intro K K' CO CO' Q Q' hK hO hQ ls st μ h
  unfold kr_rn at h ⊢
  split at h <;> first | exact ⟨h.1, hQ _ _ h.2⟩ | exact h.elim
theorem kr_bk_mono {K K' : kr_K} (hK : ∀ pc ls st μ, K pc ls st μ → K' pc ls st μ) (n : Nat) (ls : kr_L) (r : List Value) : ∀ v μ, kr_bk K n ls r v μ → kr_bk K' n ls r v μ := by
  intro v μ h
  unfold kr_bk at h ⊢
  split at h <;> first | exact hK _ _ _ _ h | exact h.elim
theorem kr_mn_cs (n y na : Nat) : kr_mn (kr_cs n y na) := by
  intro K K' CO CO' Q Q' hK hO hQ ls st μ h
  unfold kr_cs at h ⊢
  split at h
  · try dsimp only
    split at h
    · exact hO _ _ _ _ _ (kr_bk_mono hK _ _ _) h
    · exact h.elim
  · exact h.elim
theorem kr_mn_cv (n y na c : Nat) : kr_mn (kr_cv n y na c) := by
  intro K K' CO CO' Q Q' hK hO hQ ls st μ h
  unfold kr_cv at h ⊢
  split at h
  · try dsimp only
    split at h
    · exact ⟨h.1, hO _ _ _ _ _ (kr_bk_mono hK _ _ _) h.2⟩
    · exact h.elim
  · exact h.elim
theorem kr_mn_ct (n y na : Nat) : kr_mn (kr_ct n y na) := by
  intro K K' CO CO' Q Q' hK hO hQ ls st μ h
  unfold kr_ct at h ⊢
  split at h
  · try dsimp only
    split at h
    · exact ⟨h.1, hO _ _ _ _ _ (kr_bk_mono hK _ _ _) h.2⟩
    · exact h.elim
  · exact h.elim
/-! a method's run: the least predicate that its code bears -/
def kr_sub (l l' : kr_L) : Prop := ∀ i v, kr_lg l i = some v → kr_lg l' i = some v
def kr_Wp (C : Nat → kr_S) (CO : kr_O) (Q : kr_Q) : kr_K := fun pc ls st μ => ∀ X : kr_K, (∀ pc ls st μ, C pc X CO Q ls st μ → X pc ls st μ) → (∀ pc l l' st μ, kr_sub l l' → X pc l st μ → X pc l' st μ) → X pc ls st μ
theorem kr_Wp.step {C : Nat → kr_S} {CO : kr_O} {Q : kr_Q} (hC : ∀ pc, kr_mn (C pc)) (hO : kr_om CO CO) {pc : Nat} {ls : kr_L} {st : List Value} {μ : kr_M} (h : C pc (kr_Wp C CO Q) CO Q ls st μ) : kr_Wp C CO Q pc ls st μ :=
  fun X hX hY => hX _ _ _ _ (hC pc _ _ _ _ _ _ (fun _ _ _ _ k => k X hX hY) hO (fun _ _ k => k) _ _ _ h)
theorem kr_Wp.mono {C : Nat → kr_S} {CO CO' : kr_O} {Q Q' : kr_Q} (hC : ∀ pc, kr_mn (C pc)) (hO : kr_om CO CO') (hQ : ∀ v μ, Q v μ → Q' v μ) {pc : Nat} {ls : kr_L} {st : List Value} {μ : kr_M} (h : kr_Wp C CO Q pc ls st μ) : kr_Wp C CO' Q' pc ls st μ :=
  fun X hX hY => h X (fun _ _ _ _ k => hX _ _ _ _ (hC _ _ _ _ _ _ _ (fun _ _ _ _ z => z) hO hQ _ _ _ k)) hY
theorem kr_sub_lm : ∀ (b : List Bool) (l : kr_L), kr_sub (kr_lm b l) l := by
  intro b
  induction b with
  | nil => intro l i v h; simp [kr_lm, kr_lg] at h
  | cons x b ih =>
    intro l i v h
    cases l with
    | nil => cases x <;> simp [kr_lm, kr_lg] at h
    | cons a l =>
      cases x <;> cases i with
      | zero => first | exact h | simp [kr_lm, kr_lg] at h
      | succ i => exact ih l i v h
/-- fewer locals are enough -/
theorem kr_Wp.lm {C : Nat → kr_S} {CO : kr_O} {Q : kr_Q} {pc : Nat} {ls : kr_L} {st : List Value} {μ : kr_M} (b : List Bool) (h : kr_Wp C CO Q pc (kr_lm b ls) st μ) : kr_Wp C CO Q pc ls st μ :=
  fun X hX hY => hY _ _ _ _ _ (kr_sub_lm b ls) (h X hX hY)
/-- calls, at most d deep; y's code C y, its locals nL y -/
def kr_co (C : Nat → Nat → kr_S) (nL : Nat → Nat) : Nat → kr_O
  | 0 => fun _ _ _ _ => False
  | d + 1 => fun y as μ Q => Nat.ble (kr_sl as).length (nL y) = true ∧ kr_Wp (C y) (kr_co C nL d) Q 0 (kr_pad (nL y) (kr_sl as)) [] μ
theorem kr_co_om {C : Nat → Nat → kr_S} {nL : Nat → Nat} (hC : ∀ y pc, kr_mn (C y pc)) : ∀ d, kr_om (kr_co C nL d) (kr_co C nL d) := by
  intro d
  induction d with
  | zero => intro y as μ Qa Qb _ h; exact h
  | succ d ih => intro y as μ Qa Qb hQ h; exact ⟨h.1, kr_Wp.mono (hC y) ih hQ h.2⟩
theorem kr_co_up {C : Nat → Nat → kr_S} {nL : Nat → Nat} (hC : ∀ y pc, kr_mn (C y pc)) : ∀ d, kr_om (kr_co C nL d) (kr_co C nL (d + 1)) := by
  intro d
  induction d with
  | zero => intro y as μ Qa Qb _ h; exact h.elim
  | succ d ih => intro y as μ Qa Qb hQ h; exact ⟨h.1, kr_Wp.mono (hC y) ih hQ h.2⟩
theorem kr_co_le {C : Nat → Nat → kr_S} {nL : Nat → Nat} (hC : ∀ y pc, kr_mn (C y pc)) {d d' : Nat} (h : d ≤ d') : kr_om (kr_co C nL d) (kr_co C nL d') := by
  induction h with
  | refl => exact kr_co_om hC d
  | step _ ih => intro y as μ Qa Qb hQ k; exact kr_co_up hC _ y as μ Qb Qb (fun _ _ z => z) (ih y as μ Qa Qb hQ k)
