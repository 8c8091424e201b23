/-! THE CONSTRUCTORS, 1: a run of straight code that makes and fills cells -/
abbrev cV : Type := Int32 ⊕ (Nat ⊕ Nat)
def cval (P : si_P) (v : cV) : Value := match v with
  | .inl x => .int x
  | .inr (.inl i) => .ref (P.1 + i)
  | .inr (.inr k) => .ref (if k = 0 then P.2.1 else P.2.2.2.2 k)
abbrev cW : Type := List (Nat × Nat × cV)
def cget (i k : Nat) : cW → Option cV
  | [] => none
  | q :: r => if q.1 = i ∧ q.2.1 = k then some q.2.2 else cget i k r
def cdv (s : si_S) (k : Nat) : Value := match s with
  | .inl o => si_dv (si_fty o.1 k)
  | .inr a => si_dv a.1
def ccon (P : si_P) (wr : cW) (s : si_S) (i k : Nat) : Value := match cget i k wr with
  | some v => cval P v
  | none => cdv s k
/-- what the cells hold -/
def chr (P : si_P) (sh : List si_S) (wr : cW) (h : si_H) : Prop := h.1 = sh.length ∧ (∀ q ∈ wr, q.1 < sh.length) ∧ ∀ (i : Nat) (s : si_S), sh[i]? = some s → h.2.1 i = s ∧ ∀ k : Nat, h.2.2 i k = ccon P wr s i k
def cld (k : Nat) : List (Nat × cV) → Option cV
  | [] => none
  | q :: r => if q.1 = k then some q.2 else cld k r
def cL (P : si_P) (ls : List (Nat × cV)) (l : si_L) : Prop := ∀ (k : Nat) (v : cV), cld k ls = some v → si_ld k l = some (cval P v)
def cargs : Nat → List cV → List (Nat × cV)
  | _, [] => []
  | i, v :: r => (i, v) :: cargs (i + 1) r
def cfit (ty : FieldType) (v : cV) : Bool := match v with
  | .inl x => decide (narrow ty (.int x) = .int x) && fits ty (.int x)
  | .inr _ => (match ty with
    | .object _ => true
    | .array _ => true
    | _ => false)
theorem cfit_ok {P : si_P} {ty : FieldType} {v : cV} (h : cfit ty v = true) : narrow ty (cval P v) = cval P v ∧ fits ty (cval P v) = true := by
  unfold cfit at h
  split at h
  · rw [Bool.and_eq_true, decide_eq_true_eq] at h
    exact h
  · rename_i w
    split at h
    · rcases w with i | k <;> exact ⟨rfl, rfl⟩
    · rcases w with i | k <;> exact ⟨rfl, rfl⟩
    · cases h
theorem cval_cat (P : si_P) (v : cV) : (cval P v).category = 1 := by
  rcases v with x | i | k <;> rfl
theorem cwide {P : si_P} {r : List cV} (h : r.length ≤ 8) : si_wide (r.map (cval P)) = true := by
  unfold si_wide
  rw [decide_eq_true_eq]
  have : ∀ l : List cV, ((l.map (cval P)).map fun v => v.category).sum = l.length := by
    intro l
    induction l with
    | nil => rfl
    | cons a b ih => rw [List.map_cons, List.map_cons, List.sum_cons, ih, cval_cat, List.length_cons]; omega
  rw [this]
  exact h
theorem csl {P : si_P} : ∀ l : List cV, (lg_sl (l.map (cval P))).length = l.length
  | [] => rfl
  | a :: b => by
    have := csl (P := P) b
    unfold lg_sl at this ⊢
    rw [List.map_cons, List.flatMap_cons, List.length_append, this, if_neg (by rw [cval_cat]; decide), List.length_cons, List.length_cons]
    show 0 + 1 + b.length = b.length + 1
    omega
theorem cargs_ok {P : si_P} : ∀ (l : List cV) (i : Nat), cL P (cargs i l) (lv_args i (l.map (cval P)))
  | [], i => fun k v hv => by cases hv
  | a :: b, i => fun k v hv => by
    have ih := cargs_ok (P := P) b (i + 1)
    unfold cargs cld at hv
    rw [List.map_cons]
    unfold lv_args si_ld
    rw [cval_cat]
    split at hv
    · rename_i e
      cases hv
      exact if_pos e
    · rename_i e
      rw [if_neg e]
      exact ih k v hv
def cty (s : Option si_S) (ci : Nat) : Bool := match s with
  | some (.inl o) => decide (o.1 = ci) && decide (o.2 = ((si_cl[ci]?).map (fun q => q.2.2)).getD 0)
  | _ => false
def ck : Nat → Option Nat → Nat → Nat → Nat → List (Nat × cV) → List cV → List si_S → cW → Option (List cV × List si_S × cW)
  | 0, _, _, _, _, _, _, _, _ => none
  | n + 1, stp, d, m, pc, ls, st, sh, wr => if stp = some pc then some (st, sh, wr) else match si_m m, si_fetch m pc with
    | some y, some e => (match e.1, st with
      | .return_, [] => if stp = none ∧ e.2.1 = 1 ∧ y.2.2.2.2.1 = none then some ([], sh, wr) else none
      | .aload_n k, st => if e.2.1 = 1 then (match cld k ls with
        | some (.inr v) => ck n stp d m (pc + 1) ls (.inr v :: st) sh wr
        | _ => none) else none
      | .iload_n k, st => if e.2.1 = 1 then (match cld k ls with
        | some (.inl v) => ck n stp d m (pc + 1) ls (.inl v :: st) sh wr
        | _ => none) else none
      | .iconst c, st => if e.2.1 = 1 then ck n stp d m (pc + 1) ls (.inl (Int32.ofInt c) :: st) sh wr else none
      | .bipush c, st => if e.2.1 = 2 then ck n stp d m (pc + 2) ls (.inl (Int8.ofInt c).toInt32 :: st) sh wr else none
      | .sipush c, st => if e.2.1 = 3 then ck n stp d m (pc + 3) ls (.inl (Int16.ofInt c).toInt32 :: st) sh wr else none
      | .ldc _, st => if e.2.1 = 2 ∧ e.2.2.2.1 ≠ 0 ∧ e.2.2.1 ≠ 0 then ck n stp d m (pc + 2) ls (.inr (.inr e.2.2.1) :: st) sh wr else none
      | .imul, .inl a :: .inl b :: r => if e.2.1 = 1 then ck n stp d m (pc + 1) ls (.inl (b * a) :: r) sh wr else none
      | .dup, v :: r => if e.2.1 = 1 then ck n stp d m (pc + 1) ls (v :: v :: r) sh wr else none
      | .new _, st => if e.2.1 = 3 then (match si_cl[e.2.2.1]? with
        | some q => ck n stp d m (pc + 3) ls (.inr (.inl sh.length) :: st) (sh ++ [.inl (e.2.2.1, q.2.2)]) wr
        | none => none) else none
      | .newarray t, .inl x :: r => if e.2.1 = 2 ∧ ¬ x < 0 ∧ x.toNatClampNeg ≤ 65536 ∧ newarray.typeOf t ∈ [FieldType.int, .long, .byte, .boolean] then ck n stp d m (pc + 2) ls (.inr (.inl sh.length) :: r) (sh ++ [.inr (newarray.typeOf t, x.toNatClampNeg)]) wr else none
      | .putfield _, v :: .inr (.inl i) :: r => if e.2.1 = 3 ∧ cty sh[i]? e.2.2.1 = true ∧ cfit (si_fty e.2.2.1 e.2.2.2.1) v = true ∧ (si_fin e.2.2.1 e.2.2.2.1 = false ∨ (y.2.2.2.2.2.1 = 2 ∧ y.1 = e.2.2.1)) then ck n stp d m (pc + 3) ls r sh ((i, e.2.2.2.1, v) :: wr) else none
      | .getfield _, .inr (.inl i) :: r => if e.2.1 = 3 ∧ cty sh[i]? e.2.2.1 = true then (match cget i e.2.2.2.1 wr with
        | some v => ck n stp d m (pc + 3) ls (v :: r) sh wr
        | none => none) else none
      | .iastore, .inl v :: .inl x :: .inr (.inl i) :: r => if e.2.1 = 1 then (match sh[i]? with
        | some (.inr (.int, k)) => if si_in x k = true then ck n stp d m (pc + 1) ls r sh ((i, x.toNatClampNeg, .inl v) :: wr) else none
        | _ => none) else none
      | .invokespecial _, st => if e.2.1 = 3 then (match d with
        | 0 => none
        | d + 1 => if e.2.2.2.1 = 9 then (match st with
          | .inr _ :: r => if 8 ≤ d ∧ r.length ≤ 8 then ck n stp (d + 1) m (pc + 3) ls r sh wr else none
          | _ => none) else if e.2.2.2.1 ≤ 1 then (match si_m e.2.2.1 with
            | some y' => (match st.drop y'.2.2.2.2.2.2.1 with
              | .inr v :: r => if y'.2.2.2.2.2.1 = 2 ∧ y'.1 ≠ 12 ∧ r.length ≤ 8 ∧ (.inr v :: (st.take y'.2.2.2.2.2.2.1).reverse : List cV).length ≤ y'.2.2.2.1 then (match ck n none d e.2.2.1 0 (cargs 0 (.inr v :: (st.take y'.2.2.2.2.2.2.1).reverse)) [] sh wr with
                | some q => ck n stp (d + 1) m (pc + 3) ls r q.2.1 q.2.2
                | none => none) else none
              | _ => none)
            | none => none) else none) else none
      | .invokevirtual _, .inr (.inr 3) :: r => (match d with
        | 0 => none
        | d + 1 => if e.2.1 = 3 ∧ e.2.2.2.1 = 8 ∧ 8 ≤ d ∧ r.length ≤ 8 then ck n stp (d + 1) m (pc + 3) ls (.inl 8 :: r) sh wr else none)
      | _, _ => none)
    | _, _ => none
