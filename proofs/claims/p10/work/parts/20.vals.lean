/-! THE CHECKER, 5: values, locals, stacks, what all contents keep -/
abbrev az_V : Type := az_L ⊕ (Unit ⊕ (Nat ⊕ Nat))
abbrev az_Ls : Type := List (Nat × az_V)
def az_gV (P : si_P) (ρ : Nat → Int) (v : az_V) (w : Value) : Prop := match v, w with
  | .inl a, .int x => x.toInt = az_ev ρ a
  | .inr (.inl _), .long _ => True
  | .inr (.inr (.inl i)), .ref a => a = P.1 + i
  | .inr (.inr (.inr k)), .ref a => a = (if k = 0 then P.2.1 else P.2.2.2.2 k)
  | _, _ => False
def az_wfV (n : Nat) (v : az_V) : Prop := match v with
  | .inl a => az_wf n a
  | _ => True
theorem az_wfV.mono {n k : Nat} {v : az_V} (h : az_wfV n v) (hk : n ≤ k) : az_wfV k v := by
  cases v with
  | inl a => exact az_wf.mono h hk
  | inr a => trivial
theorem az_gV.ext {P : si_P} {ρ σ : Nat → Int} {n : Nat} {v : az_V} {w : Value} (hx : az_ext n ρ σ) (hw : az_wfV n v) (hv : az_gV P ρ v w) : az_gV P σ v w := by
  cases v with
  | inl a =>
    cases w <;> first | exact hv | skip
    show _ = az_ev σ a
    rw [hx.ev hw]
    exact hv
  | inr a =>
    rcases a with u | i | k <;> cases w <;> exact hv
def az_cat (v : az_V) : Nat := match v with
  | .inr (.inl _) => 2
  | _ => 1
theorem az_cat_ok {P : si_P} {ρ : Nat → Int} {v : az_V} {w : Value} (hv : az_gV P ρ v w) : w.category = az_cat v := by
  unfold az_gV at hv
  split at hv
  · rfl
  · rfl
  · rfl
  · rfl
  · exact hv.elim
def az_kd (v : az_V) (k : Nat) : Bool := match v with
  | .inl _ => k == 0
  | .inr (.inl _) => k == 1
  | .inr (.inr _) => k == 2
theorem az_kd_ok {P : si_P} {ρ : Nat → Int} {v : az_V} {w : Value} {k : Nat} (hv : az_gV P ρ v w) : si_kd w k = az_kd v k := by
  unfold az_gV at hv
  split at hv
  · rfl
  · rfl
  · rfl
  · rfl
  · exact hv.elim
def az_ld (k : Nat) : az_Ls → Option az_V
  | [] => none
  | q :: r => if q.1 = k then some q.2 else az_ld k r
def az_gL (P : si_P) (ρ : Nat → Int) (n : Nat) (a : az_Ls) (l : si_L) : Prop := ∀ (k : Nat) (v : az_V), az_ld k a = some v → az_wfV n v ∧ ∃ w, si_ld k l = some w ∧ az_gV P ρ v w
def az_gS (P : si_P) (ρ : Nat → Int) (n : Nat) : List az_V → List Value → Prop
  | [], [] => True
  | v :: r, w :: s => az_wfV n v ∧ az_gV P ρ v w ∧ az_gS P ρ n r s
  | _, _ => False
theorem az_gL.ext {P : si_P} {ρ σ : Nat → Int} {n k : Nat} {a : az_Ls} {l : si_L} (hx : az_ext n ρ σ) (hk : n ≤ k) (h : az_gL P ρ n a l) : az_gL P σ k a l := by
  intro j v hv
  obtain ⟨h1, w, h2, h3⟩ := h j v hv
  exact ⟨h1.mono hk, w, h2, h3.ext hx h1⟩
theorem az_gS.ext {P : si_P} {ρ σ : Nat → Int} {n k : Nat} (hx : az_ext n ρ σ) (hk : n ≤ k) : ∀ {a : List az_V} {s : List Value}, az_gS P ρ n a s → az_gS P σ k a s
  | [], [], _ => trivial
  | v :: r, w :: s, h => ⟨h.1.mono hk, h.2.1.ext hx h.1, az_gS.ext hx hk h.2.2⟩
  | [], _ :: _, h => h.elim
  | _ :: _, [], h => h.elim
theorem az_gS_cons {P : si_P} {ρ : Nat → Int} {n : Nat} {v : az_V} {r : List az_V} {s : List Value} (h : az_gS P ρ n (v :: r) s) : ∃ w t, s = w :: t ∧ az_wfV n v ∧ az_gV P ρ v w ∧ az_gS P ρ n r t := by
  cases s with
  | nil => exact h.elim
  | cons w t => exact ⟨w, t, rfl, h.1, h.2.1, h.2.2⟩
theorem az_gS_nil {P : si_P} {ρ : Nat → Int} {n : Nat} {s : List Value} (h : az_gS P ρ n [] s) : s = [] := by
  cases s with
  | nil => rfl
  | cons w t => exact h.elim
theorem az_gV_int {P : si_P} {ρ : Nat → Int} {a : az_L} {w : Value} (h : az_gV P ρ (.inl a) w) : ∃ x : Int32, w = .int x ∧ x.toInt = az_ev ρ a := by
  cases w <;> first | exact ⟨_, rfl, h⟩ | exact h.elim
theorem az_gV_long {P : si_P} {ρ : Nat → Int} {u : Unit} {w : Value} (h : az_gV P ρ (.inr (.inl u)) w) : ∃ x : Int64, w = .long x := by
  cases w <;> first | exact ⟨_, rfl⟩ | exact h.elim
theorem az_gV_cell {P : si_P} {ρ : Nat → Int} {i : Nat} {w : Value} (h : az_gV P ρ (.inr (.inr (.inl i))) w) : w = .ref (P.1 + i) := by
  cases w <;> first | (rw [show _ = P.1 + i from h]) | exact h.elim
theorem az_gV_ext {P : si_P} {ρ : Nat → Int} {k : Nat} {w : Value} (h : az_gV P ρ (.inr (.inr (.inr k))) w) : w = .ref (if k = 0 then P.2.1 else P.2.2.2.2 k) := by
  cases w <;> first | (rw [show _ = (if k = 0 then P.2.1 else P.2.2.2.2 k) from h]) | exact h.elim
/-- stores into locals -/
def az_isl (v : Option az_V) : Bool := match v with
  | some v => decide (az_cat v = 2)
  | none => false
def az_st1 (a : az_Ls) (i : Nat) (v : az_V) : az_Ls := (i, v) :: a.filter (fun q => !(q.1 == i) && !(q.1 + 1 == i && az_isl (az_ld q.1 a)))
def az_st2 (a : az_Ls) (i : Nat) (v : az_V) : az_Ls := (i, v) :: a.filter (fun q => !(q.1 == i) && (!(q.1 == i + 1) && !(q.1 + 1 == i && az_isl (az_ld q.1 a))))
theorem az_ld_filter {f : Nat → Bool} {k : Nat} : ∀ {a : az_Ls}, az_ld k (a.filter (fun q => f q.1)) = if f k = true then az_ld k a else none := by
  intro a
  induction a with
  | nil => simp [az_ld]
  | cons q r ih =>
    rw [List.filter_cons]
    by_cases hq : q.1 = k
    · subst hq
      by_cases hf : f q.1 = true
      · rw [if_pos hf, if_pos hf]
        unfold az_ld
        rw [if_pos rfl, if_pos rfl]
      · rw [if_neg hf, if_neg hf, ih, if_neg hf]
    · have e1 : az_ld k (q :: r) = az_ld k r := by
        show (if q.1 = k then some q.2 else az_ld k r) = _
        rw [if_neg hq]
      rw [e1]
      split
      · show (if q.1 = k then some q.2 else az_ld k _) = _
        rw [if_neg hq, ih]
      · exact ih
theorem si_ld_filter {p : Nat × Value → Bool} {k : Nat} {w : Value} (hp : p (k, w) = true) : ∀ {l : si_L}, si_ld k l = some w → si_ld k (l.filter p) = some w := by
  intro l
  induction l with
  | nil => intro h; cases h
  | cons q r ih =>
    intro h
    unfold si_ld at h
    split at h
    · rename_i hq
      cases h
      subst hq
      rw [List.filter_cons, if_pos (by exact hp)]
      unfold si_ld
      rw [if_pos rfl]
    · rename_i hq
      rw [List.filter_cons]
      split
      · unfold si_ld
        rw [if_neg hq]
        exact ih h
      · exact ih h
theorem az_st1_ok {P : si_P} {ρ : Nat → Int} {n : Nat} {a : az_Ls} {l : si_L} {i : Nat} {v : az_V} {w : Value} (h : az_gL P ρ n a l) (hw : az_wfV n v) (hv : az_gV P ρ v w) : az_gL P ρ n (az_st1 a i v) (si_st1 l i w) := by
  intro k u hu
  by_cases hk : i = k
  · subst hk
    unfold az_st1 az_ld at hu
    rw [if_pos rfl] at hu
    cases hu
    refine ⟨hw, w, ?_, hv⟩
    unfold si_st1 si_ld
    rw [if_pos rfl]
  · unfold az_st1 az_ld at hu
    rw [if_neg hk, az_ld_filter (f := fun j => !(j == i) && !(j + 1 == i && az_isl (az_ld j a)))] at hu
    split at hu
    · rename_i hf
      obtain ⟨h1, x, h2, h3⟩ := h k u hu
      refine ⟨h1, x, ?_, h3⟩
      unfold si_st1 si_ld
      rw [if_neg hk]
      refine si_ld_filter ?_ h2
      rw [hu] at hf
      simp only [az_isl, Bool.and_eq_true, Bool.not_eq_true', beq_eq_false_iff_ne, ne_eq, Bool.and_eq_false_iff, decide_eq_false_iff_not] at hf ⊢
      refine ⟨hf.1, hf.2.imp id (fun z => ?_)⟩
      rw [az_cat_ok h3]
      exact z
    · cases hu
theorem az_st2_ok {P : si_P} {ρ : Nat → Int} {n : Nat} {a : az_Ls} {l : si_L} {i : Nat} {v : az_V} {w : Value} (h : az_gL P ρ n a l) (hw : az_wfV n v) (hv : az_gV P ρ v w) : az_gL P ρ n (az_st2 a i v) (si_st2 l i w) := by
  intro k u hu
  by_cases hk : i = k
  · subst hk
    unfold az_st2 az_ld at hu
    rw [if_pos rfl] at hu
    cases hu
    refine ⟨hw, w, ?_, hv⟩
    unfold si_st2 si_ld
    rw [if_pos rfl]
  · unfold az_st2 az_ld at hu
    rw [if_neg hk, az_ld_filter (f := fun j => !(j == i) && (!(j == i + 1) && !(j + 1 == i && az_isl (az_ld j a))))] at hu
    split at hu
    · rename_i hf
      obtain ⟨h1, x, h2, h3⟩ := h k u hu
      refine ⟨h1, x, ?_, h3⟩
      unfold si_st2 si_ld
      rw [if_neg hk]
      refine si_ld_filter ?_ h2
      rw [hu] at hf
      simp only [az_isl, Bool.and_eq_true, Bool.not_eq_true', beq_eq_false_iff_ne, ne_eq, Bool.and_eq_false_iff, decide_eq_false_iff_not] at hf ⊢
      refine ⟨hf.1, hf.2.1, hf.2.2.imp id (fun z => ?_)⟩
      rw [az_cat_ok h3]
      exact z
    · cases hu
/-- what the contents of all cells keep: an object's fields within bounds or one of some cells, an array's places within bounds -/
abbrev az_Q : Type := (Nat × Int × Int) ⊕ List Nat
abbrev az_B : Type := (Nat × List az_Q) ⊕ (FieldType × Nat × Int × Int)
def az_qok (P : si_P) (q : az_Q) (v : Value) : Prop := match q with
  | .inl b => ∃ x : Int32, v = .int x ∧ b.2.1 ≤ x.toInt ∧ x.toInt ≤ b.2.2
  | .inr cs => ∃ j, j ∈ cs ∧ v = .ref (P.1 + j)
def az_aok (b : FieldType × Nat × Int × Int) (v : Value) : Prop := if b.1 = .long then ∃ x : Int64, v = .long x else ∃ x : Int32, v = .int x ∧ b.2.2.1 ≤ x.toInt ∧ x.toInt ≤ b.2.2.2
def az_cok (P : si_P) (h : si_H) (i : Nat) (e : az_B) : Prop := match e with
  | .inl o => h.2.1 i = .inl (o.1, o.2.length) ∧ ∀ (k : Nat) (q : az_Q), o.2[k]? = some q → az_qok P q (h.2.2 i k)
  | .inr b => h.2.1 i = .inr (b.1, b.2.1) ∧ ∀ k : Nat, k < b.2.1 → az_aok b (h.2.2 i k)
def az_HI (P : si_P) (tb : List az_B) (h : si_H) : Prop := h.1 = tb.length ∧ ∀ (i : Nat) (e : az_B), tb[i]? = some e → az_cok P h i e
/-- the table speaks of the classes as they are -/
def az_tq (ci k : Nat) (q : az_Q) : Bool := match q with
  | .inl b => decide (si_fty ci k = (if b.1 = 0 then FieldType.int else FieldType.boolean)) && (decide (b.1 = 0) || (decide (0 ≤ b.2.1) && decide (b.2.2 ≤ 1)))
  | .inr _ => (match si_fty ci k with
    | .object _ => true
    | .array _ => true
    | _ => false)
def az_tqs (ci : Nat) : Nat → List az_Q → Bool
  | _, [] => true
  | k, q :: r => az_tq ci k q && az_tqs ci (k + 1) r
def az_tbe (e : az_B) : Bool := match e with
  | .inl o => decide (o.2.length = ((si_cl[o.1]?).map (fun q => q.2.2)).getD 0) && az_tqs o.1 0 o.2
  | .inr b => decide (b.1 ∈ [FieldType.int, .long, .byte, .boolean]) && decide (b.2.1 ≤ 65536) && (decide (b.1 ≠ .byte) || (decide (b.2.2.1 ≤ -128) && decide (127 ≤ b.2.2.2))) && (decide (b.1 ≠ .boolean) || (decide (b.2.2.1 ≤ 0) && decide (1 ≤ b.2.2.2)))
def az_tbk (tb : List az_B) : Bool := tb.all az_tbe && decide (tb.length ≤ 1000000)
/-- the places that a stretch may write: (cell, field), or (cell, 1000000) for an array -/
def az_in (md : List (Nat × Nat)) (i k : Nat) : Bool := md.contains (i, k) || md.contains (i, 1000000)
def az_same_out (md : List (Nat × Nat)) (h h' : si_H) : Prop := h'.1 = h.1 ∧ h'.2.1 = h.2.1 ∧ ∀ i k : Nat, az_in md i k = false → h'.2.2 i k = h.2.2 i k
theorem az_same_out.rf {md : List (Nat × Nat)} {h : si_H} : az_same_out md h h := ⟨rfl, rfl, fun _ _ _ => rfl⟩
theorem az_same_out.tr {md : List (Nat × Nat)} {a b c : si_H} (h1 : az_same_out md a b) (h2 : az_same_out md b c) : az_same_out md a c := ⟨h2.1.trans h1.1, h2.2.1.trans h1.2.1, fun i k hk => (h2.2.2 i k hk).trans (h1.2.2 i k hk)⟩
theorem az_tqs_ok {ci : Nat} : ∀ {l : List az_Q} {j : Nat}, az_tqs ci j l = true → ∀ (k : Nat) (q : az_Q), l[k]? = some q → az_tq ci (j + k) q = true
  | [], _, _, k, q, hq => by cases hq
  | x :: r, j, h, k, q, hq => by
    unfold az_tqs at h
    rw [Bool.and_eq_true] at h
    cases k with
    | zero => cases hq; exact h.1
    | succ k =>
      have := az_tqs_ok (l := r) (j := j + 1) h.2 k q hq
      rwa [Nat.add_assoc, Nat.add_comm 1 k] at this
