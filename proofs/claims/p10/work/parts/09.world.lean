/-! what a state is, over the machine's heap -/
def si_nest : Cond → Bool
  | .fieldLinkNest _ _ _ _ _ _ => true
  | .methodLinkNest _ _ _ _ => true
  | _ => false
def si_gw : List Cond := lw_tbl.filter goodWord
def si_ws (y : si_M) : List Cond := Cond.code y.2.1 y.2.2.1 y.2.2.2.1 y.2.2.2.2.1 :: si_gw
theorem si_gw_in {w : Cond} (h : w ∈ lw_tbl) (hg : goodWord w = true) : w ∈ si_gw := List.mem_filter.mpr ⟨h, hg⟩
theorem si_at {p : Nat} {w : Cond} (h : lw_tbl[p]? = some w) : w ∈ lw_tbl := List.mem_of_getElem? h
def si_tys (ca : FieldType → ClassId) : List (ClassId × FieldType) := [(ca .int, .int), (ca .long, .long), (ca .byte, .byte), (ca .boolean, .boolean)]
def si_K (D : va_G) (ca : FieldType → ClassId) (s : State) : Prop := va_K D si_cl (si_tys ca) s ∧ ∀ w ∈ lw_tbl, si_nest w = true → va_Nw w s
theorem si_K.warm {D : va_G} {ca : FieldType → ClassId} {s U : State} (hW : s.WarmedH U.vm) (h : si_K D ca s) : si_K D ca U := by
  refine ⟨va_K.moved hW.alike h.1, fun w hw hn => ?_⟩
  have h1 := h.2 w hw hn
  cases w <;> first | exact va_Nw.warmF hW h1 | exact va_Nw.warmM hW h1 | exact (Bool.false_ne_true hn).elim
theorem si_K.same {D : va_G} {ca : FieldType → ClassId} {s U : State} (hv : s.vm = U.vm) (h : si_K D ca s) : si_K D ca U := by
  refine ⟨va_K.moved (by rw [hv]; exact Vm.Alike.refl _) h.1, fun w hw hn => ?_⟩
  have h1 := h.2 w hw hn
  cases w <;> first | exact va_Nw.same rfl hv h1 | exact (Bool.false_ne_true hn).elim
def si_A (P : si_P) : Nat → Prop := fun q => P.1 ≤ q
/-- what lies outside: the script, the String constants, a static -/
def si_X (P : si_P) (U : State) : Prop := va_X P.2.1 P.2.2.1 P.2.2.2.1 U U.heap ∧ P.2.1 < P.1 ∧ P.1 ≤ U.heap.size ∧ (∀ O i t, Cond.stringRef O i t ∈ lw_tbl → vk_R O i t (P.2.2.2.2 (if t = "glsx" then 2 else 1)) U) ∧ P.2.2.2.2 3 = P.2.2.2.2 1 ∧ (∃ adV : Nat → Nat, vk_S 2 [8, 4] [si_text 1, si_text 2] (fun i => P.2.2.2.2 (i + 1)) adV (si_A P) U U.heap) ∧ va_Z "java/lang/String" "COMPACT_STRINGS" "Z" (.int 1) (si_A P) U U.heap
theorem si_X.step {P : si_P} {s U : State} (hW : s.WarmedH U.vm) (hz : s.heap.size ≤ U.heap.size) (hq : ∀ q : Nat, q < s.heap.size → ¬ si_A P q → U.heap[q]? = s.heap[q]?) (h : si_X P s) : si_X P U := by
  obtain ⟨h1, h2, h3, h4, h5, ⟨adV, h6⟩, h7⟩ := h
  exact ⟨(h1.moved hW.alike).kept (hq _ (Nat.lt_of_lt_of_le h2 h3) (Nat.not_le.mpr h2)), h2, Nat.le_trans h3 hz, fun O i t ht => (h4 O i t ht).warm hW, h5, ⟨adV, (h6.moved hW.alike).kept hq⟩, (h7.moved hW.alike).kept hq⟩
theorem si_X.same {P : si_P} {s U : State} (hv : s.vm = U.vm) (hh : s.heap = U.heap) (h : si_X P s) : si_X P U := by
  obtain ⟨h1, h2, h3, h4, h5, ⟨adV, h6⟩, h7⟩ := h
  have ha : s.vm.Alike U.vm := by rw [hv]; exact Vm.Alike.refl _
  exact ⟨by rw [← hh]; exact h1.moved ha, h2, by rw [← hh]; exact h3, fun O i t ht => (h4 O i t ht).same hv.symm, h5, ⟨adV, by rw [← hh]; exact h6.moved ha⟩, by rw [← hh]; exact h7.moved ha⟩
/-- a cell -/
def si_cell (D : va_G) (ca : FieldType → ClassId) (q : Nat) (sh : si_S) (f : Nat → Value) (H : Heap) : Prop := match sh with
  | .inl o => ∃ r : vw_C, si_cl[o.1]? = some r ∧ r.2.2 = o.2 ∧ t_OB q (D.1 o.1) o.2 (D.2 o.1) H f
  | .inr a => a.1 ∈ [FieldType.int, .long, .byte, .boolean] ∧ H[q]? = some (arrV (ca a.1) a.2 f)
def si_W (D : va_G) (ca : FieldType → ClassId) (P : si_P) (h : si_H) (H : Heap) : Prop := H.size = P.1 + h.1 ∧ ∀ i : Nat, i < h.1 → si_cell D ca (P.1 + i) (h.2.1 i) (h.2.2 i) H
theorem si_cell.kept {D : va_G} {ca : FieldType → ClassId} {q : Nat} {sh : si_S} {f : Nat → Value} {H H1 : Heap} (h : si_cell D ca q sh f H) (hq : H1[q]? = H[q]?) : si_cell D ca q sh f H1 := by
  cases sh with
  | inl o =>
    obtain ⟨r, h1, h2, h3⟩ := h
    exact ⟨r, h1, h2, h3.kept hq⟩
  | inr a => exact ⟨h.1, hq.trans h.2⟩
theorem si_arr {D : va_G} {ca : FieldType → ClassId} {s : State} (hK : si_K D ca s) {ty : FieldType} (h : ty ∈ [FieldType.int, .long, .byte, .boolean]) : ArrOfT s (ca ty) ty ∧ va_RA s (ca ty) ty := by
  simp only [List.mem_cons, List.not_mem_nil, or_false] at h
  rcases h with rfl | rfl | rfl | rfl
  · exact hK.1.2 0 _ rfl
  · exact hK.1.2 1 _ rfl
  · exact hK.1.2 2 _ rfl
  · exact hK.1.2 3 _ rfl
theorem si_ix_spec {P : si_P} {h : si_H} {a i : Nat} (hi : si_ix P h a = some i) : a = P.1 + i ∧ i < h.1 := by
  unfold si_ix at hi
  split at hi
  · rename_i hc
    cases hi
    omega
  · cases hi
theorem si_in_spec {x : Int32} {n : Nat} (h : si_in x n = true) : vp_in x n := by
  unfold si_in at h
  simp only [Bool.and_eq_true, decide_eq_true_eq] at h
  intro hc
  rcases hc with hc | hc
  · exact absurd hc (Int32.not_lt.mpr h.1)
  · omega
theorem si_set_row {c : Nat → Nat → Value} {i k : Nat} {v : Value} : si_set c i k v i = updV (c i) k v := by
  funext j
  simp [si_set, updV]
theorem si_set_ne {c : Nat → Nat → Value} {i k j : Nat} {v : Value} (h : j ≠ i) : si_set c i k v j = c j := by
  funext b
  simp [si_set, h]
theorem si_W.put {D : va_G} {ca : FieldType → ClassId} {P : si_P} {h : si_H} {H H1 : Heap} {i k : Nat} {v : Value} (hW : si_W D ca P h H) (hz : H1.size = H.size) (hc : si_cell D ca (P.1 + i) (h.2.1 i) (updV (h.2.2 i) k v) H1) (ho : ∀ q : Nat, q ≠ P.1 + i → H1[q]? = H[q]?) : si_W D ca P (h.1, h.2.1, si_set h.2.2 i k v) H1 := by
  refine ⟨hz.trans hW.1, fun j hj => ?_⟩
  by_cases hji : j = i
  · subst hji
    show si_cell D ca (P.1 + j) (h.2.1 j) (si_set h.2.2 j k v j) H1
    rw [si_set_row]
    exact hc
  · show si_cell D ca (P.1 + j) (h.2.1 j) (si_set h.2.2 i k v j) H1
    rw [si_set_ne hji]
    exact (hW.2 j hj).kept (ho _ (by omega))
/-- the classes are as the tables say -/
def si_clk (ci : Nat) : Bool := match si_cl[ci]? with
  | some (C, T, N) => (u_ws C T N).all (fun w => decide (w ∈ lw_tbl) && goodWord w) && (List.range N).all (fun k => decide (parseFieldDescriptor (T k).2.2.1 = some (si_fty ci k))) && (List.range N).all (fun a => (List.range N).all (fun b => decide (a = b) || decide ((T a).2.1 ≠ (T b).2.1))) && decide (Cond.instantiable C N ∈ lw_tbl) && decide (Cond.initialized C ∈ lw_tbl) && decide (si_own[ci]? = some C) && (List.range N).all (fun k => decide (si_dv (si_fty ci k) = defaultValue (si_fty ci k)))
  | none => true
theorem si_clk0 : (List.range 6).all si_clk = true := by decide +kernel
theorem si_clk1 : ([6, 7, 8, 9, 10, 11].all si_clk) = true := by decide +kernel
theorem si_cls {ci : Nat} {C : String} {T : u_T} {N : Nat} (h : si_cl[ci]? = some (C, T, N)) : (∀ w ∈ u_ws C T N, w ∈ si_gw) ∧ (∀ k, k < N → parseFieldDescriptor (T k).2.2.1 = some (si_fty ci k)) ∧ (∀ a, a < N → ∀ b, b < N → a ≠ b → (T a).2.1 ≠ (T b).2.1) ∧ Cond.instantiable C N ∈ lw_tbl ∧ Cond.initialized C ∈ lw_tbl ∧ si_own[ci]? = some C ∧ (∀ k, k < N → si_dv (si_fty ci k) = defaultValue (si_fty ci k)) := by
  have hl : ci < 12 := (List.getElem?_eq_some_iff.mp h).1
  have hk : si_clk ci = true := by
    by_cases h6 : ci < 6
    · exact List.all_eq_true.mp si_clk0 ci (List.mem_range.mpr h6)
    · refine List.all_eq_true.mp si_clk1 ci ?_
      simp only [List.mem_cons, List.not_mem_nil, or_false]
      omega
  unfold si_clk at hk
  rw [h] at hk
  simp only [Bool.and_eq_true, decide_eq_true_eq, List.all_eq_true, Bool.or_eq_true, List.mem_range] at hk
  obtain ⟨⟨⟨⟨⟨⟨h1, h2⟩, h3⟩, h4⟩, h5⟩, h6⟩, h7⟩ := hk
  exact ⟨fun w hw => si_gw_in (h1 w hw).1 (h1 w hw).2, h2, fun a ha b hb hne => (h3 a ha b hb).resolve_left hne, h4, h5, h6, h7⟩
