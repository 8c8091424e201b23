/-! what the checks give; making; calling -/
theorem lk_all {i : Nat} (h : i < 347) : lk_one i = true := by
  have key : ∀ j, j < 44 → ∀ k, k < 8 → 8 * j + k < 347 → lk_one (8 * j + k) = true := by
    intro j hj k hk hl
    match j, hj with
    | 0, _ => exact List.all_eq_true.mp lk_i0 _ (by simp only [List.mem_cons, List.not_mem_nil, or_false]; omega)
    | 1, _ => exact List.all_eq_true.mp lk_i1 _ (by simp only [List.mem_cons, List.not_mem_nil, or_false]; omega)
    | 2, _ => exact List.all_eq_true.mp lk_i2 _ (by simp only [List.mem_cons, List.not_mem_nil, or_false]; omega)
    | 3, _ => exact List.all_eq_true.mp lk_i3 _ (by simp only [List.mem_cons, List.not_mem_nil, or_false]; omega)
    | 4, _ => exact List.all_eq_true.mp lk_i4 _ (by simp only [List.mem_cons, List.not_mem_nil, or_false]; omega)
    | 5, _ => exact List.all_eq_true.mp lk_i5 _ (by simp only [List.mem_cons, List.not_mem_nil, or_false]; omega)
    | 6, _ => exact List.all_eq_true.mp lk_i6 _ (by simp only [List.mem_cons, List.not_mem_nil, or_false]; omega)
    | 7, _ => exact List.all_eq_true.mp lk_i7 _ (by simp only [List.mem_cons, List.not_mem_nil, or_false]; omega)
    | 8, _ => exact List.all_eq_true.mp lk_i8 _ (by simp only [List.mem_cons, List.not_mem_nil, or_false]; omega)
    | 9, _ => exact List.all_eq_true.mp lk_i9 _ (by simp only [List.mem_cons, List.not_mem_nil, or_false]; omega)
    | 10, _ => exact List.all_eq_true.mp lk_i10 _ (by simp only [List.mem_cons, List.not_mem_nil, or_false]; omega)
    | 11, _ => exact List.all_eq_true.mp lk_i11 _ (by simp only [List.mem_cons, List.not_mem_nil, or_false]; omega)
    | 12, _ => exact List.all_eq_true.mp lk_i12 _ (by simp only [List.mem_cons, List.not_mem_nil, or_false]; omega)
    | 13, _ => exact List.all_eq_true.mp lk_i13 _ (by simp only [List.mem_cons, List.not_mem_nil, or_false]; omega)
    | 14, _ => exact List.all_eq_true.mp lk_i14 _ (by simp only [List.mem_cons, List.not_mem_nil, or_false]; omega)
    | 15, _ => exact List.all_eq_true.mp lk_i15 _ (by simp only [List.mem_cons, List.not_mem_nil, or_false]; omega)
    | 16, _ => exact List.all_eq_true.mp lk_i16 _ (by simp only [List.mem_cons, List.not_mem_nil, or_false]; omega)
    | 17, _ => exact List.all_eq_true.mp lk_i17 _ (by simp only [List.mem_cons, List.not_mem_nil, or_false]; omega)
    | 18, _ => exact List.all_eq_true.mp lk_i18 _ (by simp only [List.mem_cons, List.not_mem_nil, or_false]; omega)
    | 19, _ => exact List.all_eq_true.mp lk_i19 _ (by simp only [List.mem_cons, List.not_mem_nil, or_false]; omega)
    | 20, _ => exact List.all_eq_true.mp lk_i20 _ (by simp only [List.mem_cons, List.not_mem_nil, or_false]; omega)
    | 21, _ => exact List.all_eq_true.mp lk_i21 _ (by simp only [List.mem_cons, List.not_mem_nil, or_false]; omega)
    | 22, _ => exact List.all_eq_true.mp lk_i22 _ (by simp only [List.mem_cons, List.not_mem_nil, or_false]; omega)
    | 23, _ => exact List.all_eq_true.mp lk_i23 _ (by simp only [List.mem_cons, List.not_mem_nil, or_false]; omega)
    | 24, _ => exact List.all_eq_true.mp lk_i24 _ (by simp only [List.mem_cons, List.not_mem_nil, or_false]; omega)
    | 25, _ => exact List.all_eq_true.mp lk_i25 _ (by simp only [List.mem_cons, List.not_mem_nil, or_false]; omega)
    | 26, _ => exact List.all_eq_true.mp lk_i26 _ (by simp only [List.mem_cons, List.not_mem_nil, or_false]; omega)
    | 27, _ => exact List.all_eq_true.mp lk_i27 _ (by simp only [List.mem_cons, List.not_mem_nil, or_false]; omega)
    | 28, _ => exact List.all_eq_true.mp lk_i28 _ (by simp only [List.mem_cons, List.not_mem_nil, or_false]; omega)
    | 29, _ => exact List.all_eq_true.mp lk_i29 _ (by simp only [List.mem_cons, List.not_mem_nil, or_false]; omega)
    | 30, _ => exact List.all_eq_true.mp lk_i30 _ (by simp only [List.mem_cons, List.not_mem_nil, or_false]; omega)
    | 31, _ => exact List.all_eq_true.mp lk_i31 _ (by simp only [List.mem_cons, List.not_mem_nil, or_false]; omega)
    | 32, _ => exact List.all_eq_true.mp lk_i32 _ (by simp only [List.mem_cons, List.not_mem_nil, or_false]; omega)
    | 33, _ => exact List.all_eq_true.mp lk_i33 _ (by simp only [List.mem_cons, List.not_mem_nil, or_false]; omega)
    | 34, _ => exact List.all_eq_true.mp lk_i34 _ (by simp only [List.mem_cons, List.not_mem_nil, or_false]; omega)
    | 35, _ => exact List.all_eq_true.mp lk_i35 _ (by simp only [List.mem_cons, List.not_mem_nil, or_false]; omega)
    | 36, _ => exact List.all_eq_true.mp lk_i36 _ (by simp only [List.mem_cons, List.not_mem_nil, or_false]; omega)
    | 37, _ => exact List.all_eq_true.mp lk_i37 _ (by simp only [List.mem_cons, List.not_mem_nil, or_false]; omega)
    | 38, _ => exact List.all_eq_true.mp lk_i38 _ (by simp only [List.mem_cons, List.not_mem_nil, or_false]; omega)
    | 39, _ => exact List.all_eq_true.mp lk_i39 _ (by simp only [List.mem_cons, List.not_mem_nil, or_false]; omega)
    | 40, _ => exact List.all_eq_true.mp lk_i40 _ (by simp only [List.mem_cons, List.not_mem_nil, or_false]; omega)
    | 41, _ => exact List.all_eq_true.mp lk_i41 _ (by simp only [List.mem_cons, List.not_mem_nil, or_false]; omega)
    | 42, _ => exact List.all_eq_true.mp lk_i42 _ (by simp only [List.mem_cons, List.not_mem_nil, or_false]; omega)
    | 43, _ => exact List.all_eq_true.mp lk_i43 _ (by simp only [List.mem_cons, List.not_mem_nil, or_false]; omega)
    | j + 44, hj => exact absurd hj (by omega)
  have := key (i / 8) (by omega) (i % 8) (by omega) (by omega)
  rwa [Nat.div_add_mod] at this
theorem si_m_lt {i : Nat} {y : si_M} (h : si_m i = some y) : i < 347 := by
  unfold si_m at h
  cases h1 : si_mds[i / 16]? with
  | none => rw [h1] at h; cases h
  | some r =>
    rw [h1] at h
    dsimp only at h
    have h2 : i / 16 < 22 := (List.getElem?_eq_some_iff.mp h1).1
    have h3 : i % 16 < r.length := (List.getElem?_eq_some_iff.mp h).1
    by_cases h4 : i / 16 = 21
    · rw [h4] at h1
      have h5 : r.length = 11 := by
        have := congrArg (Option.map List.length) h1
        exact (Option.some.inj this).symm
      omega
    · omega
theorem cw_all {i : Nat} {y : si_M} (h : si_m i = some y) (hi : i < 346) : Cond.code y.2.1 y.2.2.1 y.2.2.2.1 y.2.2.2.2.1 ∈ lw_tbl := by
  unfold si_m at h
  cases h1 : si_mds[i / 16]? with
  | none => rw [h1] at h; cases h
  | some r =>
    rw [h1] at h
    dsimp only at h
    have h2 : i / 16 < 22 := (List.getElem?_eq_some_iff.mp h1).1
    have hm := List.mem_of_getElem? h
    generalize hj : i / 16 = j at h1 h2
    match j, h2 with
    | 0, _ => cases h1; exact cw_in cw_i0 y hm
    | 1, _ => cases h1; exact cw_in cw_i1 y hm
    | 2, _ => cases h1; exact cw_in cw_i2 y hm
    | 3, _ => cases h1; exact cw_in cw_i3 y hm
    | 4, _ => cases h1; exact cw_in cw_i4 y hm
    | 5, _ => cases h1; exact cw_in cw_i5 y hm
    | 6, _ => cases h1; exact cw_in cw_i6 y hm
    | 7, _ => cases h1; exact cw_in cw_i7 y hm
    | 8, _ => cases h1; exact cw_in cw_i8 y hm
    | 9, _ => cases h1; exact cw_in cw_i9 y hm
    | 10, _ => cases h1; exact cw_in cw_i10 y hm
    | 11, _ => cases h1; exact cw_in cw_i11 y hm
    | 12, _ => cases h1; exact cw_in cw_i12 y hm
    | 13, _ => cases h1; exact cw_in cw_i13 y hm
    | 14, _ => cases h1; exact cw_in cw_i14 y hm
    | 15, _ => cases h1; exact cw_in cw_i15 y hm
    | 16, _ => cases h1; exact cw_in cw_i16 y hm
    | 17, _ => cases h1; exact cw_in cw_i17 y hm
    | 18, _ => cases h1; exact cw_in cw_i18 y hm
    | 19, _ => cases h1; exact cw_in cw_i19 y hm
    | 20, _ => cases h1; exact cw_in cw_i20 y hm
    | 21, _ =>
      cases h1
      refine cw_in cw_i21 y ?_
      have h3 : i % 16 < 10 := by omega
      have h4 : [md_336, md_337, md_338, md_339, md_340, md_341, md_342, md_343, md_344, md_345][i % 16]? = some y := by
        rw [← h]
        exact (List.getElem?_append_left (l₂ := [md_346]) (by exact h3)).symm
      exact List.mem_of_getElem? h4
/-- a method's words -/
theorem si_mw {i : Nat} {y : si_M} (h : si_m i = some y) (h12 : y.1 ≠ 12) : Cond.code y.2.1 y.2.2.1 y.2.2.2.1 y.2.2.2.2.1 ∈ lw_tbl ∧ Cond.initialized y.2.1.cls ∈ lw_tbl ∧ si_own[y.1]? = some y.2.1.cls ∧ plainFor y.2.1 = true ∧ (y.2.1.cls ≠ "java/lang/invoke/MethodHandle" ∧ y.2.1.cls ≠ "java/lang/invoke/VarHandle") ∧ (parseMethodDescriptor y.2.1.desc).map (fun d => d.parameters.length) = some y.2.2.2.2.2.2.1 ∧ y.2.2.2.1 ≤ 40 ∧ (y.2.2.2.2.2.1 = 1 → Cond.static y.2.1 ∈ lw_tbl) ∧ (y.2.2.2.2.2.1 = 2 → Cond.instanceMethod y.2.1 ∈ lw_tbl ∧ y.2.1.name = "<init>" ∧ y.2.2.2.2.1 = none) ∧ (y.2.2.2.2.2.1 = 0 → Cond.instanceMethod y.2.1 ∈ lw_tbl ∧ Cond.selects y.2.1.cls y.2.1 y.2.1 ∈ lw_tbl) := by
  have hl := si_m_lt h
  have hi : i < 346 := by
    rcases Nat.lt_or_ge i 346 with q | q
    · exact q
    · have : i = 346 := by omega
      subst this
      cases h
      exact absurd rfl h12
  refine ⟨cw_all h hi, ?_⟩
  have h1 := lk_all hl
  have h2 : lk_m y = true := by
    unfold lk_one at h1
    unfold si_m at h
    cases h3 : si_mds[i / 16]? with
    | none => rw [h3] at h; cases h
    | some r =>
      rw [h3] at h h1
      cases h4 : si_cds[i / 16]? with
      | none => rw [h4] at h1; cases h1
      | some c =>
        rw [h4] at h1
        dsimp only at h h1
        rw [h] at h1
        cases h5 : c[i % 16]? with
        | none => rw [h5] at h1; cases h1
        | some cd =>
          rw [h5] at h1
          dsimp only at h1
          rw [Bool.and_eq_true] at h1
          exact h1.1
  obtain ⟨o, nm, b, mL, rt, kd, na, ps⟩ := y
  unfold lk_m at h2
  dsimp only at h2 h12 ⊢
  rw [Bool.and_eq_true] at h2
  obtain ⟨h3, h4⟩ := h2
  cases h5 : si_own[o]? with
  | none => rw [h5] at h3; cases h3
  | some O =>
    rw [h5] at h3
    simp only [Bool.and_eq_true, decide_eq_true_eq] at h3
    obtain ⟨⟨⟨⟨⟨a1, a2⟩, a3⟩, a4⟩, a5⟩, a6⟩ := h3
    subst a1
    split at h4
    · rename_i p0 p1 p2
      simp only [Bool.and_eq_true, decide_eq_true_eq] at h4
      obtain ⟨b1, b2⟩ := h4
      refine ⟨si_at b1, rfl, a2, a3, a4, a6, ?_⟩
      split at b2
      · exact ⟨fun _ => si_at (of_decide_eq_true b2), fun z => (by cases z), fun z => (by cases z)⟩
      · simp only [Bool.and_eq_true, decide_eq_true_eq] at b2
        exact ⟨fun z => (by cases z), fun _ => ⟨si_at b2.1.1, b2.1.2, b2.2⟩, fun z => (by cases z)⟩
      · cases b2
    · rename_i p0 p1 p2 p3
      simp only [Bool.and_eq_true, decide_eq_true_eq] at h4
      obtain ⟨⟨⟨b1, b2⟩, b3⟩, b4⟩ := h4
      subst b4
      exact ⟨si_at b1, rfl, a2, a3, a4, a6, fun z => (by cases z), fun z => (by cases z), fun _ => ⟨si_at b2, si_at b3⟩⟩
    · exact absurd (of_decide_eq_true h4) h12
    · cases h4
theorem si_link {i pc : Nat} {y : si_M} {r : si_E} {O : String} (hy : si_m i = some y) (hr : si_fetch i pc = some r) (hO : si_own[y.1]? = some O) : decode y.2.2.1 pc = .ok (r.1, r.2.1) ∧ lk_e O r = true := by
  obtain ⟨-, O', h1, h2⟩ := lk_one_ok (lk_all (si_m_lt hy)) hy hr
  cases hO.symm.trans h1
  exact h2
theorem si_good {y : si_M} (h : Cond.code y.2.1 y.2.2.1 y.2.2.2.1 y.2.2.2.2.1 ∈ lw_tbl) : GoodIn si_gw (si_ws y) := by
  intro w hw
  rcases List.mem_cons.mp hw with rfl | hw
  · exact ⟨si_gw_in h rfl, good_of_word rfl⟩
  · exact ⟨hw, good_of_word (List.mem_filter.mp hw).2⟩
def si_size (sh : si_S) : Nat := match sh with
  | .inl o => o.2
  | .inr a => a.2
def si_szN (sh : Nat → si_S) : Nat → Nat
  | 0 => 0
  | n + 1 => si_szN sh n + si_size (sh n)
def si_sz (h : si_H) : Nat := si_szN h.2.1 h.1
theorem si_szN_eq {f g : Nat → si_S} : ∀ {n : Nat}, (∀ i, i < n → f i = g i) → si_szN f n = si_szN g n
  | 0, _ => rfl
  | n + 1, h => by
    show si_szN f n + si_size (f n) = si_szN g n + si_size (g n)
    rw [si_szN_eq (fun i hi => h i (by omega)), h n (by omega)]
theorem si_szN_le {f : Nat → si_S} {a : Nat} : ∀ {n : Nat}, a ≤ n → si_szN f a ≤ si_szN f n
  | 0, h => by rw [Nat.le_zero.mp h]; exact Nat.le_refl _
  | n + 1, h => by
    rcases Nat.lt_or_ge a (n + 1) with q | q
    · exact Nat.le_trans (si_szN_le (n := n) (by omega)) (Nat.le_add_right _ _)
    · rw [show a = n + 1 by omega]; exact Nat.le_refl _
/-- the heap only grows, shapes stay -/
def si_gr (h h' : si_H) : Prop := h.1 ≤ h'.1 ∧ ∀ i, i < h.1 → h'.2.1 i = h.2.1 i
theorem si_gr.rf {h : si_H} : si_gr h h := ⟨Nat.le_refl _, fun _ _ => rfl⟩
theorem si_gr.tr {a b c : si_H} (h1 : si_gr a b) (h2 : si_gr b c) : si_gr a c := ⟨Nat.le_trans h1.1 h2.1, fun i hi => (h2.2 i (Nat.lt_of_lt_of_le hi h1.1)).trans (h1.2 i hi)⟩
theorem si_gr.sz {a b : si_H} (h : si_gr a b) : si_sz a ≤ si_sz b := by
  unfold si_sz
  rw [← si_szN_eq (f := b.2.1) (g := a.2.1) h.2]
  exact si_szN_le h.1
