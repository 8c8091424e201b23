/-! THE TAPE: how much lies on it, by class and reference -/
set_option maxRecDepth 100000
theorem j01 {x : Int32} (h : x = 0 ∨ x = 1) : 0 ≤ x.toInt ∧ x.toInt ≤ 1 := by
  rcases h with rfl | rfl <;> decide
section Law2
variable {P : si_P} {d : Nat}
/-- what the law leaves: the tape is empty -/
def lwR (P : si_P) (h : si_H) (rv : Option Value) (h1 : si_H) : Prop := lwQ P h rv h1 ∧ ja h1 60 16 = 0
theorem lx_123 (hxa : P.2.1 < P.1) (hd : 6 ≤ d) {h : si_H} {q : Nat} (hq : q ≤ 16) : ∀ (n k : Nat) (h2 : si_H) (ls : si_L), k + n = q → az_HI P az_tb h2 → az_same_out jm_lw h h2 → js_1 h2 → ja h2 60 16 = 0 → ja h2 60 24 = q → ja h2 60 25 = q → (∀ j : Nat, j < q → ∃ f m t : Nat, ja h2 75 j = f ∧ ja h2 76 j = m ∧ ja h2 77 j = t ∧ f ≤ m ∧ m ≤ t ∧ t ≤ 240 ∧ jsg (ja h2 78) f m ∧ jsg (ja h2 78) m t) → (∀ j : Nat, j < k → ja h2 80 j = ja h2 75 j ∧ ja h2 81 j = ja h2 76 j ∧ ja h2 82 j = ja h2 77 j) → jR P ls 0 60 → jI ls 3 k → az_X P d 261 123 ls [] h2 (lwR P h) := by
  intro n
  induction n with
  | zero =>
    intro k h2 ls hk hH hs s1 t16 tq tc hr hc l0 l3
    apply sx_lw7 hxa (by omega) hH (k := k) (q := q) (by omega) (by omega) (by omega) tq l0 l3
    intro τ h3 rv3 e0 e1 hH3 hs3 fr3 iv3 fs3 nn3 t0 hv3
    refine ⟨⟨hH3, ⟨js_1_cg s1 (fr3 _ _ (by omega)) (fr3 _ _ (by omega)) (fr3 _ _ (by omega)) (fun k => fr3 _ _ (by omega)), ?_⟩, hs.tr hs3, q, hv3.cg (by omega), by omega, by omega⟩, (fr3 _ _ (by omega)).trans t16⟩
    have : js_2 h2 := by
      intro j hj
      obtain ⟨f, m, t, r1, r2, r3, r4, r5, r6, r7, r8⟩ := hr j (by omega)
      obtain ⟨c1, c2, c3⟩ := hc j (by omega)
      exact ⟨f, m, t, c1.trans r1, c2.trans r2, c3.trans r3, r4, r5, r6, r7, r8⟩
    exact js_2_cg this (fr3 _ _ (by omega)) (fun k => fr3 _ _ (by omega)) (fun k => fr3 _ _ (by omega)) (fun k => fr3 _ _ (by omega)) (fun k => fr3 _ _ (by omega))
  | succ n ih =>
    intro k h2 ls hk hH hs s1 t16 tq tc hr hc l0 l3
    have b : ∀ i : Nat, jrow i = some (16, -2147483648, 2147483647) → -2147483648 ≤ ja h2 i k ∧ ja h2 i k ≤ 2147483647 := fun i hi => ja_row hH (i := i) hi (k := (k : Int)) (by omega) (by show (k : Int) < (16 : Nat); omega)
    apply sx_lw6 hxa (by omega) hH (k := k) (q := q) (a := ja h2 74 k) (b := ja h2 75 k) (m := ja h2 76 k) (t := ja h2 77 k) (by omega) (by omega) (b 74 rfl) (b 75 rfl) (b 76 rfl) (b 77 rfl) (by omega) tq rfl (by omega) rfl (by omega) rfl (by omega) rfl (by omega) l0 l3
    intro τ h3 ls3 e0 e1 e2 e3 e4 e5 hH3 hs3 fr3 iv3 fs3 nn3 t0 t1 t2 t3 t4 t5 t6 t7 t8 m3 m0
    have g : ∀ i : Nat, i ≠ 79 → i ≠ 80 → i ≠ 81 → i ≠ 82 → ∀ j : Int, 0 ≤ j → ja h3 i j = ja h2 i j := fun i h1 h2' h4 h5 j hj => fr3 i j hj (by omega) (by omega) (by omega) (by omega)
    have g2 : ∀ i : Nat, ∀ j : Nat, j ≠ k → ja h3 i j = ja h2 i j := fun i j hj => fr3 i j (by omega) (by omega) (by omega) (by omega) (by omega)
    refine ih (k + 1) h3 ls3 (by omega) hH3 (hs.tr hs3) (js_1_cg s1 (g 60 (by omega) (by omega) (by omega) (by omega) _ (by omega)) (g 60 (by omega) (by omega) (by omega) (by omega) _ (by omega)) (g 60 (by omega) (by omega) (by omega) (by omega) _ (by omega)) (fun j => g 68 (by omega) (by omega) (by omega) (by omega) _ (by omega))) ((g 60 (by omega) (by omega) (by omega) (by omega) _ (by omega)).trans t16) ((g 60 (by omega) (by omega) (by omega) (by omega) _ (by omega)).trans tq) ((g 60 (by omega) (by omega) (by omega) (by omega) _ (by omega)).trans tc) ?_ ?_ m0 (m3.cg (by omega))
    · intro j hj
      obtain ⟨f, m, t, r1, r2, r3, r4, r5, r6, r7, r8⟩ := hr j hj
      have e78 : ∀ i : Nat, ja h3 78 i = ja h2 78 i := fun i => g 78 (by omega) (by omega) (by omega) (by omega) i (by omega)
      exact ⟨f, m, t, (g 75 (by omega) (by omega) (by omega) (by omega) j (by omega)).trans r1, (g 76 (by omega) (by omega) (by omega) (by omega) j (by omega)).trans r2, (g 77 (by omega) (by omega) (by omega) (by omega) j (by omega)).trans r3, r4, r5, r6, jsg_cg r7 r4 (fun i _ => e78 i), jsg_cg r8 r5 (fun i _ => e78 i)⟩
    · intro j hj
      rcases Nat.lt_or_ge j k with h4 | h4
      · rw [g2 80 j (by omega), g2 81 j (by omega), g2 82 j (by omega), g2 75 j (by omega), g2 76 j (by omega), g2 77 j (by omega)]
        exact hc j h4
      · have : j = k := by omega
        subst this
        rw [t0 j (by omega), t1 j (by omega), t2 j (by omega), t6 j (by omega), t7 j (by omega), t8 j (by omega)]
        exact ⟨rfl, rfl, rfl⟩
theorem lx_95 (hxa : P.2.1 < P.1) (hd : 6 ≤ d) {h : si_H} {q c : Nat} (hq : q ≤ 16) (hc : c ≤ 240) : ∀ (n k : Nat) (h2 : si_H) (ls : si_L), k + n = c → az_HI P az_tb h2 → az_same_out jm_lw h h2 → js_1 h2 → ja h2 60 16 = 0 → ja h2 60 24 = q → ja h2 60 25 = q → ja h2 60 22 = c → (∀ j : Nat, j < q → ∃ f m t : Nat, ja h2 75 j = f ∧ ja h2 76 j = m ∧ ja h2 77 j = t ∧ f ≤ m ∧ m ≤ t ∧ t ≤ c ∧ jsg (ja h2 72) f m ∧ jsg (ja h2 72) m t) → (∀ j : Nat, j < k → ja h2 78 j = ja h2 72 j) → jR P ls 0 60 → jI ls 3 k → az_X P d 261 95 ls [] h2 (lwR P h) := by
  intro n
  induction n with
  | zero =>
    intro k h2 ls hk hH hs s1 t16 tq tcl tc hr hcp l0 l3
    have b := ja_row hH (i := 72) rfl (k := (k : Int)) (by omega) (by show (k : Int) < (260 : Nat); omega)
    have b1 : -2147483648 ≤ ja h2 72 k := b.1
    have b2 : ja h2 72 k ≤ 2147483647 := b.2
    apply sx_lw5 hxa (by omega) hH (k := k) (c := c) (s := ja h2 72 k) (by omega) (by omega) ⟨b1, b2⟩ (by omega) tc rfl (by omega) l0 l3
    · intro τ h3 ls3 e0 e1 e2 hH3 hs3 fr3 iv3 fs3 nn3 t0 t1 m3 m0
      refine lx_123 hxa hd hq q 0 h3 ls3 (by omega) hH3 (hs.tr hs3) (js_1_cg s1 (fr3 _ _ (by omega)) (fr3 _ _ (by omega)) (fr3 _ _ (by omega)) (fun k => fr3 _ _ (by omega))) ((fr3 _ _ (by omega)).trans t16) ((fr3 _ _ (by omega)).trans tq) ((fr3 _ _ (by omega)).trans tcl) ?_ (fun j hj => absurd hj (by omega)) m0 m3
      intro j hj
      obtain ⟨f, m, t, r1, r2, r3, r4, r5, r6, r7, r8⟩ := hr j hj
      have e78 : ∀ i : Nat, i < c → ja h3 78 i = ja h2 72 i := fun i hi => (fr3 78 i (by omega)).trans (hcp i (by omega))
      exact ⟨f, m, t, (fr3 75 j (by omega)).trans r1, (fr3 76 j (by omega)).trans r2, (fr3 77 j (by omega)).trans r3, r4, r5, by omega, jsg_cg r7 r4 (fun i hi => e78 i (by omega)), jsg_cg r8 r5 (fun i hi => e78 i (by omega))⟩
    · intro τ h3 ls3 e0 e1 e2 hH3 hs3 fr3 iv3 fs3
      exfalso
      omega
  | succ n ih =>
    intro k h2 ls hk hH hs s1 t16 tq tcl tc hr hcp l0 l3
    have b := ja_row hH (i := 72) rfl (k := (k : Int)) (by omega) (by show (k : Int) < (260 : Nat); omega)
    have b1 : -2147483648 ≤ ja h2 72 k := b.1
    have b2 : ja h2 72 k ≤ 2147483647 := b.2
    apply sx_lw5 hxa (by omega) hH (k := k) (c := c) (s := ja h2 72 k) (by omega) (by omega) ⟨b1, b2⟩ (by omega) tc rfl (by omega) l0 l3
    · intro τ h3 ls3 e0 e1 e2 hH3 hs3 fr3 iv3 fs3
      exfalso
      omega
    · intro τ h3 ls3 e0 e1 e2 hH3 hs3 fr3 iv3 fs3 nn3 t0 t1 t2 m3 m0
      have g : ∀ i : Nat, i ≠ 78 → ∀ j : Int, 0 ≤ j → ja h3 i j = ja h2 i j := fun i h1 j hj => fr3 i j hj (by omega)
      have g72 : ∀ i : Nat, ja h3 72 i = ja h2 72 i := fun i => g 72 (by omega) i (by omega)
      refine ih (k + 1) h3 ls3 (by omega) hH3 (hs.tr hs3) (js_1_cg s1 (g 60 (by omega) _ (by omega)) (g 60 (by omega) _ (by omega)) (g 60 (by omega) _ (by omega)) (fun k => g 68 (by omega) _ (by omega))) ((g 60 (by omega) _ (by omega)).trans t16) ((g 60 (by omega) _ (by omega)).trans tq) ((g 60 (by omega) _ (by omega)).trans tcl) ((g 60 (by omega) _ (by omega)).trans tc) (jrl_rules hr (Nat.le_refl _) (fun j _ => g 75 (by omega) j (by omega)) (fun j _ => g 76 (by omega) j (by omega)) (fun j _ => g 77 (by omega) j (by omega)) (fun k _ => g72 k)) ?_ m0 (m3.cg (by omega))
      intro j hj
      rw [g72]
      rcases Nat.lt_or_ge j k with h4 | h4
      · rw [fr3 78 j (by omega) (by omega)]; exact hcp j h4
      · rw [show j = k from by omega]; exact (t0 k (by omega)).trans (by omega)
/-- behind all rules -/
theorem lx_71 (hxa : P.2.1 < P.1) (hd : 6 ≤ d) {h h2 : si_H} {ls : si_L} (hH : az_HI P az_tb h2) (hs : az_same_out jm_l1 h h2) (s : js_J h) {z : Int} (hz : (z = 0 ∧ -20000 ≤ ja h2 60 19 ∧ ja h2 60 19 ≤ 16) ∨ (z = 1 ∧ ∃ (h1 : si_H) (l q c p : Nat), l ≤ 240 ∧ jrl P h1 l h2 q c p)) (l0 : jR P ls 0 60) (l2 : jI ls 2 z) : az_X P d 261 71 ls [] h2 (lwR P h) := by
  have hv := ja_bd hH (i := 60) (k := 19) rfl
  have hv1 : -2147483648 ≤ ja h2 60 19 := hv.1
  have hv2 : ja h2 60 19 ≤ 2147483647 := hv.2
  have hq := ja_bd hH (i := 60) (k := 24) rfl
  have hq1 : 0 ≤ ja h2 60 24 := hq.1
  have hq2 : ja h2 60 24 ≤ 16 := hq.2
  have s2 : js_J h2 := ⟨js_1_so hs (by decide) (by decide) (by decide) (by decide) s.1, js_2_so hs (by decide) (by decide) (by decide) (by decide) (by decide) s.2⟩
  have hs' : az_same_out jm_lw h h2 := hs.sub (by decide)
  apply sx_lw4 hxa (by omega) hH (z := z) (v := ja h2 60 19) (q := ja h2 60 24) (by omega) ⟨hv1, hv2⟩ ⟨hq1, hq2⟩ rfl rfl l0 l2
  · intro τ h3 ls3 e0 e1 e2 hH3 hs3 fr3 iv3 fs3 nn3 t0 t1 t2 t3 m3 m0 m2
    rcases hz with hz | ⟨hz, h1, l, q, c, p, hl, r⟩
    · exfalso
      omega
    · obtain ⟨r1, r2, r3, r4, r5, r6, r7, r8, r9⟩ := r
      have g : ∀ i : Nat, i ≠ 60 → ∀ j : Int, 0 ≤ j → ja h3 i j = ja h2 i j := fun i h1 j hj => fr3 i j hj (by omega) (by omega)
      have g60 : ∀ j : Int, 0 ≤ j → j ≠ 16 → j ≠ 25 → ja h3 60 j = ja h2 60 j := fun j hj h4 h5 => fr3 60 j hj (by omega) (by omega)
      refine lx_95 hxa hd r6 (by omega) c 0 h3 ls3 (by omega) hH3 (hs'.tr hs3) (js_1_cg s2.1 (g60 _ (by omega) (by omega) (by omega)) (g60 _ (by omega) (by omega) (by omega)) (g60 _ (by omega) (by omega) (by omega)) (fun k => g 68 (by omega) _ (by omega))) (t1 16 rfl) ((g60 _ (by omega) (by omega) (by omega)).trans r3) ((t0 25 rfl).trans (by omega)) ((g60 _ (by omega) (by omega) (by omega)).trans r4) (jrl_rules r9 (Nat.le_refl _) (fun j _ => g 75 (by omega) j (by omega)) (fun j _ => g 76 (by omega) j (by omega)) (fun j _ => g 77 (by omega) j (by omega)) (fun k _ => g 72 (by omega) k (by omega))) (fun j hj => absurd hj (by omega)) m0 m3
  · intro τ h3 rv3 e0 e1 e2 hH3 hs3 fr3 iv3 fs3 nn3 t0 t1 t2 hv3
    rcases hz with hz | ⟨hz, -⟩
    · refine ⟨⟨hH3, ⟨?_, ?_⟩, hs'.tr hs3, _, hv3, by omega, by omega⟩, t0 16 rfl⟩
      · exact js_1_cg s2.1 (fr3 _ _ (by omega) (by omega)) (fr3 _ _ (by omega) (by omega)) (fr3 _ _ (by omega) (by omega)) (fun k => fr3 _ _ (by omega) (by omega))
      · exact js_2_cg s2.2 (fr3 _ _ (by omega) (by omega)) (fun k => fr3 _ _ (by omega) (by omega)) (fun k => fr3 _ _ (by omega) (by omega)) (fun k => fr3 _ _ (by omega) (by omega)) (fun k => fr3 _ _ (by omega) (by omega))
    · exfalso
      omega
theorem lx_31 (hxa : P.2.1 < P.1) (hd : 6 ≤ d) {h h1 : si_H} {l : Nat} (hl : l ≤ 240) (tl : ja h1 60 18 = l) (hs1 : az_same_out jm_l1 h h1) (s : js_J h) : ∀ (n : Nat) (h2 : si_H) (ls : si_L) (z : Int), az_HI P az_tb h2 → az_same_out jm_rr h1 h2 → ((z = 0 ∧ -20000 ≤ ja h2 60 19 ∧ ja h2 60 19 ≤ 16) ∨ (z = 1 ∧ ∃ q c p : Nat, l ≤ p + n ∧ jrl P h1 l h2 q c p)) → jR P ls 0 60 → jI ls 2 z → az_X P (d + 6) 261 31 ls [] h2 (lwR P h) := by
  intro n
  have fin : ∀ (h2 h3 : si_H) (ls3 : si_L) (z : Int), az_HI P az_tb h3 → az_same_out jm_rr h1 h2 → az_same_out jm_rr h2 h3 → (∀ (i : Nat) (k : Int), 0 ≤ k → ja h3 i k = ja h2 i k) → ((z = 0 ∧ -20000 ≤ ja h2 60 19 ∧ ja h2 60 19 ≤ 16) ∨ (z = 1 ∧ ∃ q c p : Nat, jrl P h1 l h2 q c p)) → jR P ls3 0 60 → jI ls3 2 z → az_X P (d + 6) 261 71 ls3 [] h3 (lwR P h) := by
    intro h2 h3 ls3 z hH3 hs2 hs3 fr3 hz m0 m2
    refine lx_71 hxa (by omega) hH3 ((hs1.tr (hs2.sub (by decide))).tr (hs3.sub (by decide))) s (z := z) ?_ m0 m2
    rcases hz with ⟨z1, z2, z3⟩ | ⟨z1, q, c, p, r1, r2, r3, r4, r5, r6, r7, r8, r9⟩
    · exact Or.inl ⟨z1, by rw [fr3 _ _ (by omega)]; exact z2, by rw [fr3 _ _ (by omega)]; exact z3⟩
    · refine Or.inr ⟨z1, h3, l, q, c, p, hl, hH3, az_same_out.rf, (fr3 _ _ (by omega)).trans r3, (fr3 _ _ (by omega)).trans r4, (fr3 _ _ (by omega)).trans r5, r6, r7, r8, jrl_rules r9 (Nat.le_refl _) (fun j _ => fr3 75 j (by omega)) (fun j _ => fr3 76 j (by omega)) (fun j _ => fr3 77 j (by omega)) (fun k _ => fr3 72 k (by omega))⟩
  have zer : ∀ (h2 : si_H) (ls : si_L) (z : Int), az_HI P az_tb h2 → az_same_out jm_rr h1 h2 → (z = 0 ∧ -20000 ≤ ja h2 60 19 ∧ ja h2 60 19 ≤ 16) → jR P ls 0 60 → jI ls 2 z → az_X P (d + 6) 261 31 ls [] h2 (lwR P h) := by
    intro h2 ls z hH hs2 hz l0 l2
    apply sx_lwz hxa (by omega) hH l0 (l2.cg hz.1)
    intro τ h3 ls3 hH3 hs3 fr3 iv3 fs3 nn3 m0 m2
    exact fin h2 h3 ls3 0 hH3 hs2 hs3 fr3 (Or.inl ⟨rfl, hz.2⟩) m0 m2
  induction n with
  | zero =>
    intro h2 ls z hH hs2 hz l0 l2
    rcases hz with hz | ⟨hz, q, c, p, hn, r⟩
    · exact zer h2 ls z hH hs2 hz l0 l2
    · have tl2 : ja h2 60 18 = l := (jso hs2 rfl).trans tl
      have hpl := r.2.2.2.2.2.2.2.1
      apply sx_lw2 hxa (d := d + 5) (by omega) hH (z := z) (p := p) (l := l) (by omega) (by omega) (by omega) (by omega) r.2.2.2.2.1 tl2 l0 l2
      all_goals first
        | (intro τ h3 ls3 e0 e1 e2 hH3 hs3 fr3 iv3 fs3 nn3 t0 t1 m0 m2
           exact fin h2 h3 ls3 z hH3 hs2 hs3 fr3 (Or.inr ⟨hz, q, c, p, r⟩) m0 (m2.cg (by omega)))
        | (intro τ h3 ls3 e0 e1 e2 hH3 hs3 fr3 iv3 fs3
           exfalso
           omega)
        | (intro τ h3 ls3 as3 e0 e1 e2 hH3 hs3 fr3 iv3 fs3
           exfalso
           omega)
  | succ n ih =>
    intro h2 ls z hH hs2 hz l0 l2
    rcases hz with hz | ⟨hz, q, c, p, hn, r⟩
    · exact zer h2 ls z hH hs2 hz l0 l2
    · have tl2 : ja h2 60 18 = l := (jso hs2 rfl).trans tl
      have hpl := r.2.2.2.2.2.2.2.1
      apply sx_lw2 hxa (d := d + 5) (by omega) hH (z := z) (p := p) (l := l) (by omega) (by omega) (by omega) (by omega) r.2.2.2.2.1 tl2 l0 l2
      all_goals first
        | (intro τ h3 ls3 e0 e1 e2 hH3 hs3 fr3 iv3 fs3 nn3 t0 t1 m0 m2
           exact fin h2 h3 ls3 z hH3 hs2 hs3 fr3 (Or.inr ⟨hz, q, c, p, r⟩) m0 (m2.cg (by omega)))
        | (intro τ h3 ls3 e0 e1 e2 hH3 hs3 fr3 iv3 fs3 nn3 t0 t1 t2 t3 m2 m0
           exact ih h3 ls3 0 hH3 (hs2.tr hs3) (Or.inl ⟨rfl, by rw [t0 19 rfl]; omega⟩) m0 m2)
        | (intro τ h3 ls3 as3 e0 e1 e2 hH3 hs3 fr3 iv3 fs3 nn3 t0 t1 t2 m0 m2 m3
           obtain ⟨r1, r2, r3, r4, r5, r6, r7, r8, r9⟩ := r
           have g : ∀ i : Nat, i ≠ 60 → ∀ j : Int, 0 ≤ j → ja h3 i j = ja h2 i j := fun i h1 j hj => fr3 i j hj (by omega)
           have y : jrl P h1 l h3 q c (p + 1) := ⟨hH3, r2.tr hs3, (fr3 60 24 (by omega) (by omega)).trans r3, (fr3 60 22 (by omega) (by omega)).trans r4, (t0 17 rfl).trans (by omega), r6, by omega, by omega, jrl_rules r9 (Nat.le_refl _) (fun j _ => g 75 (by omega) j (by omega)) (fun j _ => g 76 (by omega) j (by omega)) (fun j _ => g 77 (by omega) j (by omega)) (fun k _ => g 72 (by omega) k (by omega))⟩
           refine (readsRule_ok hxa hd hl tl (p0 := p + 1) (Nat.le_refl _) y m3).mono ?_
           rintro rv4 h4 ⟨q1, q2, q3⟩
           rcases q3 with q3 | ⟨q4, q', c', p', x1, x2⟩
           · apply sx_lw3 hxa (by omega) q1 (z := 0) (by omega) m0 q3.1
             · intro τ5 h5 ls5 e0 hH5 hs5 fr5 iv5 fs5 nn5 o2 o0
               exact ih h5 ls5 0 hH5 (q2.tr hs5) (Or.inl ⟨rfl, by rw [fr5 _ _ (by omega)]; exact q3.2⟩) o0 o2
             · intro τ5 h5 ls5 e0 hH5 hs5 fr5 iv5
               exfalso
               omega
           · apply sx_lw3 hxa (by omega) q1 (z := 1) (by omega) m0 q4
             · intro τ5 h5 ls5 e0 hH5 hs5 fr5 iv5
               exfalso
               omega
             · intro τ5 h5 ls5 e0 hH5 hs5 fr5 iv5 fs5 nn5 o2 o0
               obtain ⟨u1, u2, u3, u4, u5, u6, u7, u8, u9⟩ := x2
               exact ih h5 ls5 1 hH5 (q2.tr hs5) (Or.inr ⟨rfl, q', c', p', by omega, hH5, u2.tr hs5, (fr5 _ _ (by omega)).trans u3, (fr5 _ _ (by omega)).trans u4, (fr5 _ _ (by omega)).trans u5, u6, u7, u8, jrl_rules u9 (Nat.le_refl _) (fun j _ => fr5 75 j (by omega)) (fun j _ => fr5 76 j (by omega)) (fun j _ => fr5 77 j (by omega)) (fun k _ => fr5 72 k (by omega))⟩) o0 o2)
theorem lx_ok (hxa : P.2.1 < P.1) (hd : 6 ≤ d) {h : si_H} {ls : si_L} {n : Int} (hn : -2147483648 ≤ n ∧ n ≤ 2147483647) (hH : az_HI P az_tb h) (s : js_J h) (l0 : jR P ls 0 60) (l1 : jI ls 1 n) : az_X P (d + 6) 261 0 ls [] h (fun rv h1 => lwQ P h rv h1 ∧ (((1 ≤ n ∧ n ≤ 240 ∧ n ≤ ja h 60 16) ∧ ja h1 60 16 = 0) ∨ (¬ (1 ≤ n ∧ n ≤ 240 ∧ n ≤ ja h 60 16) ∧ ja h1 60 16 = ja h 60 16))) := by
  have ht := ja_bd hH (i := 60) (k := 16) rfl
  have ht1 : 0 ≤ ja h 60 16 := ht.1
  have ht2 : ja h 60 16 ≤ 260 := ht.2
  have hret : ∀ (h2 : si_H) (rv : Option Value), az_HI P az_tb h2 → az_same_out jm_l1 h h2 → jV rv (-1) → lwQ P h rv h2 := fun h2 rv hH2 hs hv => ⟨hH2, ⟨js_1_so hs (by decide) (by decide) (by decide) (by decide) s.1, js_2_so hs (by decide) (by decide) (by decide) (by decide) (by decide) s.2⟩, hs.sub (by decide), -1, hv, by omega, by omega⟩
  apply sx_lw0 hxa (d := d + 5) (by omega) hH (n := n) (t := ja h 60 16) hn ⟨ht1, ht2⟩ rfl l0 l1
  all_goals first
    | (intro τ h2 rv2 e0 e1 hH2 hs2 fr2 iv2 fs2 nn2 t0 hv2
       exact ⟨hret h2 rv2 hH2 hs2 hv2, Or.inr ⟨by omega, (t0 16 rfl).trans (by omega)⟩⟩)
    | (intro τ h2 ls2 as2 e0 e1 hH2 hs2 fr2 iv2 fs2 nn2 t0 t1 t2 t3 t4 m0 m1 m2
       obtain ⟨l, hl⟩ : ∃ l : Nat, (l : Int) = n := ⟨n.toNat, by omega⟩
       have tl : ja h2 60 18 = l := (t2 18 rfl).trans (by omega)
       have y : jrl P h2 l h2 0 0 0 := ⟨hH2, az_same_out.rf, t0 24 rfl, t1 22 rfl, t3 17 rfl, by omega, by omega, by omega, fun j hj => absurd hj (by omega)⟩
       have hfin : ∀ (rv : Option Value) (h1 : si_H), lwR P h rv h1 → (lwQ P h rv h1 ∧ (((1 ≤ n ∧ n ≤ 240 ∧ n ≤ ja h 60 16) ∧ ja h1 60 16 = 0) ∨ (¬ (1 ≤ n ∧ n ≤ 240 ∧ n ≤ ja h 60 16) ∧ ja h1 60 16 = ja h 60 16))) := fun rv h1 q => ⟨q.1, Or.inl ⟨by omega, q.2⟩⟩
       refine (readsRule_ok hxa hd (by omega) tl (p0 := 0) (Nat.le_refl _) y m2).mono ?_
       rintro rv4 h4 ⟨q1, q2, q3⟩
       rcases q3 with q3 | ⟨q4, q', c', p', x1, x2⟩
       · apply sx_lw1 hxa (by omega) q1 (z := 0) (by omega) m0 q3.1
         intro τ5 h5 ls5 e0 hH5 hs5 fr5 iv5 fs5 nn5 o2 o0
         exact (lx_31 hxa hd (by omega) tl hs2 s l h5 ls5 0 hH5 (q2.tr hs5) (Or.inl ⟨rfl, by rw [fr5 _ _ (by omega)]; exact q3.2⟩) o0 (o2.cg (by omega))).mono hfin
       · apply sx_lw1 hxa (by omega) q1 (z := 1) (by omega) m0 q4
         intro τ5 h5 ls5 e0 hH5 hs5 fr5 iv5 fs5 nn5 o2 o0
         obtain ⟨u1, u2, u3, u4, u5, u6, u7, u8, u9⟩ := x2
         exact (lx_31 hxa hd (by omega) tl hs2 s l h5 ls5 1 hH5 (q2.tr hs5) (Or.inr ⟨rfl, q', c', p', by omega, hH5, u2.tr hs5, (fr5 _ _ (by omega)).trans u3, (fr5 _ _ (by omega)).trans u4, (fr5 _ _ (by omega)).trans u5, u6, u7, u8, jrl_rules u9 (Nat.le_refl _) (fun j _ => fr5 75 j (by omega)) (fun j _ => fr5 76 j (by omega)) (fun j _ => fr5 77 j (by omega)) (fun k _ => fr5 72 k (by omega))⟩) o0 (o2.cg (by omega))).mono hfin)
end Law2
theorem ct_law1_ok {P : si_P} (hxa : P.2.1 < P.1) {d : Nat} (hd : 20 ≤ d) {h : si_H} (a0 : Int32) (hH : az_HI P az_tb h) (hJ : js_J h) : az_X P d 261 0 (lv_args 0 [.ref (P.1 + 60), .int a0]) [] h (fun rv h1 => ∃ w : Int32, rv = some (.int w) ∧ az_HI P az_tb h1 ∧ js_J h1 ∧ az_same_out jm_lw h h1 ∧ (((1 ≤ a0.toInt ∧ a0.toInt ≤ 240 ∧ a0.toInt ≤ ja h 60 16) ∧ ja h1 60 16 = 0) ∨ (¬ (1 ≤ a0.toInt ∧ a0.toInt ≤ 240 ∧ a0.toInt ≤ ja h 60 16) ∧ ja h1 60 16 = ja h 60 16))) := by
  obtain ⟨d', rfl⟩ : ∃ d', d = d' + 6 := ⟨d - 6, by omega⟩
  refine (lx_ok hxa (by omega) (n := a0.toInt) (jF32 a0) hH hJ (ls := lv_args 0 [.ref (P.1 + 60), .int a0]) rfl ⟨a0, rfl, rfl⟩).mono ?_
  rintro rv h1 ⟨⟨z1, z2, z3, z, ⟨w, rfl, -⟩, -⟩, q⟩
  exact ⟨w, rfl, z1, z2, z3, q⟩
def cq_add : az_Ct := (140, ([((-2147483648), 2147483647), (0, 256)], [], [], [(12, ([], 1), ([(1, 1)], 0))]), [.inr (.inr (.inl 12)), .inl ([(0, 1)], 0)], [(([((-2147483648), 2147483647), (0, 256)], [], [], [(12, ([], 1), ([(1, 1)], 4))]), none)], [(12, 1), (13, 1000000)], 0)
def cv_add : List az_Cut := []
theorem ck_cq_add : az_chk az_tb [] cq_add cv_add az_inl az_spl [(12, 1), (13, 1000000)] 102 = true := by decide +kernel
theorem ok_cq_add {P : si_P} (hxa : P.2.1 < P.1) : az_ok js_J P az_tb cq_add ∧ az_wfct cq_add = true := az_chk_ok az_tb_ok hxa (az_dj_ok js_fr (by decide)) az_fn ck_cq_add
def cq_feed0 : az_Ct := (145, ([((-2147483648), 2147483647), ((-2147483648), 2147483647), ((-2147483648), 2147483647), ((-2147483648), 2147483647), ((-2147483648), 2147483647), (0, 260)], [], [], [(12, ([], 1), ([(5, 1)], 0))]), [.inr (.inr (.inl 0)), .inl ([(0, 1)], 0), .inl ([(1, 1)], 0), .inl ([(2, 1)], 0), .inl ([(3, 1)], 0), .inl ([(4, 1)], 0)], [(([((-2147483648), 2147483647), ((-2147483648), 2147483647), ((-2147483648), 2147483647), ((-2147483648), 2147483647), ((-2147483648), 2147483647), (0, 260)], [([(5, (-1))], 240)], [], [(12, ([], 1), ([(5, 1)], 20))]), some (.inl ([(5, 1)], 20))), (([((-2147483648), 2147483647), ((-2147483648), 2147483647), ((-2147483648), 2147483647), ((-2147483648), 2147483647), ((-2147483648), 2147483647), (0, 260)], [([(5, 1)], (-241))], [], [(12, ([], 1), ([(5, 1)], 0))]), some (.inl ([], (-1))))], [(12, 1), (13, 1000000)], 1)
def cv_feed0 : List az_Cut := []
theorem ck_cq_feed0 : az_chk az_tb [cq_add] cq_feed0 cv_feed0 az_inl (az_spl ++ [(145, 9)]) [] 42 = true := by decide +kernel
theorem ok_cq_feed0 {P : si_P} (hxa : P.2.1 < P.1) : az_ok js_J P az_tb cq_feed0 ∧ az_wfct cq_feed0 = true := az_chk_ok az_tb_ok hxa (az_dj_ok js_fr (by decide)) (az_fc (ok_cq_add hxa) az_fn) ck_cq_feed0
def cq_feed1 : az_Ct := (238, ([((-2147483648), 2147483647), ((-2147483648), 2147483647), ((-2147483648), 2147483647), ((-2147483648), 2147483647), ((-2147483648), 2147483647), (0, 260)], [], [], [(60, ([], 16), ([(5, 1)], 0))]), [.inr (.inr (.inl 60)), .inl ([(0, 1)], 0), .inl ([(1, 1)], 0), .inl ([(2, 1)], 0), .inl ([(3, 1)], 0), .inl ([(4, 1)], 0)], [(([((-2147483648), 2147483647), ((-2147483648), 2147483647), ((-2147483648), 2147483647), ((-2147483648), 2147483647), ((-2147483648), 2147483647), (0, 260)], [([(5, 1)], (-241))], [], [(60, ([], 16), ([(5, 1)], 0))]), some (.inl ([], (-1)))), (([((-2147483648), 2147483647), ((-2147483648), 2147483647), ((-2147483648), 2147483647), ((-2147483648), 2147483647), ((-2147483648), 2147483647), (0, 260)], [([(5, (-1))], 240)], [], [(60, ([], 16), ([(5, 1)], 20))]), some (.inl ([(5, 1)], 20)))], [(60, 16), (71, 1000000)], 1)
def cv_feed1 : List az_Cut := []
theorem ck_cq_feed1 : az_chk az_tb [] cq_feed1 cv_feed1 az_inl az_spl [(60, 16), (71, 1000000)] 470 = true := by decide +kernel
theorem ok_cq_feed1 {P : si_P} (hxa : P.2.1 < P.1) : az_ok js_J P az_tb cq_feed1 ∧ az_wfct cq_feed1 = true := az_chk_ok az_tb_ok hxa (az_dj_ok js_fr (by decide)) az_fn ck_cq_feed1
def cq_law0 : az_Ct := (146, ([((-2147483648), 2147483647), (0, 260)], [], [], [(12, ([], 1), ([(1, 1)], 0))]), [.inr (.inr (.inl 0)), .inl ([(0, 1)], 0)], [(([((-2147483648), 2147483647), (0, 260), ((-7000), 16)], [([(0, 1)], (-1)), ([(0, (-1))], 240), ([(0, (-1)), (1, 1)], 0)], [], [(12, ([], 1), ([], 0))]), some (.inl ([(2, 1)], 0))), (([((-2147483648), 2147483647), (0, 260)], [([(0, 1)], (-1)), ([(0, (-1))], 240), ([(1, (-1)), (0, 1)], (-1))], [], [(12, ([], 1), ([(1, 1)], 0))]), some (.inl ([], (-1)))), (([((-2147483648), 2147483647), (0, 260)], [([(0, 1)], (-1)), ([(0, 1)], (-241))], [], [(12, ([], 1), ([(1, 1)], 0))]), some (.inl ([], (-1)))), (([((-2147483648), 2147483647), (0, 260)], [([(0, (-1))], 240), ([(0, (-1))], 0), ([(0, (-1)), (1, 1)], 0)], [], [(12, ([], 1), ([(1, 1)], 0))]), some (.inl ([], (-1))))], [(0, 15), (0, 16), (12, 1), (14, 1), (14, 2), (14, 3), (35, 6), (35, 7), (36, 1000000), (37, 1000000), (38, 1000000), (39, 1000000), (40, 1000000), (42, 6), (42, 7), (43, 1000000), (44, 1000000), (45, 1000000), (46, 1000000), (47, 1000000)], 24)
def cv_law0 : List az_Cut := []
theorem ck_cq_law0 : az_chk az_tb [ct_X5_read_48, ct_X5_read_91] cq_law0 cv_law0 az_inl (az_spl ++ [(146, 8)]) [(0, 15), (0, 16), (12, 1), (14, 1), (14, 2), (14, 3)] 68 = true := by decide +kernel
theorem ok_cq_law0 {P : si_P} (hxa : P.2.1 < P.1) : az_ok js_J P az_tb cq_law0 ∧ az_wfct cq_law0 = true := az_chk_ok az_tb_ok hxa (az_dj_ok js_fr (by decide)) (az_fc (ok_X5_read_48 hxa js_fr) (az_fc (ok_X5_read_91 hxa js_fr) az_fn)) ck_cq_law0
def cq_clocks0 : az_Ct := (147, ([((-2147483648), 2147483647), (0, 260)], [], [], [(12, ([], 1), ([(1, 1)], 0))]), [.inr (.inr (.inl 0)), .inl ([(0, 1)], 0)], [(([((-2147483648), 2147483647), (0, 260), ((-7000), 9)], [([(0, 1)], (-1)), ([(0, (-1))], 120), ([(0, (-1)), (1, 1)], 0)], [], [(12, ([], 1), ([], 0))]), some (.inl ([(2, 1)], 0))), (([((-2147483648), 2147483647), (0, 260)], [([(0, 1)], (-1)), ([(0, (-1))], 120), ([(1, (-1)), (0, 1)], (-1))], [], [(12, ([], 1), ([(1, 1)], 0))]), some (.inl ([], (-1)))), (([((-2147483648), 2147483647), (0, 260)], [([(0, 1)], (-1)), ([(0, 1)], (-121))], [], [(12, ([], 1), ([(1, 1)], 0))]), some (.inl ([], (-1)))), (([((-2147483648), 2147483647), (0, 260)], [([(0, (-1))], 120), ([(0, (-1))], 0), ([(0, (-1)), (1, 1)], 0)], [], [(12, ([], 1), ([(1, 1)], 0))]), some (.inl ([], (-1))))], [(12, 1), (14, 1), (14, 2), (14, 3), (17, 1000000), (18, 1000000), (19, 1000000), (20, 1000000), (27, 1000000), (28, 1000000), (29, 1000000), (30, 1000000)], 5)
def cv_clocks0 : List az_Cut := []
theorem ck_cq_clocks0 : az_chk az_tb [ct_X3_copyClocks_102, ct_X3_read_100] cq_clocks0 cv_clocks0 az_inl (az_spl ++ [(147, 7)]) [(12, 1), (14, 1), (14, 2), (14, 3)] 63 = true := by decide +kernel
theorem ok_cq_clocks0 {P : si_P} (hxa : P.2.1 < P.1) : az_ok js_J P az_tb cq_clocks0 ∧ az_wfct cq_clocks0 = true := az_chk_ok az_tb_ok hxa (az_dj_ok js_fr (by decide)) (az_fc (ok_X3_copyClocks_102 hxa js_fr) (az_fc (ok_X3_read_100 hxa js_fr) az_fn)) ck_cq_clocks0
def cq_clocks1 : az_Ct := (269, ([((-2147483648), 2147483647), (0, 260)], [], [], [(60, ([], 16), ([(1, 1)], 0))]), [.inr (.inr (.inl 60)), .inl ([(0, 1)], 0)], [(([((-2147483648), 2147483647), (0, 260)], [([(0, 1)], (-1)), ([(0, (-1))], 120), ([(1, (-1)), (0, 1)], (-1))], [], [(60, ([], 16), ([(1, 1)], 0))]), some (.inl ([], (-1)))), (([((-2147483648), 2147483647), (0, 260)], [([(0, 1)], (-1)), ([(0, 1)], (-121))], [], [(60, ([], 16), ([(1, 1)], 0))]), some (.inl ([], (-1)))), (([((-2147483648), 2147483647), (0, 260)], [([(0, (-1))], 120), ([(0, (-1))], 0), ([(0, (-1)), (1, 1)], 0)], [], [(60, ([], 16), ([(1, 1)], 0))]), some (.inl ([], (-1)))), (([((-2147483648), 2147483647), (0, 260), ((-2147483648), 2147483647)], [([(0, 1)], (-1)), ([(0, (-1))], 120), ([(0, (-1)), (1, 1)], 0)], [], [(60, ([], 16), ([], 0))]), some (.inl ([(2, 1)], 0)))], [(60, 10), (60, 16), (60, 17), (60, 18), (60, 19), (60, 20), (60, 22), (60, 24), (60, 45), (60, 47), (61, 1000000), (85, 1000000), (86, 1000000)], 5)
def cv_clocks1 : List az_Cut := [(40, ([(1, 120), (1, 260), (1, 120), (1, 260), (1, 120), (0, 240), (0, 1)], [([(1, 1), (0, (-1))], 0), ([(6, (-1)), (5, 1)], 0), ([(1, (-1)), (3, 1)], 0), ([(0, (-1)), (1, 1)], 0), ([(0, (-1)), (4, 1)], 0), ([(0, (-1)), (3, 1)], 0), ([(0, (-1)), (2, 1)], 0), ([(4, (-1)), (1, 1)], 0), ([(4, (-1)), (0, 1)], 0), ([(4, (-1)), (3, 1)], 0), ([(4, (-1)), (2, 1)], 0), ([(3, (-1)), (1, 1)], 0), ([(2, (-1)), (1, 1)], 0), ([(2, (-1)), (0, 1)], 0), ([(2, (-1)), (4, 1)], 0), ([(2, (-1)), (3, 1)], 0)], [], [(60, ([], 16), ([(3, 1)], 0)), (60, ([], 18), ([(4, 1)], 0)), (60, ([], 17), ([(5, 1)], 0)), (60, ([], 22), ([], 0)), (60, ([], 24), ([], 0))]), [(0, .inr (.inr (.inl 60))), (1, .inl ([(2, 1)], 0)), (2, .inl ([(6, 1)], 0))], [], ([(6, 1), (5, (-1))], 249)),
  (104, ([(1, 120), (1, 260), (1, 120), (1, 1), (1, 120), (1, 240), (0, 255), (0, 255), (0, 8)], [([(1, 1), (0, (-1))], 0), ([(0, (-1)), (1, 1)], 0), ([(0, (-1)), (4, 1)], 0), ([(0, (-1)), (2, 1)], 0), ([(7, (-1)), (6, 1)], 0), ([(6, (-1)), (7, 1)], 0), ([(4, (-1)), (1, 1)], 0), ([(4, (-1)), (0, 1)], 0), ([(4, (-1)), (5, 1)], 0), ([(4, (-1)), (2, 1)], 0), ([(3, (-1)), (5, 1)], 0), ([(2, (-1)), (1, 1)], 0), ([(2, (-1)), (0, 1)], 0), ([(2, (-1)), (4, 1)], 0)], [], [(60, ([], 18), ([(4, 1)], 0)), (60, ([], 17), ([(5, 1)], 0)), (60, ([], 45), ([(6, 1)], 0)), (60, ([], 10), ([(7, 1)], 0)), (60, ([], 22), ([], 0)), (60, ([], 24), ([], 0)), (60, ([], 16), ([], 0))]), [(0, .inr (.inr (.inl 60))), (1, .inl ([(2, 1)], 0)), (2, .inl ([(3, 1)], 0)), (3, .inl ([(8, 1)], 0))], [], ([(8, (-1))], 8))]
theorem ck_cq_clocks1 : az_chk az_tb [ct_X11_readsClock_386] cq_clocks1 cv_clocks1 az_inl (az_spl ++ [(269, 7), (269, 41), (269, 61), (269, 68), (269, 86)]) [(60, 10), (60, 16), (60, 17), (60, 18), (60, 19), (60, 22), (60, 24), (60, 45), (60, 47), (61, 1000000)] 49 = true := by decide +kernel
theorem ok_cq_clocks1 {P : si_P} (hxa : P.2.1 < P.1) : az_ok js_J P az_tb cq_clocks1 ∧ az_wfct cq_clocks1 = true := az_chk_ok az_tb_ok hxa (az_dj_ok js_fr (by decide)) (az_fc (ok_X11_readsClock_386 hxa js_fr) az_fn) ck_cq_clocks1
def cq_book0 : az_Ct := (148, ([((-2147483648), 2147483647), (0, 260)], [], [], [(12, ([], 1), ([(1, 1)], 0))]), [.inr (.inr (.inl 0)), .inl ([(0, 1)], 0)], [(([((-2147483648), 2147483647), (0, 260), ((-7000), 16)], [([(0, 1)], (-1)), ([(0, (-1))], 160), ([(0, (-1)), (1, 1)], 0)], [], [(12, ([], 1), ([], 0))]), some (.inl ([(2, 1)], 0))), (([((-2147483648), 2147483647), (0, 260)], [([(0, 1)], (-1)), ([(0, (-1))], 160), ([(1, (-1)), (0, 1)], (-1))], [], [(12, ([], 1), ([(1, 1)], 0))]), some (.inl ([], (-1)))), (([((-2147483648), 2147483647), (0, 260)], [([(0, 1)], (-1)), ([(0, 1)], (-161))], [], [(12, ([], 1), ([(1, 1)], 0))]), some (.inl ([], (-1)))), (([((-2147483648), 2147483647), (0, 260)], [([(0, (-1))], 160), ([(0, (-1))], 0), ([(0, (-1)), (1, 1)], 0)], [], [(12, ([], 1), ([(1, 1)], 0))]), some (.inl ([], (-1))))], [(0, 17), (0, 18), (12, 1), (14, 1), (14, 2), (14, 3), (49, 5), (50, 1000000), (51, 1000000), (52, 1000000), (53, 1000000), (54, 5), (55, 1000000), (56, 1000000), (57, 1000000), (58, 1000000)], 5)
def cv_book0 : List az_Cut := []
theorem ck_cq_book0 : az_chk az_tb [ct_X2_read_105, ct_X2_read_107] cq_book0 cv_book0 az_inl (az_spl ++ [(148, 8)]) [(0, 17), (0, 18), (12, 1), (14, 1), (14, 2), (14, 3)] 68 = true := by decide +kernel
theorem ok_cq_book0 {P : si_P} (hxa : P.2.1 < P.1) : az_ok js_J P az_tb cq_book0 ∧ az_wfct cq_book0 = true := az_chk_ok az_tb_ok hxa (az_dj_ok js_fr (by decide)) (az_fc (ok_X2_read_105 hxa js_fr) (az_fc (ok_X2_read_107 hxa js_fr) az_fn)) ck_cq_book0
def cq_book1 : az_Ct := (271, ([((-2147483648), 2147483647), (0, 260)], [], [], [(60, ([], 16), ([(1, 1)], 0))]), [.inr (.inr (.inl 60)), .inl ([(0, 1)], 0)], [(([((-2147483648), 2147483647), (0, 260)], [([(0, 1)], (-1)), ([(0, (-1))], 160), ([(1, (-1)), (0, 1)], (-1))], [], [(60, ([], 16), ([(1, 1)], 0))]), some (.inl ([], (-1)))), (([((-2147483648), 2147483647), (0, 260)], [([(0, 1)], (-1)), ([(0, 1)], (-161))], [], [(60, ([], 16), ([(1, 1)], 0))]), some (.inl ([], (-1)))), (([((-2147483648), 2147483647), (0, 260)], [([(0, (-1))], 160), ([(0, (-1))], 0), ([(0, (-1)), (1, 1)], 0)], [], [(60, ([], 16), ([(1, 1)], 0))]), some (.inl ([], (-1)))), (([((-2147483648), 2147483647), (0, 260), ((-2147483648), 2147483647)], [([(0, 1)], (-1)), ([(0, (-1))], 160), ([(0, (-1)), (1, 1)], 0)], [], [(60, ([], 16), ([], 0))]), some (.inl ([(2, 1)], 0)))], [(60, 11), (60, 16), (60, 17), (60, 18), (60, 19), (60, 20), (60, 22), (60, 24), (60, 46), (64, 1000000), (65, 1000000), (66, 1000000), (67, 1000000), (87, 1000000), (88, 1000000), (89, 1000000), (90, 1000000)], 5)
def cv_book1 : List az_Cut := [(36, ([(1, 160), (1, 260), (1, 160), (1, 260), (1, 160), (0, 240), (0, 1)], [([(1, 1), (0, (-1))], 0), ([(6, (-1)), (5, 1)], 0), ([(1, (-1)), (3, 1)], 0), ([(0, (-1)), (1, 1)], 0), ([(0, (-1)), (4, 1)], 0), ([(0, (-1)), (3, 1)], 0), ([(0, (-1)), (2, 1)], 0), ([(4, (-1)), (1, 1)], 0), ([(4, (-1)), (0, 1)], 0), ([(4, (-1)), (3, 1)], 0), ([(4, (-1)), (2, 1)], 0), ([(3, (-1)), (1, 1)], 0), ([(2, (-1)), (1, 1)], 0), ([(2, (-1)), (0, 1)], 0), ([(2, (-1)), (4, 1)], 0), ([(2, (-1)), (3, 1)], 0)], [], [(60, ([], 16), ([(3, 1)], 0)), (60, ([], 18), ([(4, 1)], 0)), (60, ([], 17), ([(5, 1)], 0)), (60, ([], 22), ([], 0)), (60, ([], 24), ([], 0))]), [(0, .inr (.inr (.inl 60))), (1, .inl ([(2, 1)], 0)), (2, .inl ([(6, 1)], 0))], [], ([(6, 1), (5, (-1))], 257)),
  (100, ([(1, 160), (1, 260), (1, 160), (1, 1), (1, 160), (1, 240), (0, 16), (0, 16), (0, 16)], [([(1, 1), (0, (-1))], 0), ([(8, (-1)), (7, 1)], 0), ([(0, (-1)), (1, 1)], 0), ([(0, (-1)), (4, 1)], 0), ([(0, (-1)), (2, 1)], 0), ([(7, (-1)), (6, 1)], 0), ([(6, (-1)), (7, 1)], 0), ([(4, (-1)), (1, 1)], 0), ([(4, (-1)), (0, 1)], 0), ([(4, (-1)), (5, 1)], 0), ([(4, (-1)), (2, 1)], 0), ([(3, (-1)), (5, 1)], 0), ([(2, (-1)), (1, 1)], 0), ([(2, (-1)), (0, 1)], 0), ([(2, (-1)), (4, 1)], 0)], [], [(60, ([], 18), ([(4, 1)], 0)), (60, ([], 17), ([(5, 1)], 0)), (60, ([], 46), ([(6, 1)], 0)), (60, ([], 11), ([(7, 1)], 0)), (60, ([], 22), ([], 0)), (60, ([], 24), ([], 0)), (60, ([], 16), ([], 0))]), [(0, .inr (.inr (.inl 60))), (1, .inl ([(2, 1)], 0)), (2, .inl ([(3, 1)], 0)), (3, .inl ([(8, 1)], 0))], [], ([(8, (-1))], 16))]
theorem ck_cq_book1 : az_chk az_tb [ct_X11_readsAppointment_388] cq_book1 cv_book1 az_inl (az_spl ++ [(271, 8), (271, 37), (271, 57), (271, 64), (271, 82)]) [(60, 11), (60, 16), (60, 17), (60, 18), (60, 19), (60, 22), (60, 24), (60, 46), (64, 1000000), (65, 1000000), (66, 1000000), (67, 1000000)] 49 = true := by decide +kernel
theorem ok_cq_book1 {P : si_P} (hxa : P.2.1 < P.1) : az_ok js_J P az_tb cq_book1 ∧ az_wfct cq_book1 = true := az_chk_ok az_tb_ok hxa (az_dj_ok js_fr (by decide)) (az_fc (ok_X11_readsAppointment_388 hxa js_fr) az_fn) ck_cq_book1
def cq_photographs0 : az_Ct := (158, ([((-2147483648), 2147483647), ((-2147483648), 2147483647), ((-2147483648), 2147483647), ((-2147483648), 2147483647), (0, 260)], [], [], [(12, ([], 1), ([(4, 1)], 0))]), [.inr (.inr (.inl 0)), .inl ([(0, 1)], 0), .inl ([(1, 1)], 0), .inl ([(2, 1)], 0), .inl ([(3, 1)], 0)], [(([((-2147483648), 2147483647), ((-2147483648), 2147483647), ((-2147483648), 2147483647), ((-2147483648), 2147483647), (0, 260)], [([(0, 1)], (-1)), ([(0, (-1))], 8), ([(1, 1)], 0), ([(1, (-1))], 99), ([(1, (-1)), (2, 1)], 0), ([(2, (-1))], 99), ([(3, 1)], 0), ([(3, (-1))], 100), ([(3, (-1))], 99), ([(3, (-1)), (0, 1)], (-1)), ([(0, (-2)), (4, 1)], 0)], [], [(12, ([], 1), ([], 0))]), some (.inl ([], (-3)))), (([((-2147483648), 2147483647), ((-2147483648), 2147483647), ((-2147483648), 2147483647), ((-2147483648), 2147483647), (0, 260), ((-4), 20000)], [([(0, 1)], (-1)), ([(0, (-1))], 8), ([(1, 1)], 0), ([(1, (-1))], 99), ([(1, (-1)), (2, 1)], 0), ([(2, (-1))], 99), ([(3, 1)], 0), ([(3, (-1))], 100), ([(3, (-1))], 99), ([(3, (-1)), (0, 1)], (-1)), ([(0, (-2)), (4, 1)], 0)], [], [(12, ([], 1), ([], 0))]), some (.inl ([(5, 1)], 0))), (([((-2147483648), 2147483647), ((-2147483648), 2147483647), ((-2147483648), 2147483647), ((-2147483648), 2147483647), (0, 260)], [([(0, 1)], (-1)), ([(0, (-1))], 8), ([(1, 1)], 0), ([(1, (-1))], 99), ([(1, (-1)), (2, 1)], 0), ([(2, (-1))], 99), ([(3, 1)], 0), ([(3, (-1))], 100), ([(3, (-1))], 99), ([(3, (-1)), (0, 1)], (-1)), ([(4, (-1)), (0, 2)], (-1))], [], [(12, ([], 1), ([(4, 1)], 0))]), some (.inl ([], (-1)))), (([((-2147483648), 2147483647), ((-2147483648), 2147483647), ((-2147483648), 2147483647), ((-2147483648), 2147483647), (0, 260)], [([(0, 1)], (-1)), ([(0, (-1))], 8), ([(1, 1)], 0), ([(1, (-1)), (2, 1)], 0), ([(2, 1)], (-100)), ([(3, 1)], 0), ([(3, (-1))], 100), ([(3, (-1))], 99), ([(3, (-1)), (0, 1)], (-1))], [], [(12, ([], 1), ([(4, 1)], 0))]), some (.inl ([], (-1)))), (([((-2147483648), 2147483647), ((-2147483648), 2147483647), ((-2147483648), 2147483647), ((-2147483648), 2147483647), (0, 260)], [([(0, 1)], (-1)), ([(0, (-1))], 8), ([(1, 1)], 0), ([(2, (-1)), (1, 1)], (-1)), ([(3, 1)], 0), ([(3, (-1))], 100), ([(3, (-1))], 99), ([(3, (-1)), (0, 1)], (-1))], [], [(12, ([], 1), ([(4, 1)], 0))]), some (.inl ([], (-1)))), (([((-2147483648), 2147483647), ((-2147483648), 2147483647), ((-2147483648), 2147483647), ((-2147483648), 2147483647), (0, 260)], [([(0, 1)], (-1)), ([(0, (-1))], 8), ([(1, (-1))], (-1)), ([(1, (-1))], 99), ([(3, 1)], 0), ([(3, (-1))], 100), ([(3, (-1))], 99), ([(3, (-1)), (0, 1)], (-1))], [], [(12, ([], 1), ([(4, 1)], 0))]), some (.inl ([], (-1)))), (([((-2147483648), 2147483647), ((-2147483648), 2147483647), ((-2147483648), 2147483647), ((-2147483648), 2147483647), (0, 260)], [([(0, 1)], (-1)), ([(0, 1)], (-9)), ([(3, 1)], 0), ([(3, (-1))], 100), ([(3, (-1))], 99), ([(3, (-1)), (0, 1)], (-1))], [], [(12, ([], 1), ([(4, 1)], 0))]), some (.inl ([], (-1)))), (([((-2147483648), 2147483647), ((-2147483648), 2147483647), ((-2147483648), 2147483647), ((-2147483648), 2147483647), (0, 260)], [([(0, 1)], (-1)), ([(0, (-1))], 8), ([(3, 1)], 0), ([(3, (-1))], 100), ([(3, (-1))], 99), ([(0, (-1)), (3, 1)], 0)], [], [(12, ([], 1), ([(4, 1)], 0))]), some (.inl ([], (-1)))), (([((-2147483648), 2147483647), ((-2147483648), 2147483647), ((-2147483648), 2147483647), ((-2147483648), 2147483647), (0, 260)], [([(0, 1)], (-1)), ([(0, 1)], (-9)), ([(3, 1)], 0), ([(3, (-1))], 100), ([(3, (-1))], 99), ([(0, (-1)), (3, 1)], 0)], [], [(12, ([], 1), ([(4, 1)], 0))]), some (.inl ([], (-1)))), (([((-2147483648), 2147483647), ((-2147483648), 2147483647), ((-2147483648), 2147483647), ((-2147483648), 2147483647), (0, 260)], [([(0, (-1))], 8), ([(0, (-1))], 0), ([(3, 1)], 0), ([(3, (-1))], 100), ([(3, (-1))], 99), ([(0, (-1)), (3, 1)], 0), ([(0, (-2)), (4, 1)], 0)], [], [(12, ([], 1), ([(4, 1)], 0))]), some (.inl ([], (-1)))), (([((-2147483648), 2147483647), ((-2147483648), 2147483647), ((-2147483648), 2147483647), ((-2147483648), 2147483647), (0, 260)], [([(0, 1)], (-1)), ([(0, (-1))], 8), ([(3, (-1))], (-1)), ([(3, (-1))], 100), ([(3, (-1))], 99), ([(3, (-1)), (0, 1)], (-1))], [], [(12, ([], 1), ([(4, 1)], 0))]), some (.inl ([], (-1)))), (([((-2147483648), 2147483647), ((-2147483648), 2147483647), ((-2147483648), 2147483647), ((-2147483648), 2147483647), (0, 260)], [([(0, 1)], (-1)), ([(0, 1)], (-9)), ([(3, (-1))], (-1)), ([(3, (-1))], 100), ([(3, (-1))], 99), ([(3, (-1)), (0, 1)], (-1))], [], [(12, ([], 1), ([(4, 1)], 0))]), some (.inl ([], (-1)))), (([((-2147483648), 2147483647), ((-2147483648), 2147483647), ((-2147483648), 2147483647), ((-2147483648), 2147483647), (0, 260)], [([(0, (-1))], 8), ([(0, (-1))], 0), ([(3, (-1))], (-1)), ([(3, (-1))], 100), ([(3, (-1))], 99), ([(0, (-2)), (4, 1)], 0)], [], [(12, ([], 1), ([(4, 1)], 0))]), some (.inl ([], (-1)))), (([((-2147483648), 2147483647), ((-2147483648), 2147483647), ((-2147483648), 2147483647), ((-2147483648), 2147483647), (0, 260)], [([(0, 1)], (-1)), ([(0, 1)], (-9)), ([(3, 1)], 0), ([(3, 1)], (-100)), ([(3, 1)], (-101)), ([(3, (-1)), (0, 1)], (-1))], [], [(12, ([], 1), ([(4, 1)], 0))]), some (.inl ([], (-1)))), (([((-2147483648), 2147483647), ((-2147483648), 2147483647), ((-2147483648), 2147483647), ((-2147483648), 2147483647), (0, 260)], [([(0, 1)], (-1)), ([(0, (-1))], 8), ([(3, 1)], 0), ([(3, 1)], (-100)), ([(3, 1)], (-101)), ([(0, (-1)), (3, 1)], 0)], [], [(12, ([], 1), ([(4, 1)], 0))]), some (.inl ([], (-1)))), (([((-2147483648), 2147483647), ((-2147483648), 2147483647), ((-2147483648), 2147483647), ((-2147483648), 2147483647), (0, 260)], [([(0, 1)], (-1)), ([(0, 1)], (-9)), ([(3, 1)], 0), ([(3, 1)], (-100)), ([(3, 1)], (-101)), ([(0, (-1)), (3, 1)], 0)], [], [(12, ([], 1), ([(4, 1)], 0))]), some (.inl ([], (-1)))), (([((-2147483648), 2147483647), ((-2147483648), 2147483647), ((-2147483648), 2147483647), ((-2147483648), 2147483647), (0, 260)], [([(0, (-1))], 8), ([(0, (-1))], 0), ([(3, 1)], 0), ([(3, 1)], (-100)), ([(3, 1)], (-101)), ([(0, (-1)), (3, 1)], 0), ([(0, (-2)), (4, 1)], 0)], [], [(12, ([], 1), ([(4, 1)], 0))]), some (.inl ([], (-1)))), (([((-2147483648), 2147483647), ((-2147483648), 2147483647), ((-2147483648), 2147483647), ((-2147483648), 2147483647), (0, 260)], [([(0, 1)], (-1)), ([(0, (-1))], 8), ([(1, 1)], 0), ([(1, (-1))], 99), ([(1, (-1)), (2, 1)], 0), ([(2, (-1))], 99), ([(3, 1)], 0), ([(3, 1)], (-100)), ([(3, (-1))], 100), ([(0, (-1)), (3, 1)], 0), ([(0, (-2)), (4, 1)], 0)], [], [(12, ([], 1), ([], 0))]), some (.inl ([], (-3)))), (([((-2147483648), 2147483647), ((-2147483648), 2147483647), ((-2147483648), 2147483647), ((-2147483648), 2147483647), (0, 260), ((-2147483648), 2147483647)], [([(0, 1)], (-1)), ([(0, (-1))], 8), ([(1, 1)], 0), ([(1, (-1))], 99), ([(1, (-1)), (2, 1)], 0), ([(2, (-1))], 99), ([(3, 1)], 0), ([(3, 1)], (-100)), ([(3, (-1))], 100), ([(0, (-1)), (3, 1)], 0), ([(0, (-2)), (4, 1)], 0)], [], [(12, ([], 1), ([], 0))]), some (.inl ([(5, 1)], 0))), (([((-2147483648), 2147483647), ((-2147483648), 2147483647), ((-2147483648), 2147483647), ((-2147483648), 2147483647), (0, 260)], [([(0, 1)], (-1)), ([(0, (-1))], 8), ([(1, 1)], 0), ([(1, (-1))], 99), ([(1, (-1)), (2, 1)], 0), ([(2, (-1))], 99), ([(3, 1)], 0), ([(3, 1)], (-100)), ([(3, (-1))], 100), ([(0, (-1)), (3, 1)], 0), ([(4, (-1)), (0, 2)], (-1))], [], [(12, ([], 1), ([(4, 1)], 0))]), some (.inl ([], (-1)))), (([((-2147483648), 2147483647), ((-2147483648), 2147483647), ((-2147483648), 2147483647), ((-2147483648), 2147483647), (0, 260)], [([(0, 1)], (-1)), ([(0, (-1))], 8), ([(1, 1)], 0), ([(1, (-1)), (2, 1)], 0), ([(2, 1)], (-100)), ([(3, 1)], 0), ([(3, 1)], (-100)), ([(3, (-1))], 100), ([(0, (-1)), (3, 1)], 0)], [], [(12, ([], 1), ([(4, 1)], 0))]), some (.inl ([], (-1)))), (([((-2147483648), 2147483647), ((-2147483648), 2147483647), ((-2147483648), 2147483647), ((-2147483648), 2147483647), (0, 260)], [([(0, 1)], (-1)), ([(0, (-1))], 8), ([(1, 1)], 0), ([(2, (-1)), (1, 1)], (-1)), ([(3, 1)], 0), ([(3, 1)], (-100)), ([(3, (-1))], 100), ([(0, (-1)), (3, 1)], 0)], [], [(12, ([], 1), ([(4, 1)], 0))]), some (.inl ([], (-1)))), (([((-2147483648), 2147483647), ((-2147483648), 2147483647), ((-2147483648), 2147483647), ((-2147483648), 2147483647), (0, 260)], [([(0, 1)], (-1)), ([(0, (-1))], 8), ([(1, (-1))], (-1)), ([(1, (-1))], 99), ([(3, 1)], 0), ([(3, 1)], (-100)), ([(3, (-1))], 100), ([(0, (-1)), (3, 1)], 0)], [], [(12, ([], 1), ([(4, 1)], 0))]), some (.inl ([], (-1)))), (([((-2147483648), 2147483647), ((-2147483648), 2147483647), ((-2147483648), 2147483647), ((-2147483648), 2147483647), (0, 260)], [([(0, 1)], (-1)), ([(0, 1)], (-9)), ([(3, 1)], 0), ([(3, 1)], (-100)), ([(3, (-1))], 100)], [], [(12, ([], 1), ([(4, 1)], 0))]), some (.inl ([], (-1)))), (([((-2147483648), 2147483647), ((-2147483648), 2147483647), ((-2147483648), 2147483647), ((-2147483648), 2147483647), (0, 260)], [([(0, (-1))], 8), ([(0, (-1))], 0), ([(3, 1)], 0), ([(3, 1)], (-100)), ([(3, (-1))], 100), ([(0, (-1)), (3, 1)], 0), ([(0, (-2)), (4, 1)], 0)], [], [(12, ([], 1), ([(4, 1)], 0))]), some (.inl ([], (-1))))], [(6, 6), (6, 7), (6, 8), (7, 1000000), (8, 1000000), (9, 1000000), (10, 1000000), (12, 1)], 5)
def cv_photographs0 : List az_Cut := []
theorem ck_cq_photographs0 : az_chk az_tb [ct_X0_take_201, ct_X0_rowsMany_209, ct_X0_sureTime_207] cq_photographs0 cv_photographs0 az_inl (az_spl ++ [(158, 4), (158, 38), (158, 46), (158, 59), (158, 89), (158, 99)]) [(12, 1)] 75 = true := by decide +kernel
theorem ok_cq_photographs0 {P : si_P} (hxa : P.2.1 < P.1) : az_ok js_J P az_tb cq_photographs0 ∧ az_wfct cq_photographs0 = true := az_chk_ok az_tb_ok hxa (az_dj_ok js_fr (by decide)) (az_fc (ok_X0_take_201 hxa js_fr) (az_fc (ok_X0_rowsMany_209 hxa js_fr) (az_fc (ok_X0_sureTime_207 hxa js_fr) az_fn))) ck_cq_photographs0
def cq_photographs1 : az_Ct := (281, ([((-2147483648), 2147483647), ((-2147483648), 2147483647), ((-2147483648), 2147483647), ((-2147483648), 2147483647), (0, 260)], [], [], [(60, ([], 16), ([(4, 1)], 0))]), [.inr (.inr (.inl 60)), .inl ([(0, 1)], 0), .inl ([(1, 1)], 0), .inl ([(2, 1)], 0), .inl ([(3, 1)], 0)], [(([((-2147483648), 2147483647), ((-2147483648), 2147483647), ((-2147483648), 2147483647), ((-2147483648), 2147483647), (0, 260)], [([(0, 1)], (-1)), ([(0, (-1))], 8), ([(1, 1)], 0), ([(1, (-1))], 99), ([(1, (-1)), (2, 1)], 0), ([(2, (-1))], 99), ([(3, 1)], 0), ([(3, (-1))], 100), ([(3, (-1))], 99), ([(3, (-1)), (0, 1)], (-1)), ([(4, (-1)), (0, 2)], (-1))], [], [(60, ([], 16), ([(4, 1)], 0))]), some (.inl ([], (-1)))), (([((-2147483648), 2147483647), ((-2147483648), 2147483647), ((-2147483648), 2147483647), ((-2147483648), 2147483647), (0, 260)], [([(0, 1)], (-1)), ([(0, (-1))], 8), ([(1, 1)], 0), ([(1, (-1))], 99), ([(1, (-1)), (2, 1)], 0), ([(2, (-1))], 99), ([(3, 1)], 0), ([(3, (-1))], 100), ([(3, (-1))], 99), ([(3, (-1)), (0, 1)], (-1)), ([(0, (-2)), (4, 1)], 0)], [], [(60, ([], 16), ([], 0))]), some (.inl ([], (-3)))), (([((-2147483648), 2147483647), ((-2147483648), 2147483647), ((-2147483648), 2147483647), ((-2147483648), 2147483647), (0, 260), ((-4), 1439)], [([(0, 1)], (-1)), ([(0, (-1))], 8), ([(1, 1)], 0), ([(1, (-1))], 99), ([(1, (-1)), (2, 1)], 0), ([(2, (-1))], 99), ([(3, 1)], 0), ([(3, (-1))], 100), ([(3, (-1))], 99), ([(3, (-1)), (0, 1)], (-1)), ([(0, (-2)), (4, 1)], 0)], [], [(60, ([], 16), ([], 0))]), some (.inl ([(5, 1)], 0))), (([((-2147483648), 2147483647), ((-2147483648), 2147483647), ((-2147483648), 2147483647), ((-2147483648), 2147483647), (0, 260)], [([(0, 1)], (-1)), ([(0, (-1))], 8), ([(1, 1)], 0), ([(1, (-1))], 99), ([(1, (-1)), (2, 1)], 0), ([(2, (-1))], 99), ([(3, 1)], 0), ([(3, 1)], (-100)), ([(3, (-1))], 100), ([(0, (-1)), (3, 1)], 0), ([(4, (-1)), (0, 2)], (-1))], [], [(60, ([], 16), ([(4, 1)], 0))]), some (.inl ([], (-1)))), (([((-2147483648), 2147483647), ((-2147483648), 2147483647), ((-2147483648), 2147483647), ((-2147483648), 2147483647), (0, 260)], [([(0, 1)], (-1)), ([(0, (-1))], 8), ([(1, 1)], 0), ([(1, (-1))], 99), ([(1, (-1)), (2, 1)], 0), ([(2, (-1))], 99), ([(3, 1)], 0), ([(3, 1)], (-100)), ([(3, (-1))], 100), ([(0, (-1)), (3, 1)], 0), ([(0, (-2)), (4, 1)], 0)], [], [(60, ([], 16), ([], 0))]), some (.inl ([], (-3)))), (([((-2147483648), 2147483647), ((-2147483648), 2147483647), ((-2147483648), 2147483647), ((-2147483648), 2147483647), (0, 260)], [([(0, 1)], (-1)), ([(0, (-1))], 8), ([(1, 1)], 0), ([(1, (-1))], 99), ([(1, (-1)), (2, 1)], 0), ([(2, (-1))], 99), ([(3, 1)], 0), ([(3, (-1))], 100), ([(3, (-1))], 99), ([(0, (-1)), (3, 1)], 0)], [], [(60, ([], 16), ([(4, 1)], 0))]), some (.inl ([], (-1)))), (([((-2147483648), 2147483647), ((-2147483648), 2147483647), ((-2147483648), 2147483647), ((-2147483648), 2147483647), (0, 260)], [([(0, 1)], (-1)), ([(0, (-1))], 8), ([(1, 1)], 0), ([(1, (-1))], 99), ([(1, (-1)), (2, 1)], 0), ([(2, (-1))], 99), ([(3, 1)], 0), ([(3, 1)], (-100)), ([(3, 1)], (-101)), ([(0, (-1)), (3, 1)], 0)], [], [(60, ([], 16), ([(4, 1)], 0))]), some (.inl ([], (-1)))), (([((-2147483648), 2147483647), ((-2147483648), 2147483647), ((-2147483648), 2147483647), ((-2147483648), 2147483647), (0, 260)], [([(0, 1)], (-1)), ([(0, (-1))], 8), ([(1, 1)], 0), ([(1, (-1))], 99), ([(1, (-1)), (2, 1)], 0), ([(2, (-1))], 99), ([(3, (-1))], (-1)), ([(3, (-1))], 100), ([(3, (-1))], 99), ([(3, (-1)), (0, 1)], (-1))], [], [(60, ([], 16), ([(4, 1)], 0))]), some (.inl ([], (-1)))), (([((-2147483648), 2147483647), ((-2147483648), 2147483647), ((-2147483648), 2147483647), ((-2147483648), 2147483647), (0, 260)], [([(0, 1)], (-1)), ([(0, (-1))], 8), ([(1, 1)], 0), ([(1, (-1))], 99), ([(1, (-1)), (2, 1)], 0), ([(2, 1)], (-100))], [], [(60, ([], 16), ([(4, 1)], 0))]), some (.inl ([], (-1)))), (([((-2147483648), 2147483647), ((-2147483648), 2147483647), ((-2147483648), 2147483647), ((-2147483648), 2147483647), (0, 260)], [([(0, 1)], (-1)), ([(0, (-1))], 8), ([(1, 1)], 0), ([(1, (-1))], 99), ([(2, (-1)), (1, 1)], (-1)), ([(2, (-1))], 99)], [], [(60, ([], 16), ([(4, 1)], 0))]), some (.inl ([], (-1)))), (([((-2147483648), 2147483647), ((-2147483648), 2147483647), ((-2147483648), 2147483647), ((-2147483648), 2147483647), (0, 260)], [([(0, 1)], (-1)), ([(0, (-1))], 8), ([(1, 1)], 0), ([(1, 1)], (-100))], [], [(60, ([], 16), ([(4, 1)], 0))]), some (.inl ([], (-1)))), (([((-2147483648), 2147483647), ((-2147483648), 2147483647), ((-2147483648), 2147483647), ((-2147483648), 2147483647), (0, 260)], [([(0, 1)], (-1)), ([(0, (-1))], 8), ([(1, (-1))], (-1)), ([(1, (-1))], 99)], [], [(60, ([], 16), ([(4, 1)], 0))]), some (.inl ([], (-1)))), (([((-2147483648), 2147483647), ((-2147483648), 2147483647), ((-2147483648), 2147483647), ((-2147483648), 2147483647), (0, 260)], [([(0, 1)], (-1)), ([(0, 1)], (-9))], [], [(60, ([], 16), ([(4, 1)], 0))]), some (.inl ([], (-1)))), (([((-2147483648), 2147483647), ((-2147483648), 2147483647), ((-2147483648), 2147483647), ((-2147483648), 2147483647), (0, 260)], [([(0, (-1))], 8), ([(0, (-1))], 0), ([(0, (-2)), (4, 1)], 0)], [], [(60, ([], 16), ([(4, 1)], 0))]), some (.inl ([], (-1)))), (([((-2147483648), 2147483647), ((-2147483648), 2147483647), ((-2147483648), 2147483647), ((-2147483648), 2147483647), (0, 260), ((-2147483648), 2147483647)], [([(0, 1)], (-1)), ([(0, (-1))], 8), ([(1, 1)], 0), ([(1, (-1))], 99), ([(1, (-1)), (2, 1)], 0), ([(2, (-1))], 99), ([(3, 1)], 0), ([(3, 1)], (-100)), ([(3, (-1))], 100), ([(0, (-1)), (3, 1)], 0), ([(0, (-2)), (4, 1)], 0)], [], [(60, ([], 16), ([], 0))]), some (.inl ([(5, 1)], 0)))], [(60, 16), (91, 1000000), (92, 1000000), (93, 1000000), (94, 1000000), (95, 1000000)], 4)
def cv_photographs1 : List az_Cut := [(112, ([(1, 8), (0, 99), (0, 99), (100, 100), (2, 260), (1, 8), (0, 99), (0, 99), (100, 100), (1, 8)], [([(4, 1), (0, (-2))], 0), ([(3, 1), (0, (-1))], 0), ([(2, 1), (1, (-1))], 0), ([(9, (-1)), (5, 1)], 0), ([(3, (-1)), (8, 1)], 0), ([(2, (-1)), (7, 1)], 0), ([(1, (-1)), (2, 1)], 0), ([(1, (-1)), (7, 1)], 0), ([(1, (-1)), (6, 1)], 0), ([(0, (-1)), (4, 1)], (-1)), ([(0, (-1)), (3, 1)], (-92)), ([(0, (-1)), (8, 1)], (-92)), ([(0, (-1)), (5, 1)], 0), ([(8, (-1)), (3, 1)], 0), ([(7, (-1)), (2, 1)], 0), ([(6, (-1)), (2, 1)], 0), ([(6, (-1)), (1, 1)], 0), ([(6, (-1)), (7, 1)], 0), ([(5, (-1)), (4, 1)], (-1)), ([(5, (-1)), (3, 1)], (-92)), ([(5, (-1)), (0, 1)], 0), ([(5, (-1)), (8, 1)], (-92))], [], [(60, ([], 16), ([], 0))]), [(0, .inr (.inr (.inl 60))), (1, .inl ([(5, 1)], 0)), (2, .inl ([(6, 1)], 0)), (3, .inl ([(7, 1)], 0)), (4, .inl ([(8, 1)], 0)), (5, .inr (.inl ())), (7, .inl ([(9, 1)], 0))], [], ([(9, (-1))], 8))]
theorem ck_cq_photographs1 : az_chk az_tb [ct_X11_laysSteps_421, ct_X11_areMarks_420, ct_X11_goesTo_432, ct_X11_beginsWith_431, ct_X11_laysCan_429, ct_X11_sureOf_430] cq_photographs1 cv_photographs1 az_inl (az_spl ++ [(281, 7), (281, 17), (281, 27), (281, 39), (281, 46), (281, 71), (281, 87)]) [(60, 16)] 88 = true := by decide +kernel
theorem ok_cq_photographs1 {P : si_P} (hxa : P.2.1 < P.1) : az_ok js_J P az_tb cq_photographs1 ∧ az_wfct cq_photographs1 = true := az_chk_ok az_tb_ok hxa (az_dj_ok js_fr (by decide)) (az_fc (ok_X11_laysSteps_421 hxa js_fr) (az_fc (ok_X11_areMarks_420 hxa js_fr) (az_fc (ok_X11_goesTo_432 hxa js_fr) (az_fc (ok_X11_beginsWith_431 hxa js_fr) (az_fc (ok_X11_laysCan_429 hxa js_fr) (az_fc (ok_X11_sureOf_430 hxa js_fr) az_fn)))))) ck_cq_photographs1
def cq_anyOrder0 : az_Ct := (159, ([((-2147483648), 2147483647), ((-2147483648), 2147483647), ((-2147483648), 2147483647), ((-2147483648), 2147483647), (0, 260)], [], [], [(12, ([], 1), ([(4, 1)], 0))]), [.inr (.inr (.inl 0)), .inl ([(0, 1)], 0), .inl ([(1, 1)], 0), .inl ([(2, 1)], 0), .inl ([(3, 1)], 0)], [(([((-2147483648), 2147483647), ((-2147483648), 2147483647), ((-2147483648), 2147483647), ((-2147483648), 2147483647), (0, 260)], [([(0, 1)], (-1)), ([(0, (-1))], 6), ([(3, (-1))], 1), ([(3, (-1))], (-1))], [], [(12, ([], 1), ([(4, 1)], 0))]), some (.inl ([], (-1)))), (([((-2147483648), 2147483647), ((-2147483648), 2147483647), ((-2147483648), 2147483647), ((-2147483648), 2147483647), (0, 260)], [([(0, 1)], (-1)), ([(0, 1)], (-7)), ([(3, (-1))], 1), ([(3, (-1))], (-1))], [], [(12, ([], 1), ([(4, 1)], 0))]), some (.inl ([], (-1)))), (([((-2147483648), 2147483647), ((-2147483648), 2147483647), ((-2147483648), 2147483647), ((-2147483648), 2147483647), (0, 260)], [([(0, (-1))], 6), ([(0, (-1))], 0), ([(3, (-1))], 1), ([(3, (-1))], (-1)), ([(0, (-2)), (4, 1)], 0)], [], [(12, ([], 1), ([(4, 1)], 0))]), some (.inl ([], (-1)))), (([((-2147483648), 2147483647), ((-2147483648), 2147483647), ((-2147483648), 2147483647), ((-2147483648), 2147483647), (0, 260)], [([(0, 1)], (-1)), ([(0, (-1))], 6), ([(1, 1)], 0), ([(1, (-1))], 99), ([(1, (-1)), (2, 1)], 0), ([(2, (-1))], 99), ([(3, 1)], 0), ([(3, (-1))], 1), ([(0, (-2)), (4, 1)], 0)], [], [(12, ([], 1), ([], 0))]), some (.inl ([], (-3)))), (([((-2147483648), 2147483647), ((-2147483648), 2147483647), ((-2147483648), 2147483647), ((-2147483648), 2147483647), (0, 260), ((-2147483648), 2147483647)], [([(0, 1)], (-1)), ([(0, (-1))], 6), ([(1, 1)], 0), ([(1, (-1))], 99), ([(1, (-1)), (2, 1)], 0), ([(2, (-1))], 99), ([(3, 1)], 0), ([(3, (-1))], 1), ([(0, (-2)), (4, 1)], 0)], [], [(12, ([], 1), ([], 0))]), some (.inl ([(5, 1)], 0))), (([((-2147483648), 2147483647), ((-2147483648), 2147483647), ((-2147483648), 2147483647), ((-2147483648), 2147483647), (0, 260)], [([(0, 1)], (-1)), ([(0, (-1))], 6), ([(1, 1)], 0), ([(1, (-1))], 99), ([(1, (-1)), (2, 1)], 0), ([(2, (-1))], 99), ([(3, 1)], 0), ([(3, (-1))], 1), ([(4, (-1)), (0, 2)], (-1))], [], [(12, ([], 1), ([(4, 1)], 0))]), some (.inl ([], (-1)))), (([((-2147483648), 2147483647), ((-2147483648), 2147483647), ((-2147483648), 2147483647), ((-2147483648), 2147483647), (0, 260)], [([(0, 1)], (-1)), ([(0, 1)], (-7)), ([(1, 1)], 0), ([(1, (-1))], 99), ([(1, (-1)), (2, 1)], 0), ([(2, (-1))], 99), ([(3, 1)], 0), ([(3, (-1))], 1)], [], [(12, ([], 1), ([(4, 1)], 0))]), some (.inl ([], (-1)))), (([((-2147483648), 2147483647), ((-2147483648), 2147483647), ((-2147483648), 2147483647), ((-2147483648), 2147483647), (0, 260)], [([(0, (-1))], 6), ([(0, (-1))], 0), ([(1, 1)], 0), ([(1, (-1))], 99), ([(1, (-1)), (2, 1)], 0), ([(2, (-1))], 99), ([(3, 1)], 0), ([(3, (-1))], 1), ([(0, (-2)), (4, 1)], 0)], [], [(12, ([], 1), ([(4, 1)], 0))]), some (.inl ([], (-1)))), (([((-2147483648), 2147483647), ((-2147483648), 2147483647), ((-2147483648), 2147483647), ((-2147483648), 2147483647), (0, 260)], [([(0, 1)], (-1)), ([(0, (-1))], 6), ([(1, 1)], 0), ([(1, (-1)), (2, 1)], 0), ([(2, 1)], (-100)), ([(3, 1)], 0), ([(3, (-1))], 1)], [], [(12, ([], 1), ([(4, 1)], 0))]), some (.inl ([], (-1)))), (([((-2147483648), 2147483647), ((-2147483648), 2147483647), ((-2147483648), 2147483647), ((-2147483648), 2147483647), (0, 260)], [([(0, 1)], (-1)), ([(0, 1)], (-7)), ([(1, 1)], 0), ([(1, (-1)), (2, 1)], 0), ([(2, 1)], (-100)), ([(3, 1)], 0), ([(3, (-1))], 1)], [], [(12, ([], 1), ([(4, 1)], 0))]), some (.inl ([], (-1)))), (([((-2147483648), 2147483647), ((-2147483648), 2147483647), ((-2147483648), 2147483647), ((-2147483648), 2147483647), (0, 260)], [([(0, (-1))], 6), ([(0, (-1))], 0), ([(1, 1)], 0), ([(1, (-1)), (2, 1)], 0), ([(2, 1)], (-100)), ([(3, 1)], 0), ([(3, (-1))], 1), ([(0, (-2)), (4, 1)], 0)], [], [(12, ([], 1), ([(4, 1)], 0))]), some (.inl ([], (-1)))), (([((-2147483648), 2147483647), ((-2147483648), 2147483647), ((-2147483648), 2147483647), ((-2147483648), 2147483647), (0, 260)], [([(0, 1)], (-1)), ([(0, (-1))], 6), ([(1, 1)], 0), ([(2, (-1)), (1, 1)], (-1)), ([(3, 1)], 0), ([(3, (-1))], 1)], [], [(12, ([], 1), ([(4, 1)], 0))]), some (.inl ([], (-1)))), (([((-2147483648), 2147483647), ((-2147483648), 2147483647), ((-2147483648), 2147483647), ((-2147483648), 2147483647), (0, 260)], [([(0, 1)], (-1)), ([(0, 1)], (-7)), ([(1, 1)], 0), ([(2, (-1)), (1, 1)], (-1)), ([(3, 1)], 0), ([(3, (-1))], 1)], [], [(12, ([], 1), ([(4, 1)], 0))]), some (.inl ([], (-1)))), (([((-2147483648), 2147483647), ((-2147483648), 2147483647), ((-2147483648), 2147483647), ((-2147483648), 2147483647), (0, 260)], [([(0, (-1))], 6), ([(0, (-1))], 0), ([(1, 1)], 0), ([(2, (-1)), (1, 1)], (-1)), ([(3, 1)], 0), ([(3, (-1))], 1), ([(0, (-2)), (4, 1)], 0)], [], [(12, ([], 1), ([(4, 1)], 0))]), some (.inl ([], (-1)))), (([((-2147483648), 2147483647), ((-2147483648), 2147483647), ((-2147483648), 2147483647), ((-2147483648), 2147483647), (0, 260)], [([(0, 1)], (-1)), ([(0, (-1))], 6), ([(1, (-1))], (-1)), ([(1, (-1))], 99), ([(3, 1)], 0), ([(3, (-1))], 1)], [], [(12, ([], 1), ([(4, 1)], 0))]), some (.inl ([], (-1)))), (([((-2147483648), 2147483647), ((-2147483648), 2147483647), ((-2147483648), 2147483647), ((-2147483648), 2147483647), (0, 260)], [([(0, 1)], (-1)), ([(0, 1)], (-7)), ([(1, (-1))], (-1)), ([(1, (-1))], 99), ([(3, 1)], 0), ([(3, (-1))], 1)], [], [(12, ([], 1), ([(4, 1)], 0))]), some (.inl ([], (-1)))), (([((-2147483648), 2147483647), ((-2147483648), 2147483647), ((-2147483648), 2147483647), ((-2147483648), 2147483647), (0, 260)], [([(0, (-1))], 6), ([(0, (-1))], 0), ([(1, (-1))], (-1)), ([(1, (-1))], 99), ([(3, 1)], 0), ([(3, (-1))], 1), ([(0, (-2)), (4, 1)], 0)], [], [(12, ([], 1), ([(4, 1)], 0))]), some (.inl ([], (-1)))), (([((-2147483648), 2147483647), ((-2147483648), 2147483647), ((-2147483648), 2147483647), ((-2147483648), 2147483647), (0, 260)], [([(0, 1)], (-1)), ([(0, (-1))], 6), ([(3, 1)], 0), ([(3, 1)], (-2))], [], [(12, ([], 1), ([(4, 1)], 0))]), some (.inl ([], (-1)))), (([((-2147483648), 2147483647), ((-2147483648), 2147483647), ((-2147483648), 2147483647), ((-2147483648), 2147483647), (0, 260)], [([(0, 1)], (-1)), ([(0, 1)], (-7)), ([(3, 1)], 0), ([(3, 1)], (-2))], [], [(12, ([], 1), ([(4, 1)], 0))]), some (.inl ([], (-1)))), (([((-2147483648), 2147483647), ((-2147483648), 2147483647), ((-2147483648), 2147483647), ((-2147483648), 2147483647), (0, 260)], [([(0, (-1))], 6), ([(0, (-1))], 0), ([(3, 1)], 0), ([(3, 1)], (-2)), ([(0, (-2)), (4, 1)], 0)], [], [(12, ([], 1), ([(4, 1)], 0))]), some (.inl ([], (-1))))], [(6, 6), (6, 7), (6, 8), (7, 1000000), (8, 1000000), (11, 1000000), (12, 1)], 6)
def cv_anyOrder0 : List az_Cut := []
theorem ck_cq_anyOrder0 : az_chk az_tb [ct_X0_take_201, ct_X0_countOrders_216, ct_X0_ordersMany_219, ct_X0_canBeFirst_218] cq_anyOrder0 cv_anyOrder0 az_inl (az_spl ++ [(159, 5), (159, 13), (159, 36), (159, 49), (159, 79), (159, 94), (188, 1), (188, 6)]) [(12, 1)] 79 = true := by decide +kernel
theorem ok_cq_anyOrder0 {P : si_P} (hxa : P.2.1 < P.1) : az_ok js_J P az_tb cq_anyOrder0 ∧ az_wfct cq_anyOrder0 = true := az_chk_ok az_tb_ok hxa (az_dj_ok js_fr (by decide)) (az_fc (ok_X0_take_201 hxa js_fr) (az_fc (ok_X0_countOrders_216 hxa js_fr) (az_fc (ok_X0_ordersMany_219 hxa js_fr) (az_fc (ok_X0_canBeFirst_218 hxa js_fr) az_fn)))) ck_cq_anyOrder0
def cq_anyOrder1 : az_Ct := (286, ([((-2147483648), 2147483647), ((-2147483648), 2147483647), ((-2147483648), 2147483647), ((-2147483648), 2147483647), (0, 260)], [], [], [(60, ([], 16), ([(4, 1)], 0))]), [.inr (.inr (.inl 60)), .inl ([(0, 1)], 0), .inl ([(1, 1)], 0), .inl ([(2, 1)], 0), .inl ([(3, 1)], 0)], [(([((-2147483648), 2147483647), ((-2147483648), 2147483647), ((-2147483648), 2147483647), ((-2147483648), 2147483647), (0, 260)], [([(0, 1)], (-1)), ([(0, (-1))], 6), ([(1, 1)], 0), ([(1, (-1))], 99), ([(1, (-1)), (2, 1)], 0), ([(2, (-1))], 99), ([(3, 1)], 0), ([(3, (-1))], 1), ([(4, (-1)), (0, 2)], (-1))], [], [(60, ([], 16), ([(4, 1)], 0))]), some (.inl ([], (-1)))), (([((-2147483648), 2147483647), ((-2147483648), 2147483647), ((-2147483648), 2147483647), ((-2147483648), 2147483647), (0, 260)], [([(0, 1)], (-1)), ([(0, (-1))], 6), ([(1, 1)], 0), ([(1, (-1))], 99), ([(1, (-1)), (2, 1)], 0), ([(2, (-1))], 99), ([(3, 1)], 0), ([(3, (-1))], 1), ([(0, (-2)), (4, 1)], 0)], [], [(60, ([], 16), ([], 0))]), some (.inl ([], (-3)))), (([((-2147483648), 2147483647), ((-2147483648), 2147483647), ((-2147483648), 2147483647), ((-2147483648), 2147483647), (0, 260), ((-2147483648), 2147483647)], [([(0, 1)], (-1)), ([(0, (-1))], 6), ([(1, 1)], 0), ([(1, (-1))], 99), ([(1, (-1)), (2, 1)], 0), ([(2, (-1))], 99), ([(3, 1)], 0), ([(3, (-1))], 1), ([(0, (-2)), (4, 1)], 0)], [], [(60, ([], 16), ([], 0))]), some (.inl ([(5, 1)], 0))), (([((-2147483648), 2147483647), ((-2147483648), 2147483647), ((-2147483648), 2147483647), ((-2147483648), 2147483647), (0, 260)], [([(0, 1)], (-1)), ([(0, (-1))], 6), ([(1, 1)], 0), ([(1, (-1))], 99), ([(1, (-1)), (2, 1)], 0), ([(2, (-1))], 99), ([(3, 1)], 0), ([(3, 1)], (-2))], [], [(60, ([], 16), ([(4, 1)], 0))]), some (.inl ([], (-1)))), (([((-2147483648), 2147483647), ((-2147483648), 2147483647), ((-2147483648), 2147483647), ((-2147483648), 2147483647), (0, 260)], [([(0, 1)], (-1)), ([(0, (-1))], 6), ([(1, 1)], 0), ([(1, (-1))], 99), ([(1, (-1)), (2, 1)], 0), ([(2, (-1))], 99), ([(3, (-1))], 1), ([(3, (-1))], (-1))], [], [(60, ([], 16), ([(4, 1)], 0))]), some (.inl ([], (-1)))), (([((-2147483648), 2147483647), ((-2147483648), 2147483647), ((-2147483648), 2147483647), ((-2147483648), 2147483647), (0, 260)], [([(0, 1)], (-1)), ([(0, (-1))], 6), ([(1, 1)], 0), ([(1, (-1))], 99), ([(1, (-1)), (2, 1)], 0), ([(2, 1)], (-100))], [], [(60, ([], 16), ([(4, 1)], 0))]), some (.inl ([], (-1)))), (([((-2147483648), 2147483647), ((-2147483648), 2147483647), ((-2147483648), 2147483647), ((-2147483648), 2147483647), (0, 260)], [([(0, 1)], (-1)), ([(0, (-1))], 6), ([(1, 1)], 0), ([(1, (-1))], 99), ([(2, (-1)), (1, 1)], (-1)), ([(2, (-1))], 99)], [], [(60, ([], 16), ([(4, 1)], 0))]), some (.inl ([], (-1)))), (([((-2147483648), 2147483647), ((-2147483648), 2147483647), ((-2147483648), 2147483647), ((-2147483648), 2147483647), (0, 260)], [([(0, 1)], (-1)), ([(0, (-1))], 6), ([(1, 1)], 0), ([(1, 1)], (-100))], [], [(60, ([], 16), ([(4, 1)], 0))]), some (.inl ([], (-1)))), (([((-2147483648), 2147483647), ((-2147483648), 2147483647), ((-2147483648), 2147483647), ((-2147483648), 2147483647), (0, 260)], [([(0, 1)], (-1)), ([(0, (-1))], 6), ([(1, (-1))], (-1)), ([(1, (-1))], 99)], [], [(60, ([], 16), ([(4, 1)], 0))]), some (.inl ([], (-1)))), (([((-2147483648), 2147483647), ((-2147483648), 2147483647), ((-2147483648), 2147483647), ((-2147483648), 2147483647), (0, 260)], [([(0, 1)], (-1)), ([(0, 1)], (-7))], [], [(60, ([], 16), ([(4, 1)], 0))]), some (.inl ([], (-1)))), (([((-2147483648), 2147483647), ((-2147483648), 2147483647), ((-2147483648), 2147483647), ((-2147483648), 2147483647), (0, 260)], [([(0, (-1))], 6), ([(0, (-1))], 0), ([(0, (-2)), (4, 1)], 0)], [], [(60, ([], 16), ([(4, 1)], 0))]), some (.inl ([], (-1))))], [(60, 16), (93, 1000000), (96, 1000000), (97, 1000000), (98, 1000000)], 9)
def cv_anyOrder1 : List az_Cut := [(102, ([(1, 6), (0, 99), (0, 99), (1, 1), (2, 260), (1, 6), (0, 99), (0, 99), (1, 1), (0, 63), (0, 6)], [([(4, 1), (0, (-2))], 0), ([(2, 1), (1, (-1))], 0), ([(3, (-1)), (8, 1)], 0), ([(2, (-1)), (7, 1)], 0), ([(1, (-1)), (2, 1)], 0), ([(1, (-1)), (7, 1)], 0), ([(1, (-1)), (6, 1)], 0), ([(0, (-1)), (4, 1)], (-1)), ([(0, (-1)), (5, 1)], 0), ([(8, (-1)), (3, 1)], 0), ([(7, (-1)), (2, 1)], 0), ([(6, (-1)), (2, 1)], 0), ([(6, (-1)), (1, 1)], 0), ([(6, (-1)), (7, 1)], 0), ([(5, (-1)), (4, 1)], (-1)), ([(5, (-1)), (0, 1)], 0)], [], [(60, ([], 16), ([], 0))]), [(0, .inr (.inr (.inl 60))), (1, .inl ([(5, 1)], 0)), (2, .inl ([(6, 1)], 0)), (3, .inl ([(7, 1)], 0)), (4, .inl ([(8, 1)], 0)), (5, .inl ([(9, 1)], 0)), (6, .inl ([(10, 1)], 0))], [], ([(10, (-1))], 6))]
theorem ck_cq_anyOrder1 : az_chk az_tb [ct_X11_laysSteps_421, ct_X11_areMarks_420, ct_X11_laysTimes_434, ct_X11_rowsFrom_438] cq_anyOrder1 cv_anyOrder1 az_inl (az_spl ++ [(286, 7), (286, 17), (286, 27), (286, 37), (286, 62), (286, 81)]) [(60, 16)] 89 = true := by decide +kernel
theorem ok_cq_anyOrder1 {P : si_P} (hxa : P.2.1 < P.1) : az_ok js_J P az_tb cq_anyOrder1 ∧ az_wfct cq_anyOrder1 = true := az_chk_ok az_tb_ok hxa (az_dj_ok js_fr (by decide)) (az_fc (ok_X11_laysSteps_421 hxa js_fr) (az_fc (ok_X11_areMarks_420 hxa js_fr) (az_fc (ok_X11_laysTimes_434 hxa) (az_fc (ok_X11_rowsFrom_438 hxa js_fr) az_fn)))) ck_cq_anyOrder1
def cq_heard0 : az_Ct := (163, ([((-2147483648), 2147483647), (0, 1), ((-2147483648), 2147483647), (0, 260)], [], [], [(12, ([], 1), ([(3, 1)], 0))]), [.inr (.inr (.inl 0)), .inl ([(0, 1)], 0), .inl ([(1, 1)], 0), .inl ([(2, 1)], 0)], [(([((-2147483648), 2147483647), (0, 1), ((-2147483648), 2147483647), (0, 260)], [([(0, 1)], (-1)), ([(0, (-1))], 12), ([(2, (-1))], 1), ([(2, (-1))], (-1))], [], [(12, ([], 1), ([(3, 1)], 0))]), some (.inl ([], (-1)))), (([((-2147483648), 2147483647), (0, 1), ((-2147483648), 2147483647), (0, 260)], [([(0, 1)], (-1)), ([(0, (-1))], 12), ([(2, 1)], 0), ([(2, (-1))], 1), ([(0, (-1)), (3, 1)], 0)], [], [(12, ([], 1), ([], 0))]), some (.inl ([], (-4)))), (([((-2147483648), 2147483647), (0, 1), ((-2147483648), 2147483647), (0, 260), ((-2147483648), 2147483647)], [([(0, 1)], (-1)), ([(0, (-1))], 12), ([(2, 1)], 0), ([(2, (-1))], 1), ([(0, (-1)), (3, 1)], 0)], [], [(12, ([], 1), ([], 0))]), some (.inl ([(4, 1)], 0))), (([((-2147483648), 2147483647), (0, 1), ((-2147483648), 2147483647), (0, 260)], [([(0, 1)], (-1)), ([(0, (-1))], 12), ([(2, 1)], 0), ([(2, (-1))], 1), ([(0, (-1)), (3, 1)], 0)], [], [(12, ([], 1), ([], 0))]), some (.inl ([], (-2)))), (([((-2147483648), 2147483647), (0, 1), ((-2147483648), 2147483647), (0, 260)], [([(0, 1)], (-1)), ([(0, (-1))], 12), ([(2, 1)], 0), ([(2, (-1))], 1), ([(3, (-1)), (0, 1)], (-1))], [], [(12, ([], 1), ([(3, 1)], 0))]), some (.inl ([], (-1)))), (([((-2147483648), 2147483647), (0, 1), ((-2147483648), 2147483647), (0, 260)], [([(0, 1)], (-1)), ([(0, (-1))], 12), ([(2, 1)], 0), ([(2, 1)], (-2))], [], [(12, ([], 1), ([(3, 1)], 0))]), some (.inl ([], (-1)))), (([((-2147483648), 2147483647), (0, 1), ((-2147483648), 2147483647), (0, 260)], [([(0, 1)], (-1)), ([(0, 1)], (-13))], [], [(12, ([], 1), ([(3, 1)], 0))]), some (.inl ([], (-1)))), (([((-2147483648), 2147483647), (0, 1), ((-2147483648), 2147483647), (0, 260)], [([(0, (-1))], 12), ([(0, (-1))], 0), ([(0, (-1)), (3, 1)], 0)], [], [(12, ([], 1), ([(3, 1)], 0))]), some (.inl ([], (-1))))], [(12, 1), (15, 0), (15, 1)], 4)
def cv_heard0 : List az_Cut := []
theorem ck_cq_heard0 : az_chk az_tb [ct_X1_timeOf_249, ct_X1_match_247] cq_heard0 cv_heard0 az_inl (az_spl ++ [(163, 15), (163, 26), (163, 56), (163, 74), (188, 1), (188, 6)]) [(12, 1)] 78 = true := by decide +kernel
theorem ok_cq_heard0 {P : si_P} (hxa : P.2.1 < P.1) : az_ok js_J P az_tb cq_heard0 ∧ az_wfct cq_heard0 = true := az_chk_ok az_tb_ok hxa (az_dj_ok js_fr (by decide)) (az_fc (ok_X1_timeOf_249 hxa js_fr) (az_fc (ok_X1_match_247 hxa js_fr) az_fn)) ck_cq_heard0
def cq_heard1 : az_Ct := (293, ([((-2147483648), 2147483647), (0, 1), ((-2147483648), 2147483647), (0, 260)], [], [], [(60, ([], 16), ([(3, 1)], 0))]), [.inr (.inr (.inl 60)), .inl ([(0, 1)], 0), .inl ([(1, 1)], 0), .inl ([(2, 1)], 0)], [(([((-2147483648), 2147483647), (0, 1), ((-2147483648), 2147483647), (0, 260)], [([(0, 1)], (-1)), ([(0, (-1))], 12), ([(2, 1)], 0), ([(2, (-1))], 1), ([(3, (-1)), (0, 1)], (-1))], [], [(60, ([], 16), ([(3, 1)], 0))]), some (.inl ([], (-1)))), (([((-2147483648), 2147483647), (0, 1), ((-2147483648), 2147483647), (0, 260)], [([(0, 1)], (-1)), ([(0, (-1))], 12), ([(2, 1)], 0), ([(2, 1)], (-2))], [], [(60, ([], 16), ([(3, 1)], 0))]), some (.inl ([], (-1)))), (([((-2147483648), 2147483647), (0, 1), ((-2147483648), 2147483647), (0, 260)], [([(0, 1)], (-1)), ([(0, (-1))], 12), ([(2, (-1))], 1), ([(2, (-1))], (-1))], [], [(60, ([], 16), ([(3, 1)], 0))]), some (.inl ([], (-1)))), (([((-2147483648), 2147483647), (0, 1), ((-2147483648), 2147483647), (0, 260)], [([(0, 1)], (-1)), ([(0, 1)], (-13))], [], [(60, ([], 16), ([(3, 1)], 0))]), some (.inl ([], (-1)))), (([((-2147483648), 2147483647), (0, 1), ((-2147483648), 2147483647), (0, 260)], [([(0, (-1))], 12), ([(0, (-1))], 0), ([(0, (-1)), (3, 1)], 0)], [], [(60, ([], 16), ([(3, 1)], 0))]), some (.inl ([], (-1)))), (([((-2147483648), 2147483647), (0, 1), ((-2147483648), 2147483647), (0, 260), ((-4), 1439)], [([(0, 1)], (-1)), ([(0, (-1))], 12), ([(2, 1)], 0), ([(2, (-1))], 1), ([(0, (-1)), (3, 1)], 0)], [], [(60, ([], 16), ([], 0))]), some (.inl ([(4, 1)], 0)))], [(60, 16), (60, 58), (99, 1000000), (100, 1000000)], 9)
def cv_heard1 : List az_Cut := [(49, ([(1, 12), (0, 1), (0, 1), (1, 260), (1, 12), (0, 1), (0, 1), (0, 48), (0, 48), ((-4), 1439)], [([(3, 1), (0, (-1))], 0), ([(9, (-1)), (7, 1)], 1438), ([(9, (-1)), (8, 1)], 1438), ([(8, (-1)), (7, 1)], 0), ([(2, (-1)), (6, 1)], 0), ([(1, (-1)), (5, 1)], 0), ([(0, (-1)), (3, 1)], 0), ([(0, (-1)), (4, 1)], 0), ([(6, (-1)), (2, 1)], 0), ([(5, (-1)), (1, 1)], 0), ([(4, (-1)), (3, 1)], 0), ([(4, (-1)), (0, 1)], 0)], [], [(60, ([], 16), ([], 0))]), [(0, .inr (.inr (.inl 60))), (1, .inl ([(4, 1)], 0)), (2, .inl ([(5, 1)], 0)), (3, .inl ([(6, 1)], 0)), (4, .inl ([(8, 1)], 0)), (5, .inl ([(9, 1)], 0)), (6, .inl ([(7, 1)], 0))], [], ([(7, (-1))], 48))]
theorem ck_cq_heard1 : az_chk az_tb [ct_X11_laysStrikes_440, ct_X11_isHeardFrom_447] cq_heard1 cv_heard1 az_inl (az_spl ++ [(293, 7), (293, 16), (293, 65), (293, 113)]) [(60, 16)] 46 = true := by decide +kernel
theorem ok_cq_heard1 {P : si_P} (hxa : P.2.1 < P.1) : az_ok js_J P az_tb cq_heard1 ∧ az_wfct cq_heard1 = true := az_chk_ok az_tb_ok hxa (az_dj_ok js_fr (by decide)) (az_fc (ok_X11_laysStrikes_440 hxa) (az_fc (ok_X11_isHeardFrom_447 hxa js_fr) az_fn)) ck_cq_heard1
def cq_check0 : az_Ct := (186, ([((-2147483648), 2147483647), (0, 260)], [], [], [(12, ([], 1), ([(1, 1)], 0))]), [.inr (.inr (.inl 0)), .inl ([(0, 1)], 0)], [(([((-2147483648), 2147483647), (0, 260)], [([(0, 1)], 0), ([(0, (-1))], 8), ([(1, (-1)), (0, 1)], (-1))], [], [(12, ([], 1), ([(1, 1)], 0))]), some (.inl ([], (-2)))), (([((-2147483648), 2147483647), (0, 260)], [([(0, 1)], 0), ([(0, 1)], (-9))], [], [(12, ([], 1), ([(1, 1)], 0))]), some (.inl ([], (-2)))), (([((-2147483648), 2147483647), (0, 260)], [([(0, (-1))], 8), ([(0, (-1))], (-1)), ([(0, (-1)), (1, 1)], 0)], [], [(12, ([], 1), ([(1, 1)], 0))]), some (.inl ([], (-2)))), (([((-2147483648), 2147483647), (0, 260), ((-1), 7)], [([(0, 1)], 0), ([(0, (-1))], 8), ([(0, (-1)), (1, 1)], 0)], [], [(12, ([], 1), ([], 0))]), some (.inl ([(2, 1)], 0)))], [(12, 1)], 2)
def cv_check0 : List az_Cut := [(30, ([(0, 8), (0, 260), (0, 8), ((-1), 7), (0, 260), ((-1), 7)], [([(1, 1), (0, (-1))], 0), ([(5, (-1)), (1, 1)], (-1)), ([(5, (-1)), (0, 1)], (-1)), ([(5, (-1)), (4, 1)], (-1)), ([(5, (-1)), (3, (-1))], 13), ([(5, (-1)), (2, 1)], (-1)), ([(1, (-1)), (4, 1)], 0), ([(0, (-1)), (1, 1)], 0), ([(0, (-1)), (4, 1)], 0), ([(0, (-1)), (2, 1)], 0), ([(4, (-1)), (1, 1)], 0), ([(3, (-1)), (1, 1)], (-1)), ([(3, (-1)), (0, 1)], (-1)), ([(3, (-1)), (4, 1)], (-1)), ([(3, (-1)), (2, 1)], (-1)), ([(2, (-1)), (1, 1)], 0), ([(2, (-1)), (0, 1)], 0), ([(2, (-1)), (4, 1)], 0)], [], [(12, ([], 1), ([(4, 1)], 0))]), [(0, .inr (.inr (.inl 0))), (1, .inl ([(2, 1)], 0)), (2, .inl ([(5, 1)], 0)), (3, .inl ([(3, 1)], 0))], [], ([(3, 1)], 1))]
theorem ck_cq_check0 : az_chk az_tb [ct_X3_checkByte_374, ct_X9_at_373] cq_check0 cv_check0 az_inl (az_spl ++ [(186, 18), (186, 50)]) [(12, 1)] 25 = true := by decide +kernel
theorem ok_cq_check0 {P : si_P} (hxa : P.2.1 < P.1) : az_ok js_J P az_tb cq_check0 ∧ az_wfct cq_check0 = true := az_chk_ok az_tb_ok hxa (az_dj_ok js_fr (by decide)) (az_fc (ok_X3_checkByte_374 hxa js_fr) (az_fc (ok_X9_at_373 hxa js_fr) az_fn)) ck_cq_check0
def cq_check1 : az_Ct := (338, ([((-2147483648), 2147483647), (0, 260)], [], [], [(60, ([], 16), ([(1, 1)], 0))]), [.inr (.inr (.inl 60)), .inl ([(0, 1)], 0)], [(([((-2147483648), 2147483647), (0, 260)], [([(0, 1)], 0), ([(0, (-1))], 8), ([(1, (-1)), (0, 1)], (-1))], [], [(60, ([], 16), ([(1, 1)], 0))]), some (.inl ([], (-2)))), (([((-2147483648), 2147483647), (0, 260)], [([(0, 1)], 0), ([(0, 1)], (-9))], [], [(60, ([], 16), ([(1, 1)], 0))]), some (.inl ([], (-2)))), (([((-2147483648), 2147483647), (0, 260)], [([(0, (-1))], 8), ([(0, (-1))], (-1)), ([(0, (-1)), (1, 1)], 0)], [], [(60, ([], 16), ([(1, 1)], 0))]), some (.inl ([], (-2)))), (([((-2147483648), 2147483647), (0, 260), (0, 7)], [([(0, 1)], 0), ([(0, (-1))], 8), ([(0, (-1)), (1, 1)], 0)], [], [(60, ([], 16), ([], 0))]), some (.inl ([(2, 1)], 0))), (([((-2147483648), 2147483647), (0, 260)], [([(0, 1)], 0), ([(0, (-1))], 8), ([(0, (-1)), (1, 1)], 0)], [], [(60, ([], 16), ([], 0))]), some (.inl ([], (-1))))], [(60, 16)], 2)
def cv_check1 : List az_Cut := [(28, ([(0, 8), (0, 260), (0, 8), (0, 8)], [([(1, 1), (0, (-1))], 0), ([(3, (-1)), (2, 1)], 0), ([(0, (-1)), (1, 1)], 0), ([(0, (-1)), (2, 1)], 0), ([(2, (-1)), (1, 1)], 0), ([(2, (-1)), (0, 1)], 0)], [], [(60, ([], 16), ([], 0))]), [(0, .inr (.inr (.inl 60))), (1, .inl ([(2, 1)], 0)), (2, .inl ([(3, 1)], 0))], [], ([(3, (-1))], 8))]
theorem ck_cq_check1 : az_chk az_tb [] cq_check1 cv_check1 az_inl (az_spl ++ [(338, 7), (338, 43), (338, 64)]) [(60, 16)] 63 = true := by decide +kernel
theorem ok_cq_check1 {P : si_P} (hxa : P.2.1 < P.1) : az_ok js_J P az_tb cq_check1 ∧ az_wfct cq_check1 = true := az_chk_ok az_tb_ok hxa (az_dj_ok js_fr (by decide)) az_fn ck_cq_check1
theorem ct_feed0_ok {P : si_P} (hxa : P.2.1 < P.1) {d : Nat} (hd : 1 ≤ d) {h : si_H} (a0 : Int32) (a1 : Int32) (a2 : Int32) (a3 : Int32) (a4 : Int32) (hH : az_HI P az_tb h) (hJ : js_J h) : az_X P d 145 0 (lv_args 0 [.ref (P.1 + 0), .int a0, .int a1, .int a2, .int a3, .int a4]) [] h (fun rv h1 => ∃ w : Int32, rv = some (.int w) ∧ az_HI P az_tb h1 ∧ js_J h1 ∧ az_same_out cq_feed0.2.2.2.2.1 h h1 ∧ ((w.toInt = ja h 12 1 + 20 ∧ 0 ≤ -ja h 12 1 + 240 ∧ ja h1 12 1 = ja h 12 1 + 20) ∨ (w.toInt = (-1) ∧ 0 ≤ ja h 12 1 - 241 ∧ ja h1 12 1 = ja h 12 1))) := by
  refine ((ok_cq_feed0 hxa).1 d hd (jρ [a0.toInt, a1.toInt, a2.toInt, a3.toInt, a4.toInt, ja h 12 1]) h [.ref (P.1 + 0), .int a0, .int a1, .int a2, .int a3, .int a4] hH hJ (jg_mk hH (by decide) (by decide) ⟨(jF32 a0), (jF32 a1), (jF32 a2), (jF32 a3), (jF32 a4), (ja_bd hH (i := 12) (k := 1) rfl), trivial⟩ trivial trivial ⟨⟨by decide, (by show (0 : Int) ≤ 0 + 1; decide), rfl, ?_⟩, trivial⟩) ⟨trivial, rfl, az_wfb_ok (by decide), ?_, az_wfb_ok (by decide), ?_, az_wfb_ok (by decide), ?_, az_wfb_ok (by decide), ?_, az_wfb_ok (by decide), ?_, trivial⟩).mono ?_
  · show ja h 12 1 = (1 * ja h 12 1 + 0) + 0
    omega
  · show a0.toInt = (1 * a0.toInt + 0) + 0
    omega
  · show a1.toInt = (1 * a1.toInt + 0) + 0
    omega
  · show a2.toInt = (1 * a2.toInt + 0) + 0
    omega
  · show a3.toInt = (1 * a3.toInt + 0) + 0
    omega
  · show a4.toInt = (1 * a4.toInt + 0) + 0
    omega
  rintro rv h1 ⟨c1, c2, c3, q, q1, σ, s1, s2, s3⟩
  have e0 : σ 0 = a0.toInt := s1 0 (by decide)
  have e1 : σ 1 = a1.toInt := s1 1 (by decide)
  have e2 : σ 2 = a2.toInt := s1 2 (by decide)
  have e3 : σ 3 = a3.toInt := s1 3 (by decide)
  have e4 : σ 4 = a4.toInt := s1 4 (by decide)
  have e5 : σ 5 = ja h 12 1 := s1 5 (by decide)
  rcases List.mem_cons.mp q1 with rfl | q1
  · obtain ⟨w, rfl, hw⟩ := jO_int s3
    have hw : w.toInt = ((1 * σ 5 + 0) + 20) := hw
    have f := jgF_un s2.2.1
    have f0 : 0 ≤ (((-1) * σ 5 + 0) + 240) := f.1
    have t := jgT_un s2.2.2.2
    have t0 : ja h1 12 1 = ((1 * σ 5 + 0) + 20) := t.1 (by decide)
    exact ⟨w, rfl, c1, c2, c3, Or.inl ⟨by omega, by omega, by omega⟩⟩
  · rcases List.mem_singleton.mp q1 with rfl
    obtain ⟨w, rfl, hw⟩ := jO_int s3
    have hw : w.toInt = (-1 : Int) := hw
    have f := jgF_un s2.2.1
    have f0 : 0 ≤ ((1 * σ 5 + 0) + (-241)) := f.1
    have t := jgT_un s2.2.2.2
    have t0 : ja h1 12 1 = ((1 * σ 5 + 0) + 0) := t.1 (by decide)
    exact ⟨w, rfl, c1, c2, c3, Or.inr (⟨by omega, by omega, by omega⟩)⟩
theorem ct_feed1_ok {P : si_P} (hxa : P.2.1 < P.1) {d : Nat} (hd : 1 ≤ d) {h : si_H} (a0 : Int32) (a1 : Int32) (a2 : Int32) (a3 : Int32) (a4 : Int32) (hH : az_HI P az_tb h) (hJ : js_J h) : az_X P d 238 0 (lv_args 0 [.ref (P.1 + 60), .int a0, .int a1, .int a2, .int a3, .int a4]) [] h (fun rv h1 => ∃ w : Int32, rv = some (.int w) ∧ az_HI P az_tb h1 ∧ js_J h1 ∧ az_same_out cq_feed1.2.2.2.2.1 h h1 ∧ ((w.toInt = (-1) ∧ 0 ≤ ja h 60 16 - 241 ∧ ja h1 60 16 = ja h 60 16) ∨ (w.toInt = ja h 60 16 + 20 ∧ 0 ≤ -ja h 60 16 + 240 ∧ ja h1 60 16 = ja h 60 16 + 20))) := by
  refine ((ok_cq_feed1 hxa).1 d hd (jρ [a0.toInt, a1.toInt, a2.toInt, a3.toInt, a4.toInt, ja h 60 16]) h [.ref (P.1 + 60), .int a0, .int a1, .int a2, .int a3, .int a4] hH hJ (jg_mk hH (by decide) (by decide) ⟨(jF32 a0), (jF32 a1), (jF32 a2), (jF32 a3), (jF32 a4), (ja_bd hH (i := 60) (k := 16) rfl), trivial⟩ trivial trivial ⟨⟨by decide, (by show (0 : Int) ≤ 0 + 16; decide), rfl, ?_⟩, trivial⟩) ⟨trivial, rfl, az_wfb_ok (by decide), ?_, az_wfb_ok (by decide), ?_, az_wfb_ok (by decide), ?_, az_wfb_ok (by decide), ?_, az_wfb_ok (by decide), ?_, trivial⟩).mono ?_
  · show ja h 60 16 = (1 * ja h 60 16 + 0) + 0
    omega
  · show a0.toInt = (1 * a0.toInt + 0) + 0
    omega
  · show a1.toInt = (1 * a1.toInt + 0) + 0
    omega
  · show a2.toInt = (1 * a2.toInt + 0) + 0
    omega
  · show a3.toInt = (1 * a3.toInt + 0) + 0
    omega
  · show a4.toInt = (1 * a4.toInt + 0) + 0
    omega
  rintro rv h1 ⟨c1, c2, c3, q, q1, σ, s1, s2, s3⟩
  have e0 : σ 0 = a0.toInt := s1 0 (by decide)
  have e1 : σ 1 = a1.toInt := s1 1 (by decide)
  have e2 : σ 2 = a2.toInt := s1 2 (by decide)
  have e3 : σ 3 = a3.toInt := s1 3 (by decide)
  have e4 : σ 4 = a4.toInt := s1 4 (by decide)
  have e5 : σ 5 = ja h 60 16 := s1 5 (by decide)
  rcases List.mem_cons.mp q1 with rfl | q1
  · obtain ⟨w, rfl, hw⟩ := jO_int s3
    have hw : w.toInt = (-1 : Int) := hw
    have f := jgF_un s2.2.1
    have f0 : 0 ≤ ((1 * σ 5 + 0) + (-241)) := f.1
    have t := jgT_un s2.2.2.2
    have t0 : ja h1 60 16 = ((1 * σ 5 + 0) + 0) := t.1 (by decide)
    exact ⟨w, rfl, c1, c2, c3, Or.inl ⟨by omega, by omega, by omega⟩⟩
  · rcases List.mem_singleton.mp q1 with rfl
    obtain ⟨w, rfl, hw⟩ := jO_int s3
    have hw : w.toInt = ((1 * σ 5 + 0) + 20) := hw
    have f := jgF_un s2.2.1
    have f0 : 0 ≤ (((-1) * σ 5 + 0) + 240) := f.1
    have t := jgT_un s2.2.2.2
    have t0 : ja h1 60 16 = ((1 * σ 5 + 0) + 20) := t.1 (by decide)
    exact ⟨w, rfl, c1, c2, c3, Or.inr (⟨by omega, by omega, by omega⟩)⟩
theorem ct_law0_ok {P : si_P} (hxa : P.2.1 < P.1) {d : Nat} (hd : 24 ≤ d) {h : si_H} (a0 : Int32) (hH : az_HI P az_tb h) (hJ : js_J h) : az_X P d 146 0 (lv_args 0 [.ref (P.1 + 0), .int a0]) [] h (fun rv h1 => ∃ w : Int32, rv = some (.int w) ∧ az_HI P az_tb h1 ∧ js_J h1 ∧ az_same_out cq_law0.2.2.2.2.1 h h1 ∧ ((∃ z2 : Int, ((-7000) ≤ z2 ∧ z2 ≤ 16) ∧ w.toInt = z2 ∧ 0 ≤ a0.toInt - 1 ∧ 0 ≤ -a0.toInt + 240 ∧ 0 ≤ -a0.toInt + ja h 12 1 ∧ ja h1 12 1 = 0) ∨ (w.toInt = (-1) ∧ 0 ≤ a0.toInt - 1 ∧ 0 ≤ -a0.toInt + 240 ∧ 0 ≤ -ja h 12 1 + a0.toInt - 1 ∧ ja h1 12 1 = ja h 12 1) ∨ (w.toInt = (-1) ∧ 0 ≤ a0.toInt - 1 ∧ 0 ≤ a0.toInt - 241 ∧ ja h1 12 1 = ja h 12 1) ∨ (w.toInt = (-1) ∧ 0 ≤ -a0.toInt + 240 ∧ 0 ≤ -a0.toInt ∧ 0 ≤ -a0.toInt + ja h 12 1 ∧ ja h1 12 1 = ja h 12 1))) := by
  refine ((ok_cq_law0 hxa).1 d hd (jρ [a0.toInt, ja h 12 1]) h [.ref (P.1 + 0), .int a0] hH hJ (jg_mk hH (by decide) (by decide) ⟨(jF32 a0), (ja_bd hH (i := 12) (k := 1) rfl), trivial⟩ trivial trivial ⟨⟨by decide, (by show (0 : Int) ≤ 0 + 1; decide), rfl, ?_⟩, trivial⟩) ⟨trivial, rfl, az_wfb_ok (by decide), ?_, trivial⟩).mono ?_
  · show ja h 12 1 = (1 * ja h 12 1 + 0) + 0
    omega
  · show a0.toInt = (1 * a0.toInt + 0) + 0
    omega
  rintro rv h1 ⟨c1, c2, c3, q, q1, σ, s1, s2, s3⟩
  have e0 : σ 0 = a0.toInt := s1 0 (by decide)
  have e1 : σ 1 = ja h 12 1 := s1 1 (by decide)
  rcases List.mem_cons.mp q1 with rfl | q1
  · obtain ⟨w, rfl, hw⟩ := jO_int s3
    have hw : w.toInt = ((1 * σ 2 + 0) + 0) := hw
    have f := jgF_un s2.2.1
    have f0 : 0 ≤ ((1 * σ 0 + 0) + (-1)) := f.1
    have f1 : 0 ≤ (((-1) * σ 0 + 0) + 240) := f.2.1
    have f2 : 0 ≤ (((-1) * σ 0 + (1 * σ 1 + 0)) + 0) := f.2.2.1
    have i2 : (-7000) ≤ σ 2 ∧ σ 2 ≤ 16 := s2.1 2 _ rfl
    have t := jgT_un s2.2.2.2
    have t0 : ja h1 12 1 = (0 : Int) := t.1 (by decide)
    exact ⟨w, rfl, c1, c2, c3, Or.inl ⟨σ 2, i2, by omega, by omega, by omega, by omega, by omega⟩⟩
  rcases List.mem_cons.mp q1 with rfl | q1
  · obtain ⟨w, rfl, hw⟩ := jO_int s3
    have hw : w.toInt = (-1 : Int) := hw
    have f := jgF_un s2.2.1
    have f0 : 0 ≤ ((1 * σ 0 + 0) + (-1)) := f.1
    have f1 : 0 ≤ (((-1) * σ 0 + 0) + 240) := f.2.1
    have f2 : 0 ≤ (((-1) * σ 1 + (1 * σ 0 + 0)) + (-1)) := f.2.2.1
    have t := jgT_un s2.2.2.2
    have t0 : ja h1 12 1 = ((1 * σ 1 + 0) + 0) := t.1 (by decide)
    exact ⟨w, rfl, c1, c2, c3, Or.inr (Or.inl ⟨by omega, by omega, by omega, by omega, by omega⟩)⟩
  rcases List.mem_cons.mp q1 with rfl | q1
  · obtain ⟨w, rfl, hw⟩ := jO_int s3
    have hw : w.toInt = (-1 : Int) := hw
    have f := jgF_un s2.2.1
    have f0 : 0 ≤ ((1 * σ 0 + 0) + (-1)) := f.1
    have f1 : 0 ≤ ((1 * σ 0 + 0) + (-241)) := f.2.1
    have t := jgT_un s2.2.2.2
    have t0 : ja h1 12 1 = ((1 * σ 1 + 0) + 0) := t.1 (by decide)
    exact ⟨w, rfl, c1, c2, c3, Or.inr (Or.inr (Or.inl ⟨by omega, by omega, by omega, by omega⟩))⟩
  · rcases List.mem_singleton.mp q1 with rfl
    obtain ⟨w, rfl, hw⟩ := jO_int s3
    have hw : w.toInt = (-1 : Int) := hw
    have f := jgF_un s2.2.1
    have f0 : 0 ≤ (((-1) * σ 0 + 0) + 240) := f.1
    have f1 : 0 ≤ (((-1) * σ 0 + 0) + 0) := f.2.1
    have f2 : 0 ≤ (((-1) * σ 0 + (1 * σ 1 + 0)) + 0) := f.2.2.1
    have t := jgT_un s2.2.2.2
    have t0 : ja h1 12 1 = ((1 * σ 1 + 0) + 0) := t.1 (by decide)
    exact ⟨w, rfl, c1, c2, c3, Or.inr (Or.inr (Or.inr (⟨by omega, by omega, by omega, by omega, by omega⟩)))⟩
theorem ct_clocks0_ok {P : si_P} (hxa : P.2.1 < P.1) {d : Nat} (hd : 5 ≤ d) {h : si_H} (a0 : Int32) (hH : az_HI P az_tb h) (hJ : js_J h) : az_X P d 147 0 (lv_args 0 [.ref (P.1 + 0), .int a0]) [] h (fun rv h1 => ∃ w : Int32, rv = some (.int w) ∧ az_HI P az_tb h1 ∧ js_J h1 ∧ az_same_out cq_clocks0.2.2.2.2.1 h h1 ∧ ((∃ z2 : Int, ((-7000) ≤ z2 ∧ z2 ≤ 9) ∧ w.toInt = z2 ∧ 0 ≤ a0.toInt - 1 ∧ 0 ≤ -a0.toInt + 120 ∧ 0 ≤ -a0.toInt + ja h 12 1 ∧ ja h1 12 1 = 0) ∨ (w.toInt = (-1) ∧ 0 ≤ a0.toInt - 1 ∧ 0 ≤ -a0.toInt + 120 ∧ 0 ≤ -ja h 12 1 + a0.toInt - 1 ∧ ja h1 12 1 = ja h 12 1) ∨ (w.toInt = (-1) ∧ 0 ≤ a0.toInt - 1 ∧ 0 ≤ a0.toInt - 121 ∧ ja h1 12 1 = ja h 12 1) ∨ (w.toInt = (-1) ∧ 0 ≤ -a0.toInt + 120 ∧ 0 ≤ -a0.toInt ∧ 0 ≤ -a0.toInt + ja h 12 1 ∧ ja h1 12 1 = ja h 12 1))) := by
  refine ((ok_cq_clocks0 hxa).1 d hd (jρ [a0.toInt, ja h 12 1]) h [.ref (P.1 + 0), .int a0] hH hJ (jg_mk hH (by decide) (by decide) ⟨(jF32 a0), (ja_bd hH (i := 12) (k := 1) rfl), trivial⟩ trivial trivial ⟨⟨by decide, (by show (0 : Int) ≤ 0 + 1; decide), rfl, ?_⟩, trivial⟩) ⟨trivial, rfl, az_wfb_ok (by decide), ?_, trivial⟩).mono ?_
  · show ja h 12 1 = (1 * ja h 12 1 + 0) + 0
    omega
  · show a0.toInt = (1 * a0.toInt + 0) + 0
    omega
  rintro rv h1 ⟨c1, c2, c3, q, q1, σ, s1, s2, s3⟩
  have e0 : σ 0 = a0.toInt := s1 0 (by decide)
  have e1 : σ 1 = ja h 12 1 := s1 1 (by decide)
  rcases List.mem_cons.mp q1 with rfl | q1
  · obtain ⟨w, rfl, hw⟩ := jO_int s3
    have hw : w.toInt = ((1 * σ 2 + 0) + 0) := hw
    have f := jgF_un s2.2.1
    have f0 : 0 ≤ ((1 * σ 0 + 0) + (-1)) := f.1
    have f1 : 0 ≤ (((-1) * σ 0 + 0) + 120) := f.2.1
    have f2 : 0 ≤ (((-1) * σ 0 + (1 * σ 1 + 0)) + 0) := f.2.2.1
    have i2 : (-7000) ≤ σ 2 ∧ σ 2 ≤ 9 := s2.1 2 _ rfl
    have t := jgT_un s2.2.2.2
    have t0 : ja h1 12 1 = (0 : Int) := t.1 (by decide)
    exact ⟨w, rfl, c1, c2, c3, Or.inl ⟨σ 2, i2, by omega, by omega, by omega, by omega, by omega⟩⟩
  rcases List.mem_cons.mp q1 with rfl | q1
  · obtain ⟨w, rfl, hw⟩ := jO_int s3
    have hw : w.toInt = (-1 : Int) := hw
    have f := jgF_un s2.2.1
    have f0 : 0 ≤ ((1 * σ 0 + 0) + (-1)) := f.1
    have f1 : 0 ≤ (((-1) * σ 0 + 0) + 120) := f.2.1
    have f2 : 0 ≤ (((-1) * σ 1 + (1 * σ 0 + 0)) + (-1)) := f.2.2.1
    have t := jgT_un s2.2.2.2
    have t0 : ja h1 12 1 = ((1 * σ 1 + 0) + 0) := t.1 (by decide)
    exact ⟨w, rfl, c1, c2, c3, Or.inr (Or.inl ⟨by omega, by omega, by omega, by omega, by omega⟩)⟩
  rcases List.mem_cons.mp q1 with rfl | q1
  · obtain ⟨w, rfl, hw⟩ := jO_int s3
    have hw : w.toInt = (-1 : Int) := hw
    have f := jgF_un s2.2.1
    have f0 : 0 ≤ ((1 * σ 0 + 0) + (-1)) := f.1
    have f1 : 0 ≤ ((1 * σ 0 + 0) + (-121)) := f.2.1
    have t := jgT_un s2.2.2.2
    have t0 : ja h1 12 1 = ((1 * σ 1 + 0) + 0) := t.1 (by decide)
    exact ⟨w, rfl, c1, c2, c3, Or.inr (Or.inr (Or.inl ⟨by omega, by omega, by omega, by omega⟩))⟩
  · rcases List.mem_singleton.mp q1 with rfl
    obtain ⟨w, rfl, hw⟩ := jO_int s3
    have hw : w.toInt = (-1 : Int) := hw
    have f := jgF_un s2.2.1
    have f0 : 0 ≤ (((-1) * σ 0 + 0) + 120) := f.1
    have f1 : 0 ≤ (((-1) * σ 0 + 0) + 0) := f.2.1
    have f2 : 0 ≤ (((-1) * σ 0 + (1 * σ 1 + 0)) + 0) := f.2.2.1
    have t := jgT_un s2.2.2.2
    have t0 : ja h1 12 1 = ((1 * σ 1 + 0) + 0) := t.1 (by decide)
    exact ⟨w, rfl, c1, c2, c3, Or.inr (Or.inr (Or.inr (⟨by omega, by omega, by omega, by omega, by omega⟩)))⟩
theorem ct_clocks1_ok {P : si_P} (hxa : P.2.1 < P.1) {d : Nat} (hd : 5 ≤ d) {h : si_H} (a0 : Int32) (hH : az_HI P az_tb h) (hJ : js_J h) : az_X P d 269 0 (lv_args 0 [.ref (P.1 + 60), .int a0]) [] h (fun rv h1 => ∃ w : Int32, rv = some (.int w) ∧ az_HI P az_tb h1 ∧ js_J h1 ∧ az_same_out cq_clocks1.2.2.2.2.1 h h1 ∧ ((w.toInt = (-1) ∧ 0 ≤ a0.toInt - 1 ∧ 0 ≤ -a0.toInt + 120 ∧ 0 ≤ -ja h 60 16 + a0.toInt - 1 ∧ ja h1 60 16 = ja h 60 16) ∨ (w.toInt = (-1) ∧ 0 ≤ a0.toInt - 1 ∧ 0 ≤ a0.toInt - 121 ∧ ja h1 60 16 = ja h 60 16) ∨ (w.toInt = (-1) ∧ 0 ≤ -a0.toInt + 120 ∧ 0 ≤ -a0.toInt ∧ 0 ≤ -a0.toInt + ja h 60 16 ∧ ja h1 60 16 = ja h 60 16) ∨ (∃ z2 : Int, ((-2147483648) ≤ z2 ∧ z2 ≤ 2147483647) ∧ w.toInt = z2 ∧ 0 ≤ a0.toInt - 1 ∧ 0 ≤ -a0.toInt + 120 ∧ 0 ≤ -a0.toInt + ja h 60 16 ∧ ja h1 60 16 = 0))) := by
  refine ((ok_cq_clocks1 hxa).1 d hd (jρ [a0.toInt, ja h 60 16]) h [.ref (P.1 + 60), .int a0] hH hJ (jg_mk hH (by decide) (by decide) ⟨(jF32 a0), (ja_bd hH (i := 60) (k := 16) rfl), trivial⟩ trivial trivial ⟨⟨by decide, (by show (0 : Int) ≤ 0 + 16; decide), rfl, ?_⟩, trivial⟩) ⟨trivial, rfl, az_wfb_ok (by decide), ?_, trivial⟩).mono ?_
  · show ja h 60 16 = (1 * ja h 60 16 + 0) + 0
    omega
  · show a0.toInt = (1 * a0.toInt + 0) + 0
    omega
  rintro rv h1 ⟨c1, c2, c3, q, q1, σ, s1, s2, s3⟩
  have e0 : σ 0 = a0.toInt := s1 0 (by decide)
  have e1 : σ 1 = ja h 60 16 := s1 1 (by decide)
  rcases List.mem_cons.mp q1 with rfl | q1
  · obtain ⟨w, rfl, hw⟩ := jO_int s3
    have hw : w.toInt = (-1 : Int) := hw
    have f := jgF_un s2.2.1
    have f0 : 0 ≤ ((1 * σ 0 + 0) + (-1)) := f.1
    have f1 : 0 ≤ (((-1) * σ 0 + 0) + 120) := f.2.1
    have f2 : 0 ≤ (((-1) * σ 1 + (1 * σ 0 + 0)) + (-1)) := f.2.2.1
    have t := jgT_un s2.2.2.2
    have t0 : ja h1 60 16 = ((1 * σ 1 + 0) + 0) := t.1 (by decide)
    exact ⟨w, rfl, c1, c2, c3, Or.inl ⟨by omega, by omega, by omega, by omega, by omega⟩⟩
  rcases List.mem_cons.mp q1 with rfl | q1
  · obtain ⟨w, rfl, hw⟩ := jO_int s3
    have hw : w.toInt = (-1 : Int) := hw
    have f := jgF_un s2.2.1
    have f0 : 0 ≤ ((1 * σ 0 + 0) + (-1)) := f.1
    have f1 : 0 ≤ ((1 * σ 0 + 0) + (-121)) := f.2.1
    have t := jgT_un s2.2.2.2
    have t0 : ja h1 60 16 = ((1 * σ 1 + 0) + 0) := t.1 (by decide)
    exact ⟨w, rfl, c1, c2, c3, Or.inr (Or.inl ⟨by omega, by omega, by omega, by omega⟩)⟩
  rcases List.mem_cons.mp q1 with rfl | q1
  · obtain ⟨w, rfl, hw⟩ := jO_int s3
    have hw : w.toInt = (-1 : Int) := hw
    have f := jgF_un s2.2.1
    have f0 : 0 ≤ (((-1) * σ 0 + 0) + 120) := f.1
    have f1 : 0 ≤ (((-1) * σ 0 + 0) + 0) := f.2.1
    have f2 : 0 ≤ (((-1) * σ 0 + (1 * σ 1 + 0)) + 0) := f.2.2.1
    have t := jgT_un s2.2.2.2
    have t0 : ja h1 60 16 = ((1 * σ 1 + 0) + 0) := t.1 (by decide)
    exact ⟨w, rfl, c1, c2, c3, Or.inr (Or.inr (Or.inl ⟨by omega, by omega, by omega, by omega, by omega⟩))⟩
  · rcases List.mem_singleton.mp q1 with rfl
    obtain ⟨w, rfl, hw⟩ := jO_int s3
    have hw : w.toInt = ((1 * σ 2 + 0) + 0) := hw
    have f := jgF_un s2.2.1
    have f0 : 0 ≤ ((1 * σ 0 + 0) + (-1)) := f.1
    have f1 : 0 ≤ (((-1) * σ 0 + 0) + 120) := f.2.1
    have f2 : 0 ≤ (((-1) * σ 0 + (1 * σ 1 + 0)) + 0) := f.2.2.1
    have i2 : (-2147483648) ≤ σ 2 ∧ σ 2 ≤ 2147483647 := s2.1 2 _ rfl
    have t := jgT_un s2.2.2.2
    have t0 : ja h1 60 16 = (0 : Int) := t.1 (by decide)
    exact ⟨w, rfl, c1, c2, c3, Or.inr (Or.inr (Or.inr (⟨σ 2, i2, by omega, by omega, by omega, by omega, by omega⟩)))⟩
theorem ct_book0_ok {P : si_P} (hxa : P.2.1 < P.1) {d : Nat} (hd : 5 ≤ d) {h : si_H} (a0 : Int32) (hH : az_HI P az_tb h) (hJ : js_J h) : az_X P d 148 0 (lv_args 0 [.ref (P.1 + 0), .int a0]) [] h (fun rv h1 => ∃ w : Int32, rv = some (.int w) ∧ az_HI P az_tb h1 ∧ js_J h1 ∧ az_same_out cq_book0.2.2.2.2.1 h h1 ∧ ((∃ z2 : Int, ((-7000) ≤ z2 ∧ z2 ≤ 16) ∧ w.toInt = z2 ∧ 0 ≤ a0.toInt - 1 ∧ 0 ≤ -a0.toInt + 160 ∧ 0 ≤ -a0.toInt + ja h 12 1 ∧ ja h1 12 1 = 0) ∨ (w.toInt = (-1) ∧ 0 ≤ a0.toInt - 1 ∧ 0 ≤ -a0.toInt + 160 ∧ 0 ≤ -ja h 12 1 + a0.toInt - 1 ∧ ja h1 12 1 = ja h 12 1) ∨ (w.toInt = (-1) ∧ 0 ≤ a0.toInt - 1 ∧ 0 ≤ a0.toInt - 161 ∧ ja h1 12 1 = ja h 12 1) ∨ (w.toInt = (-1) ∧ 0 ≤ -a0.toInt + 160 ∧ 0 ≤ -a0.toInt ∧ 0 ≤ -a0.toInt + ja h 12 1 ∧ ja h1 12 1 = ja h 12 1))) := by
  refine ((ok_cq_book0 hxa).1 d hd (jρ [a0.toInt, ja h 12 1]) h [.ref (P.1 + 0), .int a0] hH hJ (jg_mk hH (by decide) (by decide) ⟨(jF32 a0), (ja_bd hH (i := 12) (k := 1) rfl), trivial⟩ trivial trivial ⟨⟨by decide, (by show (0 : Int) ≤ 0 + 1; decide), rfl, ?_⟩, trivial⟩) ⟨trivial, rfl, az_wfb_ok (by decide), ?_, trivial⟩).mono ?_
  · show ja h 12 1 = (1 * ja h 12 1 + 0) + 0
    omega
  · show a0.toInt = (1 * a0.toInt + 0) + 0
    omega
  rintro rv h1 ⟨c1, c2, c3, q, q1, σ, s1, s2, s3⟩
  have e0 : σ 0 = a0.toInt := s1 0 (by decide)
  have e1 : σ 1 = ja h 12 1 := s1 1 (by decide)
  rcases List.mem_cons.mp q1 with rfl | q1
  · obtain ⟨w, rfl, hw⟩ := jO_int s3
    have hw : w.toInt = ((1 * σ 2 + 0) + 0) := hw
    have f := jgF_un s2.2.1
    have f0 : 0 ≤ ((1 * σ 0 + 0) + (-1)) := f.1
    have f1 : 0 ≤ (((-1) * σ 0 + 0) + 160) := f.2.1
    have f2 : 0 ≤ (((-1) * σ 0 + (1 * σ 1 + 0)) + 0) := f.2.2.1
    have i2 : (-7000) ≤ σ 2 ∧ σ 2 ≤ 16 := s2.1 2 _ rfl
    have t := jgT_un s2.2.2.2
    have t0 : ja h1 12 1 = (0 : Int) := t.1 (by decide)
    exact ⟨w, rfl, c1, c2, c3, Or.inl ⟨σ 2, i2, by omega, by omega, by omega, by omega, by omega⟩⟩
  rcases List.mem_cons.mp q1 with rfl | q1
  · obtain ⟨w, rfl, hw⟩ := jO_int s3
    have hw : w.toInt = (-1 : Int) := hw
    have f := jgF_un s2.2.1
    have f0 : 0 ≤ ((1 * σ 0 + 0) + (-1)) := f.1
    have f1 : 0 ≤ (((-1) * σ 0 + 0) + 160) := f.2.1
    have f2 : 0 ≤ (((-1) * σ 1 + (1 * σ 0 + 0)) + (-1)) := f.2.2.1
    have t := jgT_un s2.2.2.2
    have t0 : ja h1 12 1 = ((1 * σ 1 + 0) + 0) := t.1 (by decide)
    exact ⟨w, rfl, c1, c2, c3, Or.inr (Or.inl ⟨by omega, by omega, by omega, by omega, by omega⟩)⟩
  rcases List.mem_cons.mp q1 with rfl | q1
  · obtain ⟨w, rfl, hw⟩ := jO_int s3
    have hw : w.toInt = (-1 : Int) := hw
    have f := jgF_un s2.2.1
    have f0 : 0 ≤ ((1 * σ 0 + 0) + (-1)) := f.1
    have f1 : 0 ≤ ((1 * σ 0 + 0) + (-161)) := f.2.1
    have t := jgT_un s2.2.2.2
    have t0 : ja h1 12 1 = ((1 * σ 1 + 0) + 0) := t.1 (by decide)
    exact ⟨w, rfl, c1, c2, c3, Or.inr (Or.inr (Or.inl ⟨by omega, by omega, by omega, by omega⟩))⟩
  · rcases List.mem_singleton.mp q1 with rfl
    obtain ⟨w, rfl, hw⟩ := jO_int s3
    have hw : w.toInt = (-1 : Int) := hw
    have f := jgF_un s2.2.1
    have f0 : 0 ≤ (((-1) * σ 0 + 0) + 160) := f.1
    have f1 : 0 ≤ (((-1) * σ 0 + 0) + 0) := f.2.1
    have f2 : 0 ≤ (((-1) * σ 0 + (1 * σ 1 + 0)) + 0) := f.2.2.1
    have t := jgT_un s2.2.2.2
    have t0 : ja h1 12 1 = ((1 * σ 1 + 0) + 0) := t.1 (by decide)
    exact ⟨w, rfl, c1, c2, c3, Or.inr (Or.inr (Or.inr (⟨by omega, by omega, by omega, by omega, by omega⟩)))⟩
theorem ct_book1_ok {P : si_P} (hxa : P.2.1 < P.1) {d : Nat} (hd : 5 ≤ d) {h : si_H} (a0 : Int32) (hH : az_HI P az_tb h) (hJ : js_J h) : az_X P d 271 0 (lv_args 0 [.ref (P.1 + 60), .int a0]) [] h (fun rv h1 => ∃ w : Int32, rv = some (.int w) ∧ az_HI P az_tb h1 ∧ js_J h1 ∧ az_same_out cq_book1.2.2.2.2.1 h h1 ∧ ((w.toInt = (-1) ∧ 0 ≤ a0.toInt - 1 ∧ 0 ≤ -a0.toInt + 160 ∧ 0 ≤ -ja h 60 16 + a0.toInt - 1 ∧ ja h1 60 16 = ja h 60 16) ∨ (w.toInt = (-1) ∧ 0 ≤ a0.toInt - 1 ∧ 0 ≤ a0.toInt - 161 ∧ ja h1 60 16 = ja h 60 16) ∨ (w.toInt = (-1) ∧ 0 ≤ -a0.toInt + 160 ∧ 0 ≤ -a0.toInt ∧ 0 ≤ -a0.toInt + ja h 60 16 ∧ ja h1 60 16 = ja h 60 16) ∨ (∃ z2 : Int, ((-2147483648) ≤ z2 ∧ z2 ≤ 2147483647) ∧ w.toInt = z2 ∧ 0 ≤ a0.toInt - 1 ∧ 0 ≤ -a0.toInt + 160 ∧ 0 ≤ -a0.toInt + ja h 60 16 ∧ ja h1 60 16 = 0))) := by
  refine ((ok_cq_book1 hxa).1 d hd (jρ [a0.toInt, ja h 60 16]) h [.ref (P.1 + 60), .int a0] hH hJ (jg_mk hH (by decide) (by decide) ⟨(jF32 a0), (ja_bd hH (i := 60) (k := 16) rfl), trivial⟩ trivial trivial ⟨⟨by decide, (by show (0 : Int) ≤ 0 + 16; decide), rfl, ?_⟩, trivial⟩) ⟨trivial, rfl, az_wfb_ok (by decide), ?_, trivial⟩).mono ?_
  · show ja h 60 16 = (1 * ja h 60 16 + 0) + 0
    omega
  · show a0.toInt = (1 * a0.toInt + 0) + 0
    omega
  rintro rv h1 ⟨c1, c2, c3, q, q1, σ, s1, s2, s3⟩
  have e0 : σ 0 = a0.toInt := s1 0 (by decide)
  have e1 : σ 1 = ja h 60 16 := s1 1 (by decide)
  rcases List.mem_cons.mp q1 with rfl | q1
  · obtain ⟨w, rfl, hw⟩ := jO_int s3
    have hw : w.toInt = (-1 : Int) := hw
    have f := jgF_un s2.2.1
    have f0 : 0 ≤ ((1 * σ 0 + 0) + (-1)) := f.1
    have f1 : 0 ≤ (((-1) * σ 0 + 0) + 160) := f.2.1
    have f2 : 0 ≤ (((-1) * σ 1 + (1 * σ 0 + 0)) + (-1)) := f.2.2.1
    have t := jgT_un s2.2.2.2
    have t0 : ja h1 60 16 = ((1 * σ 1 + 0) + 0) := t.1 (by decide)
    exact ⟨w, rfl, c1, c2, c3, Or.inl ⟨by omega, by omega, by omega, by omega, by omega⟩⟩
  rcases List.mem_cons.mp q1 with rfl | q1
  · obtain ⟨w, rfl, hw⟩ := jO_int s3
    have hw : w.toInt = (-1 : Int) := hw
    have f := jgF_un s2.2.1
    have f0 : 0 ≤ ((1 * σ 0 + 0) + (-1)) := f.1
    have f1 : 0 ≤ ((1 * σ 0 + 0) + (-161)) := f.2.1
    have t := jgT_un s2.2.2.2
    have t0 : ja h1 60 16 = ((1 * σ 1 + 0) + 0) := t.1 (by decide)
    exact ⟨w, rfl, c1, c2, c3, Or.inr (Or.inl ⟨by omega, by omega, by omega, by omega⟩)⟩
  rcases List.mem_cons.mp q1 with rfl | q1
  · obtain ⟨w, rfl, hw⟩ := jO_int s3
    have hw : w.toInt = (-1 : Int) := hw
    have f := jgF_un s2.2.1
    have f0 : 0 ≤ (((-1) * σ 0 + 0) + 160) := f.1
    have f1 : 0 ≤ (((-1) * σ 0 + 0) + 0) := f.2.1
    have f2 : 0 ≤ (((-1) * σ 0 + (1 * σ 1 + 0)) + 0) := f.2.2.1
    have t := jgT_un s2.2.2.2
    have t0 : ja h1 60 16 = ((1 * σ 1 + 0) + 0) := t.1 (by decide)
    exact ⟨w, rfl, c1, c2, c3, Or.inr (Or.inr (Or.inl ⟨by omega, by omega, by omega, by omega, by omega⟩))⟩
  · rcases List.mem_singleton.mp q1 with rfl
    obtain ⟨w, rfl, hw⟩ := jO_int s3
    have hw : w.toInt = ((1 * σ 2 + 0) + 0) := hw
    have f := jgF_un s2.2.1
    have f0 : 0 ≤ ((1 * σ 0 + 0) + (-1)) := f.1
    have f1 : 0 ≤ (((-1) * σ 0 + 0) + 160) := f.2.1
    have f2 : 0 ≤ (((-1) * σ 0 + (1 * σ 1 + 0)) + 0) := f.2.2.1
    have i2 : (-2147483648) ≤ σ 2 ∧ σ 2 ≤ 2147483647 := s2.1 2 _ rfl
    have t := jgT_un s2.2.2.2
    have t0 : ja h1 60 16 = (0 : Int) := t.1 (by decide)
    exact ⟨w, rfl, c1, c2, c3, Or.inr (Or.inr (Or.inr (⟨σ 2, i2, by omega, by omega, by omega, by omega, by omega⟩)))⟩
theorem ct_photographs0_ok {P : si_P} (hxa : P.2.1 < P.1) {d : Nat} (hd : 5 ≤ d) {h : si_H} (a0 : Int32) (a1 : Int32) (a2 : Int32) (a3 : Int32) (hH : az_HI P az_tb h) (hJ : js_J h) : az_X P d 158 0 (lv_args 0 [.ref (P.1 + 0), .int a0, .int a1, .int a2, .int a3]) [] h (fun rv h1 => ∃ w : Int32, rv = some (.int w) ∧ az_HI P az_tb h1 ∧ js_J h1 ∧ az_same_out cq_photographs0.2.2.2.2.1 h h1 ∧ ((w.toInt = (-3) ∧ 0 ≤ a0.toInt - 1 ∧ 0 ≤ -a0.toInt + 8 ∧ 0 ≤ a1.toInt ∧ 0 ≤ -a1.toInt + 99 ∧ 0 ≤ -a1.toInt + a2.toInt ∧ 0 ≤ -a2.toInt + 99 ∧ 0 ≤ a3.toInt ∧ 0 ≤ -a3.toInt + 100 ∧ 0 ≤ -a3.toInt + 99 ∧ 0 ≤ -a3.toInt + a0.toInt - 1 ∧ 0 ≤ -2 * a0.toInt + ja h 12 1 ∧ ja h1 12 1 = 0) ∨ (∃ z5 : Int, ((-4) ≤ z5 ∧ z5 ≤ 20000) ∧ w.toInt = z5 ∧ 0 ≤ a0.toInt - 1 ∧ 0 ≤ -a0.toInt + 8 ∧ 0 ≤ a1.toInt ∧ 0 ≤ -a1.toInt + 99 ∧ 0 ≤ -a1.toInt + a2.toInt ∧ 0 ≤ -a2.toInt + 99 ∧ 0 ≤ a3.toInt ∧ 0 ≤ -a3.toInt + 100 ∧ 0 ≤ -a3.toInt + 99 ∧ 0 ≤ -a3.toInt + a0.toInt - 1 ∧ 0 ≤ -2 * a0.toInt + ja h 12 1 ∧ ja h1 12 1 = 0) ∨ (w.toInt = (-1) ∧ 0 ≤ a0.toInt - 1 ∧ 0 ≤ -a0.toInt + 8 ∧ 0 ≤ a1.toInt ∧ 0 ≤ -a1.toInt + 99 ∧ 0 ≤ -a1.toInt + a2.toInt ∧ 0 ≤ -a2.toInt + 99 ∧ 0 ≤ a3.toInt ∧ 0 ≤ -a3.toInt + 100 ∧ 0 ≤ -a3.toInt + 99 ∧ 0 ≤ -a3.toInt + a0.toInt - 1 ∧ 0 ≤ -ja h 12 1 + 2 * a0.toInt - 1 ∧ ja h1 12 1 = ja h 12 1) ∨ (w.toInt = (-1) ∧ 0 ≤ a0.toInt - 1 ∧ 0 ≤ -a0.toInt + 8 ∧ 0 ≤ a1.toInt ∧ 0 ≤ -a1.toInt + a2.toInt ∧ 0 ≤ a2.toInt - 100 ∧ 0 ≤ a3.toInt ∧ 0 ≤ -a3.toInt + 100 ∧ 0 ≤ -a3.toInt + 99 ∧ 0 ≤ -a3.toInt + a0.toInt - 1 ∧ ja h1 12 1 = ja h 12 1) ∨ (w.toInt = (-1) ∧ 0 ≤ a0.toInt - 1 ∧ 0 ≤ -a0.toInt + 8 ∧ 0 ≤ a1.toInt ∧ 0 ≤ -a2.toInt + a1.toInt - 1 ∧ 0 ≤ a3.toInt ∧ 0 ≤ -a3.toInt + 100 ∧ 0 ≤ -a3.toInt + 99 ∧ 0 ≤ -a3.toInt + a0.toInt - 1 ∧ ja h1 12 1 = ja h 12 1) ∨ (w.toInt = (-1) ∧ 0 ≤ a0.toInt - 1 ∧ 0 ≤ -a0.toInt + 8 ∧ 0 ≤ -a1.toInt - 1 ∧ 0 ≤ -a1.toInt + 99 ∧ 0 ≤ a3.toInt ∧ 0 ≤ -a3.toInt + 100 ∧ 0 ≤ -a3.toInt + 99 ∧ 0 ≤ -a3.toInt + a0.toInt - 1 ∧ ja h1 12 1 = ja h 12 1) ∨ (w.toInt = (-1) ∧ 0 ≤ a0.toInt - 1 ∧ 0 ≤ a0.toInt - 9 ∧ 0 ≤ a3.toInt ∧ 0 ≤ -a3.toInt + 100 ∧ 0 ≤ -a3.toInt + 99 ∧ 0 ≤ -a3.toInt + a0.toInt - 1 ∧ ja h1 12 1 = ja h 12 1) ∨ (w.toInt = (-1) ∧ 0 ≤ a0.toInt - 1 ∧ 0 ≤ -a0.toInt + 8 ∧ 0 ≤ a3.toInt ∧ 0 ≤ -a3.toInt + 100 ∧ 0 ≤ -a3.toInt + 99 ∧ 0 ≤ -a0.toInt + a3.toInt ∧ ja h1 12 1 = ja h 12 1) ∨ (w.toInt = (-1) ∧ 0 ≤ a0.toInt - 1 ∧ 0 ≤ a0.toInt - 9 ∧ 0 ≤ a3.toInt ∧ 0 ≤ -a3.toInt + 100 ∧ 0 ≤ -a3.toInt + 99 ∧ 0 ≤ -a0.toInt + a3.toInt ∧ ja h1 12 1 = ja h 12 1) ∨ (w.toInt = (-1) ∧ 0 ≤ -a0.toInt + 8 ∧ 0 ≤ -a0.toInt ∧ 0 ≤ a3.toInt ∧ 0 ≤ -a3.toInt + 100 ∧ 0 ≤ -a3.toInt + 99 ∧ 0 ≤ -a0.toInt + a3.toInt ∧ 0 ≤ -2 * a0.toInt + ja h 12 1 ∧ ja h1 12 1 = ja h 12 1) ∨ (w.toInt = (-1) ∧ 0 ≤ a0.toInt - 1 ∧ 0 ≤ -a0.toInt + 8 ∧ 0 ≤ -a3.toInt - 1 ∧ 0 ≤ -a3.toInt + 100 ∧ 0 ≤ -a3.toInt + 99 ∧ 0 ≤ -a3.toInt + a0.toInt - 1 ∧ ja h1 12 1 = ja h 12 1) ∨ (w.toInt = (-1) ∧ 0 ≤ a0.toInt - 1 ∧ 0 ≤ a0.toInt - 9 ∧ 0 ≤ -a3.toInt - 1 ∧ 0 ≤ -a3.toInt + 100 ∧ 0 ≤ -a3.toInt + 99 ∧ 0 ≤ -a3.toInt + a0.toInt - 1 ∧ ja h1 12 1 = ja h 12 1) ∨ (w.toInt = (-1) ∧ 0 ≤ -a0.toInt + 8 ∧ 0 ≤ -a0.toInt ∧ 0 ≤ -a3.toInt - 1 ∧ 0 ≤ -a3.toInt + 100 ∧ 0 ≤ -a3.toInt + 99 ∧ 0 ≤ -2 * a0.toInt + ja h 12 1 ∧ ja h1 12 1 = ja h 12 1) ∨ (w.toInt = (-1) ∧ 0 ≤ a0.toInt - 1 ∧ 0 ≤ a0.toInt - 9 ∧ 0 ≤ a3.toInt ∧ 0 ≤ a3.toInt - 100 ∧ 0 ≤ a3.toInt - 101 ∧ 0 ≤ -a3.toInt + a0.toInt - 1 ∧ ja h1 12 1 = ja h 12 1) ∨ (w.toInt = (-1) ∧ 0 ≤ a0.toInt - 1 ∧ 0 ≤ -a0.toInt + 8 ∧ 0 ≤ a3.toInt ∧ 0 ≤ a3.toInt - 100 ∧ 0 ≤ a3.toInt - 101 ∧ 0 ≤ -a0.toInt + a3.toInt ∧ ja h1 12 1 = ja h 12 1) ∨ (w.toInt = (-1) ∧ 0 ≤ a0.toInt - 1 ∧ 0 ≤ a0.toInt - 9 ∧ 0 ≤ a3.toInt ∧ 0 ≤ a3.toInt - 100 ∧ 0 ≤ a3.toInt - 101 ∧ 0 ≤ -a0.toInt + a3.toInt ∧ ja h1 12 1 = ja h 12 1) ∨ (w.toInt = (-1) ∧ 0 ≤ -a0.toInt + 8 ∧ 0 ≤ -a0.toInt ∧ 0 ≤ a3.toInt ∧ 0 ≤ a3.toInt - 100 ∧ 0 ≤ a3.toInt - 101 ∧ 0 ≤ -a0.toInt + a3.toInt ∧ 0 ≤ -2 * a0.toInt + ja h 12 1 ∧ ja h1 12 1 = ja h 12 1) ∨ (w.toInt = (-3) ∧ 0 ≤ a0.toInt - 1 ∧ 0 ≤ -a0.toInt + 8 ∧ 0 ≤ a1.toInt ∧ 0 ≤ -a1.toInt + 99 ∧ 0 ≤ -a1.toInt + a2.toInt ∧ 0 ≤ -a2.toInt + 99 ∧ 0 ≤ a3.toInt ∧ 0 ≤ a3.toInt - 100 ∧ 0 ≤ -a3.toInt + 100 ∧ 0 ≤ -a0.toInt + a3.toInt ∧ 0 ≤ -2 * a0.toInt + ja h 12 1 ∧ ja h1 12 1 = 0) ∨ (∃ z5 : Int, ((-2147483648) ≤ z5 ∧ z5 ≤ 2147483647) ∧ w.toInt = z5 ∧ 0 ≤ a0.toInt - 1 ∧ 0 ≤ -a0.toInt + 8 ∧ 0 ≤ a1.toInt ∧ 0 ≤ -a1.toInt + 99 ∧ 0 ≤ -a1.toInt + a2.toInt ∧ 0 ≤ -a2.toInt + 99 ∧ 0 ≤ a3.toInt ∧ 0 ≤ a3.toInt - 100 ∧ 0 ≤ -a3.toInt + 100 ∧ 0 ≤ -a0.toInt + a3.toInt ∧ 0 ≤ -2 * a0.toInt + ja h 12 1 ∧ ja h1 12 1 = 0) ∨ (w.toInt = (-1) ∧ 0 ≤ a0.toInt - 1 ∧ 0 ≤ -a0.toInt + 8 ∧ 0 ≤ a1.toInt ∧ 0 ≤ -a1.toInt + 99 ∧ 0 ≤ -a1.toInt + a2.toInt ∧ 0 ≤ -a2.toInt + 99 ∧ 0 ≤ a3.toInt ∧ 0 ≤ a3.toInt - 100 ∧ 0 ≤ -a3.toInt + 100 ∧ 0 ≤ -a0.toInt + a3.toInt ∧ 0 ≤ -ja h 12 1 + 2 * a0.toInt - 1 ∧ ja h1 12 1 = ja h 12 1) ∨ (w.toInt = (-1) ∧ 0 ≤ a0.toInt - 1 ∧ 0 ≤ -a0.toInt + 8 ∧ 0 ≤ a1.toInt ∧ 0 ≤ -a1.toInt + a2.toInt ∧ 0 ≤ a2.toInt - 100 ∧ 0 ≤ a3.toInt ∧ 0 ≤ a3.toInt - 100 ∧ 0 ≤ -a3.toInt + 100 ∧ 0 ≤ -a0.toInt + a3.toInt ∧ ja h1 12 1 = ja h 12 1) ∨ (w.toInt = (-1) ∧ 0 ≤ a0.toInt - 1 ∧ 0 ≤ -a0.toInt + 8 ∧ 0 ≤ a1.toInt ∧ 0 ≤ -a2.toInt + a1.toInt - 1 ∧ 0 ≤ a3.toInt ∧ 0 ≤ a3.toInt - 100 ∧ 0 ≤ -a3.toInt + 100 ∧ 0 ≤ -a0.toInt + a3.toInt ∧ ja h1 12 1 = ja h 12 1) ∨ (w.toInt = (-1) ∧ 0 ≤ a0.toInt - 1 ∧ 0 ≤ -a0.toInt + 8 ∧ 0 ≤ -a1.toInt - 1 ∧ 0 ≤ -a1.toInt + 99 ∧ 0 ≤ a3.toInt ∧ 0 ≤ a3.toInt - 100 ∧ 0 ≤ -a3.toInt + 100 ∧ 0 ≤ -a0.toInt + a3.toInt ∧ ja h1 12 1 = ja h 12 1) ∨ (w.toInt = (-1) ∧ 0 ≤ a0.toInt - 1 ∧ 0 ≤ a0.toInt - 9 ∧ 0 ≤ a3.toInt ∧ 0 ≤ a3.toInt - 100 ∧ 0 ≤ -a3.toInt + 100 ∧ ja h1 12 1 = ja h 12 1) ∨ (w.toInt = (-1) ∧ 0 ≤ -a0.toInt + 8 ∧ 0 ≤ -a0.toInt ∧ 0 ≤ a3.toInt ∧ 0 ≤ a3.toInt - 100 ∧ 0 ≤ -a3.toInt + 100 ∧ 0 ≤ -a0.toInt + a3.toInt ∧ 0 ≤ -2 * a0.toInt + ja h 12 1 ∧ ja h1 12 1 = ja h 12 1))) := by
  refine ((ok_cq_photographs0 hxa).1 d hd (jρ [a0.toInt, a1.toInt, a2.toInt, a3.toInt, ja h 12 1]) h [.ref (P.1 + 0), .int a0, .int a1, .int a2, .int a3] hH hJ (jg_mk hH (by decide) (by decide) ⟨(jF32 a0), (jF32 a1), (jF32 a2), (jF32 a3), (ja_bd hH (i := 12) (k := 1) rfl), trivial⟩ trivial trivial ⟨⟨by decide, (by show (0 : Int) ≤ 0 + 1; decide), rfl, ?_⟩, trivial⟩) ⟨trivial, rfl, az_wfb_ok (by decide), ?_, az_wfb_ok (by decide), ?_, az_wfb_ok (by decide), ?_, az_wfb_ok (by decide), ?_, trivial⟩).mono ?_
  · show ja h 12 1 = (1 * ja h 12 1 + 0) + 0
    omega
  · show a0.toInt = (1 * a0.toInt + 0) + 0
    omega
  · show a1.toInt = (1 * a1.toInt + 0) + 0
    omega
  · show a2.toInt = (1 * a2.toInt + 0) + 0
    omega
  · show a3.toInt = (1 * a3.toInt + 0) + 0
    omega
  rintro rv h1 ⟨c1, c2, c3, q, q1, σ, s1, s2, s3⟩
  have e0 : σ 0 = a0.toInt := s1 0 (by decide)
  have e1 : σ 1 = a1.toInt := s1 1 (by decide)
  have e2 : σ 2 = a2.toInt := s1 2 (by decide)
  have e3 : σ 3 = a3.toInt := s1 3 (by decide)
  have e4 : σ 4 = ja h 12 1 := s1 4 (by decide)
  rcases List.mem_cons.mp q1 with rfl | q1
  · obtain ⟨w, rfl, hw⟩ := jO_int s3
    have hw : w.toInt = (-3 : Int) := hw
    have f := jgF_un s2.2.1
    have f0 : 0 ≤ ((1 * σ 0 + 0) + (-1)) := f.1
    have f1 : 0 ≤ (((-1) * σ 0 + 0) + 8) := f.2.1
    have f2 : 0 ≤ ((1 * σ 1 + 0) + 0) := f.2.2.1
    have f3 : 0 ≤ (((-1) * σ 1 + 0) + 99) := f.2.2.2.1
    have f4 : 0 ≤ (((-1) * σ 1 + (1 * σ 2 + 0)) + 0) := f.2.2.2.2.1
    have f5 : 0 ≤ (((-1) * σ 2 + 0) + 99) := f.2.2.2.2.2.1
    have f6 : 0 ≤ ((1 * σ 3 + 0) + 0) := f.2.2.2.2.2.2.1
    have f7 : 0 ≤ (((-1) * σ 3 + 0) + 100) := f.2.2.2.2.2.2.2.1
    have f8 : 0 ≤ (((-1) * σ 3 + 0) + 99) := f.2.2.2.2.2.2.2.2.1
    have f9 : 0 ≤ (((-1) * σ 3 + (1 * σ 0 + 0)) + (-1)) := f.2.2.2.2.2.2.2.2.2.1
    have f10 : 0 ≤ (((-2) * σ 0 + (1 * σ 4 + 0)) + 0) := f.2.2.2.2.2.2.2.2.2.2.1
    have t := jgT_un s2.2.2.2
    have t0 : ja h1 12 1 = (0 : Int) := t.1 (by decide)
    exact ⟨w, rfl, c1, c2, c3, Or.inl ⟨by omega, by omega, by omega, by omega, by omega, by omega, by omega, by omega, by omega, by omega, by omega, by omega, by omega⟩⟩
  rcases List.mem_cons.mp q1 with rfl | q1
  · obtain ⟨w, rfl, hw⟩ := jO_int s3
    have hw : w.toInt = ((1 * σ 5 + 0) + 0) := hw
    have f := jgF_un s2.2.1
    have f0 : 0 ≤ ((1 * σ 0 + 0) + (-1)) := f.1
    have f1 : 0 ≤ (((-1) * σ 0 + 0) + 8) := f.2.1
    have f2 : 0 ≤ ((1 * σ 1 + 0) + 0) := f.2.2.1
    have f3 : 0 ≤ (((-1) * σ 1 + 0) + 99) := f.2.2.2.1
    have f4 : 0 ≤ (((-1) * σ 1 + (1 * σ 2 + 0)) + 0) := f.2.2.2.2.1
    have f5 : 0 ≤ (((-1) * σ 2 + 0) + 99) := f.2.2.2.2.2.1
    have f6 : 0 ≤ ((1 * σ 3 + 0) + 0) := f.2.2.2.2.2.2.1
    have f7 : 0 ≤ (((-1) * σ 3 + 0) + 100) := f.2.2.2.2.2.2.2.1
    have f8 : 0 ≤ (((-1) * σ 3 + 0) + 99) := f.2.2.2.2.2.2.2.2.1
    have f9 : 0 ≤ (((-1) * σ 3 + (1 * σ 0 + 0)) + (-1)) := f.2.2.2.2.2.2.2.2.2.1
    have f10 : 0 ≤ (((-2) * σ 0 + (1 * σ 4 + 0)) + 0) := f.2.2.2.2.2.2.2.2.2.2.1
    have i5 : (-4) ≤ σ 5 ∧ σ 5 ≤ 20000 := s2.1 5 _ rfl
    have t := jgT_un s2.2.2.2
    have t0 : ja h1 12 1 = (0 : Int) := t.1 (by decide)
    exact ⟨w, rfl, c1, c2, c3, Or.inr (Or.inl ⟨σ 5, i5, by omega, by omega, by omega, by omega, by omega, by omega, by omega, by omega, by omega, by omega, by omega, by omega, by omega⟩)⟩
  rcases List.mem_cons.mp q1 with rfl | q1
  · obtain ⟨w, rfl, hw⟩ := jO_int s3
    have hw : w.toInt = (-1 : Int) := hw
    have f := jgF_un s2.2.1
    have f0 : 0 ≤ ((1 * σ 0 + 0) + (-1)) := f.1
    have f1 : 0 ≤ (((-1) * σ 0 + 0) + 8) := f.2.1
    have f2 : 0 ≤ ((1 * σ 1 + 0) + 0) := f.2.2.1
    have f3 : 0 ≤ (((-1) * σ 1 + 0) + 99) := f.2.2.2.1
    have f4 : 0 ≤ (((-1) * σ 1 + (1 * σ 2 + 0)) + 0) := f.2.2.2.2.1
    have f5 : 0 ≤ (((-1) * σ 2 + 0) + 99) := f.2.2.2.2.2.1
    have f6 : 0 ≤ ((1 * σ 3 + 0) + 0) := f.2.2.2.2.2.2.1
    have f7 : 0 ≤ (((-1) * σ 3 + 0) + 100) := f.2.2.2.2.2.2.2.1
    have f8 : 0 ≤ (((-1) * σ 3 + 0) + 99) := f.2.2.2.2.2.2.2.2.1
    have f9 : 0 ≤ (((-1) * σ 3 + (1 * σ 0 + 0)) + (-1)) := f.2.2.2.2.2.2.2.2.2.1
    have f10 : 0 ≤ (((-1) * σ 4 + (2 * σ 0 + 0)) + (-1)) := f.2.2.2.2.2.2.2.2.2.2.1
    have t := jgT_un s2.2.2.2
    have t0 : ja h1 12 1 = ((1 * σ 4 + 0) + 0) := t.1 (by decide)
    exact ⟨w, rfl, c1, c2, c3, Or.inr (Or.inr (Or.inl ⟨by omega, by omega, by omega, by omega, by omega, by omega, by omega, by omega, by omega, by omega, by omega, by omega, by omega⟩))⟩
  rcases List.mem_cons.mp q1 with rfl | q1
  · obtain ⟨w, rfl, hw⟩ := jO_int s3
    have hw : w.toInt = (-1 : Int) := hw
    have f := jgF_un s2.2.1
    have f0 : 0 ≤ ((1 * σ 0 + 0) + (-1)) := f.1
    have f1 : 0 ≤ (((-1) * σ 0 + 0) + 8) := f.2.1
    have f2 : 0 ≤ ((1 * σ 1 + 0) + 0) := f.2.2.1
    have f3 : 0 ≤ (((-1) * σ 1 + (1 * σ 2 + 0)) + 0) := f.2.2.2.1
    have f4 : 0 ≤ ((1 * σ 2 + 0) + (-100)) := f.2.2.2.2.1
    have f5 : 0 ≤ ((1 * σ 3 + 0) + 0) := f.2.2.2.2.2.1
    have f6 : 0 ≤ (((-1) * σ 3 + 0) + 100) := f.2.2.2.2.2.2.1
    have f7 : 0 ≤ (((-1) * σ 3 + 0) + 99) := f.2.2.2.2.2.2.2.1
    have f8 : 0 ≤ (((-1) * σ 3 + (1 * σ 0 + 0)) + (-1)) := f.2.2.2.2.2.2.2.2.1
    have t := jgT_un s2.2.2.2
    have t0 : ja h1 12 1 = ((1 * σ 4 + 0) + 0) := t.1 (by decide)
    exact ⟨w, rfl, c1, c2, c3, Or.inr (Or.inr (Or.inr (Or.inl ⟨by omega, by omega, by omega, by omega, by omega, by omega, by omega, by omega, by omega, by omega, by omega⟩)))⟩
  rcases List.mem_cons.mp q1 with rfl | q1
  · obtain ⟨w, rfl, hw⟩ := jO_int s3
    have hw : w.toInt = (-1 : Int) := hw
    have f := jgF_un s2.2.1
    have f0 : 0 ≤ ((1 * σ 0 + 0) + (-1)) := f.1
    have f1 : 0 ≤ (((-1) * σ 0 + 0) + 8) := f.2.1
    have f2 : 0 ≤ ((1 * σ 1 + 0) + 0) := f.2.2.1
    have f3 : 0 ≤ (((-1) * σ 2 + (1 * σ 1 + 0)) + (-1)) := f.2.2.2.1
    have f4 : 0 ≤ ((1 * σ 3 + 0) + 0) := f.2.2.2.2.1
    have f5 : 0 ≤ (((-1) * σ 3 + 0) + 100) := f.2.2.2.2.2.1
    have f6 : 0 ≤ (((-1) * σ 3 + 0) + 99) := f.2.2.2.2.2.2.1
    have f7 : 0 ≤ (((-1) * σ 3 + (1 * σ 0 + 0)) + (-1)) := f.2.2.2.2.2.2.2.1
    have t := jgT_un s2.2.2.2
    have t0 : ja h1 12 1 = ((1 * σ 4 + 0) + 0) := t.1 (by decide)
    exact ⟨w, rfl, c1, c2, c3, Or.inr (Or.inr (Or.inr (Or.inr (Or.inl ⟨by omega, by omega, by omega, by omega, by omega, by omega, by omega, by omega, by omega, by omega⟩))))⟩
  rcases List.mem_cons.mp q1 with rfl | q1
  · obtain ⟨w, rfl, hw⟩ := jO_int s3
    have hw : w.toInt = (-1 : Int) := hw
    have f := jgF_un s2.2.1
    have f0 : 0 ≤ ((1 * σ 0 + 0) + (-1)) := f.1
    have f1 : 0 ≤ (((-1) * σ 0 + 0) + 8) := f.2.1
    have f2 : 0 ≤ (((-1) * σ 1 + 0) + (-1)) := f.2.2.1
    have f3 : 0 ≤ (((-1) * σ 1 + 0) + 99) := f.2.2.2.1
    have f4 : 0 ≤ ((1 * σ 3 + 0) + 0) := f.2.2.2.2.1
    have f5 : 0 ≤ (((-1) * σ 3 + 0) + 100) := f.2.2.2.2.2.1
    have f6 : 0 ≤ (((-1) * σ 3 + 0) + 99) := f.2.2.2.2.2.2.1
    have f7 : 0 ≤ (((-1) * σ 3 + (1 * σ 0 + 0)) + (-1)) := f.2.2.2.2.2.2.2.1
    have t := jgT_un s2.2.2.2
    have t0 : ja h1 12 1 = ((1 * σ 4 + 0) + 0) := t.1 (by decide)
    exact ⟨w, rfl, c1, c2, c3, Or.inr (Or.inr (Or.inr (Or.inr (Or.inr (Or.inl ⟨by omega, by omega, by omega, by omega, by omega, by omega, by omega, by omega, by omega, by omega⟩)))))⟩
  rcases List.mem_cons.mp q1 with rfl | q1
  · obtain ⟨w, rfl, hw⟩ := jO_int s3
    have hw : w.toInt = (-1 : Int) := hw
    have f := jgF_un s2.2.1
    have f0 : 0 ≤ ((1 * σ 0 + 0) + (-1)) := f.1
    have f1 : 0 ≤ ((1 * σ 0 + 0) + (-9)) := f.2.1
    have f2 : 0 ≤ ((1 * σ 3 + 0) + 0) := f.2.2.1
    have f3 : 0 ≤ (((-1) * σ 3 + 0) + 100) := f.2.2.2.1
    have f4 : 0 ≤ (((-1) * σ 3 + 0) + 99) := f.2.2.2.2.1
    have f5 : 0 ≤ (((-1) * σ 3 + (1 * σ 0 + 0)) + (-1)) := f.2.2.2.2.2.1
    have t := jgT_un s2.2.2.2
    have t0 : ja h1 12 1 = ((1 * σ 4 + 0) + 0) := t.1 (by decide)
    exact ⟨w, rfl, c1, c2, c3, Or.inr (Or.inr (Or.inr (Or.inr (Or.inr (Or.inr (Or.inl ⟨by omega, by omega, by omega, by omega, by omega, by omega, by omega, by omega⟩))))))⟩
  rcases List.mem_cons.mp q1 with rfl | q1
  · obtain ⟨w, rfl, hw⟩ := jO_int s3
    have hw : w.toInt = (-1 : Int) := hw
    have f := jgF_un s2.2.1
    have f0 : 0 ≤ ((1 * σ 0 + 0) + (-1)) := f.1
    have f1 : 0 ≤ (((-1) * σ 0 + 0) + 8) := f.2.1
    have f2 : 0 ≤ ((1 * σ 3 + 0) + 0) := f.2.2.1
    have f3 : 0 ≤ (((-1) * σ 3 + 0) + 100) := f.2.2.2.1
    have f4 : 0 ≤ (((-1) * σ 3 + 0) + 99) := f.2.2.2.2.1
    have f5 : 0 ≤ (((-1) * σ 0 + (1 * σ 3 + 0)) + 0) := f.2.2.2.2.2.1
    have t := jgT_un s2.2.2.2
    have t0 : ja h1 12 1 = ((1 * σ 4 + 0) + 0) := t.1 (by decide)
    exact ⟨w, rfl, c1, c2, c3, Or.inr (Or.inr (Or.inr (Or.inr (Or.inr (Or.inr (Or.inr (Or.inl ⟨by omega, by omega, by omega, by omega, by omega, by omega, by omega, by omega⟩)))))))⟩
  rcases List.mem_cons.mp q1 with rfl | q1
  · obtain ⟨w, rfl, hw⟩ := jO_int s3
    have hw : w.toInt = (-1 : Int) := hw
    have f := jgF_un s2.2.1
    have f0 : 0 ≤ ((1 * σ 0 + 0) + (-1)) := f.1
    have f1 : 0 ≤ ((1 * σ 0 + 0) + (-9)) := f.2.1
    have f2 : 0 ≤ ((1 * σ 3 + 0) + 0) := f.2.2.1
    have f3 : 0 ≤ (((-1) * σ 3 + 0) + 100) := f.2.2.2.1
    have f4 : 0 ≤ (((-1) * σ 3 + 0) + 99) := f.2.2.2.2.1
    have f5 : 0 ≤ (((-1) * σ 0 + (1 * σ 3 + 0)) + 0) := f.2.2.2.2.2.1
    have t := jgT_un s2.2.2.2
    have t0 : ja h1 12 1 = ((1 * σ 4 + 0) + 0) := t.1 (by decide)
    exact ⟨w, rfl, c1, c2, c3, Or.inr (Or.inr (Or.inr (Or.inr (Or.inr (Or.inr (Or.inr (Or.inr (Or.inl ⟨by omega, by omega, by omega, by omega, by omega, by omega, by omega, by omega⟩))))))))⟩
  rcases List.mem_cons.mp q1 with rfl | q1
  · obtain ⟨w, rfl, hw⟩ := jO_int s3
    have hw : w.toInt = (-1 : Int) := hw
    have f := jgF_un s2.2.1
    have f0 : 0 ≤ (((-1) * σ 0 + 0) + 8) := f.1
    have f1 : 0 ≤ (((-1) * σ 0 + 0) + 0) := f.2.1
    have f2 : 0 ≤ ((1 * σ 3 + 0) + 0) := f.2.2.1
    have f3 : 0 ≤ (((-1) * σ 3 + 0) + 100) := f.2.2.2.1
    have f4 : 0 ≤ (((-1) * σ 3 + 0) + 99) := f.2.2.2.2.1
    have f5 : 0 ≤ (((-1) * σ 0 + (1 * σ 3 + 0)) + 0) := f.2.2.2.2.2.1
    have f6 : 0 ≤ (((-2) * σ 0 + (1 * σ 4 + 0)) + 0) := f.2.2.2.2.2.2.1
    have t := jgT_un s2.2.2.2
    have t0 : ja h1 12 1 = ((1 * σ 4 + 0) + 0) := t.1 (by decide)
    exact ⟨w, rfl, c1, c2, c3, Or.inr (Or.inr (Or.inr (Or.inr (Or.inr (Or.inr (Or.inr (Or.inr (Or.inr (Or.inl ⟨by omega, by omega, by omega, by omega, by omega, by omega, by omega, by omega, by omega⟩)))))))))⟩
  rcases List.mem_cons.mp q1 with rfl | q1
  · obtain ⟨w, rfl, hw⟩ := jO_int s3
    have hw : w.toInt = (-1 : Int) := hw
    have f := jgF_un s2.2.1
    have f0 : 0 ≤ ((1 * σ 0 + 0) + (-1)) := f.1
    have f1 : 0 ≤ (((-1) * σ 0 + 0) + 8) := f.2.1
    have f2 : 0 ≤ (((-1) * σ 3 + 0) + (-1)) := f.2.2.1
    have f3 : 0 ≤ (((-1) * σ 3 + 0) + 100) := f.2.2.2.1
    have f4 : 0 ≤ (((-1) * σ 3 + 0) + 99) := f.2.2.2.2.1
    have f5 : 0 ≤ (((-1) * σ 3 + (1 * σ 0 + 0)) + (-1)) := f.2.2.2.2.2.1
    have t := jgT_un s2.2.2.2
    have t0 : ja h1 12 1 = ((1 * σ 4 + 0) + 0) := t.1 (by decide)
    exact ⟨w, rfl, c1, c2, c3, Or.inr (Or.inr (Or.inr (Or.inr (Or.inr (Or.inr (Or.inr (Or.inr (Or.inr (Or.inr (Or.inl ⟨by omega, by omega, by omega, by omega, by omega, by omega, by omega, by omega⟩))))))))))⟩
  rcases List.mem_cons.mp q1 with rfl | q1
  · obtain ⟨w, rfl, hw⟩ := jO_int s3
    have hw : w.toInt = (-1 : Int) := hw
    have f := jgF_un s2.2.1
    have f0 : 0 ≤ ((1 * σ 0 + 0) + (-1)) := f.1
    have f1 : 0 ≤ ((1 * σ 0 + 0) + (-9)) := f.2.1
    have f2 : 0 ≤ (((-1) * σ 3 + 0) + (-1)) := f.2.2.1
    have f3 : 0 ≤ (((-1) * σ 3 + 0) + 100) := f.2.2.2.1
    have f4 : 0 ≤ (((-1) * σ 3 + 0) + 99) := f.2.2.2.2.1
    have f5 : 0 ≤ (((-1) * σ 3 + (1 * σ 0 + 0)) + (-1)) := f.2.2.2.2.2.1
    have t := jgT_un s2.2.2.2
    have t0 : ja h1 12 1 = ((1 * σ 4 + 0) + 0) := t.1 (by decide)
    exact ⟨w, rfl, c1, c2, c3, Or.inr (Or.inr (Or.inr (Or.inr (Or.inr (Or.inr (Or.inr (Or.inr (Or.inr (Or.inr (Or.inr (Or.inl ⟨by omega, by omega, by omega, by omega, by omega, by omega, by omega, by omega⟩)))))))))))⟩
  rcases List.mem_cons.mp q1 with rfl | q1
  · obtain ⟨w, rfl, hw⟩ := jO_int s3
    have hw : w.toInt = (-1 : Int) := hw
    have f := jgF_un s2.2.1
    have f0 : 0 ≤ (((-1) * σ 0 + 0) + 8) := f.1
    have f1 : 0 ≤ (((-1) * σ 0 + 0) + 0) := f.2.1
    have f2 : 0 ≤ (((-1) * σ 3 + 0) + (-1)) := f.2.2.1
    have f3 : 0 ≤ (((-1) * σ 3 + 0) + 100) := f.2.2.2.1
    have f4 : 0 ≤ (((-1) * σ 3 + 0) + 99) := f.2.2.2.2.1
    have f5 : 0 ≤ (((-2) * σ 0 + (1 * σ 4 + 0)) + 0) := f.2.2.2.2.2.1
    have t := jgT_un s2.2.2.2
    have t0 : ja h1 12 1 = ((1 * σ 4 + 0) + 0) := t.1 (by decide)
    exact ⟨w, rfl, c1, c2, c3, Or.inr (Or.inr (Or.inr (Or.inr (Or.inr (Or.inr (Or.inr (Or.inr (Or.inr (Or.inr (Or.inr (Or.inr (Or.inl ⟨by omega, by omega, by omega, by omega, by omega, by omega, by omega, by omega⟩))))))))))))⟩
  rcases List.mem_cons.mp q1 with rfl | q1
  · obtain ⟨w, rfl, hw⟩ := jO_int s3
    have hw : w.toInt = (-1 : Int) := hw
    have f := jgF_un s2.2.1
    have f0 : 0 ≤ ((1 * σ 0 + 0) + (-1)) := f.1
    have f1 : 0 ≤ ((1 * σ 0 + 0) + (-9)) := f.2.1
    have f2 : 0 ≤ ((1 * σ 3 + 0) + 0) := f.2.2.1
    have f3 : 0 ≤ ((1 * σ 3 + 0) + (-100)) := f.2.2.2.1
    have f4 : 0 ≤ ((1 * σ 3 + 0) + (-101)) := f.2.2.2.2.1
    have f5 : 0 ≤ (((-1) * σ 3 + (1 * σ 0 + 0)) + (-1)) := f.2.2.2.2.2.1
    have t := jgT_un s2.2.2.2
    have t0 : ja h1 12 1 = ((1 * σ 4 + 0) + 0) := t.1 (by decide)
    exact ⟨w, rfl, c1, c2, c3, Or.inr (Or.inr (Or.inr (Or.inr (Or.inr (Or.inr (Or.inr (Or.inr (Or.inr (Or.inr (Or.inr (Or.inr (Or.inr (Or.inl ⟨by omega, by omega, by omega, by omega, by omega, by omega, by omega, by omega⟩)))))))))))))⟩
  rcases List.mem_cons.mp q1 with rfl | q1
  · obtain ⟨w, rfl, hw⟩ := jO_int s3
    have hw : w.toInt = (-1 : Int) := hw
    have f := jgF_un s2.2.1
    have f0 : 0 ≤ ((1 * σ 0 + 0) + (-1)) := f.1
    have f1 : 0 ≤ (((-1) * σ 0 + 0) + 8) := f.2.1
    have f2 : 0 ≤ ((1 * σ 3 + 0) + 0) := f.2.2.1
    have f3 : 0 ≤ ((1 * σ 3 + 0) + (-100)) := f.2.2.2.1
    have f4 : 0 ≤ ((1 * σ 3 + 0) + (-101)) := f.2.2.2.2.1
    have f5 : 0 ≤ (((-1) * σ 0 + (1 * σ 3 + 0)) + 0) := f.2.2.2.2.2.1
    have t := jgT_un s2.2.2.2
    have t0 : ja h1 12 1 = ((1 * σ 4 + 0) + 0) := t.1 (by decide)
    exact ⟨w, rfl, c1, c2, c3, Or.inr (Or.inr (Or.inr (Or.inr (Or.inr (Or.inr (Or.inr (Or.inr (Or.inr (Or.inr (Or.inr (Or.inr (Or.inr (Or.inr (Or.inl ⟨by omega, by omega, by omega, by omega, by omega, by omega, by omega, by omega⟩))))))))))))))⟩
  rcases List.mem_cons.mp q1 with rfl | q1
  · obtain ⟨w, rfl, hw⟩ := jO_int s3
    have hw : w.toInt = (-1 : Int) := hw
    have f := jgF_un s2.2.1
    have f0 : 0 ≤ ((1 * σ 0 + 0) + (-1)) := f.1
    have f1 : 0 ≤ ((1 * σ 0 + 0) + (-9)) := f.2.1
    have f2 : 0 ≤ ((1 * σ 3 + 0) + 0) := f.2.2.1
    have f3 : 0 ≤ ((1 * σ 3 + 0) + (-100)) := f.2.2.2.1
    have f4 : 0 ≤ ((1 * σ 3 + 0) + (-101)) := f.2.2.2.2.1
    have f5 : 0 ≤ (((-1) * σ 0 + (1 * σ 3 + 0)) + 0) := f.2.2.2.2.2.1
    have t := jgT_un s2.2.2.2
    have t0 : ja h1 12 1 = ((1 * σ 4 + 0) + 0) := t.1 (by decide)
    exact ⟨w, rfl, c1, c2, c3, Or.inr (Or.inr (Or.inr (Or.inr (Or.inr (Or.inr (Or.inr (Or.inr (Or.inr (Or.inr (Or.inr (Or.inr (Or.inr (Or.inr (Or.inr (Or.inl ⟨by omega, by omega, by omega, by omega, by omega, by omega, by omega, by omega⟩)))))))))))))))⟩
  rcases List.mem_cons.mp q1 with rfl | q1
  · obtain ⟨w, rfl, hw⟩ := jO_int s3
    have hw : w.toInt = (-1 : Int) := hw
    have f := jgF_un s2.2.1
    have f0 : 0 ≤ (((-1) * σ 0 + 0) + 8) := f.1
    have f1 : 0 ≤ (((-1) * σ 0 + 0) + 0) := f.2.1
    have f2 : 0 ≤ ((1 * σ 3 + 0) + 0) := f.2.2.1
    have f3 : 0 ≤ ((1 * σ 3 + 0) + (-100)) := f.2.2.2.1
    have f4 : 0 ≤ ((1 * σ 3 + 0) + (-101)) := f.2.2.2.2.1
    have f5 : 0 ≤ (((-1) * σ 0 + (1 * σ 3 + 0)) + 0) := f.2.2.2.2.2.1
    have f6 : 0 ≤ (((-2) * σ 0 + (1 * σ 4 + 0)) + 0) := f.2.2.2.2.2.2.1
    have t := jgT_un s2.2.2.2
    have t0 : ja h1 12 1 = ((1 * σ 4 + 0) + 0) := t.1 (by decide)
    exact ⟨w, rfl, c1, c2, c3, Or.inr (Or.inr (Or.inr (Or.inr (Or.inr (Or.inr (Or.inr (Or.inr (Or.inr (Or.inr (Or.inr (Or.inr (Or.inr (Or.inr (Or.inr (Or.inr (Or.inl ⟨by omega, by omega, by omega, by omega, by omega, by omega, by omega, by omega, by omega⟩))))))))))))))))⟩
  rcases List.mem_cons.mp q1 with rfl | q1
  · obtain ⟨w, rfl, hw⟩ := jO_int s3
    have hw : w.toInt = (-3 : Int) := hw
    have f := jgF_un s2.2.1
    have f0 : 0 ≤ ((1 * σ 0 + 0) + (-1)) := f.1
    have f1 : 0 ≤ (((-1) * σ 0 + 0) + 8) := f.2.1
    have f2 : 0 ≤ ((1 * σ 1 + 0) + 0) := f.2.2.1
    have f3 : 0 ≤ (((-1) * σ 1 + 0) + 99) := f.2.2.2.1
    have f4 : 0 ≤ (((-1) * σ 1 + (1 * σ 2 + 0)) + 0) := f.2.2.2.2.1
    have f5 : 0 ≤ (((-1) * σ 2 + 0) + 99) := f.2.2.2.2.2.1
    have f6 : 0 ≤ ((1 * σ 3 + 0) + 0) := f.2.2.2.2.2.2.1
    have f7 : 0 ≤ ((1 * σ 3 + 0) + (-100)) := f.2.2.2.2.2.2.2.1
    have f8 : 0 ≤ (((-1) * σ 3 + 0) + 100) := f.2.2.2.2.2.2.2.2.1
    have f9 : 0 ≤ (((-1) * σ 0 + (1 * σ 3 + 0)) + 0) := f.2.2.2.2.2.2.2.2.2.1
    have f10 : 0 ≤ (((-2) * σ 0 + (1 * σ 4 + 0)) + 0) := f.2.2.2.2.2.2.2.2.2.2.1
    have t := jgT_un s2.2.2.2
    have t0 : ja h1 12 1 = (0 : Int) := t.1 (by decide)
    exact ⟨w, rfl, c1, c2, c3, Or.inr (Or.inr (Or.inr (Or.inr (Or.inr (Or.inr (Or.inr (Or.inr (Or.inr (Or.inr (Or.inr (Or.inr (Or.inr (Or.inr (Or.inr (Or.inr (Or.inr (Or.inl ⟨by omega, by omega, by omega, by omega, by omega, by omega, by omega, by omega, by omega, by omega, by omega, by omega, by omega⟩)))))))))))))))))⟩
  rcases List.mem_cons.mp q1 with rfl | q1
  · obtain ⟨w, rfl, hw⟩ := jO_int s3
    have hw : w.toInt = ((1 * σ 5 + 0) + 0) := hw
    have f := jgF_un s2.2.1
    have f0 : 0 ≤ ((1 * σ 0 + 0) + (-1)) := f.1
    have f1 : 0 ≤ (((-1) * σ 0 + 0) + 8) := f.2.1
    have f2 : 0 ≤ ((1 * σ 1 + 0) + 0) := f.2.2.1
    have f3 : 0 ≤ (((-1) * σ 1 + 0) + 99) := f.2.2.2.1
    have f4 : 0 ≤ (((-1) * σ 1 + (1 * σ 2 + 0)) + 0) := f.2.2.2.2.1
    have f5 : 0 ≤ (((-1) * σ 2 + 0) + 99) := f.2.2.2.2.2.1
    have f6 : 0 ≤ ((1 * σ 3 + 0) + 0) := f.2.2.2.2.2.2.1
    have f7 : 0 ≤ ((1 * σ 3 + 0) + (-100)) := f.2.2.2.2.2.2.2.1
    have f8 : 0 ≤ (((-1) * σ 3 + 0) + 100) := f.2.2.2.2.2.2.2.2.1
    have f9 : 0 ≤ (((-1) * σ 0 + (1 * σ 3 + 0)) + 0) := f.2.2.2.2.2.2.2.2.2.1
    have f10 : 0 ≤ (((-2) * σ 0 + (1 * σ 4 + 0)) + 0) := f.2.2.2.2.2.2.2.2.2.2.1
    have i5 : (-2147483648) ≤ σ 5 ∧ σ 5 ≤ 2147483647 := s2.1 5 _ rfl
    have t := jgT_un s2.2.2.2
    have t0 : ja h1 12 1 = (0 : Int) := t.1 (by decide)
    exact ⟨w, rfl, c1, c2, c3, Or.inr (Or.inr (Or.inr (Or.inr (Or.inr (Or.inr (Or.inr (Or.inr (Or.inr (Or.inr (Or.inr (Or.inr (Or.inr (Or.inr (Or.inr (Or.inr (Or.inr (Or.inr (Or.inl ⟨σ 5, i5, by omega, by omega, by omega, by omega, by omega, by omega, by omega, by omega, by omega, by omega, by omega, by omega, by omega⟩))))))))))))))))))⟩
  rcases List.mem_cons.mp q1 with rfl | q1
  · obtain ⟨w, rfl, hw⟩ := jO_int s3
    have hw : w.toInt = (-1 : Int) := hw
    have f := jgF_un s2.2.1
    have f0 : 0 ≤ ((1 * σ 0 + 0) + (-1)) := f.1
    have f1 : 0 ≤ (((-1) * σ 0 + 0) + 8) := f.2.1
    have f2 : 0 ≤ ((1 * σ 1 + 0) + 0) := f.2.2.1
    have f3 : 0 ≤ (((-1) * σ 1 + 0) + 99) := f.2.2.2.1
    have f4 : 0 ≤ (((-1) * σ 1 + (1 * σ 2 + 0)) + 0) := f.2.2.2.2.1
    have f5 : 0 ≤ (((-1) * σ 2 + 0) + 99) := f.2.2.2.2.2.1
    have f6 : 0 ≤ ((1 * σ 3 + 0) + 0) := f.2.2.2.2.2.2.1
    have f7 : 0 ≤ ((1 * σ 3 + 0) + (-100)) := f.2.2.2.2.2.2.2.1
    have f8 : 0 ≤ (((-1) * σ 3 + 0) + 100) := f.2.2.2.2.2.2.2.2.1
    have f9 : 0 ≤ (((-1) * σ 0 + (1 * σ 3 + 0)) + 0) := f.2.2.2.2.2.2.2.2.2.1
    have f10 : 0 ≤ (((-1) * σ 4 + (2 * σ 0 + 0)) + (-1)) := f.2.2.2.2.2.2.2.2.2.2.1
    have t := jgT_un s2.2.2.2
    have t0 : ja h1 12 1 = ((1 * σ 4 + 0) + 0) := t.1 (by decide)
    exact ⟨w, rfl, c1, c2, c3, Or.inr (Or.inr (Or.inr (Or.inr (Or.inr (Or.inr (Or.inr (Or.inr (Or.inr (Or.inr (Or.inr (Or.inr (Or.inr (Or.inr (Or.inr (Or.inr (Or.inr (Or.inr (Or.inr (Or.inl ⟨by omega, by omega, by omega, by omega, by omega, by omega, by omega, by omega, by omega, by omega, by omega, by omega, by omega⟩)))))))))))))))))))⟩
  rcases List.mem_cons.mp q1 with rfl | q1
  · obtain ⟨w, rfl, hw⟩ := jO_int s3
    have hw : w.toInt = (-1 : Int) := hw
    have f := jgF_un s2.2.1
    have f0 : 0 ≤ ((1 * σ 0 + 0) + (-1)) := f.1
    have f1 : 0 ≤ (((-1) * σ 0 + 0) + 8) := f.2.1
    have f2 : 0 ≤ ((1 * σ 1 + 0) + 0) := f.2.2.1
    have f3 : 0 ≤ (((-1) * σ 1 + (1 * σ 2 + 0)) + 0) := f.2.2.2.1
    have f4 : 0 ≤ ((1 * σ 2 + 0) + (-100)) := f.2.2.2.2.1
    have f5 : 0 ≤ ((1 * σ 3 + 0) + 0) := f.2.2.2.2.2.1
    have f6 : 0 ≤ ((1 * σ 3 + 0) + (-100)) := f.2.2.2.2.2.2.1
    have f7 : 0 ≤ (((-1) * σ 3 + 0) + 100) := f.2.2.2.2.2.2.2.1
    have f8 : 0 ≤ (((-1) * σ 0 + (1 * σ 3 + 0)) + 0) := f.2.2.2.2.2.2.2.2.1
    have t := jgT_un s2.2.2.2
    have t0 : ja h1 12 1 = ((1 * σ 4 + 0) + 0) := t.1 (by decide)
    exact ⟨w, rfl, c1, c2, c3, Or.inr (Or.inr (Or.inr (Or.inr (Or.inr (Or.inr (Or.inr (Or.inr (Or.inr (Or.inr (Or.inr (Or.inr (Or.inr (Or.inr (Or.inr (Or.inr (Or.inr (Or.inr (Or.inr (Or.inr (Or.inl ⟨by omega, by omega, by omega, by omega, by omega, by omega, by omega, by omega, by omega, by omega, by omega⟩))))))))))))))))))))⟩
  rcases List.mem_cons.mp q1 with rfl | q1
  · obtain ⟨w, rfl, hw⟩ := jO_int s3
    have hw : w.toInt = (-1 : Int) := hw
    have f := jgF_un s2.2.1
    have f0 : 0 ≤ ((1 * σ 0 + 0) + (-1)) := f.1
    have f1 : 0 ≤ (((-1) * σ 0 + 0) + 8) := f.2.1
    have f2 : 0 ≤ ((1 * σ 1 + 0) + 0) := f.2.2.1
    have f3 : 0 ≤ (((-1) * σ 2 + (1 * σ 1 + 0)) + (-1)) := f.2.2.2.1
    have f4 : 0 ≤ ((1 * σ 3 + 0) + 0) := f.2.2.2.2.1
    have f5 : 0 ≤ ((1 * σ 3 + 0) + (-100)) := f.2.2.2.2.2.1
    have f6 : 0 ≤ (((-1) * σ 3 + 0) + 100) := f.2.2.2.2.2.2.1
    have f7 : 0 ≤ (((-1) * σ 0 + (1 * σ 3 + 0)) + 0) := f.2.2.2.2.2.2.2.1
    have t := jgT_un s2.2.2.2
    have t0 : ja h1 12 1 = ((1 * σ 4 + 0) + 0) := t.1 (by decide)
    exact ⟨w, rfl, c1, c2, c3, Or.inr (Or.inr (Or.inr (Or.inr (Or.inr (Or.inr (Or.inr (Or.inr (Or.inr (Or.inr (Or.inr (Or.inr (Or.inr (Or.inr (Or.inr (Or.inr (Or.inr (Or.inr (Or.inr (Or.inr (Or.inr (Or.inl ⟨by omega, by omega, by omega, by omega, by omega, by omega, by omega, by omega, by omega, by omega⟩)))))))))))))))))))))⟩
  rcases List.mem_cons.mp q1 with rfl | q1
  · obtain ⟨w, rfl, hw⟩ := jO_int s3
    have hw : w.toInt = (-1 : Int) := hw
    have f := jgF_un s2.2.1
    have f0 : 0 ≤ ((1 * σ 0 + 0) + (-1)) := f.1
    have f1 : 0 ≤ (((-1) * σ 0 + 0) + 8) := f.2.1
    have f2 : 0 ≤ (((-1) * σ 1 + 0) + (-1)) := f.2.2.1
    have f3 : 0 ≤ (((-1) * σ 1 + 0) + 99) := f.2.2.2.1
    have f4 : 0 ≤ ((1 * σ 3 + 0) + 0) := f.2.2.2.2.1
    have f5 : 0 ≤ ((1 * σ 3 + 0) + (-100)) := f.2.2.2.2.2.1
    have f6 : 0 ≤ (((-1) * σ 3 + 0) + 100) := f.2.2.2.2.2.2.1
    have f7 : 0 ≤ (((-1) * σ 0 + (1 * σ 3 + 0)) + 0) := f.2.2.2.2.2.2.2.1
    have t := jgT_un s2.2.2.2
    have t0 : ja h1 12 1 = ((1 * σ 4 + 0) + 0) := t.1 (by decide)
    exact ⟨w, rfl, c1, c2, c3, Or.inr (Or.inr (Or.inr (Or.inr (Or.inr (Or.inr (Or.inr (Or.inr (Or.inr (Or.inr (Or.inr (Or.inr (Or.inr (Or.inr (Or.inr (Or.inr (Or.inr (Or.inr (Or.inr (Or.inr (Or.inr (Or.inr (Or.inl ⟨by omega, by omega, by omega, by omega, by omega, by omega, by omega, by omega, by omega, by omega⟩))))))))))))))))))))))⟩
  rcases List.mem_cons.mp q1 with rfl | q1
  · obtain ⟨w, rfl, hw⟩ := jO_int s3
    have hw : w.toInt = (-1 : Int) := hw
    have f := jgF_un s2.2.1
    have f0 : 0 ≤ ((1 * σ 0 + 0) + (-1)) := f.1
    have f1 : 0 ≤ ((1 * σ 0 + 0) + (-9)) := f.2.1
    have f2 : 0 ≤ ((1 * σ 3 + 0) + 0) := f.2.2.1
    have f3 : 0 ≤ ((1 * σ 3 + 0) + (-100)) := f.2.2.2.1
    have f4 : 0 ≤ (((-1) * σ 3 + 0) + 100) := f.2.2.2.2.1
    have t := jgT_un s2.2.2.2
    have t0 : ja h1 12 1 = ((1 * σ 4 + 0) + 0) := t.1 (by decide)
    exact ⟨w, rfl, c1, c2, c3, Or.inr (Or.inr (Or.inr (Or.inr (Or.inr (Or.inr (Or.inr (Or.inr (Or.inr (Or.inr (Or.inr (Or.inr (Or.inr (Or.inr (Or.inr (Or.inr (Or.inr (Or.inr (Or.inr (Or.inr (Or.inr (Or.inr (Or.inr (Or.inl ⟨by omega, by omega, by omega, by omega, by omega, by omega, by omega⟩)))))))))))))))))))))))⟩
  · rcases List.mem_singleton.mp q1 with rfl
    obtain ⟨w, rfl, hw⟩ := jO_int s3
    have hw : w.toInt = (-1 : Int) := hw
    have f := jgF_un s2.2.1
    have f0 : 0 ≤ (((-1) * σ 0 + 0) + 8) := f.1
    have f1 : 0 ≤ (((-1) * σ 0 + 0) + 0) := f.2.1
    have f2 : 0 ≤ ((1 * σ 3 + 0) + 0) := f.2.2.1
    have f3 : 0 ≤ ((1 * σ 3 + 0) + (-100)) := f.2.2.2.1
    have f4 : 0 ≤ (((-1) * σ 3 + 0) + 100) := f.2.2.2.2.1
    have f5 : 0 ≤ (((-1) * σ 0 + (1 * σ 3 + 0)) + 0) := f.2.2.2.2.2.1
    have f6 : 0 ≤ (((-2) * σ 0 + (1 * σ 4 + 0)) + 0) := f.2.2.2.2.2.2.1
    have t := jgT_un s2.2.2.2
    have t0 : ja h1 12 1 = ((1 * σ 4 + 0) + 0) := t.1 (by decide)
    exact ⟨w, rfl, c1, c2, c3, Or.inr (Or.inr (Or.inr (Or.inr (Or.inr (Or.inr (Or.inr (Or.inr (Or.inr (Or.inr (Or.inr (Or.inr (Or.inr (Or.inr (Or.inr (Or.inr (Or.inr (Or.inr (Or.inr (Or.inr (Or.inr (Or.inr (Or.inr (Or.inr (⟨by omega, by omega, by omega, by omega, by omega, by omega, by omega, by omega, by omega⟩))))))))))))))))))))))))⟩
theorem ct_photographs1_ok {P : si_P} (hxa : P.2.1 < P.1) {d : Nat} (hd : 4 ≤ d) {h : si_H} (a0 : Int32) (a1 : Int32) (a2 : Int32) (a3 : Int32) (hH : az_HI P az_tb h) (hJ : js_J h) : az_X P d 281 0 (lv_args 0 [.ref (P.1 + 60), .int a0, .int a1, .int a2, .int a3]) [] h (fun rv h1 => ∃ w : Int32, rv = some (.int w) ∧ az_HI P az_tb h1 ∧ js_J h1 ∧ az_same_out cq_photographs1.2.2.2.2.1 h h1 ∧ ((w.toInt = (-1) ∧ 0 ≤ a0.toInt - 1 ∧ 0 ≤ -a0.toInt + 8 ∧ 0 ≤ a1.toInt ∧ 0 ≤ -a1.toInt + 99 ∧ 0 ≤ -a1.toInt + a2.toInt ∧ 0 ≤ -a2.toInt + 99 ∧ 0 ≤ a3.toInt ∧ 0 ≤ -a3.toInt + 100 ∧ 0 ≤ -a3.toInt + 99 ∧ 0 ≤ -a3.toInt + a0.toInt - 1 ∧ 0 ≤ -ja h 60 16 + 2 * a0.toInt - 1 ∧ ja h1 60 16 = ja h 60 16) ∨ (w.toInt = (-3) ∧ 0 ≤ a0.toInt - 1 ∧ 0 ≤ -a0.toInt + 8 ∧ 0 ≤ a1.toInt ∧ 0 ≤ -a1.toInt + 99 ∧ 0 ≤ -a1.toInt + a2.toInt ∧ 0 ≤ -a2.toInt + 99 ∧ 0 ≤ a3.toInt ∧ 0 ≤ -a3.toInt + 100 ∧ 0 ≤ -a3.toInt + 99 ∧ 0 ≤ -a3.toInt + a0.toInt - 1 ∧ 0 ≤ -2 * a0.toInt + ja h 60 16 ∧ ja h1 60 16 = 0) ∨ (∃ z5 : Int, ((-4) ≤ z5 ∧ z5 ≤ 1439) ∧ w.toInt = z5 ∧ 0 ≤ a0.toInt - 1 ∧ 0 ≤ -a0.toInt + 8 ∧ 0 ≤ a1.toInt ∧ 0 ≤ -a1.toInt + 99 ∧ 0 ≤ -a1.toInt + a2.toInt ∧ 0 ≤ -a2.toInt + 99 ∧ 0 ≤ a3.toInt ∧ 0 ≤ -a3.toInt + 100 ∧ 0 ≤ -a3.toInt + 99 ∧ 0 ≤ -a3.toInt + a0.toInt - 1 ∧ 0 ≤ -2 * a0.toInt + ja h 60 16 ∧ ja h1 60 16 = 0) ∨ (w.toInt = (-1) ∧ 0 ≤ a0.toInt - 1 ∧ 0 ≤ -a0.toInt + 8 ∧ 0 ≤ a1.toInt ∧ 0 ≤ -a1.toInt + 99 ∧ 0 ≤ -a1.toInt + a2.toInt ∧ 0 ≤ -a2.toInt + 99 ∧ 0 ≤ a3.toInt ∧ 0 ≤ a3.toInt - 100 ∧ 0 ≤ -a3.toInt + 100 ∧ 0 ≤ -a0.toInt + a3.toInt ∧ 0 ≤ -ja h 60 16 + 2 * a0.toInt - 1 ∧ ja h1 60 16 = ja h 60 16) ∨ (w.toInt = (-3) ∧ 0 ≤ a0.toInt - 1 ∧ 0 ≤ -a0.toInt + 8 ∧ 0 ≤ a1.toInt ∧ 0 ≤ -a1.toInt + 99 ∧ 0 ≤ -a1.toInt + a2.toInt ∧ 0 ≤ -a2.toInt + 99 ∧ 0 ≤ a3.toInt ∧ 0 ≤ a3.toInt - 100 ∧ 0 ≤ -a3.toInt + 100 ∧ 0 ≤ -a0.toInt + a3.toInt ∧ 0 ≤ -2 * a0.toInt + ja h 60 16 ∧ ja h1 60 16 = 0) ∨ (w.toInt = (-1) ∧ 0 ≤ a0.toInt - 1 ∧ 0 ≤ -a0.toInt + 8 ∧ 0 ≤ a1.toInt ∧ 0 ≤ -a1.toInt + 99 ∧ 0 ≤ -a1.toInt + a2.toInt ∧ 0 ≤ -a2.toInt + 99 ∧ 0 ≤ a3.toInt ∧ 0 ≤ -a3.toInt + 100 ∧ 0 ≤ -a3.toInt + 99 ∧ 0 ≤ -a0.toInt + a3.toInt ∧ ja h1 60 16 = ja h 60 16) ∨ (w.toInt = (-1) ∧ 0 ≤ a0.toInt - 1 ∧ 0 ≤ -a0.toInt + 8 ∧ 0 ≤ a1.toInt ∧ 0 ≤ -a1.toInt + 99 ∧ 0 ≤ -a1.toInt + a2.toInt ∧ 0 ≤ -a2.toInt + 99 ∧ 0 ≤ a3.toInt ∧ 0 ≤ a3.toInt - 100 ∧ 0 ≤ a3.toInt - 101 ∧ 0 ≤ -a0.toInt + a3.toInt ∧ ja h1 60 16 = ja h 60 16) ∨ (w.toInt = (-1) ∧ 0 ≤ a0.toInt - 1 ∧ 0 ≤ -a0.toInt + 8 ∧ 0 ≤ a1.toInt ∧ 0 ≤ -a1.toInt + 99 ∧ 0 ≤ -a1.toInt + a2.toInt ∧ 0 ≤ -a2.toInt + 99 ∧ 0 ≤ -a3.toInt - 1 ∧ 0 ≤ -a3.toInt + 100 ∧ 0 ≤ -a3.toInt + 99 ∧ 0 ≤ -a3.toInt + a0.toInt - 1 ∧ ja h1 60 16 = ja h 60 16) ∨ (w.toInt = (-1) ∧ 0 ≤ a0.toInt - 1 ∧ 0 ≤ -a0.toInt + 8 ∧ 0 ≤ a1.toInt ∧ 0 ≤ -a1.toInt + 99 ∧ 0 ≤ -a1.toInt + a2.toInt ∧ 0 ≤ a2.toInt - 100 ∧ ja h1 60 16 = ja h 60 16) ∨ (w.toInt = (-1) ∧ 0 ≤ a0.toInt - 1 ∧ 0 ≤ -a0.toInt + 8 ∧ 0 ≤ a1.toInt ∧ 0 ≤ -a1.toInt + 99 ∧ 0 ≤ -a2.toInt + a1.toInt - 1 ∧ 0 ≤ -a2.toInt + 99 ∧ ja h1 60 16 = ja h 60 16) ∨ (w.toInt = (-1) ∧ 0 ≤ a0.toInt - 1 ∧ 0 ≤ -a0.toInt + 8 ∧ 0 ≤ a1.toInt ∧ 0 ≤ a1.toInt - 100 ∧ ja h1 60 16 = ja h 60 16) ∨ (w.toInt = (-1) ∧ 0 ≤ a0.toInt - 1 ∧ 0 ≤ -a0.toInt + 8 ∧ 0 ≤ -a1.toInt - 1 ∧ 0 ≤ -a1.toInt + 99 ∧ ja h1 60 16 = ja h 60 16) ∨ (w.toInt = (-1) ∧ 0 ≤ a0.toInt - 1 ∧ 0 ≤ a0.toInt - 9 ∧ ja h1 60 16 = ja h 60 16) ∨ (w.toInt = (-1) ∧ 0 ≤ -a0.toInt + 8 ∧ 0 ≤ -a0.toInt ∧ 0 ≤ -2 * a0.toInt + ja h 60 16 ∧ ja h1 60 16 = ja h 60 16) ∨ (∃ z5 : Int, ((-2147483648) ≤ z5 ∧ z5 ≤ 2147483647) ∧ w.toInt = z5 ∧ 0 ≤ a0.toInt - 1 ∧ 0 ≤ -a0.toInt + 8 ∧ 0 ≤ a1.toInt ∧ 0 ≤ -a1.toInt + 99 ∧ 0 ≤ -a1.toInt + a2.toInt ∧ 0 ≤ -a2.toInt + 99 ∧ 0 ≤ a3.toInt ∧ 0 ≤ a3.toInt - 100 ∧ 0 ≤ -a3.toInt + 100 ∧ 0 ≤ -a0.toInt + a3.toInt ∧ 0 ≤ -2 * a0.toInt + ja h 60 16 ∧ ja h1 60 16 = 0))) := by
  refine ((ok_cq_photographs1 hxa).1 d hd (jρ [a0.toInt, a1.toInt, a2.toInt, a3.toInt, ja h 60 16]) h [.ref (P.1 + 60), .int a0, .int a1, .int a2, .int a3] hH hJ (jg_mk hH (by decide) (by decide) ⟨(jF32 a0), (jF32 a1), (jF32 a2), (jF32 a3), (ja_bd hH (i := 60) (k := 16) rfl), trivial⟩ trivial trivial ⟨⟨by decide, (by show (0 : Int) ≤ 0 + 16; decide), rfl, ?_⟩, trivial⟩) ⟨trivial, rfl, az_wfb_ok (by decide), ?_, az_wfb_ok (by decide), ?_, az_wfb_ok (by decide), ?_, az_wfb_ok (by decide), ?_, trivial⟩).mono ?_
  · show ja h 60 16 = (1 * ja h 60 16 + 0) + 0
    omega
  · show a0.toInt = (1 * a0.toInt + 0) + 0
    omega
  · show a1.toInt = (1 * a1.toInt + 0) + 0
    omega
  · show a2.toInt = (1 * a2.toInt + 0) + 0
    omega
  · show a3.toInt = (1 * a3.toInt + 0) + 0
    omega
  rintro rv h1 ⟨c1, c2, c3, q, q1, σ, s1, s2, s3⟩
  have e0 : σ 0 = a0.toInt := s1 0 (by decide)
  have e1 : σ 1 = a1.toInt := s1 1 (by decide)
  have e2 : σ 2 = a2.toInt := s1 2 (by decide)
  have e3 : σ 3 = a3.toInt := s1 3 (by decide)
  have e4 : σ 4 = ja h 60 16 := s1 4 (by decide)
  rcases List.mem_cons.mp q1 with rfl | q1
  · obtain ⟨w, rfl, hw⟩ := jO_int s3
    have hw : w.toInt = (-1 : Int) := hw
    have f := jgF_un s2.2.1
    have f0 : 0 ≤ ((1 * σ 0 + 0) + (-1)) := f.1
    have f1 : 0 ≤ (((-1) * σ 0 + 0) + 8) := f.2.1
    have f2 : 0 ≤ ((1 * σ 1 + 0) + 0) := f.2.2.1
    have f3 : 0 ≤ (((-1) * σ 1 + 0) + 99) := f.2.2.2.1
    have f4 : 0 ≤ (((-1) * σ 1 + (1 * σ 2 + 0)) + 0) := f.2.2.2.2.1
    have f5 : 0 ≤ (((-1) * σ 2 + 0) + 99) := f.2.2.2.2.2.1
    have f6 : 0 ≤ ((1 * σ 3 + 0) + 0) := f.2.2.2.2.2.2.1
    have f7 : 0 ≤ (((-1) * σ 3 + 0) + 100) := f.2.2.2.2.2.2.2.1
    have f8 : 0 ≤ (((-1) * σ 3 + 0) + 99) := f.2.2.2.2.2.2.2.2.1
    have f9 : 0 ≤ (((-1) * σ 3 + (1 * σ 0 + 0)) + (-1)) := f.2.2.2.2.2.2.2.2.2.1
    have f10 : 0 ≤ (((-1) * σ 4 + (2 * σ 0 + 0)) + (-1)) := f.2.2.2.2.2.2.2.2.2.2.1
    have t := jgT_un s2.2.2.2
    have t0 : ja h1 60 16 = ((1 * σ 4 + 0) + 0) := t.1 (by decide)
    exact ⟨w, rfl, c1, c2, c3, Or.inl ⟨by omega, by omega, by omega, by omega, by omega, by omega, by omega, by omega, by omega, by omega, by omega, by omega, by omega⟩⟩
  rcases List.mem_cons.mp q1 with rfl | q1
  · obtain ⟨w, rfl, hw⟩ := jO_int s3
    have hw : w.toInt = (-3 : Int) := hw
    have f := jgF_un s2.2.1
    have f0 : 0 ≤ ((1 * σ 0 + 0) + (-1)) := f.1
    have f1 : 0 ≤ (((-1) * σ 0 + 0) + 8) := f.2.1
    have f2 : 0 ≤ ((1 * σ 1 + 0) + 0) := f.2.2.1
    have f3 : 0 ≤ (((-1) * σ 1 + 0) + 99) := f.2.2.2.1
    have f4 : 0 ≤ (((-1) * σ 1 + (1 * σ 2 + 0)) + 0) := f.2.2.2.2.1
    have f5 : 0 ≤ (((-1) * σ 2 + 0) + 99) := f.2.2.2.2.2.1
    have f6 : 0 ≤ ((1 * σ 3 + 0) + 0) := f.2.2.2.2.2.2.1
    have f7 : 0 ≤ (((-1) * σ 3 + 0) + 100) := f.2.2.2.2.2.2.2.1
    have f8 : 0 ≤ (((-1) * σ 3 + 0) + 99) := f.2.2.2.2.2.2.2.2.1
    have f9 : 0 ≤ (((-1) * σ 3 + (1 * σ 0 + 0)) + (-1)) := f.2.2.2.2.2.2.2.2.2.1
    have f10 : 0 ≤ (((-2) * σ 0 + (1 * σ 4 + 0)) + 0) := f.2.2.2.2.2.2.2.2.2.2.1
    have t := jgT_un s2.2.2.2
    have t0 : ja h1 60 16 = (0 : Int) := t.1 (by decide)
    exact ⟨w, rfl, c1, c2, c3, Or.inr (Or.inl ⟨by omega, by omega, by omega, by omega, by omega, by omega, by omega, by omega, by omega, by omega, by omega, by omega, by omega⟩)⟩
  rcases List.mem_cons.mp q1 with rfl | q1
  · obtain ⟨w, rfl, hw⟩ := jO_int s3
    have hw : w.toInt = ((1 * σ 5 + 0) + 0) := hw
    have f := jgF_un s2.2.1
    have f0 : 0 ≤ ((1 * σ 0 + 0) + (-1)) := f.1
    have f1 : 0 ≤ (((-1) * σ 0 + 0) + 8) := f.2.1
    have f2 : 0 ≤ ((1 * σ 1 + 0) + 0) := f.2.2.1
    have f3 : 0 ≤ (((-1) * σ 1 + 0) + 99) := f.2.2.2.1
    have f4 : 0 ≤ (((-1) * σ 1 + (1 * σ 2 + 0)) + 0) := f.2.2.2.2.1
    have f5 : 0 ≤ (((-1) * σ 2 + 0) + 99) := f.2.2.2.2.2.1
    have f6 : 0 ≤ ((1 * σ 3 + 0) + 0) := f.2.2.2.2.2.2.1
    have f7 : 0 ≤ (((-1) * σ 3 + 0) + 100) := f.2.2.2.2.2.2.2.1
    have f8 : 0 ≤ (((-1) * σ 3 + 0) + 99) := f.2.2.2.2.2.2.2.2.1
    have f9 : 0 ≤ (((-1) * σ 3 + (1 * σ 0 + 0)) + (-1)) := f.2.2.2.2.2.2.2.2.2.1
    have f10 : 0 ≤ (((-2) * σ 0 + (1 * σ 4 + 0)) + 0) := f.2.2.2.2.2.2.2.2.2.2.1
    have i5 : (-4) ≤ σ 5 ∧ σ 5 ≤ 1439 := s2.1 5 _ rfl
    have t := jgT_un s2.2.2.2
    have t0 : ja h1 60 16 = (0 : Int) := t.1 (by decide)
    exact ⟨w, rfl, c1, c2, c3, Or.inr (Or.inr (Or.inl ⟨σ 5, i5, by omega, by omega, by omega, by omega, by omega, by omega, by omega, by omega, by omega, by omega, by omega, by omega, by omega⟩))⟩
  rcases List.mem_cons.mp q1 with rfl | q1
  · obtain ⟨w, rfl, hw⟩ := jO_int s3
    have hw : w.toInt = (-1 : Int) := hw
    have f := jgF_un s2.2.1
    have f0 : 0 ≤ ((1 * σ 0 + 0) + (-1)) := f.1
    have f1 : 0 ≤ (((-1) * σ 0 + 0) + 8) := f.2.1
    have f2 : 0 ≤ ((1 * σ 1 + 0) + 0) := f.2.2.1
    have f3 : 0 ≤ (((-1) * σ 1 + 0) + 99) := f.2.2.2.1
    have f4 : 0 ≤ (((-1) * σ 1 + (1 * σ 2 + 0)) + 0) := f.2.2.2.2.1
    have f5 : 0 ≤ (((-1) * σ 2 + 0) + 99) := f.2.2.2.2.2.1
    have f6 : 0 ≤ ((1 * σ 3 + 0) + 0) := f.2.2.2.2.2.2.1
    have f7 : 0 ≤ ((1 * σ 3 + 0) + (-100)) := f.2.2.2.2.2.2.2.1
    have f8 : 0 ≤ (((-1) * σ 3 + 0) + 100) := f.2.2.2.2.2.2.2.2.1
    have f9 : 0 ≤ (((-1) * σ 0 + (1 * σ 3 + 0)) + 0) := f.2.2.2.2.2.2.2.2.2.1
    have f10 : 0 ≤ (((-1) * σ 4 + (2 * σ 0 + 0)) + (-1)) := f.2.2.2.2.2.2.2.2.2.2.1
    have t := jgT_un s2.2.2.2
    have t0 : ja h1 60 16 = ((1 * σ 4 + 0) + 0) := t.1 (by decide)
    exact ⟨w, rfl, c1, c2, c3, Or.inr (Or.inr (Or.inr (Or.inl ⟨by omega, by omega, by omega, by omega, by omega, by omega, by omega, by omega, by omega, by omega, by omega, by omega, by omega⟩)))⟩
  rcases List.mem_cons.mp q1 with rfl | q1
  · obtain ⟨w, rfl, hw⟩ := jO_int s3
    have hw : w.toInt = (-3 : Int) := hw
    have f := jgF_un s2.2.1
    have f0 : 0 ≤ ((1 * σ 0 + 0) + (-1)) := f.1
    have f1 : 0 ≤ (((-1) * σ 0 + 0) + 8) := f.2.1
    have f2 : 0 ≤ ((1 * σ 1 + 0) + 0) := f.2.2.1
    have f3 : 0 ≤ (((-1) * σ 1 + 0) + 99) := f.2.2.2.1
    have f4 : 0 ≤ (((-1) * σ 1 + (1 * σ 2 + 0)) + 0) := f.2.2.2.2.1
    have f5 : 0 ≤ (((-1) * σ 2 + 0) + 99) := f.2.2.2.2.2.1
    have f6 : 0 ≤ ((1 * σ 3 + 0) + 0) := f.2.2.2.2.2.2.1
    have f7 : 0 ≤ ((1 * σ 3 + 0) + (-100)) := f.2.2.2.2.2.2.2.1
    have f8 : 0 ≤ (((-1) * σ 3 + 0) + 100) := f.2.2.2.2.2.2.2.2.1
    have f9 : 0 ≤ (((-1) * σ 0 + (1 * σ 3 + 0)) + 0) := f.2.2.2.2.2.2.2.2.2.1
    have f10 : 0 ≤ (((-2) * σ 0 + (1 * σ 4 + 0)) + 0) := f.2.2.2.2.2.2.2.2.2.2.1
    have t := jgT_un s2.2.2.2
    have t0 : ja h1 60 16 = (0 : Int) := t.1 (by decide)
    exact ⟨w, rfl, c1, c2, c3, Or.inr (Or.inr (Or.inr (Or.inr (Or.inl ⟨by omega, by omega, by omega, by omega, by omega, by omega, by omega, by omega, by omega, by omega, by omega, by omega, by omega⟩))))⟩
  rcases List.mem_cons.mp q1 with rfl | q1
  · obtain ⟨w, rfl, hw⟩ := jO_int s3
    have hw : w.toInt = (-1 : Int) := hw
    have f := jgF_un s2.2.1
    have f0 : 0 ≤ ((1 * σ 0 + 0) + (-1)) := f.1
    have f1 : 0 ≤ (((-1) * σ 0 + 0) + 8) := f.2.1
    have f2 : 0 ≤ ((1 * σ 1 + 0) + 0) := f.2.2.1
    have f3 : 0 ≤ (((-1) * σ 1 + 0) + 99) := f.2.2.2.1
    have f4 : 0 ≤ (((-1) * σ 1 + (1 * σ 2 + 0)) + 0) := f.2.2.2.2.1
    have f5 : 0 ≤ (((-1) * σ 2 + 0) + 99) := f.2.2.2.2.2.1
    have f6 : 0 ≤ ((1 * σ 3 + 0) + 0) := f.2.2.2.2.2.2.1
    have f7 : 0 ≤ (((-1) * σ 3 + 0) + 100) := f.2.2.2.2.2.2.2.1
    have f8 : 0 ≤ (((-1) * σ 3 + 0) + 99) := f.2.2.2.2.2.2.2.2.1
    have f9 : 0 ≤ (((-1) * σ 0 + (1 * σ 3 + 0)) + 0) := f.2.2.2.2.2.2.2.2.2.1
    have t := jgT_un s2.2.2.2
    have t0 : ja h1 60 16 = ((1 * σ 4 + 0) + 0) := t.1 (by decide)
    exact ⟨w, rfl, c1, c2, c3, Or.inr (Or.inr (Or.inr (Or.inr (Or.inr (Or.inl ⟨by omega, by omega, by omega, by omega, by omega, by omega, by omega, by omega, by omega, by omega, by omega, by omega⟩)))))⟩
  rcases List.mem_cons.mp q1 with rfl | q1
  · obtain ⟨w, rfl, hw⟩ := jO_int s3
    have hw : w.toInt = (-1 : Int) := hw
    have f := jgF_un s2.2.1
    have f0 : 0 ≤ ((1 * σ 0 + 0) + (-1)) := f.1
    have f1 : 0 ≤ (((-1) * σ 0 + 0) + 8) := f.2.1
    have f2 : 0 ≤ ((1 * σ 1 + 0) + 0) := f.2.2.1
    have f3 : 0 ≤ (((-1) * σ 1 + 0) + 99) := f.2.2.2.1
    have f4 : 0 ≤ (((-1) * σ 1 + (1 * σ 2 + 0)) + 0) := f.2.2.2.2.1
    have f5 : 0 ≤ (((-1) * σ 2 + 0) + 99) := f.2.2.2.2.2.1
    have f6 : 0 ≤ ((1 * σ 3 + 0) + 0) := f.2.2.2.2.2.2.1
    have f7 : 0 ≤ ((1 * σ 3 + 0) + (-100)) := f.2.2.2.2.2.2.2.1
    have f8 : 0 ≤ ((1 * σ 3 + 0) + (-101)) := f.2.2.2.2.2.2.2.2.1
    have f9 : 0 ≤ (((-1) * σ 0 + (1 * σ 3 + 0)) + 0) := f.2.2.2.2.2.2.2.2.2.1
    have t := jgT_un s2.2.2.2
    have t0 : ja h1 60 16 = ((1 * σ 4 + 0) + 0) := t.1 (by decide)
    exact ⟨w, rfl, c1, c2, c3, Or.inr (Or.inr (Or.inr (Or.inr (Or.inr (Or.inr (Or.inl ⟨by omega, by omega, by omega, by omega, by omega, by omega, by omega, by omega, by omega, by omega, by omega, by omega⟩))))))⟩
  rcases List.mem_cons.mp q1 with rfl | q1
  · obtain ⟨w, rfl, hw⟩ := jO_int s3
    have hw : w.toInt = (-1 : Int) := hw
    have f := jgF_un s2.2.1
    have f0 : 0 ≤ ((1 * σ 0 + 0) + (-1)) := f.1
    have f1 : 0 ≤ (((-1) * σ 0 + 0) + 8) := f.2.1
    have f2 : 0 ≤ ((1 * σ 1 + 0) + 0) := f.2.2.1
    have f3 : 0 ≤ (((-1) * σ 1 + 0) + 99) := f.2.2.2.1
    have f4 : 0 ≤ (((-1) * σ 1 + (1 * σ 2 + 0)) + 0) := f.2.2.2.2.1
    have f5 : 0 ≤ (((-1) * σ 2 + 0) + 99) := f.2.2.2.2.2.1
    have f6 : 0 ≤ (((-1) * σ 3 + 0) + (-1)) := f.2.2.2.2.2.2.1
    have f7 : 0 ≤ (((-1) * σ 3 + 0) + 100) := f.2.2.2.2.2.2.2.1
    have f8 : 0 ≤ (((-1) * σ 3 + 0) + 99) := f.2.2.2.2.2.2.2.2.1
    have f9 : 0 ≤ (((-1) * σ 3 + (1 * σ 0 + 0)) + (-1)) := f.2.2.2.2.2.2.2.2.2.1
    have t := jgT_un s2.2.2.2
    have t0 : ja h1 60 16 = ((1 * σ 4 + 0) + 0) := t.1 (by decide)
    exact ⟨w, rfl, c1, c2, c3, Or.inr (Or.inr (Or.inr (Or.inr (Or.inr (Or.inr (Or.inr (Or.inl ⟨by omega, by omega, by omega, by omega, by omega, by omega, by omega, by omega, by omega, by omega, by omega, by omega⟩)))))))⟩
  rcases List.mem_cons.mp q1 with rfl | q1
  · obtain ⟨w, rfl, hw⟩ := jO_int s3
    have hw : w.toInt = (-1 : Int) := hw
    have f := jgF_un s2.2.1
    have f0 : 0 ≤ ((1 * σ 0 + 0) + (-1)) := f.1
    have f1 : 0 ≤ (((-1) * σ 0 + 0) + 8) := f.2.1
    have f2 : 0 ≤ ((1 * σ 1 + 0) + 0) := f.2.2.1
    have f3 : 0 ≤ (((-1) * σ 1 + 0) + 99) := f.2.2.2.1
    have f4 : 0 ≤ (((-1) * σ 1 + (1 * σ 2 + 0)) + 0) := f.2.2.2.2.1
    have f5 : 0 ≤ ((1 * σ 2 + 0) + (-100)) := f.2.2.2.2.2.1
    have t := jgT_un s2.2.2.2
    have t0 : ja h1 60 16 = ((1 * σ 4 + 0) + 0) := t.1 (by decide)
    exact ⟨w, rfl, c1, c2, c3, Or.inr (Or.inr (Or.inr (Or.inr (Or.inr (Or.inr (Or.inr (Or.inr (Or.inl ⟨by omega, by omega, by omega, by omega, by omega, by omega, by omega, by omega⟩))))))))⟩
  rcases List.mem_cons.mp q1 with rfl | q1
  · obtain ⟨w, rfl, hw⟩ := jO_int s3
    have hw : w.toInt = (-1 : Int) := hw
    have f := jgF_un s2.2.1
    have f0 : 0 ≤ ((1 * σ 0 + 0) + (-1)) := f.1
    have f1 : 0 ≤ (((-1) * σ 0 + 0) + 8) := f.2.1
    have f2 : 0 ≤ ((1 * σ 1 + 0) + 0) := f.2.2.1
    have f3 : 0 ≤ (((-1) * σ 1 + 0) + 99) := f.2.2.2.1
    have f4 : 0 ≤ (((-1) * σ 2 + (1 * σ 1 + 0)) + (-1)) := f.2.2.2.2.1
    have f5 : 0 ≤ (((-1) * σ 2 + 0) + 99) := f.2.2.2.2.2.1
    have t := jgT_un s2.2.2.2
    have t0 : ja h1 60 16 = ((1 * σ 4 + 0) + 0) := t.1 (by decide)
    exact ⟨w, rfl, c1, c2, c3, Or.inr (Or.inr (Or.inr (Or.inr (Or.inr (Or.inr (Or.inr (Or.inr (Or.inr (Or.inl ⟨by omega, by omega, by omega, by omega, by omega, by omega, by omega, by omega⟩)))))))))⟩
  rcases List.mem_cons.mp q1 with rfl | q1
  · obtain ⟨w, rfl, hw⟩ := jO_int s3
    have hw : w.toInt = (-1 : Int) := hw
    have f := jgF_un s2.2.1
    have f0 : 0 ≤ ((1 * σ 0 + 0) + (-1)) := f.1
    have f1 : 0 ≤ (((-1) * σ 0 + 0) + 8) := f.2.1
    have f2 : 0 ≤ ((1 * σ 1 + 0) + 0) := f.2.2.1
    have f3 : 0 ≤ ((1 * σ 1 + 0) + (-100)) := f.2.2.2.1
    have t := jgT_un s2.2.2.2
    have t0 : ja h1 60 16 = ((1 * σ 4 + 0) + 0) := t.1 (by decide)
    exact ⟨w, rfl, c1, c2, c3, Or.inr (Or.inr (Or.inr (Or.inr (Or.inr (Or.inr (Or.inr (Or.inr (Or.inr (Or.inr (Or.inl ⟨by omega, by omega, by omega, by omega, by omega, by omega⟩))))))))))⟩
  rcases List.mem_cons.mp q1 with rfl | q1
  · obtain ⟨w, rfl, hw⟩ := jO_int s3
    have hw : w.toInt = (-1 : Int) := hw
    have f := jgF_un s2.2.1
    have f0 : 0 ≤ ((1 * σ 0 + 0) + (-1)) := f.1
    have f1 : 0 ≤ (((-1) * σ 0 + 0) + 8) := f.2.1
    have f2 : 0 ≤ (((-1) * σ 1 + 0) + (-1)) := f.2.2.1
    have f3 : 0 ≤ (((-1) * σ 1 + 0) + 99) := f.2.2.2.1
    have t := jgT_un s2.2.2.2
    have t0 : ja h1 60 16 = ((1 * σ 4 + 0) + 0) := t.1 (by decide)
    exact ⟨w, rfl, c1, c2, c3, Or.inr (Or.inr (Or.inr (Or.inr (Or.inr (Or.inr (Or.inr (Or.inr (Or.inr (Or.inr (Or.inr (Or.inl ⟨by omega, by omega, by omega, by omega, by omega, by omega⟩)))))))))))⟩
  rcases List.mem_cons.mp q1 with rfl | q1
  · obtain ⟨w, rfl, hw⟩ := jO_int s3
    have hw : w.toInt = (-1 : Int) := hw
    have f := jgF_un s2.2.1
    have f0 : 0 ≤ ((1 * σ 0 + 0) + (-1)) := f.1
    have f1 : 0 ≤ ((1 * σ 0 + 0) + (-9)) := f.2.1
    have t := jgT_un s2.2.2.2
    have t0 : ja h1 60 16 = ((1 * σ 4 + 0) + 0) := t.1 (by decide)
    exact ⟨w, rfl, c1, c2, c3, Or.inr (Or.inr (Or.inr (Or.inr (Or.inr (Or.inr (Or.inr (Or.inr (Or.inr (Or.inr (Or.inr (Or.inr (Or.inl ⟨by omega, by omega, by omega, by omega⟩))))))))))))⟩
  rcases List.mem_cons.mp q1 with rfl | q1
  · obtain ⟨w, rfl, hw⟩ := jO_int s3
    have hw : w.toInt = (-1 : Int) := hw
    have f := jgF_un s2.2.1
    have f0 : 0 ≤ (((-1) * σ 0 + 0) + 8) := f.1
    have f1 : 0 ≤ (((-1) * σ 0 + 0) + 0) := f.2.1
    have f2 : 0 ≤ (((-2) * σ 0 + (1 * σ 4 + 0)) + 0) := f.2.2.1
    have t := jgT_un s2.2.2.2
    have t0 : ja h1 60 16 = ((1 * σ 4 + 0) + 0) := t.1 (by decide)
    exact ⟨w, rfl, c1, c2, c3, Or.inr (Or.inr (Or.inr (Or.inr (Or.inr (Or.inr (Or.inr (Or.inr (Or.inr (Or.inr (Or.inr (Or.inr (Or.inr (Or.inl ⟨by omega, by omega, by omega, by omega, by omega⟩)))))))))))))⟩
  · rcases List.mem_singleton.mp q1 with rfl
    obtain ⟨w, rfl, hw⟩ := jO_int s3
    have hw : w.toInt = ((1 * σ 5 + 0) + 0) := hw
    have f := jgF_un s2.2.1
    have f0 : 0 ≤ ((1 * σ 0 + 0) + (-1)) := f.1
    have f1 : 0 ≤ (((-1) * σ 0 + 0) + 8) := f.2.1
    have f2 : 0 ≤ ((1 * σ 1 + 0) + 0) := f.2.2.1
    have f3 : 0 ≤ (((-1) * σ 1 + 0) + 99) := f.2.2.2.1
    have f4 : 0 ≤ (((-1) * σ 1 + (1 * σ 2 + 0)) + 0) := f.2.2.2.2.1
    have f5 : 0 ≤ (((-1) * σ 2 + 0) + 99) := f.2.2.2.2.2.1
    have f6 : 0 ≤ ((1 * σ 3 + 0) + 0) := f.2.2.2.2.2.2.1
    have f7 : 0 ≤ ((1 * σ 3 + 0) + (-100)) := f.2.2.2.2.2.2.2.1
    have f8 : 0 ≤ (((-1) * σ 3 + 0) + 100) := f.2.2.2.2.2.2.2.2.1
    have f9 : 0 ≤ (((-1) * σ 0 + (1 * σ 3 + 0)) + 0) := f.2.2.2.2.2.2.2.2.2.1
    have f10 : 0 ≤ (((-2) * σ 0 + (1 * σ 4 + 0)) + 0) := f.2.2.2.2.2.2.2.2.2.2.1
    have i5 : (-2147483648) ≤ σ 5 ∧ σ 5 ≤ 2147483647 := s2.1 5 _ rfl
    have t := jgT_un s2.2.2.2
    have t0 : ja h1 60 16 = (0 : Int) := t.1 (by decide)
    exact ⟨w, rfl, c1, c2, c3, Or.inr (Or.inr (Or.inr (Or.inr (Or.inr (Or.inr (Or.inr (Or.inr (Or.inr (Or.inr (Or.inr (Or.inr (Or.inr (Or.inr (⟨σ 5, i5, by omega, by omega, by omega, by omega, by omega, by omega, by omega, by omega, by omega, by omega, by omega, by omega, by omega⟩))))))))))))))⟩
theorem ct_anyOrder0_ok {P : si_P} (hxa : P.2.1 < P.1) {d : Nat} (hd : 6 ≤ d) {h : si_H} (a0 : Int32) (a1 : Int32) (a2 : Int32) (a3 : Int32) (hH : az_HI P az_tb h) (hJ : js_J h) : az_X P d 159 0 (lv_args 0 [.ref (P.1 + 0), .int a0, .int a1, .int a2, .int a3]) [] h (fun rv h1 => ∃ w : Int32, rv = some (.int w) ∧ az_HI P az_tb h1 ∧ js_J h1 ∧ az_same_out cq_anyOrder0.2.2.2.2.1 h h1 ∧ ((w.toInt = (-1) ∧ 0 ≤ a0.toInt - 1 ∧ 0 ≤ -a0.toInt + 6 ∧ 0 ≤ -a3.toInt + 1 ∧ 0 ≤ -a3.toInt - 1 ∧ ja h1 12 1 = ja h 12 1) ∨ (w.toInt = (-1) ∧ 0 ≤ a0.toInt - 1 ∧ 0 ≤ a0.toInt - 7 ∧ 0 ≤ -a3.toInt + 1 ∧ 0 ≤ -a3.toInt - 1 ∧ ja h1 12 1 = ja h 12 1) ∨ (w.toInt = (-1) ∧ 0 ≤ -a0.toInt + 6 ∧ 0 ≤ -a0.toInt ∧ 0 ≤ -a3.toInt + 1 ∧ 0 ≤ -a3.toInt - 1 ∧ 0 ≤ -2 * a0.toInt + ja h 12 1 ∧ ja h1 12 1 = ja h 12 1) ∨ (w.toInt = (-3) ∧ 0 ≤ a0.toInt - 1 ∧ 0 ≤ -a0.toInt + 6 ∧ 0 ≤ a1.toInt ∧ 0 ≤ -a1.toInt + 99 ∧ 0 ≤ -a1.toInt + a2.toInt ∧ 0 ≤ -a2.toInt + 99 ∧ 0 ≤ a3.toInt ∧ 0 ≤ -a3.toInt + 1 ∧ 0 ≤ -2 * a0.toInt + ja h 12 1 ∧ ja h1 12 1 = 0) ∨ (∃ z5 : Int, ((-2147483648) ≤ z5 ∧ z5 ≤ 2147483647) ∧ w.toInt = z5 ∧ 0 ≤ a0.toInt - 1 ∧ 0 ≤ -a0.toInt + 6 ∧ 0 ≤ a1.toInt ∧ 0 ≤ -a1.toInt + 99 ∧ 0 ≤ -a1.toInt + a2.toInt ∧ 0 ≤ -a2.toInt + 99 ∧ 0 ≤ a3.toInt ∧ 0 ≤ -a3.toInt + 1 ∧ 0 ≤ -2 * a0.toInt + ja h 12 1 ∧ ja h1 12 1 = 0) ∨ (w.toInt = (-1) ∧ 0 ≤ a0.toInt - 1 ∧ 0 ≤ -a0.toInt + 6 ∧ 0 ≤ a1.toInt ∧ 0 ≤ -a1.toInt + 99 ∧ 0 ≤ -a1.toInt + a2.toInt ∧ 0 ≤ -a2.toInt + 99 ∧ 0 ≤ a3.toInt ∧ 0 ≤ -a3.toInt + 1 ∧ 0 ≤ -ja h 12 1 + 2 * a0.toInt - 1 ∧ ja h1 12 1 = ja h 12 1) ∨ (w.toInt = (-1) ∧ 0 ≤ a0.toInt - 1 ∧ 0 ≤ a0.toInt - 7 ∧ 0 ≤ a1.toInt ∧ 0 ≤ -a1.toInt + 99 ∧ 0 ≤ -a1.toInt + a2.toInt ∧ 0 ≤ -a2.toInt + 99 ∧ 0 ≤ a3.toInt ∧ 0 ≤ -a3.toInt + 1 ∧ ja h1 12 1 = ja h 12 1) ∨ (w.toInt = (-1) ∧ 0 ≤ -a0.toInt + 6 ∧ 0 ≤ -a0.toInt ∧ 0 ≤ a1.toInt ∧ 0 ≤ -a1.toInt + 99 ∧ 0 ≤ -a1.toInt + a2.toInt ∧ 0 ≤ -a2.toInt + 99 ∧ 0 ≤ a3.toInt ∧ 0 ≤ -a3.toInt + 1 ∧ 0 ≤ -2 * a0.toInt + ja h 12 1 ∧ ja h1 12 1 = ja h 12 1) ∨ (w.toInt = (-1) ∧ 0 ≤ a0.toInt - 1 ∧ 0 ≤ -a0.toInt + 6 ∧ 0 ≤ a1.toInt ∧ 0 ≤ -a1.toInt + a2.toInt ∧ 0 ≤ a2.toInt - 100 ∧ 0 ≤ a3.toInt ∧ 0 ≤ -a3.toInt + 1 ∧ ja h1 12 1 = ja h 12 1) ∨ (w.toInt = (-1) ∧ 0 ≤ a0.toInt - 1 ∧ 0 ≤ a0.toInt - 7 ∧ 0 ≤ a1.toInt ∧ 0 ≤ -a1.toInt + a2.toInt ∧ 0 ≤ a2.toInt - 100 ∧ 0 ≤ a3.toInt ∧ 0 ≤ -a3.toInt + 1 ∧ ja h1 12 1 = ja h 12 1) ∨ (w.toInt = (-1) ∧ 0 ≤ -a0.toInt + 6 ∧ 0 ≤ -a0.toInt ∧ 0 ≤ a1.toInt ∧ 0 ≤ -a1.toInt + a2.toInt ∧ 0 ≤ a2.toInt - 100 ∧ 0 ≤ a3.toInt ∧ 0 ≤ -a3.toInt + 1 ∧ 0 ≤ -2 * a0.toInt + ja h 12 1 ∧ ja h1 12 1 = ja h 12 1) ∨ (w.toInt = (-1) ∧ 0 ≤ a0.toInt - 1 ∧ 0 ≤ -a0.toInt + 6 ∧ 0 ≤ a1.toInt ∧ 0 ≤ -a2.toInt + a1.toInt - 1 ∧ 0 ≤ a3.toInt ∧ 0 ≤ -a3.toInt + 1 ∧ ja h1 12 1 = ja h 12 1) ∨ (w.toInt = (-1) ∧ 0 ≤ a0.toInt - 1 ∧ 0 ≤ a0.toInt - 7 ∧ 0 ≤ a1.toInt ∧ 0 ≤ -a2.toInt + a1.toInt - 1 ∧ 0 ≤ a3.toInt ∧ 0 ≤ -a3.toInt + 1 ∧ ja h1 12 1 = ja h 12 1) ∨ (w.toInt = (-1) ∧ 0 ≤ -a0.toInt + 6 ∧ 0 ≤ -a0.toInt ∧ 0 ≤ a1.toInt ∧ 0 ≤ -a2.toInt + a1.toInt - 1 ∧ 0 ≤ a3.toInt ∧ 0 ≤ -a3.toInt + 1 ∧ 0 ≤ -2 * a0.toInt + ja h 12 1 ∧ ja h1 12 1 = ja h 12 1) ∨ (w.toInt = (-1) ∧ 0 ≤ a0.toInt - 1 ∧ 0 ≤ -a0.toInt + 6 ∧ 0 ≤ -a1.toInt - 1 ∧ 0 ≤ -a1.toInt + 99 ∧ 0 ≤ a3.toInt ∧ 0 ≤ -a3.toInt + 1 ∧ ja h1 12 1 = ja h 12 1) ∨ (w.toInt = (-1) ∧ 0 ≤ a0.toInt - 1 ∧ 0 ≤ a0.toInt - 7 ∧ 0 ≤ -a1.toInt - 1 ∧ 0 ≤ -a1.toInt + 99 ∧ 0 ≤ a3.toInt ∧ 0 ≤ -a3.toInt + 1 ∧ ja h1 12 1 = ja h 12 1) ∨ (w.toInt = (-1) ∧ 0 ≤ -a0.toInt + 6 ∧ 0 ≤ -a0.toInt ∧ 0 ≤ -a1.toInt - 1 ∧ 0 ≤ -a1.toInt + 99 ∧ 0 ≤ a3.toInt ∧ 0 ≤ -a3.toInt + 1 ∧ 0 ≤ -2 * a0.toInt + ja h 12 1 ∧ ja h1 12 1 = ja h 12 1) ∨ (w.toInt = (-1) ∧ 0 ≤ a0.toInt - 1 ∧ 0 ≤ -a0.toInt + 6 ∧ 0 ≤ a3.toInt ∧ 0 ≤ a3.toInt - 2 ∧ ja h1 12 1 = ja h 12 1) ∨ (w.toInt = (-1) ∧ 0 ≤ a0.toInt - 1 ∧ 0 ≤ a0.toInt - 7 ∧ 0 ≤ a3.toInt ∧ 0 ≤ a3.toInt - 2 ∧ ja h1 12 1 = ja h 12 1) ∨ (w.toInt = (-1) ∧ 0 ≤ -a0.toInt + 6 ∧ 0 ≤ -a0.toInt ∧ 0 ≤ a3.toInt ∧ 0 ≤ a3.toInt - 2 ∧ 0 ≤ -2 * a0.toInt + ja h 12 1 ∧ ja h1 12 1 = ja h 12 1))) := by
  refine ((ok_cq_anyOrder0 hxa).1 d hd (jρ [a0.toInt, a1.toInt, a2.toInt, a3.toInt, ja h 12 1]) h [.ref (P.1 + 0), .int a0, .int a1, .int a2, .int a3] hH hJ (jg_mk hH (by decide) (by decide) ⟨(jF32 a0), (jF32 a1), (jF32 a2), (jF32 a3), (ja_bd hH (i := 12) (k := 1) rfl), trivial⟩ trivial trivial ⟨⟨by decide, (by show (0 : Int) ≤ 0 + 1; decide), rfl, ?_⟩, trivial⟩) ⟨trivial, rfl, az_wfb_ok (by decide), ?_, az_wfb_ok (by decide), ?_, az_wfb_ok (by decide), ?_, az_wfb_ok (by decide), ?_, trivial⟩).mono ?_
  · show ja h 12 1 = (1 * ja h 12 1 + 0) + 0
    omega
  · show a0.toInt = (1 * a0.toInt + 0) + 0
    omega
  · show a1.toInt = (1 * a1.toInt + 0) + 0
    omega
  · show a2.toInt = (1 * a2.toInt + 0) + 0
    omega
  · show a3.toInt = (1 * a3.toInt + 0) + 0
    omega
  rintro rv h1 ⟨c1, c2, c3, q, q1, σ, s1, s2, s3⟩
  have e0 : σ 0 = a0.toInt := s1 0 (by decide)
  have e1 : σ 1 = a1.toInt := s1 1 (by decide)
  have e2 : σ 2 = a2.toInt := s1 2 (by decide)
  have e3 : σ 3 = a3.toInt := s1 3 (by decide)
  have e4 : σ 4 = ja h 12 1 := s1 4 (by decide)
  rcases List.mem_cons.mp q1 with rfl | q1
  · obtain ⟨w, rfl, hw⟩ := jO_int s3
    have hw : w.toInt = (-1 : Int) := hw
    have f := jgF_un s2.2.1
    have f0 : 0 ≤ ((1 * σ 0 + 0) + (-1)) := f.1
    have f1 : 0 ≤ (((-1) * σ 0 + 0) + 6) := f.2.1
    have f2 : 0 ≤ (((-1) * σ 3 + 0) + 1) := f.2.2.1
    have f3 : 0 ≤ (((-1) * σ 3 + 0) + (-1)) := f.2.2.2.1
    have t := jgT_un s2.2.2.2
    have t0 : ja h1 12 1 = ((1 * σ 4 + 0) + 0) := t.1 (by decide)
    exact ⟨w, rfl, c1, c2, c3, Or.inl ⟨by omega, by omega, by omega, by omega, by omega, by omega⟩⟩
  rcases List.mem_cons.mp q1 with rfl | q1
  · obtain ⟨w, rfl, hw⟩ := jO_int s3
    have hw : w.toInt = (-1 : Int) := hw
    have f := jgF_un s2.2.1
    have f0 : 0 ≤ ((1 * σ 0 + 0) + (-1)) := f.1
    have f1 : 0 ≤ ((1 * σ 0 + 0) + (-7)) := f.2.1
    have f2 : 0 ≤ (((-1) * σ 3 + 0) + 1) := f.2.2.1
    have f3 : 0 ≤ (((-1) * σ 3 + 0) + (-1)) := f.2.2.2.1
    have t := jgT_un s2.2.2.2
    have t0 : ja h1 12 1 = ((1 * σ 4 + 0) + 0) := t.1 (by decide)
    exact ⟨w, rfl, c1, c2, c3, Or.inr (Or.inl ⟨by omega, by omega, by omega, by omega, by omega, by omega⟩)⟩
  rcases List.mem_cons.mp q1 with rfl | q1
  · obtain ⟨w, rfl, hw⟩ := jO_int s3
    have hw : w.toInt = (-1 : Int) := hw
    have f := jgF_un s2.2.1
    have f0 : 0 ≤ (((-1) * σ 0 + 0) + 6) := f.1
    have f1 : 0 ≤ (((-1) * σ 0 + 0) + 0) := f.2.1
    have f2 : 0 ≤ (((-1) * σ 3 + 0) + 1) := f.2.2.1
    have f3 : 0 ≤ (((-1) * σ 3 + 0) + (-1)) := f.2.2.2.1
    have f4 : 0 ≤ (((-2) * σ 0 + (1 * σ 4 + 0)) + 0) := f.2.2.2.2.1
    have t := jgT_un s2.2.2.2
    have t0 : ja h1 12 1 = ((1 * σ 4 + 0) + 0) := t.1 (by decide)
    exact ⟨w, rfl, c1, c2, c3, Or.inr (Or.inr (Or.inl ⟨by omega, by omega, by omega, by omega, by omega, by omega, by omega⟩))⟩
  rcases List.mem_cons.mp q1 with rfl | q1
  · obtain ⟨w, rfl, hw⟩ := jO_int s3
    have hw : w.toInt = (-3 : Int) := hw
    have f := jgF_un s2.2.1
    have f0 : 0 ≤ ((1 * σ 0 + 0) + (-1)) := f.1
    have f1 : 0 ≤ (((-1) * σ 0 + 0) + 6) := f.2.1
    have f2 : 0 ≤ ((1 * σ 1 + 0) + 0) := f.2.2.1
    have f3 : 0 ≤ (((-1) * σ 1 + 0) + 99) := f.2.2.2.1
    have f4 : 0 ≤ (((-1) * σ 1 + (1 * σ 2 + 0)) + 0) := f.2.2.2.2.1
    have f5 : 0 ≤ (((-1) * σ 2 + 0) + 99) := f.2.2.2.2.2.1
    have f6 : 0 ≤ ((1 * σ 3 + 0) + 0) := f.2.2.2.2.2.2.1
    have f7 : 0 ≤ (((-1) * σ 3 + 0) + 1) := f.2.2.2.2.2.2.2.1
    have f8 : 0 ≤ (((-2) * σ 0 + (1 * σ 4 + 0)) + 0) := f.2.2.2.2.2.2.2.2.1
    have t := jgT_un s2.2.2.2
    have t0 : ja h1 12 1 = (0 : Int) := t.1 (by decide)
    exact ⟨w, rfl, c1, c2, c3, Or.inr (Or.inr (Or.inr (Or.inl ⟨by omega, by omega, by omega, by omega, by omega, by omega, by omega, by omega, by omega, by omega, by omega⟩)))⟩
  rcases List.mem_cons.mp q1 with rfl | q1
  · obtain ⟨w, rfl, hw⟩ := jO_int s3
    have hw : w.toInt = ((1 * σ 5 + 0) + 0) := hw
    have f := jgF_un s2.2.1
    have f0 : 0 ≤ ((1 * σ 0 + 0) + (-1)) := f.1
    have f1 : 0 ≤ (((-1) * σ 0 + 0) + 6) := f.2.1
    have f2 : 0 ≤ ((1 * σ 1 + 0) + 0) := f.2.2.1
    have f3 : 0 ≤ (((-1) * σ 1 + 0) + 99) := f.2.2.2.1
    have f4 : 0 ≤ (((-1) * σ 1 + (1 * σ 2 + 0)) + 0) := f.2.2.2.2.1
    have f5 : 0 ≤ (((-1) * σ 2 + 0) + 99) := f.2.2.2.2.2.1
    have f6 : 0 ≤ ((1 * σ 3 + 0) + 0) := f.2.2.2.2.2.2.1
    have f7 : 0 ≤ (((-1) * σ 3 + 0) + 1) := f.2.2.2.2.2.2.2.1
    have f8 : 0 ≤ (((-2) * σ 0 + (1 * σ 4 + 0)) + 0) := f.2.2.2.2.2.2.2.2.1
    have i5 : (-2147483648) ≤ σ 5 ∧ σ 5 ≤ 2147483647 := s2.1 5 _ rfl
    have t := jgT_un s2.2.2.2
    have t0 : ja h1 12 1 = (0 : Int) := t.1 (by decide)
    exact ⟨w, rfl, c1, c2, c3, Or.inr (Or.inr (Or.inr (Or.inr (Or.inl ⟨σ 5, i5, by omega, by omega, by omega, by omega, by omega, by omega, by omega, by omega, by omega, by omega, by omega⟩))))⟩
  rcases List.mem_cons.mp q1 with rfl | q1
  · obtain ⟨w, rfl, hw⟩ := jO_int s3
    have hw : w.toInt = (-1 : Int) := hw
    have f := jgF_un s2.2.1
    have f0 : 0 ≤ ((1 * σ 0 + 0) + (-1)) := f.1
    have f1 : 0 ≤ (((-1) * σ 0 + 0) + 6) := f.2.1
    have f2 : 0 ≤ ((1 * σ 1 + 0) + 0) := f.2.2.1
    have f3 : 0 ≤ (((-1) * σ 1 + 0) + 99) := f.2.2.2.1
    have f4 : 0 ≤ (((-1) * σ 1 + (1 * σ 2 + 0)) + 0) := f.2.2.2.2.1
    have f5 : 0 ≤ (((-1) * σ 2 + 0) + 99) := f.2.2.2.2.2.1
    have f6 : 0 ≤ ((1 * σ 3 + 0) + 0) := f.2.2.2.2.2.2.1
    have f7 : 0 ≤ (((-1) * σ 3 + 0) + 1) := f.2.2.2.2.2.2.2.1
    have f8 : 0 ≤ (((-1) * σ 4 + (2 * σ 0 + 0)) + (-1)) := f.2.2.2.2.2.2.2.2.1
    have t := jgT_un s2.2.2.2
    have t0 : ja h1 12 1 = ((1 * σ 4 + 0) + 0) := t.1 (by decide)
    exact ⟨w, rfl, c1, c2, c3, Or.inr (Or.inr (Or.inr (Or.inr (Or.inr (Or.inl ⟨by omega, by omega, by omega, by omega, by omega, by omega, by omega, by omega, by omega, by omega, by omega⟩)))))⟩
  rcases List.mem_cons.mp q1 with rfl | q1
  · obtain ⟨w, rfl, hw⟩ := jO_int s3
    have hw : w.toInt = (-1 : Int) := hw
    have f := jgF_un s2.2.1
    have f0 : 0 ≤ ((1 * σ 0 + 0) + (-1)) := f.1
    have f1 : 0 ≤ ((1 * σ 0 + 0) + (-7)) := f.2.1
    have f2 : 0 ≤ ((1 * σ 1 + 0) + 0) := f.2.2.1
    have f3 : 0 ≤ (((-1) * σ 1 + 0) + 99) := f.2.2.2.1
    have f4 : 0 ≤ (((-1) * σ 1 + (1 * σ 2 + 0)) + 0) := f.2.2.2.2.1
    have f5 : 0 ≤ (((-1) * σ 2 + 0) + 99) := f.2.2.2.2.2.1
    have f6 : 0 ≤ ((1 * σ 3 + 0) + 0) := f.2.2.2.2.2.2.1
    have f7 : 0 ≤ (((-1) * σ 3 + 0) + 1) := f.2.2.2.2.2.2.2.1
    have t := jgT_un s2.2.2.2
    have t0 : ja h1 12 1 = ((1 * σ 4 + 0) + 0) := t.1 (by decide)
    exact ⟨w, rfl, c1, c2, c3, Or.inr (Or.inr (Or.inr (Or.inr (Or.inr (Or.inr (Or.inl ⟨by omega, by omega, by omega, by omega, by omega, by omega, by omega, by omega, by omega, by omega⟩))))))⟩
  rcases List.mem_cons.mp q1 with rfl | q1
  · obtain ⟨w, rfl, hw⟩ := jO_int s3
    have hw : w.toInt = (-1 : Int) := hw
    have f := jgF_un s2.2.1
    have f0 : 0 ≤ (((-1) * σ 0 + 0) + 6) := f.1
    have f1 : 0 ≤ (((-1) * σ 0 + 0) + 0) := f.2.1
    have f2 : 0 ≤ ((1 * σ 1 + 0) + 0) := f.2.2.1
    have f3 : 0 ≤ (((-1) * σ 1 + 0) + 99) := f.2.2.2.1
    have f4 : 0 ≤ (((-1) * σ 1 + (1 * σ 2 + 0)) + 0) := f.2.2.2.2.1
    have f5 : 0 ≤ (((-1) * σ 2 + 0) + 99) := f.2.2.2.2.2.1
    have f6 : 0 ≤ ((1 * σ 3 + 0) + 0) := f.2.2.2.2.2.2.1
    have f7 : 0 ≤ (((-1) * σ 3 + 0) + 1) := f.2.2.2.2.2.2.2.1
    have f8 : 0 ≤ (((-2) * σ 0 + (1 * σ 4 + 0)) + 0) := f.2.2.2.2.2.2.2.2.1
    have t := jgT_un s2.2.2.2
    have t0 : ja h1 12 1 = ((1 * σ 4 + 0) + 0) := t.1 (by decide)
    exact ⟨w, rfl, c1, c2, c3, Or.inr (Or.inr (Or.inr (Or.inr (Or.inr (Or.inr (Or.inr (Or.inl ⟨by omega, by omega, by omega, by omega, by omega, by omega, by omega, by omega, by omega, by omega, by omega⟩)))))))⟩
  rcases List.mem_cons.mp q1 with rfl | q1
  · obtain ⟨w, rfl, hw⟩ := jO_int s3
    have hw : w.toInt = (-1 : Int) := hw
    have f := jgF_un s2.2.1
    have f0 : 0 ≤ ((1 * σ 0 + 0) + (-1)) := f.1
    have f1 : 0 ≤ (((-1) * σ 0 + 0) + 6) := f.2.1
    have f2 : 0 ≤ ((1 * σ 1 + 0) + 0) := f.2.2.1
    have f3 : 0 ≤ (((-1) * σ 1 + (1 * σ 2 + 0)) + 0) := f.2.2.2.1
    have f4 : 0 ≤ ((1 * σ 2 + 0) + (-100)) := f.2.2.2.2.1
    have f5 : 0 ≤ ((1 * σ 3 + 0) + 0) := f.2.2.2.2.2.1
    have f6 : 0 ≤ (((-1) * σ 3 + 0) + 1) := f.2.2.2.2.2.2.1
    have t := jgT_un s2.2.2.2
    have t0 : ja h1 12 1 = ((1 * σ 4 + 0) + 0) := t.1 (by decide)
    exact ⟨w, rfl, c1, c2, c3, Or.inr (Or.inr (Or.inr (Or.inr (Or.inr (Or.inr (Or.inr (Or.inr (Or.inl ⟨by omega, by omega, by omega, by omega, by omega, by omega, by omega, by omega, by omega⟩))))))))⟩
  rcases List.mem_cons.mp q1 with rfl | q1
  · obtain ⟨w, rfl, hw⟩ := jO_int s3
    have hw : w.toInt = (-1 : Int) := hw
    have f := jgF_un s2.2.1
    have f0 : 0 ≤ ((1 * σ 0 + 0) + (-1)) := f.1
    have f1 : 0 ≤ ((1 * σ 0 + 0) + (-7)) := f.2.1
    have f2 : 0 ≤ ((1 * σ 1 + 0) + 0) := f.2.2.1
    have f3 : 0 ≤ (((-1) * σ 1 + (1 * σ 2 + 0)) + 0) := f.2.2.2.1
    have f4 : 0 ≤ ((1 * σ 2 + 0) + (-100)) := f.2.2.2.2.1
    have f5 : 0 ≤ ((1 * σ 3 + 0) + 0) := f.2.2.2.2.2.1
    have f6 : 0 ≤ (((-1) * σ 3 + 0) + 1) := f.2.2.2.2.2.2.1
    have t := jgT_un s2.2.2.2
    have t0 : ja h1 12 1 = ((1 * σ 4 + 0) + 0) := t.1 (by decide)
    exact ⟨w, rfl, c1, c2, c3, Or.inr (Or.inr (Or.inr (Or.inr (Or.inr (Or.inr (Or.inr (Or.inr (Or.inr (Or.inl ⟨by omega, by omega, by omega, by omega, by omega, by omega, by omega, by omega, by omega⟩)))))))))⟩
  rcases List.mem_cons.mp q1 with rfl | q1
  · obtain ⟨w, rfl, hw⟩ := jO_int s3
    have hw : w.toInt = (-1 : Int) := hw
    have f := jgF_un s2.2.1
    have f0 : 0 ≤ (((-1) * σ 0 + 0) + 6) := f.1
    have f1 : 0 ≤ (((-1) * σ 0 + 0) + 0) := f.2.1
    have f2 : 0 ≤ ((1 * σ 1 + 0) + 0) := f.2.2.1
    have f3 : 0 ≤ (((-1) * σ 1 + (1 * σ 2 + 0)) + 0) := f.2.2.2.1
    have f4 : 0 ≤ ((1 * σ 2 + 0) + (-100)) := f.2.2.2.2.1
    have f5 : 0 ≤ ((1 * σ 3 + 0) + 0) := f.2.2.2.2.2.1
    have f6 : 0 ≤ (((-1) * σ 3 + 0) + 1) := f.2.2.2.2.2.2.1
    have f7 : 0 ≤ (((-2) * σ 0 + (1 * σ 4 + 0)) + 0) := f.2.2.2.2.2.2.2.1
    have t := jgT_un s2.2.2.2
    have t0 : ja h1 12 1 = ((1 * σ 4 + 0) + 0) := t.1 (by decide)
    exact ⟨w, rfl, c1, c2, c3, Or.inr (Or.inr (Or.inr (Or.inr (Or.inr (Or.inr (Or.inr (Or.inr (Or.inr (Or.inr (Or.inl ⟨by omega, by omega, by omega, by omega, by omega, by omega, by omega, by omega, by omega, by omega⟩))))))))))⟩
  rcases List.mem_cons.mp q1 with rfl | q1
  · obtain ⟨w, rfl, hw⟩ := jO_int s3
    have hw : w.toInt = (-1 : Int) := hw
    have f := jgF_un s2.2.1
    have f0 : 0 ≤ ((1 * σ 0 + 0) + (-1)) := f.1
    have f1 : 0 ≤ (((-1) * σ 0 + 0) + 6) := f.2.1
    have f2 : 0 ≤ ((1 * σ 1 + 0) + 0) := f.2.2.1
    have f3 : 0 ≤ (((-1) * σ 2 + (1 * σ 1 + 0)) + (-1)) := f.2.2.2.1
    have f4 : 0 ≤ ((1 * σ 3 + 0) + 0) := f.2.2.2.2.1
    have f5 : 0 ≤ (((-1) * σ 3 + 0) + 1) := f.2.2.2.2.2.1
    have t := jgT_un s2.2.2.2
    have t0 : ja h1 12 1 = ((1 * σ 4 + 0) + 0) := t.1 (by decide)
    exact ⟨w, rfl, c1, c2, c3, Or.inr (Or.inr (Or.inr (Or.inr (Or.inr (Or.inr (Or.inr (Or.inr (Or.inr (Or.inr (Or.inr (Or.inl ⟨by omega, by omega, by omega, by omega, by omega, by omega, by omega, by omega⟩)))))))))))⟩
  rcases List.mem_cons.mp q1 with rfl | q1
  · obtain ⟨w, rfl, hw⟩ := jO_int s3
    have hw : w.toInt = (-1 : Int) := hw
    have f := jgF_un s2.2.1
    have f0 : 0 ≤ ((1 * σ 0 + 0) + (-1)) := f.1
    have f1 : 0 ≤ ((1 * σ 0 + 0) + (-7)) := f.2.1
    have f2 : 0 ≤ ((1 * σ 1 + 0) + 0) := f.2.2.1
    have f3 : 0 ≤ (((-1) * σ 2 + (1 * σ 1 + 0)) + (-1)) := f.2.2.2.1
    have f4 : 0 ≤ ((1 * σ 3 + 0) + 0) := f.2.2.2.2.1
    have f5 : 0 ≤ (((-1) * σ 3 + 0) + 1) := f.2.2.2.2.2.1
    have t := jgT_un s2.2.2.2
    have t0 : ja h1 12 1 = ((1 * σ 4 + 0) + 0) := t.1 (by decide)
    exact ⟨w, rfl, c1, c2, c3, Or.inr (Or.inr (Or.inr (Or.inr (Or.inr (Or.inr (Or.inr (Or.inr (Or.inr (Or.inr (Or.inr (Or.inr (Or.inl ⟨by omega, by omega, by omega, by omega, by omega, by omega, by omega, by omega⟩))))))))))))⟩
  rcases List.mem_cons.mp q1 with rfl | q1
  · obtain ⟨w, rfl, hw⟩ := jO_int s3
    have hw : w.toInt = (-1 : Int) := hw
    have f := jgF_un s2.2.1
    have f0 : 0 ≤ (((-1) * σ 0 + 0) + 6) := f.1
    have f1 : 0 ≤ (((-1) * σ 0 + 0) + 0) := f.2.1
    have f2 : 0 ≤ ((1 * σ 1 + 0) + 0) := f.2.2.1
    have f3 : 0 ≤ (((-1) * σ 2 + (1 * σ 1 + 0)) + (-1)) := f.2.2.2.1
    have f4 : 0 ≤ ((1 * σ 3 + 0) + 0) := f.2.2.2.2.1
    have f5 : 0 ≤ (((-1) * σ 3 + 0) + 1) := f.2.2.2.2.2.1
    have f6 : 0 ≤ (((-2) * σ 0 + (1 * σ 4 + 0)) + 0) := f.2.2.2.2.2.2.1
    have t := jgT_un s2.2.2.2
    have t0 : ja h1 12 1 = ((1 * σ 4 + 0) + 0) := t.1 (by decide)
    exact ⟨w, rfl, c1, c2, c3, Or.inr (Or.inr (Or.inr (Or.inr (Or.inr (Or.inr (Or.inr (Or.inr (Or.inr (Or.inr (Or.inr (Or.inr (Or.inr (Or.inl ⟨by omega, by omega, by omega, by omega, by omega, by omega, by omega, by omega, by omega⟩)))))))))))))⟩
  rcases List.mem_cons.mp q1 with rfl | q1
  · obtain ⟨w, rfl, hw⟩ := jO_int s3
    have hw : w.toInt = (-1 : Int) := hw
    have f := jgF_un s2.2.1
    have f0 : 0 ≤ ((1 * σ 0 + 0) + (-1)) := f.1
    have f1 : 0 ≤ (((-1) * σ 0 + 0) + 6) := f.2.1
    have f2 : 0 ≤ (((-1) * σ 1 + 0) + (-1)) := f.2.2.1
    have f3 : 0 ≤ (((-1) * σ 1 + 0) + 99) := f.2.2.2.1
    have f4 : 0 ≤ ((1 * σ 3 + 0) + 0) := f.2.2.2.2.1
    have f5 : 0 ≤ (((-1) * σ 3 + 0) + 1) := f.2.2.2.2.2.1
    have t := jgT_un s2.2.2.2
    have t0 : ja h1 12 1 = ((1 * σ 4 + 0) + 0) := t.1 (by decide)
    exact ⟨w, rfl, c1, c2, c3, Or.inr (Or.inr (Or.inr (Or.inr (Or.inr (Or.inr (Or.inr (Or.inr (Or.inr (Or.inr (Or.inr (Or.inr (Or.inr (Or.inr (Or.inl ⟨by omega, by omega, by omega, by omega, by omega, by omega, by omega, by omega⟩))))))))))))))⟩
  rcases List.mem_cons.mp q1 with rfl | q1
  · obtain ⟨w, rfl, hw⟩ := jO_int s3
    have hw : w.toInt = (-1 : Int) := hw
    have f := jgF_un s2.2.1
    have f0 : 0 ≤ ((1 * σ 0 + 0) + (-1)) := f.1
    have f1 : 0 ≤ ((1 * σ 0 + 0) + (-7)) := f.2.1
    have f2 : 0 ≤ (((-1) * σ 1 + 0) + (-1)) := f.2.2.1
    have f3 : 0 ≤ (((-1) * σ 1 + 0) + 99) := f.2.2.2.1
    have f4 : 0 ≤ ((1 * σ 3 + 0) + 0) := f.2.2.2.2.1
    have f5 : 0 ≤ (((-1) * σ 3 + 0) + 1) := f.2.2.2.2.2.1
    have t := jgT_un s2.2.2.2
    have t0 : ja h1 12 1 = ((1 * σ 4 + 0) + 0) := t.1 (by decide)
    exact ⟨w, rfl, c1, c2, c3, Or.inr (Or.inr (Or.inr (Or.inr (Or.inr (Or.inr (Or.inr (Or.inr (Or.inr (Or.inr (Or.inr (Or.inr (Or.inr (Or.inr (Or.inr (Or.inl ⟨by omega, by omega, by omega, by omega, by omega, by omega, by omega, by omega⟩)))))))))))))))⟩
  rcases List.mem_cons.mp q1 with rfl | q1
  · obtain ⟨w, rfl, hw⟩ := jO_int s3
    have hw : w.toInt = (-1 : Int) := hw
    have f := jgF_un s2.2.1
    have f0 : 0 ≤ (((-1) * σ 0 + 0) + 6) := f.1
    have f1 : 0 ≤ (((-1) * σ 0 + 0) + 0) := f.2.1
    have f2 : 0 ≤ (((-1) * σ 1 + 0) + (-1)) := f.2.2.1
    have f3 : 0 ≤ (((-1) * σ 1 + 0) + 99) := f.2.2.2.1
    have f4 : 0 ≤ ((1 * σ 3 + 0) + 0) := f.2.2.2.2.1
    have f5 : 0 ≤ (((-1) * σ 3 + 0) + 1) := f.2.2.2.2.2.1
    have f6 : 0 ≤ (((-2) * σ 0 + (1 * σ 4 + 0)) + 0) := f.2.2.2.2.2.2.1
    have t := jgT_un s2.2.2.2
    have t0 : ja h1 12 1 = ((1 * σ 4 + 0) + 0) := t.1 (by decide)
    exact ⟨w, rfl, c1, c2, c3, Or.inr (Or.inr (Or.inr (Or.inr (Or.inr (Or.inr (Or.inr (Or.inr (Or.inr (Or.inr (Or.inr (Or.inr (Or.inr (Or.inr (Or.inr (Or.inr (Or.inl ⟨by omega, by omega, by omega, by omega, by omega, by omega, by omega, by omega, by omega⟩))))))))))))))))⟩
  rcases List.mem_cons.mp q1 with rfl | q1
  · obtain ⟨w, rfl, hw⟩ := jO_int s3
    have hw : w.toInt = (-1 : Int) := hw
    have f := jgF_un s2.2.1
    have f0 : 0 ≤ ((1 * σ 0 + 0) + (-1)) := f.1
    have f1 : 0 ≤ (((-1) * σ 0 + 0) + 6) := f.2.1
    have f2 : 0 ≤ ((1 * σ 3 + 0) + 0) := f.2.2.1
    have f3 : 0 ≤ ((1 * σ 3 + 0) + (-2)) := f.2.2.2.1
    have t := jgT_un s2.2.2.2
    have t0 : ja h1 12 1 = ((1 * σ 4 + 0) + 0) := t.1 (by decide)
    exact ⟨w, rfl, c1, c2, c3, Or.inr (Or.inr (Or.inr (Or.inr (Or.inr (Or.inr (Or.inr (Or.inr (Or.inr (Or.inr (Or.inr (Or.inr (Or.inr (Or.inr (Or.inr (Or.inr (Or.inr (Or.inl ⟨by omega, by omega, by omega, by omega, by omega, by omega⟩)))))))))))))))))⟩
  rcases List.mem_cons.mp q1 with rfl | q1
  · obtain ⟨w, rfl, hw⟩ := jO_int s3
    have hw : w.toInt = (-1 : Int) := hw
    have f := jgF_un s2.2.1
    have f0 : 0 ≤ ((1 * σ 0 + 0) + (-1)) := f.1
    have f1 : 0 ≤ ((1 * σ 0 + 0) + (-7)) := f.2.1
    have f2 : 0 ≤ ((1 * σ 3 + 0) + 0) := f.2.2.1
    have f3 : 0 ≤ ((1 * σ 3 + 0) + (-2)) := f.2.2.2.1
    have t := jgT_un s2.2.2.2
    have t0 : ja h1 12 1 = ((1 * σ 4 + 0) + 0) := t.1 (by decide)
    exact ⟨w, rfl, c1, c2, c3, Or.inr (Or.inr (Or.inr (Or.inr (Or.inr (Or.inr (Or.inr (Or.inr (Or.inr (Or.inr (Or.inr (Or.inr (Or.inr (Or.inr (Or.inr (Or.inr (Or.inr (Or.inr (Or.inl ⟨by omega, by omega, by omega, by omega, by omega, by omega⟩))))))))))))))))))⟩
  · rcases List.mem_singleton.mp q1 with rfl
    obtain ⟨w, rfl, hw⟩ := jO_int s3
    have hw : w.toInt = (-1 : Int) := hw
    have f := jgF_un s2.2.1
    have f0 : 0 ≤ (((-1) * σ 0 + 0) + 6) := f.1
    have f1 : 0 ≤ (((-1) * σ 0 + 0) + 0) := f.2.1
    have f2 : 0 ≤ ((1 * σ 3 + 0) + 0) := f.2.2.1
    have f3 : 0 ≤ ((1 * σ 3 + 0) + (-2)) := f.2.2.2.1
    have f4 : 0 ≤ (((-2) * σ 0 + (1 * σ 4 + 0)) + 0) := f.2.2.2.2.1
    have t := jgT_un s2.2.2.2
    have t0 : ja h1 12 1 = ((1 * σ 4 + 0) + 0) := t.1 (by decide)
    exact ⟨w, rfl, c1, c2, c3, Or.inr (Or.inr (Or.inr (Or.inr (Or.inr (Or.inr (Or.inr (Or.inr (Or.inr (Or.inr (Or.inr (Or.inr (Or.inr (Or.inr (Or.inr (Or.inr (Or.inr (Or.inr (Or.inr (⟨by omega, by omega, by omega, by omega, by omega, by omega, by omega⟩)))))))))))))))))))⟩
theorem ct_anyOrder1_ok {P : si_P} (hxa : P.2.1 < P.1) {d : Nat} (hd : 9 ≤ d) {h : si_H} (a0 : Int32) (a1 : Int32) (a2 : Int32) (a3 : Int32) (hH : az_HI P az_tb h) (hJ : js_J h) : az_X P d 286 0 (lv_args 0 [.ref (P.1 + 60), .int a0, .int a1, .int a2, .int a3]) [] h (fun rv h1 => ∃ w : Int32, rv = some (.int w) ∧ az_HI P az_tb h1 ∧ js_J h1 ∧ az_same_out cq_anyOrder1.2.2.2.2.1 h h1 ∧ ((w.toInt = (-1) ∧ 0 ≤ a0.toInt - 1 ∧ 0 ≤ -a0.toInt + 6 ∧ 0 ≤ a1.toInt ∧ 0 ≤ -a1.toInt + 99 ∧ 0 ≤ -a1.toInt + a2.toInt ∧ 0 ≤ -a2.toInt + 99 ∧ 0 ≤ a3.toInt ∧ 0 ≤ -a3.toInt + 1 ∧ 0 ≤ -ja h 60 16 + 2 * a0.toInt - 1 ∧ ja h1 60 16 = ja h 60 16) ∨ (w.toInt = (-3) ∧ 0 ≤ a0.toInt - 1 ∧ 0 ≤ -a0.toInt + 6 ∧ 0 ≤ a1.toInt ∧ 0 ≤ -a1.toInt + 99 ∧ 0 ≤ -a1.toInt + a2.toInt ∧ 0 ≤ -a2.toInt + 99 ∧ 0 ≤ a3.toInt ∧ 0 ≤ -a3.toInt + 1 ∧ 0 ≤ -2 * a0.toInt + ja h 60 16 ∧ ja h1 60 16 = 0) ∨ (∃ z5 : Int, ((-2147483648) ≤ z5 ∧ z5 ≤ 2147483647) ∧ w.toInt = z5 ∧ 0 ≤ a0.toInt - 1 ∧ 0 ≤ -a0.toInt + 6 ∧ 0 ≤ a1.toInt ∧ 0 ≤ -a1.toInt + 99 ∧ 0 ≤ -a1.toInt + a2.toInt ∧ 0 ≤ -a2.toInt + 99 ∧ 0 ≤ a3.toInt ∧ 0 ≤ -a3.toInt + 1 ∧ 0 ≤ -2 * a0.toInt + ja h 60 16 ∧ ja h1 60 16 = 0) ∨ (w.toInt = (-1) ∧ 0 ≤ a0.toInt - 1 ∧ 0 ≤ -a0.toInt + 6 ∧ 0 ≤ a1.toInt ∧ 0 ≤ -a1.toInt + 99 ∧ 0 ≤ -a1.toInt + a2.toInt ∧ 0 ≤ -a2.toInt + 99 ∧ 0 ≤ a3.toInt ∧ 0 ≤ a3.toInt - 2 ∧ ja h1 60 16 = ja h 60 16) ∨ (w.toInt = (-1) ∧ 0 ≤ a0.toInt - 1 ∧ 0 ≤ -a0.toInt + 6 ∧ 0 ≤ a1.toInt ∧ 0 ≤ -a1.toInt + 99 ∧ 0 ≤ -a1.toInt + a2.toInt ∧ 0 ≤ -a2.toInt + 99 ∧ 0 ≤ -a3.toInt + 1 ∧ 0 ≤ -a3.toInt - 1 ∧ ja h1 60 16 = ja h 60 16) ∨ (w.toInt = (-1) ∧ 0 ≤ a0.toInt - 1 ∧ 0 ≤ -a0.toInt + 6 ∧ 0 ≤ a1.toInt ∧ 0 ≤ -a1.toInt + 99 ∧ 0 ≤ -a1.toInt + a2.toInt ∧ 0 ≤ a2.toInt - 100 ∧ ja h1 60 16 = ja h 60 16) ∨ (w.toInt = (-1) ∧ 0 ≤ a0.toInt - 1 ∧ 0 ≤ -a0.toInt + 6 ∧ 0 ≤ a1.toInt ∧ 0 ≤ -a1.toInt + 99 ∧ 0 ≤ -a2.toInt + a1.toInt - 1 ∧ 0 ≤ -a2.toInt + 99 ∧ ja h1 60 16 = ja h 60 16) ∨ (w.toInt = (-1) ∧ 0 ≤ a0.toInt - 1 ∧ 0 ≤ -a0.toInt + 6 ∧ 0 ≤ a1.toInt ∧ 0 ≤ a1.toInt - 100 ∧ ja h1 60 16 = ja h 60 16) ∨ (w.toInt = (-1) ∧ 0 ≤ a0.toInt - 1 ∧ 0 ≤ -a0.toInt + 6 ∧ 0 ≤ -a1.toInt - 1 ∧ 0 ≤ -a1.toInt + 99 ∧ ja h1 60 16 = ja h 60 16) ∨ (w.toInt = (-1) ∧ 0 ≤ a0.toInt - 1 ∧ 0 ≤ a0.toInt - 7 ∧ ja h1 60 16 = ja h 60 16) ∨ (w.toInt = (-1) ∧ 0 ≤ -a0.toInt + 6 ∧ 0 ≤ -a0.toInt ∧ 0 ≤ -2 * a0.toInt + ja h 60 16 ∧ ja h1 60 16 = ja h 60 16))) := by
  refine ((ok_cq_anyOrder1 hxa).1 d hd (jρ [a0.toInt, a1.toInt, a2.toInt, a3.toInt, ja h 60 16]) h [.ref (P.1 + 60), .int a0, .int a1, .int a2, .int a3] hH hJ (jg_mk hH (by decide) (by decide) ⟨(jF32 a0), (jF32 a1), (jF32 a2), (jF32 a3), (ja_bd hH (i := 60) (k := 16) rfl), trivial⟩ trivial trivial ⟨⟨by decide, (by show (0 : Int) ≤ 0 + 16; decide), rfl, ?_⟩, trivial⟩) ⟨trivial, rfl, az_wfb_ok (by decide), ?_, az_wfb_ok (by decide), ?_, az_wfb_ok (by decide), ?_, az_wfb_ok (by decide), ?_, trivial⟩).mono ?_
  · show ja h 60 16 = (1 * ja h 60 16 + 0) + 0
    omega
  · show a0.toInt = (1 * a0.toInt + 0) + 0
    omega
  · show a1.toInt = (1 * a1.toInt + 0) + 0
    omega
  · show a2.toInt = (1 * a2.toInt + 0) + 0
    omega
  · show a3.toInt = (1 * a3.toInt + 0) + 0
    omega
  rintro rv h1 ⟨c1, c2, c3, q, q1, σ, s1, s2, s3⟩
  have e0 : σ 0 = a0.toInt := s1 0 (by decide)
  have e1 : σ 1 = a1.toInt := s1 1 (by decide)
  have e2 : σ 2 = a2.toInt := s1 2 (by decide)
  have e3 : σ 3 = a3.toInt := s1 3 (by decide)
  have e4 : σ 4 = ja h 60 16 := s1 4 (by decide)
  rcases List.mem_cons.mp q1 with rfl | q1
  · obtain ⟨w, rfl, hw⟩ := jO_int s3
    have hw : w.toInt = (-1 : Int) := hw
    have f := jgF_un s2.2.1
    have f0 : 0 ≤ ((1 * σ 0 + 0) + (-1)) := f.1
    have f1 : 0 ≤ (((-1) * σ 0 + 0) + 6) := f.2.1
    have f2 : 0 ≤ ((1 * σ 1 + 0) + 0) := f.2.2.1
    have f3 : 0 ≤ (((-1) * σ 1 + 0) + 99) := f.2.2.2.1
    have f4 : 0 ≤ (((-1) * σ 1 + (1 * σ 2 + 0)) + 0) := f.2.2.2.2.1
    have f5 : 0 ≤ (((-1) * σ 2 + 0) + 99) := f.2.2.2.2.2.1
    have f6 : 0 ≤ ((1 * σ 3 + 0) + 0) := f.2.2.2.2.2.2.1
    have f7 : 0 ≤ (((-1) * σ 3 + 0) + 1) := f.2.2.2.2.2.2.2.1
    have f8 : 0 ≤ (((-1) * σ 4 + (2 * σ 0 + 0)) + (-1)) := f.2.2.2.2.2.2.2.2.1
    have t := jgT_un s2.2.2.2
    have t0 : ja h1 60 16 = ((1 * σ 4 + 0) + 0) := t.1 (by decide)
    exact ⟨w, rfl, c1, c2, c3, Or.inl ⟨by omega, by omega, by omega, by omega, by omega, by omega, by omega, by omega, by omega, by omega, by omega⟩⟩
  rcases List.mem_cons.mp q1 with rfl | q1
  · obtain ⟨w, rfl, hw⟩ := jO_int s3
    have hw : w.toInt = (-3 : Int) := hw
    have f := jgF_un s2.2.1
    have f0 : 0 ≤ ((1 * σ 0 + 0) + (-1)) := f.1
    have f1 : 0 ≤ (((-1) * σ 0 + 0) + 6) := f.2.1
    have f2 : 0 ≤ ((1 * σ 1 + 0) + 0) := f.2.2.1
    have f3 : 0 ≤ (((-1) * σ 1 + 0) + 99) := f.2.2.2.1
    have f4 : 0 ≤ (((-1) * σ 1 + (1 * σ 2 + 0)) + 0) := f.2.2.2.2.1
    have f5 : 0 ≤ (((-1) * σ 2 + 0) + 99) := f.2.2.2.2.2.1
    have f6 : 0 ≤ ((1 * σ 3 + 0) + 0) := f.2.2.2.2.2.2.1
    have f7 : 0 ≤ (((-1) * σ 3 + 0) + 1) := f.2.2.2.2.2.2.2.1
    have f8 : 0 ≤ (((-2) * σ 0 + (1 * σ 4 + 0)) + 0) := f.2.2.2.2.2.2.2.2.1
    have t := jgT_un s2.2.2.2
    have t0 : ja h1 60 16 = (0 : Int) := t.1 (by decide)
    exact ⟨w, rfl, c1, c2, c3, Or.inr (Or.inl ⟨by omega, by omega, by omega, by omega, by omega, by omega, by omega, by omega, by omega, by omega, by omega⟩)⟩
  rcases List.mem_cons.mp q1 with rfl | q1
  · obtain ⟨w, rfl, hw⟩ := jO_int s3
    have hw : w.toInt = ((1 * σ 5 + 0) + 0) := hw
    have f := jgF_un s2.2.1
    have f0 : 0 ≤ ((1 * σ 0 + 0) + (-1)) := f.1
    have f1 : 0 ≤ (((-1) * σ 0 + 0) + 6) := f.2.1
    have f2 : 0 ≤ ((1 * σ 1 + 0) + 0) := f.2.2.1
    have f3 : 0 ≤ (((-1) * σ 1 + 0) + 99) := f.2.2.2.1
    have f4 : 0 ≤ (((-1) * σ 1 + (1 * σ 2 + 0)) + 0) := f.2.2.2.2.1
    have f5 : 0 ≤ (((-1) * σ 2 + 0) + 99) := f.2.2.2.2.2.1
    have f6 : 0 ≤ ((1 * σ 3 + 0) + 0) := f.2.2.2.2.2.2.1
    have f7 : 0 ≤ (((-1) * σ 3 + 0) + 1) := f.2.2.2.2.2.2.2.1
    have f8 : 0 ≤ (((-2) * σ 0 + (1 * σ 4 + 0)) + 0) := f.2.2.2.2.2.2.2.2.1
    have i5 : (-2147483648) ≤ σ 5 ∧ σ 5 ≤ 2147483647 := s2.1 5 _ rfl
    have t := jgT_un s2.2.2.2
    have t0 : ja h1 60 16 = (0 : Int) := t.1 (by decide)
    exact ⟨w, rfl, c1, c2, c3, Or.inr (Or.inr (Or.inl ⟨σ 5, i5, by omega, by omega, by omega, by omega, by omega, by omega, by omega, by omega, by omega, by omega, by omega⟩))⟩
  rcases List.mem_cons.mp q1 with rfl | q1
  · obtain ⟨w, rfl, hw⟩ := jO_int s3
    have hw : w.toInt = (-1 : Int) := hw
    have f := jgF_un s2.2.1
    have f0 : 0 ≤ ((1 * σ 0 + 0) + (-1)) := f.1
    have f1 : 0 ≤ (((-1) * σ 0 + 0) + 6) := f.2.1
    have f2 : 0 ≤ ((1 * σ 1 + 0) + 0) := f.2.2.1
    have f3 : 0 ≤ (((-1) * σ 1 + 0) + 99) := f.2.2.2.1
    have f4 : 0 ≤ (((-1) * σ 1 + (1 * σ 2 + 0)) + 0) := f.2.2.2.2.1
    have f5 : 0 ≤ (((-1) * σ 2 + 0) + 99) := f.2.2.2.2.2.1
    have f6 : 0 ≤ ((1 * σ 3 + 0) + 0) := f.2.2.2.2.2.2.1
    have f7 : 0 ≤ ((1 * σ 3 + 0) + (-2)) := f.2.2.2.2.2.2.2.1
    have t := jgT_un s2.2.2.2
    have t0 : ja h1 60 16 = ((1 * σ 4 + 0) + 0) := t.1 (by decide)
    exact ⟨w, rfl, c1, c2, c3, Or.inr (Or.inr (Or.inr (Or.inl ⟨by omega, by omega, by omega, by omega, by omega, by omega, by omega, by omega, by omega, by omega⟩)))⟩
  rcases List.mem_cons.mp q1 with rfl | q1
  · obtain ⟨w, rfl, hw⟩ := jO_int s3
    have hw : w.toInt = (-1 : Int) := hw
    have f := jgF_un s2.2.1
    have f0 : 0 ≤ ((1 * σ 0 + 0) + (-1)) := f.1
    have f1 : 0 ≤ (((-1) * σ 0 + 0) + 6) := f.2.1
    have f2 : 0 ≤ ((1 * σ 1 + 0) + 0) := f.2.2.1
    have f3 : 0 ≤ (((-1) * σ 1 + 0) + 99) := f.2.2.2.1
    have f4 : 0 ≤ (((-1) * σ 1 + (1 * σ 2 + 0)) + 0) := f.2.2.2.2.1
    have f5 : 0 ≤ (((-1) * σ 2 + 0) + 99) := f.2.2.2.2.2.1
    have f6 : 0 ≤ (((-1) * σ 3 + 0) + 1) := f.2.2.2.2.2.2.1
    have f7 : 0 ≤ (((-1) * σ 3 + 0) + (-1)) := f.2.2.2.2.2.2.2.1
    have t := jgT_un s2.2.2.2
    have t0 : ja h1 60 16 = ((1 * σ 4 + 0) + 0) := t.1 (by decide)
    exact ⟨w, rfl, c1, c2, c3, Or.inr (Or.inr (Or.inr (Or.inr (Or.inl ⟨by omega, by omega, by omega, by omega, by omega, by omega, by omega, by omega, by omega, by omega⟩))))⟩
  rcases List.mem_cons.mp q1 with rfl | q1
  · obtain ⟨w, rfl, hw⟩ := jO_int s3
    have hw : w.toInt = (-1 : Int) := hw
    have f := jgF_un s2.2.1
    have f0 : 0 ≤ ((1 * σ 0 + 0) + (-1)) := f.1
    have f1 : 0 ≤ (((-1) * σ 0 + 0) + 6) := f.2.1
    have f2 : 0 ≤ ((1 * σ 1 + 0) + 0) := f.2.2.1
    have f3 : 0 ≤ (((-1) * σ 1 + 0) + 99) := f.2.2.2.1
    have f4 : 0 ≤ (((-1) * σ 1 + (1 * σ 2 + 0)) + 0) := f.2.2.2.2.1
    have f5 : 0 ≤ ((1 * σ 2 + 0) + (-100)) := f.2.2.2.2.2.1
    have t := jgT_un s2.2.2.2
    have t0 : ja h1 60 16 = ((1 * σ 4 + 0) + 0) := t.1 (by decide)
    exact ⟨w, rfl, c1, c2, c3, Or.inr (Or.inr (Or.inr (Or.inr (Or.inr (Or.inl ⟨by omega, by omega, by omega, by omega, by omega, by omega, by omega, by omega⟩)))))⟩
  rcases List.mem_cons.mp q1 with rfl | q1
  · obtain ⟨w, rfl, hw⟩ := jO_int s3
    have hw : w.toInt = (-1 : Int) := hw
    have f := jgF_un s2.2.1
    have f0 : 0 ≤ ((1 * σ 0 + 0) + (-1)) := f.1
    have f1 : 0 ≤ (((-1) * σ 0 + 0) + 6) := f.2.1
    have f2 : 0 ≤ ((1 * σ 1 + 0) + 0) := f.2.2.1
    have f3 : 0 ≤ (((-1) * σ 1 + 0) + 99) := f.2.2.2.1
    have f4 : 0 ≤ (((-1) * σ 2 + (1 * σ 1 + 0)) + (-1)) := f.2.2.2.2.1
    have f5 : 0 ≤ (((-1) * σ 2 + 0) + 99) := f.2.2.2.2.2.1
    have t := jgT_un s2.2.2.2
    have t0 : ja h1 60 16 = ((1 * σ 4 + 0) + 0) := t.1 (by decide)
    exact ⟨w, rfl, c1, c2, c3, Or.inr (Or.inr (Or.inr (Or.inr (Or.inr (Or.inr (Or.inl ⟨by omega, by omega, by omega, by omega, by omega, by omega, by omega, by omega⟩))))))⟩
  rcases List.mem_cons.mp q1 with rfl | q1
  · obtain ⟨w, rfl, hw⟩ := jO_int s3
    have hw : w.toInt = (-1 : Int) := hw
    have f := jgF_un s2.2.1
    have f0 : 0 ≤ ((1 * σ 0 + 0) + (-1)) := f.1
    have f1 : 0 ≤ (((-1) * σ 0 + 0) + 6) := f.2.1
    have f2 : 0 ≤ ((1 * σ 1 + 0) + 0) := f.2.2.1
    have f3 : 0 ≤ ((1 * σ 1 + 0) + (-100)) := f.2.2.2.1
    have t := jgT_un s2.2.2.2
    have t0 : ja h1 60 16 = ((1 * σ 4 + 0) + 0) := t.1 (by decide)
    exact ⟨w, rfl, c1, c2, c3, Or.inr (Or.inr (Or.inr (Or.inr (Or.inr (Or.inr (Or.inr (Or.inl ⟨by omega, by omega, by omega, by omega, by omega, by omega⟩)))))))⟩
  rcases List.mem_cons.mp q1 with rfl | q1
  · obtain ⟨w, rfl, hw⟩ := jO_int s3
    have hw : w.toInt = (-1 : Int) := hw
    have f := jgF_un s2.2.1
    have f0 : 0 ≤ ((1 * σ 0 + 0) + (-1)) := f.1
    have f1 : 0 ≤ (((-1) * σ 0 + 0) + 6) := f.2.1
    have f2 : 0 ≤ (((-1) * σ 1 + 0) + (-1)) := f.2.2.1
    have f3 : 0 ≤ (((-1) * σ 1 + 0) + 99) := f.2.2.2.1
    have t := jgT_un s2.2.2.2
    have t0 : ja h1 60 16 = ((1 * σ 4 + 0) + 0) := t.1 (by decide)
    exact ⟨w, rfl, c1, c2, c3, Or.inr (Or.inr (Or.inr (Or.inr (Or.inr (Or.inr (Or.inr (Or.inr (Or.inl ⟨by omega, by omega, by omega, by omega, by omega, by omega⟩))))))))⟩
  rcases List.mem_cons.mp q1 with rfl | q1
  · obtain ⟨w, rfl, hw⟩ := jO_int s3
    have hw : w.toInt = (-1 : Int) := hw
    have f := jgF_un s2.2.1
    have f0 : 0 ≤ ((1 * σ 0 + 0) + (-1)) := f.1
    have f1 : 0 ≤ ((1 * σ 0 + 0) + (-7)) := f.2.1
    have t := jgT_un s2.2.2.2
    have t0 : ja h1 60 16 = ((1 * σ 4 + 0) + 0) := t.1 (by decide)
    exact ⟨w, rfl, c1, c2, c3, Or.inr (Or.inr (Or.inr (Or.inr (Or.inr (Or.inr (Or.inr (Or.inr (Or.inr (Or.inl ⟨by omega, by omega, by omega, by omega⟩)))))))))⟩
  · rcases List.mem_singleton.mp q1 with rfl
    obtain ⟨w, rfl, hw⟩ := jO_int s3
    have hw : w.toInt = (-1 : Int) := hw
    have f := jgF_un s2.2.1
    have f0 : 0 ≤ (((-1) * σ 0 + 0) + 6) := f.1
    have f1 : 0 ≤ (((-1) * σ 0 + 0) + 0) := f.2.1
    have f2 : 0 ≤ (((-2) * σ 0 + (1 * σ 4 + 0)) + 0) := f.2.2.1
    have t := jgT_un s2.2.2.2
    have t0 : ja h1 60 16 = ((1 * σ 4 + 0) + 0) := t.1 (by decide)
    exact ⟨w, rfl, c1, c2, c3, Or.inr (Or.inr (Or.inr (Or.inr (Or.inr (Or.inr (Or.inr (Or.inr (Or.inr (Or.inr (⟨by omega, by omega, by omega, by omega, by omega⟩))))))))))⟩
theorem ct_heard0_ok {P : si_P} (hxa : P.2.1 < P.1) {d : Nat} (hd : 4 ≤ d) {h : si_H} (a0 : Int32) (a1 : Int32) (a2 : Int32) (b1 : 0 ≤ a1.toInt ∧ a1.toInt ≤ 1) (hH : az_HI P az_tb h) (hJ : js_J h) : az_X P d 163 0 (lv_args 0 [.ref (P.1 + 0), .int a0, .int a1, .int a2]) [] h (fun rv h1 => ∃ w : Int32, rv = some (.int w) ∧ az_HI P az_tb h1 ∧ js_J h1 ∧ az_same_out cq_heard0.2.2.2.2.1 h h1 ∧ ((w.toInt = (-1) ∧ 0 ≤ a0.toInt - 1 ∧ 0 ≤ -a0.toInt + 12 ∧ 0 ≤ -a2.toInt + 1 ∧ 0 ≤ -a2.toInt - 1 ∧ ja h1 12 1 = ja h 12 1) ∨ (w.toInt = (-4) ∧ 0 ≤ a0.toInt - 1 ∧ 0 ≤ -a0.toInt + 12 ∧ 0 ≤ a2.toInt ∧ 0 ≤ -a2.toInt + 1 ∧ 0 ≤ -a0.toInt + ja h 12 1 ∧ ja h1 12 1 = 0) ∨ (∃ z4 : Int, ((-2147483648) ≤ z4 ∧ z4 ≤ 2147483647) ∧ w.toInt = z4 ∧ 0 ≤ a0.toInt - 1 ∧ 0 ≤ -a0.toInt + 12 ∧ 0 ≤ a2.toInt ∧ 0 ≤ -a2.toInt + 1 ∧ 0 ≤ -a0.toInt + ja h 12 1 ∧ ja h1 12 1 = 0) ∨ (w.toInt = (-2) ∧ 0 ≤ a0.toInt - 1 ∧ 0 ≤ -a0.toInt + 12 ∧ 0 ≤ a2.toInt ∧ 0 ≤ -a2.toInt + 1 ∧ 0 ≤ -a0.toInt + ja h 12 1 ∧ ja h1 12 1 = 0) ∨ (w.toInt = (-1) ∧ 0 ≤ a0.toInt - 1 ∧ 0 ≤ -a0.toInt + 12 ∧ 0 ≤ a2.toInt ∧ 0 ≤ -a2.toInt + 1 ∧ 0 ≤ -ja h 12 1 + a0.toInt - 1 ∧ ja h1 12 1 = ja h 12 1) ∨ (w.toInt = (-1) ∧ 0 ≤ a0.toInt - 1 ∧ 0 ≤ -a0.toInt + 12 ∧ 0 ≤ a2.toInt ∧ 0 ≤ a2.toInt - 2 ∧ ja h1 12 1 = ja h 12 1) ∨ (w.toInt = (-1) ∧ 0 ≤ a0.toInt - 1 ∧ 0 ≤ a0.toInt - 13 ∧ ja h1 12 1 = ja h 12 1) ∨ (w.toInt = (-1) ∧ 0 ≤ -a0.toInt + 12 ∧ 0 ≤ -a0.toInt ∧ 0 ≤ -a0.toInt + ja h 12 1 ∧ ja h1 12 1 = ja h 12 1))) := by
  refine ((ok_cq_heard0 hxa).1 d hd (jρ [a0.toInt, a1.toInt, a2.toInt, ja h 12 1]) h [.ref (P.1 + 0), .int a0, .int a1, .int a2] hH hJ (jg_mk hH (by decide) (by decide) ⟨(jF32 a0), b1, (jF32 a2), (ja_bd hH (i := 12) (k := 1) rfl), trivial⟩ trivial trivial ⟨⟨by decide, (by show (0 : Int) ≤ 0 + 1; decide), rfl, ?_⟩, trivial⟩) ⟨trivial, rfl, az_wfb_ok (by decide), ?_, az_wfb_ok (by decide), ?_, az_wfb_ok (by decide), ?_, trivial⟩).mono ?_
  · show ja h 12 1 = (1 * ja h 12 1 + 0) + 0
    omega
  · show a0.toInt = (1 * a0.toInt + 0) + 0
    omega
  · show a1.toInt = (1 * a1.toInt + 0) + 0
    omega
  · show a2.toInt = (1 * a2.toInt + 0) + 0
    omega
  rintro rv h1 ⟨c1, c2, c3, q, q1, σ, s1, s2, s3⟩
  have e0 : σ 0 = a0.toInt := s1 0 (by decide)
  have e1 : σ 1 = a1.toInt := s1 1 (by decide)
  have e2 : σ 2 = a2.toInt := s1 2 (by decide)
  have e3 : σ 3 = ja h 12 1 := s1 3 (by decide)
  rcases List.mem_cons.mp q1 with rfl | q1
  · obtain ⟨w, rfl, hw⟩ := jO_int s3
    have hw : w.toInt = (-1 : Int) := hw
    have f := jgF_un s2.2.1
    have f0 : 0 ≤ ((1 * σ 0 + 0) + (-1)) := f.1
    have f1 : 0 ≤ (((-1) * σ 0 + 0) + 12) := f.2.1
    have f2 : 0 ≤ (((-1) * σ 2 + 0) + 1) := f.2.2.1
    have f3 : 0 ≤ (((-1) * σ 2 + 0) + (-1)) := f.2.2.2.1
    have t := jgT_un s2.2.2.2
    have t0 : ja h1 12 1 = ((1 * σ 3 + 0) + 0) := t.1 (by decide)
    exact ⟨w, rfl, c1, c2, c3, Or.inl ⟨by omega, by omega, by omega, by omega, by omega, by omega⟩⟩
  rcases List.mem_cons.mp q1 with rfl | q1
  · obtain ⟨w, rfl, hw⟩ := jO_int s3
    have hw : w.toInt = (-4 : Int) := hw
    have f := jgF_un s2.2.1
    have f0 : 0 ≤ ((1 * σ 0 + 0) + (-1)) := f.1
    have f1 : 0 ≤ (((-1) * σ 0 + 0) + 12) := f.2.1
    have f2 : 0 ≤ ((1 * σ 2 + 0) + 0) := f.2.2.1
    have f3 : 0 ≤ (((-1) * σ 2 + 0) + 1) := f.2.2.2.1
    have f4 : 0 ≤ (((-1) * σ 0 + (1 * σ 3 + 0)) + 0) := f.2.2.2.2.1
    have t := jgT_un s2.2.2.2
    have t0 : ja h1 12 1 = (0 : Int) := t.1 (by decide)
    exact ⟨w, rfl, c1, c2, c3, Or.inr (Or.inl ⟨by omega, by omega, by omega, by omega, by omega, by omega, by omega⟩)⟩
  rcases List.mem_cons.mp q1 with rfl | q1
  · obtain ⟨w, rfl, hw⟩ := jO_int s3
    have hw : w.toInt = ((1 * σ 4 + 0) + 0) := hw
    have f := jgF_un s2.2.1
    have f0 : 0 ≤ ((1 * σ 0 + 0) + (-1)) := f.1
    have f1 : 0 ≤ (((-1) * σ 0 + 0) + 12) := f.2.1
    have f2 : 0 ≤ ((1 * σ 2 + 0) + 0) := f.2.2.1
    have f3 : 0 ≤ (((-1) * σ 2 + 0) + 1) := f.2.2.2.1
    have f4 : 0 ≤ (((-1) * σ 0 + (1 * σ 3 + 0)) + 0) := f.2.2.2.2.1
    have i4 : (-2147483648) ≤ σ 4 ∧ σ 4 ≤ 2147483647 := s2.1 4 _ rfl
    have t := jgT_un s2.2.2.2
    have t0 : ja h1 12 1 = (0 : Int) := t.1 (by decide)
    exact ⟨w, rfl, c1, c2, c3, Or.inr (Or.inr (Or.inl ⟨σ 4, i4, by omega, by omega, by omega, by omega, by omega, by omega, by omega⟩))⟩
  rcases List.mem_cons.mp q1 with rfl | q1
  · obtain ⟨w, rfl, hw⟩ := jO_int s3
    have hw : w.toInt = (-2 : Int) := hw
    have f := jgF_un s2.2.1
    have f0 : 0 ≤ ((1 * σ 0 + 0) + (-1)) := f.1
    have f1 : 0 ≤ (((-1) * σ 0 + 0) + 12) := f.2.1
    have f2 : 0 ≤ ((1 * σ 2 + 0) + 0) := f.2.2.1
    have f3 : 0 ≤ (((-1) * σ 2 + 0) + 1) := f.2.2.2.1
    have f4 : 0 ≤ (((-1) * σ 0 + (1 * σ 3 + 0)) + 0) := f.2.2.2.2.1
    have t := jgT_un s2.2.2.2
    have t0 : ja h1 12 1 = (0 : Int) := t.1 (by decide)
    exact ⟨w, rfl, c1, c2, c3, Or.inr (Or.inr (Or.inr (Or.inl ⟨by omega, by omega, by omega, by omega, by omega, by omega, by omega⟩)))⟩
  rcases List.mem_cons.mp q1 with rfl | q1
  · obtain ⟨w, rfl, hw⟩ := jO_int s3
    have hw : w.toInt = (-1 : Int) := hw
    have f := jgF_un s2.2.1
    have f0 : 0 ≤ ((1 * σ 0 + 0) + (-1)) := f.1
    have f1 : 0 ≤ (((-1) * σ 0 + 0) + 12) := f.2.1
    have f2 : 0 ≤ ((1 * σ 2 + 0) + 0) := f.2.2.1
    have f3 : 0 ≤ (((-1) * σ 2 + 0) + 1) := f.2.2.2.1
    have f4 : 0 ≤ (((-1) * σ 3 + (1 * σ 0 + 0)) + (-1)) := f.2.2.2.2.1
    have t := jgT_un s2.2.2.2
    have t0 : ja h1 12 1 = ((1 * σ 3 + 0) + 0) := t.1 (by decide)
    exact ⟨w, rfl, c1, c2, c3, Or.inr (Or.inr (Or.inr (Or.inr (Or.inl ⟨by omega, by omega, by omega, by omega, by omega, by omega, by omega⟩))))⟩
  rcases List.mem_cons.mp q1 with rfl | q1
  · obtain ⟨w, rfl, hw⟩ := jO_int s3
    have hw : w.toInt = (-1 : Int) := hw
    have f := jgF_un s2.2.1
    have f0 : 0 ≤ ((1 * σ 0 + 0) + (-1)) := f.1
    have f1 : 0 ≤ (((-1) * σ 0 + 0) + 12) := f.2.1
    have f2 : 0 ≤ ((1 * σ 2 + 0) + 0) := f.2.2.1
    have f3 : 0 ≤ ((1 * σ 2 + 0) + (-2)) := f.2.2.2.1
    have t := jgT_un s2.2.2.2
    have t0 : ja h1 12 1 = ((1 * σ 3 + 0) + 0) := t.1 (by decide)
    exact ⟨w, rfl, c1, c2, c3, Or.inr (Or.inr (Or.inr (Or.inr (Or.inr (Or.inl ⟨by omega, by omega, by omega, by omega, by omega, by omega⟩)))))⟩
  rcases List.mem_cons.mp q1 with rfl | q1
  · obtain ⟨w, rfl, hw⟩ := jO_int s3
    have hw : w.toInt = (-1 : Int) := hw
    have f := jgF_un s2.2.1
    have f0 : 0 ≤ ((1 * σ 0 + 0) + (-1)) := f.1
    have f1 : 0 ≤ ((1 * σ 0 + 0) + (-13)) := f.2.1
    have t := jgT_un s2.2.2.2
    have t0 : ja h1 12 1 = ((1 * σ 3 + 0) + 0) := t.1 (by decide)
    exact ⟨w, rfl, c1, c2, c3, Or.inr (Or.inr (Or.inr (Or.inr (Or.inr (Or.inr (Or.inl ⟨by omega, by omega, by omega, by omega⟩))))))⟩
  · rcases List.mem_singleton.mp q1 with rfl
    obtain ⟨w, rfl, hw⟩ := jO_int s3
    have hw : w.toInt = (-1 : Int) := hw
    have f := jgF_un s2.2.1
    have f0 : 0 ≤ (((-1) * σ 0 + 0) + 12) := f.1
    have f1 : 0 ≤ (((-1) * σ 0 + 0) + 0) := f.2.1
    have f2 : 0 ≤ (((-1) * σ 0 + (1 * σ 3 + 0)) + 0) := f.2.2.1
    have t := jgT_un s2.2.2.2
    have t0 : ja h1 12 1 = ((1 * σ 3 + 0) + 0) := t.1 (by decide)
    exact ⟨w, rfl, c1, c2, c3, Or.inr (Or.inr (Or.inr (Or.inr (Or.inr (Or.inr (Or.inr (⟨by omega, by omega, by omega, by omega, by omega⟩)))))))⟩
theorem ct_heard1_ok {P : si_P} (hxa : P.2.1 < P.1) {d : Nat} (hd : 9 ≤ d) {h : si_H} (a0 : Int32) (a1 : Int32) (a2 : Int32) (b1 : 0 ≤ a1.toInt ∧ a1.toInt ≤ 1) (hH : az_HI P az_tb h) (hJ : js_J h) : az_X P d 293 0 (lv_args 0 [.ref (P.1 + 60), .int a0, .int a1, .int a2]) [] h (fun rv h1 => ∃ w : Int32, rv = some (.int w) ∧ az_HI P az_tb h1 ∧ js_J h1 ∧ az_same_out cq_heard1.2.2.2.2.1 h h1 ∧ ((w.toInt = (-1) ∧ 0 ≤ a0.toInt - 1 ∧ 0 ≤ -a0.toInt + 12 ∧ 0 ≤ a2.toInt ∧ 0 ≤ -a2.toInt + 1 ∧ 0 ≤ -ja h 60 16 + a0.toInt - 1 ∧ ja h1 60 16 = ja h 60 16) ∨ (w.toInt = (-1) ∧ 0 ≤ a0.toInt - 1 ∧ 0 ≤ -a0.toInt + 12 ∧ 0 ≤ a2.toInt ∧ 0 ≤ a2.toInt - 2 ∧ ja h1 60 16 = ja h 60 16) ∨ (w.toInt = (-1) ∧ 0 ≤ a0.toInt - 1 ∧ 0 ≤ -a0.toInt + 12 ∧ 0 ≤ -a2.toInt + 1 ∧ 0 ≤ -a2.toInt - 1 ∧ ja h1 60 16 = ja h 60 16) ∨ (w.toInt = (-1) ∧ 0 ≤ a0.toInt - 1 ∧ 0 ≤ a0.toInt - 13 ∧ ja h1 60 16 = ja h 60 16) ∨ (w.toInt = (-1) ∧ 0 ≤ -a0.toInt + 12 ∧ 0 ≤ -a0.toInt ∧ 0 ≤ -a0.toInt + ja h 60 16 ∧ ja h1 60 16 = ja h 60 16) ∨ (∃ z4 : Int, ((-4) ≤ z4 ∧ z4 ≤ 1439) ∧ w.toInt = z4 ∧ 0 ≤ a0.toInt - 1 ∧ 0 ≤ -a0.toInt + 12 ∧ 0 ≤ a2.toInt ∧ 0 ≤ -a2.toInt + 1 ∧ 0 ≤ -a0.toInt + ja h 60 16 ∧ ja h1 60 16 = 0))) := by
  refine ((ok_cq_heard1 hxa).1 d hd (jρ [a0.toInt, a1.toInt, a2.toInt, ja h 60 16]) h [.ref (P.1 + 60), .int a0, .int a1, .int a2] hH hJ (jg_mk hH (by decide) (by decide) ⟨(jF32 a0), b1, (jF32 a2), (ja_bd hH (i := 60) (k := 16) rfl), trivial⟩ trivial trivial ⟨⟨by decide, (by show (0 : Int) ≤ 0 + 16; decide), rfl, ?_⟩, trivial⟩) ⟨trivial, rfl, az_wfb_ok (by decide), ?_, az_wfb_ok (by decide), ?_, az_wfb_ok (by decide), ?_, trivial⟩).mono ?_
  · show ja h 60 16 = (1 * ja h 60 16 + 0) + 0
    omega
  · show a0.toInt = (1 * a0.toInt + 0) + 0
    omega
  · show a1.toInt = (1 * a1.toInt + 0) + 0
    omega
  · show a2.toInt = (1 * a2.toInt + 0) + 0
    omega
  rintro rv h1 ⟨c1, c2, c3, q, q1, σ, s1, s2, s3⟩
  have e0 : σ 0 = a0.toInt := s1 0 (by decide)
  have e1 : σ 1 = a1.toInt := s1 1 (by decide)
  have e2 : σ 2 = a2.toInt := s1 2 (by decide)
  have e3 : σ 3 = ja h 60 16 := s1 3 (by decide)
  rcases List.mem_cons.mp q1 with rfl | q1
  · obtain ⟨w, rfl, hw⟩ := jO_int s3
    have hw : w.toInt = (-1 : Int) := hw
    have f := jgF_un s2.2.1
    have f0 : 0 ≤ ((1 * σ 0 + 0) + (-1)) := f.1
    have f1 : 0 ≤ (((-1) * σ 0 + 0) + 12) := f.2.1
    have f2 : 0 ≤ ((1 * σ 2 + 0) + 0) := f.2.2.1
    have f3 : 0 ≤ (((-1) * σ 2 + 0) + 1) := f.2.2.2.1
    have f4 : 0 ≤ (((-1) * σ 3 + (1 * σ 0 + 0)) + (-1)) := f.2.2.2.2.1
    have t := jgT_un s2.2.2.2
    have t0 : ja h1 60 16 = ((1 * σ 3 + 0) + 0) := t.1 (by decide)
    exact ⟨w, rfl, c1, c2, c3, Or.inl ⟨by omega, by omega, by omega, by omega, by omega, by omega, by omega⟩⟩
  rcases List.mem_cons.mp q1 with rfl | q1
  · obtain ⟨w, rfl, hw⟩ := jO_int s3
    have hw : w.toInt = (-1 : Int) := hw
    have f := jgF_un s2.2.1
    have f0 : 0 ≤ ((1 * σ 0 + 0) + (-1)) := f.1
    have f1 : 0 ≤ (((-1) * σ 0 + 0) + 12) := f.2.1
    have f2 : 0 ≤ ((1 * σ 2 + 0) + 0) := f.2.2.1
    have f3 : 0 ≤ ((1 * σ 2 + 0) + (-2)) := f.2.2.2.1
    have t := jgT_un s2.2.2.2
    have t0 : ja h1 60 16 = ((1 * σ 3 + 0) + 0) := t.1 (by decide)
    exact ⟨w, rfl, c1, c2, c3, Or.inr (Or.inl ⟨by omega, by omega, by omega, by omega, by omega, by omega⟩)⟩
  rcases List.mem_cons.mp q1 with rfl | q1
  · obtain ⟨w, rfl, hw⟩ := jO_int s3
    have hw : w.toInt = (-1 : Int) := hw
    have f := jgF_un s2.2.1
    have f0 : 0 ≤ ((1 * σ 0 + 0) + (-1)) := f.1
    have f1 : 0 ≤ (((-1) * σ 0 + 0) + 12) := f.2.1
    have f2 : 0 ≤ (((-1) * σ 2 + 0) + 1) := f.2.2.1
    have f3 : 0 ≤ (((-1) * σ 2 + 0) + (-1)) := f.2.2.2.1
    have t := jgT_un s2.2.2.2
    have t0 : ja h1 60 16 = ((1 * σ 3 + 0) + 0) := t.1 (by decide)
    exact ⟨w, rfl, c1, c2, c3, Or.inr (Or.inr (Or.inl ⟨by omega, by omega, by omega, by omega, by omega, by omega⟩))⟩
  rcases List.mem_cons.mp q1 with rfl | q1
  · obtain ⟨w, rfl, hw⟩ := jO_int s3
    have hw : w.toInt = (-1 : Int) := hw
    have f := jgF_un s2.2.1
    have f0 : 0 ≤ ((1 * σ 0 + 0) + (-1)) := f.1
    have f1 : 0 ≤ ((1 * σ 0 + 0) + (-13)) := f.2.1
    have t := jgT_un s2.2.2.2
    have t0 : ja h1 60 16 = ((1 * σ 3 + 0) + 0) := t.1 (by decide)
    exact ⟨w, rfl, c1, c2, c3, Or.inr (Or.inr (Or.inr (Or.inl ⟨by omega, by omega, by omega, by omega⟩)))⟩
  rcases List.mem_cons.mp q1 with rfl | q1
  · obtain ⟨w, rfl, hw⟩ := jO_int s3
    have hw : w.toInt = (-1 : Int) := hw
    have f := jgF_un s2.2.1
    have f0 : 0 ≤ (((-1) * σ 0 + 0) + 12) := f.1
    have f1 : 0 ≤ (((-1) * σ 0 + 0) + 0) := f.2.1
    have f2 : 0 ≤ (((-1) * σ 0 + (1 * σ 3 + 0)) + 0) := f.2.2.1
    have t := jgT_un s2.2.2.2
    have t0 : ja h1 60 16 = ((1 * σ 3 + 0) + 0) := t.1 (by decide)
    exact ⟨w, rfl, c1, c2, c3, Or.inr (Or.inr (Or.inr (Or.inr (Or.inl ⟨by omega, by omega, by omega, by omega, by omega⟩))))⟩
  · rcases List.mem_singleton.mp q1 with rfl
    obtain ⟨w, rfl, hw⟩ := jO_int s3
    have hw : w.toInt = ((1 * σ 4 + 0) + 0) := hw
    have f := jgF_un s2.2.1
    have f0 : 0 ≤ ((1 * σ 0 + 0) + (-1)) := f.1
    have f1 : 0 ≤ (((-1) * σ 0 + 0) + 12) := f.2.1
    have f2 : 0 ≤ ((1 * σ 2 + 0) + 0) := f.2.2.1
    have f3 : 0 ≤ (((-1) * σ 2 + 0) + 1) := f.2.2.2.1
    have f4 : 0 ≤ (((-1) * σ 0 + (1 * σ 3 + 0)) + 0) := f.2.2.2.2.1
    have i4 : (-4) ≤ σ 4 ∧ σ 4 ≤ 1439 := s2.1 4 _ rfl
    have t := jgT_un s2.2.2.2
    have t0 : ja h1 60 16 = (0 : Int) := t.1 (by decide)
    exact ⟨w, rfl, c1, c2, c3, Or.inr (Or.inr (Or.inr (Or.inr (Or.inr (⟨σ 4, i4, by omega, by omega, by omega, by omega, by omega, by omega, by omega⟩)))))⟩
theorem ct_check0_ok {P : si_P} (hxa : P.2.1 < P.1) {d : Nat} (hd : 2 ≤ d) {h : si_H} (a0 : Int32) (hH : az_HI P az_tb h) (hJ : js_J h) : az_X P d 186 0 (lv_args 0 [.ref (P.1 + 0), .int a0]) [] h (fun rv h1 => ∃ w : Int32, rv = some (.int w) ∧ az_HI P az_tb h1 ∧ js_J h1 ∧ az_same_out cq_check0.2.2.2.2.1 h h1 ∧ ((w.toInt = (-2) ∧ 0 ≤ a0.toInt ∧ 0 ≤ -a0.toInt + 8 ∧ 0 ≤ -ja h 12 1 + a0.toInt - 1 ∧ ja h1 12 1 = ja h 12 1) ∨ (w.toInt = (-2) ∧ 0 ≤ a0.toInt ∧ 0 ≤ a0.toInt - 9 ∧ ja h1 12 1 = ja h 12 1) ∨ (w.toInt = (-2) ∧ 0 ≤ -a0.toInt + 8 ∧ 0 ≤ -a0.toInt - 1 ∧ 0 ≤ -a0.toInt + ja h 12 1 ∧ ja h1 12 1 = ja h 12 1) ∨ (∃ z2 : Int, ((-1) ≤ z2 ∧ z2 ≤ 7) ∧ w.toInt = z2 ∧ 0 ≤ a0.toInt ∧ 0 ≤ -a0.toInt + 8 ∧ 0 ≤ -a0.toInt + ja h 12 1 ∧ ja h1 12 1 = 0))) := by
  refine ((ok_cq_check0 hxa).1 d hd (jρ [a0.toInt, ja h 12 1]) h [.ref (P.1 + 0), .int a0] hH hJ (jg_mk hH (by decide) (by decide) ⟨(jF32 a0), (ja_bd hH (i := 12) (k := 1) rfl), trivial⟩ trivial trivial ⟨⟨by decide, (by show (0 : Int) ≤ 0 + 1; decide), rfl, ?_⟩, trivial⟩) ⟨trivial, rfl, az_wfb_ok (by decide), ?_, trivial⟩).mono ?_
  · show ja h 12 1 = (1 * ja h 12 1 + 0) + 0
    omega
  · show a0.toInt = (1 * a0.toInt + 0) + 0
    omega
  rintro rv h1 ⟨c1, c2, c3, q, q1, σ, s1, s2, s3⟩
  have e0 : σ 0 = a0.toInt := s1 0 (by decide)
  have e1 : σ 1 = ja h 12 1 := s1 1 (by decide)
  rcases List.mem_cons.mp q1 with rfl | q1
  · obtain ⟨w, rfl, hw⟩ := jO_int s3
    have hw : w.toInt = (-2 : Int) := hw
    have f := jgF_un s2.2.1
    have f0 : 0 ≤ ((1 * σ 0 + 0) + 0) := f.1
    have f1 : 0 ≤ (((-1) * σ 0 + 0) + 8) := f.2.1
    have f2 : 0 ≤ (((-1) * σ 1 + (1 * σ 0 + 0)) + (-1)) := f.2.2.1
    have t := jgT_un s2.2.2.2
    have t0 : ja h1 12 1 = ((1 * σ 1 + 0) + 0) := t.1 (by decide)
    exact ⟨w, rfl, c1, c2, c3, Or.inl ⟨by omega, by omega, by omega, by omega, by omega⟩⟩
  rcases List.mem_cons.mp q1 with rfl | q1
  · obtain ⟨w, rfl, hw⟩ := jO_int s3
    have hw : w.toInt = (-2 : Int) := hw
    have f := jgF_un s2.2.1
    have f0 : 0 ≤ ((1 * σ 0 + 0) + 0) := f.1
    have f1 : 0 ≤ ((1 * σ 0 + 0) + (-9)) := f.2.1
    have t := jgT_un s2.2.2.2
    have t0 : ja h1 12 1 = ((1 * σ 1 + 0) + 0) := t.1 (by decide)
    exact ⟨w, rfl, c1, c2, c3, Or.inr (Or.inl ⟨by omega, by omega, by omega, by omega⟩)⟩
  rcases List.mem_cons.mp q1 with rfl | q1
  · obtain ⟨w, rfl, hw⟩ := jO_int s3
    have hw : w.toInt = (-2 : Int) := hw
    have f := jgF_un s2.2.1
    have f0 : 0 ≤ (((-1) * σ 0 + 0) + 8) := f.1
    have f1 : 0 ≤ (((-1) * σ 0 + 0) + (-1)) := f.2.1
    have f2 : 0 ≤ (((-1) * σ 0 + (1 * σ 1 + 0)) + 0) := f.2.2.1
    have t := jgT_un s2.2.2.2
    have t0 : ja h1 12 1 = ((1 * σ 1 + 0) + 0) := t.1 (by decide)
    exact ⟨w, rfl, c1, c2, c3, Or.inr (Or.inr (Or.inl ⟨by omega, by omega, by omega, by omega, by omega⟩))⟩
  · rcases List.mem_singleton.mp q1 with rfl
    obtain ⟨w, rfl, hw⟩ := jO_int s3
    have hw : w.toInt = ((1 * σ 2 + 0) + 0) := hw
    have f := jgF_un s2.2.1
    have f0 : 0 ≤ ((1 * σ 0 + 0) + 0) := f.1
    have f1 : 0 ≤ (((-1) * σ 0 + 0) + 8) := f.2.1
    have f2 : 0 ≤ (((-1) * σ 0 + (1 * σ 1 + 0)) + 0) := f.2.2.1
    have i2 : (-1) ≤ σ 2 ∧ σ 2 ≤ 7 := s2.1 2 _ rfl
    have t := jgT_un s2.2.2.2
    have t0 : ja h1 12 1 = (0 : Int) := t.1 (by decide)
    exact ⟨w, rfl, c1, c2, c3, Or.inr (Or.inr (Or.inr (⟨σ 2, i2, by omega, by omega, by omega, by omega, by omega⟩)))⟩
theorem ct_check1_ok {P : si_P} (hxa : P.2.1 < P.1) {d : Nat} (hd : 2 ≤ d) {h : si_H} (a0 : Int32) (hH : az_HI P az_tb h) (hJ : js_J h) : az_X P d 338 0 (lv_args 0 [.ref (P.1 + 60), .int a0]) [] h (fun rv h1 => ∃ w : Int32, rv = some (.int w) ∧ az_HI P az_tb h1 ∧ js_J h1 ∧ az_same_out cq_check1.2.2.2.2.1 h h1 ∧ ((w.toInt = (-2) ∧ 0 ≤ a0.toInt ∧ 0 ≤ -a0.toInt + 8 ∧ 0 ≤ -ja h 60 16 + a0.toInt - 1 ∧ ja h1 60 16 = ja h 60 16) ∨ (w.toInt = (-2) ∧ 0 ≤ a0.toInt ∧ 0 ≤ a0.toInt - 9 ∧ ja h1 60 16 = ja h 60 16) ∨ (w.toInt = (-2) ∧ 0 ≤ -a0.toInt + 8 ∧ 0 ≤ -a0.toInt - 1 ∧ 0 ≤ -a0.toInt + ja h 60 16 ∧ ja h1 60 16 = ja h 60 16) ∨ (∃ z2 : Int, (0 ≤ z2 ∧ z2 ≤ 7) ∧ w.toInt = z2 ∧ 0 ≤ a0.toInt ∧ 0 ≤ -a0.toInt + 8 ∧ 0 ≤ -a0.toInt + ja h 60 16 ∧ ja h1 60 16 = 0) ∨ (w.toInt = (-1) ∧ 0 ≤ a0.toInt ∧ 0 ≤ -a0.toInt + 8 ∧ 0 ≤ -a0.toInt + ja h 60 16 ∧ ja h1 60 16 = 0))) := by
  refine ((ok_cq_check1 hxa).1 d hd (jρ [a0.toInt, ja h 60 16]) h [.ref (P.1 + 60), .int a0] hH hJ (jg_mk hH (by decide) (by decide) ⟨(jF32 a0), (ja_bd hH (i := 60) (k := 16) rfl), trivial⟩ trivial trivial ⟨⟨by decide, (by show (0 : Int) ≤ 0 + 16; decide), rfl, ?_⟩, trivial⟩) ⟨trivial, rfl, az_wfb_ok (by decide), ?_, trivial⟩).mono ?_
  · show ja h 60 16 = (1 * ja h 60 16 + 0) + 0
    omega
  · show a0.toInt = (1 * a0.toInt + 0) + 0
    omega
  rintro rv h1 ⟨c1, c2, c3, q, q1, σ, s1, s2, s3⟩
  have e0 : σ 0 = a0.toInt := s1 0 (by decide)
  have e1 : σ 1 = ja h 60 16 := s1 1 (by decide)
  rcases List.mem_cons.mp q1 with rfl | q1
  · obtain ⟨w, rfl, hw⟩ := jO_int s3
    have hw : w.toInt = (-2 : Int) := hw
    have f := jgF_un s2.2.1
    have f0 : 0 ≤ ((1 * σ 0 + 0) + 0) := f.1
    have f1 : 0 ≤ (((-1) * σ 0 + 0) + 8) := f.2.1
    have f2 : 0 ≤ (((-1) * σ 1 + (1 * σ 0 + 0)) + (-1)) := f.2.2.1
    have t := jgT_un s2.2.2.2
    have t0 : ja h1 60 16 = ((1 * σ 1 + 0) + 0) := t.1 (by decide)
    exact ⟨w, rfl, c1, c2, c3, Or.inl ⟨by omega, by omega, by omega, by omega, by omega⟩⟩
  rcases List.mem_cons.mp q1 with rfl | q1
  · obtain ⟨w, rfl, hw⟩ := jO_int s3
    have hw : w.toInt = (-2 : Int) := hw
    have f := jgF_un s2.2.1
    have f0 : 0 ≤ ((1 * σ 0 + 0) + 0) := f.1
    have f1 : 0 ≤ ((1 * σ 0 + 0) + (-9)) := f.2.1
    have t := jgT_un s2.2.2.2
    have t0 : ja h1 60 16 = ((1 * σ 1 + 0) + 0) := t.1 (by decide)
    exact ⟨w, rfl, c1, c2, c3, Or.inr (Or.inl ⟨by omega, by omega, by omega, by omega⟩)⟩
  rcases List.mem_cons.mp q1 with rfl | q1
  · obtain ⟨w, rfl, hw⟩ := jO_int s3
    have hw : w.toInt = (-2 : Int) := hw
    have f := jgF_un s2.2.1
    have f0 : 0 ≤ (((-1) * σ 0 + 0) + 8) := f.1
    have f1 : 0 ≤ (((-1) * σ 0 + 0) + (-1)) := f.2.1
    have f2 : 0 ≤ (((-1) * σ 0 + (1 * σ 1 + 0)) + 0) := f.2.2.1
    have t := jgT_un s2.2.2.2
    have t0 : ja h1 60 16 = ((1 * σ 1 + 0) + 0) := t.1 (by decide)
    exact ⟨w, rfl, c1, c2, c3, Or.inr (Or.inr (Or.inl ⟨by omega, by omega, by omega, by omega, by omega⟩))⟩
  rcases List.mem_cons.mp q1 with rfl | q1
  · obtain ⟨w, rfl, hw⟩ := jO_int s3
    have hw : w.toInt = ((1 * σ 2 + 0) + 0) := hw
    have f := jgF_un s2.2.1
    have f0 : 0 ≤ ((1 * σ 0 + 0) + 0) := f.1
    have f1 : 0 ≤ (((-1) * σ 0 + 0) + 8) := f.2.1
    have f2 : 0 ≤ (((-1) * σ 0 + (1 * σ 1 + 0)) + 0) := f.2.2.1
    have i2 : 0 ≤ σ 2 ∧ σ 2 ≤ 7 := s2.1 2 _ rfl
    have t := jgT_un s2.2.2.2
    have t0 : ja h1 60 16 = (0 : Int) := t.1 (by decide)
    exact ⟨w, rfl, c1, c2, c3, Or.inr (Or.inr (Or.inr (Or.inl ⟨σ 2, i2, by omega, by omega, by omega, by omega, by omega⟩)))⟩
  · rcases List.mem_singleton.mp q1 with rfl
    obtain ⟨w, rfl, hw⟩ := jO_int s3
    have hw : w.toInt = (-1 : Int) := hw
    have f := jgF_un s2.2.1
    have f0 : 0 ≤ ((1 * σ 0 + 0) + 0) := f.1
    have f1 : 0 ≤ (((-1) * σ 0 + 0) + 8) := f.2.1
    have f2 : 0 ≤ (((-1) * σ 0 + (1 * σ 1 + 0)) + 0) := f.2.2.1
    have t := jgT_un s2.2.2.2
    have t0 : ja h1 60 16 = (0 : Int) := t.1 (by decide)
    exact ⟨w, rfl, c1, c2, c3, Or.inr (Or.inr (Or.inr (Or.inr (⟨by omega, by omega, by omega, by omega, by omega⟩))))⟩
