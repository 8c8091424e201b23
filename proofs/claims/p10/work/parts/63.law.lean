/-! BY HAND, 13: what is kept over all calls; the law -/
/-- the look at a time -/
def jlk (m r t : Int) : Int := 64 * min (t % m) (t / r) + max (t % m) (t / r)
def js_1 (h : si_H) : Prop := ja h 60 9 = ja h 60 7 * ja h 60 8 ∧ ∀ t : Nat, (t : Int) < ja h 60 9 → ja h 68 t = jlk (ja h 60 7) (ja h 60 8) t
def js_2 (h : si_H) : Prop := ∀ q : Nat, (q : Int) < ja h 60 25 → ∃ f m t : Nat, ja h 80 q = f ∧ ja h 81 q = m ∧ ja h 82 q = t ∧ f ≤ m ∧ m ≤ t ∧ t ≤ 240 ∧ jsg (ja h 78) f m ∧ jsg (ja h 78) m t
def js_J (h : si_H) : Prop := js_1 h ∧ js_2 h
theorem js_1_cg {h h' : si_H} (s : js_1 h) (e7 : ja h' 60 7 = ja h 60 7) (e8 : ja h' 60 8 = ja h 60 8) (e9 : ja h' 60 9 = ja h 60 9) (e : ∀ k : Nat, ja h' 68 k = ja h 68 k) : js_1 h' := by
  unfold js_1
  rw [e7, e8, e9]
  exact ⟨s.1, fun t ht => (e t).trans (s.2 t ht)⟩
theorem js_2_cg {h h' : si_H} (s : js_2 h) (e25 : ja h' 60 25 = ja h 60 25) (e78 : ∀ k : Nat, ja h' 78 k = ja h 78 k) (e80 : ∀ k : Nat, ja h' 80 k = ja h 80 k) (e81 : ∀ k : Nat, ja h' 81 k = ja h 81 k) (e82 : ∀ k : Nat, ja h' 82 k = ja h 82 k) : js_2 h' := by
  intro q hq
  rw [e25] at hq
  obtain ⟨f, m, t, r1, r2, r3, r4, r5, r6, r7, r8⟩ := s q hq
  exact ⟨f, m, t, (e80 q).trans r1, (e81 q).trans r2, (e82 q).trans r3, r4, r5, r6, jsg_cg r7 r4 (fun k _ => e78 k), jsg_cg r8 r5 (fun k _ => e78 k)⟩
theorem js_1_so {md : List (Nat × Nat)} {h h' : si_H} (hs : az_same_out md h h') (h7 : az_in md 60 7 = false) (h8 : az_in md 60 8 = false) (h9 : az_in md 60 9 = false) (hr : md.all (fun x => decide (x.1 ≠ 68)) = true) (s : js_1 h) : js_1 h' := js_1_cg s (jso hs h7) (jso hs h8) (jso hs h9) (fun k => jso_row hs hr k)
theorem js_2_so {md : List (Nat × Nat)} {h h' : si_H} (hs : az_same_out md h h') (h25 : az_in md 60 25 = false) (h78 : md.all (fun x => decide (x.1 ≠ 78)) = true) (h80 : md.all (fun x => decide (x.1 ≠ 80)) = true) (h81 : md.all (fun x => decide (x.1 ≠ 81)) = true) (h82 : md.all (fun x => decide (x.1 ≠ 82)) = true) (s : js_2 h) : js_2 h' := js_2_cg s (jso hs h25) (fun k => jso_row hs h78 k) (fun k => jso_row hs h80 k) (fun k => jso_row hs h81 k) (fun k => jso_row hs h82 k)
theorem js_fr : az_fr_of js_J az_jf := by
  intro a b s e
  have e1 : ∀ (i : Nat) (k : Int), az_in az_jf i k.toNat = true → ja b i k = ja a i k := fun i k hk => by
    show ji b i _ = ji a i _
    unfold ji
    rw [e i _ hk]
  have e2 : ∀ (i : Nat), az_jf.contains (i, 1000000) = true → ∀ k : Nat, ja b i k = ja a i k := fun i hi k => e1 i k (by
    unfold az_in
    rw [hi, Bool.or_true])
  exact ⟨js_1_cg s.1 (e1 _ _ (by decide)) (e1 _ _ (by decide)) (e1 _ _ (by decide)) (e2 68 (by decide)), js_2_cg s.2 (e1 _ _ (by decide)) (e2 78 (by decide)) (e2 80 (by decide)) (e2 81 (by decide)) (e2 82 (by decide))⟩
/-- an answer within bounds, put as a contract says it -/
theorem jg_drop {P : si_P} {ρ : Nat → Int} {h h1 : si_H} {I : az_I} {F : List az_L} {N : List az_N} {T : List az_R} (hg : az_g P ρ h (I, F, N, T)) : az_g P ρ h1 (I, F, N, []) := ⟨hg.1, hg.2.1, hg.2.2.1, fun q hq => by cases hq⟩
theorem jct_int {P : si_P} {ρ : Nat → Int} {h h1 : si_H} {I : az_I} {F : List az_L} {N : List az_N} {T : List az_R} {lo hi z : Int} {rv : Option Value} (hg : az_g P ρ h (I, F, N, T)) (hv : jV rv z) (h1' : lo ≤ z) (h2 : z ≤ hi) : ∃ σ, az_ext I.length ρ σ ∧ az_g P σ h1 (I ++ [(lo, hi)], F, N, []) ∧ az_gO P σ (I ++ [(lo, hi)]).length (some (.inl ([(I.length, 1)], 0))) rv := by
  obtain ⟨σ, s1, s2, s3, s4, s5⟩ := az_fr_out (jg_drop (h1 := h1) hg) h1' h2
  obtain ⟨x, rfl, hx⟩ := hv
  exact ⟨σ, s1, s2, s4, hx.trans s5, trivial⟩
theorem jct_non {P : si_P} {ρ : Nat → Int} {h h1 : si_H} {I : az_I} {F : List az_L} {N : List az_N} {T : List az_R} (hg : az_g P ρ h (I, F, N, T)) : ∃ σ, az_ext I.length ρ σ ∧ az_g P σ h1 (I, F, N, []) ∧ az_gO P σ I.length none none := ⟨ρ, az_ext.rf, jg_drop hg, trivial⟩
section Law
variable {P : si_P} {d : Nat}
/-- what the law leaves -/
def lwQ (P : si_P) (h : si_H) (rv : Option Value) (h' : si_H) : Prop := az_HI P az_tb h' ∧ js_J h' ∧ az_same_out jm_lw h h' ∧ ∃ z : Int, jV rv z ∧ -20000 ≤ z ∧ z ≤ 16
theorem law_123 (hxa : P.2.1 < P.1) (hd : 6 ≤ d) {h : si_H} {q : Nat} (hq : q ≤ 16) : ∀ (n k : Nat) (h2 : si_H) (ls : si_L), k + n = q → az_HI P az_tb h2 → az_same_out jm_lw h h2 → js_1 h2 → ja h2 60 24 = q → ja h2 60 25 = q → (∀ j : Nat, j < q → ∃ f m t : Nat, ja h2 75 j = f ∧ ja h2 76 j = m ∧ ja h2 77 j = t ∧ f ≤ m ∧ m ≤ t ∧ t ≤ 240 ∧ jsg (ja h2 78) f m ∧ jsg (ja h2 78) m t) → (∀ j : Nat, j < k → ja h2 80 j = ja h2 75 j ∧ ja h2 81 j = ja h2 76 j ∧ ja h2 82 j = ja h2 77 j) → jR P ls 0 60 → jI ls 3 k → az_X P d 261 123 ls [] h2 (lwQ P h) := by
  intro n
  induction n with
  | zero =>
    intro k h2 ls hk hH hs s1 tq tc hr hc l0 l3
    apply sx_lw7 hxa (by omega) hH (k := k) (q := q) (by omega) (by omega) (by omega) tq l0 l3
    intro τ h3 rv3 e0 e1 hH3 hs3 fr3 iv3 fs3 nn3 t0 hv3
    refine ⟨hH3, ⟨js_1_cg s1 (fr3 _ _ (by omega)) (fr3 _ _ (by omega)) (fr3 _ _ (by omega)) (fun k => fr3 _ _ (by omega)), ?_⟩, hs.tr hs3, q, hv3.cg (by omega), by omega, by omega⟩
    have : js_2 h2 := by
      intro j hj
      obtain ⟨f, m, t, r1, r2, r3, r4, r5, r6, r7, r8⟩ := hr j (by omega)
      obtain ⟨c1, c2, c3⟩ := hc j (by omega)
      exact ⟨f, m, t, c1.trans r1, c2.trans r2, c3.trans r3, r4, r5, r6, r7, r8⟩
    exact js_2_cg this (fr3 _ _ (by omega)) (fun k => fr3 _ _ (by omega)) (fun k => fr3 _ _ (by omega)) (fun k => fr3 _ _ (by omega)) (fun k => fr3 _ _ (by omega))
  | succ n ih =>
    intro k h2 ls hk hH hs s1 tq tc hr hc l0 l3
    have b : ∀ i : Nat, jrow i = some (16, -2147483648, 2147483647) → -2147483648 ≤ ja h2 i k ∧ ja h2 i k ≤ 2147483647 := fun i hi => ja_row hH (i := i) hi (k := (k : Int)) (by omega) (by show (k : Int) < (16 : Nat); omega)
    apply sx_lw6 hxa (by omega) hH (k := k) (q := q) (a := ja h2 74 k) (b := ja h2 75 k) (m := ja h2 76 k) (t := ja h2 77 k) (by omega) (by omega) (b 74 rfl) (b 75 rfl) (b 76 rfl) (b 77 rfl) (by omega) tq rfl (by omega) rfl (by omega) rfl (by omega) rfl (by omega) l0 l3
    intro τ h3 ls3 e0 e1 e2 e3 e4 e5 hH3 hs3 fr3 iv3 fs3 nn3 t0 t1 t2 t3 t4 t5 t6 t7 t8 m3 m0
    have g : ∀ i : Nat, i ≠ 79 → i ≠ 80 → i ≠ 81 → i ≠ 82 → ∀ j : Int, 0 ≤ j → ja h3 i j = ja h2 i j := fun i h1 h2' h4 h5 j hj => fr3 i j hj (by omega) (by omega) (by omega) (by omega)
    have g2 : ∀ i : Nat, ∀ j : Nat, j ≠ k → ja h3 i j = ja h2 i j := fun i j hj => fr3 i j (by omega) (by omega) (by omega) (by omega) (by omega)
    refine ih (k + 1) h3 ls3 (by omega) hH3 (hs.tr hs3) (js_1_cg s1 (g 60 (by omega) (by omega) (by omega) (by omega) _ (by omega)) (g 60 (by omega) (by omega) (by omega) (by omega) _ (by omega)) (g 60 (by omega) (by omega) (by omega) (by omega) _ (by omega)) (fun j => g 68 (by omega) (by omega) (by omega) (by omega) _ (by omega))) ((g 60 (by omega) (by omega) (by omega) (by omega) _ (by omega)).trans tq) ((g 60 (by omega) (by omega) (by omega) (by omega) _ (by omega)).trans tc) ?_ ?_ m0 (m3.cg (by omega))
    · intro j hj
      obtain ⟨f, m, t, r1, r2, r3, r4, r5, r6, r7, r8⟩ := hr j hj
      have e78 : ∀ i : Nat, ja h3 78 i = ja h2 78 i := fun i => g 78 (by omega) (by omega) (by omega) (by omega) i (by omega)
      exact ⟨f, m, t, (g 75 (by omega) (by omega) (by omega) (by omega) j (by omega)).trans r1, (g 76 (by omega) (by omega) (by omega) (by omega) j (by omega)).trans r2, (g 77 (by omega) (by omega) (by omega) (by omega) j (by omega)).trans r3, r4, r5, r6, jsg_cg r7 r4 (fun i _ => e78 i), jsg_cg r8 r5 (fun i _ => e78 i)⟩
    · intro j hj
      rcases Nat.lt_or_ge j k with h4 | h4
      · rw [g2 80 j (by omega), g2 81 j (by omega), g2 82 j (by omega), g2 75 j (by omega), g2 76 j (by omega), g2 77 j (by omega)]
        exact hc j h4
      · have : j = k := by omega
        subst this
        rw [t0 j (by omega), t1 j (by omega), t2 j (by omega), t6 j (by omega), t7 j (by omega), t8 j (by omega)]
        exact ⟨rfl, rfl, rfl⟩
theorem law_95 (hxa : P.2.1 < P.1) (hd : 6 ≤ d) {h : si_H} {q c : Nat} (hq : q ≤ 16) (hc : c ≤ 240) : ∀ (n k : Nat) (h2 : si_H) (ls : si_L), k + n = c → az_HI P az_tb h2 → az_same_out jm_lw h h2 → js_1 h2 → ja h2 60 24 = q → ja h2 60 25 = q → ja h2 60 22 = c → (∀ j : Nat, j < q → ∃ f m t : Nat, ja h2 75 j = f ∧ ja h2 76 j = m ∧ ja h2 77 j = t ∧ f ≤ m ∧ m ≤ t ∧ t ≤ c ∧ jsg (ja h2 72) f m ∧ jsg (ja h2 72) m t) → (∀ j : Nat, j < k → ja h2 78 j = ja h2 72 j) → jR P ls 0 60 → jI ls 3 k → az_X P d 261 95 ls [] h2 (lwQ P h) := by
  intro n
  induction n with
  | zero =>
    intro k h2 ls hk hH hs s1 tq tcl tc hr hcp l0 l3
    have b := ja_row hH (i := 72) rfl (k := (k : Int)) (by omega) (by show (k : Int) < (260 : Nat); omega)
    have b1 : -2147483648 ≤ ja h2 72 k := b.1
    have b2 : ja h2 72 k ≤ 2147483647 := b.2
    apply sx_lw5 hxa (by omega) hH (k := k) (c := c) (s := ja h2 72 k) (by omega) (by omega) ⟨b1, b2⟩ (by omega) tc rfl (by omega) l0 l3
    · intro τ h3 ls3 e0 e1 e2 hH3 hs3 fr3 iv3 fs3 nn3 t0 t1 m3 m0
      refine law_123 hxa hd hq q 0 h3 ls3 (by omega) hH3 (hs.tr hs3) (js_1_cg s1 (fr3 _ _ (by omega)) (fr3 _ _ (by omega)) (fr3 _ _ (by omega)) (fun k => fr3 _ _ (by omega))) ((fr3 _ _ (by omega)).trans tq) ((fr3 _ _ (by omega)).trans tcl) ?_ (fun j hj => absurd hj (by omega)) m0 m3
      intro j hj
      obtain ⟨f, m, t, r1, r2, r3, r4, r5, r6, r7, r8⟩ := hr j hj
      have e78 : ∀ i : Nat, i < c → ja h3 78 i = ja h2 72 i := fun i hi => (fr3 78 i (by omega)).trans (hcp i (by omega))
      exact ⟨f, m, t, (fr3 75 j (by omega)).trans r1, (fr3 76 j (by omega)).trans r2, (fr3 77 j (by omega)).trans r3, r4, r5, by omega, jsg_cg r7 r4 (fun i hi => e78 i (by omega)), jsg_cg r8 r5 (fun i hi => e78 i (by omega))⟩
    · intro τ h3 ls3 e0 e1 e2 hH3 hs3 fr3 iv3 fs3
      exfalso
      omega
  | succ n ih =>
    intro k h2 ls hk hH hs s1 tq tcl tc hr hcp l0 l3
    have b := ja_row hH (i := 72) rfl (k := (k : Int)) (by omega) (by show (k : Int) < (260 : Nat); omega)
    have b1 : -2147483648 ≤ ja h2 72 k := b.1
    have b2 : ja h2 72 k ≤ 2147483647 := b.2
    apply sx_lw5 hxa (by omega) hH (k := k) (c := c) (s := ja h2 72 k) (by omega) (by omega) ⟨b1, b2⟩ (by omega) tc rfl (by omega) l0 l3
    · intro τ h3 ls3 e0 e1 e2 hH3 hs3 fr3 iv3 fs3
      exfalso
      omega
    · intro τ h3 ls3 e0 e1 e2 hH3 hs3 fr3 iv3 fs3 nn3 t0 t1 t2 m3 m0
      have g : ∀ i : Nat, i ≠ 78 → ∀ j : Int, 0 ≤ j → ja h3 i j = ja h2 i j := fun i h1 j hj => fr3 i j hj (by omega)
      have g72 : ∀ i : Nat, ja h3 72 i = ja h2 72 i := fun i => g 72 (by omega) i (by omega)
      refine ih (k + 1) h3 ls3 (by omega) hH3 (hs.tr hs3) (js_1_cg s1 (g 60 (by omega) _ (by omega)) (g 60 (by omega) _ (by omega)) (g 60 (by omega) _ (by omega)) (fun k => g 68 (by omega) _ (by omega))) ((g 60 (by omega) _ (by omega)).trans tq) ((g 60 (by omega) _ (by omega)).trans tcl) ((g 60 (by omega) _ (by omega)).trans tc) (jrl_rules hr (Nat.le_refl _) (fun j _ => g 75 (by omega) j (by omega)) (fun j _ => g 76 (by omega) j (by omega)) (fun j _ => g 77 (by omega) j (by omega)) (fun k _ => g72 k)) ?_ m0 (m3.cg (by omega))
      intro j hj
      rw [g72]
      rcases Nat.lt_or_ge j k with h4 | h4
      · rw [fr3 78 j (by omega) (by omega)]; exact hcp j h4
      · rw [show j = k from by omega]; exact (t0 k (by omega)).trans (by omega)
/-- behind all rules -/
theorem law_71 (hxa : P.2.1 < P.1) (hd : 6 ≤ d) {h h2 : si_H} {ls : si_L} (hH : az_HI P az_tb h2) (hs : az_same_out jm_l1 h h2) (s : js_J h) {z : Int} (hz : (z = 0 ∧ -20000 ≤ ja h2 60 19 ∧ ja h2 60 19 ≤ 16) ∨ (z = 1 ∧ ∃ (h1 : si_H) (l q c p : Nat), l ≤ 240 ∧ jrl P h1 l h2 q c p)) (l0 : jR P ls 0 60) (l2 : jI ls 2 z) : az_X P d 261 71 ls [] h2 (lwQ P h) := by
  have hv := ja_bd hH (i := 60) (k := 19) rfl
  have hv1 : -2147483648 ≤ ja h2 60 19 := hv.1
  have hv2 : ja h2 60 19 ≤ 2147483647 := hv.2
  have hq := ja_bd hH (i := 60) (k := 24) rfl
  have hq1 : 0 ≤ ja h2 60 24 := hq.1
  have hq2 : ja h2 60 24 ≤ 16 := hq.2
  have s2 : js_J h2 := ⟨js_1_so hs (by decide) (by decide) (by decide) (by decide) s.1, js_2_so hs (by decide) (by decide) (by decide) (by decide) (by decide) s.2⟩
  have hs' : az_same_out jm_lw h h2 := hs.sub (by decide)
  apply sx_lw4 hxa (by omega) hH (z := z) (v := ja h2 60 19) (q := ja h2 60 24) (by omega) ⟨hv1, hv2⟩ ⟨hq1, hq2⟩ rfl rfl l0 l2
  · intro τ h3 ls3 e0 e1 e2 hH3 hs3 fr3 iv3 fs3 nn3 t0 t1 t2 t3 m3 m0 m2
    rcases hz with hz | ⟨hz, h1, l, q, c, p, hl, r⟩
    · exfalso
      omega
    · obtain ⟨r1, r2, r3, r4, r5, r6, r7, r8, r9⟩ := r
      have g : ∀ i : Nat, i ≠ 60 → ∀ j : Int, 0 ≤ j → ja h3 i j = ja h2 i j := fun i h1 j hj => fr3 i j hj (by omega) (by omega)
      have g60 : ∀ j : Int, 0 ≤ j → j ≠ 16 → j ≠ 25 → ja h3 60 j = ja h2 60 j := fun j hj h4 h5 => fr3 60 j hj (by omega) (by omega)
      refine law_95 hxa hd r6 (by omega) c 0 h3 ls3 (by omega) hH3 (hs'.tr hs3) (js_1_cg s2.1 (g60 _ (by omega) (by omega) (by omega)) (g60 _ (by omega) (by omega) (by omega)) (g60 _ (by omega) (by omega) (by omega)) (fun k => g 68 (by omega) _ (by omega))) ((g60 _ (by omega) (by omega) (by omega)).trans r3) ((t0 25 rfl).trans (by omega)) ((g60 _ (by omega) (by omega) (by omega)).trans r4) (jrl_rules r9 (Nat.le_refl _) (fun j _ => g 75 (by omega) j (by omega)) (fun j _ => g 76 (by omega) j (by omega)) (fun j _ => g 77 (by omega) j (by omega)) (fun k _ => g 72 (by omega) k (by omega))) (fun j hj => absurd hj (by omega)) m0 m3
  · intro τ h3 rv3 e0 e1 e2 hH3 hs3 fr3 iv3 fs3 nn3 t0 t1 t2 hv3
    rcases hz with hz | ⟨hz, -⟩
    · refine ⟨hH3, ⟨?_, ?_⟩, hs'.tr hs3, _, hv3, by omega, by omega⟩
      · exact js_1_cg s2.1 (fr3 _ _ (by omega) (by omega)) (fr3 _ _ (by omega) (by omega)) (fr3 _ _ (by omega) (by omega)) (fun k => fr3 _ _ (by omega) (by omega))
      · exact js_2_cg s2.2 (fr3 _ _ (by omega) (by omega)) (fun k => fr3 _ _ (by omega) (by omega)) (fun k => fr3 _ _ (by omega) (by omega)) (fun k => fr3 _ _ (by omega) (by omega)) (fun k => fr3 _ _ (by omega) (by omega))
    · exfalso
      omega
theorem law_31 (hxa : P.2.1 < P.1) (hd : 6 ≤ d) {h h1 : si_H} {l : Nat} (hl : l ≤ 240) (tl : ja h1 60 18 = l) (hs1 : az_same_out jm_l1 h h1) (s : js_J h) : ∀ (n : Nat) (h2 : si_H) (ls : si_L) (z : Int), az_HI P az_tb h2 → az_same_out jm_rr h1 h2 → ((z = 0 ∧ -20000 ≤ ja h2 60 19 ∧ ja h2 60 19 ≤ 16) ∨ (z = 1 ∧ ∃ q c p : Nat, l ≤ p + n ∧ jrl P h1 l h2 q c p)) → jR P ls 0 60 → jI ls 2 z → az_X P (d + 6) 261 31 ls [] h2 (lwQ P h) := by
  intro n
  have fin : ∀ (h2 h3 : si_H) (ls3 : si_L) (z : Int), az_HI P az_tb h3 → az_same_out jm_rr h1 h2 → az_same_out jm_rr h2 h3 → (∀ (i : Nat) (k : Int), 0 ≤ k → ja h3 i k = ja h2 i k) → ((z = 0 ∧ -20000 ≤ ja h2 60 19 ∧ ja h2 60 19 ≤ 16) ∨ (z = 1 ∧ ∃ q c p : Nat, jrl P h1 l h2 q c p)) → jR P ls3 0 60 → jI ls3 2 z → az_X P (d + 6) 261 71 ls3 [] h3 (lwQ P h) := by
    intro h2 h3 ls3 z hH3 hs2 hs3 fr3 hz m0 m2
    refine law_71 hxa (by omega) hH3 ((hs1.tr (hs2.sub (by decide))).tr (hs3.sub (by decide))) s (z := z) ?_ m0 m2
    rcases hz with ⟨z1, z2, z3⟩ | ⟨z1, q, c, p, r1, r2, r3, r4, r5, r6, r7, r8, r9⟩
    · exact Or.inl ⟨z1, by rw [fr3 _ _ (by omega)]; exact z2, by rw [fr3 _ _ (by omega)]; exact z3⟩
    · refine Or.inr ⟨z1, h3, l, q, c, p, hl, hH3, az_same_out.rf, (fr3 _ _ (by omega)).trans r3, (fr3 _ _ (by omega)).trans r4, (fr3 _ _ (by omega)).trans r5, r6, r7, r8, jrl_rules r9 (Nat.le_refl _) (fun j _ => fr3 75 j (by omega)) (fun j _ => fr3 76 j (by omega)) (fun j _ => fr3 77 j (by omega)) (fun k _ => fr3 72 k (by omega))⟩
  have zer : ∀ (h2 : si_H) (ls : si_L) (z : Int), az_HI P az_tb h2 → az_same_out jm_rr h1 h2 → (z = 0 ∧ -20000 ≤ ja h2 60 19 ∧ ja h2 60 19 ≤ 16) → jR P ls 0 60 → jI ls 2 z → az_X P (d + 6) 261 31 ls [] h2 (lwQ P h) := by
    intro h2 ls z hH hs2 hz l0 l2
    apply sx_lwz hxa (by omega) hH l0 (l2.cg hz.1)
    intro τ h3 ls3 hH3 hs3 fr3 iv3 fs3 nn3 m0 m2
    exact fin h2 h3 ls3 0 hH3 hs2 hs3 fr3 (Or.inl ⟨rfl, hz.2⟩) m0 m2
  induction n with
  | zero =>
    intro h2 ls z hH hs2 hz l0 l2
    rcases hz with hz | ⟨hz, q, c, p, hn, r⟩
    · exact zer h2 ls z hH hs2 hz l0 l2
    · have tl2 : ja h2 60 18 = l := (jso hs2 rfl).trans tl
      have hpl := r.2.2.2.2.2.2.2.1
      apply sx_lw2 hxa (d := d + 5) (by omega) hH (z := z) (p := p) (l := l) (by omega) (by omega) (by omega) (by omega) r.2.2.2.2.1 tl2 l0 l2
      all_goals first
        | (intro τ h3 ls3 e0 e1 e2 hH3 hs3 fr3 iv3 fs3 nn3 t0 t1 m0 m2
           exact fin h2 h3 ls3 z hH3 hs2 hs3 fr3 (Or.inr ⟨hz, q, c, p, r⟩) m0 (m2.cg (by omega)))
        | (intro τ h3 ls3 e0 e1 e2 hH3 hs3 fr3 iv3 fs3
           exfalso
           omega)
        | (intro τ h3 ls3 as3 e0 e1 e2 hH3 hs3 fr3 iv3 fs3
           exfalso
           omega)
  | succ n ih =>
    intro h2 ls z hH hs2 hz l0 l2
    rcases hz with hz | ⟨hz, q, c, p, hn, r⟩
    · exact zer h2 ls z hH hs2 hz l0 l2
    · have tl2 : ja h2 60 18 = l := (jso hs2 rfl).trans tl
      have hpl := r.2.2.2.2.2.2.2.1
      apply sx_lw2 hxa (d := d + 5) (by omega) hH (z := z) (p := p) (l := l) (by omega) (by omega) (by omega) (by omega) r.2.2.2.2.1 tl2 l0 l2
      all_goals first
        | (intro τ h3 ls3 e0 e1 e2 hH3 hs3 fr3 iv3 fs3 nn3 t0 t1 m0 m2
           exact fin h2 h3 ls3 z hH3 hs2 hs3 fr3 (Or.inr ⟨hz, q, c, p, r⟩) m0 (m2.cg (by omega)))
        | (intro τ h3 ls3 e0 e1 e2 hH3 hs3 fr3 iv3 fs3 nn3 t0 t1 t2 t3 m2 m0
           exact ih h3 ls3 0 hH3 (hs2.tr hs3) (Or.inl ⟨rfl, by rw [t0 19 rfl]; omega⟩) m0 m2)
        | (intro τ h3 ls3 as3 e0 e1 e2 hH3 hs3 fr3 iv3 fs3 nn3 t0 t1 t2 m0 m2 m3
           obtain ⟨r1, r2, r3, r4, r5, r6, r7, r8, r9⟩ := r
           have g : ∀ i : Nat, i ≠ 60 → ∀ j : Int, 0 ≤ j → ja h3 i j = ja h2 i j := fun i h1 j hj => fr3 i j hj (by omega)
           have y : jrl P h1 l h3 q c (p + 1) := ⟨hH3, r2.tr hs3, (fr3 60 24 (by omega) (by omega)).trans r3, (fr3 60 22 (by omega) (by omega)).trans r4, (t0 17 rfl).trans (by omega), r6, by omega, by omega, jrl_rules r9 (Nat.le_refl _) (fun j _ => g 75 (by omega) j (by omega)) (fun j _ => g 76 (by omega) j (by omega)) (fun j _ => g 77 (by omega) j (by omega)) (fun k _ => g 72 (by omega) k (by omega))⟩
           refine (readsRule_ok hxa hd hl tl (p0 := p + 1) (Nat.le_refl _) y m3).mono ?_
           rintro rv4 h4 ⟨q1, q2, q3⟩
           rcases q3 with q3 | ⟨q4, q', c', p', x1, x2⟩
           · apply sx_lw3 hxa (by omega) q1 (z := 0) (by omega) m0 q3.1
             · intro τ5 h5 ls5 e0 hH5 hs5 fr5 iv5 fs5 nn5 o2 o0
               exact ih h5 ls5 0 hH5 (q2.tr hs5) (Or.inl ⟨rfl, by rw [fr5 _ _ (by omega)]; exact q3.2⟩) o0 o2
             · intro τ5 h5 ls5 e0 hH5 hs5 fr5 iv5
               exfalso
               omega
           · apply sx_lw3 hxa (by omega) q1 (z := 1) (by omega) m0 q4
             · intro τ5 h5 ls5 e0 hH5 hs5 fr5 iv5
               exfalso
               omega
             · intro τ5 h5 ls5 e0 hH5 hs5 fr5 iv5 fs5 nn5 o2 o0
               obtain ⟨u1, u2, u3, u4, u5, u6, u7, u8, u9⟩ := x2
               exact ih h5 ls5 1 hH5 (q2.tr hs5) (Or.inr ⟨rfl, q', c', p', by omega, hH5, u2.tr hs5, (fr5 _ _ (by omega)).trans u3, (fr5 _ _ (by omega)).trans u4, (fr5 _ _ (by omega)).trans u5, u6, u7, u8, jrl_rules u9 (Nat.le_refl _) (fun j _ => fr5 75 j (by omega)) (fun j _ => fr5 76 j (by omega)) (fun j _ => fr5 77 j (by omega)) (fun k _ => fr5 72 k (by omega))⟩) o0 o2)
theorem law_ok (hxa : P.2.1 < P.1) (hd : 6 ≤ d) {h : si_H} {ls : si_L} {n : Int} (hn : -2147483648 ≤ n ∧ n ≤ 2147483647) (hH : az_HI P az_tb h) (s : js_J h) (l0 : jR P ls 0 60) (l1 : jI ls 1 n) : az_X P (d + 6) 261 0 ls [] h (lwQ P h) := by
  have ht := ja_bd hH (i := 60) (k := 16) rfl
  have ht1 : 0 ≤ ja h 60 16 := ht.1
  have ht2 : ja h 60 16 ≤ 260 := ht.2
  have hret : ∀ (h2 : si_H) (rv : Option Value), az_HI P az_tb h2 → az_same_out jm_l1 h h2 → jV rv (-1) → lwQ P h rv h2 := fun h2 rv hH2 hs hv => ⟨hH2, ⟨js_1_so hs (by decide) (by decide) (by decide) (by decide) s.1, js_2_so hs (by decide) (by decide) (by decide) (by decide) (by decide) s.2⟩, hs.sub (by decide), -1, hv, by omega, by omega⟩
  apply sx_lw0 hxa (d := d + 5) (by omega) hH (n := n) (t := ja h 60 16) hn ⟨ht1, ht2⟩ rfl l0 l1
  all_goals first
    | (intro τ h2 rv2 e0 e1 hH2 hs2 fr2 iv2 fs2 nn2 t0 hv2
       exact hret h2 rv2 hH2 hs2 hv2)
    | (intro τ h2 ls2 as2 e0 e1 hH2 hs2 fr2 iv2 fs2 nn2 t0 t1 t2 t3 t4 m0 m1 m2
       obtain ⟨l, hl⟩ : ∃ l : Nat, (l : Int) = n := ⟨n.toNat, by omega⟩
       have tl : ja h2 60 18 = l := (t2 18 rfl).trans (by omega)
       have y : jrl P h2 l h2 0 0 0 := ⟨hH2, az_same_out.rf, t0 24 rfl, t1 22 rfl, t3 17 rfl, by omega, by omega, by omega, fun j hj => absurd hj (by omega)⟩
       refine (readsRule_ok hxa hd (by omega) tl (p0 := 0) (Nat.le_refl _) y m2).mono ?_
       rintro rv4 h4 ⟨q1, q2, q3⟩
       rcases q3 with q3 | ⟨q4, q', c', p', x1, x2⟩
       · apply sx_lw1 hxa (by omega) q1 (z := 0) (by omega) m0 q3.1
         intro τ5 h5 ls5 e0 hH5 hs5 fr5 iv5 fs5 nn5 o2 o0
         exact law_31 hxa hd (by omega) tl hs2 s l h5 ls5 0 hH5 (q2.tr hs5) (Or.inl ⟨rfl, by rw [fr5 _ _ (by omega)]; exact q3.2⟩) o0 (o2.cg (by omega))
       · apply sx_lw1 hxa (by omega) q1 (z := 1) (by omega) m0 q4
         intro τ5 h5 ls5 e0 hH5 hs5 fr5 iv5 fs5 nn5 o2 o0
         obtain ⟨u1, u2, u3, u4, u5, u6, u7, u8, u9⟩ := x2
         exact law_31 hxa hd (by omega) tl hs2 s l h5 ls5 1 hH5 (q2.tr hs5) (Or.inr ⟨rfl, q', c', p', by omega, hH5, u2.tr hs5, (fr5 _ _ (by omega)).trans u3, (fr5 _ _ (by omega)).trans u4, (fr5 _ _ (by omega)).trans u5, u6, u7, u8, jrl_rules u9 (Nat.le_refl _) (fun j _ => fr5 75 j (by omega)) (fun j _ => fr5 76 j (by omega)) (fun j _ => fr5 77 j (by omega)) (fun k _ => fr5 72 k (by omega))⟩) o0 (o2.cg (by omega)))
end Law
theorem ok_X11_law_382 {P : si_P} (hxa : P.2.1 < P.1) : az_ok js_J P az_tb ct_X11_law_382 ∧ az_wfct ct_X11_law_382 = true := by
  refine ⟨?_, by decide⟩
  intro d hd ρ h as hH hJ hg hS
  have hL := az_args_ok 0 hS
  have hI := hg.1 0 _ rfl
  obtain ⟨d', rfl⟩ : ∃ d', d = d' + 6 := ⟨d - 6, by have : 20 ≤ d := hd; omega⟩
  refine (law_ok hxa (by have : 20 ≤ d' + 6 := hd; omega) (n := ρ 0) hI hH hJ (jR.of (k := 0) (c := 60) hL rfl) ((jI.of (k := 1) (a := ([(0, 1)], 0)) hL rfl).cg (by show 1 * ρ 0 + 0 + 0 = ρ 0; omega))).mono ?_
  rintro rv h1 ⟨z1, z2, z3, z, z4, z5, z6⟩
  exact ⟨z1, z2, z3, _, List.mem_cons_self, jct_int hg z4 z5 z6⟩
