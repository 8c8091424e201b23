/-! BY HAND, 12: a rule -/
/-- within a law: the rules that are read -/
def jrl (P : si_P) (h0 : si_H) (l : Nat) (h : si_H) (q c p : Nat) : Prop := az_HI P az_tb h ∧ az_same_out jm_rr h0 h ∧ ja h 60 24 = q ∧ ja h 60 22 = c ∧ ja h 60 17 = p ∧ q ≤ 16 ∧ c ≤ p ∧ p ≤ l ∧ ∀ j : Nat, j < q → ∃ f m t : Nat, ja h 75 j = f ∧ ja h 76 j = m ∧ ja h 77 j = t ∧ f ≤ m ∧ m ≤ t ∧ t ≤ c ∧ jsg (ja h 72) f m ∧ jsg (ja h 72) m t
def rrQ (P : si_P) (h0 : si_H) (l p : Nat) (rv : Option Value) (h' : si_H) : Prop := az_HI P az_tb h' ∧ az_same_out jm_rr h0 h' ∧ (jbad h' rv ∨ (jV rv 1 ∧ ∃ q' c' p' : Nat, p ≤ p' ∧ jrl P h0 l h' q' c' p'))
section ReadsRule
variable {P : si_P} {h0 : si_H} {l p0 : Nat} {d : Nat}
/-- rules read before stay, when only codes behind are written -/
theorem jrl_rules {h h' : si_H} {q c c' : Nat} (r : ∀ j : Nat, j < q → ∃ f m t : Nat, ja h 75 j = f ∧ ja h 76 j = m ∧ ja h 77 j = t ∧ f ≤ m ∧ m ≤ t ∧ t ≤ c ∧ jsg (ja h 72) f m ∧ jsg (ja h 72) m t) (hc : c ≤ c') (e5 : ∀ j : Nat, j < q → ja h' 75 j = ja h 75 j) (e6 : ∀ j : Nat, j < q → ja h' 76 j = ja h 76 j) (e7 : ∀ j : Nat, j < q → ja h' 77 j = ja h 77 j) (eS : ∀ k : Nat, k < c → ja h' 72 k = ja h 72 k) : ∀ j : Nat, j < q → ∃ f m t : Nat, ja h' 75 j = f ∧ ja h' 76 j = m ∧ ja h' 77 j = t ∧ f ≤ m ∧ m ≤ t ∧ t ≤ c' ∧ jsg (ja h' 72) f m ∧ jsg (ja h' 72) m t := by
  intro j hj
  obtain ⟨f, m, t, r1, r2, r3, r4, r5, r6, r7, r8⟩ := r j hj
  exact ⟨f, m, t, (e5 j hj).trans r1, (e6 j hj).trans r2, (e7 j hj).trans r3, r4, r5, by omega, jsg_cg r7 r4 (fun k hk => eS k (by omega)), jsg_cg r8 r5 (fun k hk => eS k (by omega))⟩
/-- the condition's part of a rule -/
theorem readsRule_130 (hxa : P.2.1 < P.1) (hd : 6 ≤ d) (hl : l ≤ 240) (tl : ja h0 60 18 = l) {h : si_H} {q f m p c0 : Nat} {ls : si_L} {as : List Value} (hH : az_HI P az_tb h) (hs0 : az_same_out jm_rr h0 h) (hq : q ≤ 15) (tq : ja h 60 24 = q) (tc : ja h 60 22 = m) (tp : ja h 60 17 = p) (hmp : m ≤ p) (hpl : p ≤ l) (hp0 : p0 ≤ p) (hfm : f ≤ m) (hcf : c0 ≤ f) (t5 : ja h 75 q = f) (t6 : ja h 76 q = m) (hsg : jsg (ja h 72) f m) (r : ∀ j : Nat, j < q → ∃ f m t : Nat, ja h 75 j = f ∧ ja h 76 j = m ∧ ja h 77 j = t ∧ f ≤ m ∧ m ≤ t ∧ t ≤ c0 ∧ jsg (ja h 72) f m ∧ jsg (ja h 72) m t) (k0 : jR P ls 0 60) (a0 : jR P (lv_args 0 as) 0 60) : az_X P (d + 4) 258 0 (lv_args 0 as) [] h (fun rv h1 => az_X P (d + 5) 259 133 ls rv.toList h1 (rrQ P h0 l p0)) := by
  refine (readsCondition_ok hxa hd hl hH ((jso hs0 rfl).trans tl) tc tp hmp hpl a0).mono ?_
  rintro rv1 h1 ⟨q1, q2, q3⟩
  have tq1 : ja h1 60 24 = q := (jso q2 rfl).trans tq
  have so1 : az_same_out jm_rr h0 h1 := hs0.tr (q2.sub (by decide))
  have hc1 := ja_bd q1 (i := 60) (k := 22) rfl
  have hc2 : 0 ≤ ja h1 60 22 := hc1.1
  have hc3 : ja h1 60 22 ≤ 240 := hc1.2
  rcases q3 with q3 | ⟨q4, c', p', x1, x2, x3, x4, x5, x6, x7, x8⟩
  · apply sx_rr2 hxa (by omega) q1 (z := 0) (c := ja h1 60 22) (q := q) (by omega) (by omega) (by omega) rfl tq1 k0 q3.1
    · intro τ h6 rv6 e0 e1 e2 hH6 hs6 fr6 iv6
      exfalso
      omega
    · intro τ h6 rv6 e0 e1 e2 hH6 hs6 fr6 iv6 fs6 nn6 t0 t1 hv6
      exact ⟨hH6, so1.tr hs6, Or.inl (jbad_fr q3 hv6 (fr6 _ _ (by omega)))⟩
  · apply sx_rr2 hxa (by omega) q1 (z := 1) (c := c') (q := q) (by omega) (by omega) (by omega) x5 tq1 k0 q4
    · intro τ h6 rv6 e0 e1 e2 hH6 hs6 fr6 iv6 fs6 nn6 t0 t1 t2 hv6
      have e72 : ∀ k : Nat, ja h6 72 k = ja h1 72 k := fun k => fr6 72 k (by omega) (by omega) (by omega)
      have e75 : ∀ k : Nat, ja h6 75 k = ja h 75 k := fun k => (fr6 75 k (by omega) (by omega) (by omega)).trans (jso_row q2 (by decide) k)
      have e76 : ∀ k : Nat, ja h6 76 k = ja h 76 k := fun k => (fr6 76 k (by omega) (by omega) (by omega)).trans (jso_row q2 (by decide) k)
      have e77 : ∀ k : Nat, k < q → ja h6 77 k = ja h 77 k := fun k hk => (fr6 77 k (by omega) (by omega) (by omega)).trans (jso_row q2 (by decide) k)
      refine ⟨hH6, so1.tr hs6, Or.inr ⟨hv6, q + 1, c', p', by omega, hH6, so1.tr hs6, (t0 24 rfl).trans (by omega), (fr6 60 22 (by omega) (by omega) (by omega)).trans x5, (fr6 60 17 (by omega) (by omega) (by omega)).trans x6, by omega, x4, x2, ?_⟩⟩
      intro j hj
      rcases Nat.lt_or_ge j q with h2 | h2
      · exact jrl_rules r (by omega) (fun j _ => e75 j) (fun j _ => e76 j) e77 (fun k hk => (e72 k).trans (x7 k (by omega))) j h2
      · have : j = q := by omega
        subst this
        refine ⟨f, m, c', (e75 j).trans t5, (e76 j).trans t6, (t1 j (by omega)).trans (by omega), hfm, x3, Nat.le_refl _, jsg_cg hsg hfm (fun k hk => (e72 k).trans (x7 k (by omega))), jsg_cg x8 x3 (fun k _ => e72 k)⟩
    · intro τ h6 rv6 e0 e1 e2 hH6 hs6 fr6 iv6
      exfalso
      omega
theorem readsRule_ok (hxa : P.2.1 < P.1) (hd : 6 ≤ d) (hl : l ≤ 240) (tl : ja h0 60 18 = l) {h : si_H} {q c p : Nat} {ls : si_L} (hp0 : p0 ≤ p) (s : jrl P h0 l h q c p) (k0 : jR P ls 0 60) : az_X P (d + 5) 259 0 ls [] h (rrQ P h0 l p0) := by
  obtain ⟨s1, s2, s3, s4, s5, s6, s7, s8, s9⟩ := s
  have tl' : ja h 60 18 = l := (jso s2 rfl).trans tl
  have h108 : ∀ (h2 : si_H) (ls2 : si_L) (as2 : List Value), q ≤ 15 → p < l → az_HI P az_tb h2 → az_same_out jm_rr h h2 → (∀ (i : Nat) (k : Int), 0 ≤ k → (74 = i → k ≠ q) → (60 = i → k ≠ 17) → (75 = i → k ≠ q) → (60 = i → k ≠ 21) → (60 = i → k ≠ 23) → ja h2 i k = ja h i k) → ja h2 60 23 = 0 → ja h2 75 q = c → ja h2 60 17 = (p : Int) + 1 → jR P ls2 0 60 → jR P (lv_args 0 as2) 0 60 → az_X P (d + 4) 253 0 (lv_args 0 as2) [] h2 (fun rv h1 => az_X P (d + 5) 259 111 ls2 rv.toList h1 (rrQ P h0 l p0)) := by
    intro h2 ls2 as2 hq hpl hH2 hs2 fr2 tw t5 tp n0 n1
    have e72 : ∀ k : Nat, ja h2 72 k = ja h 72 k := fun k => fr2 72 k (by omega) (by omega) (by omega) (by omega) (by omega) (by omega)
    have so2 : az_same_out jm_rr h0 h2 := s2.tr hs2
    refine (readsSum_ok hxa (d := d + 2) (by omega) hl ((jso so2 rfl).trans tl) (b := 0) (c0 := c) (f := c) (t := 0) (a := 0) (p := p + 1) (Nat.le_refl _) (by omega) (fun v hv => by omega) hH2 tw ((fr2 60 22 (by omega) (by omega) (by omega) (by omega) (by omega) (by omega)).trans s4) (tp.trans (by omega)) (by omega) (by omega) (fun j hj => absurd hj (by omega)) (by show (c : Int) + 0 + (0 : Nat) ≤ (p + 1 : Nat); omega) (by omega) n1).mono ?_
    rintro rv1 h1 ⟨q1, q2, q3⟩
    have tq1 : ja h1 60 24 = q := (jso q2 rfl).trans ((fr2 60 24 (by omega) (by omega) (by omega) (by omega) (by omega) (by omega)).trans s3)
    have so1 : az_same_out jm_rr h0 h1 := so2.tr (q2.sub (by decide))
    have hc1 := ja_bd q1 (i := 60) (k := 22) rfl
    have hc2 : 0 ≤ ja h1 60 22 := hc1.1
    have hc3 : ja h1 60 22 ≤ 240 := hc1.2
    rcases q3 with q3 | ⟨q4, m, p', x1, x2⟩
    · apply sx_rr1 hxa (d := d + 4) (by omega) q1 (z := 0) (c := ja h1 60 22) (q := q) (by omega) (by omega) (by omega) rfl tq1 n0 q3.1
      · intro τ h6 ls6 as6 e0 e1 e2 hH6 hs6 fr6 iv6
        exfalso
        omega
      · intro τ h6 rv6 e0 e1 e2 hH6 hs6 fr6 iv6 fs6 nn6 t0 t1 hv6
        exact ⟨hH6, so1.tr hs6, Or.inl (jbad_fr q3 hv6 (fr6 _ _ (by omega)))⟩
    · have hH0 := jrs_H x2
      obtain ⟨u1, u2, u3, u4, u5, u6, u7, u8, u9, u10, u11, u12, u13, u14, u15, u16⟩ := x2
      have hcn := jcn_nn (ja h1 73) 0
      apply sx_rr1 hxa (d := d + 4) (by omega) q1 (z := 1) (c := m) (q := q) (by omega) (by omega) (by omega) u4 tq1 n0 q4
      · intro τ h6 ls6 as6 e0 e1 e2 hH6 hs6 fr6 iv6 fs6 nn6 t0 t1 t2 m0 m1
        have f72 : ∀ k : Nat, ja h6 72 k = ja h1 72 k := fun k => fr6 72 k (by omega) (by omega)
        have g72 : ∀ k : Nat, k < c → ja h6 72 k = ja h 72 k := fun k hk => (f72 k).trans ((u13 k hk).trans (e72 k))
        have g75 : ∀ k : Nat, ja h6 75 k = ja h2 75 k := fun k => (fr6 75 k (by omega) (by omega)).trans (jso_row q2 (by decide) k)
        have g76 : ∀ k : Nat, k < q → ja h6 76 k = ja h 76 k := fun k hk => (fr6 76 k (by omega) (by omega)).trans ((jso_row q2 (by decide) k).trans (fr2 76 k (by omega) (by omega) (by omega) (by omega) (by omega) (by omega)))
        have g77 : ∀ k : Nat, k < q → ja h6 77 k = ja h 77 k := fun k hk => (fr6 77 k (by omega) (by omega)).trans ((jso_row q2 (by decide) k).trans (fr2 77 k (by omega) (by omega) (by omega) (by omega) (by omega) (by omega)))
        refine readsRule_130 hxa hd hl tl (f := c) (m := m) (p := p') (c0 := c) hH6 (so1.tr hs6) hq ((t2 24 rfl).trans (by omega)) ((t1 22 rfl).trans (by omega)) ((fr6 60 17 (by omega) (by omega)).trans u5) (by omega) u8 (by omega) u9 (Nat.le_refl _) ((g75 q).trans t5) ((t0 q (by omega)).trans (by omega)) (jsg_cg (jgd_sg u16) u9 (fun k _ => f72 k)) (jrl_rules s9 (Nat.le_refl _) (fun j hj => (g75 j).trans (fr2 75 j (by omega) (by omega) (by omega) (by omega) (by omega) (by omega))) g76 g77 g72) m0 m1
      · intro τ h6 rv6 e0 e1 e2 hH6 hs6 fr6 iv6
        exfalso
        omega
  apply sx_rr0 hxa (d := d + 4) (by omega) s1 (p := p) (l := l) (c := c) (q := q) (by omega) (by omega) (by omega) (by omega) (by omega) (by omega) s5 tl' s4 s3 k0
  all_goals first
    | (intro τ h2 rv2 e0 e1 e2 e3 hH2 hs2 fr2 iv2 fs2 nn2 t0 t1 t2 t3 t4 hv2
       exact ⟨hH2, s2.tr hs2, Or.inl ⟨hv2, by rw [t0 19 rfl]; omega⟩⟩)
    | (intro τ h2 rv2 e0 e1 e2 e3 hH2 hs2 fr2 iv2 fs2 nn2 t0 t1 t2 t3 t4 t5 hv2
       exact ⟨hH2, s2.tr hs2, Or.inl ⟨hv2, by rw [t0 19 rfl]; omega⟩⟩)
    | (intro τ h2 ls2 as2 e0 e1 e2 e3 hH2 hs2 fr2 iv2 fs2 nn2 t0 t1 t2 t3 t4 t5 t6 t7 t8 m1 m0 m2
       exact h108 h2 ls2 as2 (by omega) (by omega) hH2 hs2 (fun i k hk h5 h6 h7 h8 h9 => fr2 i k hk (fun e => ⟨by omega, by have := h5 e; omega⟩) (fun e => ⟨by omega, h6 e⟩) (fun e => ⟨by omega, by have := h7 e; omega⟩) (fun e => ⟨by omega, h8 e⟩) (fun e => ⟨by omega, h9 e⟩)) (t0 23 rfl) ((t2 q (by omega)).trans (by omega)) ((t3 17 rfl).trans (by omega)) m0 m2)
    | (intro τ h2 ls2 as2 e0 e1 e2 e3 hH2 hs2 fr2 iv2 fs2 nn2 t0 t1 t2 t3 t4 t5 t6 t7 t8 t9 m1 m0 m2
       have f72 : ∀ k : Nat, ja h2 72 k = ja h 72 k := fun k => fr2 72 k (by omega) (by omega) (by omega) (by omega) (by omega) (by omega) (by omega)
       have f75 : ∀ k : Nat, k < q → ja h2 75 k = ja h 75 k := fun k hk => fr2 75 k (by omega) (by omega) (by omega) (by omega) (by omega) (by omega) (by omega)
       have f76 : ∀ k : Nat, k < q → ja h2 76 k = ja h 76 k := fun k hk => fr2 76 k (by omega) (by omega) (by omega) (by omega) (by omega) (by omega) (by omega)
       have f77 : ∀ k : Nat, k < q → ja h2 77 k = ja h 77 k := fun k hk => fr2 77 k (by omega) (by omega) (by omega) (by omega) (by omega) (by omega) (by omega)
       refine readsRule_130 hxa hd hl tl (f := c) (m := c) (p := p + 1) (c0 := c) hH2 (s2.tr hs2) (by omega) ((t9 24 rfl).trans (by omega)) ((t8 22 rfl).trans (by omega)) ((t4 17 rfl).trans (by omega)) (by omega) (by omega) (by omega) (Nat.le_refl _) (Nat.le_refl _) ((t3 q (by omega)).trans (by omega)) ((t0 q (by omega)).trans (by omega)) (fun k h1 h2 => absurd h2 (by omega)) (jrl_rules s9 (Nat.le_refl _) f75 f76 f77 (fun k _ => f72 k)) m0 m2)
end ReadsRule
