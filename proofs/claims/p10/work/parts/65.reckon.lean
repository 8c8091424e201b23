/-! BY HAND, 15: reckoning by the law -/
theorem jdl_le (o : Int) : jdl o ≤ 1 := by unfold jdl; split <;> (try split) <;> omega
theorem jH_up {S : Int → Int} {a : Nat} : ∀ {b : Nat}, a ≤ b → jH S b ≤ jH S a + ((b : Int) - a)
  | 0, h => by rw [Nat.le_zero.mp h]; omega
  | b + 1, h => by
    rcases Nat.lt_or_ge a (b + 1) with h1 | h1
    · have := jH_up (S := S) (a := a) (b := b) (by omega)
      have := jdl_le (jop (S b))
      show jH S b + jdl (jop (S b)) ≤ _
      omega
    · rw [Nat.le_antisymm h h1]; omega
def rkQ (P : si_P) (h : si_H) (rv : Option Value) (h' : si_H) : Prop := az_HI P az_tb h' ∧ az_same_out jm_bl h h' ∧ ∃ z : Int, jV rv z ∧ -2147483648 ≤ z ∧ z ≤ 2147483647
section Reckon
variable {P : si_P} {d : Nat}
set_option maxHeartbeats 1000000 in
theorem reckonsTo_lp (hxa : P.2.1 < P.1) (hd : 4 ≤ d) {h0 : si_H} {f t : Nat} (hft : f ≤ t) (ht : t ≤ 240) (hg : jsg (ja h0 78) f t) : ∀ (N k : Nat) (h : si_H) (ls : si_L) (n : Int), t ≤ k + N → f ≤ k → k ≤ t → n = jH (ja h0 78) k - jH (ja h0 78) f → 0 ≤ n → az_HI P az_tb h → az_same_out jm_bl h0 h → jR P ls 0 60 → jI ls 1 f → jI ls 2 t → jI ls 3 n → jI ls 4 0 → jI ls 5 k → az_X P d 263 16 ls [] h (rkQ P h0) := by
  intro N
  induction N with
  | zero =>
    intro k h ls n hN hfk hkt hn hn0 hH hs l0 l1 l2 l3 l4 l5
    have hup := jH_up (S := ja h0 78) hfk
    apply sx_rk1 hxa (by omega) hH (f := f) (t := t) (n := n) (k := k) (by omega) (by omega) (by omega) (by omega) (by omega) l0 l1 l2 l3 l4 l5
    intro τ h2 rv2 e0 e1 e2 e3 hH2 hs2 fr2 iv2 fs2 nn2 t0 hv2
    exact ⟨hH2, hs.tr hs2, _, hv2, by omega, by omega⟩
  | succ N ih =>
    intro k h ls n hN hfk hkt hn hn0 hH hs l0 l1 l2 l3 l4 l5
    have hup := jH_up (S := ja h0 78) hfk
    rcases Nat.lt_or_ge k t with hk | hk
    · obtain ⟨g1, g2, g3, g4, g5⟩ := hg k hfk hk
      have e78 : ja h 78 k = ja h0 78 k := jso_row hs (by decide) k
      have b1 : ja h0 78 k ≤ 2147483647 := by
        rw [← e78]
        exact (ja_row hH (i := 78) rfl (k := (k : Int)) (by omega) (by show (k : Int) < (260 : Nat); omega)).2
      have hdiv : ja h0 78 k = 1048576 * jop (ja h0 78 k) + jar (ja h0 78 k) ∧ 0 ≤ jar (ja h0 78 k) ∧ jar (ja h0 78 k) < 1048576 ∧ 0 ≤ jop (ja h0 78 k) := by unfold jop jar; omega
      have hH1 : jH (ja h0 78) (k + 1) = jH (ja h0 78) k + jdl (jop (ja h0 78 k)) := rfl
      -- going on behind the code, with another height
      have nx : ∀ (h2 : si_H) (ls2 : si_L) (n2 : Int), n2 = n + jdl (jop (ja h0 78 k)) → 0 ≤ n2 → az_HI P az_tb h2 → az_same_out jm_bl h h2 → jR P ls2 0 60 → jI ls2 1 f → jI ls2 2 t → jI ls2 3 n2 → jI ls2 4 0 → jI ls2 5 (k + 1 : Nat) → az_X P d 263 16 ls2 [] h2 (rkQ P h0) := fun h2 ls2 n2 hn2 hn3 hH2 hs2 m0 m1 m2 m3 m4 m5 => ih (k + 1) h2 ls2 n2 (by omega) (by omega) (by omega) (by omega) hn3 hH2 (hs.tr hs2) m0 m1 m2 m3 m4 m5
      have n3 : (0 : Int) ≤ ja h0 78 k ∧ (1 : Nat) ≤ 1048576 ∧ jar (ja h0 78 k) = ja h0 78 k % 1048576 := ⟨g1, by decide, rfl⟩
      have hc : jop (ja h0 78 k) = 0 ∨ jop (ja h0 78 k) = 1 ∨ (2 ≤ jop (ja h0 78 k) ∧ jop (ja h0 78 k) ≤ 9) ∨ jop (ja h0 78 k) = 10 ∨ jop (ja h0 78 k) = 11 ∨ jop (ja h0 78 k) = 12 := by omega
      rcases hc with hc | hc | hc | hc | hc | hc
      · have hdl : jdl (jop (ja h0 78 k)) = 1 := by rw [hc]; decide
        apply sx_rkN hxa (by omega) hH (f := f) (t := t) (n := n) (k := k) (e := ja h0 78 k) (v := jar (ja h0 78 k)) (by omega) (by omega) (by omega) (by omega) (by omega) (by omega) (by omega) n3 e78 (by omega) l0 l1 l2 l3 l4 l5
        intro τ h2 ls2 e0 e1 e2 e3 e4 e5 hH2 hs2 fr2 iv2 fs2 nn2 t0 t1 m3 m5 m7 m6 m0 m1 m2 m4
        exact nx h2 ls2 (n + 1) (by omega) (by omega) hH2 hs2 m0 (m1.cg (by omega)) (m2.cg (by omega)) (m3.cg (by omega)) m4 (m5.cg (by omega))
      · have hdl : jdl (jop (ja h0 78 k)) = 1 := by rw [hc]; decide
        have hv := g4 hc
        apply sx_rkL hxa (by omega) hH (f := f) (t := t) (n := n) (k := k) (e := ja h0 78 k) (v := jar (ja h0 78 k)) (by omega) (by omega) (by omega) (by omega) (by omega) (by omega) (by omega) n3 e78 (by omega) l0 l1 l2 l3 l4 l5
        intro τ h2 ls2 e0 e1 e2 e3 e4 e5 hH2 hs2 fr2 iv2 fs2 nn2 t0 t1 t2 m3 m5 m7 m6 m0 m1 m2 m4
        exact nx h2 ls2 (n + 1) (by omega) (by omega) hH2 hs2 m0 (m1.cg (by omega)) (m2.cg (by omega)) (m3.cg (by omega)) m4 (m5.cg (by omega))
      · have hdl : jdl (jop (ja h0 78 k)) = -1 := by unfold jdl; rw [if_neg (by omega), if_neg (by omega)]
        have hnd : jnd (jop (ja h0 78 k)) = 2 := by unfold jnd; rw [if_neg (by omega), if_neg (by omega)]
        apply sx_rkB hxa (by omega) hH (f := f) (t := t) (n := n) (k := k) (e := ja h0 78 k) (v := jar (ja h0 78 k)) (by omega) (by omega) (by omega) (by omega) (by omega) (by omega) (by omega) n3 e78 (by omega) l0 l1 l2 l3 l4 l5
        all_goals first
          | (intro τ h2 rv2 e0 e1 e2 e3 e4 e5 hH2 hs2 fr2 iv2 fs2 nn2 t0 t1 hv2
             exact ⟨hH2, hs.tr hs2, _, hv2, by omega, by omega⟩)
          | (intro τ h2 ls2 e0 e1 e2 e3 e4 e5 hH2 hs2 fr2 iv2 fs2 nn2 t0 t1 t2 m3 m5 m7 m6 m0 m1 m2 m4
             exact nx h2 ls2 (n - 1) (by omega) (by omega) hH2 hs2 m0 (m1.cg (by omega)) (m2.cg (by omega)) (m3.cg (by omega)) m4 (m5.cg (by omega)))
          | (intro τ h2 ls2 e0 e1 e2 e3 e4 e5 hH2 hs2 fr2 iv2 fs2
             exfalso
             omega)
      · have hdl : jdl (jop (ja h0 78 k)) = 0 := by rw [hc]; decide
        have hnd : jnd (jop (ja h0 78 k)) = 1 := by rw [hc]; decide
        apply sx_rkT hxa (by omega) hH (f := f) (t := t) (n := n) (k := k) (e := ja h0 78 k) (v := jar (ja h0 78 k)) (by omega) (by omega) (by omega) (by omega) (by omega) (by omega) (by omega) n3 e78 (by omega) l0 l1 l2 l3 l4 l5
        all_goals first
          | (intro τ h2 ls2 e0 e1 e2 e3 e4 e5 hH2 hs2 fr2 iv2 fs2 nn2 t0 t1 m5 m7 m6 m0 m1 m2 m3 m4
             exact nx h2 ls2 n (by omega) (by omega) hH2 hs2 m0 (m1.cg (by omega)) (m2.cg (by omega)) (m3.cg (by omega)) m4 (m5.cg (by omega)))
          | (intro τ h2 ls2 e0 e1 e2 e3 e4 e5 hH2 hs2 fr2 iv2 fs2
             exfalso
             omega)
      · have hdl : jdl (jop (ja h0 78 k)) = -1 := by rw [hc]; decide
        have hnd : jnd (jop (ja h0 78 k)) = 1 := by rw [hc]; decide
        obtain ⟨v, v1, v2, v3, v4⟩ := g5 (Or.inl hc)
        apply sx_rkJ hxa (by omega) hH (f := f) (t := t) (n := n) (k := k) (e := ja h0 78 k) (v := jar (ja h0 78 k)) (by omega) (by omega) (by omega) (by omega) (by omega) (by omega) (by omega) n3 e78 (by omega) l0 l1 l2 l3 l4 l5
        all_goals first
          | (intro τ h2 ls2 e0 e1 e2 e3 e4 e5 hH2 hs2 fr2 iv2 fs2
             exfalso
             omega)
          | (intro τ h2 ls2 e0 e1 e2 e3 e4 e5 hH2 hs2 fr2 iv2 fs2 nn2 t0 t1 m3 m5 m7 m6 m0 m1 m2 m4
             exact nx h2 ls2 (n - 1) (by omega) (by omega) hH2 hs2 m0 (m1.cg (by omega)) (m2.cg (by omega)) (m3.cg (by omega)) m4 (m5.cg (by omega)))
          | (intro τ h2 ls2 e0 e1 e2 e3 e4 e5 hH2 hs2 fr2 iv2 fs2 nn2 t0 t1 m5 m7 m6 m0 m1 m2 m3 m4
             exact ih v h2 ls2 n (by omega) (by omega) (by omega) (by omega) hn0 hH2 (hs.tr hs2) m0 (m1.cg (by omega)) (m2.cg (by omega)) (m3.cg (by omega)) m4 (m5.cg (by omega)))
      · have hdl : jdl (jop (ja h0 78 k)) = -1 := by rw [hc]; decide
        have hnd : jnd (jop (ja h0 78 k)) = 1 := by rw [hc]; decide
        obtain ⟨v, v1, v2, v3, v4⟩ := g5 (Or.inr hc)
        apply sx_rkI hxa (by omega) hH (f := f) (t := t) (n := n) (k := k) (e := ja h0 78 k) (v := jar (ja h0 78 k)) (by omega) (by omega) (by omega) (by omega) (by omega) (by omega) (by omega) n3 e78 (by omega) l0 l1 l2 l3 l4 l5
        all_goals first
          | (intro τ h2 ls2 e0 e1 e2 e3 e4 e5 hH2 hs2 fr2 iv2 fs2
             exfalso
             omega)
          | (intro τ h2 ls2 e0 e1 e2 e3 e4 e5 hH2 hs2 fr2 iv2 fs2 nn2 t0 t1 m3 m5 m7 m6 m0 m1 m2 m4
             exact nx h2 ls2 (n - 1) (by omega) (by omega) hH2 hs2 m0 (m1.cg (by omega)) (m2.cg (by omega)) (m3.cg (by omega)) m4 (m5.cg (by omega)))
          | (intro τ h2 ls2 e0 e1 e2 e3 e4 e5 hH2 hs2 fr2 iv2 fs2 nn2 t0 t1 m5 m7 m6 m0 m1 m2 m3 m4
             exact ih v h2 ls2 n (by omega) (by omega) (by omega) (by omega) hn0 hH2 (hs.tr hs2) m0 (m1.cg (by omega)) (m2.cg (by omega)) (m3.cg (by omega)) m4 (m5.cg (by omega)))
    · apply sx_rk1 hxa (by omega) hH (f := f) (t := t) (n := n) (k := k) (by omega) (by omega) (by omega) (by omega) (by omega) l0 l1 l2 l3 l4 l5
      intro τ h2 rv2 e0 e1 e2 e3 hH2 hs2 fr2 iv2 fs2 nn2 t0 hv2
      exact ⟨hH2, hs.tr hs2, _, hv2, by omega, by omega⟩
theorem reckonsTo_ok (hxa : P.2.1 < P.1) (hd : 4 ≤ d) {h : si_H} {f t : Nat} (hft : f ≤ t) (ht : t ≤ 240) (hg : jsg (ja h 78) f t) {ls : si_L} (hH : az_HI P az_tb h) (l0 : jR P ls 0 60) (l1 : jI ls 1 f) (l2 : jI ls 2 t) : az_X P d 263 0 ls [] h (rkQ P h) := by
  apply sx_rk0 hxa (by omega) hH (f := f) (t := t) (by omega) (by omega) l0 l1 l2
  intro τ h2 ls2 e0 e1 hH2 hs2 fr2 iv2 fs2 nn2 m5 m4 m3 m0 m1 m2
  refine (reckonsTo_lp hxa hd (h0 := h2) hft ht (jsg_cg hg hft (fun k _ => fr2 78 k (by omega))) t f h2 ls2 0 (by omega) (Nat.le_refl _) hft (by omega) (by omega) hH2 az_same_out.rf m0 (m1.cg (by omega)) (m2.cg (by omega)) m3 (m4.cg (by omega)) (m5.cg (by omega))).mono ?_
  rintro rv h3 ⟨z1, z2, z3⟩
  exact ⟨z1, hs2.tr z2, z3⟩
end Reckon
