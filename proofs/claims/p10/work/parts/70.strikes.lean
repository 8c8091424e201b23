/-! BY HAND, 20: strikes and strokes -/
theorem jstep {m : Int} (t : Int) (hm : 0 < m) : (t % m + 1 < m ∧ (t + 1) % m = t % m + 1 ∧ (t + 1) / m = t / m) ∨ (t % m + 1 = m ∧ (t + 1) % m = 0 ∧ (t + 1) / m = t / m + 1) := by
  have h1 := Int.emod_add_mul_ediv t m
  have h2 := Int.emod_nonneg t (Int.ne_of_gt hm)
  have h3 := Int.emod_lt_of_pos t hm
  rcases Int.lt_or_le (t % m + 1) m with h4 | h4
  · left
    have := (Int.ediv_emod_unique (a := t + 1) (r := t % m + 1) (q := t / m) hm).mpr ⟨by omega, by omega, h4⟩
    exact ⟨h4, this.2, this.1⟩
  · right
    have h5 : m * (t / m + 1) = m * (t / m) + m := by rw [Int.mul_add, Int.mul_one]
    have := (Int.ediv_emod_unique (a := t + 1) (r := 0) (q := t / m + 1) hm).mpr ⟨by omega, by omega, hm⟩
    exact ⟨by omega, this.2, this.1⟩
/-- how many strikes there can be before a time -/
def jB (m t : Int) : Int := 2 * (t / m) + (if 1 ≤ t % m then 1 else 0) + (if m / 2 < t % m then 1 else 0)
theorem jB_up {m : Int} (t : Int) (hm : 4 ≤ m) : jB m t ≤ jB m (t + 1) ∧ ((t % m = 0 ∨ t % m = m / 2) → jB m t + 1 ≤ jB m (t + 1)) := by
  have h2 := Int.emod_nonneg t (Int.ne_of_gt (show 0 < m by omega))
  unfold jB
  rcases jstep t (show 0 < m by omega) with ⟨h1, h3, h4⟩ | ⟨h1, h3, h4⟩
  · rw [h3, h4]
    constructor
    · split <;> split <;> split <;> split <;> omega
    · intro h5
      split <;> split <;> split <;> split <;> omega
  · rw [h3, h4]
    constructor
    · split <;> split <;> split <;> split <;> omega
    · intro h5
      split <;> split <;> split <;> split <;> omega
section Strikes
variable {P : si_P} {d : Nat}
def skQ (P : si_P) (h0 : si_H) (rv : Option Value) (h' : si_H) : Prop := rv = none ∧ az_HI P az_tb h' ∧ az_same_out jm_sk h0 h'
theorem laysStrikes_7 (hxa : P.2.1 < P.1) (hd : 6 ≤ d) {h0 : si_H} {m r : Int} {y : Nat} (hm : 4 ≤ m ∧ m ≤ 60) (hr : 2 ≤ r ∧ r ≤ 24) (hy : 8 ≤ y ∧ y ≤ 1440) (hp : m * r = y) {v : Int} (hv : 0 ≤ v ∧ v ≤ 1) : ∀ (n t : Nat) (h : si_H) (ls : si_L), t + n = y → az_HI P az_tb h → az_same_out jm_sk h0 h → ja h 60 7 = m → ja h 60 8 = r → ja h 60 9 = y → ja h 60 58 ≤ jB m t → jR P ls 0 60 → jI ls 1 v → jI ls 2 t → az_X P d 289 7 ls [] h (skQ P h0) := by
  intro n
  induction n with
  | zero =>
    intro t h ls hn hH hs t7 t8 t9 hB l0 l1 l2
    have h2 := Int.emod_nonneg (t : Int) (Int.ne_of_gt (show 0 < m by omega))
    have h3 := Int.emod_lt_of_pos (t : Int) (show 0 < m by omega)
    apply sx_sk1 hxa (by omega) hH (m := m) (r := r) (y := y) (v := v) (t := t) (a := (t : Int) % m) hm hr (by omega) hv (by omega) (by omega) (by omega) ⟨by omega, by omega, rfl⟩ t7 t8 t9 l0 l1 l2
    all_goals first
      | (intro τ h2 e0 e1 e2 e3 e4 e5 hH2 hs2 fr2 iv2 fs2 nn2 t0 t1 t2
         exact ⟨rfl, hH2, hs.tr hs2⟩)
      | (intro τ h2 ls2 e0 e1 e2 e3 e4 e5 hH2 hs2 fr2 iv2 fs2
         exfalso
         omega)
  | succ n ih =>
    intro t h ls hn hH hs t7 t8 t9 hB l0 l1 l2
    have g2 := Int.emod_nonneg (t : Int) (Int.ne_of_gt (show 0 < m by omega))
    have g3 := Int.emod_lt_of_pos (t : Int) (show 0 < m by omega)
    have g4 : (t : Int) / m < r := Int.ediv_lt_of_lt_mul (by omega) (by rw [Int.mul_comm, hp]; omega)
    have g5 := jB_up (t : Int) hm.1
    have c1 : ((t + 1 : Nat) : Int) = (t : Int) + 1 := by omega
    have h27 : ∀ (h2 : si_H) (ls2 : si_L), az_HI P az_tb h2 → az_same_out jm_sk h h2 → (∀ (i : Nat) (k : Int), 0 ≤ k → ja h2 i k = ja h i k) → ((t : Int) % m = 0 ∨ (t : Int) % m = m / 2) → jR P ls2 0 60 → jI ls2 1 v → jI ls2 2 t → az_X P d 289 27 ls2 [] h2 (skQ P h0) := by
      intro h2 ls2 hH2 hs2 fr2 hc m0 m1 m2
      have b := ja_bd hH2 (i := 60) (k := 58) rfl
      have b1 : 0 ≤ ja h2 60 58 := b.1
      have e58 : ja h2 60 58 = ja h 60 58 := fr2 _ _ (by omega)
      have b2 : jB m t ≤ 47 := by
        unfold jB
        split <;> split <;> omega
      apply sx_sk2 hxa (by omega) hH2 (m := m) (r := r) (y := y) (v := v) (t := t) (s := ja h2 60 58) hm hr (by omega) hv (by omega) (by omega) ((fr2 _ _ (by omega)).trans t7) ((fr2 _ _ (by omega)).trans t8) ((fr2 _ _ (by omega)).trans t9) rfl m0 m1 m2
      intro τ h3 ls3 e0 e1 e2 e3 e4 e5 hH3 hs3 fr3 iv3 fs3 nn3 t0 t1 t2 t3 t4 t5 o2 o0 o1
      have g6 := g5.2 hc
      exact ih (t + 1) h3 ls3 (by omega) hH3 ((hs.tr hs2).tr hs3) ((t3 7 rfl).trans (by omega)) ((t4 8 rfl).trans (by omega)) ((t5 9 rfl).trans (by omega)) (by rw [t0 58 rfl, c1]; omega) o0 (o1.cg (by omega)) (o2.cg (by omega))
    apply sx_sk1 hxa (by omega) hH (m := m) (r := r) (y := y) (v := v) (t := t) (a := (t : Int) % m) hm hr (by omega) hv (by omega) (by omega) (by omega) ⟨by omega, by omega, rfl⟩ t7 t8 t9 l0 l1 l2
    all_goals first
      | (intro τ h2 e0 e1 e2 e3 e4 e5 hH2 hs2 fr2 iv2 fs2
         exfalso
         omega)
      | (intro τ h2 ls2 e0 e1 e2 e3 e4 e5 hH2 hs2 fr2 iv2 fs2 nn2 t0 t1 t2 m2 m0 m1
         refine ih (t + 1) h2 ls2 (by omega) hH2 (hs.tr hs2) ((fr2 _ _ (by omega)).trans t7) ((fr2 _ _ (by omega)).trans t8) ((fr2 _ _ (by omega)).trans t9) (by rw [fr2 _ _ (by omega), c1]; omega) m0 (m1.cg (by omega)) (m2.cg (by omega)))
      | (intro τ h2 ls2 e0 e1 e2 e3 e4 e5 hH2 hs2 fr2 iv2 fs2 nn2 t0 t1 t2 m0 m1 m2
         exact h27 h2 ls2 hH2 hs2 fr2 (by omega) m0 (m1.cg (by omega)) (m2.cg (by omega)))
set_option maxHeartbeats 1000000 in
theorem strokesTill_27 (hxa : P.2.1 < P.1) (hd : 6 ≤ d) {h0 : si_H} {m r : Int} {y : Int} (hm : 4 ≤ m ∧ m ≤ 60) (hr : 2 ≤ r ∧ r ≤ 24) (hy : 8 ≤ y ∧ y ≤ 1440) {a w v : Int} (ha : 0 ≤ a ∧ a ≤ 1439) (hw : 1 ≤ w ∧ w ≤ 9999) (hv : 0 ≤ v ∧ v ≤ 1) : ∀ (N : Nat) (g b : Int) (h : si_H) (ls : si_L), (w - g) * y + (if (a + b) % y = 0 then 0 else y - (a + b) % y) ≤ N → 0 ≤ g → g < w → 0 ≤ b → b + N ≤ 14400000 → az_HI P az_tb h → az_same_out jm_no h0 h → ja h 60 7 = m → ja h 60 8 = r → ja h 60 9 = y → jR P ls 0 60 → jI ls 1 a → jI ls 2 w → jI ls 3 v → jI ls 4 g → jI ls 5 b → az_X P d 291 27 ls [] h (jrQ P (-1) 20000000 h0) := by
  intro N
  induction N with
  | zero =>
    intro g b h ls hN hg hgw hb hbN
    exfalso
    have h1 := Int.emod_lt_of_pos (a + b) (show 0 < y by omega)
    have h2 : 1 * y ≤ (w - g) * y := Int.mul_le_mul_of_nonneg_right (by omega) (by omega)
    split at hN <;> omega
  | succ N ih =>
    intro g b h ls hN hg hgw hb hbN hH hs t7 t8 t9 l0 l1 l2 l3 l4 l5
    have h1 := Int.emod_nonneg (a + b) (Int.ne_of_gt (show 0 < y by omega))
    have h2 := Int.emod_lt_of_pos (a + b) (show 0 < y by omega)
    have h3 := Int.emod_nonneg ((a + b) % y) (Int.ne_of_gt (show 0 < m by omega))
    have h4 := Int.emod_lt_of_pos ((a + b) % y) (show 0 < m by omega)
    have h5 : (a + b) % y = 0 → (a + b) % y % m = 0 := fun e => by rw [e]; exact Int.zero_emod m
    have nx : ∀ (h2 : si_H) (ls2 : si_L) (s : Int), az_HI P az_tb h2 → az_same_out jm_no h h2 → 0 ≤ s → g + s < w → ((a + b) % y = 0 → 2 ≤ s) → jR P ls2 0 60 → jI ls2 1 a → jI ls2 2 w → jI ls2 3 v → jI ls2 4 (g + s) → jI ls2 5 (b + 1) → az_X P d 291 27 ls2 [] h2 (jrQ P (-1) 20000000 h0) := by
      intro h2' ls2 s hH2 hs2 hs0 hsw hz m0 m1 m2 m3 m4 m5
      refine ih (g + s) (b + 1) h2' ls2 ?_ (by omega) hsw (by omega) (by omega) hH2 (hs.tr hs2) ((jm_no_ja hs2 _ _).trans t7) ((jm_no_ja hs2 _ _).trans t8) ((jm_no_ja hs2 _ _).trans t9) m0 m1 m2 m3 m4 m5
      have e1 : (w - (g + s)) * y = (w - g) * y - s * y := by
        rw [show w - (g + s) = (w - g) - s from by omega, Int.sub_mul]
      have e2 : 0 ≤ s * y := Int.mul_nonneg hs0 (by omega)
      rw [e1, show a + (b + 1) = (a + b) + 1 from by omega]
      by_cases hx : (a + b) % y = 0
      · have e3 : 2 * y ≤ s * y := Int.mul_le_mul_of_nonneg_right (hz hx) (by omega)
        rw [if_pos hx] at hN
        rcases jstep (a + b) (show 0 < y by omega) with ⟨g1, g2, -⟩ | ⟨g1, g2, -⟩
        · rw [g2, if_neg (by omega)]; omega
        · rw [g2, if_pos rfl]; omega
      · rw [if_neg hx] at hN
        rcases jstep (a + b) (show 0 < y by omega) with ⟨g1, g2, -⟩ | ⟨g1, g2, -⟩
        · rw [g2, if_neg (by omega)]; omega
        · rw [g2, if_pos rfl]; omega
    apply sx_st1 hxa (by omega) hH (m := m) (r := r) (y := y) (a := a) (w := w) (v := v) (g := g) (b := b) (x := (a + b) % y) (c := (a + b) % y % m) hm hr hy ha hw hv (by omega) (by omega) (by omega) (by omega) (by omega) (by omega) ⟨by omega, by omega, rfl⟩ ⟨by omega, by omega, rfl⟩ t7 t8 t9 l0 l1 l2 l3 l4 l5
    all_goals first
      | (intro τ h2 rv2 e0 e1 e2 e3 e4 e5 e6 e7 e8 e9 hH2 hs2 fr2 iv2 fs2 nn2 t0 t1 t2 hv2
         exact ⟨hH2, hs.tr hs2, _, hv2, by omega, by omega⟩)
      | (intro τ h2 ls2 e0 e1 e2 e3 e4 e5 e6 e7 e8 e9 hH2 hs2 fr2 iv2 fs2 nn2 t0 t1 t2 m5 m4 m0 m1 m2 m3
         exact nx h2 ls2 0 hH2 hs2 (by omega) (by omega) (by omega) m0 (m1.cg (by omega)) (m2.cg (by omega)) (m3.cg (by omega)) (m4.cg (by omega)) (m5.cg (by omega)))
      | (intro τ h2 ls2 e0 e1 e2 e3 e4 e5 e6 e7 e8 e9 hH2 hs2 fr2 iv2 fs2 nn2 t0 t1 t2 m5 m4 m0 m1 m2 m3
         exact nx h2 ls2 1 hH2 hs2 (by omega) (by omega) (by omega) m0 (m1.cg (by omega)) (m2.cg (by omega)) (m3.cg (by omega)) (m4.cg (by omega)) (m5.cg (by omega)))
      | (intro τ h2 ls2 e0 e1 e2 e3 e4 e5 e6 e7 e8 e9 hH2 hs2 fr2 iv2 fs2 nn2 t0 t1 t2 m5 m4 m0 m1 m2 m3
         exact nx h2 ls2 r hH2 hs2 (by omega) (by omega) (by omega) m0 (m1.cg (by omega)) (m2.cg (by omega)) (m3.cg (by omega)) (m4.cg (by omega)) (m5.cg (by omega)))
      | (intro τ h2 ls2 e0 e1 e2 e3 e4 e5 e6 e7 e8 e9 hH2 hs2 fr2 iv2 fs2 nn2 t0 t1 t2 m5 m4 m0 m1 m2 m3
         have e10 := nn2.1.2.2.trans nn2.2.1.2.2.symm
         exact nx h2 ls2 (τ 11) hH2 hs2 (by omega) (by omega) (by omega) m0 (m1.cg (by omega)) (m2.cg (by omega)) (m3.cg (by omega)) (m4.cg (by omega)) (m5.cg (by omega)))
      | (intro τ h2 ls2 e0 e1 e2 e3 e4 e5 e6 e7 e8 e9 hH2 hs2 fr2 iv2 fs2
         exfalso
         omega)
end Strikes
theorem ok_X11_laysStrikes_440 {P : si_P} (hxa : P.2.1 < P.1) : az_ok js_J P az_tb ct_X11_laysStrikes_440 ∧ az_wfct ct_X11_laysStrikes_440 = true := by
  refine ⟨?_, by decide⟩
  intro d hd ρ h as hH hJ hg hS
  have hL := az_args_ok 0 hS
  have hd' : 8 ≤ d := hd
  have hI : 0 ≤ ρ 0 ∧ ρ 0 ≤ 1 := hg.1 0 _ rfl
  obtain ⟨b1, b2, b3⟩ := dial_bd hH
  have hY : ja h 60 9 = ((ja h 60 9).toNat : Nat) := by omega
  apply sx_sk0 hxa (by omega) hH (v := ρ 0) hI (jR.of (k := 0) (c := 60) hL rfl) ((jI.of (k := 1) (a := ([(0, 1)], 0)) hL rfl).cg (by show 1 * ρ 0 + 0 + 0 = ρ 0; omega))
  intro τ h2 ls2 e0 hH2 hs2 fr2 iv2 fs2 nn2 t0 m2 m0 m1
  have hB : jB (ja h 60 7) ((0 : Nat) : Int) = 0 := by
    unfold jB
    rw [show ((0 : Nat) : Int) = 0 from rfl, Int.zero_ediv, Int.zero_emod, if_neg (by omega), if_neg (by omega)]
    rfl
  refine (laysStrikes_7 hxa (by omega) (h0 := h) (y := (ja h 60 9).toNat) b1 b2 (by omega) (hJ.1.1.symm.trans hY) hI (ja h 60 9).toNat 0 h2 ls2 (by omega) hH2 hs2 (fr2 _ _ (by omega) (by omega)) (fr2 _ _ (by omega) (by omega)) ((fr2 _ _ (by omega) (by omega)).trans hY) (by rw [t0 58 rfl, hB]; omega) m0 (m1.cg (by omega)) m2).mono ?_
  rintro rv h1 ⟨rfl, z1, z3⟩
  exact ⟨z1, ⟨js_1_so z3 (by decide) (by decide) (by decide) (by decide) hJ.1, js_2_so z3 (by decide) (by decide) (by decide) (by decide) (by decide) hJ.2⟩, z3, _, List.mem_cons_self, jct_non hg⟩
theorem ok_X11_strokesTill_444 {P : si_P} (hxa : P.2.1 < P.1) : az_ok js_J P az_tb ct_X11_strokesTill_444 ∧ az_wfct ct_X11_strokesTill_444 = true := by
  refine ⟨?_, by decide⟩
  intro d hd ρ h as hH hJ hg hS
  have hL := az_args_ok 0 hS
  have hd' : 6 ≤ d := hd
  have hI : -2147483648 ≤ ρ 0 ∧ ρ 0 ≤ 2147483647 := hg.1 0 _ rfl
  have hI1 : -2147483648 ≤ ρ 1 ∧ ρ 1 ≤ 2147483647 := hg.1 1 _ rfl
  have hI2 : 0 ≤ ρ 2 ∧ ρ 2 ≤ 1 := hg.1 2 _ rfl
  obtain ⟨b1, b2, b3⟩ := dial_bd hH
  have fin : ∀ (rv : Option Value) (h1 : si_H), jrQ P (-1) 20000000 h rv h1 → (az_HI P az_tb h1 ∧ js_J h1 ∧ az_same_out ct_X11_strokesTill_444.2.2.2.2.1 h h1 ∧ ∃ q, q ∈ ct_X11_strokesTill_444.2.2.2.1 ∧ ∃ σ, az_ext ct_X11_strokesTill_444.2.1.1.length ρ σ ∧ az_g P σ h1 q.1 ∧ az_gO P σ q.1.1.length q.2 rv) := by
    rintro rv h1 ⟨z1, z2, z, z4, z5, z6⟩
    exact ⟨z1, jm_no_J z2 hJ, z2, _, List.mem_cons_self, jct_int hg z4 z5 z6⟩
  apply sx_st0 hxa (by omega) hH (a := ρ 0) (w := ρ 1) (v := ρ 2) (y := ja h 60 9) hI hI1 hI2 b3 rfl (jR.of (k := 0) (c := 60) hL rfl) ((jI.of (k := 1) (a := ([(0, 1)], 0)) hL rfl).cg (by show 1 * ρ 0 + 0 + 0 = ρ 0; omega)) ((jI.of (k := 2) (a := ([(1, 1)], 0)) hL rfl).cg (by show 1 * ρ 1 + 0 + 0 = ρ 1; omega)) ((jI.of (k := 3) (a := ([(2, 1)], 0)) hL rfl).cg (by show 1 * ρ 2 + 0 + 0 = ρ 2; omega))
  all_goals first
    | (intro τ h2 rv2 e0 e1 e2 e3 hH2 hs2 fr2 iv2 fs2 nn2 t0 hv2
       exact fin rv2 h2 ⟨hH2, hs2, _, hv2, by omega, by omega⟩)
    | (intro τ h2 ls2 e0 e1 e2 e3 hH2 hs2 fr2 iv2 fs2 nn2 t0 m5 m4 m0 m1 m2 m3
       refine (strokesTill_27 hxa hd' (h0 := h) b1 b2 b3 (a := ρ 0) (w := ρ 1) (v := ρ 2) (by omega) (by omega) hI2 14400000 0 0 h2 ls2 ?_ (by omega) (by omega) (by omega) (by omega) hH2 hs2 (fr2 _ _ (by omega)) (fr2 _ _ (by omega)) (fr2 _ _ (by omega)) m0 (m1.cg (by omega)) (m2.cg (by omega)) (m3.cg (by omega)) m4 m5).mono fin
       have q1 := Int.emod_nonneg (ρ 0 + 0) (Int.ne_of_gt (show 0 < ja h 60 9 by omega))
       have q2 : (ρ 1 - 0) * ja h 60 9 ≤ 9999 * ja h 60 9 := Int.mul_le_mul_of_nonneg_right (by omega) (by omega)
       split <;> omega)
