/-! BY HAND, 21: times that look alike are at most sixteen -/
def jTm (m r u v k t : Int) : Prop := 0 ≤ k ∧ (k = 0 ∨ ∃ l : Int, l < t ∧ l % m = u ∧ l / r = v ∧ r * v + 4 * (k - 1) ≤ l)
theorem jTm_bd {m r u v k t : Int} (hr : 2 ≤ r ∧ r ≤ 24) (h : jTm m r u v k t) : k ≤ 6 := by
  obtain ⟨h0, h1⟩ := h
  rcases h1 with h1 | ⟨l, -, -, l3, l4⟩
  · omega
  · have e1 := Int.emod_add_mul_ediv l r
    have e2 := Int.emod_lt_of_pos l (show 0 < r by omega)
    rw [l3] at e1
    omega
theorem jTm_mono {m r u v k t t' : Int} (h : jTm m r u v k t) (ht : t ≤ t') : jTm m r u v k t' := by
  obtain ⟨h0, h1⟩ := h
  refine ⟨h0, ?_⟩
  rcases h1 with h1 | ⟨l, l1, l2, l3, l4⟩
  · exact Or.inl h1
  · exact Or.inr ⟨l, by omega, l2, l3, l4⟩
theorem jTm_hit {m r u v k t : Int} (hm : 4 ≤ m) (hr : 2 ≤ r ∧ r ≤ 24) (hu : t % m = u) (hv : t / r = v) (h : jTm m r u v k t) : k ≤ 5 ∧ jTm m r u v (k + 1) (t + 1) := by
  obtain ⟨h0, h1⟩ := h
  have e1 := Int.emod_add_mul_ediv t r
  have e2 := Int.emod_lt_of_pos t (show 0 < r by omega)
  have e3 := Int.emod_nonneg t (Int.ne_of_gt (show 0 < r by omega))
  rw [hv] at e1
  have key : r * v + 4 * k ≤ t := by
    rcases h1 with h1 | ⟨l, l1, l2, l3, l4⟩
    · omega
    · have d1 := Int.emod_add_mul_ediv t m
      have d2 := Int.emod_add_mul_ediv l m
      rw [hu] at d1
      rw [l2] at d2
      have d3 : m * (t / m - l / m) = m * (t / m) - m * (l / m) := Int.mul_sub _ _ _
      have d4 : 1 ≤ t / m - l / m := by
        rcases Int.lt_or_le 0 (t / m - l / m) with h5 | h5
        · omega
        · have := Int.mul_le_mul_of_nonneg_left h5 (show 0 ≤ m by omega)
          omega
      have d5 := Int.mul_le_mul_of_nonneg_left d4 (show 0 ≤ m by omega)
      omega
  exact ⟨by omega, by omega, Or.inr ⟨t, by omega, hu, hv, by omega⟩⟩
def jlb (a b : Int) : Int := 64 * min a b + max a b
section Times
variable {P : si_P} {d : Nat}
def ltQ (P : si_P) (h0 : si_H) (rv : Option Value) (h' : si_H) : Prop := rv = none ∧ az_HI P az_tb h' ∧ az_same_out jm_lt h0 h'
theorem laysTimes_16 (hxa : P.2.1 < P.1) (hd : 6 ≤ d) {h0 : si_H} {m r : Int} {y : Nat} (hm : 4 ≤ m ∧ m ≤ 60) (hr : 2 ≤ r ∧ r ≤ 24) (hy : 8 ≤ y ∧ y ≤ 1440) (hp : m * r = y) (t9 : ja h0 60 9 = y) (hlk : ∀ t : Nat, t < y → ja h0 68 t = jlk m r t) {n q : Nat} (hn : 1 ≤ n ∧ n ≤ 6) (hq : q < n) (nxt : ∀ (h : si_H) (ls : si_L), az_HI P az_tb h → az_same_out jm_lt h0 h → jR P ls 0 60 → jI ls 1 n → jI ls 2 (q + 1 : Nat) → az_X P d 282 2 ls [] h (ltQ P h0)) : ∀ (N t : Nat) (k1 k2 : Int) (h : si_H) (ls : si_L), t + N = y → az_HI P az_tb h → az_same_out jm_lt h0 h → ja h 97 q = k1 + k2 → jTm m r (jlb (jan (ja h0 71 (2 * q)) 255) (jan (ja h0 71 (2 * q + 1)) 255) / 64) (jlb (jan (ja h0 71 (2 * q)) 255) (jan (ja h0 71 (2 * q + 1)) 255) % 64) k1 t → jTm m r (jlb (jan (ja h0 71 (2 * q)) 255) (jan (ja h0 71 (2 * q + 1)) 255) % 64) (jlb (jan (ja h0 71 (2 * q)) 255) (jan (ja h0 71 (2 * q + 1)) 255) / 64) k2 t → jR P ls 0 60 → jI ls 1 n → jI ls 2 q → jI ls 3 t → az_X P d 282 16 ls [] h (ltQ P h0) := by
  intro N
  have hb : ∀ (h : si_H), az_HI P az_tb h → (-128 ≤ ja h 71 (2 * (q : Int)) ∧ ja h 71 (2 * (q : Int)) ≤ 127) ∧ (-128 ≤ ja h 71 (2 * (q : Int) + 1) ∧ ja h 71 (2 * (q : Int) + 1) ≤ 127) := fun h hH => ⟨ja_row hH (i := 71) rfl (by omega) (by show 2 * (q : Int) < (260 : Nat); omega), ja_row hH (i := 71) rfl (by omega) (by show 2 * (q : Int) + 1 < (260 : Nat); omega)⟩
  generalize hLL : jlb (jan (ja h0 71 (2 * q)) 255) (jan (ja h0 71 (2 * q + 1)) 255) = LL
  induction N with
  | zero =>
    intro t k1 k2 h ls hN hH hs hk hT1 hT2 l0 l1 l2 l3
    obtain ⟨b1, b2⟩ := hb h hH
    apply sx_lt2 hxa (by omega) hH (n := n) (q := q) (y := y) (t := t) (b := ja h 71 (2 * (q : Int))) (c := ja h 71 (2 * (q : Int) + 1)) (by omega) (by omega) (by omega) (by omega) b1 b2 (by omega) ((jso hs rfl).trans t9) rfl (by omega) rfl (by omega) l0 l1 l2 l3
    all_goals first
      | (intro τ h2 ls2 e0 e1 e2 e3 e4 e5 hH2 hs2 fr2 iv2 fs2 nn2 t0 t1 t2 m2 m0 m1 m3
         exact nxt h2 ls2 hH2 (hs.tr hs2) m0 (m1.cg (by omega)) (m2.cg (by omega)))
      | (intro τ h2 ls2 e0 e1 e2 e3 e4 e5 hH2 hs2 fr2 iv2 fs2
         exfalso
         omega)
  | succ N ih =>
    intro t k1 k2 h ls hN hH hs hk hT1 hT2 l0 l1 l2 l3
    obtain ⟨b1, b2⟩ := hb h hH
    have c1 : ((t + 1 : Nat) : Int) = (t : Int) + 1 := by omega
    have f71 : ∀ k : Int, ja h 71 k = ja h0 71 k := jso_row hs (by decide)
    have hst : ja h 68 t = jlk m r t := (jso_row hs (by decide) t).trans (hlk t (by omega))
    have h41 : ∀ (h2 : si_H) (ls2 : si_L), az_HI P az_tb h2 → az_same_out jm_lt h h2 → (∀ (i : Nat) (k : Int), 0 ≤ k → ja h2 i k = ja h i k) → jlk m r t = LL → jR P ls2 0 60 → jI ls2 1 n → jI ls2 2 q → jI ls2 3 t → az_X P d 282 41 ls2 [] h2 (ltQ P h0) := by
      intro h2 ls2 hH2 hs2 fr2 hL m0 m1 m2 m3
      have a1 := Int.emod_nonneg (t : Int) (Int.ne_of_gt (show 0 < m by omega))
      have a2 := Int.emod_lt_of_pos (t : Int) (show 0 < m by omega)
      have a3 : (t : Int) / r < m := Int.ediv_lt_of_lt_mul (by omega) (by rw [hp]; omega)
      have a4 : 0 ≤ (t : Int) / r := Int.ediv_nonneg (by omega) (by omega)
      have bd1 := jTm_bd hr hT1
      have bd2 := jTm_bd hr hT2
      have n1 := hT1.1
      have n2 := hT2.1
      unfold jlk at hL
      have go : ∀ (k1' k2' : Int), k1' + k2' = k1 + k2 + 1 → k1 + k2 ≤ 15 → jTm m r (LL / 64) (LL % 64) k1' ((t : Int) + 1) → jTm m r (LL % 64) (LL / 64) k2' ((t : Int) + 1) → az_X P d 282 41 ls2 [] h2 (ltQ P h0) := by
        intro k1' k2' ek e15 w1 w2
        apply sx_lt3 hxa (by omega) hH2 (n := n) (q := q) (t := t) (s := k1 + k2) (by omega) (by omega) (by omega) (by omega) ((fr2 97 q (by omega)).trans hk) (by omega) m0 m1 m2 m3
        intro τ h3 ls3 e0 e1 e2 e3 hH3 hs3 fr3 iv3 fs3 nn3 t0 t1 o3 o0 o1 o2
        exact ih (t + 1) k1' k2' h3 ls3 (by omega) hH3 ((hs.tr hs2).tr hs3) ((t0 q (by omega)).trans (by omega)) (by rw [c1]; exact w1) (by rw [c1]; exact w2) o0 (o1.cg (by omega)) (o2.cg (by omega)) (o3.cg (by omega))
      have hc : ((t : Int) % m = LL / 64 ∧ (t : Int) / r = LL % 64) ∨ ((t : Int) % m = LL % 64 ∧ (t : Int) / r = LL / 64) := by omega
      rcases hc with ⟨x1, x2⟩ | ⟨x1, x2⟩
      · obtain ⟨z1, z2⟩ := jTm_hit hm.1 hr x1 x2 hT1
        exact go (k1 + 1) k2 (by omega) (by omega) z2 (jTm_mono hT2 (by omega))
      · obtain ⟨z1, z2⟩ := jTm_hit hm.1 hr x1 x2 hT2
        exact go k1 (k2 + 1) (by omega) (by omega) (jTm_mono hT1 (by omega)) z2
    apply sx_lt2 hxa (by omega) hH (n := n) (q := q) (y := y) (t := t) (b := ja h 71 (2 * (q : Int))) (c := ja h 71 (2 * (q : Int) + 1)) (by omega) (by omega) (by omega) (by omega) b1 b2 (by omega) ((jso hs rfl).trans t9) rfl (by omega) rfl (by omega) l0 l1 l2 l3
    all_goals first
      | (intro τ h2 ls2 e0 e1 e2 e3 e4 e5 hH2 hs2 fr2 iv2 fs2 nn2 t0 t1 t2 m2 m0 m1 m3
         exfalso
         omega)
      | (intro τ h2 ls2 e0 e1 e2 e3 e4 e5 hH2 hs2 fr2 iv2 fs2 nn2 t0 t1 t2 t3 m3 m0 m1 m2
         exact ih (t + 1) k1 k2 h2 ls2 (by omega) hH2 (hs.tr hs2) ((fr2 97 q (by omega)).trans hk) (jTm_mono hT1 (by omega)) (jTm_mono hT2 (by omega)) m0 (m1.cg (by omega)) (m2.cg (by omega)) (m3.cg (by omega)))
      | (intro τ h2 ls2 e0 e1 e2 e3 e4 e5 hH2 hs2 fr2 iv2 fs2 nn2 t0 t1 t2 t3 m0 m1 m2 m3
         refine h41 h2 ls2 hH2 hs2 fr2 ?_ m0 (m1.cg (by omega)) (m2.cg (by omega)) (m3.cg (by omega))
         have x6 : jlk m r t = τ 6 := hst.symm.trans ((fr2 68 t (by omega)).symm.trans ((t0 t (by omega)).trans (by omega)))
         have x8 : τ 8 = jan (ja h0 71 (2 * q + 1)) 255 := by
           have := nn2.1
           rw [show (1 * τ 8 + 0) + 0 = τ 8 from by omega, show (1 * τ 5 + 0) + 0 = ja h0 71 (2 * q + 1) from by rw [← f71]; omega] at this
           exact this
         have x7 : τ 7 = jan (ja h0 71 (2 * q)) 255 := by
           have := nn2.2.1
           rw [show (1 * τ 7 + 0) + 0 = τ 7 from by omega, show (1 * τ 4 + 0) + 0 = ja h0 71 (2 * q) from by rw [← f71]; omega] at this
           exact this
         rw [x6, ← hLL, ← x7, ← x8]
         unfold jlb
         omega)
theorem laysTimes_2 (hxa : P.2.1 < P.1) (hd : 6 ≤ d) {h0 : si_H} {m r : Int} {y : Nat} (hm : 4 ≤ m ∧ m ≤ 60) (hr : 2 ≤ r ∧ r ≤ 24) (hy : 8 ≤ y ∧ y ≤ 1440) (hp : m * r = y) (t9 : ja h0 60 9 = y) (hlk : ∀ t : Nat, t < y → ja h0 68 t = jlk m r t) {n : Nat} (hn : 1 ≤ n ∧ n ≤ 6) : ∀ (N q : Nat) (h : si_H) (ls : si_L), q + N = n → az_HI P az_tb h → az_same_out jm_lt h0 h → jR P ls 0 60 → jI ls 1 n → jI ls 2 q → az_X P d 282 2 ls [] h (ltQ P h0) := by
  intro N
  induction N with
  | zero =>
    intro q h ls hN hH hs l0 l1 l2
    apply sx_lt1 hxa (by omega) hH (n := n) (q := q) (by omega) (by omega) l0 l1 l2
    · intro τ h2 e0 e1 hH2 hs2 fr2 iv2 fs2 nn2
      exact ⟨rfl, hH2, hs.tr hs2⟩
    · intro τ h2 ls2 e0 e1 hH2 hs2 fr2 iv2 fs2
      exfalso
      omega
  | succ N ih =>
    intro q h ls hN hH hs l0 l1 l2
    apply sx_lt1 hxa (by omega) hH (n := n) (q := q) (by omega) (by omega) l0 l1 l2
    · intro τ h2 e0 e1 hH2 hs2 fr2 iv2 fs2 nn2
      exfalso
      omega
    · intro τ h2 ls2 e0 e1 hH2 hs2 fr2 iv2 fs2 nn2 t0 m3 m0 m1 m2
      exact laysTimes_16 hxa hd hm hr hy hp t9 hlk hn (q := q) (by omega) (fun h3 ls3 hH3 hs3 o0 o1 o2 => ih (q + 1) h3 ls3 (by omega) hH3 hs3 o0 o1 o2) y 0 0 0 h2 ls2 (by omega) hH2 (hs.tr hs2) (t0 q (by omega)) ⟨by omega, Or.inl rfl⟩ ⟨by omega, Or.inl rfl⟩ m0 (m1.cg (by omega)) (m2.cg (by omega)) m3
end Times
theorem ok_X11_laysTimes_434 {P : si_P} (hxa : P.2.1 < P.1) : az_ok js_J P az_tb ct_X11_laysTimes_434 ∧ az_wfct ct_X11_laysTimes_434 = true := by
  refine ⟨?_, by decide⟩
  intro d hd ρ h as hH hJ hg hS
  have hL := az_args_ok 0 hS
  have hd' : 8 ≤ d := hd
  have hI : 1 ≤ ρ 0 ∧ ρ 0 ≤ 6 := hg.1 0 _ rfl
  obtain ⟨b1, b2, b3⟩ := dial_bd hH
  have hY : ja h 60 9 = ((ja h 60 9).toNat : Nat) := by omega
  apply sx_lt0 hxa (by omega) hH (n := ρ 0) hI (jR.of (k := 0) (c := 60) hL rfl) ((jI.of (k := 1) (a := ([(0, 1)], 0)) hL rfl).cg (by show 1 * ρ 0 + 0 + 0 = ρ 0; omega))
  intro τ h2 ls2 e0 hH2 hs2 fr2 iv2 fs2 nn2 m2 m0 m1
  refine (laysTimes_2 hxa (by omega) (h0 := h2) (m := ja h 60 7) (r := ja h 60 8) (y := (ja h 60 9).toNat) b1 b2 (by omega) (hJ.1.1.symm.trans hY) ((fr2 _ _ (by omega)).trans hY) (fun t ht => (fr2 68 t (by omega)).trans (hJ.1.2 t (by omega))) (n := (ρ 0).toNat) (by omega) (ρ 0).toNat 0 h2 ls2 (by omega) hH2 az_same_out.rf m0 (m1.cg (by omega)) m2).mono ?_
  rintro rv h1 ⟨rfl, z1, z3'⟩
  have z3 := hs2.tr z3'
  exact ⟨z1, ⟨js_1_so z3 (by decide) (by decide) (by decide) (by decide) hJ.1, js_2_so z3 (by decide) (by decide) (by decide) (by decide) (by decide) hJ.2⟩, z3, _, List.mem_cons_self, jct_non hg⟩
