/-! BY HAND, 19: round the dial -/
section Round
variable {P : si_P} {d : Nat}
def jrQ (P : si_P) (lo hi : Int) (h0 : si_H) (rv : Option Value) (h' : si_H) : Prop := az_HI P az_tb h' ∧ az_same_out jm_no h0 h' ∧ ∃ z : Int, jV rv z ∧ lo ≤ z ∧ z ≤ hi
theorem dial_bd {h : si_H} (hH : az_HI P az_tb h) : (4 ≤ ja h 60 7 ∧ ja h 60 7 ≤ 60) ∧ (2 ≤ ja h 60 8 ∧ ja h 60 8 ≤ 24) ∧ (8 ≤ ja h 60 9 ∧ ja h 60 9 ≤ 1440) := ⟨ja_bd hH (i := 60) (k := 7) rfl, ja_bd hH (i := 60) (k := 8) rfl, ja_bd hH (i := 60) (k := 9) rfl⟩
theorem covered_24 (hxa : P.2.1 < P.1) (hd : 4 ≤ d) {h0 : si_H} {y : Nat} (hy : 8 ≤ y ∧ y ≤ 1440) : ∀ (n t : Nat) (s : Int) (h : si_H) (ls : si_L), t + n = y → 0 ≤ s → s ≤ t → az_HI P az_tb h → az_same_out jm_no h0 h → ja h 60 9 = y → jR P ls 0 60 → jI ls 2 s → jI ls 3 t → az_X P d 235 24 ls [] h (jrQ P (-2) 1440 h0) := by
  intro n
  induction n with
  | zero =>
    intro t s h ls hn hs0 hst hH hs t9 l0 l2 l3
    apply sx_cv1 hxa (by omega) hH (y := y) (n := s) (t := t) (by omega) (by omega) (by omega) (by omega) (by omega) t9 l0 l2 l3
    · intro τ h2 rv2 e0 e1 e2 hH2 hs2 fr2 iv2 fs2 nn2 t0 hv2
      exact ⟨hH2, hs.tr hs2, _, hv2, by omega, by omega⟩
    all_goals
      intro τ h2 ls2 e0 e1 e2 hH2 hs2 fr2 iv2 fs2
      exfalso
      omega
  | succ n ih =>
    intro t s h ls hn hs0 hst hH hs t9 l0 l2 l3
    apply sx_cv1 hxa (by omega) hH (y := y) (n := s) (t := t) (by omega) (by omega) (by omega) (by omega) (by omega) t9 l0 l2 l3
    · intro τ h2 rv2 e0 e1 e2 hH2 hs2 fr2 iv2 fs2
      exfalso
      omega
    · intro τ h2 ls2 e0 e1 e2 hH2 hs2 fr2 iv2 fs2 nn2 t0 t1 t2 m3 m0 m2
      exact ih (t + 1) s h2 ls2 (by omega) hs0 (by omega) hH2 (hs.tr hs2) ((fr2 _ _ (by omega)).trans t9) m0 (m2.cg (by omega)) (m3.cg (by omega))
    · intro τ h2 ls2 e0 e1 e2 hH2 hs2 fr2 iv2 fs2 nn2 t0 t1 t2 m3 m2 m0
      exact ih (t + 1) (s + 1) h2 ls2 (by omega) (by omega) (by omega) hH2 (hs.tr hs2) ((fr2 _ _ (by omega)).trans t9) m0 (m2.cg (by omega)) (m3.cg (by omega))
theorem covered_59 (hxa : P.2.1 < P.1) (hd : 4 ≤ d) {h0 : si_H} {y : Nat} (hy : 8 ≤ y ∧ y ≤ 1440) : ∀ (n t : Nat) (h : si_H) (ls : si_L), (t = 0 ∨ t + n = y) → t < y → az_HI P az_tb h → az_same_out jm_no h0 h → ja h 60 9 = y → jR P ls 0 60 → jI ls 3 t → az_X P d 235 59 ls [] h (jrQ P (-2) 1440 h0) := by
  intro n
  induction n with
  | zero =>
    intro t h ls hn ht hH hs t9 l0 l3
    obtain ⟨b1, b2, b3⟩ := dial_bd hH
    apply sx_cv2 hxa (by omega) hH (m := ja h 60 7) (r := ja h 60 8) (y := y) (t := t) b1 b2 (by omega) (by omega) (by omega) rfl rfl t9 l0 l3
    · intro τ h2 rv2 e0 e1 e2 e3 hH2 hs2 fr2 iv2 fs2 nn2 t0 t1 t2 hv2
      exact ⟨hH2, hs.tr hs2, _, hv2, by omega, by omega⟩
    all_goals
      intro τ h2 ls2 e0 e1 e2 e3 hH2 hs2 fr2 iv2 fs2
      exfalso
      omega
  | succ n ih =>
    intro t h ls hn ht hH hs t9 l0 l3
    obtain ⟨b1, b2, b3⟩ := dial_bd hH
    apply sx_cv2 hxa (by omega) hH (m := ja h 60 7) (r := ja h 60 8) (y := y) (t := t) b1 b2 (by omega) (by omega) (by omega) rfl rfl t9 l0 l3
    · intro τ h2 rv2 e0 e1 e2 e3 hH2 hs2 fr2 iv2 fs2 nn2 t0 t1 t2 hv2
      exact ⟨hH2, hs.tr hs2, _, hv2, by omega, by omega⟩
    all_goals
      intro τ h2 ls2 e0 e1 e2 e3 hH2 hs2 fr2 iv2 fs2 nn2 t0 t1 t2 m3 m0
      have e5 := jmodc (t := t) (Y := y) nn2.1.2.2 (by omega) (by omega) (by omega) (by omega)
      rcases e5 with ⟨e5, e6⟩ | ⟨e5, e6⟩
      · exact ih (t + 1) h2 ls2 (by omega) (by omega) hH2 (hs.tr hs2) ((fr2 _ _ (by omega)).trans t9) m0 (m3.cg (by omega))
      · exact ih 0 h2 ls2 (Or.inl rfl) (by omega) hH2 (hs.tr hs2) ((fr2 _ _ (by omega)).trans t9) m0 (m3.cg (by omega))
theorem mirrors_15 (hxa : P.2.1 < P.1) (hd : 6 ≤ d) {h0 : si_H} {m r : Int} {y : Nat} (hm : 4 ≤ m ∧ m ≤ 60) (hr : 2 ≤ r ∧ r ≤ 24) (hy : 8 ≤ y ∧ y ≤ 1440) (hp : m * r = y) {a : Int} (ha : 0 ≤ a ∧ a ≤ 1) : ∀ (n t : Nat) (s : Int) (h : si_H) (ls : si_L), t + n = y → 0 ≤ s → s ≤ t → az_HI P az_tb h → az_same_out jm_no h0 h → ja h 60 7 = m → ja h 60 8 = r → ja h 60 9 = y → jR P ls 0 60 → jI ls 1 a → jI ls 2 s → jI ls 3 t → az_X P d 224 15 ls [] h (jrQ P (-1) 1440 h0) := by
  intro n
  induction n with
  | zero =>
    intro t s h ls hn hs0 hst hH hs t7 t8 t9 l0 l1 l2 l3
    apply sx_mi1 hxa (by omega) hH (m := m) (r := r) (y := y) (a := a) (n := s) (t := t) hm hr (by omega) ha (by omega) (by omega) (by omega) (by omega) hp t7 t8 t9 l0 l1 l2 l3
    all_goals first
      | (intro τ h2 rv2 e0 e1 e2 e3 e4 e5 hH2 hs2 fr2 iv2 fs2 nn2 t0 t1 t2 hv2
         exact ⟨hH2, hs.tr hs2, _, hv2, by omega, by omega⟩)
      | (intro τ h2 ls2 e0 e1 e2 e3 e4 e5 hH2 hs2 fr2 iv2 fs2
         exfalso
         omega)
  | succ n ih =>
    intro t s h ls hn hs0 hst hH hs t7 t8 t9 l0 l1 l2 l3
    have nx : ∀ (h2 : si_H) (ls2 : si_L) (s2 : Int), az_HI P az_tb h2 → az_same_out jm_no h h2 → 0 ≤ s2 → s2 ≤ s + 1 → jR P ls2 0 60 → jI ls2 1 a → jI ls2 2 s2 → jI ls2 3 (t + 1 : Nat) → az_X P d 224 15 ls2 [] h2 (jrQ P (-1) 1440 h0) := fun h2 ls2 s2 hH2 hs2 h5 h6 m0 m1 m2 m3 => ih (t + 1) s2 h2 ls2 (by omega) h5 (by omega) hH2 (hs.tr hs2) ((jm_no_ja hs2 _ _).trans t7) ((jm_no_ja hs2 _ _).trans t8) ((jm_no_ja hs2 _ _).trans t9) m0 m1 m2 m3
    apply sx_mi1 hxa (by omega) hH (m := m) (r := r) (y := y) (a := a) (n := s) (t := t) hm hr (by omega) ha (by omega) (by omega) (by omega) (by omega) hp t7 t8 t9 l0 l1 l2 l3
    all_goals first
      | (intro τ h2 rv2 e0 e1 e2 e3 e4 e5 hH2 hs2 fr2 iv2 fs2
         exfalso
         omega)
      | (intro τ h2 ls2 e0 e1 e2 e3 e4 e5 hH2 hs2 fr2 iv2 fs2 nn2 t0 t1 t2 t3 m3 m0 m1 m2
         exact nx h2 ls2 s hH2 hs2 (by omega) (by omega) m0 (m1.cg (by omega)) (m2.cg (by omega)) (m3.cg (by omega)))
      | (intro τ h2 ls2 e0 e1 e2 e3 e4 e5 hH2 hs2 fr2 iv2 fs2 nn2 t0 t1 t2 t3 m3 m2 m0 m1
         exact nx h2 ls2 (s + 1) hH2 hs2 (by omega) (by omega) m0 (m1.cg (by omega)) (m2.cg (by omega)) (m3.cg (by omega)))
end Round
theorem ok_X11_covered_418 {P : si_P} (hxa : P.2.1 < P.1) : az_ok js_J P az_tb ct_X11_covered_418 ∧ az_wfct ct_X11_covered_418 = true := by
  refine ⟨?_, by decide⟩
  intro d hd ρ h as hH hJ hg hS
  have hL := az_args_ok 0 hS
  have hd' : 4 ≤ d := hd
  have hI : -2147483648 ≤ ρ 0 ∧ ρ 0 ≤ 2147483647 := hg.1 0 _ rfl
  obtain ⟨b1, b2, b3⟩ := dial_bd hH
  have fin : ∀ (rv : Option Value) (h1 : si_H), jrQ P (-2) 1440 h rv h1 → (az_HI P az_tb h1 ∧ js_J h1 ∧ az_same_out ct_X11_covered_418.2.2.2.2.1 h h1 ∧ ∃ q, q ∈ ct_X11_covered_418.2.2.2.1 ∧ ∃ σ, az_ext ct_X11_covered_418.2.1.1.length ρ σ ∧ az_g P σ h1 q.1 ∧ az_gO P σ q.1.1.length q.2 rv) := by
    rintro rv h1 ⟨z1, z2, z, z4, z5, z6⟩
    exact ⟨z1, jm_no_J z2 hJ, z2, _, List.mem_cons_self, jct_int hg z4 z5 z6⟩
  have hY : ja h 60 9 = ((ja h 60 9).toNat : Nat) := by omega
  apply sx_cv0 hxa (by omega) hH (a := ρ 0) (y := ja h 60 9) hI b3 rfl (jR.of (k := 0) (c := 60) hL rfl) ((jI.of (k := 1) (a := ([(0, 1)], 0)) hL rfl).cg (by show 1 * ρ 0 + 0 + 0 = ρ 0; omega))
  · intro τ h2 ls2 e0 e1 hH2 hs2 fr2 iv2 fs2 nn2 t0 m3 m2 m0 m1
    exact (covered_24 hxa hd' (h0 := h) (y := (ja h 60 9).toNat) (by omega) (ja h 60 9).toNat 0 0 h2 ls2 (by omega) (by omega) (by omega) hH2 hs2 ((fr2 _ _ (by omega)).trans hY) m0 m2 m3).mono fin
  · intro τ h2 rv2 e0 e1 hH2 hs2 fr2 iv2 fs2 nn2 t0 hv2
    exact fin rv2 h2 ⟨hH2, hs2, _, hv2, by omega, by omega⟩
  · intro τ h2 rv2 e0 e1 hH2 hs2 fr2 iv2 fs2 nn2 t0 hv2
    exact fin rv2 h2 ⟨hH2, hs2, _, hv2, by omega, by omega⟩
  · intro τ h2 ls2 e0 e1 hH2 hs2 fr2 iv2 fs2 nn2 t0 m3 m2 m0 m1
    exact (covered_59 hxa hd' (h0 := h) (y := (ja h 60 9).toNat) (by omega) ((ja h 60 9).toNat - (ρ 0).toNat) (ρ 0).toNat h2 ls2 (by omega) (by omega) hH2 hs2 ((fr2 _ _ (by omega)).trans hY) m0 (m3.cg (by omega))).mono fin
theorem ok_X11_mirrors_402 {P : si_P} (hxa : P.2.1 < P.1) : az_ok js_J P az_tb ct_X11_mirrors_402 ∧ az_wfct ct_X11_mirrors_402 = true := by
  refine ⟨?_, by decide⟩
  intro d hd ρ h as hH hJ hg hS
  have hL := az_args_ok 0 hS
  have hd' : 8 ≤ d := hd
  have hI : -2147483648 ≤ ρ 0 ∧ ρ 0 ≤ 2147483647 := hg.1 0 _ rfl
  obtain ⟨b1, b2, b3⟩ := dial_bd hH
  have fin : ∀ (rv : Option Value) (h1 : si_H), jrQ P (-1) 1440 h rv h1 → (az_HI P az_tb h1 ∧ js_J h1 ∧ az_same_out ct_X11_mirrors_402.2.2.2.2.1 h h1 ∧ ∃ q, q ∈ ct_X11_mirrors_402.2.2.2.1 ∧ ∃ σ, az_ext ct_X11_mirrors_402.2.1.1.length ρ σ ∧ az_g P σ h1 q.1 ∧ az_gO P σ q.1.1.length q.2 rv) := by
    rintro rv h1 ⟨z1, z2, z, z4, z5, z6⟩
    exact ⟨z1, jm_no_J z2 hJ, z2, _, List.mem_cons_self, jct_int hg z4 z5 z6⟩
  have hY : ja h 60 9 = ((ja h 60 9).toNat : Nat) := by omega
  apply sx_mi0 hxa (by omega) hH (a := ρ 0) hI (jR.of (k := 0) (c := 60) hL rfl) ((jI.of (k := 1) (a := ([(0, 1)], 0)) hL rfl).cg (by show 1 * ρ 0 + 0 + 0 = ρ 0; omega))
  all_goals first
    | (intro τ h2 rv2 e0 hH2 hs2 fr2 iv2 fs2 nn2 hv2
       exact fin rv2 h2 ⟨hH2, hs2, _, hv2, by omega, by omega⟩)
    | (intro τ h2 ls2 e0 hH2 hs2 fr2 iv2 fs2 nn2 m3 m2 m0 m1
       exact (mirrors_15 hxa (by omega) (h0 := h) (y := (ja h 60 9).toNat) b1 b2 (by omega) (hJ.1.1.symm.trans hY) (a := ρ 0) (by omega) (ja h 60 9).toNat 0 0 h2 ls2 (by omega) (by omega) (by omega) hH2 hs2 (fr2 _ _ (by omega)) (fr2 _ _ (by omega)) ((fr2 _ _ (by omega)).trans hY) m0 (m1.cg (by omega)) m2 m3).mono fin)
