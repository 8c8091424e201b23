/-! BY HAND, 18: the dial is laid; the next alike; hands on each other; mirrors -/
theorem jmodc {x y z t Y : Int} (h : z = x % y) (hx : x = t + 1) (hy : y = Y) (h0 : 0 ≤ t) (h1 : t < Y) : (t + 1 < Y ∧ z = t + 1) ∨ (t + 1 = Y ∧ z = 0) := by
  subst hx hy h
  rcases Int.lt_or_le (t + 1) y with h2 | h2
  · exact Or.inl ⟨h2, Int.emod_eq_of_lt (by omega) h2⟩
  · refine Or.inr ⟨by omega, ?_⟩
    rw [show t + 1 = y from by omega]
    exact Int.emod_self
section Dial
variable {P : si_P} {d : Nat}
def ldQ (P : si_P) (h0 : si_H) (rv : Option Value) (h' : si_H) : Prop := rv = none ∧ az_HI P az_tb h' ∧ js_1 h' ∧ az_same_out jm_ld h0 h'
theorem laysDial_51 (hxa : P.2.1 < P.1) (hd : 6 ≤ d) {h0 : si_H} {m r : Int} {y : Nat} (hm : 4 ≤ m ∧ m ≤ 60) (hr : 2 ≤ r ∧ r ≤ 24) (hy : 8 ≤ y ∧ y ≤ 1440) (hp : m * r = y) : ∀ (n t : Nat) (h : si_H) (ls : si_L), t + n = y → az_HI P az_tb h → az_same_out jm_ld h0 h → ja h 60 7 = m → ja h 60 8 = r → ja h 60 9 = y → (∀ j : Nat, j < t → ja h 68 j = jlk m r j) → jR P ls 0 60 → jI ls 3 t → az_X P d 217 51 ls [] h (ldQ P h0) := by
  intro n
  induction n with
  | zero =>
    intro t h ls hn hH hs t7 t8 t9 hj l0 l3
    apply sx_ld3 hxa (by omega) hH (m := m) (r := r) (y := y) (t := t) hm hr (by omega) (by omega) (by omega) hp t7 t8 t9 l0 l3
    all_goals first
      | (intro τ h2 e0 e1 e2 e3 hH2 hs2 fr2 iv2 fs2 nn2 t0 t1 t2
         refine ⟨rfl, hH2, ⟨?_, ?_⟩, hs.tr hs2⟩
         · rw [fr2 60 7 (by omega), fr2 60 8 (by omega), fr2 60 9 (by omega), t7, t8, t9, hp]
         · intro j hj2
           rw [fr2 60 9 (by omega), t9] at hj2
           rw [fr2 60 7 (by omega), fr2 60 8 (by omega), fr2 68 j (by omega), t7, t8]
           exact hj j (by omega))
      | (intro τ h2 ls2 e0 e1 e2 e3 hH2 hs2 fr2 iv2 fs2
         exfalso
         omega)
  | succ n ih =>
    intro t h ls hn hH hs t7 t8 t9 hj l0 l3
    have nx : ∀ (h2 : si_H) (ls2 : si_L) (v w : Int), az_HI P az_tb h2 → az_same_out jm_ld h h2 → (∀ (i : Nat) (k : Int), 0 ≤ k → (68 = i → k ≠ t) → (69 = i → 0 ≤ w ∧ k ≠ w) → ja h2 i k = ja h i k) → ja h2 68 t = v → v = jlk m r t → jR P ls2 0 60 → jI ls2 3 (t + 1 : Nat) → az_X P d 217 51 ls2 [] h2 (ldQ P h0) := by
      intro h2 ls2 v w hH2 hs2 fr2 tv hv m0 m3
      refine ih (t + 1) h2 ls2 (by omega) hH2 (hs.tr hs2) ((fr2 60 7 (by omega) (by omega) (by omega)).trans t7) ((fr2 60 8 (by omega) (by omega) (by omega)).trans t8) ((fr2 60 9 (by omega) (by omega) (by omega)).trans t9) (fun j hj2 => ?_) m0 m3
      rcases Nat.lt_or_ge j t with h4 | h4
      · rw [fr2 68 j (by omega) (by omega) (by omega)]; exact hj j h4
      · rw [show j = t from by omega, tv, hv]
    apply sx_ld3 hxa (by omega) hH (m := m) (r := r) (y := y) (t := t) hm hr (by omega) (by omega) (by omega) hp t7 t8 t9 l0 l3
    all_goals first
      | (intro τ h2 e0 e1 e2 e3 hH2 hs2 fr2 iv2 fs2
         exfalso
         omega)
      | (intro τ h2 ls2 e0 e1 e2 e3 hH2 hs2 fr2 iv2 fs2 nn2 t0 t1 t2 t3 t4 m3 m0
         refine nx h2 ls2 _ _ hH2 hs2 (fun i k hk h5 h6 => fr2 i k hk (fun e => ⟨by omega, by have := h5 e; omega⟩) h6) (t1 t (by omega)) ?_ m0 (m3.cg (by omega))
         have e4 : τ 4 = (t : Int) % m := by
           have := nn2.2.2.1.2.2
           rw [show (1 * τ 4 + 0) + 0 = τ 4 from by omega, show (1 * τ 3 + 0) + 0 = (t : Int) from by omega, show (1 * τ 0 + 0) + 0 = m from by omega] at this
           exact this
         have e5 : τ 5 = (t : Int) / r := by
           have := nn2.2.1.2.2
           rw [show (1 * τ 5 + 0) + 0 = τ 5 from by omega, show (1 * τ 3 + 0) + 0 = (t : Int) from by omega, show (1 * τ 1 + 0) + 0 = r from by omega] at this
           exact this
         unfold jlk
         rw [← e4, ← e5]
         omega)
theorem laysDial_29 (hxa : P.2.1 < P.1) (hd : 6 ≤ d) {h0 : si_H} {m r : Int} {y : Nat} (hm : 4 ≤ m ∧ m ≤ 60) (hr : 2 ≤ r ∧ r ≤ 24) (hy : 8 ≤ y ∧ y ≤ 1440) (hp : m * r = y) : ∀ (n t : Nat) (h : si_H) (ls : si_L), t + n = 4096 → az_HI P az_tb h → az_same_out jm_ld h0 h → ja h 60 7 = m → ja h 60 8 = r → ja h 60 9 = y → jR P ls 0 60 → jI ls 3 t → az_X P d 217 29 ls [] h (ldQ P h0) := by
  intro n
  induction n with
  | zero =>
    intro t h ls hn hH hs t7 t8 t9 l0 l3
    apply sx_ld2 hxa (by omega) hH (k := t) (by omega) l0 l3
    · intro τ h2 ls2 e0 hH2 hs2 fr2 iv2 fs2 nn2 m3 m0
      exact laysDial_51 hxa hd hm hr hy hp y 0 h2 ls2 (by omega) hH2 (hs.tr hs2) ((fr2 _ _ (by omega)).trans t7) ((fr2 _ _ (by omega)).trans t8) ((fr2 _ _ (by omega)).trans t9) (fun j hj => absurd hj (by omega)) m0 m3
    · intro τ h2 ls2 e0 hH2 hs2 fr2 iv2
      exfalso
      omega
  | succ n ih =>
    intro t h ls hn hH hs t7 t8 t9 l0 l3
    apply sx_ld2 hxa (by omega) hH (k := t) (by omega) l0 l3
    · intro τ h2 ls2 e0 hH2 hs2 fr2 iv2
      exfalso
      omega
    · intro τ h2 ls2 e0 hH2 hs2 fr2 iv2 fs2 nn2 t0 m3 m0
      exact ih (t + 1) h2 ls2 (by omega) hH2 (hs.tr hs2) ((fr2 60 7 (by omega) (by omega)).trans t7) ((fr2 60 8 (by omega) (by omega)).trans t8) ((fr2 60 9 (by omega) (by omega)).trans t9) m0 (m3.cg (by omega))
theorem laysDial_17 (hxa : P.2.1 < P.1) (hd : 6 ≤ d) {h0 : si_H} {m r : Int} {y : Nat} (hm : 4 ≤ m ∧ m ≤ 60) (hr : 2 ≤ r ∧ r ≤ 24) (hy : 8 ≤ y ∧ y ≤ 1440) (hp : m * r = y) (h : si_H) (ls : si_L) (hH : az_HI P az_tb h) (hs : az_same_out jm_ld h0 h) (t7 : ja h 60 7 = m) (t8 : ja h 60 8 = r) (t9 : ja h 60 9 = y) (l0 : jR P ls 0 60) : az_X P d 217 17 ls [] h (ldQ P h0) := by
  apply sx_ld1 hxa (by omega) hH l0
  intro τ h2 ls2 hH2 hs2 fr2 iv2 fs2 nn2 t0 t1 m3 m0
  exact laysDial_29 hxa hd hm hr hy hp 4096 0 h2 ls2 (by omega) hH2 (hs.tr hs2) ((fr2 60 7 (by omega) (by omega) (by omega)).trans t7) ((fr2 60 8 (by omega) (by omega) (by omega)).trans t8) ((fr2 60 9 (by omega) (by omega) (by omega)).trans t9) m0 m3
theorem nextAlike_lp (hxa : P.2.1 < P.1) (hd : 4 ≤ d) {h0 : si_H} {a y : Nat} (ha : a < y) (hy : 8 ≤ y ∧ y ≤ 1440) : ∀ (n t : Nat) (h : si_H) (ls : si_L), ((t ≤ a ∧ t + n = a) ∨ (a < t ∧ t + n = a + y)) → t < y → az_HI P az_tb h → az_same_out jm_no h0 h → ja h 60 9 = y → jR P ls 0 60 → jI ls 1 a → jI ls 2 t → az_X P d 219 9 ls [] h (fun rv h' => az_HI P az_tb h' ∧ az_same_out jm_no h0 h' ∧ ∃ z : Int, jV rv z ∧ 0 ≤ z ∧ z ≤ 1439) := by
  intro n
  have st : ∀ (t : Nat) (h : si_H), t < y → az_HI P az_tb h → 0 ≤ ja h 68 t ∧ ja h 68 t ≤ 4095 := fun t h ht hH => ja_row hH (i := 68) rfl (k := (t : Int)) (by omega) (by show (t : Int) < (1440 : Nat); omega)
  induction n with
  | zero =>
    intro t h ls hn ht hH hs t9 l0 l1 l2
    have u := st t h ht hH
    have v := st a h ha hH
    have e : t = a := by omega
    apply sx_na1 hxa (by omega) hH (a := a) (y := y) (t := t) (u := ja h 68 t) (v := ja h 68 a) (by omega) (by omega) (by omega) u v (by omega) (by omega) t9 rfl (by omega) rfl (by omega) l0 l1 l2
    · intro τ h2 rv2 e0 e1 e2 e3 e4 hH2 hs2 fr2 iv2 fs2 nn2 t0 t1 t2 hv2
      exact ⟨hH2, hs.tr hs2, _, hv2, by omega, by omega⟩
    all_goals
      intro τ h2 ls2 e0 e1 e2 e3 e4 hH2 hs2 fr2 iv2 fs2
      exfalso
      rw [e] at e3
      omega
  | succ n ih =>
    intro t h ls hn ht hH hs t9 l0 l1 l2
    have u := st t h ht hH
    have v := st a h ha hH
    apply sx_na1 hxa (by omega) hH (a := a) (y := y) (t := t) (u := ja h 68 t) (v := ja h 68 a) (by omega) (by omega) (by omega) u v (by omega) (by omega) t9 rfl (by omega) rfl (by omega) l0 l1 l2
    · intro τ h2 rv2 e0 e1 e2 e3 e4 hH2 hs2 fr2 iv2 fs2 nn2 t0 t1 t2 hv2
      exact ⟨hH2, hs.tr hs2, _, hv2, by omega, by omega⟩
    all_goals
      intro τ h2 ls2 e0 e1 e2 e3 e4 hH2 hs2 fr2 iv2 fs2 nn2 t0 t1 t2 m2 m0 m1
      have e5 := jmodc (t := t) (Y := y) nn2.1.2.2 (by omega) (by omega) (by omega) (by omega)
      rcases e5 with ⟨e5, e6⟩ | ⟨e5, e6⟩
      · exact ih (t + 1) h2 ls2 (by omega) (by omega) hH2 (hs.tr hs2) ((fr2 _ _ (by omega)).trans t9) m0 (m1.cg (by omega)) (m2.cg (by omega))
      · exact ih 0 h2 ls2 (by omega) (by omega) hH2 (hs.tr hs2) ((fr2 _ _ (by omega)).trans t9) m0 (m1.cg (by omega)) (m2.cg (by omega))
end Dial
theorem ok_X11_laysDial_379 {P : si_P} (hxa : P.2.1 < P.1) : az_ok js_J P az_tb ct_X11_laysDial_379 ∧ az_wfct ct_X11_laysDial_379 = true := by
  refine ⟨?_, by decide⟩
  intro d hd ρ h as hH hJ hg hS
  have hL := az_args_ok 0 hS
  have hd' : 8 ≤ d := hd
  have hI : 4 ≤ ρ 0 ∧ ρ 0 ≤ 60 := hg.1 0 _ rfl
  have hI1 : 2 ≤ ρ 1 ∧ ρ 1 ≤ 24 := hg.1 1 _ rfl
  apply sx_ld0 hxa (by omega) hH (g := ρ 0) (r := ρ 1) hI hI1 (jR.of (k := 0) (c := 60) hL rfl) ((jI.of (k := 1) (a := ([(0, 1)], 0)) hL rfl).cg (by show 1 * ρ 0 + 0 + 0 = ρ 0; omega)) ((jI.of (k := 2) (a := ([(1, 1)], 0)) hL rfl).cg (by show 1 * ρ 1 + 0 + 0 = ρ 1; omega))
  intro τ h2 ls2 e0 e1 hH2 hs2 fr2 iv2 fs2 nn2 t0 t1 t2 m0 m1 m2
  have hp := nn2.1
  rw [show (1 * τ 0 + 0) + 0 = ρ 0 from by omega, show (1 * τ 1 + 0) + 0 = ρ 1 from by omega, show (1 * τ 2 + 0) + 0 = ((τ 2).toNat : Int) from by omega] at hp
  refine (laysDial_17 hxa (by omega) (h0 := h2) hI hI1 (y := (τ 2).toNat) (by omega) hp h2 ls2 hH2 az_same_out.rf ((t2 7 rfl).trans (by omega)) ((t1 8 rfl).trans (by omega)) ((t0 9 rfl).trans (by omega)) m0).mono ?_
  rintro rv h1 ⟨rfl, z1, z2, z3⟩
  exact ⟨z1, ⟨z2, js_2_so (hs2.tr z3) (by decide) (by decide) (by decide) (by decide) (by decide) hJ.2⟩, hs2.tr z3, _, List.mem_cons_self, jct_non hg⟩
theorem jm_no_J {h h' : si_H} (hs : az_same_out jm_no h h') (s : js_J h) : js_J h' := ⟨js_1_so hs (by decide) (by decide) (by decide) (by decide) s.1, js_2_so hs (by decide) (by decide) (by decide) (by decide) (by decide) s.2⟩
theorem ok_X11_nextAlike_399 {P : si_P} (hxa : P.2.1 < P.1) : az_ok js_J P az_tb ct_X11_nextAlike_399 ∧ az_wfct ct_X11_nextAlike_399 = true := by
  refine ⟨?_, by decide⟩
  intro d hd ρ h as hH hJ hg hS
  have hL := az_args_ok 0 hS
  have hd' : 4 ≤ d := hd
  have hI : 0 ≤ ρ 0 ∧ ρ 0 ≤ 1439 := hg.1 0 _ rfl
  have hI1 : 8 ≤ ρ 1 ∧ ρ 1 ≤ 1440 := hg.1 1 _ rfl
  have hF : 0 ≤ (1 * ρ 1 + (-1 * ρ 0 + 0)) + -1 := (jgF_un hg.2.1).1
  have hT : ja h 60 9 = 1 * ρ 1 + 0 + 0 := (jgT_un hg.2.2.2).1 (by decide)
  apply sx_na0 hxa (by omega) hH (a := ρ 0) (y := ρ 1) hI hI1 (by omega) (hT.trans (by omega)) (jR.of (k := 0) (c := 60) hL rfl) ((jI.of (k := 1) (a := ([(0, 1)], 0)) hL rfl).cg (by show 1 * ρ 0 + 0 + 0 = ρ 0; omega))
  intro τ h2 ls2 e0 e1 hH2 hs2 fr2 iv2 fs2 nn2 t0 m2 m0 m1
  obtain ⟨a, ea⟩ : ∃ a : Nat, ρ 0 = a := ⟨(ρ 0).toNat, by omega⟩
  obtain ⟨y, ey⟩ : ∃ y : Nat, ρ 1 = y := ⟨(ρ 1).toNat, by omega⟩
  have e5 := jmodc (t := a) (Y := y) nn2.1.2.2 (by omega) (by omega) (by omega) (by omega)
  have fin : ∀ t n : Nat, ((t ≤ a ∧ t + n = a) ∨ (a < t ∧ t + n = a + y)) → t < y → jI ls2 2 t → az_X P d 219 9 ls2 [] h2 (fun rv h1 => az_HI P az_tb h1 ∧ js_J h1 ∧ az_same_out ct_X11_nextAlike_399.2.2.2.2.1 h h1 ∧ ∃ q, q ∈ ct_X11_nextAlike_399.2.2.2.1 ∧ ∃ σ, az_ext ct_X11_nextAlike_399.2.1.1.length ρ σ ∧ az_g P σ h1 q.1 ∧ az_gO P σ q.1.1.length q.2 rv) := by
    intro t n hn ht m2
    refine (nextAlike_lp hxa hd' (h0 := h2) (a := a) (y := y) (by omega) (by omega) n t h2 ls2 hn ht hH2 az_same_out.rf ((t0 9 rfl).trans (by omega)) m0 (m1.cg (by omega)) m2).mono ?_
    rintro rv h1 ⟨z1, z2, z, z4, z5, z6⟩
    exact ⟨z1, jm_no_J (hs2.tr z2) hJ, hs2.tr z2, _, List.mem_cons_self, jct_int hg z4 z5 z6⟩
  rcases e5 with ⟨e5, e6⟩ | ⟨e5, e6⟩
  · exact fin (a + 1) (y - 1) (by omega) (by omega) (m2.cg (by omega))
  · exact fin 0 a (by omega) (by omega) (m2.cg (by omega))
