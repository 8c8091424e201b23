/-! THE DIAL, with what it is: of class and reference alike -/
set_option maxRecDepth 100000
section Dial2
variable {P : si_P} {d : Nat}
def ldQ2 (P : si_P) (h0 : si_H) (m r : Int) (y : Nat) (rv : Option Value) (h' : si_H) : Prop := rv = none ∧ az_HI P az_tb h' ∧ js_1 h' ∧ az_same_out jm_ld h0 h' ∧ ja h' 60 7 = m ∧ ja h' 60 8 = r
theorem ld2_51 (hxa : P.2.1 < P.1) (hd : 6 ≤ d) {h0 : si_H} {m r : Int} {y : Nat} (hm : 4 ≤ m ∧ m ≤ 60) (hr : 2 ≤ r ∧ r ≤ 24) (hy : 8 ≤ y ∧ y ≤ 1440) (hp : m * r = y) : ∀ (n t : Nat) (h : si_H) (ls : si_L), t + n = y → az_HI P az_tb h → az_same_out jm_ld h0 h → ja h 60 7 = m → ja h 60 8 = r → ja h 60 9 = y → (∀ j : Nat, j < t → ja h 68 j = jlk m r j) → jR P ls 0 60 → jI ls 3 t → az_X P d 217 51 ls [] h (ldQ2 P h0 m r y) := by
  intro n
  induction n with
  | zero =>
    intro t h ls hn hH hs t7 t8 t9 hj l0 l3
    apply sx_ld3 hxa (by omega) hH (m := m) (r := r) (y := y) (t := t) hm hr (by omega) (by omega) (by omega) hp t7 t8 t9 l0 l3
    all_goals first
      | (intro τ h2 e0 e1 e2 e3 hH2 hs2 fr2 iv2 fs2 nn2 t0 t1 t2
         refine ⟨rfl, hH2, ⟨?_, ?_⟩, hs.tr hs2, (fr2 60 7 (by omega)).trans t7, (fr2 60 8 (by omega)).trans t8⟩
         · rw [fr2 60 7 (by omega), fr2 60 8 (by omega), fr2 60 9 (by omega), t7, t8, t9, hp]
         · intro j hj2
           rw [fr2 60 9 (by omega), t9] at hj2
           rw [fr2 60 7 (by omega), fr2 60 8 (by omega), fr2 68 j (by omega), t7, t8]
           exact hj j (by omega))
      | (intro τ h2 ls2 e0 e1 e2 e3 hH2 hs2 fr2 iv2 fs2
         exfalso
         omega)
  | succ n ih =>
    intro t h ls hn hH hs t7 t8 t9 hj l0 l3
    have nx : ∀ (h2 : si_H) (ls2 : si_L) (v w : Int), az_HI P az_tb h2 → az_same_out jm_ld h h2 → (∀ (i : Nat) (k : Int), 0 ≤ k → (68 = i → k ≠ t) → (69 = i → 0 ≤ w ∧ k ≠ w) → ja h2 i k = ja h i k) → ja h2 68 t = v → v = jlk m r t → jR P ls2 0 60 → jI ls2 3 (t + 1 : Nat) → az_X P d 217 51 ls2 [] h2 (ldQ2 P h0 m r y) := by
      intro h2 ls2 v w hH2 hs2 fr2 tv hv m0 m3
      refine ih (t + 1) h2 ls2 (by omega) hH2 (hs.tr hs2) ((fr2 60 7 (by omega) (by omega) (by omega)).trans t7) ((fr2 60 8 (by omega) (by omega) (by omega)).trans t8) ((fr2 60 9 (by omega) (by omega) (by omega)).trans t9) (fun j hj2 => ?_) m0 m3
      rcases Nat.lt_or_ge j t with h4 | h4
      · rw [fr2 68 j (by omega) (by omega) (by omega)]; exact hj j h4
      · rw [show j = t from by omega, tv, hv]
    apply sx_ld3 hxa (by omega) hH (m := m) (r := r) (y := y) (t := t) hm hr (by omega) (by omega) (by omega) hp t7 t8 t9 l0 l3
    all_goals first
      | (intro τ h2 e0 e1 e2 e3 hH2 hs2 fr2 iv2 fs2
         exfalso
         omega)
      | (intro τ h2 ls2 e0 e1 e2 e3 hH2 hs2 fr2 iv2 fs2 nn2 t0 t1 t2 t3 t4 m3 m0
         refine nx h2 ls2 _ _ hH2 hs2 (fun i k hk h5 h6 => fr2 i k hk (fun e => ⟨by omega, by have := h5 e; omega⟩) h6) (t1 t (by omega)) ?_ m0 (m3.cg (by omega))
         have e4 : τ 4 = (t : Int) % m := by
           have := nn2.2.2.1.2.2
           rw [show (1 * τ 4 + 0) + 0 = τ 4 from by omega, show (1 * τ 3 + 0) + 0 = (t : Int) from by omega, show (1 * τ 0 + 0) + 0 = m from by omega] at this
           exact this
         have e5 : τ 5 = (t : Int) / r := by
           have := nn2.2.1.2.2
           rw [show (1 * τ 5 + 0) + 0 = τ 5 from by omega, show (1 * τ 3 + 0) + 0 = (t : Int) from by omega, show (1 * τ 1 + 0) + 0 = r from by omega] at this
           exact this
         unfold jlk
         rw [← e4, ← e5]
         omega)
theorem ld2_29 (hxa : P.2.1 < P.1) (hd : 6 ≤ d) {h0 : si_H} {m r : Int} {y : Nat} (hm : 4 ≤ m ∧ m ≤ 60) (hr : 2 ≤ r ∧ r ≤ 24) (hy : 8 ≤ y ∧ y ≤ 1440) (hp : m * r = y) : ∀ (n t : Nat) (h : si_H) (ls : si_L), t + n = 4096 → az_HI P az_tb h → az_same_out jm_ld h0 h → ja h 60 7 = m → ja h 60 8 = r → ja h 60 9 = y → jR P ls 0 60 → jI ls 3 t → az_X P d 217 29 ls [] h (ldQ2 P h0 m r y) := by
  intro n
  induction n with
  | zero =>
    intro t h ls hn hH hs t7 t8 t9 l0 l3
    apply sx_ld2 hxa (by omega) hH (k := t) (by omega) l0 l3
    · intro τ h2 ls2 e0 hH2 hs2 fr2 iv2 fs2 nn2 m3 m0
      exact ld2_51 hxa hd hm hr hy hp y 0 h2 ls2 (by omega) hH2 (hs.tr hs2) ((fr2 _ _ (by omega)).trans t7) ((fr2 _ _ (by omega)).trans t8) ((fr2 _ _ (by omega)).trans t9) (fun j hj => absurd hj (by omega)) m0 m3
    · intro τ h2 ls2 e0 hH2 hs2 fr2 iv2
      exfalso
      omega
  | succ n ih =>
    intro t h ls hn hH hs t7 t8 t9 l0 l3
    apply sx_ld2 hxa (by omega) hH (k := t) (by omega) l0 l3
    · intro τ h2 ls2 e0 hH2 hs2 fr2 iv2
      exfalso
      omega
    · intro τ h2 ls2 e0 hH2 hs2 fr2 iv2 fs2 nn2 t0 m3 m0
      exact ih (t + 1) h2 ls2 (by omega) hH2 (hs.tr hs2) ((fr2 60 7 (by omega) (by omega)).trans t7) ((fr2 60 8 (by omega) (by omega)).trans t8) ((fr2 60 9 (by omega) (by omega)).trans t9) m0 (m3.cg (by omega))
theorem ld2_17 (hxa : P.2.1 < P.1) (hd : 6 ≤ d) {h0 : si_H} {m r : Int} {y : Nat} (hm : 4 ≤ m ∧ m ≤ 60) (hr : 2 ≤ r ∧ r ≤ 24) (hy : 8 ≤ y ∧ y ≤ 1440) (hp : m * r = y) (h : si_H) (ls : si_L) (hH : az_HI P az_tb h) (hs : az_same_out jm_ld h0 h) (t7 : ja h 60 7 = m) (t8 : ja h 60 8 = r) (t9 : ja h 60 9 = y) (l0 : jR P ls 0 60) : az_X P d 217 17 ls [] h (ldQ2 P h0 m r y) := by
  apply sx_ld1 hxa (by omega) hH l0
  intro τ h2 ls2 hH2 hs2 fr2 iv2 fs2 nn2 t0 t1 m3 m0
  exact ld2_29 hxa hd hm hr hy hp 4096 0 h2 ls2 (by omega) hH2 (hs.tr hs2) ((fr2 60 7 (by omega) (by omega) (by omega)).trans t7) ((fr2 60 8 (by omega) (by omega) (by omega)).trans t8) ((fr2 60 9 (by omega) (by omega) (by omega)).trans t9) m0 m3
end Dial2
def cp_ld : az_Ct := (217, ([(4, 60), (2, 24)], [], [], []), [.inr (.inr (.inl 60)), .inl ([(0, 1)], 0), .inl ([(1, 1)], 0)], [(([(4, 60), (2, 24)], [], [], [(60, ([], 7), ([(0, 1)], 0)), (60, ([], 8), ([(1, 1)], 0))]), none)], jm_ld, 8)
theorem ok_cp_ld {P : si_P} (hxa : P.2.1 < P.1) : az_ok js_J P az_tb cp_ld ∧ az_wfct cp_ld = true := by
  refine ⟨?_, by decide⟩
  intro d hd ρ h as hH hJ hg hS
  have hL := az_args_ok 0 hS
  have hd' : 8 ≤ d := hd
  have hI : 4 ≤ ρ 0 ∧ ρ 0 ≤ 60 := hg.1 0 _ rfl
  have hI1 : 2 ≤ ρ 1 ∧ ρ 1 ≤ 24 := hg.1 1 _ rfl
  apply sx_ld0 hxa (by omega) hH (g := ρ 0) (r := ρ 1) hI hI1 (jR.of (k := 0) (c := 60) hL rfl) ((jI.of (k := 1) (a := ([(0, 1)], 0)) hL rfl).cg (by show 1 * ρ 0 + 0 + 0 = ρ 0; omega)) ((jI.of (k := 2) (a := ([(1, 1)], 0)) hL rfl).cg (by show 1 * ρ 1 + 0 + 0 = ρ 1; omega))
  intro τ h2 ls2 e0 e1 hH2 hs2 fr2 iv2 fs2 nn2 t0 t1 t2 m0 m1 m2
  have hp := nn2.1
  rw [show (1 * τ 0 + 0) + 0 = ρ 0 from by omega, show (1 * τ 1 + 0) + 0 = ρ 1 from by omega, show (1 * τ 2 + 0) + 0 = ((τ 2).toNat : Int) from by omega] at hp
  refine (ld2_17 hxa (by omega) (h0 := h2) hI hI1 (y := (τ 2).toNat) (by omega) hp h2 ls2 hH2 az_same_out.rf ((t2 7 rfl).trans (by omega)) ((t1 8 rfl).trans (by omega)) ((t0 9 rfl).trans (by omega)) m0).mono ?_
  rintro rv h1 ⟨rfl, z1, z2, z3, z4, z5⟩
  refine ⟨z1, ⟨z2, js_2_so (hs2.tr z3) (by decide) (by decide) (by decide) (by decide) (by decide) hJ.2⟩, hs2.tr z3, _, List.mem_cons_self, ρ, az_ext.rf, jg_mk z1 (by decide) (by decide) ⟨hI, hI1, trivial⟩ trivial trivial ⟨⟨by decide, (by show (0 : Int) ≤ 0 + 7; decide), rfl, ?_⟩, ⟨by decide, (by show (0 : Int) ≤ 0 + 8; decide), rfl, ?_⟩, trivial⟩, trivial⟩
  · show ja h1 60 7 = 1 * ρ 0 + 0 + 0
    omega
  · show ja h1 60 8 = 1 * ρ 1 + 0 + 0
    omega
def cp_d0 : az_Ct := (144, ([((-2147483648), 2147483647), ((-2147483648), 2147483647), (4, 60), (2, 24)], [], [], [(1, ([], 0), ([(2, 1)], 0)), (1, ([], 1), ([(3, 1)], 0))]), [.inr (.inr (.inl 0)), .inl ([(0, 1)], 0), .inl ([(1, 1)], 0)], [(([((-2147483648), 2147483647), ((-2147483648), 2147483647), (4, 60), (2, 24)], [([(0, 1)], (-4)), ([(0, (-1))], 60), ([(1, 1)], (-2)), ([(1, (-1))], 24)], [], [(1, ([], 0), ([(0, 1)], 0)), (1, ([], 1), ([(1, 1)], 0))]), some (.inl ([], 1))),
  (([((-2147483648), 2147483647), ((-2147483648), 2147483647), (4, 60), (2, 24)], [([(0, (-1))], 3)], [], [(1, ([], 0), ([(2, 1)], 0)), (1, ([], 1), ([(3, 1)], 0))]), some (.inl ([], 0))),
  (([((-2147483648), 2147483647), ((-2147483648), 2147483647), (4, 60), (2, 24)], [([(0, 1)], (-61))], [], [(1, ([], 0), ([(2, 1)], 0)), (1, ([], 1), ([(3, 1)], 0))]), some (.inl ([], 0))),
  (([((-2147483648), 2147483647), ((-2147483648), 2147483647), (4, 60), (2, 24)], [([(1, (-1))], 1)], [], [(1, ([], 0), ([(2, 1)], 0)), (1, ([], 1), ([(3, 1)], 0))]), some (.inl ([], 0))),
  (([((-2147483648), 2147483647), ((-2147483648), 2147483647), (4, 60), (2, 24)], [([(1, 1)], (-25))], [], [(1, ([], 0), ([(2, 1)], 0)), (1, ([], 1), ([(3, 1)], 0))]), some (.inl ([], 0)))], [(1, 0), (1, 1), (17, 1000000), (49, 5), (54, 5)], 1)
theorem ck_cp_d0 : az_chk az_tb [ct_X3_forget_0] cp_d0 [] az_inl az_spl [(1, 0), (1, 1), (49, 5), (54, 5)] 60 = true := by decide +kernel
theorem ok_cp_d0 {P : si_P} (hxa : P.2.1 < P.1) : az_ok js_J P az_tb cp_d0 ∧ az_wfct cp_d0 = true := az_chk_ok az_tb_ok hxa (az_dj_ok js_fr (by decide)) (az_fc (ok_X3_forget_0 hxa js_fr) az_fn) ck_cp_d0
def cp_d1 : az_Ct := (218, ([((-2147483648), 2147483647), ((-2147483648), 2147483647), (4, 60), (2, 24)], [], [], [(60, ([], 7), ([(2, 1)], 0)), (60, ([], 8), ([(3, 1)], 0))]), [.inr (.inr (.inl 60)), .inl ([(0, 1)], 0), .inl ([(1, 1)], 0)], [(([((-2147483648), 2147483647), ((-2147483648), 2147483647), (4, 60), (2, 24)], [([(0, 1)], (-4)), ([(0, (-1))], 60), ([(1, 1)], (-2)), ([(1, (-1))], 24)], [], [(60, ([], 7), ([(0, 1)], 0)), (60, ([], 8), ([(1, 1)], 0))]), some (.inl ([], 1))),
  (([((-2147483648), 2147483647), ((-2147483648), 2147483647), (4, 60), (2, 24)], [([(0, (-1))], 3)], [], [(60, ([], 7), ([(2, 1)], 0)), (60, ([], 8), ([(3, 1)], 0))]), some (.inl ([], 0))),
  (([((-2147483648), 2147483647), ((-2147483648), 2147483647), (4, 60), (2, 24)], [([(0, 1)], (-61))], [], [(60, ([], 7), ([(2, 1)], 0)), (60, ([], 8), ([(3, 1)], 0))]), some (.inl ([], 0))),
  (([((-2147483648), 2147483647), ((-2147483648), 2147483647), (4, 60), (2, 24)], [([(1, (-1))], 1)], [], [(60, ([], 7), ([(2, 1)], 0)), (60, ([], 8), ([(3, 1)], 0))]), some (.inl ([], 0))),
  (([((-2147483648), 2147483647), ((-2147483648), 2147483647), (4, 60), (2, 24)], [([(1, 1)], (-25))], [], [(60, ([], 7), ([(2, 1)], 0)), (60, ([], 8), ([(3, 1)], 0))]), some (.inl ([], 0)))], jm_ld, 9)
theorem ck_cp_d1 : az_chk az_tb [cp_ld] cp_d1 [] az_inl az_spl [] 60 = true := by decide +kernel
theorem ok_cp_d1 {P : si_P} (hxa : P.2.1 < P.1) : az_ok js_J P az_tb cp_d1 ∧ az_wfct cp_d1 = true := az_chk_ok az_tb_ok hxa (az_dj_ok js_fr (by decide)) (az_fc (ok_cp_ld hxa) az_fn) ck_cp_d1
/-- a dial that may be made -/
def jdial (a b : Int) : Prop := (4 ≤ a ∧ a ≤ 60) ∧ (2 ≤ b ∧ b ≤ 24)
theorem jF32 (x : Int32) : -2147483648 ≤ x.toInt ∧ x.toInt ≤ 2147483647 := ⟨Int32.le_toInt x, Int32.toInt_le x⟩
theorem dial0_ok {P : si_P} (hxa : P.2.1 < P.1) {d : Nat} (hd : 1 ≤ d) {h : si_H} (a b : Int32) (hH : az_HI P az_tb h) (hJ : js_J h) : az_X P d 144 0 (lv_args 0 [.ref (P.1 + 0), .int a, .int b]) [] h (fun rv h1 => ∃ w : Int32, rv = some (.int w) ∧ az_HI P az_tb h1 ∧ js_J h1 ∧ az_same_out cp_d0.2.2.2.2.1 h h1 ∧ ((jdial a.toInt b.toInt ∧ w = 1 ∧ ja h1 1 0 = a.toInt ∧ ja h1 1 1 = b.toInt) ∨ (¬ jdial a.toInt b.toInt ∧ w = 0 ∧ ja h1 1 0 = ja h 1 0 ∧ ja h1 1 1 = ja h 1 1))) := by
  have b0 := ja_bd hH (i := 1) (k := 0) rfl
  have b1 := ja_bd hH (i := 1) (k := 1) rfl
  refine ((ok_cp_d0 hxa).1 d hd (jρ [a.toInt, b.toInt, ja h 1 0, ja h 1 1]) h [.ref (P.1 + 0), .int a, .int b] hH hJ (jg_mk hH (by decide) (by decide) ⟨jF32 a, jF32 b, b0, b1, trivial⟩ trivial trivial ⟨⟨by decide, (by show (0 : Int) ≤ 0 + 0; decide), rfl, ?_⟩, ⟨by decide, (by show (0 : Int) ≤ 0 + 1; decide), rfl, ?_⟩, trivial⟩) ⟨trivial, rfl, az_wfb_ok (by decide), ?_, az_wfb_ok (by decide), ?_, trivial⟩).mono ?_
  · show ja h 1 0 = 1 * ja h 1 0 + 0 + 0
    omega
  · show ja h 1 1 = 1 * ja h 1 1 + 0 + 0
    omega
  · show a.toInt = 1 * a.toInt + 0 + 0
    omega
  · show b.toInt = 1 * b.toInt + 0 + 0
    omega
  rintro rv h1 ⟨c1, c2, c3, q, q1, σ, s1, s2, s3⟩
  have e0 : σ 0 = a.toInt := s1 0 (by decide)
  have e1 : σ 1 = b.toInt := s1 1 (by decide)
  have e2 : σ 2 = ja h 1 0 := s1 2 (by decide)
  have e3 : σ 3 = ja h 1 1 := s1 3 (by decide)
  rcases List.mem_cons.mp q1 with rfl | q1
  · obtain ⟨w, rfl, hw⟩ := jO_int s3
    have hw : w.toInt = 1 := hw
    have f := jgF_un s2.2.1
    have f0 : 0 ≤ (1 * σ 0 + 0) + -4 := f.1
    have f1 : 0 ≤ (-1 * σ 0 + 0) + 60 := f.2.1
    have f2 : 0 ≤ (1 * σ 1 + 0) + -2 := f.2.2.1
    have f3 : 0 ≤ (-1 * σ 1 + 0) + 24 := f.2.2.2.1
    have t := jgT_un s2.2.2.2
    have t0 : ja h1 1 0 = (1 * σ 0 + 0) + 0 := t.1 (by decide)
    have t1 : ja h1 1 1 = (1 * σ 1 + 0) + 0 := t.2.1 (by decide)
    exact ⟨w, rfl, c1, c2, c3, Or.inl ⟨⟨by omega, by omega⟩, Int32.toInt_inj.mp (by rw [hw]; decide), by omega, by omega⟩⟩
  rcases List.mem_cons.mp q1 with rfl | q1
  · obtain ⟨w, rfl, hw⟩ := jO_int s3
    have hw : w.toInt = 0 := hw
    have f := jgF_un s2.2.1
    have f0 : 0 ≤ (-1 * σ 0 + 0) + 3 := f.1
    have t := jgT_un s2.2.2.2
    have t0 : ja h1 1 0 = (1 * σ 2 + 0) + 0 := t.1 (by decide)
    have t1 : ja h1 1 1 = (1 * σ 3 + 0) + 0 := t.2.1 (by decide)
    exact ⟨w, rfl, c1, c2, c3, Or.inr ⟨(by rintro ⟨x1, x2⟩; omega), Int32.toInt_inj.mp (by rw [hw]; decide), by omega, by omega⟩⟩
  rcases List.mem_cons.mp q1 with rfl | q1
  · obtain ⟨w, rfl, hw⟩ := jO_int s3
    have hw : w.toInt = 0 := hw
    have f := jgF_un s2.2.1
    have f0 : 0 ≤ (1 * σ 0 + 0) + -61 := f.1
    have t := jgT_un s2.2.2.2
    have t0 : ja h1 1 0 = (1 * σ 2 + 0) + 0 := t.1 (by decide)
    have t1 : ja h1 1 1 = (1 * σ 3 + 0) + 0 := t.2.1 (by decide)
    exact ⟨w, rfl, c1, c2, c3, Or.inr ⟨(by rintro ⟨x1, x2⟩; omega), Int32.toInt_inj.mp (by rw [hw]; decide), by omega, by omega⟩⟩
  rcases List.mem_cons.mp q1 with rfl | q1
  · obtain ⟨w, rfl, hw⟩ := jO_int s3
    have hw : w.toInt = 0 := hw
    have f := jgF_un s2.2.1
    have f0 : 0 ≤ (-1 * σ 1 + 0) + 1 := f.1
    have t := jgT_un s2.2.2.2
    have t0 : ja h1 1 0 = (1 * σ 2 + 0) + 0 := t.1 (by decide)
    have t1 : ja h1 1 1 = (1 * σ 3 + 0) + 0 := t.2.1 (by decide)
    exact ⟨w, rfl, c1, c2, c3, Or.inr ⟨(by rintro ⟨x1, x2⟩; omega), Int32.toInt_inj.mp (by rw [hw]; decide), by omega, by omega⟩⟩
  · rcases List.mem_singleton.mp q1 with rfl
    obtain ⟨w, rfl, hw⟩ := jO_int s3
    have hw : w.toInt = 0 := hw
    have f := jgF_un s2.2.1
    have f0 : 0 ≤ (1 * σ 1 + 0) + -25 := f.1
    have t := jgT_un s2.2.2.2
    have t0 : ja h1 1 0 = (1 * σ 2 + 0) + 0 := t.1 (by decide)
    have t1 : ja h1 1 1 = (1 * σ 3 + 0) + 0 := t.2.1 (by decide)
    exact ⟨w, rfl, c1, c2, c3, Or.inr ⟨(by rintro ⟨x1, x2⟩; omega), Int32.toInt_inj.mp (by rw [hw]; decide), by omega, by omega⟩⟩
theorem dial1_ok {P : si_P} (hxa : P.2.1 < P.1) {d : Nat} (hd : 9 ≤ d) {h : si_H} (a b : Int32) (hH : az_HI P az_tb h) (hJ : js_J h) : az_X P d 218 0 (lv_args 0 [.ref (P.1 + 60), .int a, .int b]) [] h (fun rv h1 => ∃ w : Int32, rv = some (.int w) ∧ az_HI P az_tb h1 ∧ js_J h1 ∧ az_same_out cp_d1.2.2.2.2.1 h h1 ∧ ((jdial a.toInt b.toInt ∧ w = 1 ∧ ja h1 60 7 = a.toInt ∧ ja h1 60 8 = b.toInt) ∨ (¬ jdial a.toInt b.toInt ∧ w = 0 ∧ ja h1 60 7 = ja h 60 7 ∧ ja h1 60 8 = ja h 60 8))) := by
  have b0 := ja_bd hH (i := 60) (k := 7) rfl
  have b1 := ja_bd hH (i := 60) (k := 8) rfl
  refine ((ok_cp_d1 hxa).1 d hd (jρ [a.toInt, b.toInt, ja h 60 7, ja h 60 8]) h [.ref (P.1 + 60), .int a, .int b] hH hJ (jg_mk hH (by decide) (by decide) ⟨jF32 a, jF32 b, b0, b1, trivial⟩ trivial trivial ⟨⟨by decide, (by show (0 : Int) ≤ 0 + 7; decide), rfl, ?_⟩, ⟨by decide, (by show (0 : Int) ≤ 0 + 8; decide), rfl, ?_⟩, trivial⟩) ⟨trivial, rfl, az_wfb_ok (by decide), ?_, az_wfb_ok (by decide), ?_, trivial⟩).mono ?_
  · show ja h 60 7 = 1 * ja h 60 7 + 0 + 0
    omega
  · show ja h 60 8 = 1 * ja h 60 8 + 0 + 0
    omega
  · show a.toInt = 1 * a.toInt + 0 + 0
    omega
  · show b.toInt = 1 * b.toInt + 0 + 0
    omega
  rintro rv h1 ⟨c1, c2, c3, q, q1, σ, s1, s2, s3⟩
  have e0 : σ 0 = a.toInt := s1 0 (by decide)
  have e1 : σ 1 = b.toInt := s1 1 (by decide)
  have e2 : σ 2 = ja h 60 7 := s1 2 (by decide)
  have e3 : σ 3 = ja h 60 8 := s1 3 (by decide)
  rcases List.mem_cons.mp q1 with rfl | q1
  · obtain ⟨w, rfl, hw⟩ := jO_int s3
    have hw : w.toInt = 1 := hw
    have f := jgF_un s2.2.1
    have f0 : 0 ≤ (1 * σ 0 + 0) + -4 := f.1
    have f1 : 0 ≤ (-1 * σ 0 + 0) + 60 := f.2.1
    have f2 : 0 ≤ (1 * σ 1 + 0) + -2 := f.2.2.1
    have f3 : 0 ≤ (-1 * σ 1 + 0) + 24 := f.2.2.2.1
    have t := jgT_un s2.2.2.2
    have t0 : ja h1 60 7 = (1 * σ 0 + 0) + 0 := t.1 (by decide)
    have t1 : ja h1 60 8 = (1 * σ 1 + 0) + 0 := t.2.1 (by decide)
    exact ⟨w, rfl, c1, c2, c3, Or.inl ⟨⟨by omega, by omega⟩, Int32.toInt_inj.mp (by rw [hw]; decide), by omega, by omega⟩⟩
  rcases List.mem_cons.mp q1 with rfl | q1
  · obtain ⟨w, rfl, hw⟩ := jO_int s3
    have hw : w.toInt = 0 := hw
    have f := jgF_un s2.2.1
    have f0 : 0 ≤ (-1 * σ 0 + 0) + 3 := f.1
    have t := jgT_un s2.2.2.2
    have t0 : ja h1 60 7 = (1 * σ 2 + 0) + 0 := t.1 (by decide)
    have t1 : ja h1 60 8 = (1 * σ 3 + 0) + 0 := t.2.1 (by decide)
    exact ⟨w, rfl, c1, c2, c3, Or.inr ⟨(by rintro ⟨x1, x2⟩; omega), Int32.toInt_inj.mp (by rw [hw]; decide), by omega, by omega⟩⟩
  rcases List.mem_cons.mp q1 with rfl | q1
  · obtain ⟨w, rfl, hw⟩ := jO_int s3
    have hw : w.toInt = 0 := hw
    have f := jgF_un s2.2.1
    have f0 : 0 ≤ (1 * σ 0 + 0) + -61 := f.1
    have t := jgT_un s2.2.2.2
    have t0 : ja h1 60 7 = (1 * σ 2 + 0) + 0 := t.1 (by decide)
    have t1 : ja h1 60 8 = (1 * σ 3 + 0) + 0 := t.2.1 (by decide)
    exact ⟨w, rfl, c1, c2, c3, Or.inr ⟨(by rintro ⟨x1, x2⟩; omega), Int32.toInt_inj.mp (by rw [hw]; decide), by omega, by omega⟩⟩
  rcases List.mem_cons.mp q1 with rfl | q1
  · obtain ⟨w, rfl, hw⟩ := jO_int s3
    have hw : w.toInt = 0 := hw
    have f := jgF_un s2.2.1
    have f0 : 0 ≤ (-1 * σ 1 + 0) + 1 := f.1
    have t := jgT_un s2.2.2.2
    have t0 : ja h1 60 7 = (1 * σ 2 + 0) + 0 := t.1 (by decide)
    have t1 : ja h1 60 8 = (1 * σ 3 + 0) + 0 := t.2.1 (by decide)
    exact ⟨w, rfl, c1, c2, c3, Or.inr ⟨(by rintro ⟨x1, x2⟩; omega), Int32.toInt_inj.mp (by rw [hw]; decide), by omega, by omega⟩⟩
  · rcases List.mem_singleton.mp q1 with rfl
    obtain ⟨w, rfl, hw⟩ := jO_int s3
    have hw : w.toInt = 0 := hw
    have f := jgF_un s2.2.1
    have f0 : 0 ≤ (1 * σ 1 + 0) + -25 := f.1
    have t := jgT_un s2.2.2.2
    have t0 : ja h1 60 7 = (1 * σ 2 + 0) + 0 := t.1 (by decide)
    have t1 : ja h1 60 8 = (1 * σ 3 + 0) + 0 := t.2.1 (by decide)
    exact ⟨w, rfl, c1, c2, c3, Or.inr ⟨(by rintro ⟨x1, x2⟩; omega), Int32.toInt_inj.mp (by rw [hw]; decide), by omega, by omega⟩⟩
