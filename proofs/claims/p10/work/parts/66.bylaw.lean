/-! BY HAND, 16: by the law -/
section ByLaw
variable {P : si_P} {d : Nat}
theorem js_bl {h h' : si_H} (hs : az_same_out jm_bl h h') (s : js_J h) : js_J h' := ⟨js_1_so hs (by decide) (by decide) (by decide) (by decide) s.1, js_2_so hs (by decide) (by decide) (by decide) (by decide) (by decide) s.2⟩
def blQ (P : si_P) (g : Int) (h : si_H) (rv : Option Value) (h' : si_H) : Prop := az_HI P az_tb h' ∧ az_same_out jm_bl h h' ∧ ∃ z : Int, jV rv z ∧ 0 ≤ z ∧ z ≤ g
theorem byLaw_lp (hxa : P.2.1 < P.1) (hd : 4 ≤ d) {h0 : si_H} {a g : Int} (ha : -2147483648 ≤ a ∧ a ≤ 2147483647) (hg : 0 ≤ g ∧ g ≤ 999) {y : Nat} (hy : y ≤ 16) (ty : ja h0 60 25 = y) (s : js_J h0) : ∀ (n q : Nat) (h : si_H) (ls : si_L), q + n = y → az_HI P az_tb h → az_same_out jm_bl h0 h → jR P ls 0 60 → jI ls 1 a → jI ls 2 g → jI ls 3 q → az_X P (d + 1) 264 2 ls [] h (blQ P g h0) := by
  intro n
  induction n with
  | zero =>
    intro q h ls hq hH hs l0 l1 l2 l3
    apply sx_bl4 hxa (by omega) hH (a := a) (g := g) (q := q) (y := y) ha hg (by omega) (by omega) (by omega) ((jso hs rfl).trans ty) l0 l1 l2 l3
    intro τ h2 rv2 e0 e1 e2 e3 hH2 hs2 fr2 iv2 fs2 nn2 t0 hv2
    exact ⟨hH2, hs.tr hs2, 0, hv2, by omega, by omega⟩
  | succ n ih =>
    intro q h ls hq hH hs l0 l1 l2 l3
    obtain ⟨f, m, t, r1, r2, r3, r4, r5, r6, r7, r8⟩ := (js_bl hs s).2 q (by rw [jso hs rfl, ty]; omega)
    apply sx_bl1 hxa (d := d) (by omega) hH (a := a) (g := g) (q := q) (y := y) (f := f) (m := m) (t := t) ha hg (by omega) (by omega) (by omega) (by omega) (by omega) (by omega) ((jso hs rfl).trans ty) r1 (by omega) r2 (by omega) r3 (by omega) l0 l1 l2 l3
    · intro τ h2 ls2 e0 e1 e2 e3 e4 e5 e6 hH2 hs2 fr2 iv2 fs2 nn2 t0 t1 t2 t3 t4 m3 m0 m1 m2
      exact ih (q + 1) h2 ls2 (by omega) hH2 (hs.tr hs2) m0 (m1.cg (by omega)) (m2.cg (by omega)) (m3.cg (by omega))
    · intro τ h2 ls2 as2 e0 e1 e2 e3 e4 e5 e6 hH2 hs2 fr2 iv2 fs2 nn2 t0 t1 t2 t3 t4 m0 m1 m2 m3 o0 o1 o2
      refine (reckonsTo_ok hxa hd (f := m) (t := t) r5 r6 (jsg_cg r8 r5 (fun k _ => fr2 78 k (by omega))) hH2 o0 (o1.cg (by omega)) (o2.cg (by omega))).mono ?_
      rintro rv3 h3 ⟨z1, z2, z, z3, z4, z5⟩
      have hs3 := (hs.tr hs2).tr z2
      obtain ⟨f', m', t', r1', r2', r3', r4', r5', r6', r7', r8'⟩ := (js_bl hs3 s).2 q (by rw [jso hs3 rfl, ty]; omega)
      apply sx_bl2 hxa (d := d) (by omega) z1 (a := a) (g := g) (q := q) (y := y) (f := f') (m := m') (t := t') (r := z) ha hg (by omega) (by omega) (by omega) (by omega) (by omega) ⟨z4, z5⟩ r1' (by omega) r2' (by omega) r3' (by omega) m0 (m1.cg (by omega)) (m2.cg (by omega)) (m3.cg (by omega)) z3
      · intro τ4 h4 ls4 as4 e0 e1 e2 e3 e4 e5 e6 e7 hH4 hs4 fr4 iv4 fs4 nn4 t0 t1 t2 u0 u1 u2 u3 x0 x1 x2
        refine (reckonsTo_ok hxa hd (f := f') (t := m') r4' (by omega) (jsg_cg r7' r4' (fun k _ => fr4 78 k (by omega))) hH4 x0 (x1.cg (by omega)) (x2.cg (by omega))).mono ?_
        rintro rv5 h5 ⟨y1, y2, w, y3, y4, y5⟩
        have hs5 := (hs3.tr hs4).tr y2
        apply sx_bl3 hxa (by omega) y1 (a := a) (g := g) (r := w) ha hg ⟨y4, y5⟩ u0 (u1.cg (by omega)) (u2.cg (by omega)) y3
        all_goals
          intro τ6 h6 rv6 e0 e1 e2 hH6 hs6 fr6 iv6 fs6 nn6 hv6
          exact ⟨hH6, hs5.tr hs6, _, hv6, by omega, by omega⟩
      · intro τ4 h4 ls4 e0 e1 e2 e3 e4 e5 e6 e7 hH4 hs4 fr4 iv4 fs4 nn4 t0 t1 t2 u3 u0 u1 u2
        exact ih (q + 1) h4 ls4 (by omega) hH4 (hs3.tr hs4) u0 (u1.cg (by omega)) (u2.cg (by omega)) (u3.cg (by omega))
theorem holdsAny_lp (hxa : P.2.1 < P.1) (hd : 4 ≤ d) {h0 : si_H} {a : Int} (ha : -2147483648 ≤ a ∧ a ≤ 2147483647) {y : Nat} (hy : y ≤ 16) (ty : ja h0 60 25 = y) (s : js_J h0) : ∀ (n q : Nat) (h : si_H) (ls : si_L), q + n = y → az_HI P az_tb h → az_same_out jm_bl h0 h → jR P ls 0 60 → jI ls 1 a → jI ls 2 q → az_X P (d + 1) 265 2 ls [] h (blQ P 1 h0) := by
  intro n
  induction n with
  | zero =>
    intro q h ls hq hH hs l0 l1 l2
    apply sx_ha3 hxa (by omega) hH (a := a) (q := q) (y := y) ha (by omega) (by omega) (by omega) ((jso hs rfl).trans ty) l0 l1 l2
    intro τ h2 rv2 e0 e1 e2 hH2 hs2 fr2 iv2 fs2 nn2 t0 hv2
    exact ⟨hH2, hs.tr hs2, 0, hv2, by omega, by omega⟩
  | succ n ih =>
    intro q h ls hq hH hs l0 l1 l2
    obtain ⟨f, m, t, r1, r2, r3, r4, r5, r6, r7, r8⟩ := (js_bl hs s).2 q (by rw [jso hs rfl, ty]; omega)
    apply sx_ha1 hxa (d := d) (by omega) hH (a := a) (q := q) (y := y) (f := f) (m := m) (t := t) ha (by omega) (by omega) (by omega) (by omega) (by omega) (by omega) ((jso hs rfl).trans ty) r1 (by omega) r2 (by omega) r3 (by omega) l0 l1 l2
    · intro τ h2 ls2 e0 e1 e2 e3 e4 e5 hH2 hs2 fr2 iv2 fs2 nn2 t0 t1 t2 t3 t4 m2 m0 m1
      exact ih (q + 1) h2 ls2 (by omega) hH2 (hs.tr hs2) m0 (m1.cg (by omega)) (m2.cg (by omega))
    · intro τ h2 ls2 as2 e0 e1 e2 e3 e4 e5 hH2 hs2 fr2 iv2 fs2 nn2 t0 t1 t2 t3 t4 m0 m1 m2 o0 o1 o2
      refine (reckonsTo_ok hxa hd (f := m) (t := t) r5 r6 (jsg_cg r8 r5 (fun k _ => fr2 78 k (by omega))) hH2 o0 (o1.cg (by omega)) (o2.cg (by omega))).mono ?_
      rintro rv3 h3 ⟨z1, z2, z, z3, z4, z5⟩
      have hs3 := (hs.tr hs2).tr z2
      apply sx_ha2 hxa (by omega) z1 (a := a) (q := q) (y := y) (r := z) ha (by omega) (by omega) ⟨z4, z5⟩ m0 (m1.cg (by omega)) (m2.cg (by omega)) z3
      · intro τ4 h4 ls4 e0 e1 e2 e3 hH4 hs4 fr4 iv4 fs4 nn4 u2 u0 u1
        exact ih (q + 1) h4 ls4 (by omega) hH4 (hs3.tr hs4) u0 (u1.cg (by omega)) (u2.cg (by omega))
      · intro τ4 h4 rv4 e0 e1 e2 e3 hH4 hs4 fr4 iv4 fs4 nn4 hv4
        exact ⟨hH4, hs3.tr hs4, 1, hv4, by omega, by omega⟩
end ByLaw
theorem ok_X11_byLaw_510 {P : si_P} (hxa : P.2.1 < P.1) : az_ok js_J P az_tb ct_X11_byLaw_510 ∧ az_wfct ct_X11_byLaw_510 = true := by
  refine ⟨?_, by decide⟩
  intro d hd ρ h as hH hJ hg hS
  have hL := az_args_ok 0 hS
  have hI : -2147483648 ≤ ρ 0 ∧ ρ 0 ≤ 2147483647 := hg.1 0 _ rfl
  have hI1 : 0 ≤ ρ 1 ∧ ρ 1 ≤ 999 := hg.1 1 _ rfl
  obtain ⟨d', rfl⟩ : ∃ d', d = d' + 1 := ⟨d - 1, by have : 8 ≤ d := hd; omega⟩
  have hd' : 8 ≤ d' + 1 := hd
  have hy := ja_bd hH (i := 60) (k := 25) rfl
  have hy1 : 0 ≤ ja h 60 25 := hy.1
  have hy2 : ja h 60 25 ≤ 16 := hy.2
  obtain ⟨y, ty⟩ : ∃ y : Nat, ja h 60 25 = y := ⟨(ja h 60 25).toNat, by omega⟩
  apply sx_bl0 hxa (by omega) hH (a := ρ 0) (g := ρ 1) hI hI1 (jR.of (k := 0) (c := 60) hL rfl) ((jI.of (k := 1) (a := ([(0, 1)], 0)) hL rfl).cg (by show 1 * ρ 0 + 0 + 0 = ρ 0; omega)) ((jI.of (k := 2) (a := ([(1, 1)], 0)) hL rfl).cg (by show 1 * ρ 1 + 0 + 0 = ρ 1; omega))
  intro τ h2 ls2 e0 e1 hH2 hs2 fr2 iv2 fs2 nn2 m3 m0 m1 m2
  refine (byLaw_lp hxa (by omega) (h0 := h2) hI hI1 (y := y) (by omega) ((fr2 _ _ (by omega)).trans ty) (js_bl hs2 hJ) y 0 h2 ls2 (by omega) hH2 az_same_out.rf m0 (m1.cg (by omega)) (m2.cg (by omega)) m3).mono ?_
  rintro rv h1 ⟨z1, z2, z, z4, z5, z6⟩
  exact ⟨z1, js_bl (hs2.tr z2) hJ, hs2.tr z2, _, List.mem_cons_self, jct_int hg z4 z5 (by omega)⟩
theorem ok_X11_holdsAny_511 {P : si_P} (hxa : P.2.1 < P.1) : az_ok js_J P az_tb ct_X11_holdsAny_511 ∧ az_wfct ct_X11_holdsAny_511 = true := by
  refine ⟨?_, by decide⟩
  intro d hd ρ h as hH hJ hg hS
  have hL := az_args_ok 0 hS
  have hI : -2147483648 ≤ ρ 0 ∧ ρ 0 ≤ 2147483647 := hg.1 0 _ rfl
  obtain ⟨d', rfl⟩ : ∃ d', d = d' + 1 := ⟨d - 1, by have : 8 ≤ d := hd; omega⟩
  have hd' : 8 ≤ d' + 1 := hd
  have hy := ja_bd hH (i := 60) (k := 25) rfl
  have hy1 : 0 ≤ ja h 60 25 := hy.1
  have hy2 : ja h 60 25 ≤ 16 := hy.2
  obtain ⟨y, ty⟩ : ∃ y : Nat, ja h 60 25 = y := ⟨(ja h 60 25).toNat, by omega⟩
  apply sx_ha0 hxa (by omega) hH (a := ρ 0) hI (jR.of (k := 0) (c := 60) hL rfl) ((jI.of (k := 1) (a := ([(0, 1)], 0)) hL rfl).cg (by show 1 * ρ 0 + 0 + 0 = ρ 0; omega))
  intro τ h2 ls2 e0 hH2 hs2 fr2 iv2 fs2 nn2 m3 m0 m1
  refine (holdsAny_lp hxa (by omega) (h0 := h2) hI (y := y) (by omega) ((fr2 _ _ (by omega)).trans ty) (js_bl hs2 hJ) y 0 h2 ls2 (by omega) hH2 az_same_out.rf m0 (m1.cg (by omega)) m3).mono ?_
  rintro rv h1 ⟨z1, z2, z, z4, z5, z6⟩
  exact ⟨z1, js_bl (hs2.tr z2) hJ, hs2.tr z2, _, List.mem_cons_self, jct_int hg z4 z5 z6⟩
