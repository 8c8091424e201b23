set_option maxRecDepth 100000
theorem thas_ok {P : si_P} {d : Nat} {h : si_H} (hH : az_HI P az_tb h) (i : Int32) : az_X P d 138 0 (lv_args 0 [.ref (P.1 + 12), .int i]) [] h (fun rv h' => h' = h ∧ ∃ z : Int32, rv = some (.int z) ∧ ((z.toInt = 1 ∧ i.toInt ≤ ja h 12 1) ∨ (z.toInt = 0 ∧ ja h 12 1 < i.toInt))) := by
  have hl : jM [(0, .ref (P.1 + 12)), (1, .int i)] (lv_args 0 [.ref (P.1 + 12), .int i]) := jM_args [0, 1] rfl (by decide)
  generalize lv_args 0 [.ref (P.1 + 12), .int i] = ls at hl
  have k0 : (0 : Int32).toInt = 0 := by decide
  have k1 : (1 : Int32).toInt = 1 := by decide
  refine jm_iload_n (x := i) rfl rfl (jM_at hl 1 rfl) ?_
  refine jm_aload_n (x := P.1 + 12) rfl rfl (jM_at hl 0 rfl) ?_
  refine jn_gf (i := 12) (k := 1) rfl rfl hH (by decide) (hH.2 12 _ rfl).1 rfl rfl (fun z2 (ez2 : z2.toInt = ja h 12 1) (bz2 : 0 ≤ z2.toInt ∧ z2.toInt ≤ 260) => ?_)
  refine jx_ic (t := 12) rfl rfl rfl (fun hc5 => ?_) (fun hc5 => ?_)
  · have g5 := jc2_gt_t hc5
    refine az_X_step (pc' := 13) (ls' := ls) (st' := [.int 0]) (h' := h) rfl rfl rfl ?_
    refine jx_retz rfl rfl rfl (by decide) ?_
    exact ⟨rfl, 0, rfl, by omega⟩
  · have g5 := jc2_gt_f hc5
    refine az_X_step (pc' := 9) (ls' := ls) (st' := [.int 1]) (h' := h) rfl rfl rfl ?_
    refine az_X_step (pc' := 13) (ls' := ls) (st' := [.int 1]) (h' := h) rfl rfl rfl ?_
    refine jx_retz rfl rfl rfl (by decide) ?_
    exact ⟨rfl, 1, rfl, by omega⟩
theorem tempty_ok {P : si_P} {d : Nat} {h : si_H} (hH : az_HI P az_tb h) : az_X P d 142 0 (lv_args 0 [.ref (P.1 + 12)]) [] h (fun rv h' => rv = none ∧ az_HI P az_tb h' ∧ az_same_out [(12, 1)] h h' ∧ ja h' 12 1 = 0) := by
  have hl : jM [(0, .ref (P.1 + 12))] (lv_args 0 [.ref (P.1 + 12)]) := jM_args [0] rfl (by decide)
  generalize lv_args 0 [.ref (P.1 + 12)] = ls at hl
  have k0 : (0 : Int32).toInt = 0 := by decide
  refine jm_aload_n (x := P.1 + 12) rfl rfl (jM_at hl 0 rfl) ?_
  refine az_X_step (pc' := 2) (ls' := ls) (st' := [.int 0, .ref (P.1 + 12)]) (h' := h) rfl rfl rfl ?_
  refine jn_pf (i := 12) (k := 1) (x := 0) rfl rfl hH (by decide) rfl (hH.2 12 _ rfl).1 rfl rfl (by decide) (by decide) (by show 0 ≤ _; omega) (by show _ ≤ 260; omega) (fun h2 hH2 hs2 (t2 : ja h2 12 1 = (0 : Int32).toInt) => ?_)
  replace t2 : ja h2 12 1 = 0 := t2.trans (by decide)
  refine jn_retv rfl rfl rfl ?_
  exact ⟨rfl, hH2, (hs2.sub (by decide)), t2⟩
/-! THE LINES OF CLOCKS, by the class -/
theorem fg_l {P : si_P} {d : Nat} {h0 : si_H} : ∀ (k j : Nat) (T : Int32) (h : si_H) (ls : si_L), jM [(1, .int T), (0, .ref (P.1 + 26))] ls → az_HI P az_tb h → az_same_out [(27, 1000000)] h0 h → T.toInt = j → j + k = 8 → (∀ c : Nat, c < j → ja h 27 c = 0) → az_X P d 39 2 ls [] h (fun rv h' => rv = none ∧ az_HI P az_tb h' ∧ az_same_out [(27, 1000000)] h0 h' ∧ ∀ c : Nat, c < 8 → ja h' 27 c = 0) := by
  intro k
  induction k with
  | zero =>
    intro j T h ls hl hH hs eT hj hA
    have k8 : (8 : Int32).toInt = 8 := by decide
    refine jm_iload_n (x := T) rfl rfl (jM_at hl 0 rfl) ?_
    refine az_X_step (pc' := 5) (ls' := ls) (st' := [.int 8, .int T]) (h' := h) rfl rfl rfl ?_
    refine jx_ic (t := 21) rfl rfl rfl (fun hc5 => ?_) (fun hc5 => ?_)
    · have g5 := jc2_ge_t hc5
      refine jn_retv rfl rfl rfl ?_
      exact ⟨rfl, hH, hs, fun c hc => hA c (by omega)⟩
    · have g5 := jc2_ge_f hc5
      exfalso
      omega
  | succ k ih =>
    intro j T h ls hl hH hs eT hj hA
    have k0 : (0 : Int32).toInt = 0 := by decide
    have k8 : (8 : Int32).toInt = 8 := by decide
    refine jm_iload_n (x := T) rfl rfl (jM_at hl 0 rfl) ?_
    refine az_X_step (pc' := 5) (ls' := ls) (st' := [.int 8, .int T]) (h' := h) rfl rfl rfl ?_
    refine jx_ic (t := 21) rfl rfl rfl (fun hc5 => ?_) (fun hc5 => ?_)
    · have g5 := jc2_ge_t hc5
      refine jn_retv rfl rfl rfl ?_
      exfalso
      omega
    · have g5 := jc2_ge_f hc5
      refine jm_aload_n (x := P.1 + 26) rfl rfl (jM_at hl 1 rfl) ?_
      refine jx_gf (i := 26) rfl rfl hH (by decide) (hH.2 26 _ rfl).1 rfl (jx_rf hH rfl rfl) ?_
      refine jm_iload_n (x := T) rfl rfl (jM_at hl 0 rfl) ?_
      refine az_X_step (pc' := 14) (ls' := ls) (st' := [.int 0, .int T, .ref (P.1 + 27)]) (h' := h) rfl rfl rfl ?_
      refine jn_basz (i := 27) (x := T) (v := 0) rfl rfl hH (by decide) rfl (by omega) (by show _ < ((8 : Nat) : Int); omega) (by omega) (by show 0 ≤ _; omega) (by show _ ≤ 1; omega) (fun h14 hH14 hs14 t14 u14 => ?_)
      refine jn_iinc (x := T) rfl rfl (by decide) (jM_at hl 0 rfl) hl rfl (by decide) (by omega) (by omega) (fun z15 (ez15 : z15.toInt = T.toInt + 1) ls15 (hl15 : jM [(1, .int z15), (0, .ref (P.1 + 26))] ls15) => ?_)
      refine az_X_step (pc' := 2) (ls' := ls15) (st' := []) (h' := h14) rfl rfl rfl ?_
      refine ih (j + 1) z15 h14 ls15 (jM_pick hl15 [0, 1] rfl) hH14 (hs.tr hs14) (by omega) (by omega) (fun c hc => ?_)
      by_cases e : (c : Int) = T.toInt
      · rw [e, t14]; decide
      · rw [u14 c (by omega) e]; exact hA c (by omega)
theorem fg_ok {P : si_P} {d : Nat} {h : si_H} (hH : az_HI P az_tb h) : az_X P d 39 0 (lv_args 0 [.ref (P.1 + 26)]) [] h (fun rv h' => rv = none ∧ az_HI P az_tb h' ∧ az_same_out [(27, 1000000)] h h' ∧ ∀ c : Nat, c < 8 → ja h' 27 c = 0) := by
  have hl : jM [(0, .ref (P.1 + 26))] (lv_args 0 [.ref (P.1 + 26)]) := jM_args [0] rfl (by decide)
  generalize lv_args 0 [.ref (P.1 + 26)] = ls at hl
  have k0 : (0 : Int32).toInt = 0 := by decide
  refine az_X_step (pc' := 1) (ls' := ls) (st' := [.int 0]) (h' := h) rfl rfl rfl ?_
  refine jm_istore_n (l' := [(1, .int 0), (0, .ref (P.1 + 26))]) rfl rfl (by decide) hl rfl rfl (fun ls1 hl1 => ?_)
  exact fg_l 8 0 0 h ls1 (jM_pick hl1 [0, 1] rfl) hH az_same_out.rf (by decide) (by omega) (fun c hc => absurd hc (by omega))
theorem it_ok {P : si_P} {d : Nat} {h : si_H} (hH : az_HI P az_tb h) (c : Int32) : az_X P d 46 0 (lv_args 0 [.ref (P.1 + 26), .int c]) [] h (fun rv h' => h' = h ∧ ∃ z : Int32, rv = some (.int z) ∧ (((0 ≤ c.toInt ∧ c.toInt < 8 ∧ ja h 27 c.toInt ≠ 0) ∧ z.toInt = 1) ∨ (¬ (0 ≤ c.toInt ∧ c.toInt < 8 ∧ ja h 27 c.toInt ≠ 0) ∧ z.toInt = 0))) := by
  have hl : jM [(0, .ref (P.1 + 26)), (1, .int c)] (lv_args 0 [.ref (P.1 + 26), .int c]) := jM_args [0, 1] rfl (by decide)
  generalize lv_args 0 [.ref (P.1 + 26), .int c] = ls at hl
  have k0 : (0 : Int32).toInt = 0 := by decide
  have k1 : (1 : Int32).toInt = 1 := by decide
  have k8 : (8 : Int32).toInt = 8 := by decide
  refine jm_iload_n (x := c) rfl rfl (jM_at hl 1 rfl) ?_
  refine jx_if (t := 23) rfl rfl rfl (fun hc1 => ?_) (fun hc1 => ?_)
  · have g1 := jc1_lt_t hc1
    refine az_X_step (pc' := 24) (ls' := ls) (st' := [.int 0]) (h' := h) rfl rfl rfl ?_
    refine jx_retz rfl rfl rfl (by decide) ?_
    exact ⟨rfl, 0, rfl, by omega⟩
  · have g1 := jc1_lt_f hc1
    refine jm_iload_n (x := c) rfl rfl (jM_at hl 1 rfl) ?_
    refine az_X_step (pc' := 7) (ls' := ls) (st' := [.int 8, .int c]) (h' := h) rfl rfl rfl ?_
    refine jx_ic (t := 23) rfl rfl rfl (fun hc7 => ?_) (fun hc7 => ?_)
    · have g7 := jc2_ge_t hc7
      refine az_X_step (pc' := 24) (ls' := ls) (st' := [.int 0]) (h' := h) rfl rfl rfl ?_
      refine jx_retz rfl rfl rfl (by decide) ?_
      exact ⟨rfl, 0, rfl, by omega⟩
    · have g7 := jc2_ge_f hc7
      refine jm_aload_n (x := P.1 + 26) rfl rfl (jM_at hl 0 rfl) ?_
      refine jx_gf (i := 26) rfl rfl hH (by decide) (hH.2 26 _ rfl).1 rfl (jx_rf hH rfl rfl) ?_
      refine jm_iload_n (x := c) rfl rfl (jM_at hl 1 rfl) ?_
      refine jn_balz (i := 27) (x := c) rfl rfl hH (by decide) rfl (by omega) (by show _ < ((8 : Nat) : Int); omega) (fun z15 ez15 bz15 => ?_)
      refine jx_if (t := 23) rfl rfl rfl (fun hc16 => ?_) (fun hc16 => ?_)
      · have g16 := jc1_eq_t hc16
        refine az_X_step (pc' := 24) (ls' := ls) (st' := [.int 0]) (h' := h) rfl rfl rfl ?_
        refine jx_retz rfl rfl rfl (by decide) ?_
        exact ⟨rfl, 0, rfl, by omega⟩
      · have g16 := jc1_eq_f hc16
        refine az_X_step (pc' := 20) (ls' := ls) (st' := [.int 1]) (h' := h) rfl rfl rfl ?_
        refine az_X_step (pc' := 24) (ls' := ls) (st' := [.int 1]) (h' := h) rfl rfl rfl ?_
        refine jx_retz rfl rfl rfl (by decide) ?_
        exact ⟨rfl, 1, rfl, by omega⟩
theorem rl_ok {P : si_P} (hxa : P.2.1 < P.1) {d : Nat} {h : si_H} (hH : az_HI P az_tb h) {n p : Int} {hh : Int → Int} (hn : 1 ≤ n ∧ n ≤ 240) (e1 : ja h 14 1 = n) (e2 : ja h 14 2 = p) (e3 : ja h 14 3 = 0) (hb : jBY h n hh) (hh1 : ∀ i : Int, hh i ≤ 255) (hp : p ≤ 240) (c : Int32) (hc : 0 ≤ c.toInt ∧ c.toInt < 8) : az_X P (d + 4) 45 0 (lv_args 0 [.ref (P.1 + 26), .ref (P.1 + 14), .int c]) [] h (fun rv h' => rv = none ∧ az_HI P az_tb h' ∧ az_same_out [(14, 2), (14, 3), (27, 1000000), (28, 1000000), (29, 1000000), (30, 1000000)] h h' ∧ ja h' 27 c.toInt = 1 ∧ (∀ j : Int, 0 ≤ j → j ≠ c.toInt → ja h' 27 j = ja h 27 j) ∧ ∃ f q : Int, jLI hh (ja h 1 0 * ja h 1 1) p f q ∧ ja h' 14 3 = f ∧ (f = 0 → ja h' 14 2 = q)) := by
  have bp : 0 ≤ ja h 14 2 ∧ ja h 14 2 ≤ 241 := ja_bd hH (i := 14) (k := 2) rfl
  have bF : -7000 ≤ ja h 14 3 ∧ ja h 14 3 ≤ 0 := ja_bd hH (i := 14) (k := 3) rfl
  have bm : 4 ≤ ja h 1 0 ∧ ja h 1 0 ≤ 60 := ja_bd hH (i := 1) (k := 0) rfl
  have br : 2 ≤ ja h 1 1 ∧ ja h 1 1 ≤ 24 := ja_bd hH (i := 1) (k := 1) rfl
  have hl : jM [(0, .ref (P.1 + 26)), (1, .ref (P.1 + 14)), (2, .int c)] (lv_args 0 [.ref (P.1 + 26), .ref (P.1 + 14), .int c]) := jM_args [0, 1, 2] rfl (by decide)
  generalize lv_args 0 [.ref (P.1 + 26), .ref (P.1 + 14), .int c] = ls at hl
  have k0 : (0 : Int32).toInt = 0 := by decide
  have k1 : (1 : Int32).toInt = 1 := by decide
  have k2 : (2 : Int32).toInt = 2 := by decide
  have k43 : (43 : Int32).toInt = 43 := by decide
  have k45 : (45 : Int32).toInt = 45 := by decide
  have k64 : (64 : Int32).toInt = 64 := by decide
  refine jm_aload_n (x := P.1 + 14) rfl rfl (jM_at hl 1 rfl) ?_
  refine az_X_step (pc' := 3) (ls' := ls) (st' := [.int 64, .ref (P.1 + 14)]) (h' := h) rfl rfl rfl ?_
  refine az_X_call (m' := 124) (as := [.ref (P.1 + 14), .int 64]) (rest := []) rfl rfl rfl rfl rfl ?_ ?_
  · unfold si_call
    dsimp only
    rw [if_pos ⟨rfl, rfl⟩]
    show (match si_ix P h (P.1 + 14) with | some i => _ | none => none) = _
    rw [jix hH (by decide)]
    dsimp only
    rw [(hH.2 14 _ rfl).1]
    rfl
  refine (ex_ok hxa hH hn e1 e2 e3 hb 64 (by decide)).mono ?_
  rintro rv3 h3 ⟨rfl, hH3, hs3, f3⟩
  show az_X P _ 45 6 ls [] _ _
  have x3 : (hh p = 64 ∧ ja h3 14 2 = p + 1 ∧ ja h3 14 3 = 0 ∧ p < n) ∨ (hh p ≠ 64 ∧ ja h3 14 3 = -1000 - p) := by
    rcases f3 with ⟨-, a, b, c⟩ | ⟨-, a, b⟩ | ⟨a, -⟩
    · exact Or.inl ⟨by omega, b, c, jBY_lt hb (by omega)⟩
    · exact Or.inr ⟨by omega, b⟩
    · exact absurd rfl a
  refine jm_aload_n (x := P.1 + 26) rfl rfl (jM_at hl 0 rfl) ?_
  refine jx_gf (i := 26) rfl rfl hH3 (by decide) (hH3.2 26 _ rfl).1 rfl (jx_rf hH3 rfl rfl) ?_
  refine jm_iload_n (x := c) rfl rfl (jM_at hl 2 rfl) ?_
  refine az_X_step (pc' := 12) (ls' := ls) (st' := [.int 1, .int c, .ref (P.1 + 27)]) (h' := h3) rfl rfl rfl ?_
  refine jn_basz (i := 27) (x := c) (v := 1) rfl rfl hH3 (by decide) rfl (by omega) (by show _ < ((8 : Nat) : Int); omega) (by omega) (by show 0 ≤ _; omega) (by show _ ≤ 1; omega) (fun h12 hH12 hs12 t12 u12 => ?_)
  refine jm_aload_n (x := P.1 + 26) rfl rfl (jM_at hl 0 rfl) ?_
  refine jx_gf (i := 26) rfl rfl hH12 (by decide) (hH12.2 26 _ rfl).1 rfl (jx_rf hH12 rfl rfl) ?_
  refine jm_iload_n (x := c) rfl rfl (jM_at hl 2 rfl) ?_
  refine jm_aload_n (x := P.1 + 14) rfl rfl (jM_at hl 1 rfl) ?_
  refine jm_aload_n (x := P.1 + 26) rfl rfl (jM_at hl 0 rfl) ?_
  refine jx_gf (i := 26) rfl rfl hH12 (by decide) (hH12.2 26 _ rfl).1 rfl (jx_rf hH12 rfl rfl) ?_
  refine az_X_call (m' := 128) (as := [.ref (P.1 + 14), .ref (P.1 + 1)]) (rest := [.int c, .ref (P.1 + 28)]) rfl rfl rfl rfl rfl ?_ ?_
  · unfold si_call
    dsimp only
    rw [if_pos ⟨rfl, rfl⟩]
    show (match si_ix P h12 (P.1 + 14) with | some i => _ | none => none) = _
    rw [jix hH12 (by decide)]
    dsimp only
    rw [(hH12.2 14 _ rfl).1]
    rfl
  refine (tm_ok hxa hH12 hn (((jso hs12 (by decide)).trans (jso hs3 (by decide))).trans e1) rfl rfl (jBY_so hs12 (by decide) (jBY_so hs3 (by decide) hb)) hh1 (by
    have r2 : ja h12 14 2 = ja h3 14 2 := jso hs12 (by decide)
    have r3 : ja h12 14 3 = ja h3 14 3 := jso hs12 (by decide)
    omega)).mono ?_
  rintro rv23 h23 ⟨z23, rfl, hH23, hs23, f23⟩
  show az_X P _ 45 26 ls [.int z23, .int c, .ref (P.1 + 28)] _ _
  have r0 : ja h12 1 0 = ja h 1 0 := (jso hs12 (by decide)).trans (jso hs3 (by decide))
  have r1 : ja h12 1 1 = ja h 1 1 := (jso hs12 (by decide)).trans (jso hs3 (by decide))
  have r2 : ja h12 14 2 = ja h3 14 2 := jso hs12 (by decide)
  have r3 : ja h12 14 3 = ja h3 14 3 := jso hs12 (by decide)
  have x23 : ∃ ft qt vt : Int, jTI hh (ja h 1 0 * ja h 1 1) p ft qt vt ∧ ja h23 14 3 = ft ∧ (ft = 0 → ja h23 14 2 = qt) := by
    rcases x3 with ⟨a1, a2, a3, a4⟩ | ⟨a1, a2⟩
    · rcases f23.2 with ⟨-, f, q, v, b1, b2⟩ | ⟨b0, -⟩
      · rw [r0, r1] at b2
        rw [r2, a2] at b1 b2
        rcases b2 with ⟨c1, c2, c3, c4, c5⟩ | ⟨c1, c2, c3⟩ | ⟨c1, c2⟩
        · exact ⟨0, q, v, Or.inr ⟨a1, f, b1, Or.inr (Or.inr ⟨c1, c2, rfl⟩)⟩, c5, fun _ => c4⟩
        · exact ⟨-3000 - (p + 1), q, v, Or.inr ⟨a1, f, b1, Or.inr (Or.inl ⟨c1, c2, rfl⟩)⟩, c3, fun e => absurd e (by omega)⟩
        · exact ⟨f, q, v, Or.inr ⟨a1, f, b1, Or.inl ⟨c1, rfl⟩⟩, c2, fun e => absurd e c1⟩
      · exact absurd (r3.trans a3) b0
    · rcases f23.2 with ⟨b0, -⟩ | ⟨b0, -, b2, b3⟩
      · exact absurd (r3.symm.trans b0) (by omega)
      · exact ⟨-1000 - p, 0, 0, Or.inl ⟨a1, rfl⟩, by omega, fun e => absurd e (by omega)⟩
  obtain ⟨ft, qt, vt, w1, w2, w3⟩ := x23
  have wf := jTI_f (by omega) w1
  have wq : ft = 0 → p + 1 < qt := fun e => by
    subst e
    exact (jTI_q (by omega) w1).1
  refine jn_ias (i := 28) (x := c) (v := z23) rfl rfl hH23 (by decide) rfl (by omega) (by show _ < ((8 : Nat) : Int); omega) (by show 0 ≤ _; have := f23.1; omega) (by show _ ≤ 10000; have := f23.1; omega) (fun h26 hH26 hs26 t26 u26 => ?_)
  refine jm_aload_n (x := P.1 + 26) rfl rfl (jM_at hl 0 rfl) ?_
  refine jx_gf (i := 26) rfl rfl hH26 (by decide) (hH26.2 26 _ rfl).1 rfl (jx_rf hH26 rfl rfl) ?_
  refine jm_iload_n (x := c) rfl rfl (jM_at hl 2 rfl) ?_
  refine az_X_step (pc' := 33) (ls' := ls) (st' := [.int 0, .int c, .ref (P.1 + 29)]) (h' := h26) rfl rfl rfl ?_
  refine jn_ias (i := 29) (x := c) (v := 0) rfl rfl hH26 (by decide) rfl (by omega) (by show _ < ((8 : Nat) : Int); omega) (by show (-99) ≤ _; omega) (by show _ ≤ 99; omega) (fun h33 hH33 hs33 t33 u33 => ?_)
  refine jm_aload_n (x := P.1 + 26) rfl rfl (jM_at hl 0 rfl) ?_
  refine jx_gf (i := 26) rfl rfl hH33 (by decide) (hH33.2 26 _ rfl).1 rfl (jx_rf hH33 rfl rfl) ?_
  refine jm_iload_n (x := c) rfl rfl (jM_at hl 2 rfl) ?_
  refine az_X_step (pc' := 40) (ls' := ls) (st' := [.int 0, .int c, .ref (P.1 + 30)]) (h' := h33) rfl rfl rfl ?_
  refine jn_ias (i := 30) (x := c) (v := 0) rfl rfl hH33 (by decide) rfl (by omega) (by show _ < ((8 : Nat) : Int); omega) (by show 0 ≤ _; omega) (by show _ ≤ 9999; omega) (fun h40 hH40 hs40 t40 u40 => ?_)
  have s2 : ja h40 14 2 = ja h23 14 2 := (jso hs40 (by decide)).trans ((jso hs33 (by decide)).trans (jso hs26 (by decide)))
  have s3 : ja h40 14 3 = ja h23 14 3 := (jso hs40 (by decide)).trans ((jso hs33 (by decide)).trans (jso hs26 (by decide)))
  
  refine jm_aload_n (x := P.1 + 14) rfl rfl (jM_at hl 1 rfl) ?_
  refine az_X_step (pc' := 44) (ls' := ls) (st' := [.int 43, .ref (P.1 + 14)]) (h' := h40) rfl rfl rfl ?_
  refine az_X_call (m' := 123) (as := [.ref (P.1 + 14), .int 43]) (rest := []) rfl rfl rfl rfl rfl ?_ ?_
  · unfold si_call
    dsimp only
    rw [if_pos ⟨rfl, rfl⟩]
    show (match si_ix P h40 (P.1 + 14) with | some i => _ | none => none) = _
    rw [jix hH40 (by decide)]
    dsimp only
    rw [(hH40.2 14 _ rfl).1]
    rfl
  refine (tk_ok hxa hH40 hn (((jso hs40 (by decide)).trans ((jso hs33 (by decide)).trans ((jso hs26 (by decide)).trans ((jso hs23 (by decide)).trans ((jso hs12 (by decide)).trans (jso hs3 (by decide))))))).trans e1) rfl rfl (jBY_so hs40 (by decide) (jBY_so hs33 (by decide) (jBY_so hs26 (by decide) (jBY_so hs23 (by decide) (jBY_so hs12 (by decide) (jBY_so hs3 (by decide) hb)))))) 43 (by decide)).mono ?_
  rintro rv44 h44 ⟨z44, rfl, hH44, hs44, f44⟩
  show az_X P _ 45 47 ls [.int z44] _ _
  refine jx_if (t := 64) rfl rfl rfl (fun hc47 => ?_) (fun hc47 => ?_)
  · have g47 := jc1_eq_t hc47
    refine jm_aload_n (x := P.1 + 14) rfl rfl (jM_at hl 1 rfl) ?_
    refine az_X_step (pc' := 67) (ls' := ls) (st' := [.int 45, .ref (P.1 + 14)]) (h' := h44) rfl rfl rfl ?_
    refine az_X_call (m' := 123) (as := [.ref (P.1 + 14), .int 45]) (rest := []) rfl rfl rfl rfl rfl ?_ ?_
    · unfold si_call
      dsimp only
      rw [if_pos ⟨rfl, rfl⟩]
      show (match si_ix P h44 (P.1 + 14) with | some i => _ | none => none) = _
      rw [jix hH44 (by decide)]
      dsimp only
      rw [(hH44.2 14 _ rfl).1]
      rfl
    refine (tk_ok hxa hH44 hn (((jso hs44 (by decide)).trans ((jso hs40 (by decide)).trans ((jso hs33 (by decide)).trans ((jso hs26 (by decide)).trans ((jso hs23 (by decide)).trans ((jso hs12 (by decide)).trans (jso hs3 (by decide)))))))).trans e1) rfl rfl (jBY_so hs44 (by decide) (jBY_so hs40 (by decide) (jBY_so hs33 (by decide) (jBY_so hs26 (by decide) (jBY_so hs23 (by decide) (jBY_so hs12 (by decide) (jBY_so hs3 (by decide) hb))))))) 45 (by decide)).mono ?_
    rintro rv67 h67 ⟨z67, rfl, hH67, hs67, f67⟩
    show az_X P _ 45 70 ls [.int z67] _ _
    refine jx_if (t := 85) rfl rfl rfl (fun hc70 => ?_) (fun hc70 => ?_)
    · have g70 := jc1_eq_t hc70
      refine jn_retv rfl rfl rfl ?_
      have y27 : ja h67 27 c.toInt = 1 := by rw [jso_row (i := 27) hs67 (by decide), jso_row (i := 27) hs44 (by decide), jso_row (i := 27) hs40 (by decide), jso_row (i := 27) hs33 (by decide), jso_row (i := 27) hs26 (by decide), jso_row (i := 27) hs23 (by decide), t12]; decide
      have u27 : ∀ j : Int, 0 ≤ j → j ≠ c.toInt → ja h67 27 j = ja h 27 j := fun j j0 j1 => by rw [jso_row (i := 27) hs67 (by decide), jso_row (i := 27) hs44 (by decide), jso_row (i := 27) hs40 (by decide), jso_row (i := 27) hs33 (by decide), jso_row (i := 27) hs26 (by decide), jso_row (i := 27) hs23 (by decide), u12 j j0 j1, jso_row (i := 27) hs3 (by decide)]
      have m2 : (¬ (ja h40 14 3 = 0 ∧ hh (ja h40 14 2) = 43)) ∧ ja h44 14 2 = ja h40 14 2 ∧ ja h44 14 3 = ja h40 14 3 := by
        rcases f44 with ⟨-, -, y, -⟩ | ⟨y0, -, y⟩
        · omega
        · rw [y]; exact ⟨by rw [k43] at y0; exact y0, rfl, rfl⟩
      have m3 : (¬ (ja h44 14 3 = 0 ∧ hh (ja h44 14 2) = 45)) ∧ ja h67 14 2 = ja h44 14 2 ∧ ja h67 14 3 = ja h44 14 3 := by
        rcases f67 with ⟨-, -, y, -⟩ | ⟨y0, -, y⟩
        · omega
        · rw [y]; exact ⟨by rw [k45] at y0; exact y0, rfl, rfl⟩
      refine ⟨rfl, hH67, ((hs3.sub (by decide)).tr ((hs12.sub (by decide)).tr ((hs23.sub (by decide)).tr ((hs26.sub (by decide)).tr ((hs33.sub (by decide)).tr ((hs40.sub (by decide)).tr ((hs44.sub (by decide)).tr (hs67.sub (by decide))))))))), y27, u27, ft, qt, ⟨ft, qt, vt, w1, ?_⟩, by omega, fun e => by have := w3 e; omega⟩
      by_cases ef : ft = 0
      · have eq := w3 ef
        refine Or.inr (Or.inl ⟨ef, fun e => m2.1 ⟨by omega, ?_⟩, fun e => m3.1 ⟨by omega, ?_⟩, ef, rfl⟩)
        · rw [show ja h40 14 2 = qt by omega]; exact e
        · rw [show ja h44 14 2 = qt by omega]; exact e
      · exact Or.inl ⟨ef, rfl⟩
    · have g70 := jc1_eq_f hc70
      refine jm_aload_n (x := P.1 + 26) rfl rfl (jM_at hl 0 rfl) ?_
      refine jx_gf (i := 26) rfl rfl hH67 (by decide) (hH67.2 26 _ rfl).1 rfl (jx_rf hH67 rfl rfl) ?_
      refine jm_iload_n (x := c) rfl rfl (jM_at hl 2 rfl) ?_
      refine jm_aload_n (x := P.1 + 14) rfl rfl (jM_at hl 1 rfl) ?_
      refine az_X_step (pc' := 80) (ls' := ls) (st' := [.int 2, .ref (P.1 + 14), .int c, .ref (P.1 + 29)]) (h' := h67) rfl rfl rfl ?_
      refine az_X_call (m' := 127) (as := [.ref (P.1 + 14), .int 2]) (rest := [.int c, .ref (P.1 + 29)]) rfl rfl rfl rfl rfl ?_ ?_
      · unfold si_call
        dsimp only
        rw [if_pos ⟨rfl, rfl⟩]
        show (match si_ix P h67 (P.1 + 14) with | some i => _ | none => none) = _
        rw [jix hH67 (by decide)]
        dsimp only
        rw [(hH67.2 14 _ rfl).1]
        rfl
      refine (nu_ok hxa hH67 hn (((jso hs67 (by decide)).trans ((jso hs44 (by decide)).trans ((jso hs40 (by decide)).trans ((jso hs33 (by decide)).trans ((jso hs26 (by decide)).trans ((jso hs23 (by decide)).trans ((jso hs12 (by decide)).trans (jso hs3 (by decide))))))))).trans e1) rfl rfl (jBY_so hs67 (by decide) (jBY_so hs44 (by decide) (jBY_so hs40 (by decide) (jBY_so hs33 (by decide) (jBY_so hs26 (by decide) (jBY_so hs23 (by decide) (jBY_so hs12 (by decide) (jBY_so hs3 (by decide) hb)))))))) hh1 (Or.inl (by
        rcases f67 with ⟨y1, y2, y3, y4⟩ | ⟨-, y2, -⟩
        · have := jBY_lt (jBY_so hs44 (by decide) (jBY_so hs40 (by decide) (jBY_so hs33 (by decide) (jBY_so hs26 (by decide) (jBY_so hs23 (by decide) (jBY_so hs12 (by decide) (jBY_so hs3 (by decide) hb))))))) (by omega : hh (ja h44 14 2) ≠ -1)
          omega
        · omega)) 2 (by decide)).mono ?_
      rintro rv80 h80 ⟨z80, rfl, hH80, hs80, f80⟩
      show az_X P _ 45 83 ls [.int z80, .int c, .ref (P.1 + 29)] _ _
      have b80 : 0 ≤ z80.toInt ∧ z80.toInt ≤ 99 := by
        have q2 : (2 : Int32).toInt.toNat = 2 := by decide
        have b67 : 0 ≤ ja h67 14 2 ∧ ja h67 14 2 ≤ 241 := ja_bd hH67 (i := 14) (k := 2) rfl
        rcases f80 with ⟨-, f, q, v, a1, a2⟩ | ⟨-, a2, -⟩
        · rcases a2 with ⟨b1, b2, -⟩ | ⟨-, b2, -⟩
          · subst b1
            rw [q2] at a1
            have := jAN_v (by omega) (by omega) a1
            omega
          · omega
        · omega
      refine jn_neg (a := z80) rfl rfl (by omega) (by omega) (fun z83 ez83 => ?_)
      refine jn_ias (i := 29) (x := c) (v := z83) rfl rfl hH80 (by decide) rfl (by omega) (by show _ < ((8 : Nat) : Int); omega) (by show (-99) ≤ _; omega) (by show _ ≤ 99; omega) (fun h84 hH84 hs84 t84 u84 => ?_)
      refine jn_retv rfl rfl rfl ?_
      have y27 : ja h84 27 c.toInt = 1 := by rw [jso_row (i := 27) hs84 (by decide), jso_row (i := 27) hs80 (by decide), jso_row (i := 27) hs67 (by decide), jso_row (i := 27) hs44 (by decide), jso_row (i := 27) hs40 (by decide), jso_row (i := 27) hs33 (by decide), jso_row (i := 27) hs26 (by decide), jso_row (i := 27) hs23 (by decide), t12]; decide
      have u27 : ∀ j : Int, 0 ≤ j → j ≠ c.toInt → ja h84 27 j = ja h 27 j := fun j j0 j1 => by rw [jso_row (i := 27) hs84 (by decide), jso_row (i := 27) hs80 (by decide), jso_row (i := 27) hs67 (by decide), jso_row (i := 27) hs44 (by decide), jso_row (i := 27) hs40 (by decide), jso_row (i := 27) hs33 (by decide), jso_row (i := 27) hs26 (by decide), jso_row (i := 27) hs23 (by decide), u12 j j0 j1, jso_row (i := 27) hs3 (by decide)]
      have q2 : (2 : Int32).toInt.toNat = 2 := by decide
      have m2 : ja h44 14 2 = ja h40 14 2 ∧ ja h44 14 3 = ja h40 14 3 := by
        rcases f44 with ⟨-, -, y, -⟩ | ⟨-, -, y⟩
        · omega
        · rw [y]; exact ⟨rfl, rfl⟩
      rcases f67 with ⟨y1, y2, y3, y4⟩ | ⟨-, y, -⟩
      · have ef : ft = 0 := by omega
        have eq := w3 ef
        have y5 : ja h67 14 3 = 0 := (jso hs67 (by decide)).trans y1
        rcases f80 with ⟨-, f, q, v, a1, a2⟩ | ⟨a0, -⟩
        · rw [q2] at a1
          have a3 : jAN hh (qt + 1) 2 f q v := by
            rw [show qt + 1 = ja h67 14 2 by omega]
            exact a1
          refine ⟨rfl, hH84, ((hs3.sub (by decide)).tr ((hs12.sub (by decide)).tr ((hs23.sub (by decide)).tr ((hs26.sub (by decide)).tr ((hs33.sub (by decide)).tr ((hs40.sub (by decide)).tr ((hs44.sub (by decide)).tr ((hs67.sub (by decide)).tr ((hs80.sub (by decide)).tr (hs84.sub (by decide))))))))))), y27, u27, f, q, ⟨ft, qt, vt, w1, Or.inr (Or.inr ⟨ef, Or.inr (by rw [show qt = ja h44 14 2 by omega]; exact y2.trans k45), v, a3⟩)⟩, ?_, fun e => ?_⟩
          · rw [jso hs84 (by decide)]
            rcases a2 with ⟨b1, -, -, b4⟩ | ⟨-, -, b3⟩
            · rw [b4, b1]
            · exact b3
          · rw [jso hs84 (by decide)]
            rcases a2 with ⟨-, -, b3, -⟩ | ⟨b1, -, -⟩
            · exact b3
            · exact absurd e b1
        · exact absurd y5 a0
      · exact absurd y g70
  · have g47 := jc1_eq_f hc47
    refine jm_aload_n (x := P.1 + 26) rfl rfl (jM_at hl 0 rfl) ?_
    refine jx_gf (i := 26) rfl rfl hH44 (by decide) (hH44.2 26 _ rfl).1 rfl (jx_rf hH44 rfl rfl) ?_
    refine jm_iload_n (x := c) rfl rfl (jM_at hl 2 rfl) ?_
    refine jm_aload_n (x := P.1 + 14) rfl rfl (jM_at hl 1 rfl) ?_
    refine az_X_step (pc' := 57) (ls' := ls) (st' := [.int 2, .ref (P.1 + 14), .int c, .ref (P.1 + 29)]) (h' := h44) rfl rfl rfl ?_
    refine az_X_call (m' := 127) (as := [.ref (P.1 + 14), .int 2]) (rest := [.int c, .ref (P.1 + 29)]) rfl rfl rfl rfl rfl ?_ ?_
    · unfold si_call
      dsimp only
      rw [if_pos ⟨rfl, rfl⟩]
      show (match si_ix P h44 (P.1 + 14) with | some i => _ | none => none) = _
      rw [jix hH44 (by decide)]
      dsimp only
      rw [(hH44.2 14 _ rfl).1]
      rfl
    refine (nu_ok hxa hH44 hn (((jso hs44 (by decide)).trans ((jso hs40 (by decide)).trans ((jso hs33 (by decide)).trans ((jso hs26 (by decide)).trans ((jso hs23 (by decide)).trans ((jso hs12 (by decide)).trans (jso hs3 (by decide)))))))).trans e1) rfl rfl (jBY_so hs44 (by decide) (jBY_so hs40 (by decide) (jBY_so hs33 (by decide) (jBY_so hs26 (by decide) (jBY_so hs23 (by decide) (jBY_so hs12 (by decide) (jBY_so hs3 (by decide) hb))))))) hh1 (Or.inl (by
      rcases f44 with ⟨y1, y2, y3, y4⟩ | ⟨-, y2, -⟩
      · have := jBY_lt (jBY_so hs40 (by decide) (jBY_so hs33 (by decide) (jBY_so hs26 (by decide) (jBY_so hs23 (by decide) (jBY_so hs12 (by decide) (jBY_so hs3 (by decide) hb)))))) (by omega : hh (ja h40 14 2) ≠ -1)
        omega
      · omega)) 2 (by decide)).mono ?_
    rintro rv57 h57 ⟨z57, rfl, hH57, hs57, f57⟩
    show az_X P _ 45 60 ls [.int z57, .int c, .ref (P.1 + 29)] _ _
    have b57 : 0 ≤ z57.toInt ∧ z57.toInt ≤ 99 := by
      have q2 : (2 : Int32).toInt.toNat = 2 := by decide
      have b44 : 0 ≤ ja h44 14 2 ∧ ja h44 14 2 ≤ 241 := ja_bd hH44 (i := 14) (k := 2) rfl
      rcases f57 with ⟨-, f, q, v, a1, a2⟩ | ⟨-, a2, -⟩
      · rcases a2 with ⟨b1, b2, -⟩ | ⟨-, b2, -⟩
        · subst b1
          rw [q2] at a1
          have := jAN_v (by omega) (by omega) a1
          omega
        · omega
      · omega
    refine jn_ias (i := 29) (x := c) (v := z57) rfl rfl hH57 (by decide) rfl (by omega) (by show _ < ((8 : Nat) : Int); omega) (by show (-99) ≤ _; omega) (by show _ ≤ 99; omega) (fun h60 hH60 hs60 t60 u60 => ?_)
    refine az_X_step (pc' := 85) (ls' := ls) (st' := []) (h' := h60) rfl rfl rfl ?_
    refine jn_retv rfl rfl rfl ?_
    have y27 : ja h60 27 c.toInt = 1 := by rw [jso_row (i := 27) hs60 (by decide), jso_row (i := 27) hs57 (by decide), jso_row (i := 27) hs44 (by decide), jso_row (i := 27) hs40 (by decide), jso_row (i := 27) hs33 (by decide), jso_row (i := 27) hs26 (by decide), jso_row (i := 27) hs23 (by decide), t12]; decide
    have u27 : ∀ j : Int, 0 ≤ j → j ≠ c.toInt → ja h60 27 j = ja h 27 j := fun j j0 j1 => by rw [jso_row (i := 27) hs60 (by decide), jso_row (i := 27) hs57 (by decide), jso_row (i := 27) hs44 (by decide), jso_row (i := 27) hs40 (by decide), jso_row (i := 27) hs33 (by decide), jso_row (i := 27) hs26 (by decide), jso_row (i := 27) hs23 (by decide), u12 j j0 j1, jso_row (i := 27) hs3 (by decide)]
    have q2 : (2 : Int32).toInt.toNat = 2 := by decide
    rcases f44 with ⟨y1, y2, y3, y4⟩ | ⟨-, y, -⟩
    · have ef : ft = 0 := by omega
      have eq := w3 ef
      have y5 : ja h44 14 3 = 0 := (jso hs44 (by decide)).trans y1
      rcases f57 with ⟨-, f, q, v, a1, a2⟩ | ⟨a0, -⟩
      · rw [q2] at a1
        have a3 : jAN hh (qt + 1) 2 f q v := by
          rw [show qt + 1 = ja h44 14 2 by omega]
          exact a1
        refine ⟨rfl, hH60, ((hs3.sub (by decide)).tr ((hs12.sub (by decide)).tr ((hs23.sub (by decide)).tr ((hs26.sub (by decide)).tr ((hs33.sub (by decide)).tr ((hs40.sub (by decide)).tr ((hs44.sub (by decide)).tr ((hs57.sub (by decide)).tr (hs60.sub (by decide)))))))))), y27, u27, f, q, ⟨ft, qt, vt, w1, Or.inr (Or.inr ⟨ef, Or.inl (by rw [show qt = ja h40 14 2 by omega]; exact y2.trans k43), v, a3⟩)⟩, ?_, fun e => ?_⟩
        · rw [jso hs60 (by decide)]
          rcases a2 with ⟨b1, -, -, b4⟩ | ⟨-, -, b3⟩
          · rw [b4, b1]
          · exact b3
        · rw [jso hs60 (by decide)]
          rcases a2 with ⟨-, -, b3, -⟩ | ⟨b1, -, -⟩
          · exact b3
          · exact absurd e b1
      · exact absurd y5 a0
    · exact absurd y g47
theorem rx_ok {P : si_P} {d : Nat} {h : si_H} (hH : az_HI P az_tb h) {n p F : Int} (e1 : ja h 14 1 = n) (e2 : ja h 14 2 = p) (e3 : ja h 14 3 = F) (T U C : Int32) (hU : U.toInt = 0) (ls : si_L) (hl : jM [(4, .int T), (3, .int U), (2, .int C), (0, .ref (P.1 + 26)), (1, .ref (P.1 + 14))] ls) : az_X P (d + 2) 44 11 ls [] h (fun rv h' => ∃ z : Int32, rv = some (.int z) ∧ az_HI P az_tb h' ∧ az_same_out [(14, 3)] h h' ∧ ((F ≠ 0 ∧ z.toInt = F) ∨ (F = 0 ∧ p < n ∧ z.toInt = -1000 - p) ∨ (F = 0 ∧ n ≤ p ∧ z.toInt = C.toInt))) := by
  have k0 : (0 : Int32).toInt = 0 := by decide
  have k8 : (8 : Int32).toInt = 8 := by decide
  refine jm_iload (x := T) rfl rfl (jM_at hl 0 rfl) ?_
  refine az_X_step (pc' := 15) (ls' := ls) (st' := [.int 8, .int T]) (h' := h) rfl rfl rfl ?_
  refine jx_ic (t := 82) rfl rfl rfl (fun hc15 => ?_) (fun hc15 => ?_)
  · have g15 := jc2_gt_t hc15
    refine jm_aload_n (x := P.1 + 14) rfl rfl (jM_at hl 4 rfl) ?_
    refine jm_iload_n (x := C) rfl rfl (jM_at hl 2 rfl) ?_
    refine az_X_call (m' := 129) (as := [.ref (P.1 + 14), .int C]) (rest := []) rfl rfl rfl rfl rfl ?_ ?_
    · unfold si_call
      dsimp only
      rw [if_pos ⟨rfl, rfl⟩]
      show (match si_ix P h (P.1 + 14) with | some i => _ | none => none) = _
      rw [jix hH (by decide)]
      dsimp only
      rw [(hH.2 14 _ rfl).1]
      rfl
    refine (aw_ok hH e1 e2 e3 C).mono ?_
    rintro rv84 h84 ⟨z84, rfl, hH84, hs84, f84⟩
    show az_X P _ 44 87 ls [.int z84] _ _
    refine jx_ret rfl rfl rfl ?_
    exact ⟨z84, rfl, hH84, hs84, f84⟩
  · have g15 := jc2_gt_f hc15
    refine jm_iload_n (x := U) rfl rfl (jM_at hl 1 rfl) ?_
    refine jx_if (t := 82) rfl rfl rfl (fun hc19 => ?_) (fun hc19 => ?_)
    · have g19 := jc1_eq_t hc19
      refine jm_aload_n (x := P.1 + 14) rfl rfl (jM_at hl 4 rfl) ?_
      refine jm_iload_n (x := C) rfl rfl (jM_at hl 2 rfl) ?_
      refine az_X_call (m' := 129) (as := [.ref (P.1 + 14), .int C]) (rest := []) rfl rfl rfl rfl rfl ?_ ?_
      · unfold si_call
        dsimp only
        rw [if_pos ⟨rfl, rfl⟩]
        show (match si_ix P h (P.1 + 14) with | some i => _ | none => none) = _
        rw [jix hH (by decide)]
        dsimp only
        rw [(hH.2 14 _ rfl).1]
        rfl
      refine (aw_ok hH e1 e2 e3 C).mono ?_
      rintro rv84 h84 ⟨z84, rfl, hH84, hs84, f84⟩
      show az_X P _ 44 87 ls [.int z84] _ _
      refine jx_ret rfl rfl rfl ?_
      exact ⟨z84, rfl, hH84, hs84, f84⟩
    · have g19 := jc1_eq_f hc19
      exfalso
      omega
theorem rd_l {P : si_P} (hxa : P.2.1 < P.1) {d : Nat} {h0 : si_H} {n : Int} {hh : Int → Int} (hn : 1 ≤ n ∧ n ≤ 240) (hh1 : ∀ i : Int, hh i ≤ 255) : ∀ (k j : Nat) (S : Nat → Bool) (p : Int) (T U C : Int32) (h : si_H) (ls : si_L), jM [(4, .int T), (3, .int U), (2, .int C), (0, .ref (P.1 + 26)), (1, .ref (P.1 + 14))] ls → az_HI P az_tb h → az_same_out [(14, 2), (14, 3), (27, 1000000), (28, 1000000), (29, 1000000), (30, 1000000)] h0 h → ja h 14 1 = n → ja h 14 2 = p → ja h 14 3 = 0 → jBY h n hh → T.toInt = j → U.toInt = 1 → C.toInt = j → j + k = 9 → jtc S 8 = j → (∀ c : Nat, c < 8 → ja h 27 c = (if S c = true then 1 else 0)) → 0 ≤ p ∧ p ≤ 240 → az_X P (d + 5) 44 11 ls [] h (fun rv h' => ∃ z : Int32, rv = some (.int z) ∧ az_HI P az_tb h' ∧ az_same_out [(14, 2), (14, 3), (27, 1000000), (28, 1000000), (29, 1000000), (30, 1000000)] h0 h' ∧ jLN hh (ja h0 1 0 * ja h0 1 1) n k S p j z.toInt) := by
  intro k
  induction k with
  | zero =>
    intro j S p T U C h ls hl hH hs e1 e2 e3 hb eT eU eC hj hS hA hp
    have := jtc_bd S 8
    exfalso
    omega
  | succ k ih =>
    intro j S p T U C h ls hl hH hs e1 e2 e3 hb eT eU eC hj hS hA hp
    have bS := jtc_bd S 8
    have y0 : ja h 1 0 * ja h 1 1 = ja h0 1 0 * ja h0 1 1 := by rw [jso hs (by decide), jso hs (by decide)]
    have k0 : (0 : Int32).toInt = 0 := by decide
    have k6 : (6 : Int32).toInt = 6 := by decide
    have k8 : (8 : Int32).toInt = 8 := by decide
    have k59 : (59 : Int32).toInt = 59 := by decide
    refine jm_iload (x := T) rfl rfl (jM_at hl 0 rfl) ?_
    refine az_X_step (pc' := 15) (ls' := ls) (st' := [.int 8, .int T]) (h' := h) rfl rfl rfl ?_
    refine jx_ic (t := 82) rfl rfl rfl (fun hc15 => ?_) (fun hc15 => ?_)
    · have g15 := jc2_gt_t hc15
      exfalso
      omega
    · have g15 := jc2_gt_f hc15
      refine jm_iload_n (x := U) rfl rfl (jM_at hl 1 rfl) ?_
      refine jx_if (t := 82) rfl rfl rfl (fun hc19 => ?_) (fun hc19 => ?_)
      · have g19 := jc1_eq_t hc19
        exfalso
        omega
      · have g19 := jc1_eq_f hc19
        refine jm_aload_n (x := P.1 + 14) rfl rfl (jM_at hl 4 rfl) ?_
        refine az_X_call (m' := 126) (as := [.ref (P.1 + 14)]) (rest := []) rfl rfl rfl rfl rfl ?_ ?_
        · unfold si_call
          dsimp only
          rw [if_pos ⟨rfl, rfl⟩]
          show (match si_ix P h (P.1 + 14) with | some i => _ | none => none) = _
          rw [jix hH (by decide)]
          dsimp only
          rw [(hH.2 14 _ rfl).1]
          rfl
        refine (cl_ok hxa hH hn e1 e2 e3 hb).mono ?_
        rintro rv23 h23 ⟨z23, rfl, hH23, hs23, f23⟩
        show az_X P _ 44 26 ls [.int z23] _ _
        refine jm_istore (l' := [(5, .int z23), (4, .int T), (3, .int U), (2, .int C), (0, .ref (P.1 + 26)), (1, .ref (P.1 + 14))]) rfl rfl (by decide) hl rfl rfl (fun ls26 hl26 => ?_)
        refine jm_aload_n (x := P.1 + 26) rfl rfl (jM_at hl26 4 rfl) ?_
        refine jm_iload (x := z23) rfl rfl (jM_at hl26 0 rfl) ?_
        refine az_X_call (m' := 46) (as := [.ref (P.1 + 26), .int z23]) (rest := []) rfl rfl rfl rfl rfl ?_ ?_
        · unfold si_call
          dsimp only
          rw [if_pos ⟨rfl, rfl⟩]
          show (match si_ix P h23 (P.1 + 26) with | some i => _ | none => none) = _
          rw [jix hH23 (by decide)]
          dsimp only
          rw [(hH23.2 26 _ rfl).1]
          rfl
        refine (it_ok hH23 z23).mono ?_
        rintro rv31 h31 ⟨q31, z31, rfl, ez31⟩
        subst h31
        show az_X P _ 44 34 ls26 [.int z31] _ _
        refine jx_if (t := 50) rfl rfl rfl (fun hc34 => ?_) (fun hc34 => ?_)
        · have g34 := jc1_eq_t hc34
          refine jm_iload (x := z23) rfl rfl (jM_at hl26 0 rfl) ?_
          refine jx_if (t := 69) rfl rfl rfl (fun hc52 => ?_) (fun hc52 => ?_)
          · have g52 := jc1_lt_t hc52
            refine jm_aload_n (x := P.1 + 14) rfl rfl (jM_at hl26 5 rfl) ?_
            refine az_X_step (pc' := 72) (ls' := ls26) (st' := [.int 59, .ref (P.1 + 14)]) (h' := h23) rfl rfl rfl ?_
            refine az_X_call (m' := 123) (as := [.ref (P.1 + 14), .int 59]) (rest := []) rfl rfl rfl rfl rfl ?_ ?_
            · unfold si_call
              dsimp only
              rw [if_pos ⟨rfl, rfl⟩]
              show (match si_ix P h23 (P.1 + 14) with | some i => _ | none => none) = _
              rw [jix hH23 (by decide)]
              dsimp only
              rw [(hH23.2 14 _ rfl).1]
              rfl
            refine (tk_ok hxa hH23 hn ((jso hs23 (by decide)).trans e1) rfl rfl (jBY_so hs23 (by decide) hb) 59 (by decide)).mono ?_
            rintro rv72 h72 ⟨z72, rfl, hH72, hs72, f72⟩
            show az_X P _ 44 75 ls26 [.int z72] _ _
            refine jm_istore_n (l' := [(3, .int z72), (5, .int z23), (4, .int T), (2, .int C), (0, .ref (P.1 + 26)), (1, .ref (P.1 + 14))]) rfl rfl (by decide) hl26 rfl rfl (fun ls75 hl75 => ?_)
            refine jn_iinc (x := T) rfl rfl (by decide) (jM_at hl75 2 rfl) hl75 rfl (by decide) (by omega) (by omega) (fun z76 (ez76 : z76.toInt = T.toInt + 1) ls76 (hl76 : jM [(4, .int z76), (3, .int z72), (5, .int z23), (2, .int C), (0, .ref (P.1 + 26)), (1, .ref (P.1 + 14))] ls76) => ?_)
            refine az_X_step (pc' := 11) (ls' := ls76) (st' := []) (h' := h72) rfl rfl rfl ?_
            have x23 : ¬ (97 ≤ hh p ∧ hh p ≤ 104) ∧ ja h23 14 3 = -1000 - p := by
              rcases f23 with ⟨-, a, b, c⟩ | ⟨-, a, -, b⟩ | ⟨a, -⟩
              · omega
              · exact ⟨a, b⟩
              · exact absurd rfl a
            have x72 : z72.toInt = 0 ∧ h72 = h23 := by
              rcases f72 with ⟨a, -⟩ | ⟨-, a, b⟩
              · omega
              · exact ⟨a, b⟩
            have i72 : ja h72 14 3 = -1000 - p := by rw [x72.2]; exact x23.2
            refine (rx_ok (d := d + 3) hH72 (((jso hs72 (by decide)).trans (jso hs23 (by decide))).trans e1) rfl rfl z76 z72 C (by omega) ls76 (jM_pick hl76 [0, 1, 3, 4, 5] rfl)).mono ?_
            rintro rv h9 ⟨z, q1, q2, q3, q4⟩
            refine ⟨z, q1, q2, (hs.tr ((hs23.sub (by decide)).tr (hs72.sub (by decide)))).tr (q3.sub (by decide)), ?_⟩
            exact Or.inl ⟨x23.1, by omega⟩
          · have g52 := jc1_lt_f hc52
            refine jm_aload_n (x := P.1 + 14) rfl rfl (jM_at hl26 5 rfl) ?_
            refine az_X_call (m' := 122) (as := [.ref (P.1 + 14)]) (rest := []) rfl rfl rfl rfl rfl ?_ ?_
            · unfold si_call
              dsimp only
              rw [if_pos ⟨rfl, rfl⟩]
              show (match si_ix P h23 (P.1 + 14) with | some i => _ | none => none) = _
              rw [jix hH23 (by decide)]
              dsimp only
              rw [(hH23.2 14 _ rfl).1]
              rfl
            refine (sp_ok hH23 (by
              rcases f23 with ⟨-, a, b, c⟩ | ⟨-, -, b, -⟩ | ⟨a, -⟩
              · have := jBY_lt hb (by omega : hh p ≠ -1)
                rw [c]
                omega
              · omega
              · exact absurd rfl a)).mono ?_
            rintro rv56 h56 ⟨rfl, hH56, hs56, f56⟩
            show az_X P _ 44 59 ls26 [] _ _
            refine jm_aload_n (x := P.1 + 26) rfl rfl (jM_at hl26 4 rfl) ?_
            refine jm_aload_n (x := P.1 + 14) rfl rfl (jM_at hl26 5 rfl) ?_
            refine jm_iload (x := z23) rfl rfl (jM_at hl26 0 rfl) ?_
            refine az_X_call (m' := 45) (as := [.ref (P.1 + 26), .ref (P.1 + 14), .int z23]) (rest := []) rfl rfl rfl rfl rfl ?_ ?_
            · unfold si_call
              dsimp only
              rw [if_pos ⟨rfl, rfl⟩]
              show (match si_ix P h56 (P.1 + 26) with | some i => _ | none => none) = _
              rw [jix hH56 (by decide)]
              dsimp only
              rw [(hH56.2 26 _ rfl).1]
              rfl
            refine (rl_ok hxa hH56 hn (((jso hs56 (by decide)).trans (jso hs23 (by decide))).trans e1) rfl (by
              rcases f23 with ⟨-, a, b, c⟩ | ⟨-, -, b, -⟩ | ⟨a, -⟩
              · rw [jso hs56 (by decide), c]
                exact e3
              · omega
              · exact absurd rfl a) (jBY_so hs56 (by decide) (jBY_so hs23 (by decide) hb)) hh1 (by
              rcases f23 with ⟨-, a, b, c⟩ | ⟨-, -, b, -⟩ | ⟨a, -⟩
              · have := jBY_lt hb (by omega : hh p ≠ -1)
                rw [f56, c]
                omega
              · omega
              · exact absurd rfl a) z23 (by
              rcases f23 with ⟨-, a, b, c⟩ | ⟨-, -, b, -⟩ | ⟨a, -⟩
              · omega
              · omega
              · exact absurd rfl a)).mono ?_
            rintro rv63 h63 ⟨rfl, hH63, hs63, f63⟩
            show az_X P _ 44 66 ls26 [] _ _
            refine jn_iinc (x := C) rfl rfl (by decide) (jM_at hl26 3 rfl) hl26 rfl (by decide) (by omega) (by omega) (fun z66 (ez66 : z66.toInt = C.toInt + 1) ls66 (hl66 : jM [(2, .int z66), (5, .int z23), (4, .int T), (3, .int U), (0, .ref (P.1 + 26)), (1, .ref (P.1 + 14))] ls66) => ?_)
            refine jm_aload_n (x := P.1 + 14) rfl rfl (jM_at hl66 5 rfl) ?_
            refine az_X_step (pc' := 72) (ls' := ls66) (st' := [.int 59, .ref (P.1 + 14)]) (h' := h63) rfl rfl rfl ?_
            refine az_X_call (m' := 123) (as := [.ref (P.1 + 14), .int 59]) (rest := []) rfl rfl rfl rfl rfl ?_ ?_
            · unfold si_call
              dsimp only
              rw [if_pos ⟨rfl, rfl⟩]
              show (match si_ix P h63 (P.1 + 14) with | some i => _ | none => none) = _
              rw [jix hH63 (by decide)]
              dsimp only
              rw [(hH63.2 14 _ rfl).1]
              rfl
            refine (tk_ok hxa hH63 hn (((jso hs63 (by decide)).trans ((jso hs56 (by decide)).trans (jso hs23 (by decide)))).trans e1) rfl rfl (jBY_so hs63 (by decide) (jBY_so hs56 (by decide) (jBY_so hs23 (by decide) hb))) 59 (by decide)).mono ?_
            rintro rv72 h72 ⟨z72, rfl, hH72, hs72, f72⟩
            show az_X P _ 44 75 ls66 [.int z72] _ _
            refine jm_istore_n (l' := [(3, .int z72), (2, .int z66), (5, .int z23), (4, .int T), (0, .ref (P.1 + 26)), (1, .ref (P.1 + 14))]) rfl rfl (by decide) hl66 rfl rfl (fun ls75 hl75 => ?_)
            refine jn_iinc (x := T) rfl rfl (by decide) (jM_at hl75 3 rfl) hl75 rfl (by decide) (by omega) (by omega) (fun z76 (ez76 : z76.toInt = T.toInt + 1) ls76 (hl76 : jM [(4, .int z76), (3, .int z72), (2, .int z66), (5, .int z23), (0, .ref (P.1 + 26)), (1, .ref (P.1 + 14))] ls76) => ?_)
            refine az_X_step (pc' := 11) (ls' := ls76) (st' := []) (h' := h72) rfl rfl rfl ?_
            have x23 : (97 ≤ hh p ∧ hh p ≤ 104) ∧ z23.toInt = hh p - 97 ∧ h23 = h := by
              rcases f23 with ⟨-, a, b, c⟩ | ⟨-, -, b, -⟩ | ⟨a, -⟩
              · exact ⟨a, b, c⟩
              · omega
              · exact absurd rfl a
            have ec : (((hh p - 97).toNat : Nat) : Int) = z23.toInt := by omega
            have ns : S (hh p - 97).toNat = false := by
              have a := hA (hh p - 97).toNat (by omega)
              cases q : S (hh p - 97).toNat
              · rfl
              · exfalso
                rw [q, if_pos rfl, ec] at a
                rw [x23.2.2] at ez31
                omega
            obtain ⟨l1, l2, f, q, l3, l4, l5⟩ := f63
            have p56 : ja h56 14 2 = p + 1 := by rw [f56, x23.2.2]; omega
            have yy : ja h56 1 0 * ja h56 1 1 = ja h0 1 0 * ja h0 1 1 := by rw [← y0, jso hs56 (by decide), jso hs56 (by decide), x23.2.2]
            rw [p56, yy] at l3
            have lq : f = 0 → p + 1 + 1 < q := fun e => by
              subst e
              exact jLI_q (by omega) l3
            have z66e : z66.toInt = (j : Int) + 1 := by omega
            rcases f72 with ⟨a1, a2, a3, a4⟩ | ⟨a1, a2, a3⟩
            · have ef : f = 0 := l4.symm.trans a1
              have eq := l5 ef
              have i59 : hh q = 59 := by rw [← eq]; exact a2.trans k59
              have qn : q < n := jBY_lt hb (by omega)
              refine (ih (j + 1) (jad S (hh p - 97).toNat) (q + 1) z76 z72 z66 h72 ls76 (jM_pick hl76 [0, 1, 2, 4, 5] rfl) hH72 (hs.tr ((hs23.sub (by decide)).tr ((hs56.sub (by decide)).tr ((hs63.sub (by decide)).tr (hs72.sub (by decide)))))) (((jso hs72 (by decide)).trans ((jso hs63 (by decide)).trans ((jso hs56 (by decide)).trans (jso hs23 (by decide))))).trans e1) (by omega) ((jso hs72 (by decide)).trans a1) (jBY_so hs72 (by decide) (jBY_so hs63 (by decide) (jBY_so hs56 (by decide) (jBY_so hs23 (by decide) hb)))) (by omega) a3 (by omega) (by omega) ?_ ?_ (by have := lq ef; omega)).mono ?_
              · rw [jtc_ad ns, hS, if_pos (by omega)]; omega
              · intro c hc
                rw [jso_row (i := 27) hs72 (by decide)]
                unfold jad
                by_cases e : c = (hh p - 97).toNat
                · rw [if_pos e, if_pos rfl, e, ec]
                  exact l1
                · rw [if_neg e, l2 c (by omega) (by omega), jso_row (i := 27) hs56 (by decide), x23.2.2]
                  exact hA c hc
              · rintro rv h9 ⟨z, q1, q2, q3, q4⟩
                refine ⟨z, q1, q2, q3, Or.inr (Or.inr ⟨x23.1, ns, f, q, l3, Or.inr (Or.inr (Or.inr ⟨ef, qn, i59, ?_⟩))⟩)⟩
                rw [show (j : Int) + 1 = ((j + 1 : Nat) : Int) by omega]
                exact q4
            · have i2 : ja h72 14 2 = ja h63 14 2 := by rw [a3]
              have i3 : ja h72 14 3 = f := by rw [a3]; exact l4
              refine (rx_ok (d := d + 3) hH72 (((jso hs72 (by decide)).trans ((jso hs63 (by decide)).trans ((jso hs56 (by decide)).trans (jso hs23 (by decide))))).trans e1) rfl rfl z76 z72 z66 (by omega) ls76 (jM_pick hl76 [0, 1, 2, 4, 5] rfl)).mono ?_
              rintro rv h9 ⟨z, q1, q2, q3, q4⟩
              refine ⟨z, q1, q2, (hs.tr ((hs23.sub (by decide)).tr ((hs56.sub (by decide)).tr ((hs63.sub (by decide)).tr (hs72.sub (by decide)))))).tr (q3.sub (by decide)), Or.inr (Or.inr ⟨x23.1, ns, f, q, l3, ?_⟩)⟩
              rcases q4 with ⟨c1, c2⟩ | ⟨c1, c2, c3⟩ | ⟨c1, c2, c3⟩
              · exact Or.inl ⟨by omega, by omega⟩
              · have ef : f = 0 := by omega
                have eq := l5 ef
                refine Or.inr (Or.inr (Or.inl ⟨ef, by omega, fun e => a1 ⟨by omega, ?_⟩, by omega⟩))
                rw [eq, k59]
                exact e
              · have ef : f = 0 := by omega
                have eq := l5 ef
                exact Or.inr (Or.inl ⟨ef, by omega, by omega⟩)
        · have g34 := jc1_eq_f hc34
          refine jm_aload_n (x := P.1 + 14) rfl rfl (jM_at hl26 5 rfl) ?_
          refine az_X_step (pc' := 40) (ls' := ls26) (st' := [.int 6, .ref (P.1 + 14)]) (h' := h23) rfl rfl rfl ?_
          refine jm_aload_n (x := P.1 + 14) rfl rfl (jM_at hl26 5 rfl) ?_
          refine az_X_call (m' := 120) (as := [.ref (P.1 + 14)]) (rest := [.int 6, .ref (P.1 + 14)]) rfl rfl rfl rfl rfl ?_ ?_
          · unfold si_call
            dsimp only
            rw [if_pos ⟨rfl, rfl⟩]
            show (match si_ix P h23 (P.1 + 14) with | some i => _ | none => none) = _
            rw [jix hH23 (by decide)]
            dsimp only
            rw [(hH23.2 14 _ rfl).1]
            rfl
          refine (pl_ok hH23).mono ?_
          rintro rv41 h41 ⟨q41, z41, rfl, ez41⟩
          subst h41
          show az_X P _ 44 44 ls26 [.int z41, .int 6, .ref (P.1 + 14)] _ _
          refine az_X_call (m' := 125) (as := [.ref (P.1 + 14), .int 6, .int z41]) (rest := []) rfl rfl rfl rfl rfl ?_ ?_
          · unfold si_call
            dsimp only
            rw [if_pos ⟨rfl, rfl⟩]
            show (match si_ix P h23 (P.1 + 14) with | some i => _ | none => none) = _
            rw [jix hH23 (by decide)]
            dsimp only
            rw [(hH23.2 14 _ rfl).1]
            rfl
          refine (fl_ok hH23 6 z41 (by decide) (by have : 0 ≤ ja h23 14 2 ∧ ja h23 14 2 ≤ 241 := ja_bd hH23 (i := 14) (k := 2) rfl; omega)).mono ?_
          rintro rv44 h44 ⟨rfl, hH44, hs44, f44⟩
          show az_X P _ 44 47 ls26 [] _ _
          refine az_X_step (pc' := 69) (ls' := ls26) (st' := []) (h' := h44) rfl rfl rfl ?_
          refine jm_aload_n (x := P.1 + 14) rfl rfl (jM_at hl26 5 rfl) ?_
          refine az_X_step (pc' := 72) (ls' := ls26) (st' := [.int 59, .ref (P.1 + 14)]) (h' := h44) rfl rfl rfl ?_
          refine az_X_call (m' := 123) (as := [.ref (P.1 + 14), .int 59]) (rest := []) rfl rfl rfl rfl rfl ?_ ?_
          · unfold si_call
            dsimp only
            rw [if_pos ⟨rfl, rfl⟩]
            show (match si_ix P h44 (P.1 + 14) with | some i => _ | none => none) = _
            rw [jix hH44 (by decide)]
            dsimp only
            rw [(hH44.2 14 _ rfl).1]
            rfl
          refine (tk_ok hxa hH44 hn (((jso hs44 (by decide)).trans (jso hs23 (by decide))).trans e1) rfl rfl (jBY_so hs44 (by decide) (jBY_so hs23 (by decide) hb)) 59 (by decide)).mono ?_
          rintro rv72 h72 ⟨z72, rfl, hH72, hs72, f72⟩
          show az_X P _ 44 75 ls26 [.int z72] _ _
          refine jm_istore_n (l' := [(3, .int z72), (5, .int z23), (4, .int T), (2, .int C), (0, .ref (P.1 + 26)), (1, .ref (P.1 + 14))]) rfl rfl (by decide) hl26 rfl rfl (fun ls75 hl75 => ?_)
          refine jn_iinc (x := T) rfl rfl (by decide) (jM_at hl75 2 rfl) hl75 rfl (by decide) (by omega) (by omega) (fun z76 (ez76 : z76.toInt = T.toInt + 1) ls76 (hl76 : jM [(4, .int z76), (3, .int z72), (5, .int z23), (2, .int C), (0, .ref (P.1 + 26)), (1, .ref (P.1 + 14))] ls76) => ?_)
          refine az_X_step (pc' := 11) (ls' := ls76) (st' := []) (h' := h72) rfl rfl rfl ?_
          have x23 : (97 ≤ hh p ∧ hh p ≤ 104) ∧ z23.toInt = hh p - 97 ∧ h23 = h := by
            rcases f23 with ⟨-, a, b, c⟩ | ⟨-, -, b, -⟩ | ⟨a, -⟩
            · exact ⟨a, b, c⟩
            · omega
            · exact absurd rfl a
          have g3 : ja h23 14 3 = 0 := by rw [x23.2.2]; exact e3
          have g2 : ja h23 14 2 = p := by rw [x23.2.2]; exact e2
          have f6 : ja h44 14 3 = -6000 - p := (f44.1 g3).trans (by omega)
          have x72 : z72.toInt = 0 ∧ h72 = h44 := by
            rcases f72 with ⟨a, -⟩ | ⟨-, a, b⟩
            · omega
            · exact ⟨a, b⟩
          have i72 : ja h72 14 3 = -6000 - p := by rw [x72.2]; exact f6
          refine (rx_ok (d := d + 3) hH72 (((jso hs72 (by decide)).trans ((jso hs44 (by decide)).trans (jso hs23 (by decide)))).trans e1) rfl rfl z76 z72 C (by omega) ls76 (jM_pick hl76 [0, 1, 3, 4, 5] rfl)).mono ?_
          rintro rv h9 ⟨z, q1, q2, q3, q4⟩
          refine ⟨z, q1, q2, (hs.tr ((hs23.sub (by decide)).tr ((hs44.sub (by decide)).tr (hs72.sub (by decide))))).tr (q3.sub (by decide)), ?_⟩
          refine Or.inr (Or.inl ⟨x23.1, ?_, by omega⟩)
          have a := hA (hh p - 97).toNat (by omega)
          by_cases q : S (hh p - 97).toNat = true
          · exact q
          · exfalso
            rw [if_neg q] at a
            rw [x23.2.2] at ez31
            rw [show (((hh p - 97).toNat : Nat) : Int) = z23.toInt by omega] at a
            omega
theorem rd_ok2 {P : si_P} (hxa : P.2.1 < P.1) {d : Nat} {h : si_H} (hH : az_HI P az_tb h) {n : Int} {hh : Int → Int} (hn : 1 ≤ n ∧ n ≤ 240) (hh1 : ∀ i : Int, hh i ≤ 255) (e1 : ja h 14 1 = n) (e2 : ja h 14 2 = 0) (e3 : ja h 14 3 = 0) (hb : jBY h n hh) : az_X P (d + 5) 44 0 (lv_args 0 [.ref (P.1 + 26), .ref (P.1 + 14)]) [] h (fun rv h' => ∃ z : Int32, rv = some (.int z) ∧ az_HI P az_tb h' ∧ az_same_out [(14, 2), (14, 3), (27, 1000000), (28, 1000000), (29, 1000000), (30, 1000000)] h h' ∧ jLN hh (ja h 1 0 * ja h 1 1) n 9 (fun _ => false) 0 0 z.toInt) := by
  have hl : jM [(0, .ref (P.1 + 26)), (1, .ref (P.1 + 14))] (lv_args 0 [.ref (P.1 + 26), .ref (P.1 + 14)]) := jM_args [0, 1] rfl (by decide)
  generalize lv_args 0 [.ref (P.1 + 26), .ref (P.1 + 14)] = ls at hl
  have k0 : (0 : Int32).toInt = 0 := by decide
  have k1 : (1 : Int32).toInt = 1 := by decide
  refine jm_aload_n (x := P.1 + 26) rfl rfl (jM_at hl 0 rfl) ?_
  refine az_X_call (m' := 39) (as := [.ref (P.1 + 26)]) (rest := []) rfl rfl rfl rfl rfl ?_ ?_
  · unfold si_call
    dsimp only
    rw [if_pos ⟨rfl, rfl⟩]
    show (match si_ix P h (P.1 + 26) with | some i => _ | none => none) = _
    rw [jix hH (by decide)]
    dsimp only
    rw [(hH.2 26 _ rfl).1]
    rfl
  refine (fg_ok hH).mono ?_
  rintro rv1 h1 ⟨rfl, hH1, hs1, f1⟩
  show az_X P _ 44 4 ls [] _ _
  refine az_X_step (pc' := 5) (ls' := ls) (st' := [.int 0]) (h' := h1) rfl rfl rfl ?_
  refine jm_istore_n (l' := [(2, .int 0), (0, .ref (P.1 + 26)), (1, .ref (P.1 + 14))]) rfl rfl (by decide) hl rfl rfl (fun ls5 hl5 => ?_)
  refine az_X_step (pc' := 7) (ls' := ls5) (st' := [.int 1]) (h' := h1) rfl rfl rfl ?_
  refine jm_istore_n (l' := [(3, .int 1), (2, .int 0), (0, .ref (P.1 + 26)), (1, .ref (P.1 + 14))]) rfl rfl (by decide) hl5 rfl rfl (fun ls7 hl7 => ?_)
  refine az_X_step (pc' := 9) (ls' := ls7) (st' := [.int 0]) (h' := h1) rfl rfl rfl ?_
  refine jm_istore (l' := [(4, .int 0), (3, .int 1), (2, .int 0), (0, .ref (P.1 + 26)), (1, .ref (P.1 + 14))]) rfl rfl (by decide) hl7 rfl rfl (fun ls9 hl9 => ?_)
  have y0 : ja h1 1 0 * ja h1 1 1 = ja h 1 0 * ja h 1 1 := by rw [jso hs1 (by decide), jso hs1 (by decide)]
  refine (rd_l (d := d) hxa (h0 := h1) hn hh1 9 0 (fun _ => false) 0 0 1 0 h1 ls9 (jM_pick hl9 [0, 1, 2, 3, 4] rfl) hH1 az_same_out.rf ((jso hs1 (by decide)).trans e1) ((jso hs1 (by decide)).trans e2) ((jso hs1 (by decide)).trans e3) (jBY_so hs1 (by decide) hb) (by decide) (by decide) (by decide) (by omega) rfl (fun c hc => f1 c hc) (by omega)).mono ?_
  rintro rv h9 ⟨z, q1, q2, q3, q4⟩
  rw [y0] at q4
  exact ⟨z, q1, q2, (hs1.sub (by decide)).tr q3, q4⟩
theorem cc_ok {P : si_P} (hxa : P.2.1 < P.1) {d : Nat} {h : si_H} (hH : az_HI P az_tb h) (c : Int32) (hc : 0 ≤ c.toInt ∧ c.toInt < 8) : az_X P d 40 0 (lv_args 0 [.ref (P.1 + 16), .int c, .ref (P.1 + 26)]) [] h (fun rv h' => rv = none ∧ az_HI P az_tb h' ∧ az_same_out [(17, 1000000), (18, 1000000), (19, 1000000), (20, 1000000)] h h' ∧ True) := by
  have hl : jM [(0, .ref (P.1 + 16)), (1, .int c), (2, .ref (P.1 + 26))] (lv_args 0 [.ref (P.1 + 16), .int c, .ref (P.1 + 26)]) := jM_args [0, 1, 2] rfl (by decide)
  generalize lv_args 0 [.ref (P.1 + 16), .int c, .ref (P.1 + 26)] = ls at hl
  refine jm_aload_n (x := P.1 + 16) rfl rfl (jM_at hl 0 rfl) ?_
  refine jx_gf (i := 16) rfl rfl hH (by decide) (hH.2 16 _ rfl).1 rfl (jx_rf hH rfl rfl) ?_
  refine jm_iload_n (x := c) rfl rfl (jM_at hl 1 rfl) ?_
  refine jm_aload_n (x := P.1 + 26) rfl rfl (jM_at hl 2 rfl) ?_
  refine jx_gf (i := 26) rfl rfl hH (by decide) (hH.2 26 _ rfl).1 rfl (jx_rf hH rfl rfl) ?_
  refine jm_iload_n (x := c) rfl rfl (jM_at hl 1 rfl) ?_
  refine jn_balz (i := 27) (x := c) rfl rfl hH (by decide) rfl (by omega) (by show _ < ((8 : Nat) : Int); omega) (fun z10 ez10 bz10 => ?_)
  refine jn_basz (i := 17) (x := c) (v := z10) rfl rfl hH (by decide) rfl (by omega) (by show _ < ((8 : Nat) : Int); omega) (by omega) (by show 0 ≤ _; omega) (by show _ ≤ 1; omega) (fun h11 hH11 hs11 t11 u11 => ?_)
  refine jm_aload_n (x := P.1 + 16) rfl rfl (jM_at hl 0 rfl) ?_
  refine jx_gf (i := 16) rfl rfl hH11 (by decide) (hH11.2 16 _ rfl).1 rfl (jx_rf hH11 rfl rfl) ?_
  refine jm_iload_n (x := c) rfl rfl (jM_at hl 1 rfl) ?_
  refine jm_aload_n (x := P.1 + 26) rfl rfl (jM_at hl 2 rfl) ?_
  refine jx_gf (i := 26) rfl rfl hH11 (by decide) (hH11.2 26 _ rfl).1 rfl (jx_rf hH11 rfl rfl) ?_
  refine jm_iload_n (x := c) rfl rfl (jM_at hl 1 rfl) ?_
  refine jx_ial (i := 28) (x := c) rfl rfl hxa hH11 (by decide) rfl (by omega) (by show _ < ((8 : Nat) : Int); omega) (fun z22 ez22 bz22 => ?_)
  refine jn_ias (i := 18) (x := c) (v := z22) rfl rfl hH11 (by decide) rfl (by omega) (by show _ < ((8 : Nat) : Int); omega) (by show 0 ≤ _; omega) (by show _ ≤ 10000; omega) (fun h23 hH23 hs23 t23 u23 => ?_)
  refine jm_aload_n (x := P.1 + 16) rfl rfl (jM_at hl 0 rfl) ?_
  refine jx_gf (i := 16) rfl rfl hH23 (by decide) (hH23.2 16 _ rfl).1 rfl (jx_rf hH23 rfl rfl) ?_
  refine jm_iload_n (x := c) rfl rfl (jM_at hl 1 rfl) ?_
  refine jm_aload_n (x := P.1 + 26) rfl rfl (jM_at hl 2 rfl) ?_
  refine jx_gf (i := 26) rfl rfl hH23 (by decide) (hH23.2 26 _ rfl).1 rfl (jx_rf hH23 rfl rfl) ?_
  refine jm_iload_n (x := c) rfl rfl (jM_at hl 1 rfl) ?_
  refine jx_ial (i := 29) (x := c) rfl rfl hxa hH23 (by decide) rfl (by omega) (by show _ < ((8 : Nat) : Int); omega) (fun z34 ez34 bz34 => ?_)
  refine jn_ias (i := 19) (x := c) (v := z34) rfl rfl hH23 (by decide) rfl (by omega) (by show _ < ((8 : Nat) : Int); omega) (by show (-99) ≤ _; omega) (by show _ ≤ 99; omega) (fun h35 hH35 hs35 t35 u35 => ?_)
  refine jm_aload_n (x := P.1 + 16) rfl rfl (jM_at hl 0 rfl) ?_
  refine jx_gf (i := 16) rfl rfl hH35 (by decide) (hH35.2 16 _ rfl).1 rfl (jx_rf hH35 rfl rfl) ?_
  refine jm_iload_n (x := c) rfl rfl (jM_at hl 1 rfl) ?_
  refine jm_aload_n (x := P.1 + 26) rfl rfl (jM_at hl 2 rfl) ?_
  refine jx_gf (i := 26) rfl rfl hH35 (by decide) (hH35.2 26 _ rfl).1 rfl (jx_rf hH35 rfl rfl) ?_
  refine jm_iload_n (x := c) rfl rfl (jM_at hl 1 rfl) ?_
  refine jx_ial (i := 30) (x := c) rfl rfl hxa hH35 (by decide) rfl (by omega) (by show _ < ((8 : Nat) : Int); omega) (fun z46 ez46 bz46 => ?_)
  refine jn_ias (i := 20) (x := c) (v := z46) rfl rfl hH35 (by decide) rfl (by omega) (by show _ < ((8 : Nat) : Int); omega) (by show 0 ≤ _; omega) (by show _ ≤ 9999; omega) (fun h47 hH47 hs47 t47 u47 => ?_)
  refine jn_retv rfl rfl rfl ?_
  exact ⟨rfl, hH47, ((hs11.sub (by decide)).tr ((hs23.sub (by decide)).tr ((hs35.sub (by decide)).tr (hs47.sub (by decide))))), trivial⟩
theorem cp_l {P : si_P} (hxa : P.2.1 < P.1) {d : Nat} {h0 : si_H} : ∀ (k j : Nat) (T : Int32) (h : si_H) (ls : si_L), jM [(2, .int T), (0, .ref (P.1 + 16)), (1, .ref (P.1 + 26))] ls → az_HI P az_tb h → az_same_out [(17, 1000000), (18, 1000000), (19, 1000000), (20, 1000000)] h0 h → T.toInt = j → j + k = 8 → az_X P (d + 1) 41 2 ls [] h (fun rv h' => rv = none ∧ az_HI P az_tb h' ∧ az_same_out [(17, 1000000), (18, 1000000), (19, 1000000), (20, 1000000)] h0 h' ∧ True) := by
  intro k
  induction k with
  | zero =>
    intro j T h ls hl hH hs eT hj
    have k8 : (8 : Int32).toInt = 8 := by decide
    refine jm_iload_n (x := T) rfl rfl (jM_at hl 0 rfl) ?_
    refine az_X_step (pc' := 5) (ls' := ls) (st' := [.int 8, .int T]) (h' := h) rfl rfl rfl ?_
    refine jx_ic (t := 20) rfl rfl rfl (fun hc5 => ?_) (fun hc5 => ?_)
    · have g5 := jc2_ge_t hc5
      refine jn_retv rfl rfl rfl ?_
      exact ⟨rfl, hH, hs, trivial⟩
    · have g5 := jc2_ge_f hc5
      exfalso
      omega
  | succ k ih =>
    intro j T h ls hl hH hs eT hj
    have k8 : (8 : Int32).toInt = 8 := by decide
    refine jm_iload_n (x := T) rfl rfl (jM_at hl 0 rfl) ?_
    refine az_X_step (pc' := 5) (ls' := ls) (st' := [.int 8, .int T]) (h' := h) rfl rfl rfl ?_
    refine jx_ic (t := 20) rfl rfl rfl (fun hc5 => ?_) (fun hc5 => ?_)
    · have g5 := jc2_ge_t hc5
      refine jn_retv rfl rfl rfl ?_
      exfalso
      omega
    · have g5 := jc2_ge_f hc5
      refine jm_aload_n (x := P.1 + 16) rfl rfl (jM_at hl 1 rfl) ?_
      refine jm_iload_n (x := T) rfl rfl (jM_at hl 0 rfl) ?_
      refine jm_aload_n (x := P.1 + 26) rfl rfl (jM_at hl 2 rfl) ?_
      refine az_X_call (m' := 40) (as := [.ref (P.1 + 16), .int T, .ref (P.1 + 26)]) (rest := []) rfl rfl rfl rfl rfl ?_ ?_
      · unfold si_call
        dsimp only
        rw [if_pos ⟨rfl, rfl⟩]
        show (match si_ix P h (P.1 + 16) with | some i => _ | none => none) = _
        rw [jix hH (by decide)]
        dsimp only
        rw [(hH.2 16 _ rfl).1]
        rfl
      refine (cc_ok hxa hH T (by omega)).mono ?_
      rintro rv11 h11 ⟨rfl, hH11, hs11, f11⟩
      show az_X P _ 41 14 ls [] _ _
      refine jn_iinc (x := T) rfl rfl (by decide) (jM_at hl 0 rfl) hl rfl (by decide) (by omega) (by omega) (fun z14 (ez14 : z14.toInt = T.toInt + 1) ls14 (hl14 : jM [(2, .int z14), (0, .ref (P.1 + 16)), (1, .ref (P.1 + 26))] ls14) => ?_)
      refine az_X_step (pc' := 2) (ls' := ls14) (st' := []) (h' := h11) rfl rfl rfl ?_
      exact ih (j + 1) z14 h11 ls14 (jM_pick hl14 [0, 1, 2] rfl) hH11 (hs.tr hs11) (by omega) (by omega)
theorem cp_ok {P : si_P} (hxa : P.2.1 < P.1) {d : Nat} {h : si_H} (hH : az_HI P az_tb h) : az_X P (d + 1) 41 0 (lv_args 0 [.ref (P.1 + 16), .ref (P.1 + 26)]) [] h (fun rv h' => rv = none ∧ az_HI P az_tb h' ∧ az_same_out [(17, 1000000), (18, 1000000), (19, 1000000), (20, 1000000)] h h' ∧ True) := by
  have hl : jM [(0, .ref (P.1 + 16)), (1, .ref (P.1 + 26))] (lv_args 0 [.ref (P.1 + 16), .ref (P.1 + 26)]) := jM_args [0, 1] rfl (by decide)
  generalize lv_args 0 [.ref (P.1 + 16), .ref (P.1 + 26)] = ls at hl
  have k0 : (0 : Int32).toInt = 0 := by decide
  refine az_X_step (pc' := 1) (ls' := ls) (st' := [.int 0]) (h' := h) rfl rfl rfl ?_
  refine jm_istore_n (l' := [(2, .int 0), (0, .ref (P.1 + 16)), (1, .ref (P.1 + 26))]) rfl rfl (by decide) hl rfl rfl (fun ls1 hl1 => ?_)
  exact cp_l hxa 8 0 0 h ls1 (jM_pick hl1 [0, 1, 2] rfl) hH az_same_out.rf (by decide) (by omega)
theorem cr_ok {P : si_P} {d : Nat} {h : si_H} (hH : az_HI P az_tb h) (n m : Int32) : az_X P (d + 1) 192 0 (lv_args 0 [.ref (P.1 + 0), .int n, .int m]) [] h (fun rv h' => h' = h ∧ ∃ z : Int32, rv = some (.int z) ∧ ((z.toInt = 1 ∧ 1 ≤ n.toInt ∧ n.toInt ≤ m.toInt ∧ n.toInt ≤ ja h 12 1) ∨ (z.toInt = 0 ∧ ¬ (1 ≤ n.toInt ∧ n.toInt ≤ m.toInt ∧ n.toInt ≤ ja h 12 1)))) := by
  have hl : jM [(0, .ref (P.1 + 0)), (1, .int n), (2, .int m)] (lv_args 0 [.ref (P.1 + 0), .int n, .int m]) := jM_args [0, 1, 2] rfl (by decide)
  generalize lv_args 0 [.ref (P.1 + 0), .int n, .int m] = ls at hl
  have k0 : (0 : Int32).toInt = 0 := by decide
  have k1 : (1 : Int32).toInt = 1 := by decide
  refine jm_iload_n (x := n) rfl rfl (jM_at hl 1 rfl) ?_
  refine az_X_step (pc' := 2) (ls' := ls) (st' := [.int 1, .int n]) (h' := h) rfl rfl rfl ?_
  refine jx_ic (t := 25) rfl rfl rfl (fun hc2 => ?_) (fun hc2 => ?_)
  · have g2 := jc2_lt_t hc2
    refine az_X_step (pc' := 26) (ls' := ls) (st' := [.int 0]) (h' := h) rfl rfl rfl ?_
    refine jx_retz rfl rfl rfl (by decide) ?_
    exact ⟨rfl, 0, rfl, by omega⟩
  · have g2 := jc2_lt_f hc2
    refine jm_iload_n (x := n) rfl rfl (jM_at hl 1 rfl) ?_
    refine jm_iload_n (x := m) rfl rfl (jM_at hl 2 rfl) ?_
    refine jx_ic (t := 25) rfl rfl rfl (fun hc7 => ?_) (fun hc7 => ?_)
    · have g7 := jc2_gt_t hc7
      refine az_X_step (pc' := 26) (ls' := ls) (st' := [.int 0]) (h' := h) rfl rfl rfl ?_
      refine jx_retz rfl rfl rfl (by decide) ?_
      exact ⟨rfl, 0, rfl, by omega⟩
    · have g7 := jc2_gt_f hc7
      refine jm_aload_n (x := P.1 + 0) rfl rfl (jM_at hl 0 rfl) ?_
      refine jx_gf (i := 0) rfl rfl hH (by decide) (hH.2 0 _ rfl).1 rfl (jx_rf hH rfl rfl) ?_
      refine jm_iload_n (x := n) rfl rfl (jM_at hl 1 rfl) ?_
      refine az_X_call (m' := 138) (as := [.ref (P.1 + 12), .int n]) (rest := []) rfl rfl rfl rfl rfl ?_ ?_
      · unfold si_call
        dsimp only
        rw [if_pos ⟨rfl, rfl⟩]
        show (match si_ix P h (P.1 + 12) with | some i => _ | none => none) = _
        rw [jix hH (by decide)]
        dsimp only
        rw [(hH.2 12 _ rfl).1]
        rfl
      refine (thas_ok hH n).mono ?_
      rintro rv15 h15 ⟨q15, z15, rfl, ez15⟩
      subst h15
      show az_X P _ 192 18 ls [.int z15] _ _
      refine jx_if (t := 25) rfl rfl rfl (fun hc18 => ?_) (fun hc18 => ?_)
      · have g18 := jc1_eq_t hc18
        refine az_X_step (pc' := 26) (ls' := ls) (st' := [.int 0]) (h' := h) rfl rfl rfl ?_
        refine jx_retz rfl rfl rfl (by decide) ?_
        exact ⟨rfl, 0, rfl, by omega⟩
      · have g18 := jc1_eq_f hc18
        refine az_X_step (pc' := 22) (ls' := ls) (st' := [.int 1]) (h' := h) rfl rfl rfl ?_
        refine az_X_step (pc' := 26) (ls' := ls) (st' := [.int 1]) (h' := h) rfl rfl rfl ?_
        refine jx_retz rfl rfl rfl (by decide) ?_
        exact ⟨rfl, 1, rfl, by omega⟩
theorem clocks0_ok {P : si_P} (hxa : P.2.1 < P.1) {d : Nat} {h : si_H} (hH : az_HI P az_tb h) (a : Int32) : az_X P (d + 6) 147 0 (lv_args 0 [.ref (P.1 + 0), .int a]) [] h (fun rv h' => ∃ z : Int32, rv = some (.int z) ∧ az_HI P az_tb h' ∧ az_same_out [(12, 1), (14, 1), (14, 2), (14, 3), (17, 1000000), (18, 1000000), (19, 1000000), (20, 1000000), (27, 1000000), (28, 1000000), (29, 1000000), (30, 1000000)] h h' ∧ (((1 ≤ a.toInt ∧ a.toInt ≤ 120 ∧ a.toInt ≤ ja h 12 1) ∧ ja h' 12 1 = 0 ∧ jLN (fun i : Int => if 0 ≤ i ∧ i < a.toInt then ja h 13 i else -1) (ja h 1 0 * ja h 1 1) a.toInt 9 (fun _ => false) 0 0 z.toInt) ∨ (¬ (1 ≤ a.toInt ∧ a.toInt ≤ 120 ∧ a.toInt ≤ ja h 12 1) ∧ ja h' 12 1 = ja h 12 1 ∧ z.toInt = -1))) := by
  have b13 : ∀ i : Int, 0 ≤ i → i < 260 → 0 ≤ ja h 13 i ∧ ja h 13 i ≤ 255 := fun i i0 i1 => ja_row hH (i := 13) (r := (260, 0, 255)) rfl i0 i1
  have b12 : 0 ≤ ja h 12 1 ∧ ja h 12 1 ≤ 260 := ja_bd hH (i := 12) (k := 1) rfl
  have hl : jM [(0, .ref (P.1 + 0)), (1, .int a)] (lv_args 0 [.ref (P.1 + 0), .int a]) := jM_args [0, 1] rfl (by decide)
  generalize lv_args 0 [.ref (P.1 + 0), .int a] = ls at hl
  have km1 : ((-1) : Int32).toInt = (-1) := by decide
  have k0 : (0 : Int32).toInt = 0 := by decide
  have k120 : (120 : Int32).toInt = 120 := by decide
  refine jm_aload_n (x := P.1 + 0) rfl rfl (jM_at hl 0 rfl) ?_
  refine jm_iload_n (x := a) rfl rfl (jM_at hl 1 rfl) ?_
  refine az_X_step (pc' := 4) (ls' := ls) (st' := [.int 120, .int a, .ref (P.1 + 0)]) (h' := h) rfl rfl rfl ?_
  refine az_X_call (m' := 192) (as := [.ref (P.1 + 0), .int a, .int 120]) (rest := []) rfl rfl rfl rfl rfl ?_ ?_
  · unfold si_call
    dsimp only
    rw [if_pos ⟨rfl, rfl⟩]
    show (match si_ix P h (P.1 + 0) with | some i => _ | none => none) = _
    rw [jix hH (by decide)]
    dsimp only
    rw [(hH.2 0 _ rfl).1]
    rfl
  refine (cr_ok hH a 120).mono ?_
  rintro rv4 h4 ⟨q4, z4, rfl, ez4⟩
  subst h4
  show az_X P _ 147 7 ls [.int z4] _ _
  refine jx_if (t := 12) rfl rfl rfl (fun hc7 => ?_) (fun hc7 => ?_)
  · have g7 := jc1_ne_t hc7
    refine jm_aload_n (x := P.1 + 0) rfl rfl (jM_at hl 0 rfl) ?_
    refine jx_gf (i := 0) rfl rfl hH (by decide) (hH.2 0 _ rfl).1 rfl (jx_rf hH rfl rfl) ?_
    refine jm_iload_n (x := a) rfl rfl (jM_at hl 1 rfl) ?_
    refine az_X_call (m' := 119) (as := [.ref (P.1 + 14), .int a]) (rest := []) rfl rfl rfl rfl rfl ?_ ?_
    · unfold si_call
      dsimp only
      rw [if_pos ⟨rfl, rfl⟩]
      show (match si_ix P h (P.1 + 14) with | some i => _ | none => none) = _
      rw [jix hH (by decide)]
      dsimp only
      rw [(hH.2 14 _ rfl).1]
      rfl
    refine (rb_ok hH a (by omega)).mono ?_
    rintro rv17 h17 ⟨rfl, hH17, hs17, f17⟩
    show az_X P _ 147 20 ls [] _ _
    refine jm_aload_n (x := P.1 + 0) rfl rfl (jM_at hl 0 rfl) ?_
    refine jx_gf (i := 0) rfl rfl hH17 (by decide) (hH17.2 0 _ rfl).1 rfl (jx_rf hH17 rfl rfl) ?_
    refine jm_aload_n (x := P.1 + 0) rfl rfl (jM_at hl 0 rfl) ?_
    refine jx_gf (i := 0) rfl rfl hH17 (by decide) (hH17.2 0 _ rfl).1 rfl (jx_rf hH17 rfl rfl) ?_
    refine az_X_call (m' := 44) (as := [.ref (P.1 + 26), .ref (P.1 + 14)]) (rest := []) rfl rfl rfl rfl rfl ?_ ?_
    · unfold si_call
      dsimp only
      rw [if_pos ⟨rfl, rfl⟩]
      show (match si_ix P h17 (P.1 + 26) with | some i => _ | none => none) = _
      rw [jix hH17 (by decide)]
      dsimp only
      rw [(hH17.2 26 _ rfl).1]
      rfl
    refine (rd_ok2 (d := d) hxa hH17 (n := a.toInt) (hh := (fun i : Int => if 0 ≤ i ∧ i < a.toInt then ja h 13 i else -1)) (by omega) (fun i => by
      show (if 0 ≤ i ∧ i < a.toInt then ja h 13 i else -1) ≤ 255
      split
      · rename_i q
        have := b13 i q.1 (by omega)
        omega
      · omega) f17.1 f17.2.1 f17.2.2 ⟨fun i i0 i1 => by rw [jso_row (i := 13) hs17 (by decide)]; show ja h 13 i = if 0 ≤ i ∧ i < a.toInt then ja h 13 i else -1; rw [if_pos ⟨i0, i1⟩], fun i i1 => by show (if 0 ≤ i ∧ i < a.toInt then ja h 13 i else -1) = -1; rw [if_neg (by omega)]⟩).mono ?_
    rintro rv28 h28 ⟨z28, rfl, hH28, hs28, f28⟩
    show az_X P _ 147 31 ls [.int z28] _ _
    have y0 : ja h17 1 0 * ja h17 1 1 = ja h 1 0 * ja h 1 1 := by rw [jso hs17 (by decide), jso hs17 (by decide)]
    have k120b : (120 : Int32).toInt = 120 := by decide
    refine jm_istore_n (l' := [(2, .int z28), (0, .ref (P.1 + 0)), (1, .int a)]) rfl rfl (by decide) hl rfl rfl (fun ls31 hl31 => ?_)
    refine jm_aload_n (x := P.1 + 0) rfl rfl (jM_at hl31 1 rfl) ?_
    refine jx_gf (i := 0) rfl rfl hH28 (by decide) (hH28.2 0 _ rfl).1 rfl (jx_rf hH28 rfl rfl) ?_
    refine az_X_call (m' := 142) (as := [.ref (P.1 + 12)]) (rest := []) rfl rfl rfl rfl rfl ?_ ?_
    · unfold si_call
      dsimp only
      rw [if_pos ⟨rfl, rfl⟩]
      show (match si_ix P h28 (P.1 + 12) with | some i => _ | none => none) = _
      rw [jix hH28 (by decide)]
      dsimp only
      rw [(hH28.2 12 _ rfl).1]
      rfl
    refine (tempty_ok hH28).mono ?_
    rintro rv36 h36 ⟨rfl, hH36, hs36, f36⟩
    show az_X P _ 147 39 ls31 [] _ _
    refine jm_iload_n (x := z28) rfl rfl (jM_at hl31 0 rfl) ?_
    refine jx_if (t := 54) rfl rfl rfl (fun hc40 => ?_) (fun hc40 => ?_)
    · have g40 := jc1_lt_t hc40
      refine jm_iload_n (x := z28) rfl rfl (jM_at hl31 0 rfl) ?_
      refine jx_ret rfl rfl rfl ?_
      exact ⟨z28, rfl, hH36, ((hs17.sub (by decide)).tr ((hs28.sub (by decide)).tr (hs36.sub (by decide)))), Or.inl ⟨by omega, f36, by rw [← y0]; exact f28⟩⟩
    · have g40 := jc1_lt_f hc40
      refine jm_aload_n (x := P.1 + 0) rfl rfl (jM_at hl31 1 rfl) ?_
      refine jx_gf (i := 0) rfl rfl hH36 (by decide) (hH36.2 0 _ rfl).1 rfl (jx_rf hH36 rfl rfl) ?_
      refine jm_aload_n (x := P.1 + 0) rfl rfl (jM_at hl31 1 rfl) ?_
      refine jx_gf (i := 0) rfl rfl hH36 (by decide) (hH36.2 0 _ rfl).1 rfl (jx_rf hH36 rfl rfl) ?_
      refine az_X_call (m' := 41) (as := [.ref (P.1 + 16), .ref (P.1 + 26)]) (rest := []) rfl rfl rfl rfl rfl ?_ ?_
      · unfold si_call
        dsimp only
        rw [if_pos ⟨rfl, rfl⟩]
        show (match si_ix P h36 (P.1 + 16) with | some i => _ | none => none) = _
        rw [jix hH36 (by decide)]
        dsimp only
        rw [(hH36.2 16 _ rfl).1]
        rfl
      refine (cp_ok hxa hH36).mono ?_
      rintro rv51 h51 ⟨rfl, hH51, hs51, f51⟩
      show az_X P _ 147 54 ls31 [] _ _
      refine jm_iload_n (x := z28) rfl rfl (jM_at hl31 0 rfl) ?_
      refine jx_ret rfl rfl rfl ?_
      exact ⟨z28, rfl, hH51, ((hs17.sub (by decide)).tr ((hs28.sub (by decide)).tr ((hs36.sub (by decide)).tr (hs51.sub (by decide))))), Or.inl ⟨by omega, ((jso hs51 (by decide)).trans f36), by rw [← y0]; exact f28⟩⟩
  · have g7 := jc1_ne_f hc7
    refine az_X_step (pc' := 11) (ls' := ls) (st' := [.int (-1)]) (h' := h) rfl rfl rfl ?_
    refine jx_ret rfl rfl rfl ?_
    exact ⟨(-1), rfl, hH, az_same_out.rf, Or.inr ⟨by omega, rfl, by decide⟩⟩
/-! which clocks are told, as bits -/
theorem jbit1 : ∀ x, x < 256 → ∀ c, c < 8 → ((nI x >>> (nI c &&& 31)) &&& 1).toInt = ((x / 2 ^ c % 2 : Nat) : Int) := by decide +kernel
theorem jbit2 : ∀ x, x < 256 → ∀ c, c < 8 → (nI x ||| ((1 : Int32) <<< (nI c &&& 31))).toInt = ((x ||| 2 ^ c : Nat) : Int) ∧ x ||| 2 ^ c < 256 := by decide +kernel
theorem jbit3 : ∀ x, x < 256 → ∀ c, c < 8 → ∀ d, d < 8 → (x ||| 2 ^ c) / 2 ^ d % 2 = if d = c then 1 else x / 2 ^ d % 2 := by decide +kernel
def jBT (x : Int) (S : Nat → Bool) : Prop := ∃ X : Nat, x = X ∧ X < 256 ∧ ∀ c : Nat, c < 8 → (X / 2 ^ c % 2 = 1 ↔ S c = true)
theorem jnI {z : Int32} {X : Nat} (h : z.toInt = X) (hX : X < 256) : z = nI X := Int32.toInt_inj.mp (h.trans (nI_toInt (by omega)).symm)
theorem jBT_has {x c : Int32} {S : Nat → Bool} (hB : jBT x.toInt S) (hc : 0 ≤ c.toInt ∧ c.toInt < 8) : ((x >>> (c &&& 31)) &&& 1).toInt = 1 ↔ S c.toInt.toNat = true := by
  obtain ⟨X, e, hX, hS⟩ := hB
  have ex := jnI e hX
  have ec : c = nI c.toInt.toNat := jnI (by omega) (by omega)
  rw [← hS c.toInt.toNat (by omega), ex]
  have q := jbit1 X hX c.toInt.toNat (by omega)
  rw [← ec] at q
  rw [q]
  omega
theorem jBT_or {x c : Int32} {S : Nat → Bool} (hB : jBT x.toInt S) (hc : 0 ≤ c.toInt ∧ c.toInt < 8) : (0 ≤ (x ||| (1 <<< (c &&& 31))).toInt ∧ (x ||| (1 <<< (c &&& 31))).toInt ≤ 255) ∧ jBT (x ||| (1 <<< (c &&& 31))).toInt (jad S c.toInt.toNat) := by
  obtain ⟨X, e, hX, hS⟩ := hB
  have ex := jnI e hX
  have ec : c = nI c.toInt.toNat := jnI (by omega) (by omega)
  have q := jbit2 X hX c.toInt.toNat (by omega)
  rw [← ec, ← ex] at q
  refine ⟨by rw [q.1]; omega, X ||| 2 ^ c.toInt.toNat, q.1, q.2, fun d hd => ?_⟩
  rw [jbit3 X hX c.toInt.toNat (by omega) d hd]
  unfold jad
  by_cases h : d = c.toInt.toNat
  · rw [if_pos h, if_pos h]
    simp
  · rw [if_neg h, if_neg h]
    exact hS d hd
theorem rhas_ok {P : si_P} {d : Nat} {h : si_H} (x c : Int32) : az_X P d 206 0 (lv_args 0 [.int x, .int c]) [] h (fun rv h' => h' = h ∧ ∃ z : Int32, rv = some (.int z) ∧ ((z.toInt = 1 ∧ ((x >>> (c &&& 31)) &&& 1).toInt = 1) ∨ (z.toInt = 0 ∧ ((x >>> (c &&& 31)) &&& 1).toInt ≠ 1))) := by
  have hl : jM [(0, .int x), (1, .int c)] (lv_args 0 [.int x, .int c]) := jM_args [0, 1] rfl (by decide)
  generalize lv_args 0 [.int x, .int c] = ls at hl
  have k0 : (0 : Int32).toInt = 0 := by decide
  have k1 : (1 : Int32).toInt = 1 := by decide
  refine jm_iload_n (x := x) rfl rfl (jM_at hl 0 rfl) ?_
  refine jm_iload_n (x := c) rfl rfl (jM_at hl 1 rfl) ?_
  refine az_X_step (pc' := 3) (ls' := ls) (st' := [.int (x >>> (c &&& 31))]) (h' := h) rfl rfl rfl ?_
  refine az_X_step (pc' := 4) (ls' := ls) (st' := [.int 1, .int (x >>> (c &&& 31))]) (h' := h) rfl rfl rfl ?_
  refine az_X_step (pc' := 5) (ls' := ls) (st' := [.int ((x >>> (c &&& 31)) &&& 1)]) (h' := h) rfl rfl rfl ?_
  refine az_X_step (pc' := 6) (ls' := ls) (st' := [.int 1, .int ((x >>> (c &&& 31)) &&& 1)]) (h' := h) rfl rfl rfl ?_
  refine jx_ic (t := 13) rfl rfl rfl (fun hc6 => ?_) (fun hc6 => ?_)
  · have g6 := jc2_ne_t hc6
    refine az_X_step (pc' := 14) (ls' := ls) (st' := [.int 0]) (h' := h) rfl rfl rfl ?_
    refine jx_retz rfl rfl rfl (by decide) ?_
    exact ⟨rfl, 0, rfl, by omega⟩
  · have g6 := jc2_ne_f hc6
    refine az_X_step (pc' := 10) (ls' := ls) (st' := [.int 1]) (h' := h) rfl rfl rfl ?_
    refine az_X_step (pc' := 14) (ls' := ls) (st' := [.int 1]) (h' := h) rfl rfl rfl ?_
    refine jx_retz rfl rfl rfl (by decide) ?_
    exact ⟨rfl, 1, rfl, by omega⟩
theorem bt_ok {P : si_P} {d : Nat} {h : si_H} (hH : az_HI P az_tb h) (n : Int32) (hn : 1 ≤ n.toInt ∧ n.toInt ≤ 240) : az_X P d 260 0 (lv_args 0 [.ref (P.1 + 60), .int n]) [] h (fun rv h' => rv = none ∧ az_HI P az_tb h' ∧ az_same_out [(60, 17), (60, 18), (60, 22), (60, 24)] h h' ∧ ja h' 60 17 = 0 ∧ ja h' 60 18 = n.toInt) := by
  have hl : jM [(0, .ref (P.1 + 60)), (1, .int n)] (lv_args 0 [.ref (P.1 + 60), .int n]) := jM_args [0, 1] rfl (by decide)
  generalize lv_args 0 [.ref (P.1 + 60), .int n] = ls at hl
  have k0 : (0 : Int32).toInt = 0 := by decide
  refine jm_aload_n (x := P.1 + 60) rfl rfl (jM_at hl 0 rfl) ?_
  refine az_X_step (pc' := 2) (ls' := ls) (st' := [.int 0, .ref (P.1 + 60)]) (h' := h) rfl rfl rfl ?_
  refine jn_pf (i := 60) (k := 17) (x := 0) rfl rfl hH (by decide) rfl (hH.2 60 _ rfl).1 rfl rfl (by decide) (by decide) (by show 0 ≤ _; omega) (by show _ ≤ 240; omega) (fun h2 hH2 hs2 (t2 : ja h2 60 17 = (0 : Int32).toInt) => ?_)
  replace t2 : ja h2 60 17 = 0 := t2.trans (by decide)
  refine jm_aload_n (x := P.1 + 60) rfl rfl (jM_at hl 0 rfl) ?_
  refine jm_iload_n (x := n) rfl rfl (jM_at hl 1 rfl) ?_
  refine jn_pf (i := 60) (k := 18) (x := n) rfl rfl hH2 (by decide) rfl (hH2.2 60 _ rfl).1 rfl rfl (by decide) (by decide) (by show 0 ≤ _; omega) (by show _ ≤ 240; omega) (fun h7 hH7 hs7 (t7 : ja h7 60 18 = n.toInt) => ?_)
  refine jm_aload_n (x := P.1 + 60) rfl rfl (jM_at hl 0 rfl) ?_
  refine az_X_step (pc' := 12) (ls' := ls) (st' := [.int 0, .ref (P.1 + 60)]) (h' := h7) rfl rfl rfl ?_
  refine jn_pf (i := 60) (k := 22) (x := 0) rfl rfl hH7 (by decide) rfl (hH7.2 60 _ rfl).1 rfl rfl (by decide) (by decide) (by show 0 ≤ _; omega) (by show _ ≤ 240; omega) (fun h12 hH12 hs12 (t12 : ja h12 60 22 = (0 : Int32).toInt) => ?_)
  replace t12 : ja h12 60 22 = 0 := t12.trans (by decide)
  refine jm_aload_n (x := P.1 + 60) rfl rfl (jM_at hl 0 rfl) ?_
  refine az_X_step (pc' := 17) (ls' := ls) (st' := [.int 0, .ref (P.1 + 60)]) (h' := h12) rfl rfl rfl ?_
  refine jn_pf (i := 60) (k := 24) (x := 0) rfl rfl hH12 (by decide) rfl (hH12.2 60 _ rfl).1 rfl rfl (by decide) (by decide) (by show 0 ≤ _; omega) (by show _ ≤ 16; omega) (fun h17 hH17 hs17 (t17 : ja h17 60 24 = (0 : Int32).toInt) => ?_)
  replace t17 : ja h17 60 24 = 0 := t17.trans (by decide)
  refine jn_retv rfl rfl rfl ?_
  exact ⟨rfl, hH17, ((hs2.sub (by decide)).tr ((hs7.sub (by decide)).tr ((hs12.sub (by decide)).tr (hs17.sub (by decide))))), ((jso hs17 (by decide)).trans ((jso hs12 (by decide)).trans ((jso hs7 (by decide)).trans t2))), ((jso hs17 (by decide)).trans ((jso hs12 (by decide)).trans t7))⟩
theorem rc_ok {P : si_P} {d : Nat} {h : si_H} (hH : az_HI P az_tb h) {n p : Int} {hh : Int → Int} (hn : 1 ≤ n ∧ n ≤ 240) (e8 : ja h 60 18 = n) (e7 : ja h 60 17 = p) (hb : jBR h n hh) (hh1 : ∀ i : Int, hh i ≤ 255) {S : Nat → Bool} (hB : jBT (ja h 60 45) S) (hm : 0 ≤ ja h 60 47 ∧ ja h 60 47 ≤ 100) (hy : ja h 60 9 ≤ 1440) : az_X P (d + 4) 268 0 (lv_args 0 [.ref (P.1 + 60)]) [] h (fun rv h' => ∃ z : Int32, rv = some (.int z) ∧ az_HI P az_tb h' ∧ az_same_out [(60, 17), (60, 19), (60, 20), (60, 45), (60, 47), (85, 1000000), (86, 1000000)] h h' ∧ ((¬ (97 ≤ hh p ∧ hh p ≤ 104) ∧ z.toInt = 0 ∧ ja h' 60 19 = -1000 - p) ∨ ((97 ≤ hh p ∧ hh p ≤ 104) ∧ S (hh p - 97).toNat = true ∧ z.toInt = 0 ∧ ja h' 60 19 = -6000 - p) ∨ ((97 ≤ hh p ∧ hh p ≤ 104) ∧ S (hh p - 97).toNat = false ∧ ∃ f q : Int, jLI hh (ja h 60 9) (p + 1) f q ∧ ((f ≠ 0 ∧ z.toInt = 0 ∧ ja h' 60 19 = f) ∨ (f = 0 ∧ z.toInt = 1 ∧ ja h' 60 17 = q ∧ ja h' 60 47 = ja h 60 47 + 1 ∧ jBT (ja h' 60 45) (jad S (hh p - 97).toNat)))))) := by
  have bp : 0 ≤ ja h 60 17 ∧ ja h 60 17 ≤ 240 := ja_bd hH (i := 60) (k := 17) rfl
  have hbp := jBR_bd hb (p := p) (by omega)
  have hl : jM [(0, .ref (P.1 + 60))] (lv_args 0 [.ref (P.1 + 60)]) := jM_args [0] rfl (by decide)
  generalize lv_args 0 [.ref (P.1 + 60)] = ls at hl
  have k0 : (0 : Int32).toInt = 0 := by decide
  have k1 : (1 : Int32).toInt = 1 := by decide
  have k2 : (2 : Int32).toInt = 2 := by decide
  have k6 : (6 : Int32).toInt = 6 := by decide
  have k7 : (7 : Int32).toInt = 7 := by decide
  have k43 : (43 : Int32).toInt = 43 := by decide
  have k45 : (45 : Int32).toInt = 45 := by decide
  have k97 : (97 : Int32).toInt = 97 := by decide
  refine jm_aload_n (x := P.1 + 60) rfl rfl (jM_at hl 0 rfl) ?_
  refine az_X_call (m' := 240) (as := [.ref (P.1 + 60)]) (rest := []) rfl rfl rfl rfl rfl ?_ ?_
  · unfold si_call
    dsimp only
    rw [if_pos ⟨rfl, rfl⟩]
    show (match si_ix P h (P.1 + 60) with | some i => _ | none => none) = _
    rw [jix hH (by decide)]
    dsimp only
    rw [(hH.2 60 _ rfl).1]
    rfl
  refine (rh_ok hH hn e8 e7 hb).mono ?_
  rintro rv1 h1 ⟨q1, z1, rfl, ez1⟩
  subst h1
  show az_X P _ 268 4 ls [.int z1] _ _
  refine az_X_step (pc' := 6) (ls' := ls) (st' := [.int 97, .int z1]) (h' := h) rfl rfl rfl ?_
  refine jn_sub (a := z1) (b := 97) rfl rfl (by omega) (by omega) (fun z6 ez6 => ?_)
  rw [show (97 : Int32).toInt = 97 by decide] at ez6
  refine jm_istore_n (l' := [(1, .int z6), (0, .ref (P.1 + 60))]) rfl rfl (by decide) hl rfl rfl (fun ls7 hl7 => ?_)
  refine jm_iload_n (x := z6) rfl rfl (jM_at hl7 0 rfl) ?_
  refine az_X_step (pc' := 10) (ls' := ls7) (st' := [.int 0, .int z6]) (h' := h) rfl rfl rfl ?_
  refine az_X_step (pc' := 12) (ls' := ls7) (st' := [.int 7, .int 0, .int z6]) (h' := h) rfl rfl rfl ?_
  refine az_X_call (m' := 202) (as := [.int z6, .int 0, .int 7]) (rest := []) rfl rfl rfl rfl rfl rfl ?_
  refine (rin_ok z6 0 7).mono ?_
  rintro rv12 h12 ⟨q12, z12, rfl, ez12⟩
  subst h12
  show az_X P _ 268 15 ls7 [.int z12] _ _
  refine jx_if (t := 28) rfl rfl rfl (fun hc15 => ?_) (fun hc15 => ?_)
  · have g15 := jc1_ne_t hc15
    have lett : (97 ≤ hh p ∧ hh p ≤ 104) ∧ z6.toInt = hh p - 97 := by
      rcases ez12 with ⟨-, a, b⟩ | ⟨a, -⟩
      · exact ⟨by omega, by omega⟩
      · exact absurd a g15
    have ecn : z6.toInt.toNat = (hh p - 97).toNat := by rw [lett.2]
    
    refine jm_aload_n (x := P.1 + 60) rfl rfl (jM_at hl7 1 rfl) ?_
    refine jn_gf (i := 60) (k := 45) rfl rfl hH (by decide) (hH.2 60 _ rfl).1 rfl rfl (fun z29 (ez29 : z29.toInt = ja h 60 45) (bz29 : 0 ≤ z29.toInt ∧ z29.toInt ≤ 255) => ?_)
    refine jm_iload_n (x := z6) rfl rfl (jM_at hl7 0 rfl) ?_
    refine az_X_call (m' := 206) (as := [.int z29, .int z6]) (rest := []) rfl rfl rfl rfl rfl rfl ?_
    refine (rhas_ok z29 z6).mono ?_
    rintro rv33 h33 ⟨q33, z33, rfl, ez33⟩
    subst h33
    show az_X P _ 268 36 ls7 [.int z33] _ _
    have hB29 : jBT z29.toInt S := by rw [ez29]; exact hB
    have hs29 := jBT_has hB29 (c := z6) (by omega)
    
    refine jx_if (t := 50) rfl rfl rfl (fun hc36 => ?_) (fun hc36 => ?_)
    · have g36 := jc1_eq_t hc36
      have nS : S (hh p - 97).toNat = false := by
        rcases ez33 with ⟨a, -⟩ | ⟨-, a⟩
        · exact absurd g36 (by omega)
        · cases q : S (hh p - 97).toNat
          · rfl
          · rw [← ecn] at q
            exact absurd (hs29.mpr q) a
      have hpn := jBR_lt hb (p := p) (by omega)
      refine jm_aload_n (x := P.1 + 60) rfl rfl (jM_at hl7 1 rfl) ?_
      refine jm_aload_n (x := P.1 + 60) rfl rfl (jM_at hl7 1 rfl) ?_
      refine jn_gf (i := 60) (k := 17) rfl rfl hH (by decide) (hH.2 60 _ rfl).1 rfl rfl (fun z52 (ez52 : z52.toInt = ja h 60 17) (bz52 : 0 ≤ z52.toInt ∧ z52.toInt ≤ 240) => ?_)
      refine az_X_step (pc' := 56) (ls' := ls7) (st' := [.int 1, .int z52, .ref (P.1 + 60)]) (h' := h) rfl rfl rfl ?_
      refine jn_add (a := z52) (b := 1) rfl rfl (by omega) (by omega) (fun z56 ez56 => ?_)
      rw [show (1 : Int32).toInt = 1 by decide] at ez56
      refine jn_pf (i := 60) (k := 17) (x := z56) rfl rfl hH (by decide) rfl (hH.2 60 _ rfl).1 rfl rfl (by decide) (by decide) (by show 0 ≤ _; omega) (by show _ ≤ 240; omega) (fun h57 hH57 hs57 (t57 : ja h57 60 17 = z56.toInt) => ?_)
      refine jm_aload_n (x := P.1 + 60) rfl rfl (jM_at hl7 1 rfl) ?_
      refine az_X_call (m' := 267) (as := [.ref (P.1 + 60)]) (rest := []) rfl rfl rfl rfl rfl ?_ ?_
      · unfold si_call
        dsimp only
        rw [if_pos ⟨rfl, rfl⟩]
        show (match si_ix P h57 (P.1 + 60) with | some i => _ | none => none) = _
        rw [jix hH57 (by decide)]
        dsimp only
        rw [(hH57.2 60 _ rfl).1]
        rfl
      refine (ri_ok hH57 hn ((jso hs57 (by decide)).trans e8) (t57.trans (show _ = p + 1 by omega)) (jBR_so hs57 (by decide) hb) hh1).mono ?_
      rintro rv61 h61 ⟨z61, rfl, hH61, hs61, f61⟩
      show az_X P _ 268 64 ls7 [.int z61] _ _
      have r9 : ja h57 60 9 = ja h 60 9 := jso hs57 (by decide)
      refine jx_if (t := 69) rfl rfl rfl (fun hc64 => ?_) (fun hc64 => ?_)
      · have g64 := jc1_ne_t hc64
        refine jm_aload_n (x := P.1 + 60) rfl rfl (jM_at hl7 1 rfl) ?_
        refine jx_gf (i := 60) rfl rfl hH61 (by decide) (hH61.2 60 _ rfl).1 rfl (jx_rf hH61 rfl rfl) ?_
        refine jm_iload_n (x := z6) rfl rfl (jM_at hl7 0 rfl) ?_
        refine jm_aload_n (x := P.1 + 60) rfl rfl (jM_at hl7 1 rfl) ?_
        refine jn_gf (i := 60) (k := 20) rfl rfl hH61 (by decide) (hH61.2 60 _ rfl).1 rfl rfl (fun z75 (ez75 : z75.toInt = ja h61 60 20) (bz75 : 0 ≤ z75.toInt ∧ z75.toInt ≤ 99999) => ?_)
        have b75 : 0 ≤ z75.toInt ∧ z75.toInt ≤ 1439 := by
          obtain ⟨ft, qt, vt, w1, w2⟩ := f61
          rw [r9] at w1
          rcases w2 with ⟨w3, w4, w5, w6⟩ | ⟨-, w4, -⟩
          · subst w3
            have := jTI_q (by omega) w1
            omega
          · exact absurd w4 g64
        refine jn_ias (i := 85) (x := z6) (v := z75) rfl rfl hH61 (by decide) rfl (by omega) (by show _ < ((8 : Nat) : Int); omega) (by show 0 ≤ _; omega) (by show _ ≤ 1439; omega) (fun h78 hH78 hs78 t78 u78 => ?_)
        refine jm_aload_n (x := P.1 + 60) rfl rfl (jM_at hl7 1 rfl) ?_
        refine jx_gf (i := 60) rfl rfl hH78 (by decide) (hH78.2 60 _ rfl).1 rfl (jx_rf hH78 rfl rfl) ?_
        refine jm_iload_n (x := z6) rfl rfl (jM_at hl7 0 rfl) ?_
        refine az_X_step (pc' := 85) (ls' := ls7) (st' := [.int 0, .int z6, .ref (P.1 + 86)]) (h' := h78) rfl rfl rfl ?_
        refine jn_ias (i := 86) (x := z6) (v := 0) rfl rfl hH78 (by decide) rfl (by omega) (by show _ < ((8 : Nat) : Int); omega) (by show (-99) ≤ _; omega) (by show _ ≤ 99; omega) (fun h85 hH85 hs85 t85 u85 => ?_)
        refine jm_aload_n (x := P.1 + 60) rfl rfl (jM_at hl7 1 rfl) ?_
        refine jm_aload_n (x := P.1 + 60) rfl rfl (jM_at hl7 1 rfl) ?_
        refine jn_gf (i := 60) (k := 45) rfl rfl hH85 (by decide) (hH85.2 60 _ rfl).1 rfl rfl (fun z88 (ez88 : z88.toInt = ja h85 60 45) (bz88 : 0 ≤ z88.toInt ∧ z88.toInt ≤ 255) => ?_)
        replace ez88 : z88.toInt = ja h 60 45 := ez88.trans ((jso hs85 (by decide)).trans ((jso hs78 (by decide)).trans ((jso hs61 (by decide)).trans (jso hs57 (by decide)))))
        refine az_X_step (pc' := 92) (ls' := ls7) (st' := [.int 1, .int z88, .ref (P.1 + 60)]) (h' := h85) rfl rfl rfl ?_
        refine jm_iload_n (x := z6) rfl rfl (jM_at hl7 0 rfl) ?_
        refine az_X_step (pc' := 94) (ls' := ls7) (st' := [.int (1 <<< (z6 &&& 31)), .int z88, .ref (P.1 + 60)]) (h' := h85) rfl rfl rfl ?_
        refine az_X_step (pc' := 95) (ls' := ls7) (st' := [.int (z88 ||| (1 <<< (z6 &&& 31))), .ref (P.1 + 60)]) (h' := h85) rfl rfl rfl ?_
        have hB88 : jBT z88.toInt S := by rw [ez88]; exact hB
        have hor := (jBT_or hB88 (c := z6) (by omega)).1
        refine jn_pf (i := 60) (k := 45) (x := (z88 ||| (1 <<< (z6 &&& 31)))) rfl rfl hH85 (by decide) rfl (hH85.2 60 _ rfl).1 rfl rfl (by decide) (by decide) (by show 0 ≤ _; exact hor.1) (by show _ ≤ 255; exact hor.2) (fun h95 hH95 hs95 (t95 : ja h95 60 45 = (z88 ||| (1 <<< (z6 &&& 31))).toInt) => ?_)
        refine jm_aload_n (x := P.1 + 60) rfl rfl (jM_at hl7 1 rfl) ?_
        refine jm_aload_n (x := P.1 + 60) rfl rfl (jM_at hl7 1 rfl) ?_
        refine jn_gf (i := 60) (k := 47) rfl rfl hH95 (by decide) (hH95.2 60 _ rfl).1 rfl rfl (fun z100 (ez100 : z100.toInt = ja h95 60 47) (bz100 : (-2147483648) ≤ z100.toInt ∧ z100.toInt ≤ 2147483647) => ?_)
        replace ez100 : z100.toInt = ja h 60 47 := ez100.trans ((jso hs95 (by decide)).trans ((jso hs85 (by decide)).trans ((jso hs78 (by decide)).trans ((jso hs61 (by decide)).trans (jso hs57 (by decide))))))
        refine az_X_step (pc' := 104) (ls' := ls7) (st' := [.int 1, .int z100, .ref (P.1 + 60)]) (h' := h95) rfl rfl rfl ?_
        refine jn_add (a := z100) (b := 1) rfl rfl (by omega) (by omega) (fun z104 ez104 => ?_)
        rw [show (1 : Int32).toInt = 1 by decide] at ez104
        refine jn_pf (i := 60) (k := 47) (x := z104) rfl rfl hH95 (by decide) rfl (hH95.2 60 _ rfl).1 rfl rfl (by decide) (by decide) (by show (-2147483648) ≤ _; omega) (by show _ ≤ 2147483647; omega) (fun h105 hH105 hs105 (t105 : ja h105 60 47 = z104.toInt) => ?_)
        refine jm_aload_n (x := P.1 + 60) rfl rfl (jM_at hl7 1 rfl) ?_
        refine az_X_call (m' := 240) (as := [.ref (P.1 + 60)]) (rest := []) rfl rfl rfl rfl rfl ?_ ?_
        · unfold si_call
          dsimp only
          rw [if_pos ⟨rfl, rfl⟩]
          show (match si_ix P h105 (P.1 + 60) with | some i => _ | none => none) = _
          rw [jix hH105 (by decide)]
          dsimp only
          rw [(hH105.2 60 _ rfl).1]
          rfl
        refine (rh_ok hH105 hn (((jso hs105 (by decide)).trans ((jso hs95 (by decide)).trans ((jso hs85 (by decide)).trans ((jso hs78 (by decide)).trans ((jso hs61 (by decide)).trans (jso hs57 (by decide))))))).trans e8) rfl (jBR_so hs105 (by decide) (jBR_so hs95 (by decide) (jBR_so hs85 (by decide) (jBR_so hs78 (by decide) (jBR_so hs61 (by decide) (jBR_so hs57 (by decide) hb))))))).mono ?_
        rintro rv109 h109 ⟨q109, z109, rfl, ez109⟩
        subst h109
        show az_X P _ 268 112 ls7 [.int z109] _ _
        refine az_X_step (pc' := 114) (ls' := ls7) (st' := [.int 43, .int z109]) (h' := h105) rfl rfl rfl ?_
        refine jx_ic (t := 128) rfl rfl rfl (fun hc114 => ?_) (fun hc114 => ?_)
        · have g114 := jc2_eq_t hc114
          refine jm_aload_n (x := P.1 + 60) rfl rfl (jM_at hl7 1 rfl) ?_
          refine az_X_call (m' := 240) (as := [.ref (P.1 + 60)]) (rest := []) rfl rfl rfl rfl rfl ?_ ?_
          · unfold si_call
            dsimp only
            rw [if_pos ⟨rfl, rfl⟩]
            show (match si_ix P h105 (P.1 + 60) with | some i => _ | none => none) = _
            rw [jix hH105 (by decide)]
            dsimp only
            rw [(hH105.2 60 _ rfl).1]
            rfl
          refine (rh_ok hH105 hn (((jso hs105 (by decide)).trans ((jso hs95 (by decide)).trans ((jso hs85 (by decide)).trans ((jso hs78 (by decide)).trans ((jso hs61 (by decide)).trans (jso hs57 (by decide))))))).trans e8) rfl (jBR_so hs105 (by decide) (jBR_so hs95 (by decide) (jBR_so hs85 (by decide) (jBR_so hs78 (by decide) (jBR_so hs61 (by decide) (jBR_so hs57 (by decide) hb))))))).mono ?_
          rintro rv129 h129 ⟨q129, z129, rfl, ez129⟩
          subst h129
          show az_X P _ 268 132 ls7 [.int z129] _ _
          refine az_X_step (pc' := 134) (ls' := ls7) (st' := [.int 45, .int z129]) (h' := h105) rfl rfl rfl ?_
          refine jx_ic (t := 141) rfl rfl rfl (fun hc134 => ?_) (fun hc134 => ?_)
          · have g134 := jc2_ne_t hc134
            refine az_X_step (pc' := 142) (ls' := ls7) (st' := [.int 0]) (h' := h105) rfl rfl rfl ?_
            refine jm_istore_n (l' := [(2, .int 0), (1, .int z6), (0, .ref (P.1 + 60))]) rfl rfl (by decide) hl7 rfl rfl (fun ls142 hl142 => ?_)
            refine jm_aload_n (x := P.1 + 60) rfl rfl (jM_at hl142 2 rfl) ?_
            refine jm_aload_n (x := P.1 + 60) rfl rfl (jM_at hl142 2 rfl) ?_
            refine jn_gf (i := 60) (k := 17) rfl rfl hH105 (by decide) (hH105.2 60 _ rfl).1 rfl rfl (fun z145 (ez145 : z145.toInt = ja h105 60 17) (bz145 : 0 ≤ z145.toInt ∧ z145.toInt ≤ 240) => ?_)
            replace ez145 : z145.toInt = ja h61 60 17 := ez145.trans ((jso hs105 (by decide)).trans ((jso hs95 (by decide)).trans ((jso hs85 (by decide)).trans (jso hs78 (by decide)))))
            refine az_X_step (pc' := 149) (ls' := ls142) (st' := [.int 1, .int z145, .ref (P.1 + 60)]) (h' := h105) rfl rfl rfl ?_
            refine jn_add (a := z145) (b := 1) rfl rfl (by omega) (by omega) (fun z149 ez149 => ?_)
            rw [show (1 : Int32).toInt = 1 by decide] at ez149
            have p105b : ja h105 60 17 = ja h61 60 17 := (jso hs105 (by decide)).trans ((jso hs95 (by decide)).trans ((jso hs85 (by decide)).trans (jso hs78 (by decide))))
            have hpn2 : ja h105 60 17 < n := by
              rcases (by omega : hh (ja h105 60 17) = 43 ∨ hh (ja h105 60 17) = 45) with q | q <;> exact jBR_lt (jBR_so hs105 (by decide) (jBR_so hs95 (by decide) (jBR_so hs85 (by decide) (jBR_so hs78 (by decide) (jBR_so hs61 (by decide) (jBR_so hs57 (by decide) hb)))))) (by omega)
            refine jn_pf (i := 60) (k := 17) (x := z149) rfl rfl hH105 (by decide) rfl (hH105.2 60 _ rfl).1 rfl rfl (by decide) (by decide) (by show 0 ≤ _; omega) (by show _ ≤ 240; omega) (fun h150 hH150 hs150 (t150 : ja h150 60 17 = z149.toInt) => ?_)
            refine jm_aload_n (x := P.1 + 60) rfl rfl (jM_at hl142 2 rfl) ?_
            refine az_X_step (pc' := 155) (ls' := ls142) (st' := [.int 2, .ref (P.1 + 60)]) (h' := h150) rfl rfl rfl ?_
            refine az_X_call (m' := 266) (as := [.ref (P.1 + 60), .int 2]) (rest := []) rfl rfl rfl rfl rfl ?_ ?_
            · unfold si_call
              dsimp only
              rw [if_pos ⟨rfl, rfl⟩]
              show (match si_ix P h150 (P.1 + 60) with | some i => _ | none => none) = _
              rw [jix hH150 (by decide)]
              dsimp only
              rw [(hH150.2 60 _ rfl).1]
              rfl
            refine (ra_ok hH150 hn (((jso hs150 (by decide)).trans ((jso hs105 (by decide)).trans ((jso hs95 (by decide)).trans ((jso hs85 (by decide)).trans ((jso hs78 (by decide)).trans ((jso hs61 (by decide)).trans (jso hs57 (by decide)))))))).trans e8) rfl (jBR_so hs150 (by decide) (jBR_so hs105 (by decide) (jBR_so hs95 (by decide) (jBR_so hs85 (by decide) (jBR_so hs78 (by decide) (jBR_so hs61 (by decide) (jBR_so hs57 (by decide) hb))))))) hh1 2 (by decide)).mono ?_
            rintro rv155 h155 ⟨z155, rfl, hH155, hs155, f155⟩
            show az_X P _ 268 158 ls142 [.int z155] _ _
            refine jx_if (t := 163) rfl rfl rfl (fun hc158 => ?_) (fun hc158 => ?_)
            · have g158 := jc1_ne_t hc158
              refine jm_aload_n (x := P.1 + 60) rfl rfl (jM_at hl142 2 rfl) ?_
              refine jx_gf (i := 60) rfl rfl hH155 (by decide) (hH155.2 60 _ rfl).1 rfl (jx_rf hH155 rfl rfl) ?_
              refine jm_iload_n (x := z6) rfl rfl (jM_at hl142 1 rfl) ?_
              refine jm_iload_n (x := 0) rfl rfl (jM_at hl142 0 rfl) ?_
              refine jn_ifd (t := 180) (c := true) rfl rfl rfl (by decide) ?_
              show az_X P _ 268 180 ls142 [.int z6, .ref (P.1 + 86)] _ _
              refine jm_aload_n (x := P.1 + 60) rfl rfl (jM_at hl142 2 rfl) ?_
              refine jn_gf (i := 60) (k := 20) rfl rfl hH155 (by decide) (hH155.2 60 _ rfl).1 rfl rfl (fun z181 (ez181 : z181.toInt = ja h155 60 20) (bz181 : 0 ≤ z181.toInt ∧ z181.toInt ≤ 99999) => ?_)
              have b184 : 0 ≤ ja h155 60 20 ∧ ja h155 60 20 ≤ 99 := by
                have q2 : (2 : Int32).toInt.toNat = 2 := by decide
                have b150 : 0 ≤ ja h150 60 17 ∧ ja h150 60 17 ≤ 240 := ja_bd hH150 (i := 60) (k := 17) rfl
                obtain ⟨f, q, v, a1, a2⟩ := f155
                rw [q2] at a1
                rcases a2 with ⟨b1, -, -, b4⟩ | ⟨-, b2, -⟩
                · subst b1
                  have := jAN_v (by omega) (by omega) a1
                  omega
                · exact absurd b2 g158
              refine jn_ias (i := 86) (x := z6) (v := z181) rfl rfl hH155 (by decide) rfl (by omega) (by show _ < ((8 : Nat) : Int); omega) (by show (-99) ≤ _; omega) (by show _ ≤ 99; omega) (fun h184 hH184 hs184 t184 u184 => ?_)
              refine az_X_step (pc' := 186) (ls' := ls142) (st' := [.int 1]) (h' := h184) rfl rfl rfl ?_
              refine jx_retz rfl rfl rfl (by decide) ?_
              obtain ⟨ft, qt, vt, w1, w2⟩ := f61
              rw [r9] at w1
              refine ⟨1, rfl, hH184, ((hs57.sub (by decide)).tr ((hs61.sub (by decide)).tr ((hs78.sub (by decide)).tr ((hs85.sub (by decide)).tr ((hs95.sub (by decide)).tr ((hs105.sub (by decide)).tr ((hs150.sub (by decide)).tr ((hs155.sub (by decide)).tr (hs184.sub (by decide)))))))))), Or.inr (Or.inr ⟨lett.1, nS, ?_⟩)⟩
              have p105 : ja h105 60 17 = ja h61 60 17 := (jso hs105 (by decide)).trans ((jso hs95 (by decide)).trans ((jso hs85 (by decide)).trans (jso hs78 (by decide))))
              have l47 : ja h184 60 47 = ja h 60 47 + 1 := ((jso hs184 (by decide)).trans ((jso hs155 (by decide)).trans ((jso hs150 (by decide)).trans t105))).trans (by omega)
              have b45 : jBT (ja h184 60 45) (jad S (hh p - 97).toNat) := by
                rw [((jso hs184 (by decide)).trans ((jso hs155 (by decide)).trans ((jso hs150 (by decide)).trans ((jso hs105 (by decide)).trans t95)))), ← ecn]
                exact (jBT_or hB88 (by omega)).2
              have q2 : (2 : Int32).toInt.toNat = 2 := by decide
              rw [q2] at f155
              obtain ⟨f, q, v, a1, a2⟩ := f155
              rcases w2 with ⟨w3, w4, w5, w6⟩ | ⟨-, w4, -⟩
              · subst w3
                have a3 : jAN hh (qt + 1) 2 f q v := by
                  rw [show qt + 1 = ja h150 60 17 by omega]
                  exact a1
                refine ⟨f, q, ⟨0, qt, vt, w1, Or.inr (Or.inr ⟨rfl, Or.inl (by rw [← w5, ← p105, ← ez109]; exact g114.trans k43), v, a3⟩)⟩, ?_⟩
                rcases a2 with ⟨b1, -, b3, -⟩ | ⟨-, b2, -⟩
                · exact Or.inr ⟨b1, by decide, (jso hs184 (by decide)).trans b3, l47, b45⟩
                · exact absurd b2 g158
              · exact absurd w4 g64
            · have g158 := jc1_ne_f hc158
              refine az_X_step (pc' := 162) (ls' := ls142) (st' := [.int 0]) (h' := h155) rfl rfl rfl ?_
              refine jx_retz rfl rfl rfl (by decide) ?_
              obtain ⟨ft, qt, vt, w1, w2⟩ := f61
              rw [r9] at w1
              refine ⟨0, rfl, hH155, ((hs57.sub (by decide)).tr ((hs61.sub (by decide)).tr ((hs78.sub (by decide)).tr ((hs85.sub (by decide)).tr ((hs95.sub (by decide)).tr ((hs105.sub (by decide)).tr ((hs150.sub (by decide)).tr (hs155.sub (by decide))))))))), Or.inr (Or.inr ⟨lett.1, nS, ?_⟩)⟩
              have p105 : ja h105 60 17 = ja h61 60 17 := (jso hs105 (by decide)).trans ((jso hs95 (by decide)).trans ((jso hs85 (by decide)).trans (jso hs78 (by decide))))
              have l47 : ja h155 60 47 = ja h 60 47 + 1 := ((jso hs155 (by decide)).trans ((jso hs150 (by decide)).trans t105)).trans (by omega)
              have b45 : jBT (ja h155 60 45) (jad S (hh p - 97).toNat) := by
                rw [((jso hs155 (by decide)).trans ((jso hs150 (by decide)).trans ((jso hs105 (by decide)).trans t95))), ← ecn]
                exact (jBT_or hB88 (by omega)).2
              have q2 : (2 : Int32).toInt.toNat = 2 := by decide
              rw [q2] at f155
              obtain ⟨f, q, v, a1, a2⟩ := f155
              rcases w2 with ⟨w3, w4, w5, w6⟩ | ⟨-, w4, -⟩
              · subst w3
                have a3 : jAN hh (qt + 1) 2 f q v := by
                  rw [show qt + 1 = ja h150 60 17 by omega]
                  exact a1
                refine ⟨f, q, ⟨0, qt, vt, w1, Or.inr (Or.inr ⟨rfl, Or.inl (by rw [← w5, ← p105, ← ez109]; exact g114.trans k43), v, a3⟩)⟩, ?_⟩
                rcases a2 with ⟨-, b2, -⟩ | ⟨b1, -, b3⟩
                · exact absurd g158 (by omega)
                · exact Or.inl ⟨b1, by decide, b3⟩
              · exact absurd w4 g64
          · have g134 := jc2_ne_f hc134
            refine az_X_step (pc' := 138) (ls' := ls7) (st' := [.int 1]) (h' := h105) rfl rfl rfl ?_
            refine az_X_step (pc' := 142) (ls' := ls7) (st' := [.int 1]) (h' := h105) rfl rfl rfl ?_
            refine jm_istore_n (l' := [(2, .int 1), (1, .int z6), (0, .ref (P.1 + 60))]) rfl rfl (by decide) hl7 rfl rfl (fun ls142 hl142 => ?_)
            refine jm_aload_n (x := P.1 + 60) rfl rfl (jM_at hl142 2 rfl) ?_
            refine jm_aload_n (x := P.1 + 60) rfl rfl (jM_at hl142 2 rfl) ?_
            refine jn_gf (i := 60) (k := 17) rfl rfl hH105 (by decide) (hH105.2 60 _ rfl).1 rfl rfl (fun z145 (ez145 : z145.toInt = ja h105 60 17) (bz145 : 0 ≤ z145.toInt ∧ z145.toInt ≤ 240) => ?_)
            replace ez145 : z145.toInt = ja h61 60 17 := ez145.trans ((jso hs105 (by decide)).trans ((jso hs95 (by decide)).trans ((jso hs85 (by decide)).trans (jso hs78 (by decide)))))
            refine az_X_step (pc' := 149) (ls' := ls142) (st' := [.int 1, .int z145, .ref (P.1 + 60)]) (h' := h105) rfl rfl rfl ?_
            refine jn_add (a := z145) (b := 1) rfl rfl (by omega) (by omega) (fun z149 ez149 => ?_)
            rw [show (1 : Int32).toInt = 1 by decide] at ez149
            have p105b : ja h105 60 17 = ja h61 60 17 := (jso hs105 (by decide)).trans ((jso hs95 (by decide)).trans ((jso hs85 (by decide)).trans (jso hs78 (by decide))))
            have hpn2 : ja h105 60 17 < n := by
              rcases (by omega : hh (ja h105 60 17) = 43 ∨ hh (ja h105 60 17) = 45) with q | q <;> exact jBR_lt (jBR_so hs105 (by decide) (jBR_so hs95 (by decide) (jBR_so hs85 (by decide) (jBR_so hs78 (by decide) (jBR_so hs61 (by decide) (jBR_so hs57 (by decide) hb)))))) (by omega)
            refine jn_pf (i := 60) (k := 17) (x := z149) rfl rfl hH105 (by decide) rfl (hH105.2 60 _ rfl).1 rfl rfl (by decide) (by decide) (by show 0 ≤ _; omega) (by show _ ≤ 240; omega) (fun h150 hH150 hs150 (t150 : ja h150 60 17 = z149.toInt) => ?_)
            refine jm_aload_n (x := P.1 + 60) rfl rfl (jM_at hl142 2 rfl) ?_
            refine az_X_step (pc' := 155) (ls' := ls142) (st' := [.int 2, .ref (P.1 + 60)]) (h' := h150) rfl rfl rfl ?_
            refine az_X_call (m' := 266) (as := [.ref (P.1 + 60), .int 2]) (rest := []) rfl rfl rfl rfl rfl ?_ ?_
            · unfold si_call
              dsimp only
              rw [if_pos ⟨rfl, rfl⟩]
              show (match si_ix P h150 (P.1 + 60) with | some i => _ | none => none) = _
              rw [jix hH150 (by decide)]
              dsimp only
              rw [(hH150.2 60 _ rfl).1]
              rfl
            refine (ra_ok hH150 hn (((jso hs150 (by decide)).trans ((jso hs105 (by decide)).trans ((jso hs95 (by decide)).trans ((jso hs85 (by decide)).trans ((jso hs78 (by decide)).trans ((jso hs61 (by decide)).trans (jso hs57 (by decide)))))))).trans e8) rfl (jBR_so hs150 (by decide) (jBR_so hs105 (by decide) (jBR_so hs95 (by decide) (jBR_so hs85 (by decide) (jBR_so hs78 (by decide) (jBR_so hs61 (by decide) (jBR_so hs57 (by decide) hb))))))) hh1 2 (by decide)).mono ?_
            rintro rv155 h155 ⟨z155, rfl, hH155, hs155, f155⟩
            show az_X P _ 268 158 ls142 [.int z155] _ _
            refine jx_if (t := 163) rfl rfl rfl (fun hc158 => ?_) (fun hc158 => ?_)
            · have g158 := jc1_ne_t hc158
              refine jm_aload_n (x := P.1 + 60) rfl rfl (jM_at hl142 2 rfl) ?_
              refine jx_gf (i := 60) rfl rfl hH155 (by decide) (hH155.2 60 _ rfl).1 rfl (jx_rf hH155 rfl rfl) ?_
              refine jm_iload_n (x := z6) rfl rfl (jM_at hl142 1 rfl) ?_
              refine jm_iload_n (x := 1) rfl rfl (jM_at hl142 0 rfl) ?_
              refine jn_ifd (t := 180) (c := false) rfl rfl rfl (by decide) ?_
              show az_X P _ 268 172 ls142 [.int z6, .ref (P.1 + 86)] _ _
              refine jm_aload_n (x := P.1 + 60) rfl rfl (jM_at hl142 2 rfl) ?_
              refine jn_gf (i := 60) (k := 20) rfl rfl hH155 (by decide) (hH155.2 60 _ rfl).1 rfl rfl (fun z173 (ez173 : z173.toInt = ja h155 60 20) (bz173 : 0 ≤ z173.toInt ∧ z173.toInt ≤ 99999) => ?_)
              refine jn_neg (a := z173) rfl rfl (by omega) (by omega) (fun z176 ez176 => ?_)
              refine az_X_step (pc' := 184) (ls' := ls142) (st' := [.int z176, .int z6, .ref (P.1 + 86)]) (h' := h155) rfl rfl rfl ?_
              have b184 : 0 ≤ ja h155 60 20 ∧ ja h155 60 20 ≤ 99 := by
                have q2 : (2 : Int32).toInt.toNat = 2 := by decide
                have b150 : 0 ≤ ja h150 60 17 ∧ ja h150 60 17 ≤ 240 := ja_bd hH150 (i := 60) (k := 17) rfl
                obtain ⟨f, q, v, a1, a2⟩ := f155
                rw [q2] at a1
                rcases a2 with ⟨b1, -, -, b4⟩ | ⟨-, b2, -⟩
                · subst b1
                  have := jAN_v (by omega) (by omega) a1
                  omega
                · exact absurd b2 g158
              refine jn_ias (i := 86) (x := z6) (v := z176) rfl rfl hH155 (by decide) rfl (by omega) (by show _ < ((8 : Nat) : Int); omega) (by show (-99) ≤ _; omega) (by show _ ≤ 99; omega) (fun h184 hH184 hs184 t184 u184 => ?_)
              refine az_X_step (pc' := 186) (ls' := ls142) (st' := [.int 1]) (h' := h184) rfl rfl rfl ?_
              refine jx_retz rfl rfl rfl (by decide) ?_
              obtain ⟨ft, qt, vt, w1, w2⟩ := f61
              rw [r9] at w1
              refine ⟨1, rfl, hH184, ((hs57.sub (by decide)).tr ((hs61.sub (by decide)).tr ((hs78.sub (by decide)).tr ((hs85.sub (by decide)).tr ((hs95.sub (by decide)).tr ((hs105.sub (by decide)).tr ((hs150.sub (by decide)).tr ((hs155.sub (by decide)).tr (hs184.sub (by decide)))))))))), Or.inr (Or.inr ⟨lett.1, nS, ?_⟩)⟩
              have p105 : ja h105 60 17 = ja h61 60 17 := (jso hs105 (by decide)).trans ((jso hs95 (by decide)).trans ((jso hs85 (by decide)).trans (jso hs78 (by decide))))
              have l47 : ja h184 60 47 = ja h 60 47 + 1 := ((jso hs184 (by decide)).trans ((jso hs155 (by decide)).trans ((jso hs150 (by decide)).trans t105))).trans (by omega)
              have b45 : jBT (ja h184 60 45) (jad S (hh p - 97).toNat) := by
                rw [((jso hs184 (by decide)).trans ((jso hs155 (by decide)).trans ((jso hs150 (by decide)).trans ((jso hs105 (by decide)).trans t95)))), ← ecn]
                exact (jBT_or hB88 (by omega)).2
              have q2 : (2 : Int32).toInt.toNat = 2 := by decide
              rw [q2] at f155
              obtain ⟨f, q, v, a1, a2⟩ := f155
              rcases w2 with ⟨w3, w4, w5, w6⟩ | ⟨-, w4, -⟩
              · subst w3
                have a3 : jAN hh (qt + 1) 2 f q v := by
                  rw [show qt + 1 = ja h150 60 17 by omega]
                  exact a1
                refine ⟨f, q, ⟨0, qt, vt, w1, Or.inr (Or.inr ⟨rfl, Or.inl (by rw [← w5, ← p105, ← ez109]; exact g114.trans k43), v, a3⟩)⟩, ?_⟩
                rcases a2 with ⟨b1, -, b3, -⟩ | ⟨-, b2, -⟩
                · exact Or.inr ⟨b1, by decide, (jso hs184 (by decide)).trans b3, l47, b45⟩
                · exact absurd b2 g158
              · exact absurd w4 g64
            · have g158 := jc1_ne_f hc158
              refine az_X_step (pc' := 162) (ls' := ls142) (st' := [.int 0]) (h' := h155) rfl rfl rfl ?_
              refine jx_retz rfl rfl rfl (by decide) ?_
              obtain ⟨ft, qt, vt, w1, w2⟩ := f61
              rw [r9] at w1
              refine ⟨0, rfl, hH155, ((hs57.sub (by decide)).tr ((hs61.sub (by decide)).tr ((hs78.sub (by decide)).tr ((hs85.sub (by decide)).tr ((hs95.sub (by decide)).tr ((hs105.sub (by decide)).tr ((hs150.sub (by decide)).tr (hs155.sub (by decide))))))))), Or.inr (Or.inr ⟨lett.1, nS, ?_⟩)⟩
              have p105 : ja h105 60 17 = ja h61 60 17 := (jso hs105 (by decide)).trans ((jso hs95 (by decide)).trans ((jso hs85 (by decide)).trans (jso hs78 (by decide))))
              have l47 : ja h155 60 47 = ja h 60 47 + 1 := ((jso hs155 (by decide)).trans ((jso hs150 (by decide)).trans t105)).trans (by omega)
              have b45 : jBT (ja h155 60 45) (jad S (hh p - 97).toNat) := by
                rw [((jso hs155 (by decide)).trans ((jso hs150 (by decide)).trans ((jso hs105 (by decide)).trans t95))), ← ecn]
                exact (jBT_or hB88 (by omega)).2
              have q2 : (2 : Int32).toInt.toNat = 2 := by decide
              rw [q2] at f155
              obtain ⟨f, q, v, a1, a2⟩ := f155
              rcases w2 with ⟨w3, w4, w5, w6⟩ | ⟨-, w4, -⟩
              · subst w3
                have a3 : jAN hh (qt + 1) 2 f q v := by
                  rw [show qt + 1 = ja h150 60 17 by omega]
                  exact a1
                refine ⟨f, q, ⟨0, qt, vt, w1, Or.inr (Or.inr ⟨rfl, Or.inl (by rw [← w5, ← p105, ← ez109]; exact g114.trans k43), v, a3⟩)⟩, ?_⟩
                rcases a2 with ⟨-, b2, -⟩ | ⟨b1, -, b3⟩
                · exact absurd g158 (by omega)
                · exact Or.inl ⟨b1, by decide, b3⟩
              · exact absurd w4 g64
        · have g114 := jc2_eq_f hc114
          refine jm_aload_n (x := P.1 + 60) rfl rfl (jM_at hl7 1 rfl) ?_
          refine az_X_call (m' := 240) (as := [.ref (P.1 + 60)]) (rest := []) rfl rfl rfl rfl rfl ?_ ?_
          · unfold si_call
            dsimp only
            rw [if_pos ⟨rfl, rfl⟩]
            show (match si_ix P h105 (P.1 + 60) with | some i => _ | none => none) = _
            rw [jix hH105 (by decide)]
            dsimp only
            rw [(hH105.2 60 _ rfl).1]
            rfl
          refine (rh_ok hH105 hn (((jso hs105 (by decide)).trans ((jso hs95 (by decide)).trans ((jso hs85 (by decide)).trans ((jso hs78 (by decide)).trans ((jso hs61 (by decide)).trans (jso hs57 (by decide))))))).trans e8) rfl (jBR_so hs105 (by decide) (jBR_so hs95 (by decide) (jBR_so hs85 (by decide) (jBR_so hs78 (by decide) (jBR_so hs61 (by decide) (jBR_so hs57 (by decide) hb))))))).mono ?_
          rintro rv118 h118 ⟨q118, z118, rfl, ez118⟩
          subst h118
          show az_X P _ 268 121 ls7 [.int z118] _ _
          refine az_X_step (pc' := 123) (ls' := ls7) (st' := [.int 45, .int z118]) (h' := h105) rfl rfl rfl ?_
          refine jx_ic (t := 128) rfl rfl rfl (fun hc123 => ?_) (fun hc123 => ?_)
          · have g123 := jc2_eq_t hc123
            refine jm_aload_n (x := P.1 + 60) rfl rfl (jM_at hl7 1 rfl) ?_
            refine az_X_call (m' := 240) (as := [.ref (P.1 + 60)]) (rest := []) rfl rfl rfl rfl rfl ?_ ?_
            · unfold si_call
              dsimp only
              rw [if_pos ⟨rfl, rfl⟩]
              show (match si_ix P h105 (P.1 + 60) with | some i => _ | none => none) = _
              rw [jix hH105 (by decide)]
              dsimp only
              rw [(hH105.2 60 _ rfl).1]
              rfl
            refine (rh_ok hH105 hn (((jso hs105 (by decide)).trans ((jso hs95 (by decide)).trans ((jso hs85 (by decide)).trans ((jso hs78 (by decide)).trans ((jso hs61 (by decide)).trans (jso hs57 (by decide))))))).trans e8) rfl (jBR_so hs105 (by decide) (jBR_so hs95 (by decide) (jBR_so hs85 (by decide) (jBR_so hs78 (by decide) (jBR_so hs61 (by decide) (jBR_so hs57 (by decide) hb))))))).mono ?_
            rintro rv129 h129 ⟨q129, z129, rfl, ez129⟩
            subst h129
            show az_X P _ 268 132 ls7 [.int z129] _ _
            refine az_X_step (pc' := 134) (ls' := ls7) (st' := [.int 45, .int z129]) (h' := h105) rfl rfl rfl ?_
            refine jx_ic (t := 141) rfl rfl rfl (fun hc134 => ?_) (fun hc134 => ?_)
            · have g134 := jc2_ne_t hc134
              refine az_X_step (pc' := 142) (ls' := ls7) (st' := [.int 0]) (h' := h105) rfl rfl rfl ?_
              refine jm_istore_n (l' := [(2, .int 0), (1, .int z6), (0, .ref (P.1 + 60))]) rfl rfl (by decide) hl7 rfl rfl (fun ls142 hl142 => ?_)
              refine jm_aload_n (x := P.1 + 60) rfl rfl (jM_at hl142 2 rfl) ?_
              refine jm_aload_n (x := P.1 + 60) rfl rfl (jM_at hl142 2 rfl) ?_
              refine jn_gf (i := 60) (k := 17) rfl rfl hH105 (by decide) (hH105.2 60 _ rfl).1 rfl rfl (fun z145 (ez145 : z145.toInt = ja h105 60 17) (bz145 : 0 ≤ z145.toInt ∧ z145.toInt ≤ 240) => ?_)
              replace ez145 : z145.toInt = ja h61 60 17 := ez145.trans ((jso hs105 (by decide)).trans ((jso hs95 (by decide)).trans ((jso hs85 (by decide)).trans (jso hs78 (by decide)))))
              refine az_X_step (pc' := 149) (ls' := ls142) (st' := [.int 1, .int z145, .ref (P.1 + 60)]) (h' := h105) rfl rfl rfl ?_
              refine jn_add (a := z145) (b := 1) rfl rfl (by omega) (by omega) (fun z149 ez149 => ?_)
              rw [show (1 : Int32).toInt = 1 by decide] at ez149
              have p105b : ja h105 60 17 = ja h61 60 17 := (jso hs105 (by decide)).trans ((jso hs95 (by decide)).trans ((jso hs85 (by decide)).trans (jso hs78 (by decide))))
              have hpn2 : ja h105 60 17 < n := by
                rcases (by omega : hh (ja h105 60 17) = 43 ∨ hh (ja h105 60 17) = 45) with q | q <;> exact jBR_lt (jBR_so hs105 (by decide) (jBR_so hs95 (by decide) (jBR_so hs85 (by decide) (jBR_so hs78 (by decide) (jBR_so hs61 (by decide) (jBR_so hs57 (by decide) hb)))))) (by omega)
              refine jn_pf (i := 60) (k := 17) (x := z149) rfl rfl hH105 (by decide) rfl (hH105.2 60 _ rfl).1 rfl rfl (by decide) (by decide) (by show 0 ≤ _; omega) (by show _ ≤ 240; omega) (fun h150 hH150 hs150 (t150 : ja h150 60 17 = z149.toInt) => ?_)
              refine jm_aload_n (x := P.1 + 60) rfl rfl (jM_at hl142 2 rfl) ?_
              refine az_X_step (pc' := 155) (ls' := ls142) (st' := [.int 2, .ref (P.1 + 60)]) (h' := h150) rfl rfl rfl ?_
              refine az_X_call (m' := 266) (as := [.ref (P.1 + 60), .int 2]) (rest := []) rfl rfl rfl rfl rfl ?_ ?_
              · unfold si_call
                dsimp only
                rw [if_pos ⟨rfl, rfl⟩]
                show (match si_ix P h150 (P.1 + 60) with | some i => _ | none => none) = _
                rw [jix hH150 (by decide)]
                dsimp only
                rw [(hH150.2 60 _ rfl).1]
                rfl
              refine (ra_ok hH150 hn (((jso hs150 (by decide)).trans ((jso hs105 (by decide)).trans ((jso hs95 (by decide)).trans ((jso hs85 (by decide)).trans ((jso hs78 (by decide)).trans ((jso hs61 (by decide)).trans (jso hs57 (by decide)))))))).trans e8) rfl (jBR_so hs150 (by decide) (jBR_so hs105 (by decide) (jBR_so hs95 (by decide) (jBR_so hs85 (by decide) (jBR_so hs78 (by decide) (jBR_so hs61 (by decide) (jBR_so hs57 (by decide) hb))))))) hh1 2 (by decide)).mono ?_
              rintro rv155 h155 ⟨z155, rfl, hH155, hs155, f155⟩
              show az_X P _ 268 158 ls142 [.int z155] _ _
              refine jx_if (t := 163) rfl rfl rfl (fun hc158 => ?_) (fun hc158 => ?_)
              · have g158 := jc1_ne_t hc158
                refine jm_aload_n (x := P.1 + 60) rfl rfl (jM_at hl142 2 rfl) ?_
                refine jx_gf (i := 60) rfl rfl hH155 (by decide) (hH155.2 60 _ rfl).1 rfl (jx_rf hH155 rfl rfl) ?_
                refine jm_iload_n (x := z6) rfl rfl (jM_at hl142 1 rfl) ?_
                refine jm_iload_n (x := 0) rfl rfl (jM_at hl142 0 rfl) ?_
                refine jn_ifd (t := 180) (c := true) rfl rfl rfl (by decide) ?_
                show az_X P _ 268 180 ls142 [.int z6, .ref (P.1 + 86)] _ _
                refine jm_aload_n (x := P.1 + 60) rfl rfl (jM_at hl142 2 rfl) ?_
                refine jn_gf (i := 60) (k := 20) rfl rfl hH155 (by decide) (hH155.2 60 _ rfl).1 rfl rfl (fun z181 (ez181 : z181.toInt = ja h155 60 20) (bz181 : 0 ≤ z181.toInt ∧ z181.toInt ≤ 99999) => ?_)
                have b184 : 0 ≤ ja h155 60 20 ∧ ja h155 60 20 ≤ 99 := by
                  have q2 : (2 : Int32).toInt.toNat = 2 := by decide
                  have b150 : 0 ≤ ja h150 60 17 ∧ ja h150 60 17 ≤ 240 := ja_bd hH150 (i := 60) (k := 17) rfl
                  obtain ⟨f, q, v, a1, a2⟩ := f155
                  rw [q2] at a1
                  rcases a2 with ⟨b1, -, -, b4⟩ | ⟨-, b2, -⟩
                  · subst b1
                    have := jAN_v (by omega) (by omega) a1
                    omega
                  · exact absurd b2 g158
                refine jn_ias (i := 86) (x := z6) (v := z181) rfl rfl hH155 (by decide) rfl (by omega) (by show _ < ((8 : Nat) : Int); omega) (by show (-99) ≤ _; omega) (by show _ ≤ 99; omega) (fun h184 hH184 hs184 t184 u184 => ?_)
                refine az_X_step (pc' := 186) (ls' := ls142) (st' := [.int 1]) (h' := h184) rfl rfl rfl ?_
                refine jx_retz rfl rfl rfl (by decide) ?_
                obtain ⟨ft, qt, vt, w1, w2⟩ := f61
                rw [r9] at w1
                refine ⟨1, rfl, hH184, ((hs57.sub (by decide)).tr ((hs61.sub (by decide)).tr ((hs78.sub (by decide)).tr ((hs85.sub (by decide)).tr ((hs95.sub (by decide)).tr ((hs105.sub (by decide)).tr ((hs150.sub (by decide)).tr ((hs155.sub (by decide)).tr (hs184.sub (by decide)))))))))), Or.inr (Or.inr ⟨lett.1, nS, ?_⟩)⟩
                have p105 : ja h105 60 17 = ja h61 60 17 := (jso hs105 (by decide)).trans ((jso hs95 (by decide)).trans ((jso hs85 (by decide)).trans (jso hs78 (by decide))))
                have l47 : ja h184 60 47 = ja h 60 47 + 1 := ((jso hs184 (by decide)).trans ((jso hs155 (by decide)).trans ((jso hs150 (by decide)).trans t105))).trans (by omega)
                have b45 : jBT (ja h184 60 45) (jad S (hh p - 97).toNat) := by
                  rw [((jso hs184 (by decide)).trans ((jso hs155 (by decide)).trans ((jso hs150 (by decide)).trans ((jso hs105 (by decide)).trans t95)))), ← ecn]
                  exact (jBT_or hB88 (by omega)).2
                have q2 : (2 : Int32).toInt.toNat = 2 := by decide
                rw [q2] at f155
                obtain ⟨f, q, v, a1, a2⟩ := f155
                rcases w2 with ⟨w3, w4, w5, w6⟩ | ⟨-, w4, -⟩
                · subst w3
                  have a3 : jAN hh (qt + 1) 2 f q v := by
                    rw [show qt + 1 = ja h150 60 17 by omega]
                    exact a1
                  refine ⟨f, q, ⟨0, qt, vt, w1, Or.inr (Or.inr ⟨rfl, Or.inr (by rw [← w5, ← p105, ← ez118]; exact g123.trans k45), v, a3⟩)⟩, ?_⟩
                  rcases a2 with ⟨b1, -, b3, -⟩ | ⟨-, b2, -⟩
                  · exact Or.inr ⟨b1, by decide, (jso hs184 (by decide)).trans b3, l47, b45⟩
                  · exact absurd b2 g158
                · exact absurd w4 g64
              · have g158 := jc1_ne_f hc158
                refine az_X_step (pc' := 162) (ls' := ls142) (st' := [.int 0]) (h' := h155) rfl rfl rfl ?_
                refine jx_retz rfl rfl rfl (by decide) ?_
                obtain ⟨ft, qt, vt, w1, w2⟩ := f61
                rw [r9] at w1
                refine ⟨0, rfl, hH155, ((hs57.sub (by decide)).tr ((hs61.sub (by decide)).tr ((hs78.sub (by decide)).tr ((hs85.sub (by decide)).tr ((hs95.sub (by decide)).tr ((hs105.sub (by decide)).tr ((hs150.sub (by decide)).tr (hs155.sub (by decide))))))))), Or.inr (Or.inr ⟨lett.1, nS, ?_⟩)⟩
                have p105 : ja h105 60 17 = ja h61 60 17 := (jso hs105 (by decide)).trans ((jso hs95 (by decide)).trans ((jso hs85 (by decide)).trans (jso hs78 (by decide))))
                have l47 : ja h155 60 47 = ja h 60 47 + 1 := ((jso hs155 (by decide)).trans ((jso hs150 (by decide)).trans t105)).trans (by omega)
                have b45 : jBT (ja h155 60 45) (jad S (hh p - 97).toNat) := by
                  rw [((jso hs155 (by decide)).trans ((jso hs150 (by decide)).trans ((jso hs105 (by decide)).trans t95))), ← ecn]
                  exact (jBT_or hB88 (by omega)).2
                have q2 : (2 : Int32).toInt.toNat = 2 := by decide
                rw [q2] at f155
                obtain ⟨f, q, v, a1, a2⟩ := f155
                rcases w2 with ⟨w3, w4, w5, w6⟩ | ⟨-, w4, -⟩
                · subst w3
                  have a3 : jAN hh (qt + 1) 2 f q v := by
                    rw [show qt + 1 = ja h150 60 17 by omega]
                    exact a1
                  refine ⟨f, q, ⟨0, qt, vt, w1, Or.inr (Or.inr ⟨rfl, Or.inr (by rw [← w5, ← p105, ← ez118]; exact g123.trans k45), v, a3⟩)⟩, ?_⟩
                  rcases a2 with ⟨-, b2, -⟩ | ⟨b1, -, b3⟩
                  · exact absurd g158 (by omega)
                  · exact Or.inl ⟨b1, by decide, b3⟩
                · exact absurd w4 g64
            · have g134 := jc2_ne_f hc134
              refine az_X_step (pc' := 138) (ls' := ls7) (st' := [.int 1]) (h' := h105) rfl rfl rfl ?_
              refine az_X_step (pc' := 142) (ls' := ls7) (st' := [.int 1]) (h' := h105) rfl rfl rfl ?_
              refine jm_istore_n (l' := [(2, .int 1), (1, .int z6), (0, .ref (P.1 + 60))]) rfl rfl (by decide) hl7 rfl rfl (fun ls142 hl142 => ?_)
              refine jm_aload_n (x := P.1 + 60) rfl rfl (jM_at hl142 2 rfl) ?_
              refine jm_aload_n (x := P.1 + 60) rfl rfl (jM_at hl142 2 rfl) ?_
              refine jn_gf (i := 60) (k := 17) rfl rfl hH105 (by decide) (hH105.2 60 _ rfl).1 rfl rfl (fun z145 (ez145 : z145.toInt = ja h105 60 17) (bz145 : 0 ≤ z145.toInt ∧ z145.toInt ≤ 240) => ?_)
              replace ez145 : z145.toInt = ja h61 60 17 := ez145.trans ((jso hs105 (by decide)).trans ((jso hs95 (by decide)).trans ((jso hs85 (by decide)).trans (jso hs78 (by decide)))))
              refine az_X_step (pc' := 149) (ls' := ls142) (st' := [.int 1, .int z145, .ref (P.1 + 60)]) (h' := h105) rfl rfl rfl ?_
              refine jn_add (a := z145) (b := 1) rfl rfl (by omega) (by omega) (fun z149 ez149 => ?_)
              rw [show (1 : Int32).toInt = 1 by decide] at ez149
              have p105b : ja h105 60 17 = ja h61 60 17 := (jso hs105 (by decide)).trans ((jso hs95 (by decide)).trans ((jso hs85 (by decide)).trans (jso hs78 (by decide))))
              have hpn2 : ja h105 60 17 < n := by
                rcases (by omega : hh (ja h105 60 17) = 43 ∨ hh (ja h105 60 17) = 45) with q | q <;> exact jBR_lt (jBR_so hs105 (by decide) (jBR_so hs95 (by decide) (jBR_so hs85 (by decide) (jBR_so hs78 (by decide) (jBR_so hs61 (by decide) (jBR_so hs57 (by decide) hb)))))) (by omega)
              refine jn_pf (i := 60) (k := 17) (x := z149) rfl rfl hH105 (by decide) rfl (hH105.2 60 _ rfl).1 rfl rfl (by decide) (by decide) (by show 0 ≤ _; omega) (by show _ ≤ 240; omega) (fun h150 hH150 hs150 (t150 : ja h150 60 17 = z149.toInt) => ?_)
              refine jm_aload_n (x := P.1 + 60) rfl rfl (jM_at hl142 2 rfl) ?_
              refine az_X_step (pc' := 155) (ls' := ls142) (st' := [.int 2, .ref (P.1 + 60)]) (h' := h150) rfl rfl rfl ?_
              refine az_X_call (m' := 266) (as := [.ref (P.1 + 60), .int 2]) (rest := []) rfl rfl rfl rfl rfl ?_ ?_
              · unfold si_call
                dsimp only
                rw [if_pos ⟨rfl, rfl⟩]
                show (match si_ix P h150 (P.1 + 60) with | some i => _ | none => none) = _
                rw [jix hH150 (by decide)]
                dsimp only
                rw [(hH150.2 60 _ rfl).1]
                rfl
              refine (ra_ok hH150 hn (((jso hs150 (by decide)).trans ((jso hs105 (by decide)).trans ((jso hs95 (by decide)).trans ((jso hs85 (by decide)).trans ((jso hs78 (by decide)).trans ((jso hs61 (by decide)).trans (jso hs57 (by decide)))))))).trans e8) rfl (jBR_so hs150 (by decide) (jBR_so hs105 (by decide) (jBR_so hs95 (by decide) (jBR_so hs85 (by decide) (jBR_so hs78 (by decide) (jBR_so hs61 (by decide) (jBR_so hs57 (by decide) hb))))))) hh1 2 (by decide)).mono ?_
              rintro rv155 h155 ⟨z155, rfl, hH155, hs155, f155⟩
              show az_X P _ 268 158 ls142 [.int z155] _ _
              refine jx_if (t := 163) rfl rfl rfl (fun hc158 => ?_) (fun hc158 => ?_)
              · have g158 := jc1_ne_t hc158
                refine jm_aload_n (x := P.1 + 60) rfl rfl (jM_at hl142 2 rfl) ?_
                refine jx_gf (i := 60) rfl rfl hH155 (by decide) (hH155.2 60 _ rfl).1 rfl (jx_rf hH155 rfl rfl) ?_
                refine jm_iload_n (x := z6) rfl rfl (jM_at hl142 1 rfl) ?_
                refine jm_iload_n (x := 1) rfl rfl (jM_at hl142 0 rfl) ?_
                refine jn_ifd (t := 180) (c := false) rfl rfl rfl (by decide) ?_
                show az_X P _ 268 172 ls142 [.int z6, .ref (P.1 + 86)] _ _
                refine jm_aload_n (x := P.1 + 60) rfl rfl (jM_at hl142 2 rfl) ?_
                refine jn_gf (i := 60) (k := 20) rfl rfl hH155 (by decide) (hH155.2 60 _ rfl).1 rfl rfl (fun z173 (ez173 : z173.toInt = ja h155 60 20) (bz173 : 0 ≤ z173.toInt ∧ z173.toInt ≤ 99999) => ?_)
                refine jn_neg (a := z173) rfl rfl (by omega) (by omega) (fun z176 ez176 => ?_)
                refine az_X_step (pc' := 184) (ls' := ls142) (st' := [.int z176, .int z6, .ref (P.1 + 86)]) (h' := h155) rfl rfl rfl ?_
                have b184 : 0 ≤ ja h155 60 20 ∧ ja h155 60 20 ≤ 99 := by
                  have q2 : (2 : Int32).toInt.toNat = 2 := by decide
                  have b150 : 0 ≤ ja h150 60 17 ∧ ja h150 60 17 ≤ 240 := ja_bd hH150 (i := 60) (k := 17) rfl
                  obtain ⟨f, q, v, a1, a2⟩ := f155
                  rw [q2] at a1
                  rcases a2 with ⟨b1, -, -, b4⟩ | ⟨-, b2, -⟩
                  · subst b1
                    have := jAN_v (by omega) (by omega) a1
                    omega
                  · exact absurd b2 g158
                refine jn_ias (i := 86) (x := z6) (v := z176) rfl rfl hH155 (by decide) rfl (by omega) (by show _ < ((8 : Nat) : Int); omega) (by show (-99) ≤ _; omega) (by show _ ≤ 99; omega) (fun h184 hH184 hs184 t184 u184 => ?_)
                refine az_X_step (pc' := 186) (ls' := ls142) (st' := [.int 1]) (h' := h184) rfl rfl rfl ?_
                refine jx_retz rfl rfl rfl (by decide) ?_
                obtain ⟨ft, qt, vt, w1, w2⟩ := f61
                rw [r9] at w1
                refine ⟨1, rfl, hH184, ((hs57.sub (by decide)).tr ((hs61.sub (by decide)).tr ((hs78.sub (by decide)).tr ((hs85.sub (by decide)).tr ((hs95.sub (by decide)).tr ((hs105.sub (by decide)).tr ((hs150.sub (by decide)).tr ((hs155.sub (by decide)).tr (hs184.sub (by decide)))))))))), Or.inr (Or.inr ⟨lett.1, nS, ?_⟩)⟩
                have p105 : ja h105 60 17 = ja h61 60 17 := (jso hs105 (by decide)).trans ((jso hs95 (by decide)).trans ((jso hs85 (by decide)).trans (jso hs78 (by decide))))
                have l47 : ja h184 60 47 = ja h 60 47 + 1 := ((jso hs184 (by decide)).trans ((jso hs155 (by decide)).trans ((jso hs150 (by decide)).trans t105))).trans (by omega)
                have b45 : jBT (ja h184 60 45) (jad S (hh p - 97).toNat) := by
                  rw [((jso hs184 (by decide)).trans ((jso hs155 (by decide)).trans ((jso hs150 (by decide)).trans ((jso hs105 (by decide)).trans t95)))), ← ecn]
                  exact (jBT_or hB88 (by omega)).2
                have q2 : (2 : Int32).toInt.toNat = 2 := by decide
                rw [q2] at f155
                obtain ⟨f, q, v, a1, a2⟩ := f155
                rcases w2 with ⟨w3, w4, w5, w6⟩ | ⟨-, w4, -⟩
                · subst w3
                  have a3 : jAN hh (qt + 1) 2 f q v := by
                    rw [show qt + 1 = ja h150 60 17 by omega]
                    exact a1
                  refine ⟨f, q, ⟨0, qt, vt, w1, Or.inr (Or.inr ⟨rfl, Or.inr (by rw [← w5, ← p105, ← ez118]; exact g123.trans k45), v, a3⟩)⟩, ?_⟩
                  rcases a2 with ⟨b1, -, b3, -⟩ | ⟨-, b2, -⟩
                  · exact Or.inr ⟨b1, by decide, (jso hs184 (by decide)).trans b3, l47, b45⟩
                  · exact absurd b2 g158
                · exact absurd w4 g64
              · have g158 := jc1_ne_f hc158
                refine az_X_step (pc' := 162) (ls' := ls142) (st' := [.int 0]) (h' := h155) rfl rfl rfl ?_
                refine jx_retz rfl rfl rfl (by decide) ?_
                obtain ⟨ft, qt, vt, w1, w2⟩ := f61
                rw [r9] at w1
                refine ⟨0, rfl, hH155, ((hs57.sub (by decide)).tr ((hs61.sub (by decide)).tr ((hs78.sub (by decide)).tr ((hs85.sub (by decide)).tr ((hs95.sub (by decide)).tr ((hs105.sub (by decide)).tr ((hs150.sub (by decide)).tr (hs155.sub (by decide))))))))), Or.inr (Or.inr ⟨lett.1, nS, ?_⟩)⟩
                have p105 : ja h105 60 17 = ja h61 60 17 := (jso hs105 (by decide)).trans ((jso hs95 (by decide)).trans ((jso hs85 (by decide)).trans (jso hs78 (by decide))))
                have l47 : ja h155 60 47 = ja h 60 47 + 1 := ((jso hs155 (by decide)).trans ((jso hs150 (by decide)).trans t105)).trans (by omega)
                have b45 : jBT (ja h155 60 45) (jad S (hh p - 97).toNat) := by
                  rw [((jso hs155 (by decide)).trans ((jso hs150 (by decide)).trans ((jso hs105 (by decide)).trans t95))), ← ecn]
                  exact (jBT_or hB88 (by omega)).2
                have q2 : (2 : Int32).toInt.toNat = 2 := by decide
                rw [q2] at f155
                obtain ⟨f, q, v, a1, a2⟩ := f155
                rcases w2 with ⟨w3, w4, w5, w6⟩ | ⟨-, w4, -⟩
                · subst w3
                  have a3 : jAN hh (qt + 1) 2 f q v := by
                    rw [show qt + 1 = ja h150 60 17 by omega]
                    exact a1
                  refine ⟨f, q, ⟨0, qt, vt, w1, Or.inr (Or.inr ⟨rfl, Or.inr (by rw [← w5, ← p105, ← ez118]; exact g123.trans k45), v, a3⟩)⟩, ?_⟩
                  rcases a2 with ⟨-, b2, -⟩ | ⟨b1, -, b3⟩
                  · exact absurd g158 (by omega)
                  · exact Or.inl ⟨b1, by decide, b3⟩
                · exact absurd w4 g64
          · have g123 := jc2_eq_f hc123
            refine az_X_step (pc' := 127) (ls' := ls7) (st' := [.int 1]) (h' := h105) rfl rfl rfl ?_
            refine jx_retz rfl rfl rfl (by decide) ?_
            obtain ⟨ft, qt, vt, w1, w2⟩ := f61
            rw [r9] at w1
            refine ⟨1, rfl, hH105, ((hs57.sub (by decide)).tr ((hs61.sub (by decide)).tr ((hs78.sub (by decide)).tr ((hs85.sub (by decide)).tr ((hs95.sub (by decide)).tr (hs105.sub (by decide))))))), Or.inr (Or.inr ⟨lett.1, nS, ?_⟩)⟩
            have p105 : ja h105 60 17 = ja h61 60 17 := (jso hs105 (by decide)).trans ((jso hs95 (by decide)).trans ((jso hs85 (by decide)).trans (jso hs78 (by decide))))
            have l47 : ja h105 60 47 = ja h 60 47 + 1 := t105.trans (by omega)
            have b45 : jBT (ja h105 60 45) (jad S (hh p - 97).toNat) := by
              rw [((jso hs105 (by decide)).trans t95), ← ecn]
              exact (jBT_or hB88 (by omega)).2
            rcases w2 with ⟨w3, w4, w5, w6⟩ | ⟨-, w4, -⟩
            · subst w3
              refine ⟨0, qt, ⟨0, qt, vt, w1, Or.inr (Or.inl ⟨rfl, fun e => ?_, fun e => ?_, rfl, rfl⟩)⟩, Or.inr ⟨rfl, by decide, p105.trans w5, l47, b45⟩⟩
              · exact g114 (by rw [ez109, p105, w5, e]; decide)
              · exact g123 (by rw [ez118, p105, w5, e]; decide)
            · exact absurd w4 g64
      · have g64 := jc1_ne_f hc64
        refine az_X_step (pc' := 68) (ls' := ls7) (st' := [.int 0]) (h' := h61) rfl rfl rfl ?_
        refine jx_retz rfl rfl rfl (by decide) ?_
        obtain ⟨ft, qt, vt, w1, w2⟩ := f61
        rw [r9] at w1
        refine ⟨0, rfl, hH61, ((hs57.sub (by decide)).tr (hs61.sub (by decide))), Or.inr (Or.inr ⟨lett.1, nS, ?_⟩)⟩
        rcases w2 with ⟨-, w3, -⟩ | ⟨w3, w4, w5⟩
        · exact absurd g64 (by omega)
        · exact ⟨ft, 0, ⟨ft, qt, vt, w1, Or.inl ⟨w3, rfl⟩⟩, Or.inl ⟨w3, by decide, w5⟩⟩
    · have g36 := jc1_eq_f hc36
      refine jm_aload_n (x := P.1 + 60) rfl rfl (jM_at hl7 1 rfl) ?_
      refine az_X_step (pc' := 42) (ls' := ls7) (st' := [.int 6, .ref (P.1 + 60)]) (h' := h) rfl rfl rfl ?_
      refine jm_aload_n (x := P.1 + 60) rfl rfl (jM_at hl7 1 rfl) ?_
      refine jn_gf (i := 60) (k := 17) rfl rfl hH (by decide) (hH.2 60 _ rfl).1 rfl rfl (fun z43 (ez43 : z43.toInt = ja h 60 17) (bz43 : 0 ≤ z43.toInt ∧ z43.toInt ≤ 240) => ?_)
      refine az_X_call (m' := 242) (as := [.ref (P.1 + 60), .int 6, .int z43]) (rest := []) rfl rfl rfl rfl rfl ?_ ?_
      · unfold si_call
        dsimp only
        rw [if_pos ⟨rfl, rfl⟩]
        show (match si_ix P h (P.1 + 60) with | some i => _ | none => none) = _
        rw [jix hH (by decide)]
        dsimp only
        rw [(hH.2 60 _ rfl).1]
        rfl
      refine (rw_ok hH 6 z43 (by decide) (by omega)).mono ?_
      rintro rv46 h46 ⟨z46, rfl, hH46, hs46, f46⟩
      show az_X P _ 268 49 ls7 [.int z46] _ _
      refine jx_retz rfl rfl rfl (jbz (by omega)) ?_
      refine ⟨z46, rfl, hH46, hs46.sub (by decide), Or.inr (Or.inl ⟨lett.1, ?_, f46.1, f46.2.trans (by omega)⟩)⟩
      rcases ez33 with ⟨-, a⟩ | ⟨a, -⟩
      · rw [← ecn]
        exact hs29.mp a
      · exact absurd a g36
  · have g15 := jc1_ne_f hc15
    refine jm_aload_n (x := P.1 + 60) rfl rfl (jM_at hl7 1 rfl) ?_
    refine az_X_step (pc' := 20) (ls' := ls7) (st' := [.int 1, .ref (P.1 + 60)]) (h' := h) rfl rfl rfl ?_
    refine jm_aload_n (x := P.1 + 60) rfl rfl (jM_at hl7 1 rfl) ?_
    refine jn_gf (i := 60) (k := 17) rfl rfl hH (by decide) (hH.2 60 _ rfl).1 rfl rfl (fun z21 (ez21 : z21.toInt = ja h 60 17) (bz21 : 0 ≤ z21.toInt ∧ z21.toInt ≤ 240) => ?_)
    refine az_X_call (m' := 242) (as := [.ref (P.1 + 60), .int 1, .int z21]) (rest := []) rfl rfl rfl rfl rfl ?_ ?_
    · unfold si_call
      dsimp only
      rw [if_pos ⟨rfl, rfl⟩]
      show (match si_ix P h (P.1 + 60) with | some i => _ | none => none) = _
      rw [jix hH (by decide)]
      dsimp only
      rw [(hH.2 60 _ rfl).1]
      rfl
    refine (rw_ok hH 1 z21 (by decide) (by omega)).mono ?_
    rintro rv24 h24 ⟨z24, rfl, hH24, hs24, f24⟩
    show az_X P _ 268 27 ls7 [.int z24] _ _
    refine jx_retz rfl rfl rfl (jbz (by omega)) ?_
    refine ⟨z24, rfl, hH24, hs24.sub (by decide), Or.inl ⟨?_, f24.1, f24.2.trans (by omega)⟩⟩
    rcases ez12 with ⟨a, -⟩ | ⟨-, a⟩
    · exact absurd g15 (by omega)
    · omega
theorem re_l {P : si_P} (hxa : P.2.1 < P.1) {d : Nat} {h0 : si_H} {m : Int} : ∀ (k j : Nat) (T : Int32) (h : si_H) (ls : si_L), jM [(3, .int T), (0, .ref (P.1 + 60))] ls → az_HI P az_tb h → az_same_out [(60, 10), (60, 16), (61, 1000000)] h0 h → ja h 60 16 = 0 → ja h 60 47 = m → T.toInt = j → j + k = 8 → az_X P d 269 104 ls [] h (fun rv h' => ∃ z : Int32, rv = some (.int z) ∧ az_HI P az_tb h' ∧ az_same_out [(60, 10), (60, 16), (61, 1000000)] h0 h' ∧ ja h' 60 16 = 0 ∧ z.toInt = m) := by
  intro k
  induction k with
  | zero =>
    intro j T h ls hl hH hs e16 e47 eT hj
    have k8 : (8 : Int32).toInt = 8 := by decide
    refine jm_iload_n (x := T) rfl rfl (jM_at hl 0 rfl) ?_
    refine az_X_step (pc' := 107) (ls' := ls) (st' := [.int 8, .int T]) (h' := h) rfl rfl rfl ?_
    refine jx_ic (t := 155) rfl rfl rfl (fun hc107 => ?_) (fun hc107 => ?_)
    · have g107 := jc2_ge_t hc107
      refine jm_aload_n (x := P.1 + 60) rfl rfl (jM_at hl 1 rfl) ?_
      refine jn_gf (i := 60) (k := 47) rfl rfl hH (by decide) (hH.2 60 _ rfl).1 rfl rfl (fun z156 (ez156 : z156.toInt = ja h 60 47) (bz156 : (-2147483648) ≤ z156.toInt ∧ z156.toInt ≤ 2147483647) => ?_)
      refine jx_ret rfl rfl rfl ?_
      exact ⟨z156, rfl, hH, hs, e16, by omega⟩
    · have g107 := jc2_ge_f hc107
      exfalso
      omega
  | succ k ih =>
    intro j T h ls hl hH hs e16 e47 eT hj
    have k0 : (0 : Int32).toInt = 0 := by decide
    have k8 : (8 : Int32).toInt = 8 := by decide
    have k16 : (16 : Int32).toInt = 16 := by decide
    refine jm_iload_n (x := T) rfl rfl (jM_at hl 0 rfl) ?_
    refine az_X_step (pc' := 107) (ls' := ls) (st' := [.int 8, .int T]) (h' := h) rfl rfl rfl ?_
    refine jx_ic (t := 155) rfl rfl rfl (fun hc107 => ?_) (fun hc107 => ?_)
    · have g107 := jc2_ge_t hc107
      refine jm_aload_n (x := P.1 + 60) rfl rfl (jM_at hl 1 rfl) ?_
      refine jn_gf (i := 60) (k := 47) rfl rfl hH (by decide) (hH.2 60 _ rfl).1 rfl rfl (fun z156 (ez156 : z156.toInt = ja h 60 47) (bz156 : (-2147483648) ≤ z156.toInt ∧ z156.toInt ≤ 2147483647) => ?_)
      refine jx_ret rfl rfl rfl ?_
      exfalso
      omega
    · have g107 := jc2_ge_f hc107
      refine jm_aload_n (x := P.1 + 60) rfl rfl (jM_at hl 1 rfl) ?_
      refine jx_gf (i := 60) rfl rfl hH (by decide) (hH.2 60 _ rfl).1 rfl (jx_rf hH rfl rfl) ?_
      refine az_X_step (pc' := 115) (ls' := ls) (st' := [.int 0, .ref (P.1 + 61)]) (h' := h) rfl rfl rfl ?_
      refine jm_iload_n (x := T) rfl rfl (jM_at hl 0 rfl) ?_
      refine jn_add (a := 0) (b := T) rfl rfl (by omega) (by omega) (fun z116 ez116 => ?_)
      rw [show (0 : Int32).toInt = 0 by decide] at ez116
      refine jm_aload_n (x := P.1 + 60) rfl rfl (jM_at hl 1 rfl) ?_
      refine jx_gf (i := 60) rfl rfl hH (by decide) (hH.2 60 _ rfl).1 rfl (jx_rf hH rfl rfl) ?_
      refine jm_iload_n (x := T) rfl rfl (jM_at hl 0 rfl) ?_
      refine jx_ial (i := 85) (x := T) rfl rfl hxa hH (by decide) rfl (by omega) (by show _ < ((8 : Nat) : Int); omega) (fun z122 ez122 bz122 => ?_)
      refine jn_ias (i := 61) (x := z116) (v := z122) rfl rfl hH (by decide) rfl (by omega) (by show _ < ((26 : Nat) : Int); omega) (by show (-65535) ≤ _; omega) (by show _ ≤ 65535; omega) (fun h123 hH123 hs123 t123 u123 => ?_)
      refine jm_aload_n (x := P.1 + 60) rfl rfl (jM_at hl 1 rfl) ?_
      refine jx_gf (i := 60) rfl rfl hH123 (by decide) (hH123.2 60 _ rfl).1 rfl (jx_rf hH123 rfl rfl) ?_
      refine az_X_step (pc' := 130) (ls' := ls) (st' := [.int 8, .ref (P.1 + 61)]) (h' := h123) rfl rfl rfl ?_
      refine jm_iload_n (x := T) rfl rfl (jM_at hl 0 rfl) ?_
      refine jn_add (a := 8) (b := T) rfl rfl (by omega) (by omega) (fun z131 ez131 => ?_)
      rw [show (8 : Int32).toInt = 8 by decide] at ez131
      refine jm_aload_n (x := P.1 + 60) rfl rfl (jM_at hl 1 rfl) ?_
      refine jx_gf (i := 60) rfl rfl hH123 (by decide) (hH123.2 60 _ rfl).1 rfl (jx_rf hH123 rfl rfl) ?_
      refine jm_iload_n (x := T) rfl rfl (jM_at hl 0 rfl) ?_
      refine jx_ial (i := 86) (x := T) rfl rfl hxa hH123 (by decide) rfl (by omega) (by show _ < ((8 : Nat) : Int); omega) (fun z137 ez137 bz137 => ?_)
      refine jn_ias (i := 61) (x := z131) (v := z137) rfl rfl hH123 (by decide) rfl (by omega) (by show _ < ((26 : Nat) : Int); omega) (by show (-65535) ≤ _; omega) (by show _ ≤ 65535; omega) (fun h138 hH138 hs138 t138 u138 => ?_)
      refine jm_aload_n (x := P.1 + 60) rfl rfl (jM_at hl 1 rfl) ?_
      refine jx_gf (i := 60) rfl rfl hH138 (by decide) (hH138.2 60 _ rfl).1 rfl (jx_rf hH138 rfl rfl) ?_
      refine az_X_step (pc' := 145) (ls' := ls) (st' := [.int 16, .ref (P.1 + 61)]) (h' := h138) rfl rfl rfl ?_
      refine jm_iload_n (x := T) rfl rfl (jM_at hl 0 rfl) ?_
      refine jn_add (a := 16) (b := T) rfl rfl (by omega) (by omega) (fun z146 ez146 => ?_)
      rw [show (16 : Int32).toInt = 16 by decide] at ez146
      refine az_X_step (pc' := 148) (ls' := ls) (st' := [.int 0, .int z146, .ref (P.1 + 61)]) (h' := h138) rfl rfl rfl ?_
      refine jn_ias (i := 61) (x := z146) (v := 0) rfl rfl hH138 (by decide) rfl (by omega) (by show _ < ((26 : Nat) : Int); omega) (by show (-65535) ≤ _; omega) (by show _ ≤ 65535; omega) (fun h148 hH148 hs148 t148 u148 => ?_)
      refine jn_iinc (x := T) rfl rfl (by decide) (jM_at hl 0 rfl) hl rfl (by decide) (by omega) (by omega) (fun z149 (ez149 : z149.toInt = T.toInt + 1) ls149 (hl149 : jM [(3, .int z149), (0, .ref (P.1 + 60))] ls149) => ?_)
      refine az_X_step (pc' := 104) (ls' := ls149) (st' := []) (h' := h148) rfl rfl rfl ?_
      exact ih (j + 1) z149 h148 ls149 (jM_pick hl149 [0, 1] rfl) hH148 (hs.tr ((hs123.sub (by decide)).tr ((hs138.sub (by decide)).tr (hs148.sub (by decide))))) (((jso hs148 (by decide)).trans ((jso hs138 (by decide)).trans (jso hs123 (by decide)))).trans e16) (((jso hs148 (by decide)).trans ((jso hs138 (by decide)).trans (jso hs123 (by decide)))).trans e47) (by omega) (by omega)
theorem re_ok {P : si_P} (hxa : P.2.1 < P.1) {d : Nat} {h : si_H} (hH : az_HI P az_tb h) (G : Int32) (ls : si_L) (hl : jM [(2, .int G), (0, .ref (P.1 + 60))] ls) : az_X P d 269 80 ls [] h (fun rv h' => ∃ z : Int32, rv = some (.int z) ∧ az_HI P az_tb h' ∧ az_same_out [(60, 10), (60, 16), (61, 1000000)] h h' ∧ ja h' 60 16 = 0 ∧ ((G.toInt = 0 ∧ z.toInt = ja h 60 19) ∨ (G.toInt ≠ 0 ∧ z.toInt = ja h 60 47))) := by
  have b45 : 0 ≤ ja h 60 45 ∧ ja h 60 45 ≤ 255 := ja_bd hH (i := 60) (k := 45) rfl
  have k0 : (0 : Int32).toInt = 0 := by decide
  refine jm_aload_n (x := P.1 + 60) rfl rfl (jM_at hl 1 rfl) ?_
  refine az_X_step (pc' := 82) (ls' := ls) (st' := [.int 0, .ref (P.1 + 60)]) (h' := h) rfl rfl rfl ?_
  refine jn_pf (i := 60) (k := 16) (x := 0) rfl rfl hH (by decide) rfl (hH.2 60 _ rfl).1 rfl rfl (by decide) (by decide) (by show 0 ≤ _; omega) (by show _ ≤ 260; omega) (fun h82 hH82 hs82 (t82 : ja h82 60 16 = (0 : Int32).toInt) => ?_)
  replace t82 : ja h82 60 16 = 0 := t82.trans (by decide)
  refine jm_iload_n (x := G) rfl rfl (jM_at hl 0 rfl) ?_
  refine jx_if (t := 94) rfl rfl rfl (fun hc86 => ?_) (fun hc86 => ?_)
  · have g86 := jc1_ne_t hc86
    refine jm_aload_n (x := P.1 + 60) rfl rfl (jM_at hl 1 rfl) ?_
    refine jm_aload_n (x := P.1 + 60) rfl rfl (jM_at hl 1 rfl) ?_
    refine jn_gf (i := 60) (k := 45) rfl rfl hH82 (by decide) (hH82.2 60 _ rfl).1 rfl rfl (fun z96 (ez96 : z96.toInt = ja h82 60 45) (bz96 : 0 ≤ z96.toInt ∧ z96.toInt ≤ 255) => ?_)
    replace ez96 : z96.toInt = ja h 60 45 := ez96.trans (jso hs82 (by decide))
    refine jn_pf (i := 60) (k := 10) (x := z96) rfl rfl hH82 (by decide) rfl (hH82.2 60 _ rfl).1 rfl rfl (by decide) (by decide) (by show 0 ≤ _; omega) (by show _ ≤ 255; omega) (fun h99 hH99 hs99 (t99 : ja h99 60 10 = z96.toInt) => ?_)
    refine az_X_step (pc' := 103) (ls' := ls) (st' := [.int 0]) (h' := h99) rfl rfl rfl ?_
    refine jm_istore_n (l' := [(3, .int 0), (2, .int G), (0, .ref (P.1 + 60))]) rfl rfl (by decide) hl rfl rfl (fun ls103 hl103 => ?_)
    refine (re_l hxa (h0 := h) (m := ja h 60 47) 8 0 0 h99 ls103 (jM_pick hl103 [0, 2] rfl) hH99 ((hs82.sub (by decide)).tr (hs99.sub (by decide))) ((jso hs99 (by decide)).trans t82) ((jso hs99 (by decide)).trans (jso hs82 (by decide))) (by decide) (by omega)).mono ?_
    rintro rv h9 ⟨z, q1, q2, q3, q4, q5⟩
    exact ⟨z, q1, q2, q3, q4, Or.inr ⟨by omega, q5⟩⟩
  · have g86 := jc1_ne_f hc86
    refine jm_aload_n (x := P.1 + 60) rfl rfl (jM_at hl 1 rfl) ?_
    refine jn_gf (i := 60) (k := 19) rfl rfl hH82 (by decide) (hH82.2 60 _ rfl).1 rfl rfl (fun z90 (ez90 : z90.toInt = ja h82 60 19) (bz90 : (-2147483648) ≤ z90.toInt ∧ z90.toInt ≤ 2147483647) => ?_)
    replace ez90 : z90.toInt = ja h 60 19 := ez90.trans (jso hs82 (by decide))
    refine jx_ret rfl rfl rfl ?_
    exact ⟨z90, rfl, hH82, (hs82.sub (by decide)), t82, Or.inl ⟨by omega, by omega⟩⟩
theorem rg_ok {P : si_P} (hxa : P.2.1 < P.1) {d : Nat} {h : si_H} (hH : az_HI P az_tb h) (G : Int32) (hG : G.toInt = 0) (ls : si_L) (hl : jM [(2, .int G), (0, .ref (P.1 + 60))] ls) : az_X P d 269 40 ls [] h (fun rv h' => ∃ z : Int32, rv = some (.int z) ∧ az_HI P az_tb h' ∧ az_same_out [(60, 10), (60, 16), (61, 1000000)] h h' ∧ ja h' 60 16 = 0 ∧ z.toInt = ja h 60 19) := by
  have k0 : (0 : Int32).toInt = 0 := by decide
  refine jm_iload_n (x := G) rfl rfl (jM_at hl 0 rfl) ?_
  refine jx_if (t := 80) rfl rfl rfl (fun hc41 => ?_) (fun hc41 => ?_)
  · have g41 := jc1_eq_t hc41
    refine (re_ok hxa hH G ls (jM_pick hl [0, 1] rfl)).mono ?_
    rintro rv h9 ⟨z, q1, q2, q3, q4, q5⟩
    exact ⟨z, q1, q2, q3, q4, by omega⟩
  · have g41 := jc1_eq_f hc41
    exfalso
    omega
theorem rk_l {P : si_P} (hxa : P.2.1 < P.1) {d : Nat} {h0 : si_H} {n : Int} {hh : Int → Int} (hn : 1 ≤ n ∧ n ≤ 240) (hh1 : ∀ i : Int, hh i ≤ 255) (hy : ja h0 60 9 ≤ 1440) : ∀ (k j : Nat) (S : Nat → Bool) (q : Int) (G : Int32) (h : si_H) (ls : si_L), jM [(2, .int G), (0, .ref (P.1 + 60))] ls → az_HI P az_tb h → az_same_out [(60, 10), (60, 16), (60, 17), (60, 19), (60, 20), (60, 45), (60, 47), (61, 1000000), (85, 1000000), (86, 1000000)] h0 h → ja h 60 18 = n → ja h 60 17 = q → jBR h n hh → G.toInt = 1 → ja h 60 47 = j → j + k = 9 → jtc S 8 = j → jBT (ja h 60 45) S → az_X P (d + 5) 269 40 ls [] h (fun rv h' => ∃ z : Int32, rv = some (.int z) ∧ az_HI P az_tb h' ∧ az_same_out [(60, 10), (60, 16), (60, 17), (60, 19), (60, 20), (60, 45), (60, 47), (61, 1000000), (85, 1000000), (86, 1000000)] h0 h' ∧ ja h' 60 16 = 0 ∧ ((n ≤ q ∧ z.toInt = j) ∨ (q < n ∧ hh q ≠ 59 ∧ z.toInt = -1000 - q) ∨ (q < n ∧ hh q = 59 ∧ jLN hh (ja h0 60 9) n k S (q + 1) j z.toInt))) := by
  intro k
  induction k with
  | zero =>
    intro j S q G h ls hl hH hs e8 e7 hb eG e47 hj hS hB
    have := jtc_bd S 8
    exfalso
    omega
  | succ k ih =>
    intro j S q G h ls hl hH hs e8 e7 hb eG e47 hj hS hB
    have bS := jtc_bd S 8
    have bp : 0 ≤ ja h 60 17 ∧ ja h 60 17 ≤ 240 := ja_bd hH (i := 60) (k := 17) rfl
    have y9 : ja h 60 9 = ja h0 60 9 := jso hs (by decide)
    have k0 : (0 : Int32).toInt = 0 := by decide
    have k1 : (1 : Int32).toInt = 1 := by decide
    have k59 : (59 : Int32).toInt = 59 := by decide
    refine jm_iload_n (x := G) rfl rfl (jM_at hl 0 rfl) ?_
    refine jx_if (t := 80) rfl rfl rfl (fun hc41 => ?_) (fun hc41 => ?_)
    · have g41 := jc1_eq_t hc41
      exfalso
      omega
    · have g41 := jc1_eq_f hc41
      refine jm_aload_n (x := P.1 + 60) rfl rfl (jM_at hl 1 rfl) ?_
      refine jn_gf (i := 60) (k := 17) rfl rfl hH (by decide) (hH.2 60 _ rfl).1 rfl rfl (fun z45 (ez45 : z45.toInt = ja h 60 17) (bz45 : 0 ≤ z45.toInt ∧ z45.toInt ≤ 240) => ?_)
      refine jm_aload_n (x := P.1 + 60) rfl rfl (jM_at hl 1 rfl) ?_
      refine jn_gf (i := 60) (k := 18) rfl rfl hH (by decide) (hH.2 60 _ rfl).1 rfl rfl (fun z49 (ez49 : z49.toInt = ja h 60 18) (bz49 : 0 ≤ z49.toInt ∧ z49.toInt ≤ 240) => ?_)
      refine jx_ic (t := 80) rfl rfl rfl (fun hc52 => ?_) (fun hc52 => ?_)
      · have g52 := jc2_ge_t hc52
        refine (re_ok hxa hH G ls (jM_pick hl [0, 1] rfl)).mono ?_
        rintro rv h9 ⟨z, q1, q2, q3, q4, q5⟩
        exact ⟨z, q1, q2, hs.tr (q3.sub (by decide)), q4, Or.inl ⟨by omega, by omega⟩⟩
      · have g52 := jc2_ge_f hc52
        refine jm_aload_n (x := P.1 + 60) rfl rfl (jM_at hl 1 rfl) ?_
        refine az_X_step (pc' := 58) (ls' := ls) (st' := [.int 59, .ref (P.1 + 60)]) (h' := h) rfl rfl rfl ?_
        refine az_X_call (m' := 243) (as := [.ref (P.1 + 60), .int 59]) (rest := []) rfl rfl rfl rfl rfl ?_ ?_
        · unfold si_call
          dsimp only
          rw [if_pos ⟨rfl, rfl⟩]
          show (match si_ix P h (P.1 + 60) with | some i => _ | none => none) = _
          rw [jix hH (by decide)]
          dsimp only
          rw [(hH.2 60 _ rfl).1]
          rfl
        refine (rt_ok hH hn e8 e7 hb 59 (by decide)).mono ?_
        rintro rv58 h58 ⟨z58, rfl, hH58, hs58, f58⟩
        show az_X P _ 269 61 ls [.int z58] _ _
        refine jx_if (t := 75) rfl rfl rfl (fun hc61 => ?_) (fun hc61 => ?_)
        · have g61 := jc1_eq_t hc61
          refine az_X_step (pc' := 76) (ls' := ls) (st' := [.int 0]) (h' := h58) rfl rfl rfl ?_
          refine jm_istore_n (l' := [(2, .int 0), (0, .ref (P.1 + 60))]) rfl rfl (by decide) hl rfl rfl (fun ls76 hl76 => ?_)
          refine az_X_step (pc' := 40) (ls' := ls76) (st' := []) (h' := h58) rfl rfl rfl ?_
          refine (rg_ok hxa hH58 0 (by decide) ls76 (jM_pick hl76 [0, 1] rfl)).mono ?_
          rintro rv h9 ⟨z, q1, q2, q3, q4, q5⟩
          refine ⟨z, q1, q2, (hs.tr (hs58.sub (by decide))).tr (q3.sub (by decide)), q4, ?_⟩
          rcases f58 with ⟨-, a, -⟩ | ⟨a, -, c⟩
          · exact absurd g61 (by omega)
          · exact Or.inr (Or.inl ⟨by omega, fun e => a (e.trans k59.symm), by omega⟩)
        · have g61 := jc1_eq_f hc61
          refine jm_aload_n (x := P.1 + 60) rfl rfl (jM_at hl 1 rfl) ?_
          refine az_X_call (m' := 268) (as := [.ref (P.1 + 60)]) (rest := []) rfl rfl rfl rfl rfl ?_ ?_
          · unfold si_call
            dsimp only
            rw [if_pos ⟨rfl, rfl⟩]
            show (match si_ix P h58 (P.1 + 60) with | some i => _ | none => none) = _
            rw [jix hH58 (by decide)]
            dsimp only
            rw [(hH58.2 60 _ rfl).1]
            rfl
          refine (rc_ok hH58 hn ((jso hs58 (by decide)).trans e8) rfl (jBR_so hs58 (by decide) hb) hh1 (S := S) (by rw [jso hs58 (by decide)]; exact hB) (by rw [jso hs58 (by decide)]; omega) (by rw [jso hs58 (by decide)]; omega)).mono ?_
          rintro rv65 h65 ⟨z65, rfl, hH65, hs65, f65⟩
          show az_X P _ 269 68 ls [.int z65] _ _
          refine jx_if (t := 75) rfl rfl rfl (fun hc68 => ?_) (fun hc68 => ?_)
          · have g68 := jc1_eq_t hc68
            refine az_X_step (pc' := 76) (ls' := ls) (st' := [.int 0]) (h' := h65) rfl rfl rfl ?_
            refine jm_istore_n (l' := [(2, .int 0), (0, .ref (P.1 + 60))]) rfl rfl (by decide) hl rfl rfl (fun ls76 hl76 => ?_)
            refine az_X_step (pc' := 40) (ls' := ls76) (st' := []) (h' := h65) rfl rfl rfl ?_
            have x58 : hh q = 59 ∧ ja h58 60 17 = q + 1 := by
              rcases f58 with ⟨a, -, c⟩ | ⟨-, a, -⟩
              · exact ⟨a.trans k59, c⟩
              · exact absurd a g61
            have y58 : ja h58 60 9 = ja h0 60 9 := (jso hs58 (by decide)).trans y9
            rw [x58.2, y58] at f65
            refine (rg_ok hxa hH65 0 (by decide) ls76 (jM_pick hl76 [0, 1] rfl)).mono ?_
            rintro rv h9 ⟨z, q1, q2, q3, q4, q5⟩
            refine ⟨z, q1, q2, (hs.tr ((hs58.sub (by decide)).tr (hs65.sub (by decide)))).tr (q3.sub (by decide)), q4, ?_⟩
            refine Or.inr (Or.inr ⟨by omega, x58.1, ?_⟩)
            rcases f65 with ⟨a, -, c⟩ | ⟨a, b, -, c⟩ | ⟨a, b, f, r, c, e⟩
            · exact Or.inl ⟨a, by omega⟩
            · exact Or.inr (Or.inl ⟨a, b, by omega⟩)
            · rcases e with ⟨e1, -, e3⟩ | ⟨-, e2, -⟩
              · exact Or.inr (Or.inr ⟨a, b, f, r, c, Or.inl ⟨e1, by omega⟩⟩)
              · exact absurd g68 (by omega)
          · have g68 := jc1_eq_f hc68
            refine az_X_step (pc' := 72) (ls' := ls) (st' := [.int 1]) (h' := h65) rfl rfl rfl ?_
            refine az_X_step (pc' := 76) (ls' := ls) (st' := [.int 1]) (h' := h65) rfl rfl rfl ?_
            refine jm_istore_n (l' := [(2, .int 1), (0, .ref (P.1 + 60))]) rfl rfl (by decide) hl rfl rfl (fun ls76 hl76 => ?_)
            refine az_X_step (pc' := 40) (ls' := ls76) (st' := []) (h' := h65) rfl rfl rfl ?_
            have x58 : hh q = 59 ∧ ja h58 60 17 = q + 1 := by
              rcases f58 with ⟨a, -, c⟩ | ⟨-, a, -⟩
              · exact ⟨a.trans k59, c⟩
              · exact absurd a g61
            have y58 : ja h58 60 9 = ja h0 60 9 := (jso hs58 (by decide)).trans y9
            rw [x58.2, y58] at f65
            rcases f65 with ⟨-, a, -⟩ | ⟨-, -, a, -⟩ | ⟨a, b, f, r, c, e⟩
            · exact absurd a g68
            · exact absurd a g68
            · rcases e with ⟨-, e2, -⟩ | ⟨e1, -, e3, e4, e5⟩
              · exact absurd e2 g68
              · have l58 : ja h58 60 47 = ja h 60 47 := jso hs58 (by decide)
                refine (ih (j + 1) (jad S (hh (q + 1) - 97).toNat) r 1 h65 ls76 (jM_pick hl76 [0, 1] rfl) hH65 (hs.tr ((hs58.sub (by decide)).tr (hs65.sub (by decide)))) (((jso hs65 (by decide)).trans (jso hs58 (by decide))).trans e8) e3 (jBR_so hs65 (by decide) (jBR_so hs58 (by decide) hb)) (by decide) (by omega) (by omega) ?_ e5).mono ?_
                · rw [jtc_ad b, hS, if_pos (by omega)]; omega
                · rintro rv h9 ⟨z, q1, q2, q3, q4, q5⟩
                  refine ⟨z, q1, q2, q3, q4, Or.inr (Or.inr ⟨by omega, x58.1, Or.inr (Or.inr ⟨a, b, f, r, c, ?_⟩)⟩)⟩
                  rcases q5 with ⟨u1, u2⟩ | ⟨u1, u2, u3⟩ | ⟨u1, u2, u3⟩
                  · exact Or.inr (Or.inl ⟨e1, u1, by omega⟩)
                  · exact Or.inr (Or.inr (Or.inl ⟨e1, u1, u2, u3⟩))
                  · exact Or.inr (Or.inr (Or.inr ⟨e1, u1, u2, by rw [show (j : Int) + 1 = ((j + 1 : Nat) : Int) by omega]; exact u3⟩))
theorem clocks1_ok {P : si_P} (hxa : P.2.1 < P.1) {d : Nat} {h : si_H} (hH : az_HI P az_tb h) (hy : ja h 60 9 ≤ 1440) (a : Int32) : az_X P (d + 5) 269 0 (lv_args 0 [.ref (P.1 + 60), .int a]) [] h (fun rv h' => ∃ z : Int32, rv = some (.int z) ∧ az_HI P az_tb h' ∧ az_same_out [(60, 10), (60, 16), (60, 17), (60, 18), (60, 19), (60, 20), (60, 22), (60, 24), (60, 45), (60, 47), (61, 1000000), (85, 1000000), (86, 1000000)] h h' ∧ (((1 ≤ a.toInt ∧ a.toInt ≤ 120 ∧ a.toInt ≤ ja h 60 16) ∧ ja h' 60 16 = 0 ∧ jLN (fun i : Int => if 0 ≤ i ∧ i < a.toInt then ja h 71 i % 256 else -1) (ja h 60 9) a.toInt 9 (fun _ => false) 0 0 z.toInt) ∨ (¬ (1 ≤ a.toInt ∧ a.toInt ≤ 120 ∧ a.toInt ≤ ja h 60 16) ∧ ja h' 60 16 = ja h 60 16 ∧ z.toInt = -1))) := by
  have hh1 : ∀ i : Int, ((fun i : Int => if 0 ≤ i ∧ i < a.toInt then ja h 71 i % 256 else -1)) i ≤ 255 := fun i => by
    show (if 0 ≤ i ∧ i < a.toInt then ja h 71 i % 256 else -1) ≤ 255
    split <;> omega
  have hb : ∀ n : Int, n = a.toInt → jBR h n (fun i : Int => if 0 ≤ i ∧ i < a.toInt then ja h 71 i % 256 else -1) := fun n e => by
    subst e
    exact ⟨fun i i0 i1 => by show _ = if 0 ≤ i ∧ i < a.toInt then ja h 71 i % 256 else -1; rw [if_pos ⟨i0, i1⟩], fun i i1 => by show (if 0 ≤ i ∧ i < a.toInt then ja h 71 i % 256 else -1) = -1; rw [if_neg (by omega)]⟩
  replace hb := hb a.toInt rfl
  have hl : jM [(0, .ref (P.1 + 60)), (1, .int a)] (lv_args 0 [.ref (P.1 + 60), .int a]) := jM_args [0, 1] rfl (by decide)
  generalize lv_args 0 [.ref (P.1 + 60), .int a] = ls at hl
  have km1 : ((-1) : Int32).toInt = (-1) := by decide
  have k0 : (0 : Int32).toInt = 0 := by decide
  have k1 : (1 : Int32).toInt = 1 := by decide
  have k120 : (120 : Int32).toInt = 120 := by decide
  refine jm_iload_n (x := a) rfl rfl (jM_at hl 1 rfl) ?_
  refine az_X_step (pc' := 2) (ls' := ls) (st' := [.int 1, .int a]) (h' := h) rfl rfl rfl ?_
  refine az_X_step (pc' := 4) (ls' := ls) (st' := [.int 120, .int 1, .int a]) (h' := h) rfl rfl rfl ?_
  refine az_X_call (m' := 202) (as := [.int a, .int 1, .int 120]) (rest := []) rfl rfl rfl rfl rfl rfl ?_
  refine (rin_ok a 1 120).mono ?_
  rintro rv4 h4 ⟨q4, z4, rfl, ez4⟩
  subst h4
  show az_X P _ 269 7 ls [.int z4] _ _
  refine jx_if (t := 18) rfl rfl rfl (fun hc7 => ?_) (fun hc7 => ?_)
  · have g7 := jc1_eq_t hc7
    refine az_X_step (pc' := 19) (ls' := ls) (st' := [.int (-1)]) (h' := h) rfl rfl rfl ?_
    refine jx_ret rfl rfl rfl ?_
    exact ⟨(-1), rfl, hH, az_same_out.rf, Or.inr ⟨by omega, rfl, by decide⟩⟩
  · have g7 := jc1_eq_f hc7
    refine jm_iload_n (x := a) rfl rfl (jM_at hl 1 rfl) ?_
    refine jm_aload_n (x := P.1 + 60) rfl rfl (jM_at hl 0 rfl) ?_
    refine jn_gf (i := 60) (k := 16) rfl rfl hH (by decide) (hH.2 60 _ rfl).1 rfl rfl (fun z12 (ez12 : z12.toInt = ja h 60 16) (bz12 : 0 ≤ z12.toInt ∧ z12.toInt ≤ 260) => ?_)
    refine jx_ic (t := 20) rfl rfl rfl (fun hc15 => ?_) (fun hc15 => ?_)
    · have g15 := jc2_le_t hc15
      refine jm_aload_n (x := P.1 + 60) rfl rfl (jM_at hl 0 rfl) ?_
      refine jm_iload_n (x := a) rfl rfl (jM_at hl 1 rfl) ?_
      refine az_X_call (m' := 260) (as := [.ref (P.1 + 60), .int a]) (rest := []) rfl rfl rfl rfl rfl ?_ ?_
      · unfold si_call
        dsimp only
        rw [if_pos ⟨rfl, rfl⟩]
        show (match si_ix P h (P.1 + 60) with | some i => _ | none => none) = _
        rw [jix hH (by decide)]
        dsimp only
        rw [(hH.2 60 _ rfl).1]
        rfl
      refine (bt_ok hH a (by omega)).mono ?_
      rintro rv22 h22 ⟨rfl, hH22, hs22, f22⟩
      show az_X P _ 269 25 ls [] _ _
      refine jm_aload_n (x := P.1 + 60) rfl rfl (jM_at hl 0 rfl) ?_
      refine az_X_step (pc' := 27) (ls' := ls) (st' := [.int 0, .ref (P.1 + 60)]) (h' := h22) rfl rfl rfl ?_
      refine jn_pf (i := 60) (k := 45) (x := 0) rfl rfl hH22 (by decide) rfl (hH22.2 60 _ rfl).1 rfl rfl (by decide) (by decide) (by show 0 ≤ _; omega) (by show _ ≤ 255; omega) (fun h27 hH27 hs27 (t27 : ja h27 60 45 = (0 : Int32).toInt) => ?_)
      replace t27 : ja h27 60 45 = 0 := t27.trans (by decide)
      refine jm_aload_n (x := P.1 + 60) rfl rfl (jM_at hl 0 rfl) ?_
      refine az_X_step (pc' := 32) (ls' := ls) (st' := [.int 0, .ref (P.1 + 60)]) (h' := h27) rfl rfl rfl ?_
      refine jn_pf (i := 60) (k := 47) (x := 0) rfl rfl hH27 (by decide) rfl (hH27.2 60 _ rfl).1 rfl rfl (by decide) (by decide) (by show (-2147483648) ≤ _; omega) (by show _ ≤ 2147483647; omega) (fun h32 hH32 hs32 (t32 : ja h32 60 47 = (0 : Int32).toInt) => ?_)
      replace t32 : ja h32 60 47 = 0 := t32.trans (by decide)
      refine jm_aload_n (x := P.1 + 60) rfl rfl (jM_at hl 0 rfl) ?_
      refine az_X_call (m' := 268) (as := [.ref (P.1 + 60)]) (rest := []) rfl rfl rfl rfl rfl ?_ ?_
      · unfold si_call
        dsimp only
        rw [if_pos ⟨rfl, rfl⟩]
        show (match si_ix P h32 (P.1 + 60) with | some i => _ | none => none) = _
        rw [jix hH32 (by decide)]
        dsimp only
        rw [(hH32.2 60 _ rfl).1]
        rfl
      refine (rc_ok (d := d) hH32 (n := a.toInt) (by omega) (((jso hs32 (by decide)).trans (jso hs27 (by decide))).trans f22.2) rfl (jBR_so hs32 (by decide) (jBR_so hs27 (by decide) (jBR_so hs22 (by decide) hb))) hh1 (S := fun _ => false) (by rw [(jso hs32 (by decide) : ja h32 60 45 = ja h27 60 45), t27]; exact ⟨0, rfl, by omega, fun c hc => by simp⟩) (by rw [t32]; omega) (by rw [(jso hs32 (by decide) : ja h32 60 9 = ja h27 60 9), (jso hs27 (by decide) : ja h27 60 9 = ja h22 60 9), (jso hs22 (by decide) : ja h22 60 9 = ja h 60 9)]; exact hy)).mono ?_
      rintro rv36 h36 ⟨z36, rfl, hH36, hs36, f36⟩
      show az_X P _ 269 39 ls [.int z36] _ _
      refine jm_istore_n (l' := [(2, .int z36), (0, .ref (P.1 + 60)), (1, .int a)]) rfl rfl (by decide) hl rfl rfl (fun ls39 hl39 => ?_)
      have y32 : ja h32 60 9 = ja h 60 9 := (jso hs32 (by decide)).trans ((jso hs27 (by decide)).trans (jso hs22 (by decide)))
      have p32 : ja h32 60 17 = 0 := (jso hs32 (by decide)).trans ((jso hs27 (by decide)).trans f22.1)
      have l32 : ja h32 60 47 = 0 := t32
      rw [p32, y32, l32] at f36
      have OUT : az_same_out [(60, 10), (60, 16), (60, 17), (60, 18), (60, 19), (60, 20), (60, 22), (60, 24), (60, 45), (60, 47), (61, 1000000), (85, 1000000), (86, 1000000)] h h36 := ((hs22.sub (by decide)).tr ((hs27.sub (by decide)).tr ((hs32.sub (by decide)).tr (hs36.sub (by decide)))))
      rcases (by omega : z36.toInt = 0 ∨ z36.toInt ≠ 0) with g | g
      · refine (rg_ok hxa hH36 z36 g ls39 (jM_pick hl39 [0, 1] rfl)).mono ?_
        rintro rv h9 ⟨z, q1, q2, q3, q4, q5⟩
        refine ⟨z, q1, q2, OUT.tr (q3.sub (by decide)), Or.inl ⟨by omega, q4, ?_⟩⟩
        rcases f36 with ⟨la, -, c⟩ | ⟨la, b, -, c⟩ | ⟨la, b, f, r, c, e⟩
        · exact Or.inl ⟨la, by omega⟩
        · exact Or.inr (Or.inl ⟨la, b, by omega⟩)
        · rcases e with ⟨e1, -, e3⟩ | ⟨-, e2, -⟩
          · exact Or.inr (Or.inr ⟨la, b, f, r, c, Or.inl ⟨e1, by omega⟩⟩)
          · omega
      · rcases f36 with ⟨-, la, -⟩ | ⟨-, -, la, -⟩ | ⟨la, b, f, r, c, e⟩
        · exact absurd la g
        · exact absurd la g
        · rcases e with ⟨-, e2, -⟩ | ⟨e1, e2, e3, e4, e5⟩
          · exact absurd e2 g
          · refine (rk_l (d := d) hxa (h0 := h36) (n := a.toInt) (hh := (fun i : Int => if 0 ≤ i ∧ i < a.toInt then ja h 71 i % 256 else -1)) (by omega) hh1 (by rw [jso hs36 (by decide), y32]; exact hy) 8 1 (jad (fun _ => false) ((fun i : Int => if 0 ≤ i ∧ i < a.toInt then ja h 71 i % 256 else -1) 0 - 97).toNat) r z36 h36 ls39 (jM_pick hl39 [0, 1] rfl) hH36 az_same_out.rf (((jso hs36 (by decide)).trans ((jso hs32 (by decide)).trans (jso hs27 (by decide)))).trans f22.2) e3 (jBR_so hs36 (by decide) (jBR_so hs32 (by decide) (jBR_so hs27 (by decide) (jBR_so hs22 (by decide) hb)))) e2 (by omega) (by omega) ?_ e5).mono ?_
            · have l8 : ((fun i : Int => if 0 ≤ i ∧ i < a.toInt then ja h 71 i % 256 else -1) 0 - 97).toNat < 8 := by
                show ((if 0 ≤ (0 : Int) ∧ 0 < a.toInt then ja h 71 0 % 256 else -1) - 97).toNat < 8
                omega
              rw [jtc_ad rfl, if_pos l8]
              rfl
            · rintro rv h9 ⟨z, q1, q2, q3, q4, q5⟩
              rw [jso hs36 (by decide), y32] at q5
              refine ⟨z, q1, q2, OUT.tr (q3.sub (by decide)), Or.inl ⟨by omega, q4, Or.inr (Or.inr ⟨la, b, f, r, c, ?_⟩)⟩⟩
              rcases q5 with ⟨u1, u2⟩ | ⟨u1, u2, u3⟩ | ⟨u1, u2, u3⟩
              · exact Or.inr (Or.inl ⟨e1, u1, by omega⟩)
              · exact Or.inr (Or.inr (Or.inl ⟨e1, u1, u2, u3⟩))
              · exact Or.inr (Or.inr (Or.inr ⟨e1, u1, u2, by rw [show (0 : Int) + 1 = ((1 : Nat) : Int) by omega]; exact u3⟩))
    · have g15 := jc2_le_f hc15
      refine az_X_step (pc' := 19) (ls' := ls) (st' := [.int (-1)]) (h' := h) rfl rfl rfl ?_
      refine jx_ret rfl rfl rfl ?_
      exact ⟨(-1), rfl, hH, az_same_out.rf, Or.inr ⟨by omega, rfl, by decide⟩⟩
