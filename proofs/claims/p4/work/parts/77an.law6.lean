set_option maxRecDepth 100000
/-! a sum, by the reference -/
def jSL (hh : Int → Int) (n : Int) (h0 : si_H) (b : Nat) (p0 : Int) (t : Nat) (h : si_H) (w c : Nat) (p : Int) : Prop := jQS hh n h w c p t ∧ b ≤ w ∧ p0 < p ∧ (∀ j : Nat, j < b → ja h 73 j = ja h0 73 j) ∧ (∀ j : Nat, b ≤ j → j < w → (2 ≤ jop (ja h 73 j) ∧ jop (ja h 73 j) ≤ 6) ∨ jop (ja h 73 j) = 14) ∧ ∀ (wd : Nat) (i : Int), pyL hh n (3, wd, 0, p0, jsk (ja h0 73) b, i) (4, wd, 0, p, jsk (ja h 73) w, i)
def jSM (hh : Int → Int) (n : Int) (h0 : si_H) (b : Nat) (p0 : Int) (t : Nat) (h' : si_H) (z : Int) : Prop := (z = 1 ∧ ∃ (c' : Nat) (p' : Int), jQS hh n h' b c' p' t ∧ p0 < p' ∧ (∀ j : Nat, j < b → ja h' 73 j = ja h0 73 j) ∧ ¬ pysg (hh p') ∧ ∀ (wd : Nat) (i : Int), pyL hh n (3, wd, 0, p0, jsk (ja h0 73) b, i) (4, wd, 0, p', jsk (ja h0 73) b, i)) ∨ (z = 0 ∧ ja h' 60 19 ≠ 0 ∧ ∀ (wd : Nat) (i : Int), pyR hh n (3, wd, 0, p0, jsk (ja h0 73) b, i) (ja h' 60 19))
/-- the signs of a sum close -/
theorem sm_close {hh : Int → Int} {n : Int} {h0 h h' : si_H} {b w c t : Nat} {p0 p all : Int} (hb : ∀ v : Nat, b = v + 1 → ¬ (2 ≤ jop (ja h0 73 v) ∧ jop (ja h0 73 v) ≤ 6)) (s : jSL hh n h0 b p0 t h w c p) (f : ∃ w' : Nat, w' ≤ w ∧ (∀ j : Nat, w' ≤ j → j < w → 2 ≤ jop (ja h 73 j) ∧ jop (ja h 73 j) ≤ 6) ∧ (∀ v : Nat, w' = v + 1 → ¬ (4 ≤ jop (ja h 73 v) ∧ jop (ja h 73 v) ≤ 6) ∧ (all = 1 → ¬ (2 ≤ jop (ja h 73 v) ∧ jop (ja h 73 v) ≤ 3))) ∧ ja h' 60 23 = w' ∧ ja h' 60 22 = (c : Int) + w - w' ∧ (∀ k : Nat, k < c → ja h' 72 k = ja h 72 k) ∧ (∀ k : Nat, c ≤ k → (k : Int) < c + w - w' → 0 ≤ ja h' 72 k ∧ 2 ≤ jop (ja h' 72 k) ∧ jop (ja h' 72 k) ≤ 6)) (hs : az_same_out jm_cs h h') : ∃ w1 c1 : Nat, jSL hh n h0 b p0 t h' w1 c1 p ∧ w1 ≤ w ∧ (∀ j : Int, ja h' 73 j = ja h 73 j) ∧ (∀ j : Nat, w1 ≤ j → j < w → 2 ≤ jop (ja h 73 j) ∧ jop (ja h 73 j) ≤ 6) ∧ (all = 1 → ∀ v : Nat, w1 = v + 1 → ¬ (2 ≤ jop (ja h 73 v) ∧ jop (ja h 73 v) ≤ 6)) := by
  obtain ⟨q, s1, s2, s3, s4, s5⟩ := s
  have q0 := q
  obtain ⟨q8, q7, q3, q2, q1, qw, qc, qp, qA, qI, qC, qL, qB⟩ := q
  obtain ⟨w1, a1, a2, a3, a4, a5, a6, a7⟩ := f
  have s73 : ∀ j : Int, ja h' 73 j = ja h 73 j := fun j => jso_row hs (by decide) j
  have bw : b ≤ w1 := by
    rcases Nat.lt_or_ge w1 b with z | z
    · exfalso
      have e := a2 (b - 1) (by omega) (by omega)
      rw [s3 (b - 1) (by omega)] at e
      exact hb (b - 1) (by omega) e
    · exact z
  have ek : jsk (ja h 73) w = jsk (ja h 73) w1 := jsk_no a1 (fun j h1 h2 => by
    have := a2 j h1 h2
    omega)
  have ec : jcn (ja h 73) w = jcn (ja h 73) w1 + ((w : Int) - w1) := jcn_all a1 (fun j h1 h2 => by
    unfold jk1
    rw [if_pos (Or.inl (a2 j h1 h2))])
  have e2 : jsk (ja h' 73) w1 = jsk (ja h 73) w1 := jsk_cg (fun j _ => s73 j)
  refine ⟨w1, c + (w - w1), ⟨jQS_down q0 a1 (Int.le_refl _) qp (jso hs (by decide)) ((jso hs (by decide)).trans q7) a4 (by rw [a5]; omega) (fun j _ => s73 j) (by omega) (fun k hk => ?_) (jBR_so hs (by decide) qB) (by omega) (by rw [← ek]; exact qL) (by rw [← ek]; exact (jso hs (by decide)).trans q1), bw, s2, fun j hj => (s73 j).trans (s3 j hj), fun j h1 h2 => ?_, fun wd i => ?_⟩, a1, s73, a2, fun e v hv => ?_⟩
  · rcases Nat.lt_or_ge k c with z | z
    · rw [a6 k z]
      exact qC k z
    · exact (a7 k z (by omega)).1
  · rw [s73]
    exact s4 j h1 (by omega)
  · rw [e2, ← ek]
    exact s5 wd i
  · have := a3 v hv
    omega
theorem sm_factor {hh : Int → Int} {n : Int} {h0 h1 h2 h3 : si_H} {b w c t : Nat} {p0 p z : Int} (s : jSL hh n h0 b p0 t h1 w c p) (hg : pysg (hh p)) (e : jsk (ja h2 73) (w + 1) = jsk (ja h1 73) w) (hA : ∀ j : Nat, j < w → ja h2 73 j = ja h1 73 j) (ho : 2 ≤ jop (ja h2 73 w) ∧ jop (ja h2 73 w) ≤ 6) (f : jFC hh n h2 (w + 1) c (p + 1) t h3 z) : (z = 1 ∧ ∃ (w3 : Nat) (p3 : Int), jSL hh n h0 b p0 t h3 w3 (c + 1) p3 ∧ p < p3) ∨ (z = 0 ∧ ja h3 60 19 ≠ 0 ∧ ∀ (wd : Nat) (i : Int), pyR hh n (3, wd, 0, p0, jsk (ja h0 73) b, i) (ja h3 60 19)) := by
  obtain ⟨q, s1, s2, s3, s4, s5⟩ := s
  rcases f with ⟨a1, w', p', a2, a3, a4, a5, a6, a7⟩ | ⟨a1, a2, a3⟩
  · refine Or.inl ⟨a1, w', p', ⟨a2, by omega, by omega, fun j hj => (a5 j (by omega)).trans ((hA j (by omega)).trans (s3 j hj)), fun j h1' h2' => ?_, fun wd i => ?_⟩, by omega⟩
    · rcases Nat.lt_or_ge j w with x | x
      · rw [a5 j (by omega), hA j x]
        exact s4 j h1' x
      · rcases Nat.lt_or_ge w j with y | y
        · exact Or.inr (a6 j (by omega) h2')
        · rw [show j = w by omega, a5 w (by omega)]
          exact Or.inl ho
    · have := a7 wd i
      rw [e] at this
      exact (s5 wd i).tr ((pyL_1 (ps4_sign hg)).tr this)
  · refine Or.inr ⟨a1, a2, fun wd i => ?_⟩
    have := a3 wd i
    rw [e] at this
    exact (s5 wd i) _ (pyL_1 (ps4_sign hg) _ this)
theorem sm_top {hh : Int → Int} {n : Int} {h0 h h' : si_H} {b w c t w1 : Nat} {p0 p : Int} (s : jSL hh n h0 b p0 t h w c p) (hw : w1 ≤ w) (ar : ∀ j : Nat, w1 ≤ j → j < w → 2 ≤ jop (ja h 73 j) ∧ jop (ja h 73 j) ≤ 6) (tp : ∀ v : Nat, w1 = v + 1 → ¬ (2 ≤ jop (ja h 73 v) ∧ jop (ja h 73 v) ≤ 6)) (ho : ∃ j : Nat, b ≤ j ∧ j < w ∧ jop (ja h 73 j) = 14) (s73 : ∀ j : Int, ja h' 73 j = ja h 73 j) : ∃ u : Nat, w1 = u + 1 ∧ b ≤ u ∧ jop (ja h' 73 u) = 14 := by
  obtain ⟨j, j1, j2, j3⟩ := ho
  have jw : j < w1 := by
    rcases Nat.lt_or_ge j w1 with z | z
    · exact z
    · have := ar j z j2
      omega
  refine ⟨w1 - 1, by omega, by omega, ?_⟩
  have h1 := s.2.2.2.2.1 (w1 - 1) (by omega) (by omega)
  have h2 := tp (w1 - 1) (by omega)
  rw [s73]
  omega
theorem sm_end {hh : Int → Int} {n : Int} {h0 h h' : si_H} {b w c t w1 c1 : Nat} {p0 p : Int} (s : jSL hh n h0 b p0 t h w c p) (s1 : jSL hh n h0 b p0 t h' w1 c1 p) (hw : w1 ≤ w) (tp : ∀ v : Nat, w1 = v + 1 → ¬ (2 ≤ jop (ja h 73 v) ∧ jop (ja h 73 v) ≤ 6)) (ho : ∀ j : Nat, b ≤ j → j < w → jop (ja h 73 j) ≠ 14) (ng : ¬ pysg (hh p)) : jSM hh n h0 b p0 t h' 1 := by
  have e : w1 = b := by
    rcases Nat.lt_or_ge b w1 with z | z
    · exfalso
      have h1 := s.2.2.2.2.1 (w1 - 1) (by omega) (by omega)
      have h2 := tp (w1 - 1) (by omega)
      have h3 := ho (w1 - 1) (by omega) (by omega)
      omega
    · have := s1.2.1
      omega
  subst e
  obtain ⟨a1, a2, a3, a4, a5, a6⟩ := s1
  refine Or.inl ⟨rfl, c1, p, a1, a3, a4, ng, fun wd i => ?_⟩
  have := a6 wd i
  rw [jsk_cg (A := ja h' 73) (B := ja h0 73) (fun j hj => a4 j hj)] at this
  exact this
theorem sm_wrong {hh : Int → Int} {n : Int} {h0 h h' : si_H} {b w c t : Nat} {p0 p : Int} (hp : 0 ≤ p) (s : jSL hh n h0 b p0 t h w c p) (hs : (jsk (ja h0 73) b).head? ≠ some 14) (ho : ∃ j : Nat, b ≤ j ∧ j < w ∧ jop (ja h 73 j) = 14) (ng : ¬ pysg (hh p)) (n93 : hh p ≠ 93) (hf : ja h' 60 19 = -1000 - p) : jSM hh n h0 b p0 t h' 0 := by
  obtain ⟨j, j1, j2, j3⟩ := ho
  have key : ∀ w : Nat, (∀ j : Nat, b ≤ j → j < w → (2 ≤ jop (ja h 73 j) ∧ jop (ja h 73 j) ≤ 6) ∨ jop (ja h 73 j) = 14) → b ≤ j → j < w → ∃ r : List Int, jsk (ja h 73) w = 14 :: r := by
    intro w
    induction w with
    | zero =>
      intro _ _ z
      exact absurd z (by omega)
    | succ w ih =>
      intro h4 k1 k2
      rcases h4 w (by omega) (by omega) with a | a
      · have jn : j ≠ w := fun e => by
          subst e
          omega
        obtain ⟨r, hr⟩ := ih (fun j h1 h2 => h4 j h1 (by omega)) k1 (by omega)
        exact ⟨r, by rw [jsk_s, if_neg (by omega), hr]⟩
      · exact ⟨jsk (ja h 73) w, jsk_y a (Or.inr (Or.inr rfl))⟩
  obtain ⟨r, hr⟩ := key w s.2.2.2.2.1 j1 j2
  refine Or.inr ⟨rfl, by omega, fun wd i => ?_⟩
  rw [hf]
  have := s.2.2.2.2.2 wd i
  rw [hr] at this
  exact this _ (pyR_1 (ps4_bad ng n93))
theorem su_l {P : si_P} (hxa : P.2.1 < P.1) {d : Nat} {hh : Int → Int} {n : Int} (hn : 1 ≤ n ∧ n ≤ 240) (hh1 : ∀ i : Int, hh i ≤ 255) {h0 : si_H} {b0 t : Nat} {p0 : Int} (b : Int32) (eb : b.toInt = b0) (hb : ∀ v : Nat, b0 = v + 1 → ¬ (2 ≤ jop (ja h0 73 v) ∧ jop (ja h0 73 v) ≤ 6)) (hk : (jsk (ja h0 73) b0).head? ≠ some 14) : ∀ (m w c : Nat) (p : Int) (h : si_H) (ls : si_L), jM [(1, .int b), (0, .ref (P.1 + 60))] ls → az_HI P az_tb h → az_same_out [(60, 17), (60, 19), (60, 20), (60, 21), (60, 22), (60, 23), (72, 1000000), (73, 1000000)] h0 h → jSL hh n h0 b0 p0 t h w c p → n - p < m → az_X P (d + 7) 253 14 ls [] h (fun rv h' => ∃ z : Int32, rv = some (.int z) ∧ az_HI P az_tb h' ∧ az_same_out [(60, 17), (60, 19), (60, 20), (60, 21), (60, 22), (60, 23), (72, 1000000), (73, 1000000)] h0 h' ∧ jSM hh n h0 b0 p0 t h' z.toInt) := by
  intro m
  induction m with
  | zero =>
    intro w c p h ls hl hH hs sl hm
    have q := sl.1
    have q0 := q
    obtain ⟨q8, q7, q3, q2, q1, qw, qc, qp, qA, qI, qC, qL, qB⟩ := q
    have bp : 0 ≤ ja h 60 17 ∧ ja h 60 17 ≤ 240 := ja_bd hH (i := 60) (k := 17) rfl
    have jn0 := jcn_nn (ja h 73) w
    have bw := sl.2.1
    exfalso
    omega
  | succ m ih =>
    intro w c p h ls hl hH hs sl hm
    have q := sl.1
    have q0 := q
    obtain ⟨q8, q7, q3, q2, q1, qw, qc, qp, qA, qI, qC, qL, qB⟩ := q
    have bp : 0 ≤ ja h 60 17 ∧ ja h 60 17 ≤ 240 := ja_bd hH (i := 60) (k := 17) rfl
    have jn0 := jcn_nn (ja h 73) w
    have bw := sl.2.1
    have km1 : ((-1) : Int32).toInt = (-1) := by decide
    have k0 : (0 : Int32).toInt = 0 := by decide
    have k1 : (1 : Int32).toInt = 1 := by decide
    have k4 : (4 : Int32).toInt = 4 := by decide
    have k93 : (93 : Int32).toInt = 93 := by decide
    have k1048576 : (1048576 : Int32).toInt = 1048576 := by decide
    refine jm_aload_n (x := P.1 + 60) rfl rfl (jM_at hl 1 rfl) ?_
    refine az_X_call (m' := 240) (as := [.ref (P.1 + 60)]) (rest := []) rfl rfl rfl rfl rfl ?_ ?_
    · unfold si_call
      dsimp only
      rw [if_pos ⟨rfl, rfl⟩]
      show (match si_ix P h (P.1 + 60) with | some i => _ | none => none) = _
      rw [jix hH (by decide)]
      dsimp only
      rw [(hH.2 60 _ rfl).1]
      rfl
    refine (rh_ok hH hn q8 q7 qB).mono ?_
    rintro rv15 h15 ⟨q15, z15, rfl, ez15⟩
    subst h15
    show az_X P _ 253 18 ls [.int z15] _ _
    refine az_X_call (m' := 249) (as := [.int z15]) (rest := []) rfl rfl rfl rfl rfl rfl ?_
    refine (sg_ok z15).mono ?_
    rintro rv18 h18 ⟨q18, z18, rfl, ez18⟩
    subst h18
    show az_X P _ 253 21 ls [.int z18] _ _
    refine jm_istore_n (l' := [(2, .int z18), (1, .int b), (0, .ref (P.1 + 60))]) rfl rfl (by decide) hl rfl rfl (fun ls21 hl21 => ?_)
    refine jm_iload_n (x := z18) rfl rfl (jM_at hl21 0 rfl) ?_
    refine az_X_step (pc' := 24) (ls' := ls21) (st' := [.int (-1), .int z18]) (h' := h) rfl rfl rfl ?_
    refine jx_ic (t := 84) rfl rfl rfl (fun hc24 => ?_) (fun hc24 => ?_)
    · have g24 := jc2_eq_t hc24
      have ngy : ¬ pysg (hh p) := by omega
      refine jm_aload_n (x := P.1 + 60) rfl rfl (jM_at hl21 2 rfl) ?_
      refine az_X_call (m' := 240) (as := [.ref (P.1 + 60)]) (rest := []) rfl rfl rfl rfl rfl ?_ ?_
      · unfold si_call
        dsimp only
        rw [if_pos ⟨rfl, rfl⟩]
        show (match si_ix P h (P.1 + 60) with | some i => _ | none => none) = _
        rw [jix hH (by decide)]
        dsimp only
        rw [(hH.2 60 _ rfl).1]
        rfl
      refine (rh_ok hH hn q8 q7 qB).mono ?_
      rintro rv85 h85 ⟨q85, z85, rfl, ez85⟩
      subst h85
      show az_X P _ 253 88 ls21 [.int z85] _ _
      refine az_X_step (pc' := 90) (ls' := ls21) (st' := [.int 93, .int z85]) (h' := h) rfl rfl rfl ?_
      refine jx_ic (t := 139) rfl rfl rfl (fun hc90 => ?_) (fun hc90 => ?_)
      · have g90 := jc2_ne_t hc90
        refine jm_aload_n (x := P.1 + 60) rfl rfl (jM_at hl21 2 rfl) ?_
        refine jm_iload_n (x := b) rfl rfl (jM_at hl21 1 rfl) ?_
        refine az_X_call (m' := 252) (as := [.ref (P.1 + 60), .int b]) (rest := []) rfl rfl rfl rfl rfl ?_ ?_
        · unfold si_call
          dsimp only
          rw [if_pos ⟨rfl, rfl⟩]
          show (match si_ix P h (P.1 + 60) with | some i => _ | none => none) = _
          rw [jix hH (by decide)]
          dsimp only
          rw [(hH.2 60 _ rfl).1]
          rfl
        refine (ho_ok hxa hH q3 (by omega) qA b eb bw).mono ?_
        rintro rv141 h141 ⟨q141, z141, rfl, ez141⟩
        subst h141
        show az_X P _ 253 144 ls21 [.int z141] _ _
        refine jx_if (t := 157) rfl rfl rfl (fun hc144 => ?_) (fun hc144 => ?_)
        · have g144 := jc1_eq_t hc144
          refine jm_aload_n (x := P.1 + 60) rfl rfl (jM_at hl21 2 rfl) ?_
          refine az_X_step (pc' := 159) (ls' := ls21) (st' := [.int 1, .ref (P.1 + 60)]) (h' := h) rfl rfl rfl ?_
          refine az_X_call (m' := 250) (as := [.ref (P.1 + 60), .int 1]) (rest := []) rfl rfl rfl rfl rfl ?_ ?_
          · unfold si_call
            dsimp only
            rw [if_pos ⟨rfl, rfl⟩]
            show (match si_ix P h (P.1 + 60) with | some i => _ | none => none) = _
            rw [jix hH (by decide)]
            dsimp only
            rw [(hH.2 60 _ rfl).1]
            rfl
          refine (closesSums_ok hxa (d := d + 6) (by omega) (all := 1) (by omega) w c h (lv_args 0 [.ref (P.1 + 60), .int 1]) hH (show jR P (lv_args 0 [.ref (P.1 + 60), .int 1]) 0 60 from rfl) ⟨1, rfl, by decide⟩ q3 q2 qA (by omega) (by omega)).mono ?_
          rintro rv159 h159 ⟨rfl, hH159, hs159, f159⟩
          show az_X P _ 253 162 ls21 [] _ _
          obtain ⟨w1, c1, sl1, w1w, s73, ar, tp⟩ := sm_close hb sl f159 hs159
          obtain ⟨r8, r7, r3, r2, r1, rw_, rc, rp, rA, rI, rC, rL, rB⟩ := sl1.1
          refine az_X_step (pc' := 163) (ls' := ls21) (st' := [.int 1]) (h' := h159) rfl rfl rfl ?_
          refine jx_retz rfl rfl rfl (by decide) ?_
          have k1b : (1 : Int32).toInt = 1 := by decide
          refine ⟨1, rfl, hH159, hs.tr (hs159.sub (by decide)), ?_⟩
          rw [k1b]
          exact sm_end sl sl1 w1w (tp rfl) (by
            rcases ez141 with ⟨a, -⟩ | ⟨-, a⟩
            · exact absurd a (by omega)
            · exact a) ngy
        · have g144 := jc1_eq_f hc144
          refine jm_aload_n (x := P.1 + 60) rfl rfl (jM_at hl21 2 rfl) ?_
          refine az_X_step (pc' := 149) (ls' := ls21) (st' := [.int 1, .ref (P.1 + 60)]) (h' := h) rfl rfl rfl ?_
          refine jm_aload_n (x := P.1 + 60) rfl rfl (jM_at hl21 2 rfl) ?_
          refine jn_gf (i := 60) (k := 17) rfl rfl hH (by decide) (hH.2 60 _ rfl).1 rfl rfl (fun z150 (ez150 : z150.toInt = ja h 60 17) (bz150 : 0 ≤ z150.toInt ∧ z150.toInt ≤ 240) => ?_)
          refine az_X_call (m' := 242) (as := [.ref (P.1 + 60), .int 1, .int z150]) (rest := []) rfl rfl rfl rfl rfl ?_ ?_
          · unfold si_call
            dsimp only
            rw [if_pos ⟨rfl, rfl⟩]
            show (match si_ix P h (P.1 + 60) with | some i => _ | none => none) = _
            rw [jix hH (by decide)]
            dsimp only
            rw [(hH.2 60 _ rfl).1]
            rfl
          refine (rw_ok hH 1 z150 (by decide) (by omega)).mono ?_
          rintro rv153 h153 ⟨z153, rfl, hH153, hs153, f153⟩
          show az_X P _ 253 156 ls21 [.int z153] _ _
          refine jx_retz rfl rfl rfl (jbz (by omega)) ?_
          have n93 : hh p ≠ 93 := by
            rw [ez85] at g90
            omega
          have f0 := f153.2
          refine ⟨z153, rfl, hH153, hs.tr (hs153.sub (by decide)), ?_⟩
          rw [f153.1]
          exact sm_wrong (by omega) sl hk (by
            rcases ez141 with ⟨-, a⟩ | ⟨a, -⟩
            · exact a
            · exact absurd a g144) ngy n93 (by rw [f0]; omega)
      · have g90 := jc2_ne_f hc90
        refine jm_aload_n (x := P.1 + 60) rfl rfl (jM_at hl21 2 rfl) ?_
        refine jm_iload_n (x := b) rfl rfl (jM_at hl21 1 rfl) ?_
        refine az_X_call (m' := 252) (as := [.ref (P.1 + 60), .int b]) (rest := []) rfl rfl rfl rfl rfl ?_ ?_
        · unfold si_call
          dsimp only
          rw [if_pos ⟨rfl, rfl⟩]
          show (match si_ix P h (P.1 + 60) with | some i => _ | none => none) = _
          rw [jix hH (by decide)]
          dsimp only
          rw [(hH.2 60 _ rfl).1]
          rfl
        refine (ho_ok hxa hH q3 (by omega) qA b eb bw).mono ?_
        rintro rv95 h95 ⟨q95, z95, rfl, ez95⟩
        subst h95
        show az_X P _ 253 98 ls21 [.int z95] _ _
        refine jx_if (t := 139) rfl rfl rfl (fun hc98 => ?_) (fun hc98 => ?_)
        · have g98 := jc1_eq_t hc98
          refine jm_aload_n (x := P.1 + 60) rfl rfl (jM_at hl21 2 rfl) ?_
          refine jm_iload_n (x := b) rfl rfl (jM_at hl21 1 rfl) ?_
          refine az_X_call (m' := 252) (as := [.ref (P.1 + 60), .int b]) (rest := []) rfl rfl rfl rfl rfl ?_ ?_
          · unfold si_call
            dsimp only
            rw [if_pos ⟨rfl, rfl⟩]
            show (match si_ix P h (P.1 + 60) with | some i => _ | none => none) = _
            rw [jix hH (by decide)]
            dsimp only
            rw [(hH.2 60 _ rfl).1]
            rfl
          refine (ho_ok hxa hH q3 (by omega) qA b eb bw).mono ?_
          rintro rv141 h141 ⟨q141, z141, rfl, ez141⟩
          subst h141
          show az_X P _ 253 144 ls21 [.int z141] _ _
          refine jx_if (t := 157) rfl rfl rfl (fun hc144 => ?_) (fun hc144 => ?_)
          · have g144 := jc1_eq_t hc144
            refine jm_aload_n (x := P.1 + 60) rfl rfl (jM_at hl21 2 rfl) ?_
            refine az_X_step (pc' := 159) (ls' := ls21) (st' := [.int 1, .ref (P.1 + 60)]) (h' := h) rfl rfl rfl ?_
            refine az_X_call (m' := 250) (as := [.ref (P.1 + 60), .int 1]) (rest := []) rfl rfl rfl rfl rfl ?_ ?_
            · unfold si_call
              dsimp only
              rw [if_pos ⟨rfl, rfl⟩]
              show (match si_ix P h (P.1 + 60) with | some i => _ | none => none) = _
              rw [jix hH (by decide)]
              dsimp only
              rw [(hH.2 60 _ rfl).1]
              rfl
            refine (closesSums_ok hxa (d := d + 6) (by omega) (all := 1) (by omega) w c h (lv_args 0 [.ref (P.1 + 60), .int 1]) hH (show jR P (lv_args 0 [.ref (P.1 + 60), .int 1]) 0 60 from rfl) ⟨1, rfl, by decide⟩ q3 q2 qA (by omega) (by omega)).mono ?_
            rintro rv159 h159 ⟨rfl, hH159, hs159, f159⟩
            show az_X P _ 253 162 ls21 [] _ _
            obtain ⟨w1, c1, sl1, w1w, s73, ar, tp⟩ := sm_close hb sl f159 hs159
            obtain ⟨r8, r7, r3, r2, r1, rw_, rc, rp, rA, rI, rC, rL, rB⟩ := sl1.1
            refine az_X_step (pc' := 163) (ls' := ls21) (st' := [.int 1]) (h' := h159) rfl rfl rfl ?_
            refine jx_retz rfl rfl rfl (by decide) ?_
            have k1b : (1 : Int32).toInt = 1 := by decide
            refine ⟨1, rfl, hH159, hs.tr (hs159.sub (by decide)), ?_⟩
            rw [k1b]
            exact sm_end sl sl1 w1w (tp rfl) (by
              rcases ez141 with ⟨a, -⟩ | ⟨-, a⟩
              · exact absurd a (by omega)
              · exact a) ngy
          · have g144 := jc1_eq_f hc144
            refine jm_aload_n (x := P.1 + 60) rfl rfl (jM_at hl21 2 rfl) ?_
            refine az_X_step (pc' := 149) (ls' := ls21) (st' := [.int 1, .ref (P.1 + 60)]) (h' := h) rfl rfl rfl ?_
            refine jm_aload_n (x := P.1 + 60) rfl rfl (jM_at hl21 2 rfl) ?_
            refine jn_gf (i := 60) (k := 17) rfl rfl hH (by decide) (hH.2 60 _ rfl).1 rfl rfl (fun z150 (ez150 : z150.toInt = ja h 60 17) (bz150 : 0 ≤ z150.toInt ∧ z150.toInt ≤ 240) => ?_)
            refine az_X_call (m' := 242) (as := [.ref (P.1 + 60), .int 1, .int z150]) (rest := []) rfl rfl rfl rfl rfl ?_ ?_
            · unfold si_call
              dsimp only
              rw [if_pos ⟨rfl, rfl⟩]
              show (match si_ix P h (P.1 + 60) with | some i => _ | none => none) = _
              rw [jix hH (by decide)]
              dsimp only
              rw [(hH.2 60 _ rfl).1]
              rfl
            refine (rw_ok hH 1 z150 (by decide) (by omega)).mono ?_
            rintro rv153 h153 ⟨z153, rfl, hH153, hs153, f153⟩
            show az_X P _ 253 156 ls21 [.int z153] _ _
            refine jx_retz rfl rfl rfl (jbz (by omega)) ?_
            have n93 : hh p ≠ 93 := by
              exfalso
              rcases ez95 with ⟨a, -⟩ | ⟨-, a⟩
              · exact absurd a (by omega)
              · rcases ez141 with ⟨-, j, j1, j2, j3⟩ | ⟨b, -⟩
                · exact a j j1 j2 j3
                · exact absurd b g144
            have f0 := f153.2
            refine ⟨z153, rfl, hH153, hs.tr (hs153.sub (by decide)), ?_⟩
            rw [f153.1]
            exact sm_wrong (by omega) sl hk (by
              rcases ez141 with ⟨-, a⟩ | ⟨a, -⟩
              · exact a
              · exact absurd a g144) ngy n93 (by rw [f0]; omega)
        · have g98 := jc1_eq_f hc98
          refine jm_aload_n (x := P.1 + 60) rfl rfl (jM_at hl21 2 rfl) ?_
          refine az_X_step (pc' := 103) (ls' := ls21) (st' := [.int 1, .ref (P.1 + 60)]) (h' := h) rfl rfl rfl ?_
          refine az_X_call (m' := 250) (as := [.ref (P.1 + 60), .int 1]) (rest := []) rfl rfl rfl rfl rfl ?_ ?_
          · unfold si_call
            dsimp only
            rw [if_pos ⟨rfl, rfl⟩]
            show (match si_ix P h (P.1 + 60) with | some i => _ | none => none) = _
            rw [jix hH (by decide)]
            dsimp only
            rw [(hH.2 60 _ rfl).1]
            rfl
          refine (closesSums_ok hxa (d := d + 6) (by omega) (all := 1) (by omega) w c h (lv_args 0 [.ref (P.1 + 60), .int 1]) hH (show jR P (lv_args 0 [.ref (P.1 + 60), .int 1]) 0 60 from rfl) ⟨1, rfl, by decide⟩ q3 q2 qA (by omega) (by omega)).mono ?_
          rintro rv103 h103 ⟨rfl, hH103, hs103, f103⟩
          show az_X P _ 253 106 ls21 [] _ _
          obtain ⟨w1, c1, sl1, w1w, s73, ar, tp⟩ := sm_close hb sl f103 hs103
          obtain ⟨r8, r7, r3, r2, r1, rw_, rc, rp, rA, rI, rC, rL, rB⟩ := sl1.1
          have x21 : ja h103 60 21 = ja h 60 21 := jso hs103 (by decide)
          obtain ⟨u, u1, u2, u3⟩ := sm_top sl w1w ar (tp rfl) (by
            rcases ez95 with ⟨-, a⟩ | ⟨a, -⟩
            · exact a
            · exact absurd a g98) s73
          have hlt := jBR_lt qB (p := p) (by omega)
          refine jm_aload_n (x := P.1 + 60) rfl rfl (jM_at hl21 2 rfl) ?_
          refine jm_aload_n (x := P.1 + 60) rfl rfl (jM_at hl21 2 rfl) ?_
          refine jn_gf (i := 60) (k := 23) rfl rfl hH103 (by decide) (hH103.2 60 _ rfl).1 rfl rfl (fun z108 (ez108 : z108.toInt = ja h103 60 23) (bz108 : (-2147483648) ≤ z108.toInt ∧ z108.toInt ≤ 2147483647) => ?_)
          refine az_X_step (pc' := 112) (ls' := ls21) (st' := [.int 1, .int z108, .ref (P.1 + 60)]) (h' := h103) rfl rfl rfl ?_
          refine jn_sub (a := z108) (b := 1) rfl rfl (by omega) (by omega) (fun z112 ez112 => ?_)
          rw [show (1 : Int32).toInt = 1 by decide] at ez112
          refine jn_pf (i := 60) (k := 23) (x := z112) rfl rfl hH103 (by decide) rfl (hH103.2 60 _ rfl).1 rfl rfl (by decide) (by decide) (by show (-2147483648) ≤ _; omega) (by show _ ≤ 2147483647; omega) (fun h113 hH113 hs113 (t113 : ja h113 60 23 = z112.toInt) => ?_)
          refine jm_aload_n (x := P.1 + 60) rfl rfl (jM_at hl21 2 rfl) ?_
          refine jm_aload_n (x := P.1 + 60) rfl rfl (jM_at hl21 2 rfl) ?_
          refine jn_gf (i := 60) (k := 21) rfl rfl hH113 (by decide) (hH113.2 60 _ rfl).1 rfl rfl (fun z118 (ez118 : z118.toInt = ja h113 60 21) (bz118 : (-2147483648) ≤ z118.toInt ∧ z118.toInt ≤ 2147483647) => ?_)
          replace ez118 : z118.toInt = ja h 60 21 := ez118.trans ((jso hs113 (by decide)).trans (jso hs103 (by decide)))
          refine az_X_step (pc' := 122) (ls' := ls21) (st' := [.int 1, .int z118, .ref (P.1 + 60)]) (h' := h113) rfl rfl rfl ?_
          refine jn_sub (a := z118) (b := 1) rfl rfl (by omega) (by omega) (fun z122 ez122 => ?_)
          rw [show (1 : Int32).toInt = 1 by decide] at ez122
          refine jn_pf (i := 60) (k := 21) (x := z122) rfl rfl hH113 (by decide) rfl (hH113.2 60 _ rfl).1 rfl rfl (by decide) (by decide) (by show (-2147483648) ≤ _; omega) (by show _ ≤ 2147483647; omega) (fun h123 hH123 hs123 (t123 : ja h123 60 21 = z122.toInt) => ?_)
          refine jm_aload_n (x := P.1 + 60) rfl rfl (jM_at hl21 2 rfl) ?_
          refine jm_aload_n (x := P.1 + 60) rfl rfl (jM_at hl21 2 rfl) ?_
          refine jn_gf (i := 60) (k := 17) rfl rfl hH123 (by decide) (hH123.2 60 _ rfl).1 rfl rfl (fun z128 (ez128 : z128.toInt = ja h123 60 17) (bz128 : 0 ≤ z128.toInt ∧ z128.toInt ≤ 240) => ?_)
          replace ez128 : z128.toInt = ja h 60 17 := ez128.trans ((jso hs123 (by decide)).trans ((jso hs113 (by decide)).trans (jso hs103 (by decide))))
          refine az_X_step (pc' := 132) (ls' := ls21) (st' := [.int 1, .int z128, .ref (P.1 + 60)]) (h' := h123) rfl rfl rfl ?_
          refine jn_add (a := z128) (b := 1) rfl rfl (by omega) (by omega) (fun z132 ez132 => ?_)
          rw [show (1 : Int32).toInt = 1 by decide] at ez132
          refine jn_pf (i := 60) (k := 17) (x := z132) rfl rfl hH123 (by decide) rfl (hH123.2 60 _ rfl).1 rfl rfl (by decide) (by decide) (by show 0 ≤ _; omega) (by show _ ≤ 240; omega) (fun h133 hH133 hs133 (t133 : ja h133 60 17 = z132.toInt) => ?_)
          refine az_X_step (pc' := 164) (ls' := ls21) (st' := []) (h' := h133) rfl rfl rfl ?_
          refine az_X_step (pc' := 14) (ls' := ls21) (st' := []) (h' := h133) rfl rfl rfl ?_
          have v73 : ∀ j : Int, ja h133 73 j = ja h103 73 j := fun j => by
            rw [jso_row (i := 73) hs133 (by decide), jso_row (i := 73) hs123 (by decide), jso_row (i := 73) hs113 (by decide)]
          have sk : jsk (ja h103 73) w1 = 14 :: jsk (ja h103 73) u := by rw [u1]; exact jsk_y u3 (Or.inr (Or.inr rfl))
          have cn : jcn (ja h103 73) w1 = jcn (ja h103 73) u := by
            rw [u1]
            show jcn (ja h103 73) u + jk1 (jop (ja h103 73 u)) = _
            rw [u3]
            show jcn (ja h103 73) u + 0 = _
            omega
          have rl2 : (jsk (ja h103 73) w1).length = (jsk (ja h103 73) u).length + 1 := by rw [sk, List.length_cons]
          refine ih u c1 (p + 1) h133 ls21 (jM_pick hl21 [1, 2] rfl) hH133 (hs.tr ((hs103.sub (by decide)).tr ((hs113.sub (by decide)).tr ((hs123.sub (by decide)).tr (hs133.sub (by decide)))))) ⟨jQS_down (t' := t) sl1.1 (show u ≤ w1 by omega) (by omega) (by omega) ((jso hs133 (by decide)).trans ((jso hs123 (by decide)).trans (jso hs113 (by decide)))) (t133.trans (by omega)) (((jso hs133 (by decide)).trans ((jso hs123 (by decide)).trans t113)).trans (by omega)) ((jso hs133 (by decide)).trans ((jso hs123 (by decide)).trans ((jso hs113 (by decide)).trans r2))) (fun j _ => v73 j) (Nat.le_refl _) (fun k hk2 => by rw [jso_row (i := 72) hs133 (by decide), jso_row (i := 72) hs123 (by decide), jso_row (i := 72) hs113 (by decide)]; exact rC k hk2) (jBR_so hs133 (by decide) (jBR_so hs123 (by decide) (jBR_so hs113 (by decide) rB))) (by omega) (by omega) (((jso hs133 (by decide)).trans t123).trans (by omega)), u2, by have := sl1.2.2.1; omega, fun j hj => (v73 j).trans (sl1.2.2.2.1 j hj), fun j h1 h2 => by rw [v73]; exact sl1.2.2.2.2.1 j h1 (by omega), fun wd i => ?_⟩ (by omega)
          have y := sl1.2.2.2.2.2 wd i
          rw [sk] at y
          rw [jsk_cg (A := ja h133 73) (B := ja h103 73) (fun j _ => v73 j)]
          exact y.tr (pyL_1 (ps4_close (by omega)))
    · have g24 := jc2_eq_f hc24
      have sgy : pysg (hh p) := by omega
      have hlt := jBR_lt qB (p := p) (by omega)
      refine jm_aload_n (x := P.1 + 60) rfl rfl (jM_at hl21 2 rfl) ?_
      refine jm_iload_n (x := z18) rfl rfl (jM_at hl21 0 rfl) ?_
      refine az_X_step (pc' := 30) (ls' := ls21) (st' := [.int 4, .int z18, .ref (P.1 + 60)]) (h' := h) rfl rfl rfl ?_
      refine jx_ic (t := 37) rfl rfl rfl (fun hc30 => ?_) (fun hc30 => ?_)
      · have g30 := jc2_ge_t hc30
        refine az_X_step (pc' := 38) (ls' := ls21) (st' := [.int 0, .ref (P.1 + 60)]) (h' := h) rfl rfl rfl ?_
        refine az_X_call (m' := 250) (as := [.ref (P.1 + 60), .int 0]) (rest := []) rfl rfl rfl rfl rfl ?_ ?_
        · unfold si_call
          dsimp only
          rw [if_pos ⟨rfl, rfl⟩]
          show (match si_ix P h (P.1 + 60) with | some i => _ | none => none) = _
          rw [jix hH (by decide)]
          dsimp only
          rw [(hH.2 60 _ rfl).1]
          rfl
        refine (closesSums_ok hxa (d := d + 6) (by omega) (all := 0) (by omega) w c h (lv_args 0 [.ref (P.1 + 60), .int 0]) hH (show jR P (lv_args 0 [.ref (P.1 + 60), .int 0]) 0 60 from rfl) ⟨0, rfl, by decide⟩ q3 q2 qA (by omega) (by omega)).mono ?_
        rintro rv38 h38 ⟨rfl, hH38, hs38, f38⟩
        show az_X P _ 253 41 ls21 [] _ _
        obtain ⟨w1, c1, sl1, w1w, s73, ar, tp⟩ := sm_close hb sl f38 hs38
        obtain ⟨r8, r7, r3, r2, r1, rw_, rc, rp, rA, rI, rC, rL, rB⟩ := sl1.1
        refine jm_aload_n (x := P.1 + 60) rfl rfl (jM_at hl21 2 rfl) ?_
        refine jx_gf (i := 60) rfl rfl hH38 (by decide) (hH38.2 60 _ rfl).1 rfl (jx_rf hH38 rfl rfl) ?_
        refine jm_aload_n (x := P.1 + 60) rfl rfl (jM_at hl21 2 rfl) ?_
        refine jn_gf (i := 60) (k := 23) rfl rfl hH38 (by decide) (hH38.2 60 _ rfl).1 rfl rfl (fun z46 (ez46 : z46.toInt = ja h38 60 23) (bz46 : (-2147483648) ≤ z46.toInt ∧ z46.toInt ≤ 2147483647) => ?_)
        refine az_X_step (pc' := 52) (ls' := ls21) (st' := [.int 1048576, .int z46, .ref (P.1 + 73)]) (h' := h38) rfl rfl rfl ?_
        refine jm_iload_n (x := z18) rfl rfl (jM_at hl21 0 rfl) ?_
        refine jn_mul (a := 1048576) (b := z18) rfl rfl (by rw [show (1048576 : Int32).toInt = 1048576 by decide]; omega) (by rw [show (1048576 : Int32).toInt = 1048576 by decide]; omega) (fun z53 ez53 => ?_)
        rw [show (1048576 : Int32).toInt = 1048576 by decide] at ez53
        refine jn_ias (i := 73) (x := z46) (v := z53) rfl rfl hH38 (by decide) rfl (by omega) (by show _ < ((260 : Nat) : Int); omega) (by show (-2147483648) ≤ _; omega) (by show _ ≤ 2147483647; omega) (fun h54 hH54 hs54 t54 u54 => ?_)
        refine jm_aload_n (x := P.1 + 60) rfl rfl (jM_at hl21 2 rfl) ?_
        refine jm_aload_n (x := P.1 + 60) rfl rfl (jM_at hl21 2 rfl) ?_
        refine jn_gf (i := 60) (k := 23) rfl rfl hH54 (by decide) (hH54.2 60 _ rfl).1 rfl rfl (fun z57 (ez57 : z57.toInt = ja h54 60 23) (bz57 : (-2147483648) ≤ z57.toInt ∧ z57.toInt ≤ 2147483647) => ?_)
        replace ez57 : z57.toInt = ja h38 60 23 := ez57.trans (jso hs54 (by decide))
        refine az_X_step (pc' := 61) (ls' := ls21) (st' := [.int 1, .int z57, .ref (P.1 + 60)]) (h' := h54) rfl rfl rfl ?_
        refine jn_add (a := z57) (b := 1) rfl rfl (by omega) (by omega) (fun z61 ez61 => ?_)
        rw [show (1 : Int32).toInt = 1 by decide] at ez61
        refine jn_pf (i := 60) (k := 23) (x := z61) rfl rfl hH54 (by decide) rfl (hH54.2 60 _ rfl).1 rfl rfl (by decide) (by decide) (by show (-2147483648) ≤ _; omega) (by show _ ≤ 2147483647; omega) (fun h62 hH62 hs62 (t62 : ja h62 60 23 = z61.toInt) => ?_)
        refine jm_aload_n (x := P.1 + 60) rfl rfl (jM_at hl21 2 rfl) ?_
        refine jm_aload_n (x := P.1 + 60) rfl rfl (jM_at hl21 2 rfl) ?_
        refine jn_gf (i := 60) (k := 17) rfl rfl hH62 (by decide) (hH62.2 60 _ rfl).1 rfl rfl (fun z67 (ez67 : z67.toInt = ja h62 60 17) (bz67 : 0 ≤ z67.toInt ∧ z67.toInt ≤ 240) => ?_)
        replace ez67 : z67.toInt = ja h 60 17 := ez67.trans ((jso hs62 (by decide)).trans ((jso hs54 (by decide)).trans (jso hs38 (by decide))))
        refine az_X_step (pc' := 71) (ls' := ls21) (st' := [.int 1, .int z67, .ref (P.1 + 60)]) (h' := h62) rfl rfl rfl ?_
        refine jn_add (a := z67) (b := 1) rfl rfl (by omega) (by omega) (fun z71 ez71 => ?_)
        rw [show (1 : Int32).toInt = 1 by decide] at ez71
        refine jn_pf (i := 60) (k := 17) (x := z71) rfl rfl hH62 (by decide) rfl (hH62.2 60 _ rfl).1 rfl rfl (by decide) (by decide) (by show 0 ≤ _; omega) (by show _ ≤ 240; omega) (fun h72 hH72 hs72 (t72 : ja h72 60 17 = z71.toInt) => ?_)
        have oe : jop z53.toInt = z18.toInt := by
          unfold jop
          omega
        have a73 : ∀ j : Nat, j < w1 → ja h72 73 j = ja h38 73 j := fun j hj => by
          rw [jso_row (i := 73) hs72 (by decide), jso_row (i := 73) hs62 (by decide), u54 j (by omega) (by omega)]
        have w73 : ja h72 73 w1 = z53.toInt := by
          rw [jso_row (i := 73) hs72 (by decide), jso_row (i := 73) hs62 (by decide), show (w1 : Int) = z46.toInt by omega, t54]
        have no : ¬ (jop z53.toInt = 10 ∨ jop z53.toInt = 13 ∨ jop z53.toInt = 14) := by omega
        have kk := (jk1_b (jop z53.toInt)).2
        have pu := jQS_push (h' := h72) (c' := c1) (t' := t) (e := z53.toInt) sl1.1 hlt ((jso hs72 (by decide)).trans ((jso hs62 (by decide)).trans (jso hs54 (by decide)))) (t72.trans (by omega)) (((jso hs72 (by decide)).trans t62).trans (by omega)) ((jso hs72 (by decide)).trans ((jso hs62 (by decide)).trans ((jso hs54 (by decide)).trans r2))) a73 w73 (by omega) (fun e => absurd e (by omega)) (Nat.le_refl _) (fun k hk2 => by rw [jso_row (i := 72) hs72 (by decide), jso_row (i := 72) hs62 (by decide), jso_row (i := 72) hs54 (by decide)]; exact rC k hk2) (jBR_so hs72 (by decide) (jBR_so hs62 (by decide) (jBR_so hs54 (by decide) rB))) (by omega) (by rw [if_neg no]; exact rL) (by rw [if_neg no]; exact (jso hs72 (by decide)).trans ((jso hs62 (by decide)).trans ((jso hs54 (by decide)).trans r1)))
        rw [if_neg no] at pu
        refine jm_aload_n (x := P.1 + 60) rfl rfl (jM_at hl21 2 rfl) ?_
        refine az_X_call (m' := 251) (as := [.ref (P.1 + 60)]) (rest := []) rfl rfl rfl rfl rfl ?_ ?_
        · unfold si_call
          dsimp only
          rw [if_pos ⟨rfl, rfl⟩]
          show (match si_ix P h72 (P.1 + 60) with | some i => _ | none => none) = _
          rw [jix hH72 (by decide)]
          dsimp only
          rw [(hH72.2 60 _ rfl).1]
          rfl
        refine (rc_ok (d := d + 3) hxa hn hh1 hH72 pu.1).mono ?_
        rintro rv76 h76 ⟨z76, rfl, hH76, hs76, f76⟩
        show az_X P _ 253 79 ls21 [.int z76] _ _
        refine jx_if (t := 164) rfl rfl rfl (fun hc79 => ?_) (fun hc79 => ?_)
        · have g79 := jc1_ne_t hc79
          refine az_X_step (pc' := 14) (ls' := ls21) (st' := []) (h' := h76) rfl rfl rfl ?_
          rcases sm_factor sl1 sgy pu.2 a73 (by rw [w73, oe]; omega) f76 with ⟨a1, w3, p3, a2, a3⟩ | ⟨a1, -⟩
          · exact ih w3 (c1 + 1) p3 h76 ls21 (jM_pick hl21 [1, 2] rfl) hH76 (hs.tr ((hs38.sub (by decide)).tr ((hs54.sub (by decide)).tr ((hs62.sub (by decide)).tr ((hs72.sub (by decide)).tr (hs76.sub (by decide))))))) a2 (by omega)
          · omega
        · have g79 := jc1_ne_f hc79
          refine az_X_step (pc' := 83) (ls' := ls21) (st' := [.int 0]) (h' := h76) rfl rfl rfl ?_
          refine jx_retz rfl rfl rfl (by decide) ?_
          rcases sm_factor sl1 sgy pu.2 a73 (by rw [w73, oe]; omega) f76 with ⟨a1, -⟩ | ⟨a1, a2, a3⟩
          · omega
          · exact ⟨0, rfl, hH76, hs.tr ((hs38.sub (by decide)).tr ((hs54.sub (by decide)).tr ((hs62.sub (by decide)).tr ((hs72.sub (by decide)).tr (hs76.sub (by decide)))))), Or.inr ⟨by decide, a2, a3⟩⟩
      · have g30 := jc2_ge_f hc30
        refine az_X_step (pc' := 34) (ls' := ls21) (st' := [.int 1, .ref (P.1 + 60)]) (h' := h) rfl rfl rfl ?_
        refine az_X_step (pc' := 38) (ls' := ls21) (st' := [.int 1, .ref (P.1 + 60)]) (h' := h) rfl rfl rfl ?_
        refine az_X_call (m' := 250) (as := [.ref (P.1 + 60), .int 1]) (rest := []) rfl rfl rfl rfl rfl ?_ ?_
        · unfold si_call
          dsimp only
          rw [if_pos ⟨rfl, rfl⟩]
          show (match si_ix P h (P.1 + 60) with | some i => _ | none => none) = _
          rw [jix hH (by decide)]
          dsimp only
          rw [(hH.2 60 _ rfl).1]
          rfl
        refine (closesSums_ok hxa (d := d + 6) (by omega) (all := 1) (by omega) w c h (lv_args 0 [.ref (P.1 + 60), .int 1]) hH (show jR P (lv_args 0 [.ref (P.1 + 60), .int 1]) 0 60 from rfl) ⟨1, rfl, by decide⟩ q3 q2 qA (by omega) (by omega)).mono ?_
        rintro rv38 h38 ⟨rfl, hH38, hs38, f38⟩
        show az_X P _ 253 41 ls21 [] _ _
        obtain ⟨w1, c1, sl1, w1w, s73, ar, tp⟩ := sm_close hb sl f38 hs38
        obtain ⟨r8, r7, r3, r2, r1, rw_, rc, rp, rA, rI, rC, rL, rB⟩ := sl1.1
        refine jm_aload_n (x := P.1 + 60) rfl rfl (jM_at hl21 2 rfl) ?_
        refine jx_gf (i := 60) rfl rfl hH38 (by decide) (hH38.2 60 _ rfl).1 rfl (jx_rf hH38 rfl rfl) ?_
        refine jm_aload_n (x := P.1 + 60) rfl rfl (jM_at hl21 2 rfl) ?_
        refine jn_gf (i := 60) (k := 23) rfl rfl hH38 (by decide) (hH38.2 60 _ rfl).1 rfl rfl (fun z46 (ez46 : z46.toInt = ja h38 60 23) (bz46 : (-2147483648) ≤ z46.toInt ∧ z46.toInt ≤ 2147483647) => ?_)
        refine az_X_step (pc' := 52) (ls' := ls21) (st' := [.int 1048576, .int z46, .ref (P.1 + 73)]) (h' := h38) rfl rfl rfl ?_
        refine jm_iload_n (x := z18) rfl rfl (jM_at hl21 0 rfl) ?_
        refine jn_mul (a := 1048576) (b := z18) rfl rfl (by rw [show (1048576 : Int32).toInt = 1048576 by decide]; omega) (by rw [show (1048576 : Int32).toInt = 1048576 by decide]; omega) (fun z53 ez53 => ?_)
        rw [show (1048576 : Int32).toInt = 1048576 by decide] at ez53
        refine jn_ias (i := 73) (x := z46) (v := z53) rfl rfl hH38 (by decide) rfl (by omega) (by show _ < ((260 : Nat) : Int); omega) (by show (-2147483648) ≤ _; omega) (by show _ ≤ 2147483647; omega) (fun h54 hH54 hs54 t54 u54 => ?_)
        refine jm_aload_n (x := P.1 + 60) rfl rfl (jM_at hl21 2 rfl) ?_
        refine jm_aload_n (x := P.1 + 60) rfl rfl (jM_at hl21 2 rfl) ?_
        refine jn_gf (i := 60) (k := 23) rfl rfl hH54 (by decide) (hH54.2 60 _ rfl).1 rfl rfl (fun z57 (ez57 : z57.toInt = ja h54 60 23) (bz57 : (-2147483648) ≤ z57.toInt ∧ z57.toInt ≤ 2147483647) => ?_)
        replace ez57 : z57.toInt = ja h38 60 23 := ez57.trans (jso hs54 (by decide))
        refine az_X_step (pc' := 61) (ls' := ls21) (st' := [.int 1, .int z57, .ref (P.1 + 60)]) (h' := h54) rfl rfl rfl ?_
        refine jn_add (a := z57) (b := 1) rfl rfl (by omega) (by omega) (fun z61 ez61 => ?_)
        rw [show (1 : Int32).toInt = 1 by decide] at ez61
        refine jn_pf (i := 60) (k := 23) (x := z61) rfl rfl hH54 (by decide) rfl (hH54.2 60 _ rfl).1 rfl rfl (by decide) (by decide) (by show (-2147483648) ≤ _; omega) (by show _ ≤ 2147483647; omega) (fun h62 hH62 hs62 (t62 : ja h62 60 23 = z61.toInt) => ?_)
        refine jm_aload_n (x := P.1 + 60) rfl rfl (jM_at hl21 2 rfl) ?_
        refine jm_aload_n (x := P.1 + 60) rfl rfl (jM_at hl21 2 rfl) ?_
        refine jn_gf (i := 60) (k := 17) rfl rfl hH62 (by decide) (hH62.2 60 _ rfl).1 rfl rfl (fun z67 (ez67 : z67.toInt = ja h62 60 17) (bz67 : 0 ≤ z67.toInt ∧ z67.toInt ≤ 240) => ?_)
        replace ez67 : z67.toInt = ja h 60 17 := ez67.trans ((jso hs62 (by decide)).trans ((jso hs54 (by decide)).trans (jso hs38 (by decide))))
        refine az_X_step (pc' := 71) (ls' := ls21) (st' := [.int 1, .int z67, .ref (P.1 + 60)]) (h' := h62) rfl rfl rfl ?_
        refine jn_add (a := z67) (b := 1) rfl rfl (by omega) (by omega) (fun z71 ez71 => ?_)
        rw [show (1 : Int32).toInt = 1 by decide] at ez71
        refine jn_pf (i := 60) (k := 17) (x := z71) rfl rfl hH62 (by decide) rfl (hH62.2 60 _ rfl).1 rfl rfl (by decide) (by decide) (by show 0 ≤ _; omega) (by show _ ≤ 240; omega) (fun h72 hH72 hs72 (t72 : ja h72 60 17 = z71.toInt) => ?_)
        have oe : jop z53.toInt = z18.toInt := by
          unfold jop
          omega
        have a73 : ∀ j : Nat, j < w1 → ja h72 73 j = ja h38 73 j := fun j hj => by
          rw [jso_row (i := 73) hs72 (by decide), jso_row (i := 73) hs62 (by decide), u54 j (by omega) (by omega)]
        have w73 : ja h72 73 w1 = z53.toInt := by
          rw [jso_row (i := 73) hs72 (by decide), jso_row (i := 73) hs62 (by decide), show (w1 : Int) = z46.toInt by omega, t54]
        have no : ¬ (jop z53.toInt = 10 ∨ jop z53.toInt = 13 ∨ jop z53.toInt = 14) := by omega
        have kk := (jk1_b (jop z53.toInt)).2
        have pu := jQS_push (h' := h72) (c' := c1) (t' := t) (e := z53.toInt) sl1.1 hlt ((jso hs72 (by decide)).trans ((jso hs62 (by decide)).trans (jso hs54 (by decide)))) (t72.trans (by omega)) (((jso hs72 (by decide)).trans t62).trans (by omega)) ((jso hs72 (by decide)).trans ((jso hs62 (by decide)).trans ((jso hs54 (by decide)).trans r2))) a73 w73 (by omega) (fun e => absurd e (by omega)) (Nat.le_refl _) (fun k hk2 => by rw [jso_row (i := 72) hs72 (by decide), jso_row (i := 72) hs62 (by decide), jso_row (i := 72) hs54 (by decide)]; exact rC k hk2) (jBR_so hs72 (by decide) (jBR_so hs62 (by decide) (jBR_so hs54 (by decide) rB))) (by omega) (by rw [if_neg no]; exact rL) (by rw [if_neg no]; exact (jso hs72 (by decide)).trans ((jso hs62 (by decide)).trans ((jso hs54 (by decide)).trans r1)))
        rw [if_neg no] at pu
        refine jm_aload_n (x := P.1 + 60) rfl rfl (jM_at hl21 2 rfl) ?_
        refine az_X_call (m' := 251) (as := [.ref (P.1 + 60)]) (rest := []) rfl rfl rfl rfl rfl ?_ ?_
        · unfold si_call
          dsimp only
          rw [if_pos ⟨rfl, rfl⟩]
          show (match si_ix P h72 (P.1 + 60) with | some i => _ | none => none) = _
          rw [jix hH72 (by decide)]
          dsimp only
          rw [(hH72.2 60 _ rfl).1]
          rfl
        refine (rc_ok (d := d + 3) hxa hn hh1 hH72 pu.1).mono ?_
        rintro rv76 h76 ⟨z76, rfl, hH76, hs76, f76⟩
        show az_X P _ 253 79 ls21 [.int z76] _ _
        refine jx_if (t := 164) rfl rfl rfl (fun hc79 => ?_) (fun hc79 => ?_)
        · have g79 := jc1_ne_t hc79
          refine az_X_step (pc' := 14) (ls' := ls21) (st' := []) (h' := h76) rfl rfl rfl ?_
          rcases sm_factor sl1 sgy pu.2 a73 (by rw [w73, oe]; omega) f76 with ⟨a1, w3, p3, a2, a3⟩ | ⟨a1, -⟩
          · exact ih w3 (c1 + 1) p3 h76 ls21 (jM_pick hl21 [1, 2] rfl) hH76 (hs.tr ((hs38.sub (by decide)).tr ((hs54.sub (by decide)).tr ((hs62.sub (by decide)).tr ((hs72.sub (by decide)).tr (hs76.sub (by decide))))))) a2 (by omega)
          · omega
        · have g79 := jc1_ne_f hc79
          refine az_X_step (pc' := 83) (ls' := ls21) (st' := [.int 0]) (h' := h76) rfl rfl rfl ?_
          refine jx_retz rfl rfl rfl (by decide) ?_
          rcases sm_factor sl1 sgy pu.2 a73 (by rw [w73, oe]; omega) f76 with ⟨a1, -⟩ | ⟨a1, a2, a3⟩
          · omega
          · exact ⟨0, rfl, hH76, hs.tr ((hs38.sub (by decide)).tr ((hs54.sub (by decide)).tr ((hs62.sub (by decide)).tr ((hs72.sub (by decide)).tr (hs76.sub (by decide)))))), Or.inr ⟨by decide, a2, a3⟩⟩
theorem su_ok {P : si_P} (hxa : P.2.1 < P.1) {d : Nat} {hh : Int → Int} {n : Int} (hn : 1 ≤ n ∧ n ≤ 240) (hh1 : ∀ i : Int, hh i ≤ 255) {h : si_H} (hH : az_HI P az_tb h) {w c t : Nat} {p : Int} (q : jQS hh n h w c p t) (hb : ∀ v : Nat, w = v + 1 → ¬ (2 ≤ jop (ja h 73 v) ∧ jop (ja h 73 v) ≤ 6)) (hk : (jsk (ja h 73) w).head? ≠ some 14) : az_X P (d + 7) 253 0 (lv_args 0 [.ref (P.1 + 60)]) [] h (fun rv h' => ∃ z : Int32, rv = some (.int z) ∧ az_HI P az_tb h' ∧ az_same_out [(60, 17), (60, 19), (60, 20), (60, 21), (60, 22), (60, 23), (72, 1000000), (73, 1000000)] h h' ∧ jSM hh n h w p t h' z.toInt) := by
  have q3 := q.2.2.1
  have hl : jM [(0, .ref (P.1 + 60))] (lv_args 0 [.ref (P.1 + 60)]) := jM_args [0] rfl (by decide)
  generalize lv_args 0 [.ref (P.1 + 60)] = ls at hl
  have k0 : (0 : Int32).toInt = 0 := by decide
  refine jm_aload_n (x := P.1 + 60) rfl rfl (jM_at hl 0 rfl) ?_
  refine jn_gf (i := 60) (k := 23) rfl rfl hH (by decide) (hH.2 60 _ rfl).1 rfl rfl (fun z1 (ez1 : z1.toInt = ja h 60 23) (bz1 : (-2147483648) ≤ z1.toInt ∧ z1.toInt ≤ 2147483647) => ?_)
  refine jm_istore_n (l' := [(1, .int z1), (0, .ref (P.1 + 60))]) rfl rfl (by decide) hl rfl rfl (fun ls4 hl4 => ?_)
  refine jm_aload_n (x := P.1 + 60) rfl rfl (jM_at hl4 1 rfl) ?_
  refine az_X_call (m' := 251) (as := [.ref (P.1 + 60)]) (rest := []) rfl rfl rfl rfl rfl ?_ ?_
  · unfold si_call
    dsimp only
    rw [if_pos ⟨rfl, rfl⟩]
    show (match si_ix P h (P.1 + 60) with | some i => _ | none => none) = _
    rw [jix hH (by decide)]
    dsimp only
    rw [(hH.2 60 _ rfl).1]
    rfl
  refine (rc_ok (d := d + 3) hxa hn hh1 hH q).mono ?_
  rintro rv6 h6 ⟨z6, rfl, hH6, hs6, f6⟩
  show az_X P _ 253 9 ls4 [.int z6] _ _
  refine jx_if (t := 14) rfl rfl rfl (fun hc9 => ?_) (fun hc9 => ?_)
  · have g9 := jc1_ne_t hc9
    rcases f6 with ⟨a1, w3, p3, a2, a3, a4, a5, a6, a7⟩ | ⟨a1, -⟩
    · exact su_l (d := d) hxa hn hh1 (h0 := h) (b0 := w) (t := t) (p0 := p) z1 (by omega) hb hk (n - p3 + 1).toNat w3 (c + 1) p3 h6 ls4 (jM_pick hl4 [0, 1] rfl) hH6 hs6 ⟨a2, a3, a4, a5, fun j h1 h2 => Or.inr (a6 j h1 h2), a7⟩ (by have := a2.2.2.2.2.2.2.2.1; omega)
    · omega
  · have g9 := jc1_ne_f hc9
    refine az_X_step (pc' := 13) (ls' := ls4) (st' := [.int 0]) (h' := h6) rfl rfl rfl ?_
    refine jx_retz rfl rfl rfl (by decide) ?_
    rcases f6 with ⟨a1, -⟩ | ⟨a1, a2, a3⟩
    · omega
    · exact ⟨0, rfl, hH6, hs6, Or.inr ⟨by decide, a2, a3⟩⟩
/-! a comparison, by the reference -/
def jCM (hh : Int → Int) (n : Int) (h : si_H) (w : Nat) (p : Int) (h' : si_H) (z : Int) : Prop := (z = 1 ∧ ∃ (w' c' : Nat) (p' : Int), jQS hh n h' w' c' p' 0 ∧ w' ≤ w ∧ p < p' ∧ (∀ j : Nat, j < w' → ja h' 73 j = ja h 73 j) ∧ (∀ u : Nat, w' = u + 1 → jop (ja h 73 u) ≠ 10) ∧ (∀ j : Nat, w' ≤ j → j < w → jop (ja h 73 j) = 10) ∧ ∀ i : Int, pyL hh n (3, 1, 0, p, jsk (ja h 73) w, i) (6, 0, 0, p', jsk (ja h 73) w', i)) ∨ (z = 0 ∧ ja h' 60 19 ≠ 0 ∧ ∀ i : Int, pyR hh n (3, 1, 0, p, jsk (ja h 73) w, i) (ja h' 60 19))
/-- a piece ends -/
theorem ep_end {hh : Int → Int} {n : Int} {h h' : si_H} {w c : Nat} {p : Int} (q : jQS hh n h w c p 0) (hs : az_same_out [(60, 21), (60, 22), (60, 23), (72, 1000000)] h h') (f : ∃ v : Nat, v ≤ w ∧ (∀ j : Nat, v ≤ j → j < w → jop (ja h 73 j) = 10) ∧ (∀ u : Nat, v = u + 1 → jop (ja h 73 u) ≠ 10) ∧ ja h' 60 23 = v ∧ ja h' 60 22 = (c : Int) + w - v ∧ ja h' 60 21 = ja h 60 21 + v - w ∧ ∀ k : Nat, (k : Int) < (c : Int) + w - v → 0 ≤ ja h' 72 k) : ∃ v c' : Nat, jQS hh n h' v c' p 0 ∧ v ≤ w ∧ (∀ j : Int, ja h' 73 j = ja h 73 j) ∧ (∀ j : Nat, v ≤ j → j < w → jop (ja h 73 j) = 10) ∧ (∀ u : Nat, v = u + 1 → jop (ja h 73 u) ≠ 10) ∧ ∀ i : Int, pyL hh n (6, 0, 0, p, jsk (ja h 73) w, i) (6, 0, 0, p, jsk (ja h 73) v, i) := by
  have q0 := q
  obtain ⟨q8, q7, q3, q2, q1, qw, qc, qp, qA, qI, qC, qL, qB⟩ := q
  obtain ⟨v, a1, a2, a3, a4, a5, a6, a7⟩ := f
  have s73 : ∀ j : Int, ja h' 73 j = ja h 73 j := fun j => jso_row hs (by decide) j
  have r := fun i => jsk_10 (hh := hh) (n := n) (p := p) (i := i) (A := ja h 73) a1 a2
  have r2 := (r 0).2
  have ec : jcn (ja h 73) w = jcn (ja h 73) v + ((w : Int) - v) := jcn_all a1 (fun j h1 h2 => by
    unfold jk1
    rw [if_pos (Or.inr (a2 j h1 h2))])
  exact ⟨v, c + (w - v), jQS_down q0 a1 (Int.le_refl _) qp (jso hs (by decide)) ((jso hs (by decide)).trans q7) a4 (by rw [a5]; omega) (fun j _ => s73 j) (by omega) (fun k hk => a7 k (by omega)) (jBR_so hs (by decide) qB) (by omega) (by omega) (by rw [a6, q1]; omega), a1, s73, a2, a3, fun i => (r i).1⟩
theorem jQS_B {hh : Int → Int} {n : Int} {h : si_H} {w c t : Nat} {p : Int} (q : jQS hh n h w c p t) : jBR h n hh := q.2.2.2.2.2.2.2.2.2.2.2.2
theorem cm_ok {P : si_P} (hxa : P.2.1 < P.1) {d : Nat} {hh : Int → Int} {n : Int} (hn : 1 ≤ n ∧ n ≤ 240) (hh1 : ∀ i : Int, hh i ≤ 255) {h : si_H} (hH : az_HI P az_tb h) {w c : Nat} {p : Int} (q : jQS hh n h w c p 0) (hb : ∀ v : Nat, w = v + 1 → ¬ (2 ≤ jop (ja h 73 v) ∧ jop (ja h 73 v) ≤ 6)) (hk : (jsk (ja h 73) w).head? ≠ some 14) : az_X P (d + 8) 257 0 (lv_args 0 [.ref (P.1 + 60)]) [] h (fun rv h' => ∃ z : Int32, rv = some (.int z) ∧ az_HI P az_tb h' ∧ az_same_out [(60, 17), (60, 19), (60, 20), (60, 21), (60, 22), (60, 23), (72, 1000000), (73, 1000000)] h h' ∧ jCM hh n h w p h' z.toInt) := by
  have hl : jM [(0, .ref (P.1 + 60))] (lv_args 0 [.ref (P.1 + 60)]) := jM_args [0] rfl (by decide)
  generalize lv_args 0 [.ref (P.1 + 60)] = ls at hl
  have km1 : ((-1) : Int32).toInt = (-1) := by decide
  have k0 : (0 : Int32).toInt = 0 := by decide
  have k1 : (1 : Int32).toInt = 1 := by decide
  have k7 : (7 : Int32).toInt = 7 := by decide
  have k8 : (8 : Int32).toInt = 8 := by decide
  have k9 : (9 : Int32).toInt = 9 := by decide
  have k60 : (60 : Int32).toInt = 60 := by decide
  have k61 : (61 : Int32).toInt = 61 := by decide
  have k62 : (62 : Int32).toInt = 62 := by decide
  refine jm_aload_n (x := P.1 + 60) rfl rfl (jM_at hl 0 rfl) ?_
  refine az_X_call (m' := 253) (as := [.ref (P.1 + 60)]) (rest := []) rfl rfl rfl rfl rfl ?_ ?_
  · unfold si_call
    dsimp only
    rw [if_pos ⟨rfl, rfl⟩]
    show (match si_ix P h (P.1 + 60) with | some i => _ | none => none) = _
    rw [jix hH (by decide)]
    dsimp only
    rw [(hH.2 60 _ rfl).1]
    rfl
  refine (su_ok (d := d) hxa hn hh1 hH q hb hk).mono ?_
  rintro rv1 h1 ⟨z1, rfl, hH1, hs1, f1⟩
  show az_X P _ 257 4 ls [.int z1] _ _
  refine jx_if (t := 9) rfl rfl rfl (fun hc4 => ?_) (fun hc4 => ?_)
  · have g4 := jc1_ne_t hc4
    obtain ⟨c1, p1, b1, b2, b3, b4, b5⟩ : ∃ (c1 : Nat) (p1 : Int), jQS hh n h1 w c1 p1 0 ∧ p < p1 ∧ (∀ j : Nat, j < w → ja h1 73 j = ja h 73 j) ∧ ¬ pysg (hh p1) ∧ ∀ (wd : Nat) (i : Int), pyL hh n (3, wd, 0, p, jsk (ja h 73) w, i) (4, wd, 0, p1, jsk (ja h 73) w, i) := by
      rcases f1 with ⟨-, c1, p1, b⟩ | ⟨b, -⟩
      · exact ⟨c1, p1, b⟩
      · exact absurd b g4
    have bp1 : 0 ≤ ja h1 60 17 ∧ ja h1 60 17 ≤ 240 := ja_bd hH1 (i := 60) (k := 17) rfl
    have b17 := b1.2.1
    refine jm_aload_n (x := P.1 + 60) rfl rfl (jM_at hl 0 rfl) ?_
    refine az_X_call (m' := 240) (as := [.ref (P.1 + 60)]) (rest := []) rfl rfl rfl rfl rfl ?_ ?_
    · unfold si_call
      dsimp only
      rw [if_pos ⟨rfl, rfl⟩]
      show (match si_ix P h1 (P.1 + 60) with | some i => _ | none => none) = _
      rw [jix hH1 (by decide)]
      dsimp only
      rw [(hH1.2 60 _ rfl).1]
      rfl
    refine (rh_ok hH1 hn b1.1 b1.2.1 (jQS_B b1)).mono ?_
    rintro rv10 h10 ⟨q10, z10, rfl, ez10⟩
    subst h10
    show az_X P _ 257 13 ls [.int z10] _ _
    refine az_X_step (pc' := 15) (ls' := ls) (st' := [.int 60, .int z10]) (h' := h1) rfl rfl rfl ?_
    refine jx_ic (t := 23) rfl rfl rfl (fun hc15 => ?_) (fun hc15 => ?_)
    · have g15 := jc2_ne_t hc15
      refine jm_aload_n (x := P.1 + 60) rfl rfl (jM_at hl 0 rfl) ?_
      refine az_X_call (m' := 240) (as := [.ref (P.1 + 60)]) (rest := []) rfl rfl rfl rfl rfl ?_ ?_
      · unfold si_call
        dsimp only
        rw [if_pos ⟨rfl, rfl⟩]
        show (match si_ix P h1 (P.1 + 60) with | some i => _ | none => none) = _
        rw [jix hH1 (by decide)]
        dsimp only
        rw [(hH1.2 60 _ rfl).1]
        rfl
      refine (rh_ok hH1 hn b1.1 b1.2.1 (jQS_B b1)).mono ?_
      rintro rv24 h24 ⟨q24, z24, rfl, ez24⟩
      subst h24
      show az_X P _ 257 27 ls [.int z24] _ _
      refine az_X_step (pc' := 29) (ls' := ls) (st' := [.int 62, .int z24]) (h' := h1) rfl rfl rfl ?_
      refine jx_ic (t := 37) rfl rfl rfl (fun hc29 => ?_) (fun hc29 => ?_)
      · have g29 := jc2_ne_t hc29
        refine jm_aload_n (x := P.1 + 60) rfl rfl (jM_at hl 0 rfl) ?_
        refine az_X_call (m' := 240) (as := [.ref (P.1 + 60)]) (rest := []) rfl rfl rfl rfl rfl ?_ ?_
        · unfold si_call
          dsimp only
          rw [if_pos ⟨rfl, rfl⟩]
          show (match si_ix P h1 (P.1 + 60) with | some i => _ | none => none) = _
          rw [jix hH1 (by decide)]
          dsimp only
          rw [(hH1.2 60 _ rfl).1]
          rfl
        refine (rh_ok hH1 hn b1.1 b1.2.1 (jQS_B b1)).mono ?_
        rintro rv38 h38 ⟨q38, z38, rfl, ez38⟩
        subst h38
        show az_X P _ 257 41 ls [.int z38] _ _
        refine az_X_step (pc' := 43) (ls' := ls) (st' := [.int 61, .int z38]) (h' := h1) rfl rfl rfl ?_
        refine jx_ic (t := 51) rfl rfl rfl (fun hc43 => ?_) (fun hc43 => ?_)
        · have g43 := jc2_ne_t hc43
          refine az_X_step (pc' := 52) (ls' := ls) (st' := [.int (-1)]) (h' := h1) rfl rfl rfl ?_
          refine jm_istore_n (l' := [(1, .int (-1)), (0, .ref (P.1 + 60))]) rfl rfl (by decide) hl rfl rfl (fun ls52 hl52 => ?_)
          refine jm_iload_n (x := (-1)) rfl rfl (jM_at hl52 0 rfl) ?_
          refine az_X_step (pc' := 55) (ls' := ls52) (st' := [.int (-1), .int (-1)]) (h' := h1) rfl rfl rfl ?_
          refine jn_icd (t := 68) (c := false) rfl rfl rfl (by decide) ?_
          show az_X P _ 257 58 ls52 [] _ _
          refine jm_aload_n (x := P.1 + 60) rfl rfl (jM_at hl52 1 rfl) ?_
          refine az_X_step (pc' := 60) (ls' := ls52) (st' := [.int 1, .ref (P.1 + 60)]) (h' := h1) rfl rfl rfl ?_
          refine jm_aload_n (x := P.1 + 60) rfl rfl (jM_at hl52 1 rfl) ?_
          refine jn_gf (i := 60) (k := 17) rfl rfl hH1 (by decide) (hH1.2 60 _ rfl).1 rfl rfl (fun z61 (ez61 : z61.toInt = ja h1 60 17) (bz61 : 0 ≤ z61.toInt ∧ z61.toInt ≤ 240) => ?_)
          refine az_X_call (m' := 242) (as := [.ref (P.1 + 60), .int 1, .int z61]) (rest := []) rfl rfl rfl rfl rfl ?_ ?_
          · unfold si_call
            dsimp only
            rw [if_pos ⟨rfl, rfl⟩]
            show (match si_ix P h1 (P.1 + 60) with | some i => _ | none => none) = _
            rw [jix hH1 (by decide)]
            dsimp only
            rw [(hH1.2 60 _ rfl).1]
            rfl
          refine (rw_ok hH1 1 z61 (by decide) (by omega)).mono ?_
          rintro rv64 h64 ⟨z64, rfl, hH64, hs64, f64⟩
          show az_X P _ 257 67 ls52 [.int z64] _ _
          refine jx_retz rfl rfl rfl (jbz (by omega)) ?_
          have ncm : ¬ (hh p1 = 60 ∨ hh p1 = 62 ∨ hh p1 = 61) := by omega
          have hf : ja h64 60 19 = -1000 - p1 := by rw [f64.2]; omega
          refine ⟨z64, rfl, hH64, ((hs1.sub (by decide)).tr (hs64.sub (by decide))), Or.inr ⟨f64.1, by omega, fun i => ?_⟩⟩
          rw [hf]
          exact (b5 1 i) _ (pyL_1 ((ps4_end b4 hk).trans (by rw [if_neg (by decide), if_pos rfl])) _ (pyR_1 (ps5_bad ncm)))
        · have g43 := jc2_ne_f hc43
          refine az_X_step (pc' := 48) (ls' := ls) (st' := [.int 9]) (h' := h1) rfl rfl rfl ?_
          refine az_X_step (pc' := 52) (ls' := ls) (st' := [.int 9]) (h' := h1) rfl rfl rfl ?_
          refine jm_istore_n (l' := [(1, .int 9), (0, .ref (P.1 + 60))]) rfl rfl (by decide) hl rfl rfl (fun ls52 hl52 => ?_)
          refine jm_iload_n (x := 9) rfl rfl (jM_at hl52 0 rfl) ?_
          refine az_X_step (pc' := 55) (ls' := ls52) (st' := [.int (-1), .int 9]) (h' := h1) rfl rfl rfl ?_
          refine jn_icd (t := 68) (c := true) rfl rfl rfl (by decide) ?_
          show az_X P _ 257 68 ls52 [] _ _
          have hlt := jBR_lt (jQS_B b1) (p := p1) (by omega)
          refine jm_aload_n (x := P.1 + 60) rfl rfl (jM_at hl52 1 rfl) ?_
          refine jm_aload_n (x := P.1 + 60) rfl rfl (jM_at hl52 1 rfl) ?_
          refine jn_gf (i := 60) (k := 17) rfl rfl hH1 (by decide) (hH1.2 60 _ rfl).1 rfl rfl (fun z70 (ez70 : z70.toInt = ja h1 60 17) (bz70 : 0 ≤ z70.toInt ∧ z70.toInt ≤ 240) => ?_)
          refine az_X_step (pc' := 74) (ls' := ls52) (st' := [.int 1, .int z70, .ref (P.1 + 60)]) (h' := h1) rfl rfl rfl ?_
          refine jn_add (a := z70) (b := 1) rfl rfl (by omega) (by omega) (fun z74 ez74 => ?_)
          rw [show (1 : Int32).toInt = 1 by decide] at ez74
          refine jn_pf (i := 60) (k := 17) (x := z74) rfl rfl hH1 (by decide) rfl (hH1.2 60 _ rfl).1 rfl rfl (by decide) (by decide) (by show 0 ≤ _; omega) (by show _ ≤ 240; omega) (fun h75 hH75 hs75 (t75 : ja h75 60 17 = z74.toInt) => ?_)
          have v73 : ∀ j : Int, ja h75 73 j = ja h1 73 j := fun j => jso_row (i := 73) hs75 (by decide) j
          have q75 : jQS hh n h75 w c1 (p1 + 1) 1 := jQS_down b1 (Nat.le_refl w) (by omega) (by omega) (jso hs75 (by decide)) (t75.trans (by omega)) ((jso hs75 (by decide)).trans b1.2.2.1) ((jso hs75 (by decide)).trans b1.2.2.2.1) (fun j _ => v73 j) (Nat.le_refl _) (fun k hk2 => by rw [jso_row (i := 72) hs75 (by decide)]; exact b1.2.2.2.2.2.2.2.2.2.2.1 k hk2) (jBR_so hs75 (by decide) (jQS_B b1)) (by omega) b1.2.2.2.2.2.2.2.2.2.2.2.1 ((jso hs75 (by decide)).trans b1.2.2.2.2.1)
          have w75 : ∀ j : Nat, j < w → ja h75 73 j = ja h 73 j := fun j hj => (v73 j).trans (b3 j hj)
          have k75 : jsk (ja h75 73) w = jsk (ja h 73) w := jsk_cg w75
          have cmp : hh p1 = 60 ∨ hh p1 = 62 ∨ hh p1 = 61 := by omega
          refine jm_aload_n (x := P.1 + 60) rfl rfl (jM_at hl52 1 rfl) ?_
          refine az_X_call (m' := 253) (as := [.ref (P.1 + 60)]) (rest := []) rfl rfl rfl rfl rfl ?_ ?_
          · unfold si_call
            dsimp only
            rw [if_pos ⟨rfl, rfl⟩]
            show (match si_ix P h75 (P.1 + 60) with | some i => _ | none => none) = _
            rw [jix hH75 (by decide)]
            dsimp only
            rw [(hH75.2 60 _ rfl).1]
            rfl
          refine (su_ok (d := d) hxa hn hh1 hH75 q75 (fun v hv => by rw [w75 v (by omega)]; exact hb v hv) (by rw [k75]; exact hk)).mono ?_
          rintro rv79 h79 ⟨z79, rfl, hH79, hs79, f79⟩
          show az_X P _ 257 82 ls52 [.int z79] _ _
          refine jx_if (t := 87) rfl rfl rfl (fun hc82 => ?_) (fun hc82 => ?_)
          · have g82 := jc1_ne_t hc82
            obtain ⟨c2, p2, d1, d2, d3, d4, d5⟩ : ∃ (c2 : Nat) (p2 : Int), jQS hh n h79 w c2 p2 1 ∧ p1 + 1 < p2 ∧ (∀ j : Nat, j < w → ja h79 73 j = ja h75 73 j) ∧ ¬ pysg (hh p2) ∧ ∀ (wd : Nat) (i : Int), pyL hh n (3, wd, 0, p1 + 1, jsk (ja h75 73) w, i) (4, wd, 0, p2, jsk (ja h75 73) w, i) := by
              rcases f79 with ⟨-, c1, p1, b⟩ | ⟨b, -⟩
              · exact ⟨c1, p1, b⟩
              · exact absurd b g82
            have dc := d1.2.2.2.2.2.2.1
            have dp := d1.2.2.2.2.2.2.2.1
            have jn0 := jcn_nn (ja h79 73) w
            have dw := d1.2.2.2.2.2.1
            refine jm_aload_n (x := P.1 + 60) rfl rfl (jM_at hl52 1 rfl) ?_
            refine jm_iload_n (x := 9) rfl rfl (jM_at hl52 0 rfl) ?_
            refine az_X_step (pc' := 90) (ls' := ls52) (st' := [.int 0, .int 9, .ref (P.1 + 60)]) (h' := h79) rfl rfl rfl ?_
            refine az_X_call (m' := 245) (as := [.ref (P.1 + 60), .int 9, .int 0]) (rest := []) rfl rfl rfl rfl rfl ?_ ?_
            · unfold si_call
              dsimp only
              rw [if_pos ⟨rfl, rfl⟩]
              show (match si_ix P h79 (P.1 + 60) with | some i => _ | none => none) = _
              rw [jix hH79 (by decide)]
              dsimp only
              rw [(hH79.2 60 _ rfl).1]
              rfl
            refine (nt_ok hH79 9 0 (by decide) (by decide) d1.2.2.2.1 (by omega) d1.2.2.2.2.2.2.2.2.2.2.1).mono ?_
            rintro rv90 h90 ⟨rfl, hH90, hs90, f90⟩
            show az_X P _ 257 93 ls52 [] _ _
            have v90 : ∀ j : Int, ja h90 73 j = ja h79 73 j := fun j => jso_row (i := 73) hs90 (by decide) j
            have q90 : jQS hh n h90 w (c2 + 1) p2 0 := jQS_down d1 (Nat.le_refl w) (Int.le_refl _) dp (jso hs90 (by decide)) ((jso hs90 (by decide)).trans d1.2.1) ((jso hs90 (by decide)).trans d1.2.2.1) f90.1 (fun j _ => v90 j) (by omega) f90.2 (jBR_so hs90 (by decide) (jQS_B d1)) (by omega) d1.2.2.2.2.2.2.2.2.2.2.2.1 ((jso hs90 (by decide)).trans d1.2.2.2.2.1)
            have w90 : ∀ j : Nat, j < w → ja h90 73 j = ja h 73 j := fun j hj => (v90 j).trans ((d3 j hj).trans (w75 j hj))
            have k90 : jsk (ja h90 73) w = jsk (ja h 73) w := jsk_cg w90
            have c90 := q90.2.2.2.2.2.2.1
            have jn9 := jcn_nn (ja h90 73) w
            have l90 := q90.2.2.2.2.1
            have l6 := q90.2.2.2.2.2.2.2.2.2.2.2.1
            refine jm_aload_n (x := P.1 + 60) rfl rfl (jM_at hl52 1 rfl) ?_
            refine az_X_call (m' := 254) (as := [.ref (P.1 + 60)]) (rest := []) rfl rfl rfl rfl rfl ?_ ?_
            · unfold si_call
              dsimp only
              rw [if_pos ⟨rfl, rfl⟩]
              show (match si_ix P h90 (P.1 + 60) with | some i => _ | none => none) = _
              rw [jix hH90 (by decide)]
              dsimp only
              rw [(hH90.2 60 _ rfl).1]
              rfl
            refine (ep2_ok (d := d + 6) hxa hH90 q90.2.2.1 q90.2.2.2.1 rfl (by omega) q90.2.2.2.2.2.2.2.2.1 (by omega) (by omega) q90.2.2.2.2.2.2.2.2.2.2.1).mono ?_
            rintro rv94 h94 ⟨rfl, hH94, hs94, f94⟩
            show az_X P _ 257 97 ls52 [] _ _
            refine az_X_step (pc' := 98) (ls' := ls52) (st' := [.int 1]) (h' := h94) rfl rfl rfl ?_
            refine jx_retz rfl rfl rfl (by decide) ?_
            obtain ⟨v, c3, e1, e2, e3, e4, e5, e6⟩ := ep_end q90 hs94 f94
            refine ⟨1, rfl, hH94, ((hs1.sub (by decide)).tr ((hs75.sub (by decide)).tr ((hs79.sub (by decide)).tr ((hs90.sub (by decide)).tr (hs94.sub (by decide)))))), Or.inl ⟨by decide, v, c3, p2, e1, e2, by omega, fun j hj => (e3 j).trans (w90 j (by omega)), fun u hu => ?_, fun j h1' h2' => ?_, fun i => ?_⟩⟩
            · have := e5 u hu
              rw [w90 u (by omega)] at this
              exact this
            · have := e4 j h1' h2'
              rw [w90 j h2'] at this
              exact this
            · have y1 := d5 2 i
              rw [k75] at y1
              have y2 := e6 i
              rw [k90, jsk_cg (A := ja h90 73) (B := ja h 73) (w := v) (fun j hj => w90 j (by omega))] at y2
              exact ((b5 1 i).tr ((pyL_1 ((ps4_end b4 hk).trans (by rw [if_neg (by decide), if_pos rfl]))).tr (pyL_1 (ps5_ok cmp)))).tr (y1.tr ((pyL_1 ((ps4_end d4 hk).trans (by rw [if_neg (by decide), if_neg (by decide)]))).tr y2))
          · have g82 := jc1_ne_f hc82
            refine az_X_step (pc' := 86) (ls' := ls52) (st' := [.int 0]) (h' := h79) rfl rfl rfl ?_
            refine jx_retz rfl rfl rfl (by decide) ?_
            rcases f79 with ⟨a, -⟩ | ⟨a, a2, a3⟩
            · omega
            · refine ⟨0, rfl, hH79, ((hs1.sub (by decide)).tr ((hs75.sub (by decide)).tr (hs79.sub (by decide)))), Or.inr ⟨by decide, a2, fun i => ?_⟩⟩
              have y := a3 2 i
              rw [k75] at y
              exact ((b5 1 i).tr ((pyL_1 ((ps4_end b4 hk).trans (by rw [if_neg (by decide), if_pos rfl]))).tr (pyL_1 (ps5_ok cmp)))) _ y
      · have g29 := jc2_ne_f hc29
        refine az_X_step (pc' := 34) (ls' := ls) (st' := [.int 8]) (h' := h1) rfl rfl rfl ?_
        refine az_X_step (pc' := 52) (ls' := ls) (st' := [.int 8]) (h' := h1) rfl rfl rfl ?_
        refine jm_istore_n (l' := [(1, .int 8), (0, .ref (P.1 + 60))]) rfl rfl (by decide) hl rfl rfl (fun ls52 hl52 => ?_)
        refine jm_iload_n (x := 8) rfl rfl (jM_at hl52 0 rfl) ?_
        refine az_X_step (pc' := 55) (ls' := ls52) (st' := [.int (-1), .int 8]) (h' := h1) rfl rfl rfl ?_
        refine jn_icd (t := 68) (c := true) rfl rfl rfl (by decide) ?_
        show az_X P _ 257 68 ls52 [] _ _
        have hlt := jBR_lt (jQS_B b1) (p := p1) (by omega)
        refine jm_aload_n (x := P.1 + 60) rfl rfl (jM_at hl52 1 rfl) ?_
        refine jm_aload_n (x := P.1 + 60) rfl rfl (jM_at hl52 1 rfl) ?_
        refine jn_gf (i := 60) (k := 17) rfl rfl hH1 (by decide) (hH1.2 60 _ rfl).1 rfl rfl (fun z70 (ez70 : z70.toInt = ja h1 60 17) (bz70 : 0 ≤ z70.toInt ∧ z70.toInt ≤ 240) => ?_)
        refine az_X_step (pc' := 74) (ls' := ls52) (st' := [.int 1, .int z70, .ref (P.1 + 60)]) (h' := h1) rfl rfl rfl ?_
        refine jn_add (a := z70) (b := 1) rfl rfl (by omega) (by omega) (fun z74 ez74 => ?_)
        rw [show (1 : Int32).toInt = 1 by decide] at ez74
        refine jn_pf (i := 60) (k := 17) (x := z74) rfl rfl hH1 (by decide) rfl (hH1.2 60 _ rfl).1 rfl rfl (by decide) (by decide) (by show 0 ≤ _; omega) (by show _ ≤ 240; omega) (fun h75 hH75 hs75 (t75 : ja h75 60 17 = z74.toInt) => ?_)
        have v73 : ∀ j : Int, ja h75 73 j = ja h1 73 j := fun j => jso_row (i := 73) hs75 (by decide) j
        have q75 : jQS hh n h75 w c1 (p1 + 1) 1 := jQS_down b1 (Nat.le_refl w) (by omega) (by omega) (jso hs75 (by decide)) (t75.trans (by omega)) ((jso hs75 (by decide)).trans b1.2.2.1) ((jso hs75 (by decide)).trans b1.2.2.2.1) (fun j _ => v73 j) (Nat.le_refl _) (fun k hk2 => by rw [jso_row (i := 72) hs75 (by decide)]; exact b1.2.2.2.2.2.2.2.2.2.2.1 k hk2) (jBR_so hs75 (by decide) (jQS_B b1)) (by omega) b1.2.2.2.2.2.2.2.2.2.2.2.1 ((jso hs75 (by decide)).trans b1.2.2.2.2.1)
        have w75 : ∀ j : Nat, j < w → ja h75 73 j = ja h 73 j := fun j hj => (v73 j).trans (b3 j hj)
        have k75 : jsk (ja h75 73) w = jsk (ja h 73) w := jsk_cg w75
        have cmp : hh p1 = 60 ∨ hh p1 = 62 ∨ hh p1 = 61 := by omega
        refine jm_aload_n (x := P.1 + 60) rfl rfl (jM_at hl52 1 rfl) ?_
        refine az_X_call (m' := 253) (as := [.ref (P.1 + 60)]) (rest := []) rfl rfl rfl rfl rfl ?_ ?_
        · unfold si_call
          dsimp only
          rw [if_pos ⟨rfl, rfl⟩]
          show (match si_ix P h75 (P.1 + 60) with | some i => _ | none => none) = _
          rw [jix hH75 (by decide)]
          dsimp only
          rw [(hH75.2 60 _ rfl).1]
          rfl
        refine (su_ok (d := d) hxa hn hh1 hH75 q75 (fun v hv => by rw [w75 v (by omega)]; exact hb v hv) (by rw [k75]; exact hk)).mono ?_
        rintro rv79 h79 ⟨z79, rfl, hH79, hs79, f79⟩
        show az_X P _ 257 82 ls52 [.int z79] _ _
        refine jx_if (t := 87) rfl rfl rfl (fun hc82 => ?_) (fun hc82 => ?_)
        · have g82 := jc1_ne_t hc82
          obtain ⟨c2, p2, d1, d2, d3, d4, d5⟩ : ∃ (c2 : Nat) (p2 : Int), jQS hh n h79 w c2 p2 1 ∧ p1 + 1 < p2 ∧ (∀ j : Nat, j < w → ja h79 73 j = ja h75 73 j) ∧ ¬ pysg (hh p2) ∧ ∀ (wd : Nat) (i : Int), pyL hh n (3, wd, 0, p1 + 1, jsk (ja h75 73) w, i) (4, wd, 0, p2, jsk (ja h75 73) w, i) := by
            rcases f79 with ⟨-, c1, p1, b⟩ | ⟨b, -⟩
            · exact ⟨c1, p1, b⟩
            · exact absurd b g82
          have dc := d1.2.2.2.2.2.2.1
          have dp := d1.2.2.2.2.2.2.2.1
          have jn0 := jcn_nn (ja h79 73) w
          have dw := d1.2.2.2.2.2.1
          refine jm_aload_n (x := P.1 + 60) rfl rfl (jM_at hl52 1 rfl) ?_
          refine jm_iload_n (x := 8) rfl rfl (jM_at hl52 0 rfl) ?_
          refine az_X_step (pc' := 90) (ls' := ls52) (st' := [.int 0, .int 8, .ref (P.1 + 60)]) (h' := h79) rfl rfl rfl ?_
          refine az_X_call (m' := 245) (as := [.ref (P.1 + 60), .int 8, .int 0]) (rest := []) rfl rfl rfl rfl rfl ?_ ?_
          · unfold si_call
            dsimp only
            rw [if_pos ⟨rfl, rfl⟩]
            show (match si_ix P h79 (P.1 + 60) with | some i => _ | none => none) = _
            rw [jix hH79 (by decide)]
            dsimp only
            rw [(hH79.2 60 _ rfl).1]
            rfl
          refine (nt_ok hH79 8 0 (by decide) (by decide) d1.2.2.2.1 (by omega) d1.2.2.2.2.2.2.2.2.2.2.1).mono ?_
          rintro rv90 h90 ⟨rfl, hH90, hs90, f90⟩
          show az_X P _ 257 93 ls52 [] _ _
          have v90 : ∀ j : Int, ja h90 73 j = ja h79 73 j := fun j => jso_row (i := 73) hs90 (by decide) j
          have q90 : jQS hh n h90 w (c2 + 1) p2 0 := jQS_down d1 (Nat.le_refl w) (Int.le_refl _) dp (jso hs90 (by decide)) ((jso hs90 (by decide)).trans d1.2.1) ((jso hs90 (by decide)).trans d1.2.2.1) f90.1 (fun j _ => v90 j) (by omega) f90.2 (jBR_so hs90 (by decide) (jQS_B d1)) (by omega) d1.2.2.2.2.2.2.2.2.2.2.2.1 ((jso hs90 (by decide)).trans d1.2.2.2.2.1)
          have w90 : ∀ j : Nat, j < w → ja h90 73 j = ja h 73 j := fun j hj => (v90 j).trans ((d3 j hj).trans (w75 j hj))
          have k90 : jsk (ja h90 73) w = jsk (ja h 73) w := jsk_cg w90
          have c90 := q90.2.2.2.2.2.2.1
          have jn9 := jcn_nn (ja h90 73) w
          have l90 := q90.2.2.2.2.1
          have l6 := q90.2.2.2.2.2.2.2.2.2.2.2.1
          refine jm_aload_n (x := P.1 + 60) rfl rfl (jM_at hl52 1 rfl) ?_
          refine az_X_call (m' := 254) (as := [.ref (P.1 + 60)]) (rest := []) rfl rfl rfl rfl rfl ?_ ?_
          · unfold si_call
            dsimp only
            rw [if_pos ⟨rfl, rfl⟩]
            show (match si_ix P h90 (P.1 + 60) with | some i => _ | none => none) = _
            rw [jix hH90 (by decide)]
            dsimp only
            rw [(hH90.2 60 _ rfl).1]
            rfl
          refine (ep2_ok (d := d + 6) hxa hH90 q90.2.2.1 q90.2.2.2.1 rfl (by omega) q90.2.2.2.2.2.2.2.2.1 (by omega) (by omega) q90.2.2.2.2.2.2.2.2.2.2.1).mono ?_
          rintro rv94 h94 ⟨rfl, hH94, hs94, f94⟩
          show az_X P _ 257 97 ls52 [] _ _
          refine az_X_step (pc' := 98) (ls' := ls52) (st' := [.int 1]) (h' := h94) rfl rfl rfl ?_
          refine jx_retz rfl rfl rfl (by decide) ?_
          obtain ⟨v, c3, e1, e2, e3, e4, e5, e6⟩ := ep_end q90 hs94 f94
          refine ⟨1, rfl, hH94, ((hs1.sub (by decide)).tr ((hs75.sub (by decide)).tr ((hs79.sub (by decide)).tr ((hs90.sub (by decide)).tr (hs94.sub (by decide)))))), Or.inl ⟨by decide, v, c3, p2, e1, e2, by omega, fun j hj => (e3 j).trans (w90 j (by omega)), fun u hu => ?_, fun j h1' h2' => ?_, fun i => ?_⟩⟩
          · have := e5 u hu
            rw [w90 u (by omega)] at this
            exact this
          · have := e4 j h1' h2'
            rw [w90 j h2'] at this
            exact this
          · have y1 := d5 2 i
            rw [k75] at y1
            have y2 := e6 i
            rw [k90, jsk_cg (A := ja h90 73) (B := ja h 73) (w := v) (fun j hj => w90 j (by omega))] at y2
            exact ((b5 1 i).tr ((pyL_1 ((ps4_end b4 hk).trans (by rw [if_neg (by decide), if_pos rfl]))).tr (pyL_1 (ps5_ok cmp)))).tr (y1.tr ((pyL_1 ((ps4_end d4 hk).trans (by rw [if_neg (by decide), if_neg (by decide)]))).tr y2))
        · have g82 := jc1_ne_f hc82
          refine az_X_step (pc' := 86) (ls' := ls52) (st' := [.int 0]) (h' := h79) rfl rfl rfl ?_
          refine jx_retz rfl rfl rfl (by decide) ?_
          rcases f79 with ⟨a, -⟩ | ⟨a, a2, a3⟩
          · omega
          · refine ⟨0, rfl, hH79, ((hs1.sub (by decide)).tr ((hs75.sub (by decide)).tr (hs79.sub (by decide)))), Or.inr ⟨by decide, a2, fun i => ?_⟩⟩
            have y := a3 2 i
            rw [k75] at y
            exact ((b5 1 i).tr ((pyL_1 ((ps4_end b4 hk).trans (by rw [if_neg (by decide), if_pos rfl]))).tr (pyL_1 (ps5_ok cmp)))) _ y
    · have g15 := jc2_ne_f hc15
      refine az_X_step (pc' := 20) (ls' := ls) (st' := [.int 7]) (h' := h1) rfl rfl rfl ?_
      refine az_X_step (pc' := 52) (ls' := ls) (st' := [.int 7]) (h' := h1) rfl rfl rfl ?_
      refine jm_istore_n (l' := [(1, .int 7), (0, .ref (P.1 + 60))]) rfl rfl (by decide) hl rfl rfl (fun ls52 hl52 => ?_)
      refine jm_iload_n (x := 7) rfl rfl (jM_at hl52 0 rfl) ?_
      refine az_X_step (pc' := 55) (ls' := ls52) (st' := [.int (-1), .int 7]) (h' := h1) rfl rfl rfl ?_
      refine jn_icd (t := 68) (c := true) rfl rfl rfl (by decide) ?_
      show az_X P _ 257 68 ls52 [] _ _
      have hlt := jBR_lt (jQS_B b1) (p := p1) (by omega)
      refine jm_aload_n (x := P.1 + 60) rfl rfl (jM_at hl52 1 rfl) ?_
      refine jm_aload_n (x := P.1 + 60) rfl rfl (jM_at hl52 1 rfl) ?_
      refine jn_gf (i := 60) (k := 17) rfl rfl hH1 (by decide) (hH1.2 60 _ rfl).1 rfl rfl (fun z70 (ez70 : z70.toInt = ja h1 60 17) (bz70 : 0 ≤ z70.toInt ∧ z70.toInt ≤ 240) => ?_)
      refine az_X_step (pc' := 74) (ls' := ls52) (st' := [.int 1, .int z70, .ref (P.1 + 60)]) (h' := h1) rfl rfl rfl ?_
      refine jn_add (a := z70) (b := 1) rfl rfl (by omega) (by omega) (fun z74 ez74 => ?_)
      rw [show (1 : Int32).toInt = 1 by decide] at ez74
      refine jn_pf (i := 60) (k := 17) (x := z74) rfl rfl hH1 (by decide) rfl (hH1.2 60 _ rfl).1 rfl rfl (by decide) (by decide) (by show 0 ≤ _; omega) (by show _ ≤ 240; omega) (fun h75 hH75 hs75 (t75 : ja h75 60 17 = z74.toInt) => ?_)
      have v73 : ∀ j : Int, ja h75 73 j = ja h1 73 j := fun j => jso_row (i := 73) hs75 (by decide) j
      have q75 : jQS hh n h75 w c1 (p1 + 1) 1 := jQS_down b1 (Nat.le_refl w) (by omega) (by omega) (jso hs75 (by decide)) (t75.trans (by omega)) ((jso hs75 (by decide)).trans b1.2.2.1) ((jso hs75 (by decide)).trans b1.2.2.2.1) (fun j _ => v73 j) (Nat.le_refl _) (fun k hk2 => by rw [jso_row (i := 72) hs75 (by decide)]; exact b1.2.2.2.2.2.2.2.2.2.2.1 k hk2) (jBR_so hs75 (by decide) (jQS_B b1)) (by omega) b1.2.2.2.2.2.2.2.2.2.2.2.1 ((jso hs75 (by decide)).trans b1.2.2.2.2.1)
      have w75 : ∀ j : Nat, j < w → ja h75 73 j = ja h 73 j := fun j hj => (v73 j).trans (b3 j hj)
      have k75 : jsk (ja h75 73) w = jsk (ja h 73) w := jsk_cg w75
      have cmp : hh p1 = 60 ∨ hh p1 = 62 ∨ hh p1 = 61 := by omega
      refine jm_aload_n (x := P.1 + 60) rfl rfl (jM_at hl52 1 rfl) ?_
      refine az_X_call (m' := 253) (as := [.ref (P.1 + 60)]) (rest := []) rfl rfl rfl rfl rfl ?_ ?_
      · unfold si_call
        dsimp only
        rw [if_pos ⟨rfl, rfl⟩]
        show (match si_ix P h75 (P.1 + 60) with | some i => _ | none => none) = _
        rw [jix hH75 (by decide)]
        dsimp only
        rw [(hH75.2 60 _ rfl).1]
        rfl
      refine (su_ok (d := d) hxa hn hh1 hH75 q75 (fun v hv => by rw [w75 v (by omega)]; exact hb v hv) (by rw [k75]; exact hk)).mono ?_
      rintro rv79 h79 ⟨z79, rfl, hH79, hs79, f79⟩
      show az_X P _ 257 82 ls52 [.int z79] _ _
      refine jx_if (t := 87) rfl rfl rfl (fun hc82 => ?_) (fun hc82 => ?_)
      · have g82 := jc1_ne_t hc82
        obtain ⟨c2, p2, d1, d2, d3, d4, d5⟩ : ∃ (c2 : Nat) (p2 : Int), jQS hh n h79 w c2 p2 1 ∧ p1 + 1 < p2 ∧ (∀ j : Nat, j < w → ja h79 73 j = ja h75 73 j) ∧ ¬ pysg (hh p2) ∧ ∀ (wd : Nat) (i : Int), pyL hh n (3, wd, 0, p1 + 1, jsk (ja h75 73) w, i) (4, wd, 0, p2, jsk (ja h75 73) w, i) := by
          rcases f79 with ⟨-, c1, p1, b⟩ | ⟨b, -⟩
          · exact ⟨c1, p1, b⟩
          · exact absurd b g82
        have dc := d1.2.2.2.2.2.2.1
        have dp := d1.2.2.2.2.2.2.2.1
        have jn0 := jcn_nn (ja h79 73) w
        have dw := d1.2.2.2.2.2.1
        refine jm_aload_n (x := P.1 + 60) rfl rfl (jM_at hl52 1 rfl) ?_
        refine jm_iload_n (x := 7) rfl rfl (jM_at hl52 0 rfl) ?_
        refine az_X_step (pc' := 90) (ls' := ls52) (st' := [.int 0, .int 7, .ref (P.1 + 60)]) (h' := h79) rfl rfl rfl ?_
        refine az_X_call (m' := 245) (as := [.ref (P.1 + 60), .int 7, .int 0]) (rest := []) rfl rfl rfl rfl rfl ?_ ?_
        · unfold si_call
          dsimp only
          rw [if_pos ⟨rfl, rfl⟩]
          show (match si_ix P h79 (P.1 + 60) with | some i => _ | none => none) = _
          rw [jix hH79 (by decide)]
          dsimp only
          rw [(hH79.2 60 _ rfl).1]
          rfl
        refine (nt_ok hH79 7 0 (by decide) (by decide) d1.2.2.2.1 (by omega) d1.2.2.2.2.2.2.2.2.2.2.1).mono ?_
        rintro rv90 h90 ⟨rfl, hH90, hs90, f90⟩
        show az_X P _ 257 93 ls52 [] _ _
        have v90 : ∀ j : Int, ja h90 73 j = ja h79 73 j := fun j => jso_row (i := 73) hs90 (by decide) j
        have q90 : jQS hh n h90 w (c2 + 1) p2 0 := jQS_down d1 (Nat.le_refl w) (Int.le_refl _) dp (jso hs90 (by decide)) ((jso hs90 (by decide)).trans d1.2.1) ((jso hs90 (by decide)).trans d1.2.2.1) f90.1 (fun j _ => v90 j) (by omega) f90.2 (jBR_so hs90 (by decide) (jQS_B d1)) (by omega) d1.2.2.2.2.2.2.2.2.2.2.2.1 ((jso hs90 (by decide)).trans d1.2.2.2.2.1)
        have w90 : ∀ j : Nat, j < w → ja h90 73 j = ja h 73 j := fun j hj => (v90 j).trans ((d3 j hj).trans (w75 j hj))
        have k90 : jsk (ja h90 73) w = jsk (ja h 73) w := jsk_cg w90
        have c90 := q90.2.2.2.2.2.2.1
        have jn9 := jcn_nn (ja h90 73) w
        have l90 := q90.2.2.2.2.1
        have l6 := q90.2.2.2.2.2.2.2.2.2.2.2.1
        refine jm_aload_n (x := P.1 + 60) rfl rfl (jM_at hl52 1 rfl) ?_
        refine az_X_call (m' := 254) (as := [.ref (P.1 + 60)]) (rest := []) rfl rfl rfl rfl rfl ?_ ?_
        · unfold si_call
          dsimp only
          rw [if_pos ⟨rfl, rfl⟩]
          show (match si_ix P h90 (P.1 + 60) with | some i => _ | none => none) = _
          rw [jix hH90 (by decide)]
          dsimp only
          rw [(hH90.2 60 _ rfl).1]
          rfl
        refine (ep2_ok (d := d + 6) hxa hH90 q90.2.2.1 q90.2.2.2.1 rfl (by omega) q90.2.2.2.2.2.2.2.2.1 (by omega) (by omega) q90.2.2.2.2.2.2.2.2.2.2.1).mono ?_
        rintro rv94 h94 ⟨rfl, hH94, hs94, f94⟩
        show az_X P _ 257 97 ls52 [] _ _
        refine az_X_step (pc' := 98) (ls' := ls52) (st' := [.int 1]) (h' := h94) rfl rfl rfl ?_
        refine jx_retz rfl rfl rfl (by decide) ?_
        obtain ⟨v, c3, e1, e2, e3, e4, e5, e6⟩ := ep_end q90 hs94 f94
        refine ⟨1, rfl, hH94, ((hs1.sub (by decide)).tr ((hs75.sub (by decide)).tr ((hs79.sub (by decide)).tr ((hs90.sub (by decide)).tr (hs94.sub (by decide)))))), Or.inl ⟨by decide, v, c3, p2, e1, e2, by omega, fun j hj => (e3 j).trans (w90 j (by omega)), fun u hu => ?_, fun j h1' h2' => ?_, fun i => ?_⟩⟩
        · have := e5 u hu
          rw [w90 u (by omega)] at this
          exact this
        · have := e4 j h1' h2'
          rw [w90 j h2'] at this
          exact this
        · have y1 := d5 2 i
          rw [k75] at y1
          have y2 := e6 i
          rw [k90, jsk_cg (A := ja h90 73) (B := ja h 73) (w := v) (fun j hj => w90 j (by omega))] at y2
          exact ((b5 1 i).tr ((pyL_1 ((ps4_end b4 hk).trans (by rw [if_neg (by decide), if_pos rfl]))).tr (pyL_1 (ps5_ok cmp)))).tr (y1.tr ((pyL_1 ((ps4_end d4 hk).trans (by rw [if_neg (by decide), if_neg (by decide)]))).tr y2))
      · have g82 := jc1_ne_f hc82
        refine az_X_step (pc' := 86) (ls' := ls52) (st' := [.int 0]) (h' := h79) rfl rfl rfl ?_
        refine jx_retz rfl rfl rfl (by decide) ?_
        rcases f79 with ⟨a, -⟩ | ⟨a, a2, a3⟩
        · omega
        · refine ⟨0, rfl, hH79, ((hs1.sub (by decide)).tr ((hs75.sub (by decide)).tr (hs79.sub (by decide)))), Or.inr ⟨by decide, a2, fun i => ?_⟩⟩
          have y := a3 2 i
          rw [k75] at y
          exact ((b5 1 i).tr ((pyL_1 ((ps4_end b4 hk).trans (by rw [if_neg (by decide), if_pos rfl]))).tr (pyL_1 (ps5_ok cmp)))) _ y
  · have g4 := jc1_ne_f hc4
    refine az_X_step (pc' := 8) (ls' := ls) (st' := [.int 0]) (h' := h1) rfl rfl rfl ?_
    refine jx_retz rfl rfl rfl (by decide) ?_
    rcases f1 with ⟨a, -⟩ | ⟨a, a2, a3⟩
    · omega
    · exact ⟨0, rfl, hH1, hs1, Or.inr ⟨by decide, a2, fun i => a3 1 i⟩⟩
