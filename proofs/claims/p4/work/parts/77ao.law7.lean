set_option maxRecDepth 100000
/-! a condition, by the reference -/
theorem jsk_h {A : Int → Int} : ∀ {w : Nat}, (∀ j : Nat, j < w → jop (A j) ≠ 14) → (jsk A w).head? ≠ some 14
  | 0, _ => fun e => by cases e
  | w + 1, h => by
    have i := jsk_h (A := A) (w := w) (fun j hj => h j (by omega))
    have o := h w (by omega)
    rw [jsk_s]
    by_cases c : jop (A w) = 10 ∨ jop (A w) = 13 ∨ jop (A w) = 14
    · rw [if_pos c]
      exact fun e => o (Option.some.inj e)
    · rw [if_neg c]
      exact i
theorem if_13 {A : Int → Int} : ∀ w : Nat, 1 ≤ w → jop (A 0) = 13 → (∀ j : Nat, j < w → jop (A j) = 10 ∨ jop (A j) = 11 ∨ jop (A j) = 12 ∨ jop (A j) = 13) → (∀ j : Nat, j + 1 < w → jop (A ((j + 1 : Nat) : Int)) = 11 ∨ jop (A ((j + 1 : Nat) : Int)) = 12 → jop (A j) = 11 ∨ jop (A j) = 12 ∨ jop (A j) = 13) → (∀ u : Nat, w = u + 1 → jop (A u) ≠ 10) → ∃ v : Nat, v < w ∧ jop (A v) = 13 ∧ (∀ j : Nat, v < j → j < w → jop (A j) = 11 ∨ jop (A j) = 12) ∧ jsk A w = 13 :: jsk A v
  | 0, h, _, _, _, _ => absurd h (by omega)
  | w + 1, _, h0, h1, h2, h3 => by
    have o := h1 w (by omega)
    have o2 := h3 w rfl
    by_cases c : jop (A w) = 13
    · exact ⟨w, by omega, c, fun j a b => absurd b (by omega), jsk_y c (Or.inr (Or.inl rfl))⟩
    · have w1 : 1 ≤ w := by
        rcases Nat.eq_zero_or_pos w with e | e
        · subst e
          exact absurd h0 c
        · exact e
      have r := h2 (w - 1) (by omega) (by rw [show w - 1 + 1 = w by omega]; omega)
      obtain ⟨v, a1, a2, a3, a4⟩ := if_13 w w1 h0 (fun j hj => h1 j (by omega)) (fun j hj => h2 j (by omega)) (fun u hu => by
        rw [show u = w - 1 by omega]
        omega)
      refine ⟨v, by omega, a2, fun j b1 b2 => ?_, by rw [jsk_s, if_neg (by omega), a4]⟩
      rcases Nat.lt_or_ge j w with e | e
      · exact a3 j b1 e
      · rw [show j = w by omega]
        omega
def jCD (hh : Int → Int) (n : Int) (h : si_H) (w c : Nat) (p : Int) : Prop := jQS hh n h w c p 0 ∧ 1 ≤ w ∧ jop (ja h 73 0) = 13 ∧ (∀ j : Nat, j < w → jop (ja h 73 j) = 10 ∨ jop (ja h 73 j) = 11 ∨ jop (ja h 73 j) = 12 ∨ jop (ja h 73 j) = 13) ∧ (∀ j : Nat, j + 1 < w → jop (ja h 73 ((j + 1 : Nat) : Int)) = 11 ∨ jop (ja h 73 ((j + 1 : Nat) : Int)) = 12 → jop (ja h 73 j) = 11 ∨ jop (ja h 73 j) = 12 ∨ jop (ja h 73 j) = 13)
def jCN (hh : Int → Int) (n : Int) (X : Int → pyS) (p0 : Int) (h' : si_H) (z : Int) : Prop := (z = 1 ∧ ∃ (c' : Nat) (p' : Int), ja h' 60 17 = p' ∧ ja h' 60 22 = c' ∧ (c' : Int) ≤ p' ∧ p' ≤ n ∧ (∀ k : Nat, k < c' → 0 ≤ ja h' 72 k) ∧ p0 < p' ∧ ∀ i : Int, pyL hh n (X i) (6, 0, 0, p', [], i)) ∨ (z = 0 ∧ ja h' 60 19 ≠ 0 ∧ ∀ i : Int, pyR hh n (X i) (ja h' 60 19))
/-- fewer wait, and what is left is as before -/
theorem jCD_down {hh : Int → Int} {n : Int} {h h' : si_H} {w v c c' : Nat} {p p' : Int} (s : jCD hh n h w c p) (q : jQS hh n h' v c' p' 0) (hv : v ≤ w) (v1 : 1 ≤ v) (hA : ∀ j : Nat, j < v → ja h' 73 j = ja h 73 j) : jCD hh n h' v c' p' := by
  obtain ⟨-, -, s3, s4, s5⟩ := s
  have a0 : ja h' 73 0 = ja h 73 0 := by
    have := hA 0 (by omega)
    rw [show ((0 : Nat) : Int) = 0 from rfl] at this
    exact this
  refine ⟨q, v1, by rw [a0]; exact s3, fun j hj => by rw [hA j hj]; exact s4 j (by omega), fun j hj ho => ?_⟩
  rw [hA (j + 1) hj] at ho
  rw [hA j (by omega)]
  exact s5 j (by omega) ho
theorem jCD_up {hh : Int → Int} {n : Int} {h h' : si_H} {w c c' : Nat} {p p' o : Int} (s : jCD hh n h w c p) (q : jQS hh n h' (w + 1) c' p' 0) (hA : ∀ j : Nat, j < w → ja h' 73 j = ja h 73 j) (ho : jop (ja h' 73 w) = o) (hc : o = 10 ∨ o = 11 ∨ o = 12 ∨ o = 13) (hi : o = 11 ∨ o = 12 → ∀ u : Nat, w = u + 1 → jop (ja h 73 u) = 11 ∨ jop (ja h 73 u) = 12 ∨ jop (ja h 73 u) = 13) : jCD hh n h' (w + 1) c' p' := by
  obtain ⟨-, s2, s3, s4, s5⟩ := s
  have a0 : ja h' 73 0 = ja h 73 0 := by
    have := hA 0 (by omega)
    rw [show ((0 : Nat) : Int) = 0 from rfl] at this
    exact this
  refine ⟨q, by omega, by rw [a0]; exact s3, fun j hj => ?_, fun j hj h2 => ?_⟩
  · rcases Nat.lt_or_ge j w with z | z
    · rw [hA j z]
      exact s4 j z
    · rw [show j = w by omega, ho]
      exact hc
  · rcases Nat.lt_or_ge (j + 1) w with z | z
    · rw [hA (j + 1) z] at h2
      rw [hA j (by omega)]
      exact s5 j z h2
    · have e : j + 1 = w := by omega
      rw [e, ho] at h2
      rw [hA j (by omega)]
      exact hi h2 j e.symm
/-- behind landing -/
theorem la_q {hh : Int → Int} {n : Int} {h h' : si_H} {w c : Nat} {p all : Int} (q : jQS hh n h w c p 0) (hs : az_same_out jm_la h h') (f : ∃ w' : Nat, w' ≤ w ∧ (∀ j : Nat, w' ≤ j → j < w → jop (ja h 73 j) = 11 ∨ jop (ja h 73 j) = 12) ∧ (∀ v : Nat, w' = v + 1 → jop (ja h 73 v) ≠ 11 ∧ (all = 1 → jop (ja h 73 v) ≠ 12)) ∧ ja h' 60 23 = w' ∧ (∀ k : Nat, jop (ja h' 72 k) = jop (ja h 72 k) ∧ ((ja h' 72 k = ja h 72 k ∧ ∀ j : Nat, w' ≤ j → j < w → jar (ja h 73 j) ≠ k) ∨ (jar (ja h' 72 k) = c ∧ 0 ≤ ja h' 72 k ∧ ∃ j : Nat, w' ≤ j ∧ j < w ∧ jar (ja h 73 j) = k)))) : ∃ w1 : Nat, jQS hh n h' w1 c p 0 ∧ w1 ≤ w ∧ (∀ j : Int, ja h' 73 j = ja h 73 j) ∧ (∀ j : Nat, w1 ≤ j → j < w → jop (ja h 73 j) = 11 ∨ jop (ja h 73 j) = 12) ∧ (∀ v : Nat, w1 = v + 1 → jop (ja h 73 v) ≠ 11 ∧ (all = 1 → jop (ja h 73 v) ≠ 12)) ∧ jsk (ja h 73) w = jsk (ja h 73) w1 := by
  have q0 := q
  obtain ⟨q8, q7, q3, q2, q1, qw, qc, qp, qA, qI, qC, qL, qB⟩ := q
  obtain ⟨w1, a1, a2, a3, a4, a5⟩ := f
  have s73 : ∀ j : Int, ja h' 73 j = ja h 73 j := fun j => jso_row hs (by decide) j
  have ek : jsk (ja h 73) w = jsk (ja h 73) w1 := jsk_no a1 (fun j h1 h2 => by
    have := a2 j h1 h2
    omega)
  have cl := jcn_le (A := ja h 73) a1
  refine ⟨w1, jQS_down q0 a1 (Int.le_refl _) qp (jso hs (by decide)) ((jso hs (by decide)).trans q7) a4 ((jso hs (by decide)).trans q2) (fun j _ => s73 j) (Nat.le_refl _) (fun k hk => ?_) (jBR_so hs (by decide) qB) (by omega) (by rw [← ek]; exact qL) (by rw [← ek]; exact (jso hs (by decide)).trans q1), a1, s73, a2, a3, ek⟩
  rcases (a5 k).2 with ⟨b, -⟩ | ⟨-, b, -⟩
  · rw [b]
    exact qC k hk
  · exact b
theorem jp_ok {P : si_P} {d : Nat} {h : si_H} (hH : az_HI P az_tb h) (o : Int32) (ho : o.toInt = 11 ∨ o.toInt = 12) {w c : Nat} {p : Int} (e23 : ja h 60 23 = w) (e22 : ja h 60 22 = c) (e17 : ja h 60 17 = p) (hw : w ≤ 239) (hc : c ≤ 239) (hp : 0 ≤ p ∧ p ≤ 239) (h72 : ∀ k : Nat, k < c → 0 ≤ ja h 72 k) : az_X P (d + 1) 256 0 (lv_args 0 [.ref (P.1 + 60), .int o]) [] h (fun rv h' => rv = none ∧ az_HI P az_tb h' ∧ az_same_out [(60, 17), (60, 22), (60, 23), (72, 1000000), (73, 1000000)] h h' ∧ ja h' 60 23 = (w : Int) + 1 ∧ ja h' 60 22 = ((c + 1 : Nat) : Int) ∧ ja h' 60 17 = p + 1 ∧ (∀ j : Nat, j < w → ja h' 73 j = ja h 73 j) ∧ ja h' 73 w = 1048576 * o.toInt + c ∧ ∀ k : Nat, k < c + 1 → 0 ≤ ja h' 72 k) := by
  have hl : jM [(0, .ref (P.1 + 60)), (1, .int o)] (lv_args 0 [.ref (P.1 + 60), .int o]) := jM_args [0, 1] rfl (by decide)
  generalize lv_args 0 [.ref (P.1 + 60), .int o] = ls at hl
  have k0 : (0 : Int32).toInt = 0 := by decide
  have k1 : (1 : Int32).toInt = 1 := by decide
  have k1048576 : (1048576 : Int32).toInt = 1048576 := by decide
  refine jm_aload_n (x := P.1 + 60) rfl rfl (jM_at hl 0 rfl) ?_
  refine jx_gf (i := 60) rfl rfl hH (by decide) (hH.2 60 _ rfl).1 rfl (jx_rf hH rfl rfl) ?_
  refine jm_aload_n (x := P.1 + 60) rfl rfl (jM_at hl 0 rfl) ?_
  refine jn_gf (i := 60) (k := 23) rfl rfl hH (by decide) (hH.2 60 _ rfl).1 rfl rfl (fun z5 (ez5 : z5.toInt = ja h 60 23) (bz5 : (-2147483648) ≤ z5.toInt ∧ z5.toInt ≤ 2147483647) => ?_)
  refine az_X_step (pc' := 11) (ls' := ls) (st' := [.int 1048576, .int z5, .ref (P.1 + 73)]) (h' := h) rfl rfl rfl ?_
  refine jm_iload_n (x := o) rfl rfl (jM_at hl 1 rfl) ?_
  refine jn_mul (a := 1048576) (b := o) rfl rfl (by rw [show (1048576 : Int32).toInt = 1048576 by decide]; omega) (by rw [show (1048576 : Int32).toInt = 1048576 by decide]; omega) (fun z12 ez12 => ?_)
  rw [show (1048576 : Int32).toInt = 1048576 by decide] at ez12
  refine jm_aload_n (x := P.1 + 60) rfl rfl (jM_at hl 0 rfl) ?_
  refine jn_gf (i := 60) (k := 22) rfl rfl hH (by decide) (hH.2 60 _ rfl).1 rfl rfl (fun z14 (ez14 : z14.toInt = ja h 60 22) (bz14 : 0 ≤ z14.toInt ∧ z14.toInt ≤ 240) => ?_)
  refine jn_add (a := z12) (b := z14) rfl rfl (by omega) (by omega) (fun z17 ez17 => ?_)
  refine jn_ias (i := 73) (x := z5) (v := z17) rfl rfl hH (by decide) rfl (by omega) (by show _ < ((260 : Nat) : Int); omega) (by show (-2147483648) ≤ _; omega) (by show _ ≤ 2147483647; omega) (fun h18 hH18 hs18 t18 u18 => ?_)
  refine jm_aload_n (x := P.1 + 60) rfl rfl (jM_at hl 0 rfl) ?_
  refine jm_aload_n (x := P.1 + 60) rfl rfl (jM_at hl 0 rfl) ?_
  refine jn_gf (i := 60) (k := 23) rfl rfl hH18 (by decide) (hH18.2 60 _ rfl).1 rfl rfl (fun z21 (ez21 : z21.toInt = ja h18 60 23) (bz21 : (-2147483648) ≤ z21.toInt ∧ z21.toInt ≤ 2147483647) => ?_)
  replace ez21 : z21.toInt = ja h 60 23 := ez21.trans (jso hs18 (by decide))
  refine az_X_step (pc' := 25) (ls' := ls) (st' := [.int 1, .int z21, .ref (P.1 + 60)]) (h' := h18) rfl rfl rfl ?_
  refine jn_add (a := z21) (b := 1) rfl rfl (by omega) (by omega) (fun z25 ez25 => ?_)
  rw [show (1 : Int32).toInt = 1 by decide] at ez25
  refine jn_pf (i := 60) (k := 23) (x := z25) rfl rfl hH18 (by decide) rfl (hH18.2 60 _ rfl).1 rfl rfl (by decide) (by decide) (by show (-2147483648) ≤ _; omega) (by show _ ≤ 2147483647; omega) (fun h26 hH26 hs26 (t26 : ja h26 60 23 = z25.toInt) => ?_)
  refine jm_aload_n (x := P.1 + 60) rfl rfl (jM_at hl 0 rfl) ?_
  refine jm_iload_n (x := o) rfl rfl (jM_at hl 1 rfl) ?_
  refine az_X_step (pc' := 32) (ls' := ls) (st' := [.int 0, .int o, .ref (P.1 + 60)]) (h' := h26) rfl rfl rfl ?_
  refine az_X_call (m' := 245) (as := [.ref (P.1 + 60), .int o, .int 0]) (rest := []) rfl rfl rfl rfl rfl ?_ ?_
  · unfold si_call
    dsimp only
    rw [if_pos ⟨rfl, rfl⟩]
    show (match si_ix P h26 (P.1 + 60) with | some i => _ | none => none) = _
    rw [jix hH26 (by decide)]
    dsimp only
    rw [(hH26.2 60 _ rfl).1]
    rfl
  refine (nt_ok hH26 o 0 (by omega) (by decide) ((jso hs26 (by decide)).trans ((jso hs18 (by decide)).trans e22)) (by omega) (fun k hk => by rw [jso_row (i := 72) hs26 (by decide), jso_row (i := 72) hs18 (by decide)]; exact h72 k hk)).mono ?_
  rintro rv32 h32 ⟨rfl, hH32, hs32, f32⟩
  show az_X P _ 256 35 ls [] _ _
  refine jm_aload_n (x := P.1 + 60) rfl rfl (jM_at hl 0 rfl) ?_
  refine jm_aload_n (x := P.1 + 60) rfl rfl (jM_at hl 0 rfl) ?_
  refine jn_gf (i := 60) (k := 17) rfl rfl hH32 (by decide) (hH32.2 60 _ rfl).1 rfl rfl (fun z37 (ez37 : z37.toInt = ja h32 60 17) (bz37 : 0 ≤ z37.toInt ∧ z37.toInt ≤ 240) => ?_)
  replace ez37 : z37.toInt = ja h 60 17 := ez37.trans ((jso hs32 (by decide)).trans ((jso hs26 (by decide)).trans (jso hs18 (by decide))))
  refine az_X_step (pc' := 41) (ls' := ls) (st' := [.int 1, .int z37, .ref (P.1 + 60)]) (h' := h32) rfl rfl rfl ?_
  refine jn_add (a := z37) (b := 1) rfl rfl (by omega) (by omega) (fun z41 ez41 => ?_)
  rw [show (1 : Int32).toInt = 1 by decide] at ez41
  refine jn_pf (i := 60) (k := 17) (x := z41) rfl rfl hH32 (by decide) rfl (hH32.2 60 _ rfl).1 rfl rfl (by decide) (by decide) (by show 0 ≤ _; omega) (by show _ ≤ 240; omega) (fun h42 hH42 hs42 (t42 : ja h42 60 17 = z41.toInt) => ?_)
  refine jn_retv rfl rfl rfl ?_
  refine ⟨rfl, hH42, ((hs18.sub (by decide)).tr ((hs26.sub (by decide)).tr ((hs32.sub (by decide)).tr (hs42.sub (by decide))))), ((jso hs42 (by decide)).trans ((jso hs32 (by decide)).trans t26)).trans (by omega), (jso hs42 (by decide)).trans f32.1, t42.trans (by omega), fun j hj => ?_, ?_, fun k hk => ?_⟩
  · rw [jso_row (i := 73) hs42 (by decide), jso_row (i := 73) hs32 (by decide), jso_row (i := 73) hs26 (by decide), u18 j (by omega) (by omega)]
  · rw [jso_row (i := 73) hs42 (by decide), jso_row (i := 73) hs32 (by decide), jso_row (i := 73) hs26 (by decide), show (w : Int) = z5.toInt by omega, t18]
    omega
  · rw [jso_row (i := 72) hs42 (by decide)]
    exact f32.2 k hk
theorem cn_l {P : si_P} (hxa : P.2.1 < P.1) {d : Nat} {hh : Int → Int} {n : Int} (hn : 1 ≤ n ∧ n ≤ 240) (hh1 : ∀ i : Int, hh i ≤ 255) {h0 : si_H} {X : Int → pyS} {p0 : Int} : ∀ m : Nat, (∀ (w c : Nat) (p : Int) (h : si_H) (ls : si_L), jM [(0, .ref (P.1 + 60))] ls → az_HI P az_tb h → az_same_out [(60, 17), (60, 19), (60, 20), (60, 21), (60, 22), (60, 23), (72, 1000000), (73, 1000000)] h0 h → jCD hh n h w c p → p0 < p → (∀ u : Nat, w = u + 1 → jop (ja h 73 u) ≠ 10) → (∀ i : Int, pyL hh n (X i) (6, 0, 0, p, jsk (ja h 73) w, i)) → n - p < m → az_X P (d + 9) 258 92 ls [] h (fun rv h' => ∃ z : Int32, rv = some (.int z) ∧ az_HI P az_tb h' ∧ az_same_out [(60, 17), (60, 19), (60, 20), (60, 21), (60, 22), (60, 23), (72, 1000000), (73, 1000000)] h0 h' ∧ jCN hh n X p0 h' z.toInt)) ∧ (∀ (w c : Nat) (p : Int) (h : si_H) (ls : si_L), jM [(0, .ref (P.1 + 60))] ls → az_HI P az_tb h → az_same_out [(60, 17), (60, 19), (60, 20), (60, 21), (60, 22), (60, 23), (72, 1000000), (73, 1000000)] h0 h → jCD hh n h w c p → p0 < p → (∀ i : Int, pyL hh n (X i) (2, 0, 0, p, jsk (ja h 73) w, i)) → n - p < m → az_X P (d + 9) 258 40 ls [] h (fun rv h' => ∃ z : Int32, rv = some (.int z) ∧ az_HI P az_tb h' ∧ az_same_out [(60, 17), (60, 19), (60, 20), (60, 21), (60, 22), (60, 23), (72, 1000000), (73, 1000000)] h0 h' ∧ jCN hh n X p0 h' z.toInt)) := by
  intro m
  induction m with
  | zero =>
    constructor
    · intro w c p h ls hl hH hs cd hp0 ht lL hm
      have q := cd.1
      have q0 := q
      obtain ⟨q8, q7, q3, q2, q1, qw, qc, qp, qA, qI, qC, qL, qB⟩ := q
      omega
    · intro w c p h ls hl hH hs cd hp0 lL hm
      have q := cd.1
      have q0 := q
      obtain ⟨q8, q7, q3, q2, q1, qw, qc, qp, qA, qI, qC, qL, qB⟩ := q
      omega
  | succ m ih =>
    constructor
    · intro w c p h ls hl hH hs cd hp0 ht lL hm
      have q := cd.1
      have q0 := q
      obtain ⟨q8, q7, q3, q2, q1, qw, qc, qp, qA, qI, qC, qL, qB⟩ := q
      have bp : 0 ≤ ja h 60 17 ∧ ja h 60 17 ≤ 240 := ja_bd hH (i := 60) (k := 17) rfl
      have jn0 := jcn_nn (ja h 73) w
      have w1 := cd.2.1
      have k0 : (0 : Int32).toInt = 0 := by decide
      have k1 : (1 : Int32).toInt = 1 := by decide
      have k11 : (11 : Int32).toInt = 11 := by decide
      have k12 : (12 : Int32).toInt = 12 := by decide
      have k38 : (38 : Int32).toInt = 38 := by decide
      have k41 : (41 : Int32).toInt = 41 := by decide
      have k124 : (124 : Int32).toInt = 124 := by decide
      refine jm_aload_n (x := P.1 + 60) rfl rfl (jM_at hl 0 rfl) ?_
      refine az_X_call (m' := 240) (as := [.ref (P.1 + 60)]) (rest := []) rfl rfl rfl rfl rfl ?_ ?_
      · unfold si_call
        dsimp only
        rw [if_pos ⟨rfl, rfl⟩]
        show (match si_ix P h (P.1 + 60) with | some i => _ | none => none) = _
        rw [jix hH (by decide)]
        dsimp only
        rw [(hH.2 60 _ rfl).1]
        rfl
      refine (rh_ok hH hn q8 q7 qB).mono ?_
      rintro rv93 h93 ⟨q93, z93, rfl, ez93⟩
      subst h93
      show az_X P _ 258 96 ls [.int z93] _ _
      obtain ⟨v, v1, v2, v3, v4⟩ := if_13 w cd.2.1 cd.2.2.1 cd.2.2.2.1 cd.2.2.2.2 ht
      refine az_X_step (pc' := 98) (ls' := ls) (st' := [.int 41, .int z93]) (h' := h) rfl rfl rfl ?_
      refine jx_ic (t := 152) rfl rfl rfl (fun hc98 => ?_) (fun hc98 => ?_)
      · have g98 := jc2_ne_t hc98
        refine jm_aload_n (x := P.1 + 60) rfl rfl (jM_at hl 0 rfl) ?_
        refine az_X_call (m' := 240) (as := [.ref (P.1 + 60)]) (rest := []) rfl rfl rfl rfl rfl ?_ ?_
        · unfold si_call
          dsimp only
          rw [if_pos ⟨rfl, rfl⟩]
          show (match si_ix P h (P.1 + 60) with | some i => _ | none => none) = _
          rw [jix hH (by decide)]
          dsimp only
          rw [(hH.2 60 _ rfl).1]
          rfl
        refine (rh_ok hH hn q8 q7 qB).mono ?_
        rintro rv153 h153 ⟨q153, z153, rfl, ez153⟩
        subst h153
        show az_X P _ 258 156 ls [.int z153] _ _
        refine az_X_step (pc' := 158) (ls' := ls) (st' := [.int 38, .int z153]) (h' := h) rfl rfl rfl ?_
        refine jx_ic (t := 180) rfl rfl rfl (fun hc158 => ?_) (fun hc158 => ?_)
        · have g158 := jc2_eq_t hc158
          refine jm_aload_n (x := P.1 + 60) rfl rfl (jM_at hl 0 rfl) ?_
          refine jm_aload_n (x := P.1 + 60) rfl rfl (jM_at hl 0 rfl) ?_
          refine az_X_call (m' := 240) (as := [.ref (P.1 + 60)]) (rest := [.ref (P.1 + 60)]) rfl rfl rfl rfl rfl ?_ ?_
          · unfold si_call
            dsimp only
            rw [if_pos ⟨rfl, rfl⟩]
            show (match si_ix P h (P.1 + 60) with | some i => _ | none => none) = _
            rw [jix hH (by decide)]
            dsimp only
            rw [(hH.2 60 _ rfl).1]
            rfl
          refine (rh_ok hH hn q8 q7 qB).mono ?_
          rintro rv182 h182 ⟨q182, z182, rfl, ez182⟩
          subst h182
          show az_X P _ 258 185 ls [.int z182, .ref (P.1 + 60)] _ _
          refine az_X_step (pc' := 187) (ls' := ls) (st' := [.int 124, .int z182, .ref (P.1 + 60)]) (h' := h) rfl rfl rfl ?_
          refine jx_ic (t := 194) rfl rfl rfl (fun hc187 => ?_) (fun hc187 => ?_)
          · have g187 := jc2_ne_t hc187
            refine az_X_step (pc' := 195) (ls' := ls) (st' := [.int 0, .ref (P.1 + 60)]) (h' := h) rfl rfl rfl ?_
            refine az_X_call (m' := 255) (as := [.ref (P.1 + 60), .int 0]) (rest := []) rfl rfl rfl rfl rfl ?_ ?_
            · unfold si_call
              dsimp only
              rw [if_pos ⟨rfl, rfl⟩]
              show (match si_ix P h (P.1 + 60) with | some i => _ | none => none) = _
              rw [jix hH (by decide)]
              dsimp only
              rw [(hH.2 60 _ rfl).1]
              rfl
            refine (lands_ok hxa (d := d + 8) (by omega) (all := 0) (by omega) (c := c) (by omega) w h (lv_args 0 [.ref (P.1 + 60), .int 0]) hH (show jR P (lv_args 0 [.ref (P.1 + 60), .int 0]) 0 60 from rfl) ⟨0, rfl, by decide⟩ q3 q2 qA (by omega) (fun j hj ho => ⟨qI j hj ho, fun k hk => qC k (by have := qI j hj ho; omega)⟩)).mono ?_
            rintro rv195 h195 ⟨rfl, hH195, hs195, f195⟩
            show az_X P _ 258 198 ls [] _ _
            obtain ⟨w2, l1, l2, l3, l4, l5, l6⟩ := la_q q0 hs195 f195
            have wv : v < w2 := by
              rcases Nat.lt_or_ge v w2 with z | z
              · exact z
              · have := l4 v z v1
                omega
            have hlt := jBR_lt qB (p := p) (by omega)
            have lw2 := l1.2.2.2.2.2.1
            refine jm_aload_n (x := P.1 + 60) rfl rfl (jM_at hl 0 rfl) ?_
            refine jm_aload_n (x := P.1 + 60) rfl rfl (jM_at hl 0 rfl) ?_
            refine az_X_call (m' := 240) (as := [.ref (P.1 + 60)]) (rest := [.ref (P.1 + 60)]) rfl rfl rfl rfl rfl ?_ ?_
            · unfold si_call
              dsimp only
              rw [if_pos ⟨rfl, rfl⟩]
              show (match si_ix P h195 (P.1 + 60) with | some i => _ | none => none) = _
              rw [jix hH195 (by decide)]
              dsimp only
              rw [(hH195.2 60 _ rfl).1]
              rfl
            refine (rh_ok hH195 hn l1.1 l1.2.1 (jQS_B l1)).mono ?_
            rintro rv200 h200 ⟨q200, z200, rfl, ez200⟩
            subst h200
            show az_X P _ 258 203 ls [.int z200, .ref (P.1 + 60)] _ _
            refine az_X_step (pc' := 205) (ls' := ls) (st' := [.int 38, .int z200, .ref (P.1 + 60)]) (h' := h195) rfl rfl rfl ?_
            refine jx_ic (t := 213) rfl rfl rfl (fun hc205 => ?_) (fun hc205 => ?_)
            · have g205 := jc2_ne_t hc205
              exfalso
              omega
            · have g205 := jc2_ne_f hc205
              refine az_X_step (pc' := 210) (ls' := ls) (st' := [.int 11, .ref (P.1 + 60)]) (h' := h195) rfl rfl rfl ?_
              refine az_X_step (pc' := 215) (ls' := ls) (st' := [.int 11, .ref (P.1 + 60)]) (h' := h195) rfl rfl rfl ?_
              refine az_X_call (m' := 256) (as := [.ref (P.1 + 60), .int 11]) (rest := []) rfl rfl rfl rfl rfl ?_ ?_
              · unfold si_call
                dsimp only
                rw [if_pos ⟨rfl, rfl⟩]
                show (match si_ix P h195 (P.1 + 60) with | some i => _ | none => none) = _
                rw [jix hH195 (by decide)]
                dsimp only
                rw [(hH195.2 60 _ rfl).1]
                rfl
              refine (jp_ok (d := d + 7) hH195 11 (by decide) l1.2.2.1 l1.2.2.2.1 l1.2.1 (by omega) (by omega) (by omega) l1.2.2.2.2.2.2.2.2.2.2.1).mono ?_
              rintro rv215 h215 ⟨rfl, hH215, hs215, f215⟩
              show az_X P _ 258 218 ls [] _ _
              refine az_X_step (pc' := 40) (ls' := ls) (st' := []) (h' := h215) rfl rfl rfl ?_
              have ko : (11 : Int32).toInt = 11 := by decide
              obtain ⟨g23, g22, g17, g73, g73w, g72⟩ := f215
              rw [ko] at g73w
              have oe : jop (1048576 * 11 + (c : Int)) = 11 := by
                unfold jop
                omega
              have ae : jar (1048576 * 11 + (c : Int)) = c := by
                unfold jar
                omega
              have no : ¬ (jop (1048576 * 11 + (c : Int)) = 10 ∨ jop (1048576 * 11 + (c : Int)) = 13 ∨ jop (1048576 * 11 + (c : Int)) = 14) := by omega
              have kz : jk1 (jop (1048576 * 11 + (c : Int))) = 0 := by
                rw [oe]
                rfl
              have pu := jQS_push (h' := h215) (c' := c + 1) (t' := 0) (e := 1048576 * 11 + (c : Int)) l1 hlt (jso hs215 (by decide)) g17 g23 g22 g73 g73w (by omega) (fun _ => by omega) (by omega) g72 (jBR_so hs215 (by decide) (jQS_B l1)) (by rw [kz]; omega) (by rw [if_neg no]; exact l1.2.2.2.2.2.2.2.2.2.2.2.1) (by rw [if_neg no]; exact (jso hs215 (by decide)).trans l1.2.2.2.2.1)
              rw [if_neg no] at pu
              have cd1 : jCD hh n h195 w2 c p := jCD_down cd l1 l2 (by omega) (fun j _ => l3 j)
              refine ih.2 (w2 + 1) (c + 1) (p + 1) h215 ls (jM_pick hl [0] rfl) hH215 (hs.tr ((hs195.sub (by decide)).tr (hs215.sub (by decide)))) (jCD_up (o := 11) cd1 pu.1 g73 (by rw [g73w]; exact oe) (by decide) (fun _ u hu => ?_)) (by omega) (fun i => ?_) (by omega)
              · rw [l3]
                rcases Nat.lt_or_ge v u with z | z
                · have := v3 u z (by omega)
                  omega
                · rw [show u = v by omega]
                  exact Or.inr (Or.inr v2)
              · have y := lL i
                rw [v4] at y
                rw [pu.2, jsk_cg (A := ja h195 73) (B := ja h 73) (w := w2) (fun j _ => l3 j), ← l6, v4]
                exact y.tr (pyL_1 (ps6_more (by omega)))
          · have g187 := jc2_ne_f hc187
            exfalso
            omega
        · have g158 := jc2_eq_f hc158
          refine jm_aload_n (x := P.1 + 60) rfl rfl (jM_at hl 0 rfl) ?_
          refine az_X_call (m' := 240) (as := [.ref (P.1 + 60)]) (rest := []) rfl rfl rfl rfl rfl ?_ ?_
          · unfold si_call
            dsimp only
            rw [if_pos ⟨rfl, rfl⟩]
            show (match si_ix P h (P.1 + 60) with | some i => _ | none => none) = _
            rw [jix hH (by decide)]
            dsimp only
            rw [(hH.2 60 _ rfl).1]
            rfl
          refine (rh_ok hH hn q8 q7 qB).mono ?_
          rintro rv162 h162 ⟨q162, z162, rfl, ez162⟩
          subst h162
          show az_X P _ 258 165 ls [.int z162] _ _
          refine az_X_step (pc' := 167) (ls' := ls) (st' := [.int 124, .int z162]) (h' := h) rfl rfl rfl ?_
          refine jx_ic (t := 180) rfl rfl rfl (fun hc167 => ?_) (fun hc167 => ?_)
          · have g167 := jc2_eq_t hc167
            refine jm_aload_n (x := P.1 + 60) rfl rfl (jM_at hl 0 rfl) ?_
            refine jm_aload_n (x := P.1 + 60) rfl rfl (jM_at hl 0 rfl) ?_
            refine az_X_call (m' := 240) (as := [.ref (P.1 + 60)]) (rest := [.ref (P.1 + 60)]) rfl rfl rfl rfl rfl ?_ ?_
            · unfold si_call
              dsimp only
              rw [if_pos ⟨rfl, rfl⟩]
              show (match si_ix P h (P.1 + 60) with | some i => _ | none => none) = _
              rw [jix hH (by decide)]
              dsimp only
              rw [(hH.2 60 _ rfl).1]
              rfl
            refine (rh_ok hH hn q8 q7 qB).mono ?_
            rintro rv182 h182 ⟨q182, z182, rfl, ez182⟩
            subst h182
            show az_X P _ 258 185 ls [.int z182, .ref (P.1 + 60)] _ _
            refine az_X_step (pc' := 187) (ls' := ls) (st' := [.int 124, .int z182, .ref (P.1 + 60)]) (h' := h) rfl rfl rfl ?_
            refine jx_ic (t := 194) rfl rfl rfl (fun hc187 => ?_) (fun hc187 => ?_)
            · have g187 := jc2_ne_t hc187
              exfalso
              omega
            · have g187 := jc2_ne_f hc187
              refine az_X_step (pc' := 191) (ls' := ls) (st' := [.int 1, .ref (P.1 + 60)]) (h' := h) rfl rfl rfl ?_
              refine az_X_step (pc' := 195) (ls' := ls) (st' := [.int 1, .ref (P.1 + 60)]) (h' := h) rfl rfl rfl ?_
              refine az_X_call (m' := 255) (as := [.ref (P.1 + 60), .int 1]) (rest := []) rfl rfl rfl rfl rfl ?_ ?_
              · unfold si_call
                dsimp only
                rw [if_pos ⟨rfl, rfl⟩]
                show (match si_ix P h (P.1 + 60) with | some i => _ | none => none) = _
                rw [jix hH (by decide)]
                dsimp only
                rw [(hH.2 60 _ rfl).1]
                rfl
              refine (lands_ok hxa (d := d + 8) (by omega) (all := 1) (by omega) (c := c) (by omega) w h (lv_args 0 [.ref (P.1 + 60), .int 1]) hH (show jR P (lv_args 0 [.ref (P.1 + 60), .int 1]) 0 60 from rfl) ⟨1, rfl, by decide⟩ q3 q2 qA (by omega) (fun j hj ho => ⟨qI j hj ho, fun k hk => qC k (by have := qI j hj ho; omega)⟩)).mono ?_
              rintro rv195 h195 ⟨rfl, hH195, hs195, f195⟩
              show az_X P _ 258 198 ls [] _ _
              obtain ⟨w2, l1, l2, l3, l4, l5, l6⟩ := la_q q0 hs195 f195
              have wv : v < w2 := by
                rcases Nat.lt_or_ge v w2 with z | z
                · exact z
                · have := l4 v z v1
                  omega
              have hlt := jBR_lt qB (p := p) (by omega)
              have lw2 := l1.2.2.2.2.2.1
              refine jm_aload_n (x := P.1 + 60) rfl rfl (jM_at hl 0 rfl) ?_
              refine jm_aload_n (x := P.1 + 60) rfl rfl (jM_at hl 0 rfl) ?_
              refine az_X_call (m' := 240) (as := [.ref (P.1 + 60)]) (rest := [.ref (P.1 + 60)]) rfl rfl rfl rfl rfl ?_ ?_
              · unfold si_call
                dsimp only
                rw [if_pos ⟨rfl, rfl⟩]
                show (match si_ix P h195 (P.1 + 60) with | some i => _ | none => none) = _
                rw [jix hH195 (by decide)]
                dsimp only
                rw [(hH195.2 60 _ rfl).1]
                rfl
              refine (rh_ok hH195 hn l1.1 l1.2.1 (jQS_B l1)).mono ?_
              rintro rv200 h200 ⟨q200, z200, rfl, ez200⟩
              subst h200
              show az_X P _ 258 203 ls [.int z200, .ref (P.1 + 60)] _ _
              refine az_X_step (pc' := 205) (ls' := ls) (st' := [.int 38, .int z200, .ref (P.1 + 60)]) (h' := h195) rfl rfl rfl ?_
              refine jx_ic (t := 213) rfl rfl rfl (fun hc205 => ?_) (fun hc205 => ?_)
              · have g205 := jc2_ne_t hc205
                refine az_X_step (pc' := 215) (ls' := ls) (st' := [.int 12, .ref (P.1 + 60)]) (h' := h195) rfl rfl rfl ?_
                refine az_X_call (m' := 256) (as := [.ref (P.1 + 60), .int 12]) (rest := []) rfl rfl rfl rfl rfl ?_ ?_
                · unfold si_call
                  dsimp only
                  rw [if_pos ⟨rfl, rfl⟩]
                  show (match si_ix P h195 (P.1 + 60) with | some i => _ | none => none) = _
                  rw [jix hH195 (by decide)]
                  dsimp only
                  rw [(hH195.2 60 _ rfl).1]
                  rfl
                refine (jp_ok (d := d + 7) hH195 12 (by decide) l1.2.2.1 l1.2.2.2.1 l1.2.1 (by omega) (by omega) (by omega) l1.2.2.2.2.2.2.2.2.2.2.1).mono ?_
                rintro rv215 h215 ⟨rfl, hH215, hs215, f215⟩
                show az_X P _ 258 218 ls [] _ _
                refine az_X_step (pc' := 40) (ls' := ls) (st' := []) (h' := h215) rfl rfl rfl ?_
                have ko : (12 : Int32).toInt = 12 := by decide
                obtain ⟨g23, g22, g17, g73, g73w, g72⟩ := f215
                rw [ko] at g73w
                have oe : jop (1048576 * 12 + (c : Int)) = 12 := by
                  unfold jop
                  omega
                have ae : jar (1048576 * 12 + (c : Int)) = c := by
                  unfold jar
                  omega
                have no : ¬ (jop (1048576 * 12 + (c : Int)) = 10 ∨ jop (1048576 * 12 + (c : Int)) = 13 ∨ jop (1048576 * 12 + (c : Int)) = 14) := by omega
                have kz : jk1 (jop (1048576 * 12 + (c : Int))) = 0 := by
                  rw [oe]
                  rfl
                have pu := jQS_push (h' := h215) (c' := c + 1) (t' := 0) (e := 1048576 * 12 + (c : Int)) l1 hlt (jso hs215 (by decide)) g17 g23 g22 g73 g73w (by omega) (fun _ => by omega) (by omega) g72 (jBR_so hs215 (by decide) (jQS_B l1)) (by rw [kz]; omega) (by rw [if_neg no]; exact l1.2.2.2.2.2.2.2.2.2.2.2.1) (by rw [if_neg no]; exact (jso hs215 (by decide)).trans l1.2.2.2.2.1)
                rw [if_neg no] at pu
                have cd1 : jCD hh n h195 w2 c p := jCD_down cd l1 l2 (by omega) (fun j _ => l3 j)
                refine ih.2 (w2 + 1) (c + 1) (p + 1) h215 ls (jM_pick hl [0] rfl) hH215 (hs.tr ((hs195.sub (by decide)).tr (hs215.sub (by decide)))) (jCD_up (o := 12) cd1 pu.1 g73 (by rw [g73w]; exact oe) (by decide) (fun _ u hu => ?_)) (by omega) (fun i => ?_) (by omega)
                · rw [l3]
                  rcases Nat.lt_or_ge v u with z | z
                  · have := v3 u z (by omega)
                    omega
                  · rw [show u = v by omega]
                    exact Or.inr (Or.inr v2)
                · have y := lL i
                  rw [v4] at y
                  rw [pu.2, jsk_cg (A := ja h195 73) (B := ja h 73) (w := w2) (fun j _ => l3 j), ← l6, v4]
                  exact y.tr (pyL_1 (ps6_more (by omega)))
              · have g205 := jc2_ne_f hc205
                exfalso
                omega
          · have g167 := jc2_eq_f hc167
            refine jm_aload_n (x := P.1 + 60) rfl rfl (jM_at hl 0 rfl) ?_
            refine az_X_step (pc' := 172) (ls' := ls) (st' := [.int 1, .ref (P.1 + 60)]) (h' := h) rfl rfl rfl ?_
            refine jm_aload_n (x := P.1 + 60) rfl rfl (jM_at hl 0 rfl) ?_
            refine jn_gf (i := 60) (k := 17) rfl rfl hH (by decide) (hH.2 60 _ rfl).1 rfl rfl (fun z173 (ez173 : z173.toInt = ja h 60 17) (bz173 : 0 ≤ z173.toInt ∧ z173.toInt ≤ 240) => ?_)
            refine az_X_call (m' := 242) (as := [.ref (P.1 + 60), .int 1, .int z173]) (rest := []) rfl rfl rfl rfl rfl ?_ ?_
            · unfold si_call
              dsimp only
              rw [if_pos ⟨rfl, rfl⟩]
              show (match si_ix P h (P.1 + 60) with | some i => _ | none => none) = _
              rw [jix hH (by decide)]
              dsimp only
              rw [(hH.2 60 _ rfl).1]
              rfl
            refine (rw_ok hH 1 z173 (by decide) (by omega)).mono ?_
            rintro rv176 h176 ⟨z176, rfl, hH176, hs176, f176⟩
            show az_X P _ 258 179 ls [.int z176] _ _
            refine jx_retz rfl rfl rfl (jbz (by omega)) ?_
            have hf : ja h176 60 19 = -1000 - p := by rw [f176.2]; omega
            refine ⟨z176, rfl, hH176, hs.tr (hs176.sub (by decide)), Or.inr ⟨f176.1, by omega, fun i => ?_⟩⟩
            rw [hf]
            have y := lL i
            rw [v4] at y
            exact y _ (pyR_1 (ps6_bad (by omega) (by omega)))
      · have g98 := jc2_ne_f hc98
        refine jm_aload_n (x := P.1 + 60) rfl rfl (jM_at hl 0 rfl) ?_
        refine az_X_step (pc' := 103) (ls' := ls) (st' := [.int 1, .ref (P.1 + 60)]) (h' := h) rfl rfl rfl ?_
        refine az_X_call (m' := 255) (as := [.ref (P.1 + 60), .int 1]) (rest := []) rfl rfl rfl rfl rfl ?_ ?_
        · unfold si_call
          dsimp only
          rw [if_pos ⟨rfl, rfl⟩]
          show (match si_ix P h (P.1 + 60) with | some i => _ | none => none) = _
          rw [jix hH (by decide)]
          dsimp only
          rw [(hH.2 60 _ rfl).1]
          rfl
        refine (lands_ok hxa (d := d + 8) (by omega) (all := 1) (by omega) (c := c) (by omega) w h (lv_args 0 [.ref (P.1 + 60), .int 1]) hH (show jR P (lv_args 0 [.ref (P.1 + 60), .int 1]) 0 60 from rfl) ⟨1, rfl, by decide⟩ q3 q2 qA (by omega) (fun j hj ho => ⟨qI j hj ho, fun k hk => qC k (by have := qI j hj ho; omega)⟩)).mono ?_
        rintro rv103 h103 ⟨rfl, hH103, hs103, f103⟩
        show az_X P _ 258 106 ls [] _ _
        obtain ⟨w2, l1, l2, l3, l4, l5, l6⟩ := la_q q0 hs103 f103
        have wv : w2 = v + 1 := by
          have a1 : v < w2 := by
            rcases Nat.lt_or_ge v w2 with z | z
            · exact z
            · have := l4 v z v1
              omega
          rcases Nat.lt_or_ge (v + 1) w2 with z | z
          · have b1 := v3 (w2 - 1) (by omega) (by omega)
            have b2 := l5 (w2 - 1) (by omega)
            have b3 := b2.2 rfl
            omega
          · omega
        have l23 := l1.2.2.1
        have l21 := l1.2.2.2.2.1
        have sk2 : jsk (ja h103 73) w2 = 13 :: jsk (ja h103 73) v := by
          rw [wv]
          exact jsk_y ((l3 v).symm ▸ v2) (Or.inr (Or.inl rfl))
        have ln2 : (jsk (ja h103 73) w2).length = (jsk (ja h103 73) v).length + 1 := by rw [sk2, List.length_cons]
        have hlt := jBR_lt qB (p := p) (by omega)
        have x21 : ja h103 60 21 = ja h 60 21 := jso hs103 (by decide)
        refine jm_aload_n (x := P.1 + 60) rfl rfl (jM_at hl 0 rfl) ?_
        refine jm_aload_n (x := P.1 + 60) rfl rfl (jM_at hl 0 rfl) ?_
        refine jn_gf (i := 60) (k := 23) rfl rfl hH103 (by decide) (hH103.2 60 _ rfl).1 rfl rfl (fun z108 (ez108 : z108.toInt = ja h103 60 23) (bz108 : (-2147483648) ≤ z108.toInt ∧ z108.toInt ≤ 2147483647) => ?_)
        refine az_X_step (pc' := 112) (ls' := ls) (st' := [.int 1, .int z108, .ref (P.1 + 60)]) (h' := h103) rfl rfl rfl ?_
        refine jn_sub (a := z108) (b := 1) rfl rfl (by omega) (by omega) (fun z112 ez112 => ?_)
        rw [show (1 : Int32).toInt = 1 by decide] at ez112
        refine jn_pf (i := 60) (k := 23) (x := z112) rfl rfl hH103 (by decide) rfl (hH103.2 60 _ rfl).1 rfl rfl (by decide) (by decide) (by show (-2147483648) ≤ _; omega) (by show _ ≤ 2147483647; omega) (fun h113 hH113 hs113 (t113 : ja h113 60 23 = z112.toInt) => ?_)
        refine jm_aload_n (x := P.1 + 60) rfl rfl (jM_at hl 0 rfl) ?_
        refine jm_aload_n (x := P.1 + 60) rfl rfl (jM_at hl 0 rfl) ?_
        refine jn_gf (i := 60) (k := 21) rfl rfl hH113 (by decide) (hH113.2 60 _ rfl).1 rfl rfl (fun z118 (ez118 : z118.toInt = ja h113 60 21) (bz118 : (-2147483648) ≤ z118.toInt ∧ z118.toInt ≤ 2147483647) => ?_)
        replace ez118 : z118.toInt = ja h 60 21 := ez118.trans ((jso hs113 (by decide)).trans (jso hs103 (by decide)))
        refine az_X_step (pc' := 122) (ls' := ls) (st' := [.int 1, .int z118, .ref (P.1 + 60)]) (h' := h113) rfl rfl rfl ?_
        refine jn_sub (a := z118) (b := 1) rfl rfl (by omega) (by omega) (fun z122 ez122 => ?_)
        rw [show (1 : Int32).toInt = 1 by decide] at ez122
        refine jn_pf (i := 60) (k := 21) (x := z122) rfl rfl hH113 (by decide) rfl (hH113.2 60 _ rfl).1 rfl rfl (by decide) (by decide) (by show (-2147483648) ≤ _; omega) (by show _ ≤ 2147483647; omega) (fun h123 hH123 hs123 (t123 : ja h123 60 21 = z122.toInt) => ?_)
        refine jm_aload_n (x := P.1 + 60) rfl rfl (jM_at hl 0 rfl) ?_
        refine jm_aload_n (x := P.1 + 60) rfl rfl (jM_at hl 0 rfl) ?_
        refine jn_gf (i := 60) (k := 17) rfl rfl hH123 (by decide) (hH123.2 60 _ rfl).1 rfl rfl (fun z128 (ez128 : z128.toInt = ja h123 60 17) (bz128 : 0 ≤ z128.toInt ∧ z128.toInt ≤ 240) => ?_)
        replace ez128 : z128.toInt = ja h 60 17 := ez128.trans ((jso hs123 (by decide)).trans ((jso hs113 (by decide)).trans (jso hs103 (by decide))))
        refine az_X_step (pc' := 132) (ls' := ls) (st' := [.int 1, .int z128, .ref (P.1 + 60)]) (h' := h123) rfl rfl rfl ?_
        refine jn_add (a := z128) (b := 1) rfl rfl (by omega) (by omega) (fun z132 ez132 => ?_)
        rw [show (1 : Int32).toInt = 1 by decide] at ez132
        refine jn_pf (i := 60) (k := 17) (x := z132) rfl rfl hH123 (by decide) rfl (hH123.2 60 _ rfl).1 rfl rfl (by decide) (by decide) (by show 0 ≤ _; omega) (by show _ ≤ 240; omega) (fun h133 hH133 hs133 (t133 : ja h133 60 17 = z132.toInt) => ?_)
        have v73 : ∀ j : Int, ja h133 73 j = ja h103 73 j := fun j => by
          rw [jso_row (i := 73) hs133 (by decide), jso_row (i := 73) hs123 (by decide), jso_row (i := 73) hs113 (by decide)]
        have w73 : ∀ j : Int, ja h133 73 j = ja h 73 j := fun j => (v73 j).trans (l3 j)
        have cl2 := jcn_le (A := ja h103 73) (show v ≤ w2 by omega)
        have q133 : jQS hh n h133 v c (p + 1) 0 := jQS_down l1 (show v ≤ w2 by omega) (by omega) (by omega) ((jso hs133 (by decide)).trans ((jso hs123 (by decide)).trans (jso hs113 (by decide)))) (t133.trans (by omega)) (((jso hs133 (by decide)).trans ((jso hs123 (by decide)).trans t113)).trans (by omega)) ((jso hs133 (by decide)).trans ((jso hs123 (by decide)).trans ((jso hs113 (by decide)).trans l1.2.2.2.1))) (fun j _ => v73 j) (Nat.le_refl _) (fun k hk2 => by rw [jso_row (i := 72) hs133 (by decide), jso_row (i := 72) hs123 (by decide), jso_row (i := 72) hs113 (by decide)]; exact l1.2.2.2.2.2.2.2.2.2.2.1 k hk2) (jBR_so hs133 (by decide) (jBR_so hs123 (by decide) (jBR_so hs113 (by decide) (jQS_B l1)))) (by omega) (by have := l1.2.2.2.2.2.2.2.2.2.2.2.1; omega) (((jso hs133 (by decide)).trans t123).trans (by omega))
        have k133 : jsk (ja h133 73) v = jsk (ja h 73) v := jsk_cg (fun j _ => w73 j)
        have st : ∀ i : Int, pyL hh n (X i) (6, 0, 0, p + 1, jsk (ja h133 73) v, i) := fun i => by
          have y := lL i
          rw [v4] at y
          rw [k133]
          exact y.tr (pyL_1 (ps6_close (by omega)))
        refine jm_aload_n (x := P.1 + 60) rfl rfl (jM_at hl 0 rfl) ?_
        refine jn_gf (i := 60) (k := 23) rfl rfl hH133 (by decide) (hH133.2 60 _ rfl).1 rfl rfl (fun z137 (ez137 : z137.toInt = ja h133 60 23) (bz137 : (-2147483648) ≤ z137.toInt ∧ z137.toInt ≤ 2147483647) => ?_)
        replace ez137 : z137.toInt = z112.toInt := ez137.trans ((jso hs133 (by decide)).trans ((jso hs123 (by decide)).trans t113))
        refine jx_if (t := 145) rfl rfl rfl (fun hc140 => ?_) (fun hc140 => ?_)
        · have g140 := jc1_ne_t hc140
          refine jm_aload_n (x := P.1 + 60) rfl rfl (jM_at hl 0 rfl) ?_
          refine az_X_call (m' := 254) (as := [.ref (P.1 + 60)]) (rest := []) rfl rfl rfl rfl rfl ?_ ?_
          · unfold si_call
            dsimp only
            rw [if_pos ⟨rfl, rfl⟩]
            show (match si_ix P h133 (P.1 + 60) with | some i => _ | none => none) = _
            rw [jix hH133 (by decide)]
            dsimp only
            rw [(hH133.2 60 _ rfl).1]
            rfl
          refine (ep2_ok (d := d + 7) hxa hH133 q133.2.2.1 q133.2.2.2.1 rfl (by have := q133.2.2.2.2.1; have := q133.2.2.2.2.2.2.2.2.2.2.2.1; omega) q133.2.2.2.2.2.2.2.2.1 (by omega) (by have := q133.2.2.2.2.2.2.1; omega) q133.2.2.2.2.2.2.2.2.2.2.1).mono ?_
          rintro rv146 h146 ⟨rfl, hH146, hs146, f146⟩
          show az_X P _ 258 149 ls [] _ _
          refine az_X_step (pc' := 92) (ls' := ls) (st' := []) (h' := h146) rfl rfl rfl ?_
          obtain ⟨v5, c5, y1, y2, y3, y4, y5, y6⟩ := ep_end q133 hs146 f146
          have v50 : 1 ≤ v5 := by
            rcases Nat.eq_zero_or_pos v5 with e | e
            · exfalso
              have q9 := q133.2.2.1
              have b := y4 0 (by omega) (by omega)
              rw [w73, show ((0 : Nat) : Int) = 0 from rfl, cd.2.2.1] at b
              omega
            · exact e
          refine ih.1 v5 c5 (p + 1) h146 ls (jM_pick hl [0] rfl) hH146 (hs.tr ((hs103.sub (by decide)).tr ((hs113.sub (by decide)).tr ((hs123.sub (by decide)).tr ((hs133.sub (by decide)).tr (hs146.sub (by decide))))))) (jCD_down cd y1 (by omega) v50 (fun j _ => (y3 j).trans (w73 j))) (by omega) (fun u hu => by rw [y3]; exact y5 u hu) (fun i => ?_) (by omega)
          rw [jsk_cg (A := ja h146 73) (B := ja h133 73) (fun j _ => y3 j)]
          exact (st i).tr (y6 i)
        · have g140 := jc1_ne_f hc140
          refine az_X_step (pc' := 144) (ls' := ls) (st' := [.int 1]) (h' := h133) rfl rfl rfl ?_
          refine jx_retz rfl rfl rfl (by decide) ?_
          have vz : v = 0 := by
            have := q133.2.2.1
            omega
          subst vz
          exact ⟨1, rfl, hH133, hs.tr ((hs103.sub (by decide)).tr ((hs113.sub (by decide)).tr ((hs123.sub (by decide)).tr (hs133.sub (by decide))))), Or.inl ⟨by decide, c, p + 1, q133.2.1, q133.2.2.2.1, by omega, by omega, q133.2.2.2.2.2.2.2.2.2.2.1, by omega, fun i => st i⟩⟩
    · intro w c p h ls hl hH hs cd hp0 lL hm
      have q := cd.1
      have q0 := q
      obtain ⟨q8, q7, q3, q2, q1, qw, qc, qp, qA, qI, qC, qL, qB⟩ := q
      have bp : 0 ≤ ja h 60 17 ∧ ja h 60 17 ≤ 240 := ja_bd hH (i := 60) (k := 17) rfl
      have jn0 := jcn_nn (ja h 73) w
      have w1 := cd.2.1
      have k0 : (0 : Int32).toInt = 0 := by decide
      have k10 : (10 : Int32).toInt = 10 := by decide
      have k13 : (13 : Int32).toInt = 13 := by decide
      have k33 : (33 : Int32).toInt = 33 := by decide
      have k40 : (40 : Int32).toInt = 40 := by decide
      refine jm_aload_n (x := P.1 + 60) rfl rfl (jM_at hl 0 rfl) ?_
      refine az_X_call (m' := 240) (as := [.ref (P.1 + 60)]) (rest := []) rfl rfl rfl rfl rfl ?_ ?_
      · unfold si_call
        dsimp only
        rw [if_pos ⟨rfl, rfl⟩]
        show (match si_ix P h (P.1 + 60) with | some i => _ | none => none) = _
        rw [jix hH (by decide)]
        dsimp only
        rw [(hH.2 60 _ rfl).1]
        rfl
      refine (rh_ok hH hn q8 q7 qB).mono ?_
      rintro rv41 h41 ⟨q41, z41, rfl, ez41⟩
      subst h41
      show az_X P _ 258 44 ls [.int z41] _ _
      refine az_X_step (pc' := 46) (ls' := ls) (st' := [.int 33, .int z41]) (h' := h) rfl rfl rfl ?_
      refine jx_ic (t := 58) rfl rfl rfl (fun hc46 => ?_) (fun hc46 => ?_)
      · have g46 := jc2_eq_t hc46
        refine jm_aload_n (x := P.1 + 60) rfl rfl (jM_at hl 0 rfl) ?_
        refine jm_aload_n (x := P.1 + 60) rfl rfl (jM_at hl 0 rfl) ?_
        refine az_X_call (m' := 240) (as := [.ref (P.1 + 60)]) (rest := [.ref (P.1 + 60)]) rfl rfl rfl rfl rfl ?_ ?_
        · unfold si_call
          dsimp only
          rw [if_pos ⟨rfl, rfl⟩]
          show (match si_ix P h (P.1 + 60) with | some i => _ | none => none) = _
          rw [jix hH (by decide)]
          dsimp only
          rw [(hH.2 60 _ rfl).1]
          rfl
        refine (rh_ok hH hn q8 q7 qB).mono ?_
        rintro rv60 h60 ⟨q60, z60, rfl, ez60⟩
        subst h60
        show az_X P _ 258 63 ls [.int z60, .ref (P.1 + 60)] _ _
        refine az_X_step (pc' := 65) (ls' := ls) (st' := [.int 33, .int z60, .ref (P.1 + 60)]) (h' := h) rfl rfl rfl ?_
        refine jx_ic (t := 73) rfl rfl rfl (fun hc65 => ?_) (fun hc65 => ?_)
        · have g65 := jc2_ne_t hc65
          exfalso
          omega
        · have g65 := jc2_ne_f hc65
          refine az_X_step (pc' := 70) (ls' := ls) (st' := [.int 10, .ref (P.1 + 60)]) (h' := h) rfl rfl rfl ?_
          refine az_X_step (pc' := 75) (ls' := ls) (st' := [.int 10, .ref (P.1 + 60)]) (h' := h) rfl rfl rfl ?_
          refine az_X_call (m' := 246) (as := [.ref (P.1 + 60), .int 10]) (rest := []) rfl rfl rfl rfl rfl ?_ ?_
          · unfold si_call
            dsimp only
            rw [if_pos ⟨rfl, rfl⟩]
            show (match si_ix P h (P.1 + 60) with | some i => _ | none => none) = _
            rw [jix hH (by decide)]
            dsimp only
            rw [(hH.2 60 _ rfl).1]
            rfl
          refine (op_ok (d := d + 7) hH hn q0 (jBR_lt qB (p := p) (by omega)) 10 (by decide)).mono ?_
          rintro rv75 h75 ⟨z75, rfl, hH75, hs75, f75⟩
          show az_X P _ 258 78 ls [.int z75] _ _
          refine jx_if (t := 40) rfl rfl rfl (fun hc78 => ?_) (fun hc78 => ?_)
          · have g78 := jc1_ne_t hc78
            have ko : (10 : Int32).toInt = 10 := by decide
            rcases f75 with ⟨a1, -⟩ | ⟨a1, a2, a3, a4, a5, a6⟩
            · omega
            · rw [ko] at a4 a6
              refine ih.2 (w + 1) c (p + 1) h75 ls (jM_pick hl [0] rfl) hH75 (hs.tr (hs75.sub (by decide))) (jCD_up cd a3 a5 a6 (by decide) (fun e => absurd e (by decide))) (by omega) (fun i => ?_) (by omega)
              rw [a4]
              exact (lL i).tr (pyL_1 (ps2_not (by omega) (by omega)))
          · have g78 := jc1_ne_f hc78
            refine az_X_step (pc' := 82) (ls' := ls) (st' := [.int 0]) (h' := h75) rfl rfl rfl ?_
            refine jx_retz rfl rfl rfl (by decide) ?_
            rcases f75 with ⟨a1, a2, a3⟩ | ⟨a1, -⟩
            · refine ⟨0, rfl, hH75, hs.tr (hs75.sub (by decide)), Or.inr ⟨by decide, by omega, fun i => ?_⟩⟩
              rw [a3]
              exact (lL i) _ (pyR_1 (ps2_deep (by omega) a2))
            · omega
      · have g46 := jc2_eq_f hc46
        refine jm_aload_n (x := P.1 + 60) rfl rfl (jM_at hl 0 rfl) ?_
        refine az_X_call (m' := 240) (as := [.ref (P.1 + 60)]) (rest := []) rfl rfl rfl rfl rfl ?_ ?_
        · unfold si_call
          dsimp only
          rw [if_pos ⟨rfl, rfl⟩]
          show (match si_ix P h (P.1 + 60) with | some i => _ | none => none) = _
          rw [jix hH (by decide)]
          dsimp only
          rw [(hH.2 60 _ rfl).1]
          rfl
        refine (rh_ok hH hn q8 q7 qB).mono ?_
        rintro rv50 h50 ⟨q50, z50, rfl, ez50⟩
        subst h50
        show az_X P _ 258 53 ls [.int z50] _ _
        refine az_X_step (pc' := 55) (ls' := ls) (st' := [.int 40, .int z50]) (h' := h) rfl rfl rfl ?_
        refine jx_ic (t := 83) rfl rfl rfl (fun hc55 => ?_) (fun hc55 => ?_)
        · have g55 := jc2_ne_t hc55
          refine jm_aload_n (x := P.1 + 60) rfl rfl (jM_at hl 0 rfl) ?_
          refine az_X_call (m' := 257) (as := [.ref (P.1 + 60)]) (rest := []) rfl rfl rfl rfl rfl ?_ ?_
          · unfold si_call
            dsimp only
            rw [if_pos ⟨rfl, rfl⟩]
            show (match si_ix P h (P.1 + 60) with | some i => _ | none => none) = _
            rw [jix hH (by decide)]
            dsimp only
            rw [(hH.2 60 _ rfl).1]
            rfl
          refine (cm_ok (d := d) hxa hn hh1 hH q0 (fun v hv => by have := cd.2.2.2.1 v (by omega); omega) (jsk_h (fun j hj => by have := cd.2.2.2.1 j hj; omega))).mono ?_
          rintro rv84 h84 ⟨z84, rfl, hH84, hs84, f84⟩
          show az_X P _ 258 87 ls [.int z84] _ _
          refine jx_if (t := 92) rfl rfl rfl (fun hc87 => ?_) (fun hc87 => ?_)
          · have g87 := jc1_ne_t hc87
            rcases f84 with ⟨a1, w3, c3, p3, b1, b2, b3, b4, b5, b6, b7⟩ | ⟨a1, -⟩
            · have w30 : 1 ≤ w3 := by
                rcases Nat.eq_zero_or_pos w3 with e | e
                · exfalso
                  have b := b6 0 (by omega) (by omega)
                  rw [show ((0 : Nat) : Int) = 0 from rfl, cd.2.2.1] at b
                  omega
                · exact e
              refine ih.1 w3 c3 p3 h84 ls (jM_pick hl [0] rfl) hH84 (hs.tr hs84) (jCD_down cd b1 b2 w30 b4) (by omega) (fun u hu => by rw [b4 u (by omega)]; exact b5 u hu) (fun i => ?_) (by omega)
              rw [jsk_cg (A := ja h84 73) (B := ja h 73) b4]
              exact (lL i).tr ((pyL_1 (ps2_cmp (by omega))).tr (b7 i))
            · omega
          · have g87 := jc1_ne_f hc87
            refine az_X_step (pc' := 91) (ls' := ls) (st' := [.int 0]) (h' := h84) rfl rfl rfl ?_
            refine jx_retz rfl rfl rfl (by decide) ?_
            rcases f84 with ⟨a1, -⟩ | ⟨a1, a2, a3⟩
            · omega
            · exact ⟨0, rfl, hH84, hs.tr hs84, Or.inr ⟨by decide, a2, fun i => (lL i) _ (pyL_1 (ps2_cmp (by omega)) _ (a3 i))⟩⟩
        · have g55 := jc2_ne_f hc55
          refine jm_aload_n (x := P.1 + 60) rfl rfl (jM_at hl 0 rfl) ?_
          refine jm_aload_n (x := P.1 + 60) rfl rfl (jM_at hl 0 rfl) ?_
          refine az_X_call (m' := 240) (as := [.ref (P.1 + 60)]) (rest := [.ref (P.1 + 60)]) rfl rfl rfl rfl rfl ?_ ?_
          · unfold si_call
            dsimp only
            rw [if_pos ⟨rfl, rfl⟩]
            show (match si_ix P h (P.1 + 60) with | some i => _ | none => none) = _
            rw [jix hH (by decide)]
            dsimp only
            rw [(hH.2 60 _ rfl).1]
            rfl
          refine (rh_ok hH hn q8 q7 qB).mono ?_
          rintro rv60 h60 ⟨q60, z60, rfl, ez60⟩
          subst h60
          show az_X P _ 258 63 ls [.int z60, .ref (P.1 + 60)] _ _
          refine az_X_step (pc' := 65) (ls' := ls) (st' := [.int 33, .int z60, .ref (P.1 + 60)]) (h' := h) rfl rfl rfl ?_
          refine jx_ic (t := 73) rfl rfl rfl (fun hc65 => ?_) (fun hc65 => ?_)
          · have g65 := jc2_ne_t hc65
            refine az_X_step (pc' := 75) (ls' := ls) (st' := [.int 13, .ref (P.1 + 60)]) (h' := h) rfl rfl rfl ?_
            refine az_X_call (m' := 246) (as := [.ref (P.1 + 60), .int 13]) (rest := []) rfl rfl rfl rfl rfl ?_ ?_
            · unfold si_call
              dsimp only
              rw [if_pos ⟨rfl, rfl⟩]
              show (match si_ix P h (P.1 + 60) with | some i => _ | none => none) = _
              rw [jix hH (by decide)]
              dsimp only
              rw [(hH.2 60 _ rfl).1]
              rfl
            refine (op_ok (d := d + 7) hH hn q0 (jBR_lt qB (p := p) (by omega)) 13 (by decide)).mono ?_
            rintro rv75 h75 ⟨z75, rfl, hH75, hs75, f75⟩
            show az_X P _ 258 78 ls [.int z75] _ _
            refine jx_if (t := 40) rfl rfl rfl (fun hc78 => ?_) (fun hc78 => ?_)
            · have g78 := jc1_ne_t hc78
              have ko : (13 : Int32).toInt = 13 := by decide
              rcases f75 with ⟨a1, -⟩ | ⟨a1, a2, a3, a4, a5, a6⟩
              · omega
              · rw [ko] at a4 a6
                refine ih.2 (w + 1) c (p + 1) h75 ls (jM_pick hl [0] rfl) hH75 (hs.tr (hs75.sub (by decide))) (jCD_up cd a3 a5 a6 (by decide) (fun e => absurd e (by decide))) (by omega) (fun i => ?_) (by omega)
                rw [a4]
                exact (lL i).tr (pyL_1 (ps2_par (by omega) (by omega)))
            · have g78 := jc1_ne_f hc78
              refine az_X_step (pc' := 82) (ls' := ls) (st' := [.int 0]) (h' := h75) rfl rfl rfl ?_
              refine jx_retz rfl rfl rfl (by decide) ?_
              rcases f75 with ⟨a1, a2, a3⟩ | ⟨a1, -⟩
              · refine ⟨0, rfl, hH75, hs.tr (hs75.sub (by decide)), Or.inr ⟨by decide, by omega, fun i => ?_⟩⟩
                rw [a3]
                exact (lL i) _ (pyR_1 (ps2_deep (by omega) a2))
              · omega
          · have g65 := jc2_ne_f hc65
            exfalso
            omega
theorem cn_ok {P : si_P} (hxa : P.2.1 < P.1) {d : Nat} {hh : Int → Int} {n : Int} (hn : 1 ≤ n ∧ n ≤ 240) (hh1 : ∀ i : Int, hh i ≤ 255) {h : si_H} (hH : az_HI P az_tb h) {c : Nat} {p : Int} (e8 : ja h 60 18 = n) (e7 : ja h 60 17 = p) (e22 : ja h 60 22 = c) (hcp : (c : Int) ≤ p) (hpn : p ≤ n) (h72 : ∀ k : Nat, k < c → 0 ≤ ja h 72 k) (hb : jBR h n hh) : az_X P (d + 9) 258 0 (lv_args 0 [.ref (P.1 + 60)]) [] h (fun rv h' => ∃ z : Int32, rv = some (.int z) ∧ az_HI P az_tb h' ∧ az_same_out [(60, 17), (60, 19), (60, 20), (60, 21), (60, 22), (60, 23), (72, 1000000), (73, 1000000)] h h' ∧ jCN hh n (fun i => (1, 0, 0, p, [], i)) p h' z.toInt) := by
  have bp : 0 ≤ ja h 60 17 ∧ ja h 60 17 ≤ 240 := ja_bd hH (i := 60) (k := 17) rfl
  have hl : jM [(0, .ref (P.1 + 60))] (lv_args 0 [.ref (P.1 + 60)]) := jM_args [0] rfl (by decide)
  generalize lv_args 0 [.ref (P.1 + 60)] = ls at hl
  have k0 : (0 : Int32).toInt = 0 := by decide
  have k1 : (1 : Int32).toInt = 1 := by decide
  have k13 : (13 : Int32).toInt = 13 := by decide
  have k40 : (40 : Int32).toInt = 40 := by decide
  refine jm_aload_n (x := P.1 + 60) rfl rfl (jM_at hl 0 rfl) ?_
  refine az_X_call (m' := 240) (as := [.ref (P.1 + 60)]) (rest := []) rfl rfl rfl rfl rfl ?_ ?_
  · unfold si_call
    dsimp only
    rw [if_pos ⟨rfl, rfl⟩]
    show (match si_ix P h (P.1 + 60) with | some i => _ | none => none) = _
    rw [jix hH (by decide)]
    dsimp only
    rw [(hH.2 60 _ rfl).1]
    rfl
  refine (rh_ok hH hn e8 e7 hb).mono ?_
  rintro rv1 h1 ⟨q1, z1, rfl, ez1⟩
  subst h1
  show az_X P _ 258 4 ls [.int z1] _ _
  refine az_X_step (pc' := 6) (ls' := ls) (st' := [.int 40, .int z1]) (h' := h) rfl rfl rfl ?_
  refine jx_ic (t := 19) rfl rfl rfl (fun hc6 => ?_) (fun hc6 => ?_)
  · have g6 := jc2_eq_t hc6
    refine jm_aload_n (x := P.1 + 60) rfl rfl (jM_at hl 0 rfl) ?_
    refine az_X_step (pc' := 21) (ls' := ls) (st' := [.int 0, .ref (P.1 + 60)]) (h' := h) rfl rfl rfl ?_
    refine jn_pf (i := 60) (k := 21) (x := 0) rfl rfl hH (by decide) rfl (hH.2 60 _ rfl).1 rfl rfl (by decide) (by decide) (by show (-2147483648) ≤ _; omega) (by show _ ≤ 2147483647; omega) (fun h21 hH21 hs21 (t21 : ja h21 60 21 = (0 : Int32).toInt) => ?_)
    replace t21 : ja h21 60 21 = 0 := t21.trans (by decide)
    refine jm_aload_n (x := P.1 + 60) rfl rfl (jM_at hl 0 rfl) ?_
    refine az_X_step (pc' := 26) (ls' := ls) (st' := [.int 0, .ref (P.1 + 60)]) (h' := h21) rfl rfl rfl ?_
    refine jn_pf (i := 60) (k := 23) (x := 0) rfl rfl hH21 (by decide) rfl (hH21.2 60 _ rfl).1 rfl rfl (by decide) (by decide) (by show (-2147483648) ≤ _; omega) (by show _ ≤ 2147483647; omega) (fun h26 hH26 hs26 (t26 : ja h26 60 23 = (0 : Int32).toInt) => ?_)
    replace t26 : ja h26 60 23 = 0 := t26.trans (by decide)
    have hlt := jBR_lt hb (p := p) (by omega)
    have q26 : jQS hh n h26 0 c p 0 := ⟨(jso hs26 (by decide)).trans ((jso hs21 (by decide)).trans e8), (jso hs26 (by decide)).trans ((jso hs21 (by decide)).trans e7), t26, (jso hs26 (by decide)).trans ((jso hs21 (by decide)).trans e22), (jso hs26 (by decide)).trans t21, by omega, by show (c : Int) + 0 + ((0 : Nat) : Int) ≤ p; omega, hpn, fun j hj => absurd hj (by omega), fun j hj => absurd hj (by omega), fun k hk => by rw [jso_row (i := 72) hs26 (by decide), jso_row (i := 72) hs21 (by decide)]; exact h72 k hk, by show (0 : Nat) ≤ 6; omega, jBR_so hs26 (by decide) (jBR_so hs21 (by decide) hb)⟩
    refine jm_aload_n (x := P.1 + 60) rfl rfl (jM_at hl 0 rfl) ?_
    refine az_X_step (pc' := 32) (ls' := ls) (st' := [.int 13, .ref (P.1 + 60)]) (h' := h26) rfl rfl rfl ?_
    refine az_X_call (m' := 246) (as := [.ref (P.1 + 60), .int 13]) (rest := []) rfl rfl rfl rfl rfl ?_ ?_
    · unfold si_call
      dsimp only
      rw [if_pos ⟨rfl, rfl⟩]
      show (match si_ix P h26 (P.1 + 60) with | some i => _ | none => none) = _
      rw [jix hH26 (by decide)]
      dsimp only
      rw [(hH26.2 60 _ rfl).1]
      rfl
    refine (op_ok (d := d + 7) hH26 hn q26 hlt 13 (by decide)).mono ?_
    rintro rv32 h32 ⟨z32, rfl, hH32, hs32, f32⟩
    show az_X P _ 258 35 ls [.int z32] _ _
    refine jx_if (t := 40) rfl rfl rfl (fun hc35 => ?_) (fun hc35 => ?_)
    · have g35 := jc1_ne_t hc35
      have ko : (13 : Int32).toInt = 13 := by decide
      rcases f32 with ⟨a1, -⟩ | ⟨a1, a2, a3, a4, a5, a6⟩
      · omega
      · rw [ko] at a4 a6
        refine (cn_l (d := d) hxa hn hh1 (h0 := h) (X := fun i => (1, 0, 0, p, [], i)) (p0 := p) (n - p + 1).toNat).2 1 c (p + 1) h32 ls (jM_pick hl [0] rfl) hH32 ((hs21.sub (by decide)).tr ((hs26.sub (by decide)).tr (hs32.sub (by decide)))) ⟨a3, by omega, a6, fun j hj => ?_, fun j hj => absurd hj (by omega)⟩ (by omega) (fun i => ?_) (by omega)
        · rw [show j = 0 by omega]
          exact Or.inr (Or.inr (Or.inr a6))
        · rw [a4]
          exact pyL_1 (show py hh n (1, 0, 0, p, [], i) = .inl (2, 0, 0, p + 1, [13], i) by rw [py_1, if_pos (by omega)])
    · have g35 := jc1_ne_f hc35
      refine az_X_step (pc' := 39) (ls' := ls) (st' := [.int 0]) (h' := h32) rfl rfl rfl ?_
      refine jx_retz rfl rfl rfl (by decide) ?_
      exfalso
      rcases f32 with ⟨-, a2, -⟩ | ⟨a1, -⟩
      · exact absurd a2 (by show ¬ (6 ≤ 0); omega)
      · omega
  · have g6 := jc2_eq_f hc6
    refine jm_aload_n (x := P.1 + 60) rfl rfl (jM_at hl 0 rfl) ?_
    refine az_X_step (pc' := 11) (ls' := ls) (st' := [.int 1, .ref (P.1 + 60)]) (h' := h) rfl rfl rfl ?_
    refine jm_aload_n (x := P.1 + 60) rfl rfl (jM_at hl 0 rfl) ?_
    refine jn_gf (i := 60) (k := 17) rfl rfl hH (by decide) (hH.2 60 _ rfl).1 rfl rfl (fun z12 (ez12 : z12.toInt = ja h 60 17) (bz12 : 0 ≤ z12.toInt ∧ z12.toInt ≤ 240) => ?_)
    refine az_X_call (m' := 242) (as := [.ref (P.1 + 60), .int 1, .int z12]) (rest := []) rfl rfl rfl rfl rfl ?_ ?_
    · unfold si_call
      dsimp only
      rw [if_pos ⟨rfl, rfl⟩]
      show (match si_ix P h (P.1 + 60) with | some i => _ | none => none) = _
      rw [jix hH (by decide)]
      dsimp only
      rw [(hH.2 60 _ rfl).1]
      rfl
    refine (rw_ok hH 1 z12 (by decide) (by omega)).mono ?_
    rintro rv15 h15 ⟨z15, rfl, hH15, hs15, f15⟩
    show az_X P _ 258 18 ls [.int z15] _ _
    refine jx_retz rfl rfl rfl (jbz (by omega)) ?_
    have hf : ja h15 60 19 = -1000 - p := by rw [f15.2]; omega
    refine ⟨z15, rfl, hH15, hs15.sub (by decide), Or.inr ⟨f15.1, by omega, fun i => ?_⟩⟩
    rw [hf]
    exact pyR_1 (show py hh n (1, 0, 0, p, [], i) = .inr (-1000 - p) by rw [py_1, if_neg (by omega)])
