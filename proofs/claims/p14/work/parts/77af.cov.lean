/-! COVERED -/
set_option maxRecDepth 100000
theorem jmin_ok {P : si_P} {d : Nat} {h : si_H} (a b : Int32) : az_X P d 344 0 (lv_args 0 [.int a, .int b]) [] h (fun rv h' => h' = h ∧ jV rv (if a.toInt ≤ b.toInt then a.toInt else b.toInt)) := by
  refine az_X_step (pc' := 1) (ls' := [(0, .int a), (1, .int b)]) (st' := [.int a]) (h' := h) rfl rfl rfl ?_
  refine az_X_step (pc' := 2) (ls' := [(0, .int a), (1, .int b)]) (st' := [.int b, .int a]) (h' := h) rfl rfl rfl ?_
  refine jx_ic (t := 9) rfl rfl rfl (fun hc2 => ?_) (fun hc2 => ?_)
  · have g2 := jc2_gt_t hc2
    refine az_X_step (pc' := 10) (ls' := [(0, .int a), (1, .int b)]) (st' := [.int b]) (h' := h) rfl rfl rfl ?_
    refine jx_ret rfl rfl rfl ?_
    exact ⟨rfl, b, rfl, by split <;> omega⟩
  · have g2 := jc2_gt_f hc2
    refine az_X_step (pc' := 6) (ls' := [(0, .int a), (1, .int b)]) (st' := [.int a]) (h' := h) rfl rfl rfl ?_
    refine az_X_step (pc' := 10) (ls' := [(0, .int a), (1, .int b)]) (st' := [.int a]) (h' := h) rfl rfl rfl ?_
    refine jx_ret rfl rfl rfl ?_
    exact ⟨rfl, a, rfl, by split <;> omega⟩
theorem capart_ok {P : si_P} {d : Nat} {h : si_H} (hH : az_HI P az_tb h) (t : Int32) (h0 : 0 ≤ t.toInt) (h1 : t.toInt < ja h 1 0 * ja h 1 1) : az_X P (d + 2) 80 0 (lv_args 0 [.ref (P.1 + 1), .int t]) [] h (fun rv h' => h' = h ∧ jV rv (jap (ja h 1 0) (t.toInt % ja h 1 0) (t.toInt / ja h 1 1))) := by
  obtain ⟨⟨M, hM, eM⟩, bM⟩ := jt_ok hH (i := 1) (k := 0) rfl
  obtain ⟨⟨R, hR, eR⟩, bR⟩ := jt_ok hH (i := 1) (k := 1) rfl
  have eM' : ja h 1 0 = M.toInt := eM.symm
  have eR' : ja h 1 1 = R.toInt := eR.symm
  have bm : 4 ≤ M.toInt ∧ M.toInt ≤ 60 := by rw [eM]; exact bM
  have br : 2 ≤ R.toInt ∧ R.toInt ≤ 24 := by rw [eR]; exact bR
  rw [eM', eR'] at h1
  obtain ⟨⟨d1, d2⟩, d3, d4⟩ := jdm bm br h0 h1
  refine az_X_step (pc' := 1) (ls' := [(0, .ref (P.1 + 1)), (1, .int t)]) (st' := [.ref (P.1 + 1)]) (h' := h) rfl rfl rfl ?_
  refine az_X_step (pc' := 2) (ls' := [(0, .ref (P.1 + 1)), (1, .int t)]) (st' := [.int t, .ref (P.1 + 1)]) (h' := h) rfl rfl rfl ?_
  refine az_X_call (m' := 77) (as := [.ref (P.1 + 1), .int t]) (rest := []) rfl rfl rfl rfl rfl ?_ ?_
  · unfold si_call
    dsimp only
    rw [if_pos ⟨rfl, rfl⟩]
    show (match si_ix P h (P.1 + 1) with | some i => _ | none => none) = _
    rw [jix hH (by decide)]
    dsimp only
    rw [(hH.2 1 _ rfl).1]
    rfl
  refine (clong_ok hH t).mono ?_
  rintro rv2 h2 ⟨q2, z2, rfl, ez2⟩
  subst h2
  show az_X P _ 80 5 [(0, .ref (P.1 + 1)), (1, .int t)] [.int z2] _ _
  refine az_X_step (pc' := 6) (ls' := [(0, .ref (P.1 + 1)), (1, .int t)]) (st' := [.ref (P.1 + 1), .int z2]) (h' := h) rfl rfl rfl ?_
  refine az_X_step (pc' := 7) (ls' := [(0, .ref (P.1 + 1)), (1, .int t)]) (st' := [.int t, .ref (P.1 + 1), .int z2]) (h' := h) rfl rfl rfl ?_
  refine az_X_call (m' := 76) (as := [.ref (P.1 + 1), .int t]) (rest := [.int z2]) rfl rfl rfl rfl rfl ?_ ?_
  · unfold si_call
    dsimp only
    rw [if_pos ⟨rfl, rfl⟩]
    show (match si_ix P h (P.1 + 1) with | some i => _ | none => none) = _
    rw [jix hH (by decide)]
    dsimp only
    rw [(hH.2 1 _ rfl).1]
    rfl
  refine (cshort_ok hH t h0).mono ?_
  rintro rv7 h7 ⟨q7, z7, rfl, ez7⟩
  subst h7
  show az_X P _ 80 10 [(0, .ref (P.1 + 1)), (1, .int t)] [.int z7, .int z2] _ _
  refine az_X_step (pc' := 11) (ls' := [(0, .ref (P.1 + 1)), (1, .int t)]) (st' := [.int (z2 - z7)]) (h' := h) rfl rfl rfl ?_
  refine az_X_step (pc' := 12) (ls' := [(0, .ref (P.1 + 1)), (1, .int t)]) (st' := [.ref (P.1 + 1), .int (z2 - z7)]) (h' := h) rfl rfl rfl ?_
  refine jx_gf (i := 1) rfl rfl hH (by decide) (hH.2 1 _ rfl).1 rfl hM ?_
  refine az_X_call (m' := 200) (as := [.int (z2 - z7), .int M]) (rest := []) rfl rfl rfl rfl rfl rfl ?_
  have e0 : (z2 - z7).toInt = z2.toInt - z7.toInt := by
    rw [eM'] at ez2
    rw [eR'] at ez7
    exact nm_sub (by omega) (by omega)
  refine (modulo_ok (z2 - z7) M (by omega)).mono ?_
  rintro rv15 h15 ⟨q15, z15, rfl, ez15⟩
  subst h15
  show az_X P _ 80 18 [(0, .ref (P.1 + 1)), (1, .int t)] [.int z15] _ _
  refine az_X_step (pc' := 19) (ls' := [(2, .int z15), (0, .ref (P.1 + 1)), (1, .int t)]) (st' := []) (h' := h) rfl rfl rfl ?_
  refine az_X_step (pc' := 20) (ls' := [(2, .int z15), (0, .ref (P.1 + 1)), (1, .int t)]) (st' := [.int z15]) (h' := h) rfl rfl rfl ?_
  refine az_X_step (pc' := 21) (ls' := [(2, .int z15), (0, .ref (P.1 + 1)), (1, .int t)]) (st' := [.ref (P.1 + 1), .int z15]) (h' := h) rfl rfl rfl ?_
  refine jx_gf (i := 1) rfl rfl hH (by decide) (hH.2 1 _ rfl).1 rfl hM ?_
  refine az_X_step (pc' := 25) (ls' := [(2, .int z15), (0, .ref (P.1 + 1)), (1, .int t)]) (st' := [.int z15, .int M, .int z15]) (h' := h) rfl rfl rfl ?_
  refine az_X_step (pc' := 26) (ls' := [(2, .int z15), (0, .ref (P.1 + 1)), (1, .int t)]) (st' := [.int (M - z15), .int z15]) (h' := h) rfl rfl rfl ?_
  refine az_X_call (m' := 344) (as := [.int z15, .int (M - z15)]) (rest := []) rfl rfl rfl rfl rfl rfl ?_
  have j1 := Int.emod_nonneg (z2 - z7).toInt (show M.toInt ≠ 0 by omega)
  have j2 := Int.emod_lt_of_pos (z2 - z7).toInt (show 0 < M.toInt by omega)
  have e1 : (M - z15).toInt = M.toInt - z15.toInt := nm_sub (by omega) (by omega)
  refine (jmin_ok z15 (M - z15)).mono ?_
  rintro rv26 h26 ⟨q26, z26, rfl, ez26⟩
  subst h26
  show az_X P _ 80 29 [(2, .int z15), (0, .ref (P.1 + 1)), (1, .int t)] [.int z26] _ _
  refine jx_ret rfl rfl rfl ?_
  exact ⟨rfl, z26, rfl, by
    rw [eM'] at ez2
    rw [eR'] at ez7
    rw [eM', eR', ez26, e1, ez15, e0, ez2, ez7]
    have k := jems (a := t.toInt % M.toInt - t.toInt / R.toInt) (b := M.toInt) (by omega) (by omega)
    unfold jap
    rcases Int.lt_or_le (t.toInt % M.toInt - t.toInt / R.toInt) 0 with q | q
    · rw [k.2 q]
      repeat' split
      all_goals omega
    · rw [k.1 q]
      repeat' split
      all_goals omega⟩
theorem cround_ok {P : si_P} {d : Nat} {h : si_H} (hH : az_HI P az_tb h) : az_X P d 73 0 (lv_args 0 [.ref (P.1 + 1)]) [] h (fun rv h' => h' = h ∧ jV rv (ja h 1 0 * ja h 1 1)) := by
  obtain ⟨⟨M, hM, eM⟩, bM⟩ := jt_ok hH (i := 1) (k := 0) rfl
  obtain ⟨⟨R, hR, eR⟩, bR⟩ := jt_ok hH (i := 1) (k := 1) rfl
  have eM' : ja h 1 0 = M.toInt := eM.symm
  have eR' : ja h 1 1 = R.toInt := eR.symm
  have bm : 4 ≤ M.toInt ∧ M.toInt ≤ 60 := by rw [eM]; exact bM
  have br : 2 ≤ R.toInt ∧ R.toInt ≤ 24 := by rw [eR]; exact bR
  rw [eM', eR']
  have bp := nm_mulnn (a := 4) (b := 60) (c := 2) (d := 24) (x := M.toInt) (y := R.toInt) (by decide) (by decide) bm.1 bm.2 br.1 br.2
  refine az_X_step (pc' := 1) (ls' := [(0, .ref (P.1 + 1))]) (st' := [.ref (P.1 + 1)]) (h' := h) rfl rfl rfl ?_
  refine jx_gf (i := 1) rfl rfl hH (by decide) (hH.2 1 _ rfl).1 rfl hM ?_
  refine az_X_step (pc' := 5) (ls' := [(0, .ref (P.1 + 1))]) (st' := [.ref (P.1 + 1), .int M]) (h' := h) rfl rfl rfl ?_
  refine jx_gf (i := 1) rfl rfl hH (by decide) (hH.2 1 _ rfl).1 rfl hR ?_
  refine az_X_step (pc' := 9) (ls' := [(0, .ref (P.1 + 1))]) (st' := [.int (M * R)]) (h' := h) rfl rfl rfl ?_
  refine jx_ret rfl rfl rfl ?_
  exact ⟨rfl, M * R, rfl, nm_mul (by omega) (by omega)⟩
theorem caround_ok {P : si_P} {d : Nat} {h : si_H} (hH : az_HI P az_tb h) (t : Int32) : az_X P (d + 1) 75 0 (lv_args 0 [.ref (P.1 + 1), .int t]) [] h (fun rv h' => h' = h ∧ jV rv (t.toInt % (ja h 1 0 * ja h 1 1))) := by
  obtain ⟨⟨M, hM, eM⟩, bM⟩ := jt_ok hH (i := 1) (k := 0) rfl
  obtain ⟨⟨R, hR, eR⟩, bR⟩ := jt_ok hH (i := 1) (k := 1) rfl
  have eM' : ja h 1 0 = M.toInt := eM.symm
  have eR' : ja h 1 1 = R.toInt := eR.symm
  have bm : 4 ≤ M.toInt ∧ M.toInt ≤ 60 := by rw [eM]; exact bM
  have br : 2 ≤ R.toInt ∧ R.toInt ≤ 24 := by rw [eR]; exact bR
  rw [eM', eR']
  have bp := nm_mulnn (a := 4) (b := 60) (c := 2) (d := 24) (x := M.toInt) (y := R.toInt) (by decide) (by decide) bm.1 bm.2 br.1 br.2
  have ep : (M * R).toInt = M.toInt * R.toInt := nm_mul (by omega) (by omega)
  refine az_X_step (pc' := 1) (ls' := [(0, .ref (P.1 + 1)), (1, .int t)]) (st' := [.int t]) (h' := h) rfl rfl rfl ?_
  refine az_X_step (pc' := 2) (ls' := [(0, .ref (P.1 + 1)), (1, .int t)]) (st' := [.ref (P.1 + 1), .int t]) (h' := h) rfl rfl rfl ?_
  refine jx_gf (i := 1) rfl rfl hH (by decide) (hH.2 1 _ rfl).1 rfl hM ?_
  refine az_X_step (pc' := 6) (ls' := [(0, .ref (P.1 + 1)), (1, .int t)]) (st' := [.ref (P.1 + 1), .int M, .int t]) (h' := h) rfl rfl rfl ?_
  refine jx_gf (i := 1) rfl rfl hH (by decide) (hH.2 1 _ rfl).1 rfl hR ?_
  refine az_X_step (pc' := 10) (ls' := [(0, .ref (P.1 + 1)), (1, .int t)]) (st' := [.int (M * R), .int t]) (h' := h) rfl rfl rfl ?_
  refine az_X_call (m' := 200) (as := [.int t, .int (M * R)]) (rest := []) rfl rfl rfl rfl rfl rfl ?_
  refine (modulo_ok t (M * R) (by omega)).mono ?_
  rintro rv10 h10 ⟨q10, z10, rfl, ez10⟩
  subst h10
  show az_X P _ 75 13 [(0, .ref (P.1 + 1)), (1, .int t)] [.int z10] _ _
  refine jx_ret rfl rfl rfl ?_
  exact ⟨rfl, z10, rfl, by rw [← ep]; exact ez10⟩
/-- the hands are on each other -/
def jcv (m r : Int) (t : Int) : Prop := t % m = t / r
theorem jap0 {m l s : Int} (hl : 0 ≤ l ∧ l < m) (hs : 0 ≤ s ∧ s < m) : jap m l s = 0 ↔ l = s := by
  unfold jap
  repeat' split
  all_goals omega
/-- from a on round y: the first with something -/
def jfr1 (p : Int → Prop) (a y z : Int) : Prop := ∃ k : Nat, (k : Int) < y ∧ z = (a + k) % y ∧ p z ∧ ∀ j : Nat, j < k → ¬ p ((a + j) % y)
theorem jfr1_un {p : Int → Prop} {a y z w : Int} (h1 : jfr1 p a y z) (h2 : jfr1 p a y w) : z = w := by
  obtain ⟨k, a1, rfl, a2, a3⟩ := h1
  obtain ⟨l, b1, rfl, b2, b3⟩ := h2
  rcases Nat.lt_trichotomy k l with h | h | h
  · exact absurd a2 (b3 k h)
  · rw [h]
  · exact absurd b2 (a3 l h)
theorem jcv0 {m r : Int} : jcv m r 0 := by
  unfold jcv
  rw [Int.zero_emod, Int.zero_ediv]
theorem jrnd {a y : Int} (ha : 0 ≤ a ∧ a < y) : (a + (y - a) % y) % y = 0 := by
  rw [Int.add_emod, Int.emod_emod_of_dvd _ (Int.dvd_refl y), ← Int.add_emod, show a + (y - a) = y by omega, Int.emod_self]
theorem ncl {P : si_P} {d : Nat} {h : si_H} (hH : az_HI P az_tb h) (a Y : Int32) (hY : Y.toInt = ja h 1 0 * ja h 1 1) (hY2 : Y.toInt ≤ 1440) (ha : 0 ≤ a.toInt ∧ a.toInt < Y.toInt) : ∀ (k n : Nat) (T : Int32) (E : List (Nat × Value)), (E = [] ∨ ∃ L : Int32, E = [(4, .int L)]) → T.toInt = n → (n : Int) + k = Y.toInt → (∀ j : Nat, j < n → ¬ jcv (ja h 1 0) (ja h 1 1) ((a.toInt + j) % Y.toInt)) → az_X P (d + 3) 116 10 ((3, .int T) :: (E ++ [(2, .int Y), (0, .ref (P.1 + 3)), (1, .int a)])) [] h (fun rv h' => h' = h ∧ ∃ z : Int32, rv = some (.int z) ∧ jfr1 (jcv (ja h 1 0) (ja h 1 1)) a.toInt Y.toInt z.toInt) := by
  have bm : 4 ≤ ja h 1 0 ∧ ja h 1 0 ≤ 60 := ja_bd hH (i := 1) (k := 0) rfl
  have br : 2 ≤ ja h 1 1 ∧ ja h 1 1 ≤ 24 := ja_bd hH (i := 1) (k := 1) rfl
  have z1 : (1 : Int32).toInt = 1 := by decide
  have g1 := Int.emod_nonneg (Y.toInt - a.toInt) (show Y.toInt ≠ 0 by omega)
  have g2 := Int.emod_lt_of_pos (Y.toInt - a.toInt) (show 0 < Y.toInt by omega)
  intro k
  induction k with
  | zero =>
    intro n T E hE hT hn hj
    exfalso
    refine hj ((Y.toInt - a.toInt) % Y.toInt).toNat (by omega) ?_
    rw [Int.toNat_of_nonneg g1, jrnd ha]
    exact jcv0
  | succ k ih =>
    intro n T E hE hT hn hj
    have e1 : (a + T).toInt = a.toInt + n := by rw [nm_add (by omega) (by omega), hT]
    have b1 := Int.emod_nonneg (a.toInt + n) (show Y.toInt ≠ 0 by omega)
    have b2 := Int.emod_lt_of_pos (a.toInt + n) (show 0 < Y.toInt by omega)
    have nxt : ∀ L : Int32, ¬ jcv (ja h 1 0) (ja h 1 1) ((a.toInt + n) % Y.toInt) → az_X P (d + 3) 116 10 [(3, .int (T + 1)), (4, .int L), (2, .int Y), (0, .ref (P.1 + 3)), (1, .int a)] [] h (fun rv h' => h' = h ∧ ∃ z : Int32, rv = some (.int z) ∧ jfr1 (jcv (ja h 1 0) (ja h 1 1)) a.toInt Y.toInt z.toInt) := by
      intro L hp
      refine ih (n + 1) (T + 1) [(4, .int L)] (Or.inr ⟨L, rfl⟩) (by rw [nm_add (by omega) (by omega)]; omega) (by omega) (fun j hj2 => ?_)
      rcases Nat.lt_or_ge j n with q | q
      · exact hj j q
      · rw [show j = n by omega]
        exact hp
    have fin : ∀ z L : Int32, z.toInt = (a + T).toInt % (ja h 1 0 * ja h 1 1) → L.toInt = jap (ja h 1 0) (z.toInt % ja h 1 0) (z.toInt / ja h 1 1) → (L.toInt = 0 ↔ jcv (ja h 1 0) (ja h 1 1) ((a.toInt + n) % Y.toInt)) ∧ z.toInt = (a.toInt + n) % Y.toInt := by
      intro z L hz hL
      rw [e1, ← hY] at hz
      obtain ⟨d1, d2⟩ := jdm bm br (a := z.toInt) (by omega) (by omega)
      refine ⟨?_, hz⟩
      rw [hL, jap0 d1 d2, hz]
      exact Iff.rfl
    rcases hE with rfl | ⟨L, rfl⟩
    · show az_X P (d + 3) 116 10 [(3, .int T), (2, .int Y), (0, .ref (P.1 + 3)), (1, .int a)] [] h _
      refine az_X_step (pc' := 11) (ls' := [(3, .int T), (2, .int Y), (0, .ref (P.1 + 3)), (1, .int a)]) (st' := [.int T]) (h' := h) rfl rfl rfl ?_
      refine az_X_step (pc' := 12) (ls' := [(3, .int T), (2, .int Y), (0, .ref (P.1 + 3)), (1, .int a)]) (st' := [.int Y, .int T]) (h' := h) rfl rfl rfl ?_
      refine jx_ic (t := 48) rfl rfl rfl (fun hc12 => ?_) (fun hc12 => ?_)
      · have g12 := jc2_ge_t hc12
        refine az_X_step (pc' := 50) (ls' := [(3, .int T), (2, .int Y), (0, .ref (P.1 + 3)), (1, .int a)]) (st' := [.int (-2)]) (h' := h) rfl rfl rfl ?_
        refine jx_ret rfl rfl rfl ?_
        exact absurd hT (by omega)
      · have g12 := jc2_ge_f hc12
        refine az_X_step (pc' := 16) (ls' := [(3, .int T), (2, .int Y), (0, .ref (P.1 + 3)), (1, .int a)]) (st' := [.ref (P.1 + 3)]) (h' := h) rfl rfl rfl ?_
        refine jx_gf (i := 3) rfl rfl hH (by decide) (hH.2 3 _ rfl).1 rfl (jx_rf hH rfl rfl) ?_
        refine az_X_step (pc' := 20) (ls' := [(3, .int T), (2, .int Y), (0, .ref (P.1 + 3)), (1, .int a)]) (st' := [.int a, .ref (P.1 + 1)]) (h' := h) rfl rfl rfl ?_
        refine az_X_step (pc' := 21) (ls' := [(3, .int T), (2, .int Y), (0, .ref (P.1 + 3)), (1, .int a)]) (st' := [.int T, .int a, .ref (P.1 + 1)]) (h' := h) rfl rfl rfl ?_
        refine az_X_step (pc' := 22) (ls' := [(3, .int T), (2, .int Y), (0, .ref (P.1 + 3)), (1, .int a)]) (st' := [.int (a + T), .ref (P.1 + 1)]) (h' := h) rfl rfl rfl ?_
        refine az_X_call (m' := 75) (as := [.ref (P.1 + 1), .int (a + T)]) (rest := []) rfl rfl rfl rfl rfl ?_ ?_
        · unfold si_call
          dsimp only
          rw [if_pos ⟨rfl, rfl⟩]
          show (match si_ix P h (P.1 + 1) with | some i => _ | none => none) = _
          rw [jix hH (by decide)]
          dsimp only
          rw [(hH.2 1 _ rfl).1]
          rfl
        refine (caround_ok hH (a + T)).mono ?_
        rintro rv22 h22 ⟨q22, z22, rfl, ez22⟩
        subst h22
        show az_X P _ 116 25 [(3, .int T), (2, .int Y), (0, .ref (P.1 + 3)), (1, .int a)] [.int z22] _ _
        refine az_X_step (pc' := 27) (ls' := [(4, .int z22), (3, .int T), (2, .int Y), (0, .ref (P.1 + 3)), (1, .int a)]) (st' := []) (h' := h) rfl rfl rfl ?_
        refine az_X_step (pc' := 28) (ls' := [(4, .int z22), (3, .int T), (2, .int Y), (0, .ref (P.1 + 3)), (1, .int a)]) (st' := [.ref (P.1 + 3)]) (h' := h) rfl rfl rfl ?_
        refine jx_gf (i := 3) rfl rfl hH (by decide) (hH.2 3 _ rfl).1 rfl (jx_rf hH rfl rfl) ?_
        refine az_X_step (pc' := 33) (ls' := [(4, .int z22), (3, .int T), (2, .int Y), (0, .ref (P.1 + 3)), (1, .int a)]) (st' := [.int z22, .ref (P.1 + 1)]) (h' := h) rfl rfl rfl ?_
        refine az_X_call (m' := 80) (as := [.ref (P.1 + 1), .int z22]) (rest := []) rfl rfl rfl rfl rfl ?_ ?_
        · unfold si_call
          dsimp only
          rw [if_pos ⟨rfl, rfl⟩]
          show (match si_ix P h (P.1 + 1) with | some i => _ | none => none) = _
          rw [jix hH (by decide)]
          dsimp only
          rw [(hH.2 1 _ rfl).1]
          rfl
        refine (capart_ok hH z22 (by rw [e1, ← hY] at ez22; omega) (by rw [e1, ← hY] at ez22; omega)).mono ?_
        rintro rv33 h33 ⟨q33, z33, rfl, ez33⟩
        subst h33
        show az_X P _ 116 36 [(4, .int z22), (3, .int T), (2, .int Y), (0, .ref (P.1 + 3)), (1, .int a)] [.int z33] _ _
        refine jx_if (t := 42) rfl rfl rfl (fun hc36 => ?_) (fun hc36 => ?_)
        · have g36 := jc1_ne_t hc36
          refine az_X_step (pc' := 45) (ls' := [(3, .int (T + 1)), (4, .int z22), (2, .int Y), (0, .ref (P.1 + 3)), (1, .int a)]) (st' := []) (h' := h) rfl rfl rfl ?_
          refine az_X_step (pc' := 10) (ls' := [(3, .int (T + 1)), (4, .int z22), (2, .int Y), (0, .ref (P.1 + 3)), (1, .int a)]) (st' := []) (h' := h) rfl rfl rfl ?_
          obtain ⟨f1, f2⟩ := fin z22 z33 ez22 ez33
          exact nxt z22 (fun hp => g36 (f1.mpr hp))
        · have g36 := jc1_ne_f hc36
          refine az_X_step (pc' := 41) (ls' := [(4, .int z22), (3, .int T), (2, .int Y), (0, .ref (P.1 + 3)), (1, .int a)]) (st' := [.int z22]) (h' := h) rfl rfl rfl ?_
          refine jx_ret rfl rfl rfl ?_
          obtain ⟨f1, f2⟩ := fin z22 z33 ez22 ez33
          exact ⟨rfl, z22, rfl, n, by omega, f2, by rw [f2]; exact f1.mp g36, hj⟩
    · show az_X P (d + 3) 116 10 [(3, .int T), (4, .int L), (2, .int Y), (0, .ref (P.1 + 3)), (1, .int a)] [] h _
      refine az_X_step (pc' := 11) (ls' := [(3, .int T), (4, .int L), (2, .int Y), (0, .ref (P.1 + 3)), (1, .int a)]) (st' := [.int T]) (h' := h) rfl rfl rfl ?_
      refine az_X_step (pc' := 12) (ls' := [(3, .int T), (4, .int L), (2, .int Y), (0, .ref (P.1 + 3)), (1, .int a)]) (st' := [.int Y, .int T]) (h' := h) rfl rfl rfl ?_
      refine jx_ic (t := 48) rfl rfl rfl (fun hc12 => ?_) (fun hc12 => ?_)
      · have g12 := jc2_ge_t hc12
        refine az_X_step (pc' := 50) (ls' := [(3, .int T), (4, .int L), (2, .int Y), (0, .ref (P.1 + 3)), (1, .int a)]) (st' := [.int (-2)]) (h' := h) rfl rfl rfl ?_
        refine jx_ret rfl rfl rfl ?_
        exact absurd hT (by omega)
      · have g12 := jc2_ge_f hc12
        refine az_X_step (pc' := 16) (ls' := [(3, .int T), (4, .int L), (2, .int Y), (0, .ref (P.1 + 3)), (1, .int a)]) (st' := [.ref (P.1 + 3)]) (h' := h) rfl rfl rfl ?_
        refine jx_gf (i := 3) rfl rfl hH (by decide) (hH.2 3 _ rfl).1 rfl (jx_rf hH rfl rfl) ?_
        refine az_X_step (pc' := 20) (ls' := [(3, .int T), (4, .int L), (2, .int Y), (0, .ref (P.1 + 3)), (1, .int a)]) (st' := [.int a, .ref (P.1 + 1)]) (h' := h) rfl rfl rfl ?_
        refine az_X_step (pc' := 21) (ls' := [(3, .int T), (4, .int L), (2, .int Y), (0, .ref (P.1 + 3)), (1, .int a)]) (st' := [.int T, .int a, .ref (P.1 + 1)]) (h' := h) rfl rfl rfl ?_
        refine az_X_step (pc' := 22) (ls' := [(3, .int T), (4, .int L), (2, .int Y), (0, .ref (P.1 + 3)), (1, .int a)]) (st' := [.int (a + T), .ref (P.1 + 1)]) (h' := h) rfl rfl rfl ?_
        refine az_X_call (m' := 75) (as := [.ref (P.1 + 1), .int (a + T)]) (rest := []) rfl rfl rfl rfl rfl ?_ ?_
        · unfold si_call
          dsimp only
          rw [if_pos ⟨rfl, rfl⟩]
          show (match si_ix P h (P.1 + 1) with | some i => _ | none => none) = _
          rw [jix hH (by decide)]
          dsimp only
          rw [(hH.2 1 _ rfl).1]
          rfl
        refine (caround_ok hH (a + T)).mono ?_
        rintro rv22 h22 ⟨q22, z22, rfl, ez22⟩
        subst h22
        show az_X P _ 116 25 [(3, .int T), (4, .int L), (2, .int Y), (0, .ref (P.1 + 3)), (1, .int a)] [.int z22] _ _
        refine az_X_step (pc' := 27) (ls' := [(4, .int z22), (3, .int T), (2, .int Y), (0, .ref (P.1 + 3)), (1, .int a)]) (st' := []) (h' := h) rfl rfl rfl ?_
        refine az_X_step (pc' := 28) (ls' := [(4, .int z22), (3, .int T), (2, .int Y), (0, .ref (P.1 + 3)), (1, .int a)]) (st' := [.ref (P.1 + 3)]) (h' := h) rfl rfl rfl ?_
        refine jx_gf (i := 3) rfl rfl hH (by decide) (hH.2 3 _ rfl).1 rfl (jx_rf hH rfl rfl) ?_
        refine az_X_step (pc' := 33) (ls' := [(4, .int z22), (3, .int T), (2, .int Y), (0, .ref (P.1 + 3)), (1, .int a)]) (st' := [.int z22, .ref (P.1 + 1)]) (h' := h) rfl rfl rfl ?_
        refine az_X_call (m' := 80) (as := [.ref (P.1 + 1), .int z22]) (rest := []) rfl rfl rfl rfl rfl ?_ ?_
        · unfold si_call
          dsimp only
          rw [if_pos ⟨rfl, rfl⟩]
          show (match si_ix P h (P.1 + 1) with | some i => _ | none => none) = _
          rw [jix hH (by decide)]
          dsimp only
          rw [(hH.2 1 _ rfl).1]
          rfl
        refine (capart_ok hH z22 (by rw [e1, ← hY] at ez22; omega) (by rw [e1, ← hY] at ez22; omega)).mono ?_
        rintro rv33 h33 ⟨q33, z33, rfl, ez33⟩
        subst h33
        show az_X P _ 116 36 [(4, .int z22), (3, .int T), (2, .int Y), (0, .ref (P.1 + 3)), (1, .int a)] [.int z33] _ _
        refine jx_if (t := 42) rfl rfl rfl (fun hc36 => ?_) (fun hc36 => ?_)
        · have g36 := jc1_ne_t hc36
          refine az_X_step (pc' := 45) (ls' := [(3, .int (T + 1)), (4, .int z22), (2, .int Y), (0, .ref (P.1 + 3)), (1, .int a)]) (st' := []) (h' := h) rfl rfl rfl ?_
          refine az_X_step (pc' := 10) (ls' := [(3, .int (T + 1)), (4, .int z22), (2, .int Y), (0, .ref (P.1 + 3)), (1, .int a)]) (st' := []) (h' := h) rfl rfl rfl ?_
          obtain ⟨f1, f2⟩ := fin z22 z33 ez22 ez33
          exact nxt z22 (fun hp => g36 (f1.mpr hp))
        · have g36 := jc1_ne_f hc36
          refine az_X_step (pc' := 41) (ls' := [(4, .int z22), (3, .int T), (2, .int Y), (0, .ref (P.1 + 3)), (1, .int a)]) (st' := [.int z22]) (h' := h) rfl rfl rfl ?_
          refine jx_ret rfl rfl rfl ?_
          obtain ⟨f1, f2⟩ := fin z22 z33 ez22 ez33
          exact ⟨rfl, z22, rfl, n, by omega, f2, by rw [f2]; exact f1.mp g36, hj⟩
theorem ncov_ok {P : si_P} {d : Nat} {h : si_H} (hH : az_HI P az_tb h) (a : Int32) (ha : 0 ≤ a.toInt ∧ a.toInt < ja h 1 0 * ja h 1 1) : az_X P (d + 3) 116 0 (lv_args 0 [.ref (P.1 + 3), .int a]) [] h (fun rv h' => h' = h ∧ ∃ z : Int32, rv = some (.int z) ∧ jfr1 (jcv (ja h 1 0) (ja h 1 1)) a.toInt (ja h 1 0 * ja h 1 1) z.toInt) := by
  have bm : 4 ≤ ja h 1 0 ∧ ja h 1 0 ≤ 60 := ja_bd hH (i := 1) (k := 0) rfl
  have br : 2 ≤ ja h 1 1 ∧ ja h 1 1 ≤ 24 := ja_bd hH (i := 1) (k := 1) rfl
  have bp := nm_mulnn (a := 4) (b := 60) (c := 2) (d := 24) (x := ja h 1 0) (y := ja h 1 1) (by decide) (by decide) bm.1 bm.2 br.1 br.2
  refine az_X_step (pc' := 1) (ls' := [(0, .ref (P.1 + 3)), (1, .int a)]) (st' := [.ref (P.1 + 3)]) (h' := h) rfl rfl rfl ?_
  refine jx_gf (i := 3) rfl rfl hH (by decide) (hH.2 3 _ rfl).1 rfl (jx_rf hH rfl rfl) ?_
  refine az_X_call (m' := 73) (as := [.ref (P.1 + 1)]) (rest := []) rfl rfl rfl rfl rfl ?_ ?_
  · unfold si_call
    dsimp only
    rw [if_pos ⟨rfl, rfl⟩]
    show (match si_ix P h (P.1 + 1) with | some i => _ | none => none) = _
    rw [jix hH (by decide)]
    dsimp only
    rw [(hH.2 1 _ rfl).1]
    rfl
  refine (cround_ok hH).mono ?_
  rintro rv4 h4 ⟨q4, z4, rfl, ez4⟩
  subst h4
  show az_X P _ 116 7 [(0, .ref (P.1 + 3)), (1, .int a)] [.int z4] _ _
  refine az_X_step (pc' := 8) (ls' := [(2, .int z4), (0, .ref (P.1 + 3)), (1, .int a)]) (st' := []) (h' := h) rfl rfl rfl ?_
  refine az_X_step (pc' := 9) (ls' := [(2, .int z4), (0, .ref (P.1 + 3)), (1, .int a)]) (st' := [.int 0]) (h' := h) rfl rfl rfl ?_
  refine az_X_step (pc' := 10) (ls' := [(3, .int 0), (2, .int z4), (0, .ref (P.1 + 3)), (1, .int a)]) (st' := []) (h' := h) rfl rfl rfl ?_
  exact ez4 ▸ ncl hH a z4 ez4 (by omega) (by omega) z4.toInt.toNat 0 0 [] (Or.inl rfl) (by decide) (by omega) (fun j hj => absurd hj (by omega))
/-- what covered answers -/
def jcS_ (m r a z : Int) : Prop := (a = -1 ∧ z = jpc m r 0 (m * r).toNat) ∨ ((0 ≤ a ∧ a < m * r) ∧ jfr1 (jcv m r) a (m * r) z) ∨ ((a < -1 ∨ (0 ≤ a ∧ m * r ≤ a)) ∧ z = -1)
theorem jcS_un {m r a z w : Int} (hp : 0 ≤ m * r) (h1 : jcS_ m r a z) (h2 : jcS_ m r a w) : z = w := by
  rcases h1 with ⟨a1, a2⟩ | ⟨a1, a2⟩ | ⟨a1, a2⟩ <;> rcases h2 with ⟨b1, b2⟩ | ⟨b1, b2⟩ | ⟨b1, b2⟩
  all_goals first
    | exact jfr1_un a2 b2
    | omega
theorem covered0_ok {P : si_P} (hxa : P.2.1 < P.1) {d : Nat} {h : si_H} (hH : az_HI P az_tb h) (a : Int32) : az_X P (d + 7) 156 0 (lv_args 0 [.ref (P.1 + 0), .int a]) [] h (fun rv h' => h' = h ∧ ∃ z : Int32, rv = some (.int z) ∧ jcS_ (ja h 1 0) (ja h 1 1) a.toInt z.toInt) := by
  have bm : 4 ≤ ja h 1 0 ∧ ja h 1 0 ≤ 60 := ja_bd hH (i := 1) (k := 0) rfl
  have br : 2 ≤ ja h 1 1 ∧ ja h 1 1 ≤ 24 := ja_bd hH (i := 1) (k := 1) rfl
  have bp := nm_mulnn (a := 4) (b := 60) (c := 2) (d := 24) (x := ja h 1 0) (y := ja h 1 1) (by decide) (by decide) bm.1 bm.2 br.1 br.2
  have zn : (-1 : Int32).toInt = -1 := by decide
  refine az_X_step (pc' := 1) (ls' := [(0, .ref (P.1 + 0)), (1, .int a)]) (st' := [.int a]) (h' := h) rfl rfl rfl ?_
  refine az_X_step (pc' := 2) (ls' := [(0, .ref (P.1 + 0)), (1, .int a)]) (st' := [.int (-1), .int a]) (h' := h) rfl rfl rfl ?_
  refine jx_ic (t := 14) rfl rfl rfl (fun hc2 => ?_) (fun hc2 => ?_)
  · have g2 := jc2_ne_t hc2
    refine az_X_step (pc' := 15) (ls' := [(0, .ref (P.1 + 0)), (1, .int a)]) (st' := [.ref (P.1 + 0)]) (h' := h) rfl rfl rfl ?_
    refine jx_gf (i := 0) rfl rfl hH (by decide) (hH.2 0 _ rfl).1 rfl (jx_rf hH rfl rfl) ?_
    refine az_X_step (pc' := 19) (ls' := [(0, .ref (P.1 + 0)), (1, .int a)]) (st' := [.int a, .ref (P.1 + 1)]) (h' := h) rfl rfl rfl ?_
    refine az_X_call (m' := 74) (as := [.ref (P.1 + 1), .int a]) (rest := []) rfl rfl rfl rfl rfl ?_ ?_
    · unfold si_call
      dsimp only
      rw [if_pos ⟨rfl, rfl⟩]
      show (match si_ix P h (P.1 + 1) with | some i => _ | none => none) = _
      rw [jix hH (by decide)]
      dsimp only
      rw [(hH.2 1 _ rfl).1]
      rfl
    refine (istime0_ok hH a).mono ?_
    rintro rv19 h19 ⟨q19, z19, rfl, ez19⟩
    subst h19
    show az_X P _ 156 22 [(0, .ref (P.1 + 0)), (1, .int a)] [.int z19] _ _
    refine jx_if (t := 36) rfl rfl rfl (fun hc22 => ?_) (fun hc22 => ?_)
    · have g22 := jc1_eq_t hc22
      refine az_X_step (pc' := 37) (ls' := [(0, .ref (P.1 + 0)), (1, .int a)]) (st' := [.int (-1)]) (h' := h) rfl rfl rfl ?_
      refine jx_ret rfl rfl rfl ?_
      exact ⟨rfl, -1, rfl, Or.inr (Or.inr ⟨by omega, zn⟩)⟩
    · have g22 := jc1_eq_f hc22
      refine az_X_step (pc' := 26) (ls' := [(0, .ref (P.1 + 0)), (1, .int a)]) (st' := [.ref (P.1 + 0)]) (h' := h) rfl rfl rfl ?_
      refine jx_gf (i := 0) rfl rfl hH (by decide) (hH.2 0 _ rfl).1 rfl (jx_rf hH rfl rfl) ?_
      refine az_X_step (pc' := 30) (ls' := [(0, .ref (P.1 + 0)), (1, .int a)]) (st' := [.int a, .ref (P.1 + 3)]) (h' := h) rfl rfl rfl ?_
      refine az_X_call (m' := 116) (as := [.ref (P.1 + 3), .int a]) (rest := []) rfl rfl rfl rfl rfl ?_ ?_
      · unfold si_call
        dsimp only
        rw [if_pos ⟨rfl, rfl⟩]
        show (match si_ix P h (P.1 + 3) with | some i => _ | none => none) = _
        rw [jix hH (by decide)]
        dsimp only
        rw [(hH.2 3 _ rfl).1]
        rfl
      refine (ncov_ok (d := d + 3) hH a (by omega)).mono ?_
      rintro rv30 h30 ⟨q30, z30, rfl, ez30⟩
      subst h30
      show az_X P _ 156 33 [(0, .ref (P.1 + 0)), (1, .int a)] [.int z30] _ _
      refine az_X_step (pc' := 37) (ls' := [(0, .ref (P.1 + 0)), (1, .int a)]) (st' := [.int z30]) (h' := h) rfl rfl rfl ?_
      refine jx_ret rfl rfl rfl ?_
      exact ⟨rfl, z30, rfl, Or.inr (Or.inl ⟨by omega, ez30⟩)⟩
  · have g2 := jc2_ne_f hc2
    refine az_X_step (pc' := 6) (ls' := [(0, .ref (P.1 + 0)), (1, .int a)]) (st' := [.ref (P.1 + 0)]) (h' := h) rfl rfl rfl ?_
    refine jx_gf (i := 0) rfl rfl hH (by decide) (hH.2 0 _ rfl).1 rfl (jx_rf hH rfl rfl) ?_
    refine az_X_step (pc' := 10) (ls' := [(0, .ref (P.1 + 0)), (1, .int a)]) (st' := [.int 0, .ref (P.1 + 3)]) (h' := h) rfl rfl rfl ?_
    refine az_X_call (m' := 117) (as := [.ref (P.1 + 3), .int 0]) (rest := []) rfl rfl rfl rfl rfl ?_ ?_
    · unfold si_call
      dsimp only
      rw [if_pos ⟨rfl, rfl⟩]
      show (match si_ix P h (P.1 + 3) with | some i => _ | none => none) = _
      rw [jix hH (by decide)]
      dsimp only
      rw [(hH.2 3 _ rfl).1]
      rfl
    refine (apm_ok hxa (by omega) (k := 0) (by decide) hH (ls := lv_args 0 [.ref (P.1 + 3), .int 0]) rfl ⟨0, rfl, by decide⟩).mono ?_
    rintro rv10 h10 ⟨q10, z10, rfl, ez10⟩
    subst h10
    show az_X P _ 156 13 [(0, .ref (P.1 + 0)), (1, .int a)] [.int z10] _ _
    refine jx_ret rfl rfl rfl ?_
    exact ⟨rfl, z10, rfl, Or.inl ⟨by omega, ez10⟩⟩
theorem rcn {P : si_P} {d : Nat} {h : si_H} (hH : az_HI P az_tb h) (a : Int32) {y : Nat} (hy : ja h 60 9 = y) (hp : ja h 60 7 * ja h 60 8 = y) : ∀ (k n : Nat) (T N : Int32), T.toInt = n → n + k = y → N.toInt = jpc (ja h 60 7) (ja h 60 8) 0 n → az_X P (d + 1) 235 24 [(3, .int T), (2, .int N), (0, .ref (P.1 + 60)), (1, .int a)] [] h (fun rv h' => h' = h ∧ jV rv (jpc (ja h 60 7) (ja h 60 8) 0 y)) := by
  have bm : 4 ≤ ja h 60 7 ∧ ja h 60 7 ≤ 60 := ja_bd hH (i := 60) (k := 7) rfl
  have br : 2 ≤ ja h 60 8 ∧ ja h 60 8 ≤ 24 := ja_bd hH (i := 60) (k := 8) rfl
  obtain ⟨⟨Y, hY, eY⟩, bY⟩ := jt_ok hH (i := 60) (k := 9) rfl
  have eY' : Y.toInt = y := by rw [eY]; exact hy
  have bY1 : 8 ≤ ji h 60 9 ∧ ji h 60 9 ≤ 1440 := bY
  have z1 : (1 : Int32).toInt = 1 := by decide
  intro k
  induction k with
  | zero =>
    intro n T N hT hn hN
    have hny : n = y := by omega
    subst hny
    refine az_X_step (pc' := 25) (ls' := [(3, .int T), (2, .int N), (0, .ref (P.1 + 60)), (1, .int a)]) (st' := [.int T]) (h' := h) rfl rfl rfl ?_
    refine az_X_step (pc' := 26) (ls' := [(3, .int T), (2, .int N), (0, .ref (P.1 + 60)), (1, .int a)]) (st' := [.ref (P.1 + 60), .int T]) (h' := h) rfl rfl rfl ?_
    refine jx_gf (i := 60) rfl rfl hH (by decide) (hH.2 60 _ rfl).1 rfl hY ?_
    refine jx_ic (t := 55) rfl rfl rfl (fun hc29 => ?_) (fun hc29 => ?_)
    · have g29 := jc2_ge_t hc29
      refine az_X_step (pc' := 56) (ls' := [(3, .int T), (2, .int N), (0, .ref (P.1 + 60)), (1, .int a)]) (st' := [.int N]) (h' := h) rfl rfl rfl ?_
      refine jx_ret rfl rfl rfl ?_
      exact ⟨rfl, N, rfl, hN⟩
    · have g29 := jc2_ge_f hc29
      exact absurd hT (by omega)
  | succ k ih =>
    intro n T N hT hn hN
    have bd := jpc_bd (ja h 60 7) (ja h 60 8) 0 n
    obtain ⟨d1, d2⟩ := jdm bm br (a := (n : Int)) (by omega) (by omega)
    have nn := jap0 d1 d2
    have eT : (T + 1).toInt = (n + 1 : Nat) := by rw [nm_add (by omega) (by omega)]; omega
    refine az_X_step (pc' := 25) (ls' := [(3, .int T), (2, .int N), (0, .ref (P.1 + 60)), (1, .int a)]) (st' := [.int T]) (h' := h) rfl rfl rfl ?_
    refine az_X_step (pc' := 26) (ls' := [(3, .int T), (2, .int N), (0, .ref (P.1 + 60)), (1, .int a)]) (st' := [.ref (P.1 + 60), .int T]) (h' := h) rfl rfl rfl ?_
    refine jx_gf (i := 60) rfl rfl hH (by decide) (hH.2 60 _ rfl).1 rfl hY ?_
    refine jx_ic (t := 55) rfl rfl rfl (fun hc29 => ?_) (fun hc29 => ?_)
    · have g29 := jc2_ge_t hc29
      refine az_X_step (pc' := 56) (ls' := [(3, .int T), (2, .int N), (0, .ref (P.1 + 60)), (1, .int a)]) (st' := [.int N]) (h' := h) rfl rfl rfl ?_
      refine jx_ret rfl rfl rfl ?_
      exact absurd hT (by omega)
    · have g29 := jc2_ge_f hc29
      refine az_X_step (pc' := 33) (ls' := [(3, .int T), (2, .int N), (0, .ref (P.1 + 60)), (1, .int a)]) (st' := [.ref (P.1 + 60)]) (h' := h) rfl rfl rfl ?_
      refine az_X_step (pc' := 34) (ls' := [(3, .int T), (2, .int N), (0, .ref (P.1 + 60)), (1, .int a)]) (st' := [.int T, .ref (P.1 + 60)]) (h' := h) rfl rfl rfl ?_
      refine az_X_call (m' := 215) (as := [.ref (P.1 + 60), .int T]) (rest := []) rfl rfl rfl rfl rfl ?_ ?_
      · unfold si_call
        dsimp only
        rw [if_pos ⟨rfl, rfl⟩]
        show (match si_ix P h (P.1 + 60) with | some i => _ | none => none) = _
        rw [jix hH (by decide)]
        dsimp only
        rw [(hH.2 60 _ rfl).1]
        rfl
      refine (rlong_ok hH T (by omega)).mono ?_
      rintro rv34 h34 ⟨q34, z34, rfl, ez34⟩
      subst h34
      show az_X P _ 235 37 [(3, .int T), (2, .int N), (0, .ref (P.1 + 60)), (1, .int a)] [.int z34] _ _
      refine az_X_step (pc' := 38) (ls' := [(3, .int T), (2, .int N), (0, .ref (P.1 + 60)), (1, .int a)]) (st' := [.ref (P.1 + 60), .int z34]) (h' := h) rfl rfl rfl ?_
      refine az_X_step (pc' := 39) (ls' := [(3, .int T), (2, .int N), (0, .ref (P.1 + 60)), (1, .int a)]) (st' := [.int T, .ref (P.1 + 60), .int z34]) (h' := h) rfl rfl rfl ?_
      refine az_X_call (m' := 216) (as := [.ref (P.1 + 60), .int T]) (rest := [.int z34]) rfl rfl rfl rfl rfl ?_ ?_
      · unfold si_call
        dsimp only
        rw [if_pos ⟨rfl, rfl⟩]
        show (match si_ix P h (P.1 + 60) with | some i => _ | none => none) = _
        rw [jix hH (by decide)]
        dsimp only
        rw [(hH.2 60 _ rfl).1]
        rfl
      refine (rshort_ok hH T (by omega)).mono ?_
      rintro rv39 h39 ⟨q39, z39, rfl, ez39⟩
      subst h39
      show az_X P _ 235 42 [(3, .int T), (2, .int N), (0, .ref (P.1 + 60)), (1, .int a)] [.int z39, .int z34] _ _
      refine jx_ic (t := 49) rfl rfl rfl (fun hc42 => ?_) (fun hc42 => ?_)
      · have g42 := jc2_ne_t hc42
        refine az_X_step (pc' := 52) (ls' := [(3, .int (T + 1)), (2, .int N), (0, .ref (P.1 + 60)), (1, .int a)]) (st' := []) (h' := h) rfl rfl rfl ?_
        refine az_X_step (pc' := 24) (ls' := [(3, .int (T + 1)), (2, .int N), (0, .ref (P.1 + 60)), (1, .int a)]) (st' := []) (h' := h) rfl rfl rfl ?_
        rw [ez34, ez39, hT] at g42
        exact ih (n + 1) (T + 1) N eT (by omega) (by
          unfold jpc
          rw [if_neg (fun e => g42 (nn.mp e)), hN]
          omega)
      · have g42 := jc2_ne_f hc42
        refine az_X_step (pc' := 46) (ls' := [(3, .int T), (2, .int N), (0, .ref (P.1 + 60)), (1, .int a)]) (st' := [.int N]) (h' := h) rfl rfl rfl ?_
        refine az_X_step (pc' := 47) (ls' := [(3, .int T), (2, .int N), (0, .ref (P.1 + 60)), (1, .int a)]) (st' := [.int 1, .int N]) (h' := h) rfl rfl rfl ?_
        refine az_X_step (pc' := 48) (ls' := [(3, .int T), (2, .int N), (0, .ref (P.1 + 60)), (1, .int a)]) (st' := [.int (N + 1)]) (h' := h) rfl rfl rfl ?_
        refine az_X_step (pc' := 49) (ls' := [(2, .int (N + 1)), (3, .int T), (0, .ref (P.1 + 60)), (1, .int a)]) (st' := []) (h' := h) rfl rfl rfl ?_
        refine az_X_step (pc' := 52) (ls' := [(3, .int (T + 1)), (2, .int (N + 1)), (0, .ref (P.1 + 60)), (1, .int a)]) (st' := []) (h' := h) rfl rfl rfl ?_
        refine az_X_step (pc' := 24) (ls' := [(3, .int (T + 1)), (2, .int (N + 1)), (0, .ref (P.1 + 60)), (1, .int a)]) (st' := []) (h' := h) rfl rfl rfl ?_
        rw [ez34, ez39, hT] at g42
        exact ih (n + 1) (T + 1) (N + 1) eT (by omega) (by
          unfold jpc
          rw [if_pos (nn.mpr g42), nm_add (by omega) (by omega), hN, z1])
theorem rcw {P : si_P} {d : Nat} {h : si_H} (hH : az_HI P az_tb h) (a B : Int32) {y : Int} (hy : ja h 60 9 = y) (ha : 0 ≤ a.toInt ∧ a.toInt < y) : ∀ (k n : Nat) (T : Int32), T.toInt = (a.toInt + n) % y → (n : Int) + k = y → (∀ j : Nat, j < n → ¬ jcv (ja h 60 7) (ja h 60 8) ((a.toInt + j) % y)) → az_X P (d + 1) 235 59 [(3, .int T), (2, .int B), (0, .ref (P.1 + 60)), (1, .int a)] [] h (fun rv h' => h' = h ∧ ∃ z : Int32, rv = some (.int z) ∧ jfr1 (jcv (ja h 60 7) (ja h 60 8)) a.toInt y z.toInt) := by
  obtain ⟨⟨Y, hY, eY⟩, bY⟩ := jt_ok hH (i := 60) (k := 9) rfl
  have eY' : Y.toInt = y := by rw [eY]; exact hy
  have bY1 : 8 ≤ ji h 60 9 ∧ ji h 60 9 ≤ 1440 := bY
  have z1 : (1 : Int32).toInt = 1 := by decide
  have z0 : (0 : Int32).toInt = 0 := by decide
  have hY0 : Y ≠ 0 := fun e => by rw [e, z0] at eY; omega
  have g1 := Int.emod_nonneg (y - a.toInt) (show y ≠ 0 by omega)
  have g2 := Int.emod_lt_of_pos (y - a.toInt) (show 0 < y by omega)
  intro k
  induction k with
  | zero =>
    intro n T hT hn hj
    exfalso
    refine hj ((y - a.toInt) % y).toNat (by omega) ?_
    rw [Int.toNat_of_nonneg g1, jrnd ha]
    exact jcv0
  | succ k ih =>
    intro n T hT hn hj
    have b1 := Int.emod_nonneg (a.toInt + n) (show y ≠ 0 by omega)
    have b2 := Int.emod_lt_of_pos (a.toInt + n) (show 0 < y by omega)
    have eT : (T + 1).toInt = (a.toInt + n) % y + 1 := by rw [nm_add (by omega) (by omega)]; omega
    have eM : ((T + 1) - (T + 1) / Y * Y).toInt = (a.toInt + (n + 1 : Nat)) % y := by
      rw [nm_rem (by omega), Int.tmod_eq_emod_of_nonneg (by omega), eT, eY', Int.emod_add_emod]
      congr 1
      omega
    refine az_X_step (pc' := 60) (ls' := [(3, .int T), (2, .int B), (0, .ref (P.1 + 60)), (1, .int a)]) (st' := [.ref (P.1 + 60)]) (h' := h) rfl rfl rfl ?_
    refine az_X_step (pc' := 61) (ls' := [(3, .int T), (2, .int B), (0, .ref (P.1 + 60)), (1, .int a)]) (st' := [.int T, .ref (P.1 + 60)]) (h' := h) rfl rfl rfl ?_
    refine az_X_call (m' := 215) (as := [.ref (P.1 + 60), .int T]) (rest := []) rfl rfl rfl rfl rfl ?_ ?_
    · unfold si_call
      dsimp only
      rw [if_pos ⟨rfl, rfl⟩]
      show (match si_ix P h (P.1 + 60) with | some i => _ | none => none) = _
      rw [jix hH (by decide)]
      dsimp only
      rw [(hH.2 60 _ rfl).1]
      rfl
    refine (rlong_ok hH T (by omega)).mono ?_
    rintro rv61 h61 ⟨q61, z61, rfl, ez61⟩
    subst h61
    show az_X P _ 235 64 [(3, .int T), (2, .int B), (0, .ref (P.1 + 60)), (1, .int a)] [.int z61] _ _
    refine az_X_step (pc' := 65) (ls' := [(3, .int T), (2, .int B), (0, .ref (P.1 + 60)), (1, .int a)]) (st' := [.ref (P.1 + 60), .int z61]) (h' := h) rfl rfl rfl ?_
    refine az_X_step (pc' := 66) (ls' := [(3, .int T), (2, .int B), (0, .ref (P.1 + 60)), (1, .int a)]) (st' := [.int T, .ref (P.1 + 60), .int z61]) (h' := h) rfl rfl rfl ?_
    refine az_X_call (m' := 216) (as := [.ref (P.1 + 60), .int T]) (rest := [.int z61]) rfl rfl rfl rfl rfl ?_ ?_
    · unfold si_call
      dsimp only
      rw [if_pos ⟨rfl, rfl⟩]
      show (match si_ix P h (P.1 + 60) with | some i => _ | none => none) = _
      rw [jix hH (by decide)]
      dsimp only
      rw [(hH.2 60 _ rfl).1]
      rfl
    refine (rshort_ok hH T (by omega)).mono ?_
    rintro rv66 h66 ⟨q66, z66, rfl, ez66⟩
    subst h66
    show az_X P _ 235 69 [(3, .int T), (2, .int B), (0, .ref (P.1 + 60)), (1, .int a)] [.int z66, .int z61] _ _
    refine jx_ic (t := 84) rfl rfl rfl (fun hc69 => ?_) (fun hc69 => ?_)
    · have g69 := jc2_eq_t hc69
      refine az_X_step (pc' := 85) (ls' := [(3, .int T), (2, .int B), (0, .ref (P.1 + 60)), (1, .int a)]) (st' := [.int T]) (h' := h) rfl rfl rfl ?_
      refine jx_ret rfl rfl rfl ?_
      rw [ez61, ez66] at g69
      exact ⟨rfl, T, rfl, n, by omega, hT, g69, hj⟩
    · have g69 := jc2_eq_f hc69
      refine az_X_step (pc' := 73) (ls' := [(3, .int T), (2, .int B), (0, .ref (P.1 + 60)), (1, .int a)]) (st' := [.int T]) (h' := h) rfl rfl rfl ?_
      refine az_X_step (pc' := 74) (ls' := [(3, .int T), (2, .int B), (0, .ref (P.1 + 60)), (1, .int a)]) (st' := [.int 1, .int T]) (h' := h) rfl rfl rfl ?_
      refine az_X_step (pc' := 75) (ls' := [(3, .int T), (2, .int B), (0, .ref (P.1 + 60)), (1, .int a)]) (st' := [.int (T + 1)]) (h' := h) rfl rfl rfl ?_
      refine az_X_step (pc' := 76) (ls' := [(3, .int T), (2, .int B), (0, .ref (P.1 + 60)), (1, .int a)]) (st' := [.ref (P.1 + 60), .int (T + 1)]) (h' := h) rfl rfl rfl ?_
      refine jx_gf (i := 60) rfl rfl hH (by decide) (hH.2 60 _ rfl).1 rfl hY ?_
      refine jx_rem rfl rfl hY0 ?_
      refine az_X_step (pc' := 81) (ls' := [(3, .int ((T + 1) - (T + 1) / Y * Y)), (2, .int B), (0, .ref (P.1 + 60)), (1, .int a)]) (st' := []) (h' := h) rfl rfl rfl ?_
      refine az_X_step (pc' := 59) (ls' := [(3, .int ((T + 1) - (T + 1) / Y * Y)), (2, .int B), (0, .ref (P.1 + 60)), (1, .int a)]) (st' := []) (h' := h) rfl rfl rfl ?_
      rw [ez61, ez66] at g69
      refine ih (n + 1) _ eM (by omega) (fun j hj2 => ?_)
      rcases Nat.lt_or_ge j n with q | q
      · exact hj j q
      · rw [show j = n by omega, ← hT]
        exact g69
theorem covered1_ok {P : si_P} {d : Nat} {h : si_H} (hH : az_HI P az_tb h) (hJ : js_J h) (a : Int32) : az_X P (d + 2) 235 0 (lv_args 0 [.ref (P.1 + 60), .int a]) [] h (fun rv h' => h' = h ∧ ∃ z : Int32, rv = some (.int z) ∧ jcS_ (ja h 60 7) (ja h 60 8) a.toInt z.toInt) := by
  have bY : 8 ≤ ja h 60 9 ∧ ja h 60 9 ≤ 1440 := ja_bd hH (i := 60) (k := 9) rfl
  have hp : ja h 60 9 = ja h 60 7 * ja h 60 8 := hJ.1.1
  have zn : (-1 : Int32).toInt = -1 := by decide
  refine az_X_step (pc' := 1) (ls' := [(0, .ref (P.1 + 60)), (1, .int a)]) (st' := [.int a]) (h' := h) rfl rfl rfl ?_
  refine az_X_step (pc' := 2) (ls' := [(0, .ref (P.1 + 60)), (1, .int a)]) (st' := [.int (-1), .int a]) (h' := h) rfl rfl rfl ?_
  refine jx_ic (t := 15) rfl rfl rfl (fun hc2 => ?_) (fun hc2 => ?_)
  · have g2 := jc2_eq_t hc2
    refine az_X_step (pc' := 16) (ls' := [(0, .ref (P.1 + 60)), (1, .int a)]) (st' := [.int 0]) (h' := h) rfl rfl rfl ?_
    refine az_X_step (pc' := 17) (ls' := [(2, .int 0), (0, .ref (P.1 + 60)), (1, .int a)]) (st' := []) (h' := h) rfl rfl rfl ?_
    refine az_X_step (pc' := 18) (ls' := [(2, .int 0), (0, .ref (P.1 + 60)), (1, .int a)]) (st' := [.int a]) (h' := h) rfl rfl rfl ?_
    refine az_X_step (pc' := 19) (ls' := [(2, .int 0), (0, .ref (P.1 + 60)), (1, .int a)]) (st' := [.int (-1), .int a]) (h' := h) rfl rfl rfl ?_
    refine jx_ic (t := 57) rfl rfl rfl (fun hc19 => ?_) (fun hc19 => ?_)
    · have g19 := jc2_ne_t hc19
      refine az_X_step (pc' := 58) (ls' := [(2, .int 0), (0, .ref (P.1 + 60)), (1, .int a)]) (st' := [.int a]) (h' := h) rfl rfl rfl ?_
      refine az_X_step (pc' := 59) (ls' := [(3, .int a), (2, .int 0), (0, .ref (P.1 + 60)), (1, .int a)]) (st' := []) (h' := h) rfl rfl rfl ?_
      refine (rcw hH a 0 (y := ja h 60 9) rfl (by omega) (ja h 60 9).toNat 0 a (by rw [show a.toInt + ((0 : Nat) : Int) = a.toInt by omega]; exact (Int.emod_eq_of_lt (by omega) (by omega)).symm) (by omega) (fun j hj => absurd hj (by omega))).mono ?_
      rintro rv h1 ⟨rfl, z, rfl, hz⟩
      exact ⟨rfl, z, rfl, Or.inr (Or.inl ⟨by omega, by rw [← hp]; exact hz⟩)⟩
    · have g19 := jc2_ne_f hc19
      refine az_X_step (pc' := 23) (ls' := [(2, .int 0), (0, .ref (P.1 + 60)), (1, .int a)]) (st' := [.int 0]) (h' := h) rfl rfl rfl ?_
      refine az_X_step (pc' := 24) (ls' := [(3, .int 0), (2, .int 0), (0, .ref (P.1 + 60)), (1, .int a)]) (st' := []) (h' := h) rfl rfl rfl ?_
      refine (rcn hH a (y := (ja h 60 9).toNat) (by omega) (by omega) (ja h 60 9).toNat 0 0 0 (by decide) (by omega) (by show (0 : Int32).toInt = 0; decide)).mono ?_
      rintro rv h1 ⟨rfl, z, rfl, hz⟩
      exact ⟨rfl, z, rfl, Or.inl ⟨by omega, by rw [← hp]; exact hz⟩⟩
  · have g2 := jc2_eq_f hc2
    refine az_X_step (pc' := 6) (ls' := [(0, .ref (P.1 + 60)), (1, .int a)]) (st' := [.ref (P.1 + 60)]) (h' := h) rfl rfl rfl ?_
    refine az_X_step (pc' := 7) (ls' := [(0, .ref (P.1 + 60)), (1, .int a)]) (st' := [.int a, .ref (P.1 + 60)]) (h' := h) rfl rfl rfl ?_
    refine az_X_call (m' := 211) (as := [.ref (P.1 + 60), .int a]) (rest := []) rfl rfl rfl rfl rfl ?_ ?_
    · unfold si_call
      dsimp only
      rw [if_pos ⟨rfl, rfl⟩]
      show (match si_ix P h (P.1 + 60) with | some i => _ | none => none) = _
      rw [jix hH (by decide)]
      dsimp only
      rw [(hH.2 60 _ rfl).1]
      rfl
    refine (ristime_ok hH a).mono ?_
    rintro rv7 h7 ⟨q7, z7, rfl, ez7⟩
    subst h7
    show az_X P _ 235 10 [(0, .ref (P.1 + 60)), (1, .int a)] [.int z7] _ _
    refine jx_if (t := 15) rfl rfl rfl (fun hc10 => ?_) (fun hc10 => ?_)
    · have g10 := jc1_ne_t hc10
      refine az_X_step (pc' := 16) (ls' := [(0, .ref (P.1 + 60)), (1, .int a)]) (st' := [.int 0]) (h' := h) rfl rfl rfl ?_
      refine az_X_step (pc' := 17) (ls' := [(2, .int 0), (0, .ref (P.1 + 60)), (1, .int a)]) (st' := []) (h' := h) rfl rfl rfl ?_
      refine az_X_step (pc' := 18) (ls' := [(2, .int 0), (0, .ref (P.1 + 60)), (1, .int a)]) (st' := [.int a]) (h' := h) rfl rfl rfl ?_
      refine az_X_step (pc' := 19) (ls' := [(2, .int 0), (0, .ref (P.1 + 60)), (1, .int a)]) (st' := [.int (-1), .int a]) (h' := h) rfl rfl rfl ?_
      refine jx_ic (t := 57) rfl rfl rfl (fun hc19 => ?_) (fun hc19 => ?_)
      · have g19 := jc2_ne_t hc19
        refine az_X_step (pc' := 58) (ls' := [(2, .int 0), (0, .ref (P.1 + 60)), (1, .int a)]) (st' := [.int a]) (h' := h) rfl rfl rfl ?_
        refine az_X_step (pc' := 59) (ls' := [(3, .int a), (2, .int 0), (0, .ref (P.1 + 60)), (1, .int a)]) (st' := []) (h' := h) rfl rfl rfl ?_
        refine (rcw hH a 0 (y := ja h 60 9) rfl (by omega) (ja h 60 9).toNat 0 a (by rw [show a.toInt + ((0 : Nat) : Int) = a.toInt by omega]; exact (Int.emod_eq_of_lt (by omega) (by omega)).symm) (by omega) (fun j hj => absurd hj (by omega))).mono ?_
        rintro rv h1 ⟨rfl, z, rfl, hz⟩
        exact ⟨rfl, z, rfl, Or.inr (Or.inl ⟨by omega, by rw [← hp]; exact hz⟩)⟩
      · have g19 := jc2_ne_f hc19
        refine az_X_step (pc' := 23) (ls' := [(2, .int 0), (0, .ref (P.1 + 60)), (1, .int a)]) (st' := [.int 0]) (h' := h) rfl rfl rfl ?_
        refine az_X_step (pc' := 24) (ls' := [(3, .int 0), (2, .int 0), (0, .ref (P.1 + 60)), (1, .int a)]) (st' := []) (h' := h) rfl rfl rfl ?_
        refine (rcn hH a (y := (ja h 60 9).toNat) (by omega) (by omega) (ja h 60 9).toNat 0 0 0 (by decide) (by omega) (by show (0 : Int32).toInt = 0; decide)).mono ?_
        rintro rv h1 ⟨rfl, z, rfl, hz⟩
        exact ⟨rfl, z, rfl, Or.inl ⟨by omega, by rw [← hp]; exact hz⟩⟩
    · have g10 := jc1_ne_f hc10
      refine az_X_step (pc' := 14) (ls' := [(0, .ref (P.1 + 60)), (1, .int a)]) (st' := [.int (-1)]) (h' := h) rfl rfl rfl ?_
      refine jx_ret rfl rfl rfl ?_
      exact ⟨rfl, -1, rfl, Or.inr (Or.inr ⟨by omega, zn⟩)⟩
