/-! EXCHANGED -/
set_option maxRecDepth 100000
theorem clong_ok {P : si_P} {d : Nat} {h : si_H} (hH : az_HI P az_tb h) (t : Int32) : az_X P (d + 1) 77 0 (lv_args 0 [.ref (P.1 + 1), .int t]) [] h (fun rv h' => h' = h ∧ jV rv (t.toInt % ja h 1 0)) := by
  obtain ⟨⟨M, hM, eM⟩, bM⟩ := jt_ok hH (i := 1) (k := 0) rfl
  obtain ⟨⟨R, hR, eR⟩, bR⟩ := jt_ok hH (i := 1) (k := 1) rfl
  have eM' : ja h 1 0 = M.toInt := eM.symm
  have eR' : ja h 1 1 = R.toInt := eR.symm
  have bm : 4 ≤ M.toInt ∧ M.toInt ≤ 60 := by rw [eM]; exact bM
  have br : 2 ≤ R.toInt ∧ R.toInt ≤ 24 := by rw [eR]; exact bR
  rw [eM']
  refine az_X_step (pc' := 1) (ls' := [(0, .ref (P.1 + 1)), (1, .int t)]) (st' := [.int t]) (h' := h) rfl rfl rfl ?_
  refine az_X_step (pc' := 2) (ls' := [(0, .ref (P.1 + 1)), (1, .int t)]) (st' := [.ref (P.1 + 1), .int t]) (h' := h) rfl rfl rfl ?_
  refine jx_gf (i := 1) rfl rfl hH (by decide) (hH.2 1 _ rfl).1 rfl hM ?_
  refine az_X_call (m' := 200) (as := [.int t, .int M]) (rest := []) rfl rfl rfl rfl rfl rfl ?_
  refine (modulo_ok t M (by omega)).mono ?_
  rintro rv5 h5 ⟨q5, z5, rfl, ez5⟩
  subst h5
  show az_X P _ 77 8 [(0, .ref (P.1 + 1)), (1, .int t)] [.int z5] _ _
  refine jx_ret rfl rfl rfl ?_
  exact ⟨rfl, z5, rfl, ez5⟩
theorem cshort_ok {P : si_P} {d : Nat} {h : si_H} (hH : az_HI P az_tb h) (t : Int32) (ht : 0 ≤ t.toInt) : az_X P (d + 1) 76 0 (lv_args 0 [.ref (P.1 + 1), .int t]) [] h (fun rv h' => h' = h ∧ jV rv (t.toInt / ja h 1 1)) := by
  obtain ⟨⟨M, hM, eM⟩, bM⟩ := jt_ok hH (i := 1) (k := 0) rfl
  obtain ⟨⟨R, hR, eR⟩, bR⟩ := jt_ok hH (i := 1) (k := 1) rfl
  have eM' : ja h 1 0 = M.toInt := eM.symm
  have eR' : ja h 1 1 = R.toInt := eR.symm
  have bm : 4 ≤ M.toInt ∧ M.toInt ≤ 60 := by rw [eM]; exact bM
  have br : 2 ≤ R.toInt ∧ R.toInt ≤ 24 := by rw [eR]; exact bR
  rw [eR']
  refine az_X_step (pc' := 1) (ls' := [(0, .ref (P.1 + 1)), (1, .int t)]) (st' := [.int t]) (h' := h) rfl rfl rfl ?_
  refine az_X_step (pc' := 2) (ls' := [(0, .ref (P.1 + 1)), (1, .int t)]) (st' := [.ref (P.1 + 1), .int t]) (h' := h) rfl rfl rfl ?_
  refine jx_gf (i := 1) rfl rfl hH (by decide) (hH.2 1 _ rfl).1 rfl hR ?_
  refine az_X_call (m' := 199) (as := [.int t, .int R]) (rest := []) rfl rfl rfl rfl rfl rfl ?_
  refine (through_ok t R ht (by omega)).mono ?_
  rintro rv5 h5 ⟨q5, z5, rfl, ez5⟩
  subst h5
  show az_X P _ 76 8 [(0, .ref (P.1 + 1)), (1, .int t)] [.int z5] _ _
  refine jx_ret rfl rfl rfl ?_
  exact ⟨rfl, z5, rfl, ez5⟩
/-- the lowest time with the short hand at s and the long one at l -/
def jlw (m r s l : Int) : Int := if s * r + (l - s * r) % m < s * r + r then s * r + (l - s * r) % m else -2
theorem lowest_ok {P : si_P} {d : Nat} {h : si_H} (hH : az_HI P az_tb h) (a b : Int32) (ha : 0 ≤ a.toInt ∧ a.toInt ≤ 1000) (hb : 0 ≤ b.toInt ∧ b.toInt ≤ 1000) : az_X P (d + 1) 83 0 (lv_args 0 [.ref (P.1 + 1), .int a, .int b]) [] h (fun rv h' => h' = h ∧ jV rv (jlw (ja h 1 0) (ja h 1 1) a.toInt b.toInt)) := by
  obtain ⟨⟨M, hM, eM⟩, bM⟩ := jt_ok hH (i := 1) (k := 0) rfl
  obtain ⟨⟨R, hR, eR⟩, bR⟩ := jt_ok hH (i := 1) (k := 1) rfl
  have eM' : ja h 1 0 = M.toInt := eM.symm
  have eR' : ja h 1 1 = R.toInt := eR.symm
  have bm : 4 ≤ M.toInt ∧ M.toInt ≤ 60 := by rw [eM]; exact bM
  have br : 2 ≤ R.toInt ∧ R.toInt ≤ 24 := by rw [eR]; exact bR
  rw [eM', eR']
  have bp := nm_mulnn (a := 0) (b := 1000) (c := 2) (d := 24) (x := a.toInt) (y := R.toInt) (by decide) (by decide) ha.1 ha.2 br.1 br.2
  have ep : (a * R).toInt = a.toInt * R.toInt := nm_mul (by omega) (by omega)
  have eb : (b - a * R).toInt = b.toInt - a.toInt * R.toInt := by rw [nm_sub (by omega) (by omega), ep]
  have j1 := Int.emod_nonneg (b.toInt - a.toInt * R.toInt) (show M.toInt ≠ 0 by omega)
  have j2 := Int.emod_lt_of_pos (b.toInt - a.toInt * R.toInt) (show 0 < M.toInt by omega)
  refine az_X_step (pc' := 1) (ls' := [(0, .ref (P.1 + 1)), (1, .int a), (2, .int b)]) (st' := [.int a]) (h' := h) rfl rfl rfl ?_
  refine az_X_step (pc' := 2) (ls' := [(0, .ref (P.1 + 1)), (1, .int a), (2, .int b)]) (st' := [.ref (P.1 + 1), .int a]) (h' := h) rfl rfl rfl ?_
  refine jx_gf (i := 1) rfl rfl hH (by decide) (hH.2 1 _ rfl).1 rfl hR ?_
  refine az_X_step (pc' := 6) (ls' := [(0, .ref (P.1 + 1)), (1, .int a), (2, .int b)]) (st' := [.int (a * R)]) (h' := h) rfl rfl rfl ?_
  refine az_X_step (pc' := 7) (ls' := [(3, .int (a * R)), (0, .ref (P.1 + 1)), (1, .int a), (2, .int b)]) (st' := []) (h' := h) rfl rfl rfl ?_
  refine az_X_step (pc' := 8) (ls' := [(3, .int (a * R)), (0, .ref (P.1 + 1)), (1, .int a), (2, .int b)]) (st' := [.int (a * R)]) (h' := h) rfl rfl rfl ?_
  refine az_X_step (pc' := 9) (ls' := [(3, .int (a * R)), (0, .ref (P.1 + 1)), (1, .int a), (2, .int b)]) (st' := [.int b, .int (a * R)]) (h' := h) rfl rfl rfl ?_
  refine az_X_step (pc' := 10) (ls' := [(3, .int (a * R)), (0, .ref (P.1 + 1)), (1, .int a), (2, .int b)]) (st' := [.int (a * R), .int b, .int (a * R)]) (h' := h) rfl rfl rfl ?_
  refine az_X_step (pc' := 11) (ls' := [(3, .int (a * R)), (0, .ref (P.1 + 1)), (1, .int a), (2, .int b)]) (st' := [.int (b - (a * R)), .int (a * R)]) (h' := h) rfl rfl rfl ?_
  refine az_X_step (pc' := 12) (ls' := [(3, .int (a * R)), (0, .ref (P.1 + 1)), (1, .int a), (2, .int b)]) (st' := [.ref (P.1 + 1), .int (b - (a * R)), .int (a * R)]) (h' := h) rfl rfl rfl ?_
  refine jx_gf (i := 1) rfl rfl hH (by decide) (hH.2 1 _ rfl).1 rfl hM ?_
  refine az_X_call (m' := 200) (as := [.int (b - (a * R)), .int M]) (rest := [.int (a * R)]) rfl rfl rfl rfl rfl rfl ?_
  refine (modulo_ok (b - a * R) M (by omega)).mono ?_
  rintro rv15 h15 ⟨q15, z15, rfl, ez15⟩
  subst h15
  show az_X P _ 83 18 [(3, .int (a * R)), (0, .ref (P.1 + 1)), (1, .int a), (2, .int b)] [.int z15, .int (a * R)] _ _
  refine az_X_step (pc' := 19) (ls' := [(3, .int (a * R)), (0, .ref (P.1 + 1)), (1, .int a), (2, .int b)]) (st' := [.int ((a * R) + z15)]) (h' := h) rfl rfl rfl ?_
  refine az_X_step (pc' := 21) (ls' := [(4, .int ((a * R) + z15)), (3, .int (a * R)), (0, .ref (P.1 + 1)), (1, .int a), (2, .int b)]) (st' := []) (h' := h) rfl rfl rfl ?_
  refine az_X_step (pc' := 23) (ls' := [(4, .int ((a * R) + z15)), (3, .int (a * R)), (0, .ref (P.1 + 1)), (1, .int a), (2, .int b)]) (st' := [.int ((a * R) + z15)]) (h' := h) rfl rfl rfl ?_
  refine az_X_step (pc' := 24) (ls' := [(4, .int ((a * R) + z15)), (3, .int (a * R)), (0, .ref (P.1 + 1)), (1, .int a), (2, .int b)]) (st' := [.int (a * R), .int ((a * R) + z15)]) (h' := h) rfl rfl rfl ?_
  refine az_X_step (pc' := 25) (ls' := [(4, .int ((a * R) + z15)), (3, .int (a * R)), (0, .ref (P.1 + 1)), (1, .int a), (2, .int b)]) (st' := [.ref (P.1 + 1), .int (a * R), .int ((a * R) + z15)]) (h' := h) rfl rfl rfl ?_
  refine jx_gf (i := 1) rfl rfl hH (by decide) (hH.2 1 _ rfl).1 rfl hR ?_
  refine az_X_step (pc' := 29) (ls' := [(4, .int ((a * R) + z15)), (3, .int (a * R)), (0, .ref (P.1 + 1)), (1, .int a), (2, .int b)]) (st' := [.int ((a * R) + R), .int ((a * R) + z15)]) (h' := h) rfl rfl rfl ?_
  refine jx_ic (t := 37) rfl rfl rfl (fun hc29 => ?_) (fun hc29 => ?_)
  · have g29 := jc2_ge_t hc29
    refine az_X_step (pc' := 39) (ls' := [(4, .int ((a * R) + z15)), (3, .int (a * R)), (0, .ref (P.1 + 1)), (1, .int a), (2, .int b)]) (st' := [.int (-2)]) (h' := h) rfl rfl rfl ?_
    refine jx_ret rfl rfl rfl ?_
    have e15 : (a * R + z15).toInt = a.toInt * R.toInt + (b.toInt - a.toInt * R.toInt) % M.toInt := by
      rw [eb] at ez15
      rw [nm_add (by omega) (by omega), ep, ez15]
    have e16 : (a * R + R).toInt = a.toInt * R.toInt + R.toInt := by rw [nm_add (by omega) (by omega), ep]
    exact ⟨rfl, (-2), rfl, by
      unfold jlw
      rw [if_neg (by omega)]; decide⟩
  · have g29 := jc2_ge_f hc29
    refine az_X_step (pc' := 34) (ls' := [(4, .int ((a * R) + z15)), (3, .int (a * R)), (0, .ref (P.1 + 1)), (1, .int a), (2, .int b)]) (st' := [.int ((a * R) + z15)]) (h' := h) rfl rfl rfl ?_
    refine az_X_step (pc' := 39) (ls' := [(4, .int ((a * R) + z15)), (3, .int (a * R)), (0, .ref (P.1 + 1)), (1, .int a), (2, .int b)]) (st' := [.int ((a * R) + z15)]) (h' := h) rfl rfl rfl ?_
    refine jx_ret rfl rfl rfl ?_
    have e15 : (a * R + z15).toInt = a.toInt * R.toInt + (b.toInt - a.toInt * R.toInt) % M.toInt := by
      rw [eb] at ez15
      rw [nm_add (by omega) (by omega), ep, ez15]
    have e16 : (a * R + R).toInt = a.toInt * R.toInt + R.toInt := by rw [nm_add (by omega) (by omega), ep]
    exact ⟨rfl, ((a * R) + z15), rfl, by
      unfold jlw
      rw [if_pos (by omega)]; exact e15⟩
def jxF (m r a : Int) : Int := if 0 ≤ a ∧ a < m * r then jlw m r (a % m) (a / r) else -1
theorem jdm {m r a : Int} (hm : 4 ≤ m ∧ m ≤ 60) (hr : 2 ≤ r ∧ r ≤ 24) (h0 : 0 ≤ a) (h1 : a < m * r) : (0 ≤ a % m ∧ a % m < m) ∧ (0 ≤ a / r ∧ a / r < m) := ⟨⟨Int.emod_nonneg a (by omega), Int.emod_lt_of_pos a (by omega)⟩, Int.ediv_nonneg h0 (by omega), Int.ediv_lt_of_lt_mul (by omega) h1⟩
theorem exchanged0_ok {P : si_P} {d : Nat} {h : si_H} (hH : az_HI P az_tb h) (a : Int32) : az_X P (d + 2) 150 0 (lv_args 0 [.ref (P.1 + 0), .int a]) [] h (fun rv h' => h' = h ∧ jV rv (jxF (ja h 1 0) (ja h 1 1) a.toInt)) := by
  have bm : 4 ≤ ja h 1 0 ∧ ja h 1 0 ≤ 60 := ja_bd hH (i := 1) (k := 0) rfl
  have br : 2 ≤ ja h 1 1 ∧ ja h 1 1 ≤ 24 := ja_bd hH (i := 1) (k := 1) rfl
  refine az_X_step (pc' := 1) (ls' := [(0, .ref (P.1 + 0)), (1, .int a)]) (st' := [.ref (P.1 + 0)]) (h' := h) rfl rfl rfl ?_
  refine jx_gf (i := 0) rfl rfl hH (by decide) (hH.2 0 _ rfl).1 rfl (jx_rf hH rfl rfl) ?_
  refine az_X_step (pc' := 5) (ls' := [(0, .ref (P.1 + 0)), (1, .int a)]) (st' := [.int a, .ref (P.1 + 1)]) (h' := h) rfl rfl rfl ?_
  refine az_X_call (m' := 74) (as := [.ref (P.1 + 1), .int a]) (rest := []) rfl rfl rfl rfl rfl ?_ ?_
  · unfold si_call
    dsimp only
    rw [if_pos ⟨rfl, rfl⟩]
    show (match si_ix P h (P.1 + 1) with | some i => _ | none => none) = _
    rw [jix hH (by decide)]
    dsimp only
    rw [(hH.2 1 _ rfl).1]
    rfl
  refine (istime0_ok hH a).mono ?_
  rintro rv5 h5 ⟨q5, z5, rfl, ez5⟩
  subst h5
  show az_X P _ 150 8 [(0, .ref (P.1 + 0)), (1, .int a)] [.int z5] _ _
  refine jx_if (t := 13) rfl rfl rfl (fun hc8 => ?_) (fun hc8 => ?_)
  · have g8 := jc1_ne_t hc8
    refine az_X_step (pc' := 14) (ls' := [(0, .ref (P.1 + 0)), (1, .int a)]) (st' := [.ref (P.1 + 0)]) (h' := h) rfl rfl rfl ?_
    refine jx_gf (i := 0) rfl rfl hH (by decide) (hH.2 0 _ rfl).1 rfl (jx_rf hH rfl rfl) ?_
    refine az_X_step (pc' := 18) (ls' := [(0, .ref (P.1 + 0)), (1, .int a)]) (st' := [.ref (P.1 + 0), .ref (P.1 + 1)]) (h' := h) rfl rfl rfl ?_
    refine jx_gf (i := 0) rfl rfl hH (by decide) (hH.2 0 _ rfl).1 rfl (jx_rf hH rfl rfl) ?_
    refine az_X_step (pc' := 22) (ls' := [(0, .ref (P.1 + 0)), (1, .int a)]) (st' := [.int a, .ref (P.1 + 1), .ref (P.1 + 1)]) (h' := h) rfl rfl rfl ?_
    refine az_X_call (m' := 77) (as := [.ref (P.1 + 1), .int a]) (rest := [.ref (P.1 + 1)]) rfl rfl rfl rfl rfl ?_ ?_
    · unfold si_call
      dsimp only
      rw [if_pos ⟨rfl, rfl⟩]
      show (match si_ix P h (P.1 + 1) with | some i => _ | none => none) = _
      rw [jix hH (by decide)]
      dsimp only
      rw [(hH.2 1 _ rfl).1]
      rfl
    refine (clong_ok hH a).mono ?_
    rintro rv22 h22 ⟨q22, z22, rfl, ez22⟩
    subst h22
    show az_X P _ 150 25 [(0, .ref (P.1 + 0)), (1, .int a)] [.int z22, .ref (P.1 + 1)] _ _
    refine az_X_step (pc' := 26) (ls' := [(0, .ref (P.1 + 0)), (1, .int a)]) (st' := [.ref (P.1 + 0), .int z22, .ref (P.1 + 1)]) (h' := h) rfl rfl rfl ?_
    refine jx_gf (i := 0) rfl rfl hH (by decide) (hH.2 0 _ rfl).1 rfl (jx_rf hH rfl rfl) ?_
    refine az_X_step (pc' := 30) (ls' := [(0, .ref (P.1 + 0)), (1, .int a)]) (st' := [.int a, .ref (P.1 + 1), .int z22, .ref (P.1 + 1)]) (h' := h) rfl rfl rfl ?_
    refine az_X_call (m' := 76) (as := [.ref (P.1 + 1), .int a]) (rest := [.int z22, .ref (P.1 + 1)]) rfl rfl rfl rfl rfl ?_ ?_
    · unfold si_call
      dsimp only
      rw [if_pos ⟨rfl, rfl⟩]
      show (match si_ix P h (P.1 + 1) with | some i => _ | none => none) = _
      rw [jix hH (by decide)]
      dsimp only
      rw [(hH.2 1 _ rfl).1]
      rfl
    refine (cshort_ok hH a (by omega)).mono ?_
    rintro rv30 h30 ⟨q30, z30, rfl, ez30⟩
    subst h30
    show az_X P _ 150 33 [(0, .ref (P.1 + 0)), (1, .int a)] [.int z30, .int z22, .ref (P.1 + 1)] _ _
    refine az_X_call (m' := 83) (as := [.ref (P.1 + 1), .int z22, .int z30]) (rest := []) rfl rfl rfl rfl rfl ?_ ?_
    · unfold si_call
      dsimp only
      rw [if_pos ⟨rfl, rfl⟩]
      show (match si_ix P h (P.1 + 1) with | some i => _ | none => none) = _
      rw [jix hH (by decide)]
      dsimp only
      rw [(hH.2 1 _ rfl).1]
      rfl
    refine (lowest_ok hH z22 z30 (by have := jdm bm br (a := a.toInt) (by omega) (by omega); omega) (by have := jdm bm br (a := a.toInt) (by omega) (by omega); omega)).mono ?_
    rintro rv33 h33 ⟨q33, z33, rfl, ez33⟩
    subst h33
    show az_X P _ 150 36 [(0, .ref (P.1 + 0)), (1, .int a)] [.int z33] _ _
    refine jx_ret rfl rfl rfl ?_
    exact ⟨rfl, z33, rfl, by unfold jxF; rw [if_pos (by omega), ez33, ez22, ez30]⟩
  · have g8 := jc1_ne_f hc8
    refine az_X_step (pc' := 12) (ls' := [(0, .ref (P.1 + 0)), (1, .int a)]) (st' := [.int (-1)]) (h' := h) rfl rfl rfl ?_
    refine jx_ret rfl rfl rfl ?_
    exact ⟨rfl, -1, rfl, by unfold jxF; rw [if_neg (by omega)]; decide⟩
theorem rlong_ok {P : si_P} {d : Nat} {h : si_H} (hH : az_HI P az_tb h) (t : Int32) (ht : 0 ≤ t.toInt) : az_X P d 215 0 (lv_args 0 [.ref (P.1 + 60), .int t]) [] h (fun rv h' => h' = h ∧ jV rv (t.toInt % ja h 60 7)) := by
  obtain ⟨⟨M, hM, eM⟩, bM⟩ := jt_ok hH (i := 60) (k := 7) rfl
  obtain ⟨⟨R, hR, eR⟩, bR⟩ := jt_ok hH (i := 60) (k := 8) rfl
  have eM' : ja h 60 7 = M.toInt := eM.symm
  have eR' : ja h 60 8 = R.toInt := eR.symm
  have bm : 4 ≤ M.toInt ∧ M.toInt ≤ 60 := by rw [eM]; exact bM
  have br : 2 ≤ R.toInt ∧ R.toInt ≤ 24 := by rw [eR]; exact bR
  rw [eM']
  have z0 : (0 : Int32).toInt = 0 := by decide
  have hM0 : M ≠ 0 := fun e => by rw [e, z0] at bm; omega
  refine az_X_step (pc' := 1) (ls' := [(0, .ref (P.1 + 60)), (1, .int t)]) (st' := [.int t]) (h' := h) rfl rfl rfl ?_
  refine az_X_step (pc' := 2) (ls' := [(0, .ref (P.1 + 60)), (1, .int t)]) (st' := [.ref (P.1 + 60), .int t]) (h' := h) rfl rfl rfl ?_
  refine jx_gf (i := 60) rfl rfl hH (by decide) (hH.2 60 _ rfl).1 rfl hM ?_
  refine jx_rem rfl rfl hM0 ?_
  refine jx_ret rfl rfl rfl ?_
  exact ⟨rfl, t - t / M * M, rfl, by rw [nm_rem (by omega), Int.tmod_eq_emod_of_nonneg ht]⟩
theorem rshort_ok {P : si_P} {d : Nat} {h : si_H} (hH : az_HI P az_tb h) (t : Int32) (ht : 0 ≤ t.toInt) : az_X P d 216 0 (lv_args 0 [.ref (P.1 + 60), .int t]) [] h (fun rv h' => h' = h ∧ jV rv (t.toInt / ja h 60 8)) := by
  obtain ⟨⟨M, hM, eM⟩, bM⟩ := jt_ok hH (i := 60) (k := 7) rfl
  obtain ⟨⟨R, hR, eR⟩, bR⟩ := jt_ok hH (i := 60) (k := 8) rfl
  have eM' : ja h 60 7 = M.toInt := eM.symm
  have eR' : ja h 60 8 = R.toInt := eR.symm
  have bm : 4 ≤ M.toInt ∧ M.toInt ≤ 60 := by rw [eM]; exact bM
  have br : 2 ≤ R.toInt ∧ R.toInt ≤ 24 := by rw [eR]; exact bR
  rw [eR']
  have z0 : (0 : Int32).toInt = 0 := by decide
  have hR0 : R ≠ 0 := fun e => by rw [e, z0] at br; omega
  refine az_X_step (pc' := 1) (ls' := [(0, .ref (P.1 + 60)), (1, .int t)]) (st' := [.int t]) (h' := h) rfl rfl rfl ?_
  refine az_X_step (pc' := 2) (ls' := [(0, .ref (P.1 + 60)), (1, .int t)]) (st' := [.ref (P.1 + 60), .int t]) (h' := h) rfl rfl rfl ?_
  refine jx_gf (i := 60) rfl rfl hH (by decide) (hH.2 60 _ rfl).1 rfl hR ?_
  refine jx_div rfl rfl hR0 ?_
  refine jx_ret rfl rfl rfl ?_
  exact ⟨rfl, t / R, rfl, by rw [nm_div (by omega), nm_tdiv_nn ht]⟩
/-- the first of the times below y with something, or -2 -/
def jfs (p : Nat → Prop) (y : Nat) (z : Int) : Prop := (∃ t : Nat, t < y ∧ z = t ∧ p t ∧ ∀ j : Nat, j < t → ¬ p j) ∨ (z = -2 ∧ ∀ j : Nat, j < y → ¬ p j)
theorem jfs_un {p : Nat → Prop} {y : Nat} {z w : Int} (h1 : jfs p y z) (h2 : jfs p y w) : z = w := by
  rcases h1 with ⟨t, a1, rfl, a2, a3⟩ | ⟨rfl, a3⟩ <;> rcases h2 with ⟨s, b1, rfl, b2, b3⟩ | ⟨rfl, b3⟩
  · rcases Nat.lt_trichotomy t s with h | h | h
    · exact absurd a2 (b3 t h)
    · rw [h]
    · exact absurd b2 (a3 s h)
  · exact absurd a2 (b3 t a1)
  · exact absurd b2 (a3 s b1)
  · rfl
def jxp (m r a : Int) (t : Nat) : Prop := (t : Int) / r = a % m ∧ (t : Int) % m = a / r
theorem jlw_fs0 {m r s l : Int} {y : Nat} (hm : 4 ≤ m ∧ m ≤ 60) (hr : 2 ≤ r ∧ r ≤ 24) (hy : m * r = y) (a1 : 0 ≤ s) (a2 : s < m) (a3 : 0 ≤ l) (a4 : l < m) : jfs (fun t : Nat => (t : Int) / r = s ∧ (t : Int) % m = l) y (jlw m r s l) := by
  have q1 := Int.emod_nonneg (l - s * r) (show m ≠ 0 by omega)
  have q2 := Int.emod_lt_of_pos (l - s * r) (show 0 < m by omega)
  have q3 := Int.mul_ediv_add_emod (l - s * r) m
  have q4 : 0 ≤ s * r := Int.mul_nonneg a1 (by omega)
  have q5 : s * r + r ≤ m * r := by
    have := Int.mul_le_mul_of_nonneg_right (show s + 1 ≤ m by omega) (show 0 ≤ r by omega)
    rw [Int.add_mul, Int.one_mul] at this
    exact this
  have low : ∀ t : Nat, ((t : Int) / r = s ∧ (t : Int) % m = l) → s * r ≤ t ∧ (t : Int) < s * r + r ∧ s * r + (l - s * r) % m ≤ t := by
    rintro t ⟨c1, c2⟩
    have d1 := Int.mul_ediv_add_emod (t : Int) r
    have d2 := Int.emod_nonneg (t : Int) (show r ≠ 0 by omega)
    have d3 := Int.emod_lt_of_pos (t : Int) (show 0 < r by omega)
    rw [c1, Int.mul_comm] at d1
    have e0 : s * r ≤ t := by omega
    have e1 : ((t : Int) - s * r) % m = (l - s * r) % m := by
      rw [← c2, Int.sub_emod (t : Int) (s * r) m, Int.sub_emod ((t : Int) % m) (s * r) m, Int.emod_emod_of_dvd _ (Int.dvd_refl m)]
    have e2 := nm_eml (a := (t : Int) - s * r) (b := m) (by omega) (by omega)
    exact ⟨e0, by omega, by omega⟩
  unfold jlw
  split
  · rename_i hc
    refine Or.inl ⟨(s * r + (l - s * r) % m).toNat, by omega, by omega, ?_, ?_⟩
    · refine ⟨?_, ?_⟩
      · rw [Int.toNat_of_nonneg (by omega)]
        refine (Int.ediv_eq_iff_of_pos (by omega)).mpr ?_
        constructor <;> omega
      · rw [Int.toNat_of_nonneg (by omega)]
        have : s * r + (l - s * r) % m = l + m * (-((l - s * r) / m)) := by
          rw [Int.mul_neg]
          omega
        rw [this, Int.add_mul_emod_self_left]
        exact Int.emod_eq_of_lt a3 a4
    · intro j hj hp
      have := low j hp
      omega
  · rename_i hc
    refine Or.inr ⟨rfl, fun j hj hp => ?_⟩
    have := low j hp
    omega
theorem jlw_fs {m r a : Int} {y : Nat} (hm : 4 ≤ m ∧ m ≤ 60) (hr : 2 ≤ r ∧ r ≤ 24) (hy : m * r = y) (h0 : 0 ≤ a) (h1 : a < m * r) : jfs (jxp m r a) y (jlw m r (a % m) (a / r)) := by
  obtain ⟨⟨a1, a2⟩, a3, a4⟩ := jdm hm hr h0 h1
  exact jlw_fs0 hm hr hy a1 a2 a3 a4
theorem exl {P : si_P} {d : Nat} {h : si_H} (hH : az_HI P az_tb h) (a : Int32) (ha : 0 ≤ a.toInt) {y : Nat} (hy : ja h 60 9 = y) (hy2 : y ≤ 1440) : ∀ (k n : Nat) (T : Int32), T.toInt = n → n + k = y → (∀ j : Nat, j < n → ¬ jxp (ja h 60 7) (ja h 60 8) a.toInt j) → az_X P (d + 1) 223 12 [(2, .int T), (0, .ref (P.1 + 60)), (1, .int a)] [] h (fun rv h' => h' = h ∧ ∃ z : Int32, rv = some (.int z) ∧ jfs (jxp (ja h 60 7) (ja h 60 8) a.toInt) y z.toInt) := by
  obtain ⟨⟨Y, hY, eY⟩, bY⟩ := jt_ok hH (i := 60) (k := 9) rfl
  have eY' : Y.toInt = y := by rw [eY]; exact hy
  have z1 : (1 : Int32).toInt = 1 := by decide
  intro k
  induction k with
  | zero =>
    intro n T hT hn hj
    have hny : n = y := by omega
    subst hny
    refine az_X_step (pc' := 13) (ls' := [(2, .int T), (0, .ref (P.1 + 60)), (1, .int a)]) (st' := [.int T]) (h' := h) rfl rfl rfl ?_
    refine az_X_step (pc' := 14) (ls' := [(2, .int T), (0, .ref (P.1 + 60)), (1, .int a)]) (st' := [.ref (P.1 + 60), .int T]) (h' := h) rfl rfl rfl ?_
    refine jx_gf (i := 60) rfl rfl hH (by decide) (hH.2 60 _ rfl).1 rfl hY ?_
    refine jx_ic (t := 54) rfl rfl rfl (fun hc17 => ?_) (fun hc17 => ?_)
    · have g17 := jc2_ge_t hc17
      refine az_X_step (pc' := 56) (ls' := [(2, .int T), (0, .ref (P.1 + 60)), (1, .int a)]) (st' := [.int (-2)]) (h' := h) rfl rfl rfl ?_
      refine jx_ret rfl rfl rfl ?_
      exact ⟨rfl, -2, rfl, Or.inr ⟨by decide, hj⟩⟩
    · have g17 := jc2_ge_f hc17
      exact absurd hT (by omega)
  | succ k ih =>
    intro n T hT hn hj
    have nxt : ¬ jxp (ja h 60 7) (ja h 60 8) a.toInt n → az_X P (d + 1) 223 12 [(2, .int (T + 1)), (0, .ref (P.1 + 60)), (1, .int a)] [] h (fun rv h' => h' = h ∧ ∃ z : Int32, rv = some (.int z) ∧ jfs (jxp (ja h 60 7) (ja h 60 8) a.toInt) y z.toInt) := by
      intro hp
      refine ih (n + 1) (T + 1) (by rw [nm_add (by omega) (by omega)]; omega) (by omega) (fun j hj2 => ?_)
      rcases Nat.lt_or_ge j n with q | q
      · exact hj j q
      · rw [show j = n by omega]
        exact hp
    refine az_X_step (pc' := 13) (ls' := [(2, .int T), (0, .ref (P.1 + 60)), (1, .int a)]) (st' := [.int T]) (h' := h) rfl rfl rfl ?_
    refine az_X_step (pc' := 14) (ls' := [(2, .int T), (0, .ref (P.1 + 60)), (1, .int a)]) (st' := [.ref (P.1 + 60), .int T]) (h' := h) rfl rfl rfl ?_
    refine jx_gf (i := 60) rfl rfl hH (by decide) (hH.2 60 _ rfl).1 rfl hY ?_
    refine jx_ic (t := 54) rfl rfl rfl (fun hc17 => ?_) (fun hc17 => ?_)
    · have g17 := jc2_ge_t hc17
      refine az_X_step (pc' := 56) (ls' := [(2, .int T), (0, .ref (P.1 + 60)), (1, .int a)]) (st' := [.int (-2)]) (h' := h) rfl rfl rfl ?_
      refine jx_ret rfl rfl rfl ?_
      exact absurd hT (by omega)
    · have g17 := jc2_ge_f hc17
      refine az_X_step (pc' := 21) (ls' := [(2, .int T), (0, .ref (P.1 + 60)), (1, .int a)]) (st' := [.ref (P.1 + 60)]) (h' := h) rfl rfl rfl ?_
      refine az_X_step (pc' := 22) (ls' := [(2, .int T), (0, .ref (P.1 + 60)), (1, .int a)]) (st' := [.int T, .ref (P.1 + 60)]) (h' := h) rfl rfl rfl ?_
      refine az_X_call (m' := 216) (as := [.ref (P.1 + 60), .int T]) (rest := []) rfl rfl rfl rfl rfl ?_ ?_
      · unfold si_call
        dsimp only
        rw [if_pos ⟨rfl, rfl⟩]
        show (match si_ix P h (P.1 + 60) with | some i => _ | none => none) = _
        rw [jix hH (by decide)]
        dsimp only
        rw [(hH.2 60 _ rfl).1]
        rfl
      refine (rshort_ok hH T (by omega)).mono ?_
      rintro rv22 h22 ⟨q22, z22, rfl, ez22⟩
      subst h22
      show az_X P _ 223 25 [(2, .int T), (0, .ref (P.1 + 60)), (1, .int a)] [.int z22] _ _
      refine az_X_step (pc' := 26) (ls' := [(2, .int T), (0, .ref (P.1 + 60)), (1, .int a)]) (st' := [.ref (P.1 + 60), .int z22]) (h' := h) rfl rfl rfl ?_
      refine az_X_step (pc' := 27) (ls' := [(2, .int T), (0, .ref (P.1 + 60)), (1, .int a)]) (st' := [.int a, .ref (P.1 + 60), .int z22]) (h' := h) rfl rfl rfl ?_
      refine az_X_call (m' := 215) (as := [.ref (P.1 + 60), .int a]) (rest := [.int z22]) rfl rfl rfl rfl rfl ?_ ?_
      · unfold si_call
        dsimp only
        rw [if_pos ⟨rfl, rfl⟩]
        show (match si_ix P h (P.1 + 60) with | some i => _ | none => none) = _
        rw [jix hH (by decide)]
        dsimp only
        rw [(hH.2 60 _ rfl).1]
        rfl
      refine (rlong_ok hH a ha).mono ?_
      rintro rv27 h27 ⟨q27, z27, rfl, ez27⟩
      subst h27
      show az_X P _ 223 30 [(2, .int T), (0, .ref (P.1 + 60)), (1, .int a)] [.int z27, .int z22] _ _
      refine jx_ic (t := 48) rfl rfl rfl (fun hc30 => ?_) (fun hc30 => ?_)
      · have g30 := jc2_ne_t hc30
        refine az_X_step (pc' := 51) (ls' := [(2, .int (T + 1)), (0, .ref (P.1 + 60)), (1, .int a)]) (st' := []) (h' := h) rfl rfl rfl ?_
        refine az_X_step (pc' := 12) (ls' := [(2, .int (T + 1)), (0, .ref (P.1 + 60)), (1, .int a)]) (st' := []) (h' := h) rfl rfl rfl ?_
        exact nxt (fun hp => g30 (by rw [ez22, ez27, hT]; exact hp.1))
      · have g30 := jc2_ne_f hc30
        refine az_X_step (pc' := 34) (ls' := [(2, .int T), (0, .ref (P.1 + 60)), (1, .int a)]) (st' := [.ref (P.1 + 60)]) (h' := h) rfl rfl rfl ?_
        refine az_X_step (pc' := 35) (ls' := [(2, .int T), (0, .ref (P.1 + 60)), (1, .int a)]) (st' := [.int T, .ref (P.1 + 60)]) (h' := h) rfl rfl rfl ?_
        refine az_X_call (m' := 215) (as := [.ref (P.1 + 60), .int T]) (rest := []) rfl rfl rfl rfl rfl ?_ ?_
        · unfold si_call
          dsimp only
          rw [if_pos ⟨rfl, rfl⟩]
          show (match si_ix P h (P.1 + 60) with | some i => _ | none => none) = _
          rw [jix hH (by decide)]
          dsimp only
          rw [(hH.2 60 _ rfl).1]
          rfl
        refine (rlong_ok hH T (by omega)).mono ?_
        rintro rv35 h35 ⟨q35, z35, rfl, ez35⟩
        subst h35
        show az_X P _ 223 38 [(2, .int T), (0, .ref (P.1 + 60)), (1, .int a)] [.int z35] _ _
        refine az_X_step (pc' := 39) (ls' := [(2, .int T), (0, .ref (P.1 + 60)), (1, .int a)]) (st' := [.ref (P.1 + 60), .int z35]) (h' := h) rfl rfl rfl ?_
        refine az_X_step (pc' := 40) (ls' := [(2, .int T), (0, .ref (P.1 + 60)), (1, .int a)]) (st' := [.int a, .ref (P.1 + 60), .int z35]) (h' := h) rfl rfl rfl ?_
        refine az_X_call (m' := 216) (as := [.ref (P.1 + 60), .int a]) (rest := [.int z35]) rfl rfl rfl rfl rfl ?_ ?_
        · unfold si_call
          dsimp only
          rw [if_pos ⟨rfl, rfl⟩]
          show (match si_ix P h (P.1 + 60) with | some i => _ | none => none) = _
          rw [jix hH (by decide)]
          dsimp only
          rw [(hH.2 60 _ rfl).1]
          rfl
        refine (rshort_ok hH a ha).mono ?_
        rintro rv40 h40 ⟨q40, z40, rfl, ez40⟩
        subst h40
        show az_X P _ 223 43 [(2, .int T), (0, .ref (P.1 + 60)), (1, .int a)] [.int z40, .int z35] _ _
        refine jx_ic (t := 48) rfl rfl rfl (fun hc43 => ?_) (fun hc43 => ?_)
        · have g43 := jc2_ne_t hc43
          refine az_X_step (pc' := 51) (ls' := [(2, .int (T + 1)), (0, .ref (P.1 + 60)), (1, .int a)]) (st' := []) (h' := h) rfl rfl rfl ?_
          refine az_X_step (pc' := 12) (ls' := [(2, .int (T + 1)), (0, .ref (P.1 + 60)), (1, .int a)]) (st' := []) (h' := h) rfl rfl rfl ?_
          exact nxt (fun hp => g43 (by rw [ez35, ez40, hT]; exact hp.2))
        · have g43 := jc2_ne_f hc43
          refine az_X_step (pc' := 47) (ls' := [(2, .int T), (0, .ref (P.1 + 60)), (1, .int a)]) (st' := [.int T]) (h' := h) rfl rfl rfl ?_
          refine jx_ret rfl rfl rfl ?_
          exact ⟨rfl, T, rfl, Or.inl ⟨n, by omega, hT, ⟨by rw [ez22, ez27, hT] at g30; exact g30, by rw [ez35, ez40, hT] at g43; exact g43⟩, hj⟩⟩
theorem exchanged1_ok {P : si_P} {d : Nat} {h : si_H} (hH : az_HI P az_tb h) (hJ : js_J h) (a : Int32) : az_X P (d + 2) 223 0 (lv_args 0 [.ref (P.1 + 60), .int a]) [] h (fun rv h' => h' = h ∧ jV rv (jxF (ja h 60 7) (ja h 60 8) a.toInt)) := by
  have bm : 4 ≤ ja h 60 7 ∧ ja h 60 7 ≤ 60 := ja_bd hH (i := 60) (k := 7) rfl
  have br : 2 ≤ ja h 60 8 ∧ ja h 60 8 ≤ 24 := ja_bd hH (i := 60) (k := 8) rfl
  have by_ : 8 ≤ ja h 60 9 ∧ ja h 60 9 ≤ 1440 := ja_bd hH (i := 60) (k := 9) rfl
  have hp : ja h 60 9 = ja h 60 7 * ja h 60 8 := hJ.1.1
  refine az_X_step (pc' := 1) (ls' := [(0, .ref (P.1 + 60)), (1, .int a)]) (st' := [.ref (P.1 + 60)]) (h' := h) rfl rfl rfl ?_
  refine az_X_step (pc' := 2) (ls' := [(0, .ref (P.1 + 60)), (1, .int a)]) (st' := [.int a, .ref (P.1 + 60)]) (h' := h) rfl rfl rfl ?_
  refine az_X_call (m' := 211) (as := [.ref (P.1 + 60), .int a]) (rest := []) rfl rfl rfl rfl rfl ?_ ?_
  · unfold si_call
    dsimp only
    rw [if_pos ⟨rfl, rfl⟩]
    show (match si_ix P h (P.1 + 60) with | some i => _ | none => none) = _
    rw [jix hH (by decide)]
    dsimp only
    rw [(hH.2 60 _ rfl).1]
    rfl
  refine (ristime_ok hH a).mono ?_
  rintro rv2 h2 ⟨q2, z2, rfl, ez2⟩
  subst h2
  show az_X P _ 223 5 [(0, .ref (P.1 + 60)), (1, .int a)] [.int z2] _ _
  refine jx_if (t := 10) rfl rfl rfl (fun hc5 => ?_) (fun hc5 => ?_)
  · have g5 := jc1_ne_t hc5
    refine az_X_step (pc' := 11) (ls' := [(0, .ref (P.1 + 60)), (1, .int a)]) (st' := [.int 0]) (h' := h) rfl rfl rfl ?_
    refine az_X_step (pc' := 12) (ls' := [(2, .int 0), (0, .ref (P.1 + 60)), (1, .int a)]) (st' := []) (h' := h) rfl rfl rfl ?_
    refine (exl hH a (by omega) (y := (ja h 60 9).toNat) (by omega) (by omega) (ja h 60 9).toNat 0 0 (by decide) (by omega) (fun j hj => absurd hj (by omega))).mono ?_
    rintro rv h1 ⟨rfl, z, rfl, hz⟩
    refine ⟨rfl, z, rfl, ?_⟩
    unfold jxF
    rw [if_pos (by omega)]
    exact jfs_un hz (jlw_fs bm br (y := (ja h1 60 9).toNat) (by omega) (by omega) (by omega))
  · have g5 := jc1_ne_f hc5
    refine az_X_step (pc' := 9) (ls' := [(0, .ref (P.1 + 60)), (1, .int a)]) (st' := [.int (-1)]) (h' := h) rfl rfl rfl ?_
    refine jx_ret rfl rfl rfl ?_
    exact ⟨rfl, -1, rfl, by unfold jxF; rw [if_neg (by omega)]; decide⟩
