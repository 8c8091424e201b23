/-! STROKES -/
set_option maxRecDepth 100000
/-- how often it strikes at a time -/
def jst (m r t v : Int) : Int := if t % m = 0 then (if t / m = 0 then r else t / m) else if v = 1 ∧ t % m = m / 2 then 1 else 0
theorem jemx {a m : Int} (hm : 1 ≤ m) : m * (a / m) + a % m = a ∧ 0 ≤ a % m ∧ a % m < m := ⟨Int.mul_ediv_add_emod a m, Int.emod_nonneg a (by omega), Int.emod_lt_of_pos a (by omega)⟩
theorem through_ok {P : si_P} {d : Nat} {h : si_H} (x y : Int32) (hx : 0 ≤ x.toInt) (hy : 1 ≤ y.toInt) : az_X P d 199 0 (lv_args 0 [.int x, .int y]) [] h (fun rv h' => h' = h ∧ jV rv (x.toInt / y.toInt)) := by
  have hy0 : y ≠ 0 := fun e => by rw [e] at hy; exact absurd hy (by decide)
  have z1 : (1 : Int32).toInt = 1 := by decide
  refine az_X_step (pc' := 1) (ls' := [(0, .int x), (1, .int y)]) (st' := [.int y]) (h' := h) rfl rfl rfl ?_
  refine az_X_step (pc' := 2) (ls' := [(0, .int x), (1, .int y)]) (st' := [.int 1, .int y]) (h' := h) rfl rfl rfl ?_
  refine jx_ic (t := 9) rfl rfl rfl (fun hc2 => ?_) (fun hc2 => ?_)
  · have g2 := jc2_ge_t hc2
    refine az_X_step (pc' := 10) (ls' := [(0, .int x), (1, .int y)]) (st' := [.int x]) (h' := h) rfl rfl rfl ?_
    refine az_X_step (pc' := 11) (ls' := [(0, .int x), (1, .int y)]) (st' := [.int y, .int x]) (h' := h) rfl rfl rfl ?_
    refine jx_div rfl rfl hy0 ?_
    refine jx_ret rfl rfl rfl ?_
    exact ⟨rfl, x / y, rfl, by rw [nm_div hy, nm_tdiv_nn hx]⟩
  · have g2 := jc2_ge_f hc2
    refine az_X_step (pc' := 6) (ls' := [(0, .int x), (1, .int y)]) (st' := [.int 0]) (h' := h) rfl rfl rfl ?_
    refine az_X_step (pc' := 12) (ls' := [(0, .int x), (1, .int y)]) (st' := [.int 0]) (h' := h) rfl rfl rfl ?_
    refine jx_ret rfl rfl rfl ?_
    exact absurd hy (by omega)
theorem strk0_ok {P : si_P} {d : Nat} {h : si_H} (hH : az_HI P az_tb h) (t v : Int32) (ht : 0 ≤ t.toInt ∧ t.toInt ≤ 100000) (hv : v = 0 ∨ v = 1) : az_X P (d + 1) 17 0 (lv_args 0 [.ref (P.1 + 5), .int t, .int v]) [] h (fun rv h' => h' = h ∧ jV rv (jst (ja h 1 0) (ja h 1 1) t.toInt v.toInt)) := by
  obtain ⟨⟨M, hM, eM⟩, bM⟩ := jt_ok hH (i := 1) (k := 0) rfl
  obtain ⟨⟨R, hR, eR⟩, bR⟩ := jt_ok hH (i := 1) (k := 1) rfl
  have eM' : ja h 1 0 = M.toInt := eM.symm
  have eR' : ja h 1 1 = R.toInt := eR.symm
  have b1 : 4 ≤ ji h 1 0 := bM.1
  have b2 : ji h 1 0 ≤ 60 := bM.2
  rw [eM', eR']
  have z0 : (0 : Int32).toInt = 0 := by decide
  have z1 : (1 : Int32).toInt = 1 := by decide
  have z2 : (2 : Int32).toInt = 2 := by decide
  have hM0 : M ≠ 0 := fun e => by rw [e, z0] at eM; omega
  have hM1 : 1 ≤ M.toInt := by omega
  have hM2 : (M / 2).toInt = M.toInt / 2 := by rw [nm_div (by decide), nm_tdiv_nn (by omega), z2]
  have jx := jemx (a := t.toInt) hM1
  have hv' : v.toInt = 0 ∨ v.toInt = 1 := hv.elim (fun e => Or.inl (by rw [e]; decide)) (fun e => Or.inr (by rw [e]; decide))
  have key : ∀ q : Int32, q.toInt = t.toInt / M.toInt → (t - q * M).toInt = t.toInt % M.toInt := by
    intro q hq
    have a1 : (q * M).toInt = M.toInt * (t.toInt / M.toInt) := by rw [nm_mul (by rw [hq, Int.mul_comm]; omega) (by rw [hq, Int.mul_comm]; omega), hq, Int.mul_comm]
    rw [nm_sub (by omega) (by omega), a1]
    omega
  refine az_X_step (pc' := 1) (ls' := [(0, .ref (P.1 + 5)), (1, .int t), (2, .int v)]) (st' := [.int t]) (h' := h) rfl rfl rfl ?_
  refine az_X_step (pc' := 2) (ls' := [(0, .ref (P.1 + 5)), (1, .int t), (2, .int v)]) (st' := [.ref (P.1 + 5), .int t]) (h' := h) rfl rfl rfl ?_
  refine jx_gf (i := 5) rfl rfl hH (by decide) (hH.2 5 _ rfl).1 rfl (jx_rf hH rfl rfl) ?_
  refine jx_gf (i := 1) rfl rfl hH (by decide) (hH.2 1 _ rfl).1 rfl hM ?_
  refine az_X_call (m' := 199) (as := [.int t, .int M]) (rest := []) rfl rfl rfl rfl rfl rfl ?_
  refine (through_ok t M ht.1 hM1).mono ?_
  rintro rv8 h8 ⟨q8, z8, rfl, ez8⟩
  subst h8
  show az_X P _ 17 11 [(0, .ref (P.1 + 5)), (1, .int t), (2, .int v)] [.int z8] _ _
  refine az_X_step (pc' := 12) (ls' := [(3, .int z8), (0, .ref (P.1 + 5)), (1, .int t), (2, .int v)]) (st' := []) (h' := h) rfl rfl rfl ?_
  refine az_X_step (pc' := 13) (ls' := [(3, .int z8), (0, .ref (P.1 + 5)), (1, .int t), (2, .int v)]) (st' := [.int t]) (h' := h) rfl rfl rfl ?_
  refine az_X_step (pc' := 14) (ls' := [(3, .int z8), (0, .ref (P.1 + 5)), (1, .int t), (2, .int v)]) (st' := [.int z8, .int t]) (h' := h) rfl rfl rfl ?_
  refine az_X_step (pc' := 15) (ls' := [(3, .int z8), (0, .ref (P.1 + 5)), (1, .int t), (2, .int v)]) (st' := [.ref (P.1 + 5), .int z8, .int t]) (h' := h) rfl rfl rfl ?_
  refine jx_gf (i := 5) rfl rfl hH (by decide) (hH.2 5 _ rfl).1 rfl (jx_rf hH rfl rfl) ?_
  refine jx_gf (i := 1) rfl rfl hH (by decide) (hH.2 1 _ rfl).1 rfl hM ?_
  refine az_X_step (pc' := 22) (ls' := [(3, .int z8), (0, .ref (P.1 + 5)), (1, .int t), (2, .int v)]) (st' := [.int (z8 * M), .int t]) (h' := h) rfl rfl rfl ?_
  refine az_X_step (pc' := 23) (ls' := [(3, .int z8), (0, .ref (P.1 + 5)), (1, .int t), (2, .int v)]) (st' := [.int (t - (z8 * M))]) (h' := h) rfl rfl rfl ?_
  refine az_X_step (pc' := 25) (ls' := [(4, .int (t - (z8 * M))), (3, .int z8), (0, .ref (P.1 + 5)), (1, .int t), (2, .int v)]) (st' := []) (h' := h) rfl rfl rfl ?_
  refine az_X_step (pc' := 27) (ls' := [(4, .int (t - (z8 * M))), (3, .int z8), (0, .ref (P.1 + 5)), (1, .int t), (2, .int v)]) (st' := [.int (t - (z8 * M))]) (h' := h) rfl rfl rfl ?_
  refine jx_if (t := 46) rfl rfl rfl (fun hc27 => ?_) (fun hc27 => ?_)
  · have g27 := jc1_ne_t hc27
    refine az_X_step (pc' := 47) (ls' := [(4, .int (t - (z8 * M))), (3, .int z8), (0, .ref (P.1 + 5)), (1, .int t), (2, .int v)]) (st' := [.int v]) (h' := h) rfl rfl rfl ?_
    refine jx_if (t := 68) rfl rfl rfl (fun hc47 => ?_) (fun hc47 => ?_)
    · have g47 := jc1_eq_t hc47
      refine az_X_step (pc' := 69) (ls' := [(4, .int (t - (z8 * M))), (3, .int z8), (0, .ref (P.1 + 5)), (1, .int t), (2, .int v)]) (st' := [.int 0]) (h' := h) rfl rfl rfl ?_
      refine jx_ret rfl rfl rfl ?_
      exact ⟨rfl, 0, rfl, by
            have k1 := key _ ez8
            unfold jst
            repeat' split
            all_goals omega⟩
    · have g47 := jc1_eq_f hc47
      refine az_X_step (pc' := 52) (ls' := [(4, .int (t - (z8 * M))), (3, .int z8), (0, .ref (P.1 + 5)), (1, .int t), (2, .int v)]) (st' := [.int (t - (z8 * M))]) (h' := h) rfl rfl rfl ?_
      refine az_X_step (pc' := 53) (ls' := [(4, .int (t - (z8 * M))), (3, .int z8), (0, .ref (P.1 + 5)), (1, .int t), (2, .int v)]) (st' := [.ref (P.1 + 5), .int (t - (z8 * M))]) (h' := h) rfl rfl rfl ?_
      refine jx_gf (i := 5) rfl rfl hH (by decide) (hH.2 5 _ rfl).1 rfl (jx_rf hH rfl rfl) ?_
      refine jx_gf (i := 1) rfl rfl hH (by decide) (hH.2 1 _ rfl).1 rfl hM ?_
      refine az_X_step (pc' := 60) (ls' := [(4, .int (t - (z8 * M))), (3, .int z8), (0, .ref (P.1 + 5)), (1, .int t), (2, .int v)]) (st' := [.int 2, .int M, .int (t - (z8 * M))]) (h' := h) rfl rfl rfl ?_
      refine jx_div rfl rfl (by decide) ?_
      refine jx_ic (t := 68) rfl rfl rfl (fun hc61 => ?_) (fun hc61 => ?_)
      · have g61 := jc2_ne_t hc61
        refine az_X_step (pc' := 69) (ls' := [(4, .int (t - (z8 * M))), (3, .int z8), (0, .ref (P.1 + 5)), (1, .int t), (2, .int v)]) (st' := [.int 0]) (h' := h) rfl rfl rfl ?_
        refine jx_ret rfl rfl rfl ?_
        exact ⟨rfl, 0, rfl, by
              have k1 := key _ ez8
              unfold jst
              repeat' split
              all_goals omega⟩
      · have g61 := jc2_ne_f hc61
        refine az_X_step (pc' := 65) (ls' := [(4, .int (t - (z8 * M))), (3, .int z8), (0, .ref (P.1 + 5)), (1, .int t), (2, .int v)]) (st' := [.int 1]) (h' := h) rfl rfl rfl ?_
        refine az_X_step (pc' := 69) (ls' := [(4, .int (t - (z8 * M))), (3, .int z8), (0, .ref (P.1 + 5)), (1, .int t), (2, .int v)]) (st' := [.int 1]) (h' := h) rfl rfl rfl ?_
        refine jx_ret rfl rfl rfl ?_
        exact ⟨rfl, 1, rfl, by
              have k1 := key _ ez8
              unfold jst
              repeat' split
              all_goals omega⟩
  · have g27 := jc1_ne_f hc27
    refine az_X_step (pc' := 31) (ls' := [(4, .int (t - (z8 * M))), (3, .int z8), (0, .ref (P.1 + 5)), (1, .int t), (2, .int v)]) (st' := [.int z8]) (h' := h) rfl rfl rfl ?_
    refine jx_if (t := 44) rfl rfl rfl (fun hc31 => ?_) (fun hc31 => ?_)
    · have g31 := jc1_ne_t hc31
      refine az_X_step (pc' := 45) (ls' := [(4, .int (t - (z8 * M))), (3, .int z8), (0, .ref (P.1 + 5)), (1, .int t), (2, .int v)]) (st' := [.int z8]) (h' := h) rfl rfl rfl ?_
      refine jx_ret rfl rfl rfl ?_
      exact ⟨rfl, z8, rfl, by
            have k1 := key _ ez8
            unfold jst
            repeat' split
            all_goals omega⟩
    · have g31 := jc1_ne_f hc31
      refine az_X_step (pc' := 35) (ls' := [(4, .int (t - (z8 * M))), (3, .int z8), (0, .ref (P.1 + 5)), (1, .int t), (2, .int v)]) (st' := [.ref (P.1 + 5)]) (h' := h) rfl rfl rfl ?_
      refine jx_gf (i := 5) rfl rfl hH (by decide) (hH.2 5 _ rfl).1 rfl (jx_rf hH rfl rfl) ?_
      refine jx_gf (i := 1) rfl rfl hH (by decide) (hH.2 1 _ rfl).1 rfl hR ?_
      refine az_X_step (pc' := 45) (ls' := [(4, .int (t - (z8 * M))), (3, .int z8), (0, .ref (P.1 + 5)), (1, .int t), (2, .int v)]) (st' := [.int R]) (h' := h) rfl rfl rfl ?_
      refine jx_ret rfl rfl rfl ?_
      exact ⟨rfl, R, rfl, by
            have k1 := key _ ez8
            unfold jst
            repeat' split
            all_goals omega⟩
theorem strk1_ok {P : si_P} {d : Nat} {h : si_H} (hH : az_HI P az_tb h) (t v : Int32) (ht : 0 ≤ t.toInt ∧ t.toInt ≤ 100000) (hv : v = 0 ∨ v = 1) : az_X P d 287 0 (lv_args 0 [.ref (P.1 + 60), .int t, .int v]) [] h (fun rv h' => h' = h ∧ jV rv (jst (ja h 60 7) (ja h 60 8) t.toInt v.toInt)) := by
  obtain ⟨⟨M, hM, eM⟩, bM⟩ := jt_ok hH (i := 60) (k := 7) rfl
  obtain ⟨⟨R, hR, eR⟩, bR⟩ := jt_ok hH (i := 60) (k := 8) rfl
  have eM' : ja h 60 7 = M.toInt := eM.symm
  have eR' : ja h 60 8 = R.toInt := eR.symm
  have b1 : 4 ≤ ji h 60 7 := bM.1
  have b2 : ji h 60 7 ≤ 60 := bM.2
  rw [eM', eR']
  have z0 : (0 : Int32).toInt = 0 := by decide
  have z1 : (1 : Int32).toInt = 1 := by decide
  have z2 : (2 : Int32).toInt = 2 := by decide
  have hM0 : M ≠ 0 := fun e => by rw [e, z0] at eM; omega
  have hM1 : 1 ≤ M.toInt := by omega
  have hM2 : (M / 2).toInt = M.toInt / 2 := by rw [nm_div (by decide), nm_tdiv_nn (by omega), z2]
  have jx := jemx (a := t.toInt) hM1
  have hv' : v.toInt = 0 ∨ v.toInt = 1 := hv.elim (fun e => Or.inl (by rw [e]; decide)) (fun e => Or.inr (by rw [e]; decide))
  have em : (t - t / M * M).toInt = t.toInt % M.toInt := by rw [nm_rem hM1, Int.tmod_eq_emod_of_nonneg ht.1]
  have ed : (t / M).toInt = t.toInt / M.toInt := by rw [nm_div hM1, nm_tdiv_nn ht.1]
  have e3 : t.toInt % M.toInt = 0 → (t.toInt / M.toInt = 0 ↔ t.toInt = 0) := by
    intro e
    constructor
    · intro e2
      rw [e2] at jx
      omega
    · intro e2
      rw [e2]
      exact Int.zero_ediv _
  refine az_X_step (pc' := 1) (ls' := [(0, .ref (P.1 + 60)), (1, .int t), (2, .int v)]) (st' := [.int t]) (h' := h) rfl rfl rfl ?_
  refine az_X_step (pc' := 2) (ls' := [(0, .ref (P.1 + 60)), (1, .int t), (2, .int v)]) (st' := [.ref (P.1 + 60), .int t]) (h' := h) rfl rfl rfl ?_
  refine jx_gf (i := 60) rfl rfl hH (by decide) (hH.2 60 _ rfl).1 rfl hM ?_
  refine jx_rem rfl rfl hM0 ?_
  refine jx_if (t := 27) rfl rfl rfl (fun hc6 => ?_) (fun hc6 => ?_)
  · have g6 := jc1_ne_t hc6
    refine az_X_step (pc' := 28) (ls' := [(0, .ref (P.1 + 60)), (1, .int t), (2, .int v)]) (st' := [.int v]) (h' := h) rfl rfl rfl ?_
    refine jx_if (t := 50) rfl rfl rfl (fun hc28 => ?_) (fun hc28 => ?_)
    · have g28 := jc1_eq_t hc28
      refine az_X_step (pc' := 51) (ls' := [(0, .ref (P.1 + 60)), (1, .int t), (2, .int v)]) (st' := [.int 0]) (h' := h) rfl rfl rfl ?_
      refine jx_ret rfl rfl rfl ?_
      exact ⟨rfl, 0, rfl, by
            unfold jst
            repeat' split
            all_goals omega⟩
    · have g28 := jc1_eq_f hc28
      refine az_X_step (pc' := 32) (ls' := [(0, .ref (P.1 + 60)), (1, .int t), (2, .int v)]) (st' := [.int t]) (h' := h) rfl rfl rfl ?_
      refine az_X_step (pc' := 33) (ls' := [(0, .ref (P.1 + 60)), (1, .int t), (2, .int v)]) (st' := [.ref (P.1 + 60), .int t]) (h' := h) rfl rfl rfl ?_
      refine jx_gf (i := 60) rfl rfl hH (by decide) (hH.2 60 _ rfl).1 rfl hM ?_
      refine jx_rem rfl rfl hM0 ?_
      refine az_X_step (pc' := 38) (ls' := [(0, .ref (P.1 + 60)), (1, .int t), (2, .int v)]) (st' := [.ref (P.1 + 60), .int (t - t / M * M)]) (h' := h) rfl rfl rfl ?_
      refine jx_gf (i := 60) rfl rfl hH (by decide) (hH.2 60 _ rfl).1 rfl hM ?_
      refine az_X_step (pc' := 42) (ls' := [(0, .ref (P.1 + 60)), (1, .int t), (2, .int v)]) (st' := [.int 2, .int M, .int (t - t / M * M)]) (h' := h) rfl rfl rfl ?_
      refine jx_div rfl rfl (by decide) ?_
      refine jx_ic (t := 50) rfl rfl rfl (fun hc43 => ?_) (fun hc43 => ?_)
      · have g43 := jc2_ne_t hc43
        refine az_X_step (pc' := 51) (ls' := [(0, .ref (P.1 + 60)), (1, .int t), (2, .int v)]) (st' := [.int 0]) (h' := h) rfl rfl rfl ?_
        refine jx_ret rfl rfl rfl ?_
        exact ⟨rfl, 0, rfl, by
              unfold jst
              repeat' split
              all_goals omega⟩
      · have g43 := jc2_ne_f hc43
        refine az_X_step (pc' := 47) (ls' := [(0, .ref (P.1 + 60)), (1, .int t), (2, .int v)]) (st' := [.int 1]) (h' := h) rfl rfl rfl ?_
        refine az_X_step (pc' := 51) (ls' := [(0, .ref (P.1 + 60)), (1, .int t), (2, .int v)]) (st' := [.int 1]) (h' := h) rfl rfl rfl ?_
        refine jx_ret rfl rfl rfl ?_
        exact ⟨rfl, 1, rfl, by
              unfold jst
              repeat' split
              all_goals omega⟩
  · have g6 := jc1_ne_f hc6
    refine az_X_step (pc' := 10) (ls' := [(0, .ref (P.1 + 60)), (1, .int t), (2, .int v)]) (st' := [.int t]) (h' := h) rfl rfl rfl ?_
    refine jx_if (t := 20) rfl rfl rfl (fun hc10 => ?_) (fun hc10 => ?_)
    · have g10 := jc1_ne_t hc10
      refine az_X_step (pc' := 21) (ls' := [(0, .ref (P.1 + 60)), (1, .int t), (2, .int v)]) (st' := [.int t]) (h' := h) rfl rfl rfl ?_
      refine az_X_step (pc' := 22) (ls' := [(0, .ref (P.1 + 60)), (1, .int t), (2, .int v)]) (st' := [.ref (P.1 + 60), .int t]) (h' := h) rfl rfl rfl ?_
      refine jx_gf (i := 60) rfl rfl hH (by decide) (hH.2 60 _ rfl).1 rfl hM ?_
      refine jx_div rfl rfl hM0 ?_
      refine jx_ret rfl rfl rfl ?_
      exact ⟨rfl, (t / M), rfl, by
            unfold jst
            repeat' split
            all_goals omega⟩
    · have g10 := jc1_ne_f hc10
      refine az_X_step (pc' := 14) (ls' := [(0, .ref (P.1 + 60)), (1, .int t), (2, .int v)]) (st' := [.ref (P.1 + 60)]) (h' := h) rfl rfl rfl ?_
      refine jx_gf (i := 60) rfl rfl hH (by decide) (hH.2 60 _ rfl).1 rfl hR ?_
      refine az_X_step (pc' := 26) (ls' := [(0, .ref (P.1 + 60)), (1, .int t), (2, .int v)]) (st' := [.int R]) (h' := h) rfl rfl rfl ?_
      refine jx_ret rfl rfl rfl ?_
      exact ⟨rfl, R, rfl, by
            unfold jst
            repeat' split
            all_goals omega⟩
/-- strokes from a time on, so many times -/
def jss (m r v : Int) (a : Int) : Nat → Int
  | 0 => 0
  | n + 1 => jss m r v a n + jst m r (a + n) v
theorem jst_bd {m r t v : Int} (hm : 4 ≤ m) (hr : 0 ≤ r ∧ r ≤ 24) (ht : 0 ≤ t ∧ t ≤ 1440) : 0 ≤ jst m r t v ∧ jst m r t v ≤ 1440 := by
  have h1 : 0 ≤ t / m := Int.ediv_nonneg ht.1 (by omega)
  have h2 : t / m ≤ t := Int.ediv_le_self _ ht.1
  unfold jst
  repeat' split
  all_goals omega
theorem jss_bd {m r v a : Int} (hm : 4 ≤ m) (hr : 0 ≤ r ∧ r ≤ 24) (ha : 0 ≤ a) : ∀ n : Nat, a + n ≤ 1441 → 0 ≤ jss m r v a n ∧ jss m r v a n ≤ 1440 * n
  | 0, _ => ⟨Int.le_refl _, Int.le_refl _⟩
  | n + 1, h => by
    have i := jss_bd (v := v) hm hr ha n (by omega)
    have j := jst_bd (v := v) (t := a + n) hm hr (by omega)
    unfold jss
    omega
theorem sbt0 {P : si_P} {d : Nat} {h : si_H} (hH : az_HI P az_tb h) (a b v : Int32) (ha : 0 ≤ a.toInt) (hb : b.toInt ≤ 1440) (hv : v = 0 ∨ v = 1) : ∀ (k n : Nat) (A T : Int32), A.toInt = jss (ja h 1 0) (ja h 1 1) v.toInt a.toInt n → T.toInt = a.toInt + n → a.toInt + n + k = b.toInt + 1 → az_X P (d + 2) 19 6 [(5, .int T), (4, .int A), (0, .ref (P.1 + 5)), (1, .int a), (2, .int b), (3, .int v)] [] h (fun rv h' => h' = h ∧ jV rv (jss (ja h 1 0) (ja h 1 1) v.toInt a.toInt (n + k))) := by
  have bm : 4 ≤ ja h 1 0 ∧ ja h 1 0 ≤ 60 := ja_bd hH (i := 1) (k := 0) rfl
  have br : 2 ≤ ja h 1 1 ∧ ja h 1 1 ≤ 24 := ja_bd hH (i := 1) (k := 1) rfl
  have z1 : (1 : Int32).toInt = 1 := by decide
  intro k
  induction k with
  | zero =>
    intro n A T hA hT hn
    refine az_X_step (pc' := 8) (ls' := [(5, .int T), (4, .int A), (0, .ref (P.1 + 5)), (1, .int a), (2, .int b), (3, .int v)]) (st' := [.int T]) (h' := h) rfl rfl rfl ?_
    refine az_X_step (pc' := 9) (ls' := [(5, .int T), (4, .int A), (0, .ref (P.1 + 5)), (1, .int a), (2, .int b), (3, .int v)]) (st' := [.int b, .int T]) (h' := h) rfl rfl rfl ?_
    refine jx_ic (t := 30) rfl rfl rfl (fun hc9 => ?_) (fun hc9 => ?_)
    · have g9 := jc2_gt_t hc9
      refine az_X_step (pc' := 32) (ls' := [(5, .int T), (4, .int A), (0, .ref (P.1 + 5)), (1, .int a), (2, .int b), (3, .int v)]) (st' := [.int A]) (h' := h) rfl rfl rfl ?_
      refine jx_ret rfl rfl rfl ?_
      exact ⟨rfl, A, rfl, hA⟩
    · have g9 := jc2_gt_f hc9
      exact absurd hT (by omega)
  | succ k ih =>
    intro n A T hA hT hn
    have bs := jss_bd (m := ja h 1 0) (r := ja h 1 1) (v := v.toInt) (a := a.toInt) bm.1 (by omega) ha n (by omega)
    have bt := jst_bd (m := ja h 1 0) (r := ja h 1 1) (v := v.toInt) (t := a.toInt + n) bm.1 (by omega) (by omega)
    refine az_X_step (pc' := 8) (ls' := [(5, .int T), (4, .int A), (0, .ref (P.1 + 5)), (1, .int a), (2, .int b), (3, .int v)]) (st' := [.int T]) (h' := h) rfl rfl rfl ?_
    refine az_X_step (pc' := 9) (ls' := [(5, .int T), (4, .int A), (0, .ref (P.1 + 5)), (1, .int a), (2, .int b), (3, .int v)]) (st' := [.int b, .int T]) (h' := h) rfl rfl rfl ?_
    refine jx_ic (t := 30) rfl rfl rfl (fun hc9 => ?_) (fun hc9 => ?_)
    · have g9 := jc2_gt_t hc9
      refine az_X_step (pc' := 32) (ls' := [(5, .int T), (4, .int A), (0, .ref (P.1 + 5)), (1, .int a), (2, .int b), (3, .int v)]) (st' := [.int A]) (h' := h) rfl rfl rfl ?_
      refine jx_ret rfl rfl rfl ?_
      exact absurd hT (by omega)
    · have g9 := jc2_gt_f hc9
      refine az_X_step (pc' := 14) (ls' := [(5, .int T), (4, .int A), (0, .ref (P.1 + 5)), (1, .int a), (2, .int b), (3, .int v)]) (st' := [.int A]) (h' := h) rfl rfl rfl ?_
      refine az_X_step (pc' := 15) (ls' := [(5, .int T), (4, .int A), (0, .ref (P.1 + 5)), (1, .int a), (2, .int b), (3, .int v)]) (st' := [.ref (P.1 + 5), .int A]) (h' := h) rfl rfl rfl ?_
      refine az_X_step (pc' := 17) (ls' := [(5, .int T), (4, .int A), (0, .ref (P.1 + 5)), (1, .int a), (2, .int b), (3, .int v)]) (st' := [.int T, .ref (P.1 + 5), .int A]) (h' := h) rfl rfl rfl ?_
      refine az_X_step (pc' := 18) (ls' := [(5, .int T), (4, .int A), (0, .ref (P.1 + 5)), (1, .int a), (2, .int b), (3, .int v)]) (st' := [.int v, .int T, .ref (P.1 + 5), .int A]) (h' := h) rfl rfl rfl ?_
      refine az_X_call (m' := 17) (as := [.ref (P.1 + 5), .int T, .int v]) (rest := [.int A]) rfl rfl rfl rfl rfl ?_ ?_
      · unfold si_call
        dsimp only
        rw [if_pos ⟨rfl, rfl⟩]
        show (match si_ix P h (P.1 + 5) with | some i => _ | none => none) = _
        rw [jix hH (by decide)]
        dsimp only
        rw [(hH.2 5 _ rfl).1]
        rfl
      refine (strk0_ok hH T v (by omega) hv).mono ?_
      rintro rv18 h18 ⟨q18, z18, rfl, ez18⟩
      subst h18
      show az_X P _ 19 21 [(5, .int T), (4, .int A), (0, .ref (P.1 + 5)), (1, .int a), (2, .int b), (3, .int v)] [.int z18, .int A] _ _
      refine az_X_step (pc' := 22) (ls' := [(5, .int T), (4, .int A), (0, .ref (P.1 + 5)), (1, .int a), (2, .int b), (3, .int v)]) (st' := [.int (A + z18)]) (h' := h) rfl rfl rfl ?_
      refine az_X_step (pc' := 24) (ls' := [(4, .int (A + z18)), (5, .int T), (0, .ref (P.1 + 5)), (1, .int a), (2, .int b), (3, .int v)]) (st' := []) (h' := h) rfl rfl rfl ?_
      refine az_X_step (pc' := 27) (ls' := [(5, .int (T + 1)), (4, .int (A + z18)), (0, .ref (P.1 + 5)), (1, .int a), (2, .int b), (3, .int v)]) (st' := []) (h' := h) rfl rfl rfl ?_
      refine az_X_step (pc' := 6) (ls' := [(5, .int (T + 1)), (4, .int (A + z18)), (0, .ref (P.1 + 5)), (1, .int a), (2, .int b), (3, .int v)]) (st' := []) (h' := h) rfl rfl rfl ?_
      have e1 : (A + z18).toInt = jss (ja h 1 0) (ja h 1 1) v.toInt a.toInt (n + 1) := by
        rw [nm_add (by rw [ez18, hT]; omega) (by rw [ez18, hT]; omega), hA, ez18, hT]
        rfl
      have e2 : (T + 1).toInt = a.toInt + (n + 1 : Nat) := by rw [nm_add (by omega) (by omega)]; omega
      have := ih (n + 1) (A + z18) (T + 1) e1 e2 (by omega)
      rw [show n + (k + 1) = n + 1 + k by omega]
      exact this
theorem sbt1 {P : si_P} {d : Nat} {h : si_H} (hH : az_HI P az_tb h) (a b v : Int32) (ha : 0 ≤ a.toInt) (hb : b.toInt ≤ 1440) (hv : v = 0 ∨ v = 1) : ∀ (k n : Nat) (A T : Int32), A.toInt = jss (ja h 60 7) (ja h 60 8) v.toInt a.toInt n → T.toInt = a.toInt + n → a.toInt + n + k = b.toInt + 1 → az_X P (d + 1) 288 30 [(5, .int T), (4, .int A), (0, .ref (P.1 + 60)), (1, .int a), (2, .int b), (3, .int v)] [] h (fun rv h' => h' = h ∧ jV rv (jss (ja h 60 7) (ja h 60 8) v.toInt a.toInt (n + k))) := by
  have bm : 4 ≤ ja h 60 7 ∧ ja h 60 7 ≤ 60 := ja_bd hH (i := 60) (k := 7) rfl
  have br : 2 ≤ ja h 60 8 ∧ ja h 60 8 ≤ 24 := ja_bd hH (i := 60) (k := 8) rfl
  have z1 : (1 : Int32).toInt = 1 := by decide
  intro k
  induction k with
  | zero =>
    intro n A T hA hT hn
    refine az_X_step (pc' := 32) (ls' := [(5, .int T), (4, .int A), (0, .ref (P.1 + 60)), (1, .int a), (2, .int b), (3, .int v)]) (st' := [.int T]) (h' := h) rfl rfl rfl ?_
    refine az_X_step (pc' := 33) (ls' := [(5, .int T), (4, .int A), (0, .ref (P.1 + 60)), (1, .int a), (2, .int b), (3, .int v)]) (st' := [.int b, .int T]) (h' := h) rfl rfl rfl ?_
    refine jx_ic (t := 54) rfl rfl rfl (fun hc33 => ?_) (fun hc33 => ?_)
    · have g33 := jc2_gt_t hc33
      refine az_X_step (pc' := 56) (ls' := [(5, .int T), (4, .int A), (0, .ref (P.1 + 60)), (1, .int a), (2, .int b), (3, .int v)]) (st' := [.int A]) (h' := h) rfl rfl rfl ?_
      refine jx_ret rfl rfl rfl ?_
      exact ⟨rfl, A, rfl, hA⟩
    · have g33 := jc2_gt_f hc33
      exact absurd hT (by omega)
  | succ k ih =>
    intro n A T hA hT hn
    have bs := jss_bd (m := ja h 60 7) (r := ja h 60 8) (v := v.toInt) (a := a.toInt) bm.1 (by omega) ha n (by omega)
    have bt := jst_bd (m := ja h 60 7) (r := ja h 60 8) (v := v.toInt) (t := a.toInt + n) bm.1 (by omega) (by omega)
    refine az_X_step (pc' := 32) (ls' := [(5, .int T), (4, .int A), (0, .ref (P.1 + 60)), (1, .int a), (2, .int b), (3, .int v)]) (st' := [.int T]) (h' := h) rfl rfl rfl ?_
    refine az_X_step (pc' := 33) (ls' := [(5, .int T), (4, .int A), (0, .ref (P.1 + 60)), (1, .int a), (2, .int b), (3, .int v)]) (st' := [.int b, .int T]) (h' := h) rfl rfl rfl ?_
    refine jx_ic (t := 54) rfl rfl rfl (fun hc33 => ?_) (fun hc33 => ?_)
    · have g33 := jc2_gt_t hc33
      refine az_X_step (pc' := 56) (ls' := [(5, .int T), (4, .int A), (0, .ref (P.1 + 60)), (1, .int a), (2, .int b), (3, .int v)]) (st' := [.int A]) (h' := h) rfl rfl rfl ?_
      refine jx_ret rfl rfl rfl ?_
      exact absurd hT (by omega)
    · have g33 := jc2_gt_f hc33
      refine az_X_step (pc' := 38) (ls' := [(5, .int T), (4, .int A), (0, .ref (P.1 + 60)), (1, .int a), (2, .int b), (3, .int v)]) (st' := [.int A]) (h' := h) rfl rfl rfl ?_
      refine az_X_step (pc' := 39) (ls' := [(5, .int T), (4, .int A), (0, .ref (P.1 + 60)), (1, .int a), (2, .int b), (3, .int v)]) (st' := [.ref (P.1 + 60), .int A]) (h' := h) rfl rfl rfl ?_
      refine az_X_step (pc' := 41) (ls' := [(5, .int T), (4, .int A), (0, .ref (P.1 + 60)), (1, .int a), (2, .int b), (3, .int v)]) (st' := [.int T, .ref (P.1 + 60), .int A]) (h' := h) rfl rfl rfl ?_
      refine az_X_step (pc' := 42) (ls' := [(5, .int T), (4, .int A), (0, .ref (P.1 + 60)), (1, .int a), (2, .int b), (3, .int v)]) (st' := [.int v, .int T, .ref (P.1 + 60), .int A]) (h' := h) rfl rfl rfl ?_
      refine az_X_call (m' := 287) (as := [.ref (P.1 + 60), .int T, .int v]) (rest := [.int A]) rfl rfl rfl rfl rfl ?_ ?_
      · unfold si_call
        dsimp only
        rw [if_pos ⟨rfl, rfl⟩]
        show (match si_ix P h (P.1 + 60) with | some i => _ | none => none) = _
        rw [jix hH (by decide)]
        dsimp only
        rw [(hH.2 60 _ rfl).1]
        rfl
      refine (strk1_ok hH T v (by omega) hv).mono ?_
      rintro rv42 h42 ⟨q42, z42, rfl, ez42⟩
      subst h42
      show az_X P _ 288 45 [(5, .int T), (4, .int A), (0, .ref (P.1 + 60)), (1, .int a), (2, .int b), (3, .int v)] [.int z42, .int A] _ _
      refine az_X_step (pc' := 46) (ls' := [(5, .int T), (4, .int A), (0, .ref (P.1 + 60)), (1, .int a), (2, .int b), (3, .int v)]) (st' := [.int (A + z42)]) (h' := h) rfl rfl rfl ?_
      refine az_X_step (pc' := 48) (ls' := [(4, .int (A + z42)), (5, .int T), (0, .ref (P.1 + 60)), (1, .int a), (2, .int b), (3, .int v)]) (st' := []) (h' := h) rfl rfl rfl ?_
      refine az_X_step (pc' := 51) (ls' := [(5, .int (T + 1)), (4, .int (A + z42)), (0, .ref (P.1 + 60)), (1, .int a), (2, .int b), (3, .int v)]) (st' := []) (h' := h) rfl rfl rfl ?_
      refine az_X_step (pc' := 30) (ls' := [(5, .int (T + 1)), (4, .int (A + z42)), (0, .ref (P.1 + 60)), (1, .int a), (2, .int b), (3, .int v)]) (st' := []) (h' := h) rfl rfl rfl ?_
      have e1 : (A + z42).toInt = jss (ja h 60 7) (ja h 60 8) v.toInt a.toInt (n + 1) := by
        rw [nm_add (by rw [ez42, hT]; omega) (by rw [ez42, hT]; omega), hA, ez42, hT]
        rfl
      have e2 : (T + 1).toInt = a.toInt + (n + 1 : Nat) := by rw [nm_add (by omega) (by omega)]; omega
      have := ih (n + 1) (A + z42) (T + 1) e1 e2 (by omega)
      rw [show n + (k + 1) = n + 1 + k by omega]
      exact this
theorem istime0_ok {P : si_P} {d : Nat} {h : si_H} (hH : az_HI P az_tb h) (t : Int32) : az_X P d 74 0 (lv_args 0 [.ref (P.1 + 1), .int t]) [] h (fun rv h' => h' = h ∧ ∃ z : Int32, rv = some (.int z) ∧ ((z.toInt = 1 ∧ 0 ≤ t.toInt ∧ t.toInt < ja h 1 0 * ja h 1 1) ∨ (z.toInt = 0 ∧ (t.toInt < 0 ∨ ja h 1 0 * ja h 1 1 ≤ t.toInt)))) := by
  obtain ⟨⟨M, hM, eM⟩, bM⟩ := jt_ok hH (i := 1) (k := 0) rfl
  obtain ⟨⟨R, hR, eR⟩, bR⟩ := jt_ok hH (i := 1) (k := 1) rfl
  have eM' : ja h 1 0 = M.toInt := eM.symm
  have eR' : ja h 1 1 = R.toInt := eR.symm
  have b1 : 4 ≤ ji h 1 0 ∧ ji h 1 0 ≤ 60 := bM
  have b2 : 2 ≤ ji h 1 1 ∧ ji h 1 1 ≤ 24 := bR
  rw [eM', eR']
  have z0 : (0 : Int32).toInt = 0 := by decide
  have z1 : (1 : Int32).toInt = 1 := by decide
  have bp := nm_mulnn (a := 4) (b := 60) (c := 2) (d := 24) (x := M.toInt) (y := R.toInt) (by decide) (by decide) (by omega) (by omega) (by omega) (by omega)
  have ep : (M * R).toInt = M.toInt * R.toInt := nm_mul (by omega) (by omega)
  refine az_X_step (pc' := 1) (ls' := [(0, .ref (P.1 + 1)), (1, .int t)]) (st' := [.int t]) (h' := h) rfl rfl rfl ?_
  refine jx_if (t := 21) rfl rfl rfl (fun hc1 => ?_) (fun hc1 => ?_)
  · have g1 := jc1_lt_t hc1
    refine az_X_step (pc' := 22) (ls' := [(0, .ref (P.1 + 1)), (1, .int t)]) (st' := [.int 0]) (h' := h) rfl rfl rfl ?_
    refine jx_retz rfl rfl rfl (by decide) ?_
    exact ⟨rfl, 0, rfl, by omega⟩
  · have g1 := jc1_lt_f hc1
    refine az_X_step (pc' := 5) (ls' := [(0, .ref (P.1 + 1)), (1, .int t)]) (st' := [.int t]) (h' := h) rfl rfl rfl ?_
    refine az_X_step (pc' := 6) (ls' := [(0, .ref (P.1 + 1)), (1, .int t)]) (st' := [.ref (P.1 + 1), .int t]) (h' := h) rfl rfl rfl ?_
    refine jx_gf (i := 1) rfl rfl hH (by decide) (hH.2 1 _ rfl).1 rfl hM ?_
    refine az_X_step (pc' := 10) (ls' := [(0, .ref (P.1 + 1)), (1, .int t)]) (st' := [.ref (P.1 + 1), .int M, .int t]) (h' := h) rfl rfl rfl ?_
    refine jx_gf (i := 1) rfl rfl hH (by decide) (hH.2 1 _ rfl).1 rfl hR ?_
    refine az_X_step (pc' := 14) (ls' := [(0, .ref (P.1 + 1)), (1, .int t)]) (st' := [.int (M * R), .int t]) (h' := h) rfl rfl rfl ?_
    refine jx_ic (t := 21) rfl rfl rfl (fun hc14 => ?_) (fun hc14 => ?_)
    · have g14 := jc2_ge_t hc14
      refine az_X_step (pc' := 22) (ls' := [(0, .ref (P.1 + 1)), (1, .int t)]) (st' := [.int 0]) (h' := h) rfl rfl rfl ?_
      refine jx_retz rfl rfl rfl (by decide) ?_
      exact ⟨rfl, 0, rfl, by omega⟩
    · have g14 := jc2_ge_f hc14
      refine az_X_step (pc' := 18) (ls' := [(0, .ref (P.1 + 1)), (1, .int t)]) (st' := [.int 1]) (h' := h) rfl rfl rfl ?_
      refine az_X_step (pc' := 22) (ls' := [(0, .ref (P.1 + 1)), (1, .int t)]) (st' := [.int 1]) (h' := h) rfl rfl rfl ?_
      refine jx_retz rfl rfl rfl (by decide) ?_
      exact ⟨rfl, 1, rfl, by omega⟩
theorem rin_ok {P : si_P} {d : Nat} {h : si_H} (a b c : Int32) : az_X P d 202 0 (lv_args 0 [.int a, .int b, .int c]) [] h (fun rv h' => h' = h ∧ ∃ z : Int32, rv = some (.int z) ∧ ((z.toInt = 1 ∧ b.toInt ≤ a.toInt ∧ a.toInt ≤ c.toInt) ∨ (z.toInt = 0 ∧ (a.toInt < b.toInt ∨ c.toInt < a.toInt)))) := by
  have z0 : (0 : Int32).toInt = 0 := by decide
  have z1 : (1 : Int32).toInt = 1 := by decide
  refine az_X_step (pc' := 1) (ls' := [(0, .int a), (1, .int b), (2, .int c)]) (st' := [.int a]) (h' := h) rfl rfl rfl ?_
  refine az_X_step (pc' := 2) (ls' := [(0, .int a), (1, .int b), (2, .int c)]) (st' := [.int b, .int a]) (h' := h) rfl rfl rfl ?_
  refine jx_ic (t := 14) rfl rfl rfl (fun hc2 => ?_) (fun hc2 => ?_)
  · have g2 := jc2_lt_t hc2
    refine az_X_step (pc' := 15) (ls' := [(0, .int a), (1, .int b), (2, .int c)]) (st' := [.int 0]) (h' := h) rfl rfl rfl ?_
    refine jx_retz rfl rfl rfl (by decide) ?_
    exact ⟨rfl, 0, rfl, by omega⟩
  · have g2 := jc2_lt_f hc2
    refine az_X_step (pc' := 6) (ls' := [(0, .int a), (1, .int b), (2, .int c)]) (st' := [.int a]) (h' := h) rfl rfl rfl ?_
    refine az_X_step (pc' := 7) (ls' := [(0, .int a), (1, .int b), (2, .int c)]) (st' := [.int c, .int a]) (h' := h) rfl rfl rfl ?_
    refine jx_ic (t := 14) rfl rfl rfl (fun hc7 => ?_) (fun hc7 => ?_)
    · have g7 := jc2_gt_t hc7
      refine az_X_step (pc' := 15) (ls' := [(0, .int a), (1, .int b), (2, .int c)]) (st' := [.int 0]) (h' := h) rfl rfl rfl ?_
      refine jx_retz rfl rfl rfl (by decide) ?_
      exact ⟨rfl, 0, rfl, by omega⟩
    · have g7 := jc2_gt_f hc7
      refine az_X_step (pc' := 11) (ls' := [(0, .int a), (1, .int b), (2, .int c)]) (st' := [.int 1]) (h' := h) rfl rfl rfl ?_
      refine az_X_step (pc' := 15) (ls' := [(0, .int a), (1, .int b), (2, .int c)]) (st' := [.int 1]) (h' := h) rfl rfl rfl ?_
      refine jx_retz rfl rfl rfl (by decide) ?_
      exact ⟨rfl, 1, rfl, by omega⟩
theorem ristime_ok {P : si_P} {d : Nat} {h : si_H} (hH : az_HI P az_tb h) (t : Int32) : az_X P (d + 1) 211 0 (lv_args 0 [.ref (P.1 + 60), .int t]) [] h (fun rv h' => h' = h ∧ ∃ z : Int32, rv = some (.int z) ∧ ((z.toInt = 1 ∧ 0 ≤ t.toInt ∧ t.toInt < ja h 60 9) ∨ (z.toInt = 0 ∧ (t.toInt < 0 ∨ ja h 60 9 ≤ t.toInt)))) := by
  obtain ⟨⟨Y, hY, eY⟩, bY⟩ := jt_ok hH (i := 60) (k := 9) rfl
  have eY' : ja h 60 9 = Y.toInt := eY.symm
  have b1 : 8 ≤ ji h 60 9 ∧ ji h 60 9 ≤ 1440 := bY
  rw [eY']
  have z0 : (0 : Int32).toInt = 0 := by decide
  have z1 : (1 : Int32).toInt = 1 := by decide
  have e1 : (Y - 1).toInt = Y.toInt - 1 := by rw [nm_sub (by omega) (by omega), z1]
  refine az_X_step (pc' := 1) (ls' := [(0, .ref (P.1 + 60)), (1, .int t)]) (st' := [.int t]) (h' := h) rfl rfl rfl ?_
  refine az_X_step (pc' := 2) (ls' := [(0, .ref (P.1 + 60)), (1, .int t)]) (st' := [.int 0, .int t]) (h' := h) rfl rfl rfl ?_
  refine az_X_step (pc' := 3) (ls' := [(0, .ref (P.1 + 60)), (1, .int t)]) (st' := [.ref (P.1 + 60), .int 0, .int t]) (h' := h) rfl rfl rfl ?_
  refine jx_gf (i := 60) rfl rfl hH (by decide) (hH.2 60 _ rfl).1 rfl hY ?_
  refine az_X_step (pc' := 7) (ls' := [(0, .ref (P.1 + 60)), (1, .int t)]) (st' := [.int 1, .int Y, .int 0, .int t]) (h' := h) rfl rfl rfl ?_
  refine az_X_step (pc' := 8) (ls' := [(0, .ref (P.1 + 60)), (1, .int t)]) (st' := [.int (Y - 1), .int 0, .int t]) (h' := h) rfl rfl rfl ?_
  refine az_X_call (m' := 202) (as := [.int t, .int 0, .int (Y - 1)]) (rest := []) rfl rfl rfl rfl rfl rfl ?_
  refine (rin_ok t 0 (Y - 1)).mono ?_
  rintro rv8 h8 ⟨q8, zi, rfl, ezi⟩
  subst h8
  show az_X P _ 211 11 [(0, .ref (P.1 + 60)), (1, .int t)] [.int zi] _ _
  exact jx_retz rfl rfl rfl (jbz (by omega)) ⟨rfl, zi, rfl, by omega⟩
def jsF (m r a b v : Int) : Int := if 0 ≤ a ∧ a ≤ b ∧ b < m * r then jss m r v a (b + 1 - a).toNat else -1
theorem sbtw0_ok {P : si_P} {d : Nat} {h : si_H} (hH : az_HI P az_tb h) (a b v : Int32) (ha : 0 ≤ a.toInt) (hab : a.toInt ≤ b.toInt) (hb : b.toInt ≤ 1440) (hv : v = 0 ∨ v = 1) : az_X P (d + 2) 19 0 (lv_args 0 [.ref (P.1 + 5), .int a, .int b, .int v]) [] h (fun rv h' => h' = h ∧ jV rv (jss (ja h 1 0) (ja h 1 1) v.toInt a.toInt (b.toInt + 1 - a.toInt).toNat)) := by
  refine az_X_step (pc' := 1) (ls' := [(0, .ref (P.1 + 5)), (1, .int a), (2, .int b), (3, .int v)]) (st' := [.int 0]) (h' := h) rfl rfl rfl ?_
  refine az_X_step (pc' := 3) (ls' := [(4, .int 0), (0, .ref (P.1 + 5)), (1, .int a), (2, .int b), (3, .int v)]) (st' := []) (h' := h) rfl rfl rfl ?_
  refine az_X_step (pc' := 4) (ls' := [(4, .int 0), (0, .ref (P.1 + 5)), (1, .int a), (2, .int b), (3, .int v)]) (st' := [.int a]) (h' := h) rfl rfl rfl ?_
  refine az_X_step (pc' := 6) (ls' := [(5, .int a), (4, .int 0), (0, .ref (P.1 + 5)), (1, .int a), (2, .int b), (3, .int v)]) (st' := []) (h' := h) rfl rfl rfl ?_
  exact (Nat.zero_add (b.toInt + 1 - a.toInt).toNat) ▸ sbt0 hH a b v ha hb hv (b.toInt + 1 - a.toInt).toNat 0 0 a (by show (0 : Int32).toInt = 0; decide) (by omega) (by omega)
theorem strokes0_ok {P : si_P} {d : Nat} {h : si_H} (hH : az_HI P az_tb h) (a b v : Int32) (hv : v = 0 ∨ v = 1) : az_X P (d + 3) 162 0 (lv_args 0 [.ref (P.1 + 0), .int a, .int b, .int v]) [] h (fun rv h' => h' = h ∧ jV rv (jsF (ja h 1 0) (ja h 1 1) a.toInt b.toInt v.toInt)) := by
  have bm : 4 ≤ ja h 1 0 ∧ ja h 1 0 ≤ 60 := ja_bd hH (i := 1) (k := 0) rfl
  have br : 2 ≤ ja h 1 1 ∧ ja h 1 1 ≤ 24 := ja_bd hH (i := 1) (k := 1) rfl
  have bp := nm_mulnn (a := 4) (b := 60) (c := 2) (d := 24) (x := ja h 1 0) (y := ja h 1 1) (by decide) (by decide) bm.1 bm.2 br.1 br.2
  have z1 : (-1 : Int32).toInt = -1 := by decide
  refine az_X_step (pc' := 1) (ls' := [(0, .ref (P.1 + 0)), (1, .int a), (2, .int b), (3, .int v)]) (st' := [.ref (P.1 + 0)]) (h' := h) rfl rfl rfl ?_
  refine jx_gf (i := 0) rfl rfl hH (by decide) (hH.2 0 _ rfl).1 rfl (jx_rf hH rfl rfl) ?_
  refine az_X_step (pc' := 5) (ls' := [(0, .ref (P.1 + 0)), (1, .int a), (2, .int b), (3, .int v)]) (st' := [.int a, .ref (P.1 + 1)]) (h' := h) rfl rfl rfl ?_
  refine az_X_call (m' := 74) (as := [.ref (P.1 + 1), .int a]) (rest := []) rfl rfl rfl rfl rfl ?_ ?_
  · unfold si_call
    dsimp only
    rw [if_pos ⟨rfl, rfl⟩]
    show (match si_ix P h (P.1 + 1) with | some i => _ | none => none) = _
    rw [jix hH (by decide)]
    dsimp only
    rw [(hH.2 1 _ rfl).1]
    rfl
  refine (istime0_ok hH a).mono ?_
  rintro rv5 h5 ⟨q5, z5, rfl, ez5⟩
  subst h5
  show az_X P _ 162 8 [(0, .ref (P.1 + 0)), (1, .int a), (2, .int b), (3, .int v)] [.int z5] _ _
  refine jx_if (t := 27) rfl rfl rfl (fun hc8 => ?_) (fun hc8 => ?_)
  · have g8 := jc1_eq_t hc8
    refine az_X_step (pc' := 28) (ls' := [(0, .ref (P.1 + 0)), (1, .int a), (2, .int b), (3, .int v)]) (st' := [.int (-1)]) (h' := h) rfl rfl rfl ?_
    refine jx_ret rfl rfl rfl ?_
    exact ⟨rfl, -1, rfl, by unfold jsF; rw [if_neg (by omega)]; decide⟩
  · have g8 := jc1_eq_f hc8
    refine az_X_step (pc' := 12) (ls' := [(0, .ref (P.1 + 0)), (1, .int a), (2, .int b), (3, .int v)]) (st' := [.ref (P.1 + 0)]) (h' := h) rfl rfl rfl ?_
    refine jx_gf (i := 0) rfl rfl hH (by decide) (hH.2 0 _ rfl).1 rfl (jx_rf hH rfl rfl) ?_
    refine az_X_step (pc' := 16) (ls' := [(0, .ref (P.1 + 0)), (1, .int a), (2, .int b), (3, .int v)]) (st' := [.int b, .ref (P.1 + 1)]) (h' := h) rfl rfl rfl ?_
    refine az_X_call (m' := 74) (as := [.ref (P.1 + 1), .int b]) (rest := []) rfl rfl rfl rfl rfl ?_ ?_
    · unfold si_call
      dsimp only
      rw [if_pos ⟨rfl, rfl⟩]
      show (match si_ix P h (P.1 + 1) with | some i => _ | none => none) = _
      rw [jix hH (by decide)]
      dsimp only
      rw [(hH.2 1 _ rfl).1]
      rfl
    refine (istime0_ok hH b).mono ?_
    rintro rv16 h16 ⟨q16, z16, rfl, ez16⟩
    subst h16
    show az_X P _ 162 19 [(0, .ref (P.1 + 0)), (1, .int a), (2, .int b), (3, .int v)] [.int z16] _ _
    refine jx_if (t := 27) rfl rfl rfl (fun hc19 => ?_) (fun hc19 => ?_)
    · have g19 := jc1_eq_t hc19
      refine az_X_step (pc' := 28) (ls' := [(0, .ref (P.1 + 0)), (1, .int a), (2, .int b), (3, .int v)]) (st' := [.int (-1)]) (h' := h) rfl rfl rfl ?_
      refine jx_ret rfl rfl rfl ?_
      exact ⟨rfl, -1, rfl, by unfold jsF; rw [if_neg (by omega)]; decide⟩
    · have g19 := jc1_eq_f hc19
      refine az_X_step (pc' := 23) (ls' := [(0, .ref (P.1 + 0)), (1, .int a), (2, .int b), (3, .int v)]) (st' := [.int b]) (h' := h) rfl rfl rfl ?_
      refine az_X_step (pc' := 24) (ls' := [(0, .ref (P.1 + 0)), (1, .int a), (2, .int b), (3, .int v)]) (st' := [.int a, .int b]) (h' := h) rfl rfl rfl ?_
      refine jx_ic (t := 29) rfl rfl rfl (fun hc24 => ?_) (fun hc24 => ?_)
      · have g24 := jc2_ge_t hc24
        refine az_X_step (pc' := 30) (ls' := [(0, .ref (P.1 + 0)), (1, .int a), (2, .int b), (3, .int v)]) (st' := [.ref (P.1 + 0)]) (h' := h) rfl rfl rfl ?_
        refine jx_gf (i := 0) rfl rfl hH (by decide) (hH.2 0 _ rfl).1 rfl (jx_rf hH rfl rfl) ?_
        refine az_X_step (pc' := 34) (ls' := [(0, .ref (P.1 + 0)), (1, .int a), (2, .int b), (3, .int v)]) (st' := [.int a, .ref (P.1 + 5)]) (h' := h) rfl rfl rfl ?_
        refine az_X_step (pc' := 35) (ls' := [(0, .ref (P.1 + 0)), (1, .int a), (2, .int b), (3, .int v)]) (st' := [.int b, .int a, .ref (P.1 + 5)]) (h' := h) rfl rfl rfl ?_
        refine az_X_step (pc' := 36) (ls' := [(0, .ref (P.1 + 0)), (1, .int a), (2, .int b), (3, .int v)]) (st' := [.int v, .int b, .int a, .ref (P.1 + 5)]) (h' := h) rfl rfl rfl ?_
        refine az_X_call (m' := 19) (as := [.ref (P.1 + 5), .int a, .int b, .int v]) (rest := []) rfl rfl rfl rfl rfl ?_ ?_
        · unfold si_call
          dsimp only
          rw [if_pos ⟨rfl, rfl⟩]
          show (match si_ix P h (P.1 + 5) with | some i => _ | none => none) = _
          rw [jix hH (by decide)]
          dsimp only
          rw [(hH.2 5 _ rfl).1]
          rfl
        refine (sbtw0_ok hH a b v (by omega) (by omega) (by omega) hv).mono ?_
        rintro rv36 h36 ⟨q36, z36, rfl, ez36⟩
        subst h36
        show az_X P _ 162 39 [(0, .ref (P.1 + 0)), (1, .int a), (2, .int b), (3, .int v)] [.int z36] _ _
        refine jx_ret rfl rfl rfl ?_
        exact ⟨rfl, z36, rfl, by unfold jsF; rw [if_pos (by omega)]; exact ez36⟩
      · have g24 := jc2_ge_f hc24
        refine az_X_step (pc' := 28) (ls' := [(0, .ref (P.1 + 0)), (1, .int a), (2, .int b), (3, .int v)]) (st' := [.int (-1)]) (h' := h) rfl rfl rfl ?_
        refine jx_ret rfl rfl rfl ?_
        exact ⟨rfl, -1, rfl, by unfold jsF; rw [if_neg (by omega)]; decide⟩
theorem strokes1_ok {P : si_P} {d : Nat} {h : si_H} (hH : az_HI P az_tb h) (hJ : js_J h) (a b v : Int32) (hv : v = 0 ∨ v = 1) : az_X P (d + 2) 288 0 (lv_args 0 [.ref (P.1 + 60), .int a, .int b, .int v]) [] h (fun rv h' => h' = h ∧ jV rv (jsF (ja h 60 7) (ja h 60 8) a.toInt b.toInt v.toInt)) := by
  obtain ⟨⟨Y, hY, eY⟩, bY⟩ := jt_ok hH (i := 60) (k := 9) rfl
  have eY' : ja h 60 9 = Y.toInt := eY.symm
  have b1 : 8 ≤ ji h 60 9 ∧ ji h 60 9 ≤ 1440 := bY
  have z1 : (1 : Int32).toInt = 1 := by decide
  have e1 : (Y - 1).toInt = Y.toInt - 1 := by rw [nm_sub (by omega) (by omega), z1]
  have hp : ja h 60 9 = ja h 60 7 * ja h 60 8 := hJ.1.1
  refine az_X_step (pc' := 1) (ls' := [(0, .ref (P.1 + 60)), (1, .int a), (2, .int b), (3, .int v)]) (st' := [.ref (P.1 + 60)]) (h' := h) rfl rfl rfl ?_
  refine az_X_step (pc' := 2) (ls' := [(0, .ref (P.1 + 60)), (1, .int a), (2, .int b), (3, .int v)]) (st' := [.int a, .ref (P.1 + 60)]) (h' := h) rfl rfl rfl ?_
  refine az_X_call (m' := 211) (as := [.ref (P.1 + 60), .int a]) (rest := []) rfl rfl rfl rfl rfl ?_ ?_
  · unfold si_call
    dsimp only
    rw [if_pos ⟨rfl, rfl⟩]
    show (match si_ix P h (P.1 + 60) with | some i => _ | none => none) = _
    rw [jix hH (by decide)]
    dsimp only
    rw [(hH.2 60 _ rfl).1]
    rfl
  refine (ristime_ok hH a).mono ?_
  rintro rv2 h2 ⟨q2, z2, rfl, ez2⟩
  subst h2
  show az_X P _ 288 5 [(0, .ref (P.1 + 60)), (1, .int a), (2, .int b), (3, .int v)] [.int z2] _ _
  refine jx_if (t := 22) rfl rfl rfl (fun hc5 => ?_) (fun hc5 => ?_)
  · have g5 := jc1_eq_t hc5
    refine az_X_step (pc' := 23) (ls' := [(0, .ref (P.1 + 60)), (1, .int a), (2, .int b), (3, .int v)]) (st' := [.int (-1)]) (h' := h) rfl rfl rfl ?_
    refine jx_ret rfl rfl rfl ?_
    exact ⟨rfl, -1, rfl, by unfold jsF; rw [if_neg (by omega)]; decide⟩
  · have g5 := jc1_eq_f hc5
    refine az_X_step (pc' := 9) (ls' := [(0, .ref (P.1 + 60)), (1, .int a), (2, .int b), (3, .int v)]) (st' := [.int b]) (h' := h) rfl rfl rfl ?_
    refine az_X_step (pc' := 10) (ls' := [(0, .ref (P.1 + 60)), (1, .int a), (2, .int b), (3, .int v)]) (st' := [.int a, .int b]) (h' := h) rfl rfl rfl ?_
    refine az_X_step (pc' := 11) (ls' := [(0, .ref (P.1 + 60)), (1, .int a), (2, .int b), (3, .int v)]) (st' := [.ref (P.1 + 60), .int a, .int b]) (h' := h) rfl rfl rfl ?_
    refine jx_gf (i := 60) rfl rfl hH (by decide) (hH.2 60 _ rfl).1 rfl hY ?_
    refine az_X_step (pc' := 15) (ls' := [(0, .ref (P.1 + 60)), (1, .int a), (2, .int b), (3, .int v)]) (st' := [.int 1, .int Y, .int a, .int b]) (h' := h) rfl rfl rfl ?_
    refine az_X_step (pc' := 16) (ls' := [(0, .ref (P.1 + 60)), (1, .int a), (2, .int b), (3, .int v)]) (st' := [.int (Y - 1), .int a, .int b]) (h' := h) rfl rfl rfl ?_
    refine az_X_call (m' := 202) (as := [.int b, .int a, .int (Y - 1)]) (rest := []) rfl rfl rfl rfl rfl rfl ?_
    refine (rin_ok b a (Y - 1)).mono ?_
    rintro rv16 h16 ⟨q16, z16, rfl, ez16⟩
    subst h16
    show az_X P _ 288 19 [(0, .ref (P.1 + 60)), (1, .int a), (2, .int b), (3, .int v)] [.int z16] _ _
    refine jx_if (t := 24) rfl rfl rfl (fun hc19 => ?_) (fun hc19 => ?_)
    · have g19 := jc1_ne_t hc19
      refine az_X_step (pc' := 25) (ls' := [(0, .ref (P.1 + 60)), (1, .int a), (2, .int b), (3, .int v)]) (st' := [.int 0]) (h' := h) rfl rfl rfl ?_
      refine az_X_step (pc' := 27) (ls' := [(4, .int 0), (0, .ref (P.1 + 60)), (1, .int a), (2, .int b), (3, .int v)]) (st' := []) (h' := h) rfl rfl rfl ?_
      refine az_X_step (pc' := 28) (ls' := [(4, .int 0), (0, .ref (P.1 + 60)), (1, .int a), (2, .int b), (3, .int v)]) (st' := [.int a]) (h' := h) rfl rfl rfl ?_
      refine az_X_step (pc' := 30) (ls' := [(5, .int a), (4, .int 0), (0, .ref (P.1 + 60)), (1, .int a), (2, .int b), (3, .int v)]) (st' := []) (h' := h) rfl rfl rfl ?_
      unfold jsF
      rw [if_pos (by omega)]
      exact (Nat.zero_add (b.toInt + 1 - a.toInt).toNat) ▸ sbt1 hH a b v (by omega) (by omega) hv (b.toInt + 1 - a.toInt).toNat 0 0 a (by show (0 : Int32).toInt = 0; decide) (by omega) (by omega)
    · have g19 := jc1_ne_f hc19
      refine az_X_step (pc' := 23) (ls' := [(0, .ref (P.1 + 60)), (1, .int a), (2, .int b), (3, .int v)]) (st' := [.int (-1)]) (h' := h) rfl rfl rfl ?_
      refine jx_ret rfl rfl rfl ?_
      exact ⟨rfl, -1, rfl, by unfold jsF; rw [if_neg (by omega)]; decide⟩
