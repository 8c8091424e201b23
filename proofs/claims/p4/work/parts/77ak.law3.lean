set_option maxRecDepth 100000
/-! places that hold one of two objects -/
section Jnr
variable {P : si_P} {d mi pc : Nat} {y : si_M} {ls : si_L} {st : List Value} {h : si_H} {Q : Option Value → si_H → Prop} {q : Nat × Nat × Nat}
theorem jn_rf2 {i k a b ci : Nat} {l : List az_Q} (hH : az_HI P az_tb h) (he : az_tb[i]? = some (.inl (ci, l))) (hq : l[k]? = some (.inr [a, b])) : h.2.2 i k = .ref (P.1 + a) ∨ h.2.2 i k = .ref (P.1 + b) := by
  obtain ⟨-, h2⟩ := hH.2 i _ he
  obtain ⟨j, hj, hv⟩ := h2 k _ hq
  rcases List.mem_cons.mp hj with e | e
  · subst e
    exact Or.inl hv
  · rcases List.mem_singleton.mp e with rfl
    exact Or.inr hv
theorem jn_pfr {i k ci n idx q' c : Nat} {l : List az_Q} {cs : List Nat} (hy : si_m mi = some y) (he : si_fetch mi pc = some (.putfield idx, 3, ci, k, q')) (hH : az_HI P az_tb h) (hi' : i < az_tb.length) (hb : az_tb[i]? = some (.inl (ci, l))) (hs : h.2.1 i = .inl (ci, n)) (hn : ((si_cl[ci]?).map (fun q => q.2.2)).getD 0 = n) (hq : l[k]? = some (.inr cs)) (hc : c ∈ cs) (hty : ∀ v : Nat, narrow (si_fty ci k) (.ref v) = .ref v ∧ fits (si_fty ci k) (.ref v) = true) (hfin : si_fin ci k = false) (kk : ∀ h' : si_H, az_HI P az_tb h' → az_same_out [(i, k)] h h' → az_X P d mi (pc + 3) ls st h' Q) : az_X P d mi pc ls (.ref (P.1 + c) :: .ref (P.1 + i) :: st) h Q := by
  refine az_X_step (pc' := pc + 3) (ls' := ls) (st' := st) (h' := (h.1, h.2.1, si_set h.2.2 i k (.ref (P.1 + c)))) hy he ?_ (kk _ (az_HI_set hH hb (fun q2 hq2 => ?_)) (az_out_set (by unfold az_in; rw [Bool.or_eq_true]; exact Or.inl (by simp))))
  · unfold si_step
    dsimp only
    rw [if_pos rfl, jix hH hi']
    dsimp only
    rw [if_pos ⟨by rw [hs, hn], (hty _).1, (hty _).2, Or.inl hfin⟩]
  · cases hq.symm.trans hq2
    exact ⟨c, hc, rfl⟩
theorem jm_astore_n {k : Fin 4} {x : Nat} {l l' : List (Nat × Value)} (hy : si_m mi = some y) (he : si_fetch mi pc = some (.astore_n k, 1, q)) (hk : (k : Nat) + 1 ≤ y.2.2.2.1) (hl : jM l ls) (h' : l' = ((k : Nat), Value.ref x) :: l.filter (fun q => !(q.1 == (k : Nat)))) (hc : l.all (fun q => q.2.category == 1) = true) (kk : ∀ ls' : si_L, jM l' ls' → az_X P d mi (pc + 1) ls' st h Q) : az_X P d mi pc ls (.ref x :: st) h Q := by
  refine az_X_step (pc' := pc + 1) (ls' := si_st1 ls k (.ref x)) (st' := st) (h' := h) hy he ?_ (kk _ (jM_st hl h' hc))
  unfold si_step
  dsimp only
  show (if si_kd (.ref x) 2 = true ∧ (k : Nat) + (Value.ref x).category ≤ y.2.2.2.1 then some (pc + 1, if (Value.ref x).category = 2 then si_st2 ls k (.ref x) else si_st1 ls k (.ref x), st, h) else none) = _
  rw [if_pos ⟨rfl, hk⟩]
  all_goals rfl
end Jnr
theorem thas_ok {P : si_P} {d : Nat} {h : si_H} (hH : az_HI P az_tb h) (i : Int32) : az_X P d 138 0 (lv_args 0 [.ref (P.1 + 12), .int i]) [] h (fun rv h' => h' = h ∧ ∃ z : Int32, rv = some (.int z) ∧ ((z.toInt = 1 ∧ i.toInt ≤ ja h 12 1) ∨ (z.toInt = 0 ∧ ja h 12 1 < i.toInt))) := by
  have hl : jM [(0, .ref (P.1 + 12)), (1, .int i)] (lv_args 0 [.ref (P.1 + 12), .int i]) := jM_args [0, 1] rfl (by decide)
  generalize lv_args 0 [.ref (P.1 + 12), .int i] = ls at hl
  have k0 : (0 : Int32).toInt = 0 := by decide
  have k1 : (1 : Int32).toInt = 1 := by decide
  refine jm_iload_n (x := i) rfl rfl (jM_at hl 1 rfl) ?_
  refine jm_aload_n (x := P.1 + 12) rfl rfl (jM_at hl 0 rfl) ?_
  refine jn_gf (i := 12) (k := 1) rfl rfl hH (by decide) (hH.2 12 _ rfl).1 rfl rfl (fun z2 (ez2 : z2.toInt = ja h 12 1) (bz2 : 0 ≤ z2.toInt ∧ z2.toInt ≤ 260) => ?_)
  refine jx_ic (t := 12) rfl rfl rfl (fun hc5 => ?_) (fun hc5 => ?_)
  · have g5 := jc2_gt_t hc5
    refine az_X_step (pc' := 13) (ls' := ls) (st' := [.int 0]) (h' := h) rfl rfl rfl ?_
    refine jx_retz rfl rfl rfl (by decide) ?_
    exact ⟨rfl, 0, rfl, by omega⟩
  · have g5 := jc2_gt_f hc5
    refine az_X_step (pc' := 9) (ls' := ls) (st' := [.int 1]) (h' := h) rfl rfl rfl ?_
    refine az_X_step (pc' := 13) (ls' := ls) (st' := [.int 1]) (h' := h) rfl rfl rfl ?_
    refine jx_retz rfl rfl rfl (by decide) ?_
    exact ⟨rfl, 1, rfl, by omega⟩
theorem tempty_ok {P : si_P} {d : Nat} {h : si_H} (hH : az_HI P az_tb h) : az_X P d 142 0 (lv_args 0 [.ref (P.1 + 12)]) [] h (fun rv h' => rv = none ∧ az_HI P az_tb h' ∧ az_same_out [(12, 1)] h h' ∧ ja h' 12 1 = 0) := by
  have hl : jM [(0, .ref (P.1 + 12))] (lv_args 0 [.ref (P.1 + 12)]) := jM_args [0] rfl (by decide)
  generalize lv_args 0 [.ref (P.1 + 12)] = ls at hl
  have k0 : (0 : Int32).toInt = 0 := by decide
  refine jm_aload_n (x := P.1 + 12) rfl rfl (jM_at hl 0 rfl) ?_
  refine az_X_step (pc' := 2) (ls' := ls) (st' := [.int 0, .ref (P.1 + 12)]) (h' := h) rfl rfl rfl ?_
  refine jn_pf (i := 12) (k := 1) (x := 0) rfl rfl hH (by decide) rfl (hH.2 12 _ rfl).1 rfl rfl (by decide) (by decide) (by show 0 ≤ _; omega) (by show _ ≤ 260; omega) (fun h2 hH2 hs2 (t2 : ja h2 12 1 = (0 : Int32).toInt) => ?_)
  replace t2 : ja h2 12 1 = 0 := t2.trans (by decide)
  refine jn_retv rfl rfl rfl ?_
  exact ⟨rfl, hH2, (hs2.sub (by decide)), t2⟩
theorem cr_ok {P : si_P} {d : Nat} {h : si_H} (hH : az_HI P az_tb h) (n m : Int32) : az_X P (d + 1) 192 0 (lv_args 0 [.ref (P.1 + 0), .int n, .int m]) [] h (fun rv h' => h' = h ∧ ∃ z : Int32, rv = some (.int z) ∧ ((z.toInt = 1 ∧ 1 ≤ n.toInt ∧ n.toInt ≤ m.toInt ∧ n.toInt ≤ ja h 12 1) ∨ (z.toInt = 0 ∧ ¬ (1 ≤ n.toInt ∧ n.toInt ≤ m.toInt ∧ n.toInt ≤ ja h 12 1)))) := by
  have hl : jM [(0, .ref (P.1 + 0)), (1, .int n), (2, .int m)] (lv_args 0 [.ref (P.1 + 0), .int n, .int m]) := jM_args [0, 1, 2] rfl (by decide)
  generalize lv_args 0 [.ref (P.1 + 0), .int n, .int m] = ls at hl
  have k0 : (0 : Int32).toInt = 0 := by decide
  have k1 : (1 : Int32).toInt = 1 := by decide
  refine jm_iload_n (x := n) rfl rfl (jM_at hl 1 rfl) ?_
  refine az_X_step (pc' := 2) (ls' := ls) (st' := [.int 1, .int n]) (h' := h) rfl rfl rfl ?_
  refine jx_ic (t := 25) rfl rfl rfl (fun hc2 => ?_) (fun hc2 => ?_)
  · have g2 := jc2_lt_t hc2
    refine az_X_step (pc' := 26) (ls' := ls) (st' := [.int 0]) (h' := h) rfl rfl rfl ?_
    refine jx_retz rfl rfl rfl (by decide) ?_
    exact ⟨rfl, 0, rfl, by omega⟩
  · have g2 := jc2_lt_f hc2
    refine jm_iload_n (x := n) rfl rfl (jM_at hl 1 rfl) ?_
    refine jm_iload_n (x := m) rfl rfl (jM_at hl 2 rfl) ?_
    refine jx_ic (t := 25) rfl rfl rfl (fun hc7 => ?_) (fun hc7 => ?_)
    · have g7 := jc2_gt_t hc7
      refine az_X_step (pc' := 26) (ls' := ls) (st' := [.int 0]) (h' := h) rfl rfl rfl ?_
      refine jx_retz rfl rfl rfl (by decide) ?_
      exact ⟨rfl, 0, rfl, by omega⟩
    · have g7 := jc2_gt_f hc7
      refine jm_aload_n (x := P.1 + 0) rfl rfl (jM_at hl 0 rfl) ?_
      refine jx_gf (i := 0) rfl rfl hH (by decide) (hH.2 0 _ rfl).1 rfl (jx_rf hH rfl rfl) ?_
      refine jm_iload_n (x := n) rfl rfl (jM_at hl 1 rfl) ?_
      refine az_X_call (m' := 138) (as := [.ref (P.1 + 12), .int n]) (rest := []) rfl rfl rfl rfl rfl ?_ ?_
      · unfold si_call
        dsimp only
        rw [if_pos ⟨rfl, rfl⟩]
        show (match si_ix P h (P.1 + 12) with | some i => _ | none => none) = _
        rw [jix hH (by decide)]
        dsimp only
        rw [(hH.2 12 _ rfl).1]
        rfl
      refine (thas_ok hH n).mono ?_
      rintro rv15 h15 ⟨q15, z15, rfl, ez15⟩
      subst h15
      show az_X P _ 192 18 ls [.int z15] _ _
      refine jx_if (t := 25) rfl rfl rfl (fun hc18 => ?_) (fun hc18 => ?_)
      · have g18 := jc1_eq_t hc18
        refine az_X_step (pc' := 26) (ls' := ls) (st' := [.int 0]) (h' := h) rfl rfl rfl ?_
        refine jx_retz rfl rfl rfl (by decide) ?_
        exact ⟨rfl, 0, rfl, by omega⟩
      · have g18 := jc1_eq_f hc18
        refine az_X_step (pc' := 22) (ls' := ls) (st' := [.int 1]) (h' := h) rfl rfl rfl ?_
        refine az_X_step (pc' := 26) (ls' := ls) (st' := [.int 1]) (h' := h) rfl rfl rfl ?_
        refine jx_retz rfl rfl rfl (by decide) ?_
        exact ⟨rfl, 1, rfl, by omega⟩
theorem rd_la {P : si_P} (hxa : P.2.1 < P.1) {d : Nat} {hh : Int → Int} {n : Int} (hn : 1 ≤ n ∧ n ≤ 240) (hh1 : ∀ i : Int, hh i ≤ 255) (hkk : P.2.2.2.2 1 ≠ P.2.2.2.2 2) {h0 : si_H} : ∀ (k j : Nat) (T U : Int32) (h : si_H) (ls : si_L), jM [(3, .int T), (2, .int U), (0, .ref (P.1 + 35)), (1, .ref (P.1 + 14))] ls → az_HI P az_tb h → az_same_out [(14, 2), (14, 3), (35, 6), (35, 7), (36, 1000000), (37, 1000000), (38, 1000000), (39, 1000000), (40, 1000000)] h0 h → ja h 14 1 = n → jBY h n hh → T.toInt = j → j + k = 17 → pyW hh n (ja h 14 2) (ja h 14 3) U.toInt (ja h 35 7) j → az_X P (d + 23) 93 14 ls [] h (fun rv h' => ∃ z : Int32, rv = some (.int z) ∧ az_HI P az_tb h' ∧ az_same_out [(14, 2), (14, 3), (35, 6), (35, 7), (36, 1000000), (37, 1000000), (38, 1000000), (39, 1000000), (40, 1000000)] h0 h' ∧ pyR hh n (0, 0, 0, 0, [], 0) z.toInt) := by
  intro k
  induction k with
  | zero =>
    intro j T U h ls hl hH hs e1 hb eT hj hw
    have bp : 0 ≤ ja h 14 2 ∧ ja h 14 2 ≤ 241 := ja_bd hH (i := 14) (k := 2) rfl
    have bF : -7000 ≤ ja h 14 3 ∧ ja h 14 3 ≤ 0 := ja_bd hH (i := 14) (k := 3) rfl
    have hbn := hb.2
    rcases hw with ⟨m1, f0, qn, sz, j16, hL⟩ | ⟨m0, hR⟩
    · exfalso
      omega
    · have k0 : (0 : Int32).toInt = 0 := by decide
      have k16 : (16 : Int32).toInt = 16 := by decide
      refine jm_iload_n (x := T) rfl rfl (jM_at hl 0 rfl) ?_
      refine az_X_step (pc' := 17) (ls' := ls) (st' := [.int 16, .int T]) (h' := h) rfl rfl rfl ?_
      refine jx_ic (t := 178) rfl rfl rfl (fun hc17 => ?_) (fun hc17 => ?_)
      · have g17 := jc2_gt_t hc17
        refine jm_aload_n (x := P.1 + 14) rfl rfl (jM_at hl 3 rfl) ?_
        refine jm_aload_n (x := P.1 + 35) rfl rfl (jM_at hl 2 rfl) ?_
        refine jn_gf (i := 35) (k := 7) rfl rfl hH (by decide) (hH.2 35 _ rfl).1 rfl rfl (fun z180 (ez180 : z180.toInt = ja h 35 7) (bz180 : 0 ≤ z180.toInt ∧ z180.toInt ≤ 16) => ?_)
        refine az_X_call (m' := 129) (as := [.ref (P.1 + 14), .int z180]) (rest := []) rfl rfl rfl rfl rfl ?_ ?_
        · unfold si_call
          dsimp only
          rw [if_pos ⟨rfl, rfl⟩]
          show (match si_ix P h (P.1 + 14) with | some i => _ | none => none) = _
          rw [jix hH (by decide)]
          dsimp only
          rw [(hH.2 14 _ rfl).1]
          rfl
        refine (aw_ok hH e1 rfl rfl z180).mono ?_
        rintro rv183 h183 ⟨z183, rfl, hH183, hs183, f183⟩
        show az_X P _ 93 186 ls [.int z183] _ _
        refine jx_ret rfl rfl rfl ?_
        exact ⟨z183, rfl, hH183, hs.tr (hs183.sub (by decide)), pyW_end m0 hR (by omega)⟩
      · have g17 := jc2_gt_f hc17
        refine jm_iload_n (x := U) rfl rfl (jM_at hl 1 rfl) ?_
        refine jx_if (t := 178) rfl rfl rfl (fun hc21 => ?_) (fun hc21 => ?_)
        · have g21 := jc1_eq_t hc21
          refine jm_aload_n (x := P.1 + 14) rfl rfl (jM_at hl 3 rfl) ?_
          refine jm_aload_n (x := P.1 + 35) rfl rfl (jM_at hl 2 rfl) ?_
          refine jn_gf (i := 35) (k := 7) rfl rfl hH (by decide) (hH.2 35 _ rfl).1 rfl rfl (fun z180 (ez180 : z180.toInt = ja h 35 7) (bz180 : 0 ≤ z180.toInt ∧ z180.toInt ≤ 16) => ?_)
          refine az_X_call (m' := 129) (as := [.ref (P.1 + 14), .int z180]) (rest := []) rfl rfl rfl rfl rfl ?_ ?_
          · unfold si_call
            dsimp only
            rw [if_pos ⟨rfl, rfl⟩]
            show (match si_ix P h (P.1 + 14) with | some i => _ | none => none) = _
            rw [jix hH (by decide)]
            dsimp only
            rw [(hH.2 14 _ rfl).1]
            rfl
          refine (aw_ok hH e1 rfl rfl z180).mono ?_
          rintro rv183 h183 ⟨z183, rfl, hH183, hs183, f183⟩
          show az_X P _ 93 186 ls [.int z183] _ _
          refine jx_ret rfl rfl rfl ?_
          exact ⟨z183, rfl, hH183, hs.tr (hs183.sub (by decide)), pyW_end m0 hR (by omega)⟩
        · have g21 := jc1_eq_f hc21
          exfalso
          omega
  | succ k ih =>
    intro j T U h ls hl hH hs e1 hb eT hj hw
    have bp : 0 ≤ ja h 14 2 ∧ ja h 14 2 ≤ 241 := ja_bd hH (i := 14) (k := 2) rfl
    have bF : -7000 ≤ ja h 14 3 ∧ ja h 14 3 ≤ 0 := ja_bd hH (i := 14) (k := 3) rfl
    have hbn := hb.2
    rcases hw with ⟨m1, f0, qn, sz, j16, hL⟩ | ⟨m0, hR⟩
    · have k0 : (0 : Int32).toInt = 0 := by decide
      have k1 : (1 : Int32).toInt = 1 := by decide
      have k4 : (4 : Int32).toInt = 4 := by decide
      have k16 : (16 : Int32).toInt = 16 := by decide
      have k40 : (40 : Int32).toInt = 40 := by decide
      have k41 : (41 : Int32).toInt = 41 := by decide
      have k46 : (46 : Int32).toInt = 46 := by decide
      have k59 : (59 : Int32).toInt = 59 := by decide
      have k120 : (120 : Int32).toInt = 120 := by decide
      refine jm_iload_n (x := T) rfl rfl (jM_at hl 0 rfl) ?_
      refine az_X_step (pc' := 17) (ls' := ls) (st' := [.int 16, .int T]) (h' := h) rfl rfl rfl ?_
      refine jx_ic (t := 178) rfl rfl rfl (fun hc17 => ?_) (fun hc17 => ?_)
      · have g17 := jc2_gt_t hc17
        exfalso
        omega
      · have g17 := jc2_gt_f hc17
        refine jm_iload_n (x := U) rfl rfl (jM_at hl 1 rfl) ?_
        refine jx_if (t := 178) rfl rfl rfl (fun hc21 => ?_) (fun hc21 => ?_)
        · have g21 := jc1_eq_t hc21
          exfalso
          omega
        · have g21 := jc1_eq_f hc21
          refine jm_aload_n (x := P.1 + 14) rfl rfl (jM_at hl 3 rfl) ?_
          refine az_X_call (m' := 121) (as := [.ref (P.1 + 14)]) (rest := []) rfl rfl rfl rfl rfl ?_ ?_
          · unfold si_call
            dsimp only
            rw [if_pos ⟨rfl, rfl⟩]
            show (match si_ix P h (P.1 + 14) with | some i => _ | none => none) = _
            rw [jix hH (by decide)]
            dsimp only
            rw [(hH.2 14 _ rfl).1]
            rfl
          refine (nx_ok hxa hH hn e1 rfl f0 hb).mono ?_
          rintro rv25 h25 ⟨q25, z25, rfl, ez25⟩
          subst h25
          rw [if_pos rfl] at ez25
          show az_X P _ 93 28 ls [.int z25] _ _
          refine jm_istore (l' := [(4, .int z25), (3, .int T), (2, .int U), (0, .ref (P.1 + 35)), (1, .ref (P.1 + 14))]) rfl rfl (by decide) hl rfl rfl (fun ls28 hl28 => ?_)
          refine jm_iload (x := z25) rfl rfl (jM_at hl28 0 rfl) ?_
          refine jx_if (t := 46) rfl rfl rfl (fun hc32 => ?_) (fun hc32 => ?_)
          · have g32 := jc1_lt_t hc32
            have kin : ¬ pyki (hh (ja h 14 2)) := by
              rw [← ez25]
              omega
            refine jm_aload_n (x := P.1 + 14) rfl rfl (jM_at hl28 4 rfl) ?_
            refine az_X_step (pc' := 48) (ls' := ls28) (st' := [.int 1, .ref (P.1 + 14)]) (h' := h) rfl rfl rfl ?_
            refine jm_aload_n (x := P.1 + 14) rfl rfl (jM_at hl28 4 rfl) ?_
            refine az_X_call (m' := 120) (as := [.ref (P.1 + 14)]) (rest := [.int 1, .ref (P.1 + 14)]) rfl rfl rfl rfl rfl ?_ ?_
            · unfold si_call
              dsimp only
              rw [if_pos ⟨rfl, rfl⟩]
              show (match si_ix P h (P.1 + 14) with | some i => _ | none => none) = _
              rw [jix hH (by decide)]
              dsimp only
              rw [(hH.2 14 _ rfl).1]
              rfl
            refine (pl_ok hH).mono ?_
            rintro rv49 h49 ⟨q49, z49, rfl, ez49⟩
            subst h49
            show az_X P _ 93 52 ls28 [.int z49, .int 1, .ref (P.1 + 14)] _ _
            refine az_X_call (m' := 125) (as := [.ref (P.1 + 14), .int 1, .int z49]) (rest := []) rfl rfl rfl rfl rfl ?_ ?_
            · unfold si_call
              dsimp only
              rw [if_pos ⟨rfl, rfl⟩]
              show (match si_ix P h (P.1 + 14) with | some i => _ | none => none) = _
              rw [jix hH (by decide)]
              dsimp only
              rw [(hH.2 14 _ rfl).1]
              rfl
            refine (fl_ok hH 1 z49 (by decide) (by omega)).mono ?_
            rintro rv52 h52 ⟨rfl, hH52, hs52, f52⟩
            have o_h52 : az_same_out [(14, 2), (14, 3), (35, 6), (35, 7), (36, 1000000), (37, 1000000), (38, 1000000), (39, 1000000), (40, 1000000)] h h52 := (hs52.sub (by decide))
            have e1_h52 : ja h52 14 1 = n := (jso o_h52 (by decide)).trans e1
            have hb_h52 : jBY h52 n hh := jBY_so o_h52 (by decide) hb
            have r2_h52 : ja h52 14 2 = ja h 14 2 := jso hs52 (by decide)
            show az_X P _ 93 55 ls28 [] _ _
            refine az_X_step (pc' := 165) (ls' := ls28) (st' := []) (h' := h52) rfl rfl rfl ?_
            have tr0 := trivial
            refine jm_aload_n (x := P.1 + 14) rfl rfl (jM_at hl28 4 rfl) ?_
            refine az_X_step (pc' := 168) (ls' := ls28) (st' := [.int 59, .ref (P.1 + 14)]) (h' := h52) rfl rfl rfl ?_
            refine az_X_call (m' := 123) (as := [.ref (P.1 + 14), .int 59]) (rest := []) rfl rfl rfl rfl rfl ?_ ?_
            · unfold si_call
              dsimp only
              rw [if_pos ⟨rfl, rfl⟩]
              show (match si_ix P h52 (P.1 + 14) with | some i => _ | none => none) = _
              rw [jix hH52 (by decide)]
              dsimp only
              rw [(hH52.2 14 _ rfl).1]
              rfl
            refine (tk2_ok hxa hH52 hn e1_h52 rfl rfl hb_h52 59 (by decide)).mono ?_
            rintro rv168 h168 ⟨z168, rfl, hH168, hs168, f168⟩
            have o_h168 : az_same_out [(14, 2), (14, 3), (35, 6), (35, 7), (36, 1000000), (37, 1000000), (38, 1000000), (39, 1000000), (40, 1000000)] h h168 := ((hs52.sub (by decide)).tr (hs168.sub (by decide)))
            have e1_h168 : ja h168 14 1 = n := (jso o_h168 (by decide)).trans e1
            have hb_h168 : jBY h168 n hh := jBY_so o_h168 (by decide) hb
            have r3_h168 : ja h168 14 3 = ja h52 14 3 := jso hs168 (by decide)
            show az_X P _ 93 171 ls28 [.int z168] _ _
            refine jm_istore_n (l' := [(2, .int z168), (4, .int z25), (3, .int T), (0, .ref (P.1 + 35)), (1, .ref (P.1 + 14))]) rfl rfl (by decide) hl28 rfl rfl (fun ls171 hl171 => ?_)
            refine jn_iinc (x := T) rfl rfl (by decide) (jM_at hl171 2 rfl) hl171 rfl (by decide) (by omega) (by omega) (fun z172 (ez172 : z172.toInt = T.toInt + 1) ls172 (hl172 : jM [(3, .int z172), (2, .int z168), (4, .int z25), (0, .ref (P.1 + 35)), (1, .ref (P.1 + 14))] ls172) => ?_)
            refine az_X_step (pc' := 14) (ls' := ls172) (st' := []) (h' := h168) rfl rfl rfl ?_
            rw [k59] at f168
            have q5 := f52.1 f0
            rw [k1] at q5
            have hO : pyO hh n (ja h52 14 2) (ja h52 14 3) (0, 0, 0, 0, [], 0) (fun q => (7, 0, 0, q, [], (j : Int) + 1)) := Or.inr ⟨by omega, by
              rw [show ja h52 14 3 = -1000 - ja h 14 2 by omega]
              exact hL _ (ru_no kin)⟩
            refine ih (j + 1) z172 z168 h168 ls172 (jM_pick hl172 [0, 1, 3, 4] rfl) hH168 (hs.tr ((hs52.sub (by decide)).tr (hs168.sub (by decide)))) e1_h168 hb_h168 (by omega) (by omega) ?_
            rw [r3_h168, show (((j + 1 : Nat)) : Int) = (j : Int) + 1 by omega]
            exact pyW_step hbn hO (fun e => absurd e (by omega)) (Or.inr (by omega)) f168
          · have g32 := jc1_lt_f hc32
            refine az_X_step (pc' := 37) (ls' := ls28) (st' := [.ref (P.2.2.2.2 2)]) (h' := h) rfl rfl rfl ?_
            refine jm_iload (x := z25) rfl rfl (jM_at hl28 0 rfl) ?_
            refine az_X_step (pc' := 40) (ls' := ls28) (st' := [.int ((z25.toUInt32 % 65536).toInt32), .ref (P.2.2.2.2 2)]) (h' := h) rfl rfl rfl ?_
            refine az_X_prim (st' := [.int (si_find ((z25.toUInt32 % 65536).toInt32) (si_text 2) 0)]) rfl rfl rfl rfl rfl rfl ?_ (by omega) ?_
            · show (if si_wide [] = true then (if P.2.2.2.2 2 = P.2.2.2.2 1 then some _ else if P.2.2.2.2 2 = P.2.2.2.2 2 then some _ else none) else none) = _
              rw [if_pos (by decide), if_neg (fun e => hkk e.symm), if_pos rfl]
            show az_X P _ 93 43 ls28 [.int (si_find ((z25.toUInt32 % 65536).toInt32) (si_text 2) 0)] _ _
            have ki := ki_find z25 (by have := hh1 (ja h 14 2); omega)
            refine jx_if (t := 58) rfl rfl rfl (fun hc43 => ?_) (fun hc43 => ?_)
            · have g43 := jc1_ge_t hc43
              have kiy : pyki z25.toInt := by omega
              clear ki
              refine jm_iload_n (x := T) rfl rfl (jM_at hl28 1 rfl) ?_
              refine az_X_step (pc' := 61) (ls' := ls28) (st' := [.int 16, .int T]) (h' := h) rfl rfl rfl ?_
              refine jx_ic (t := 76) rfl rfl rfl (fun hc61 => ?_) (fun hc61 => ?_)
              · have g61 := jc2_ne_t hc61
                have hlt := jBY_lt hb (p := ja h 14 2) (by omega)
                have jlt : (j : Int) + 1 ≤ 16 := by omega
                refine jm_aload_n (x := P.1 + 14) rfl rfl (jM_at hl28 4 rfl) ?_
                refine az_X_call (m' := 122) (as := [.ref (P.1 + 14)]) (rest := []) rfl rfl rfl rfl rfl ?_ ?_
                · unfold si_call
                  dsimp only
                  rw [if_pos ⟨rfl, rfl⟩]
                  show (match si_ix P h (P.1 + 14) with | some i => _ | none => none) = _
                  rw [jix hH (by decide)]
                  dsimp only
                  rw [(hH.2 14 _ rfl).1]
                  rfl
                refine (sp_ok hH (by omega)).mono ?_
                rintro rv77 h77 ⟨rfl, hH77, hs77, f77⟩
                have o_h77 : az_same_out [(14, 2), (14, 3), (35, 6), (35, 7), (36, 1000000), (37, 1000000), (38, 1000000), (39, 1000000), (40, 1000000)] h h77 := (hs77.sub (by decide))
                have e1_h77 : ja h77 14 1 = n := (jso o_h77 (by decide)).trans e1
                have hb_h77 : jBY h77 n hh := jBY_so o_h77 (by decide) hb
                have r3_h77 : ja h77 14 3 = ja h 14 3 := jso hs77 (by decide)
                show az_X P _ 93 80 ls28 [] _ _
                refine jm_aload_n (x := P.1 + 35) rfl rfl (jM_at hl28 3 rfl) ?_
                refine jx_gf (i := 35) rfl rfl hH77 (by decide) (hH77.2 35 _ rfl).1 rfl (jx_rf hH77 rfl rfl) ?_
                refine jm_iload_n (x := T) rfl rfl (jM_at hl28 1 rfl) ?_
                refine jm_iload (x := z25) rfl rfl (jM_at hl28 0 rfl) ?_
                refine jn_ias (i := 38) (x := T) (v := z25) rfl rfl hH77 (by decide) rfl (by omega) (by show _ < ((16 : Nat) : Int); omega) (by show (-2147483648) ≤ _; omega) (by show _ ≤ 2147483647; omega) (fun h87 hH87 hs87 t87 u87 => ?_)
                have o_h87 : az_same_out [(14, 2), (14, 3), (35, 6), (35, 7), (36, 1000000), (37, 1000000), (38, 1000000), (39, 1000000), (40, 1000000)] h h87 := ((hs77.sub (by decide)).tr (hs87.sub (by decide)))
                have e1_h87 : ja h87 14 1 = n := (jso o_h87 (by decide)).trans e1
                have hb_h87 : jBY h87 n hh := jBY_so o_h87 (by decide) hb
                have r3_h87 : ja h87 14 3 = ja h77 14 3 := jso hs87 (by decide)
                have r2_h87 : ja h87 14 2 = ja h77 14 2 := jso hs87 (by decide)
                refine jm_aload_n (x := P.1 + 35) rfl rfl (jM_at hl28 3 rfl) ?_
                refine jx_gf (i := 35) rfl rfl hH87 (by decide) (hH87.2 35 _ rfl).1 rfl (jx_rf hH87 rfl rfl) ?_
                refine jm_iload_n (x := T) rfl rfl (jM_at hl28 1 rfl) ?_
                refine jm_aload_n (x := P.1 + 35) rfl rfl (jM_at hl28 3 rfl) ?_
                refine jn_gf (i := 35) (k := 6) rfl rfl hH87 (by decide) (hH87.2 35 _ rfl).1 rfl rfl (fun z94 (ez94 : z94.toInt = ja h87 35 6) (bz94 : 0 ≤ z94.toInt ∧ z94.toInt ≤ 272) => ?_)
                replace ez94 : z94.toInt = ja h 35 6 := ez94.trans ((jso hs87 (by decide)).trans (jso hs77 (by decide)))
                refine jn_ias (i := 39) (x := T) (v := z94) rfl rfl hH87 (by decide) rfl (by omega) (by show _ < ((16 : Nat) : Int); omega) (by show 0 ≤ _; omega) (by show _ ≤ 272; omega) (fun h97 hH97 hs97 t97 u97 => ?_)
                have o_h97 : az_same_out [(14, 2), (14, 3), (35, 6), (35, 7), (36, 1000000), (37, 1000000), (38, 1000000), (39, 1000000), (40, 1000000)] h h97 := ((hs77.sub (by decide)).tr ((hs87.sub (by decide)).tr (hs97.sub (by decide))))
                have e1_h97 : ja h97 14 1 = n := (jso o_h97 (by decide)).trans e1
                have hb_h97 : jBY h97 n hh := jBY_so o_h97 (by decide) hb
                have r3_h97 : ja h97 14 3 = ja h87 14 3 := jso hs97 (by decide)
                have r2_h97 : ja h97 14 2 = ja h87 14 2 := jso hs97 (by decide)
                have p97 : ja h97 14 2 = ja h 14 2 + 1 := by omega
                have q97 : ja h97 14 3 = 0 := by omega
                refine jm_iload (x := z25) rfl rfl (jM_at hl28 0 rfl) ?_
                refine az_X_step (pc' := 102) (ls' := ls28) (st' := [.int 120, .int z25]) (h' := h97) rfl rfl rfl ?_
                refine jx_ic (t := 119) rfl rfl rfl (fun hc102 => ?_) (fun hc102 => ?_)
                · have g102 := jc2_eq_t hc102
                  have kx : z25.toInt = 120 := by omega
                  refine jm_aload_n (x := P.1 + 35) rfl rfl (jM_at hl28 3 rfl) ?_
                  refine jx_gf (i := 35) rfl rfl hH97 (by decide) (hH97.2 35 _ rfl).1 rfl (jx_rf hH97 rfl rfl) ?_
                  refine jm_iload_n (x := T) rfl rfl (jM_at hl28 1 rfl) ?_
                  refine jm_aload_n (x := P.1 + 35) rfl rfl (jM_at hl28 3 rfl) ?_
                  refine jn_gf (i := 35) (k := 6) rfl rfl hH97 (by decide) (hH97.2 35 _ rfl).1 rfl rfl (fun z125 (ez125 : z125.toInt = ja h97 35 6) (bz125 : 0 ≤ z125.toInt ∧ z125.toInt ≤ 272) => ?_)
                  replace ez125 : z125.toInt = ja h 35 6 := ez125.trans ((jso hs97 (by decide)).trans ((jso hs87 (by decide)).trans (jso hs77 (by decide))))
                  refine jn_ias (i := 40) (x := T) (v := z125) rfl rfl hH97 (by decide) rfl (by omega) (by show _ < ((16 : Nat) : Int); omega) (by show 0 ≤ _; omega) (by show _ ≤ 272; omega) (fun h128 hH128 hs128 t128 u128 => ?_)
                  have o_h128 : az_same_out [(14, 2), (14, 3), (35, 6), (35, 7), (36, 1000000), (37, 1000000), (38, 1000000), (39, 1000000), (40, 1000000)] h h128 := ((hs77.sub (by decide)).tr ((hs87.sub (by decide)).tr ((hs97.sub (by decide)).tr (hs128.sub (by decide)))))
                  have e1_h128 : ja h128 14 1 = n := (jso o_h128 (by decide)).trans e1
                  have hb_h128 : jBY h128 n hh := jBY_so o_h128 (by decide) hb
                  have r3_h128 : ja h128 14 3 = ja h97 14 3 := jso hs128 (by decide)
                  have r2_h128 : ja h128 14 2 = ja h97 14 2 := jso hs128 (by decide)
                  have b128 : 0 ≤ ja h128 14 2 ∧ ja h128 14 2 ≤ 241 := ja_bd hH128 (i := 14) (k := 2) rfl
                  have p128 : ja h128 14 2 = ja h 14 2 + 1 := by omega
                  have q128 : ja h128 14 3 = 0 := by omega
                  refine jm_aload_n (x := P.1 + 14) rfl rfl (jM_at hl28 4 rfl) ?_
                  refine az_X_step (pc' := 132) (ls' := ls28) (st' := [.int 40, .ref (P.1 + 14)]) (h' := h128) rfl rfl rfl ?_
                  refine az_X_call (m' := 124) (as := [.ref (P.1 + 14), .int 40]) (rest := []) rfl rfl rfl rfl rfl ?_ ?_
                  · unfold si_call
                    dsimp only
                    rw [if_pos ⟨rfl, rfl⟩]
                    show (match si_ix P h128 (P.1 + 14) with | some i => _ | none => none) = _
                    rw [jix hH128 (by decide)]
                    dsimp only
                    rw [(hH128.2 14 _ rfl).1]
                    rfl
                  refine (ex2_ok hxa hH128 hn e1_h128 rfl rfl hb_h128 40 (by decide)).mono ?_
                  rintro rv132 h132 ⟨rfl, hH132, hs132, f132⟩
                  have o_h132 : az_same_out [(14, 2), (14, 3), (35, 6), (35, 7), (36, 1000000), (37, 1000000), (38, 1000000), (39, 1000000), (40, 1000000)] h h132 := ((hs77.sub (by decide)).tr ((hs87.sub (by decide)).tr ((hs97.sub (by decide)).tr ((hs128.sub (by decide)).tr (hs132.sub (by decide))))))
                  have e1_h132 : ja h132 14 1 = n := (jso o_h132 (by decide)).trans e1
                  have hb_h132 : jBY h132 n hh := jBY_so o_h132 (by decide) hb
                  show az_X P _ 93 135 ls28 [] _ _
                  refine jm_aload_n (x := P.1 + 35) rfl rfl (jM_at hl28 3 rfl) ?_
                  refine jm_aload_n (x := P.1 + 14) rfl rfl (jM_at hl28 4 rfl) ?_
                  refine az_X_step (pc' := 138) (ls' := ls28) (st' := [.int 1, .ref (P.1 + 14), .ref (P.1 + 35)]) (h' := h132) rfl rfl rfl ?_
                  refine az_X_call (m' := 96) (as := [.ref (P.1 + 35), .ref (P.1 + 14), .int 1]) (rest := []) rfl rfl rfl rfl rfl ?_ ?_
                  · unfold si_call
                    dsimp only
                    rw [if_pos ⟨rfl, rfl⟩]
                    show (match si_ix P h132 (P.1 + 35) with | some i => _ | none => none) = _
                    rw [jix hH132 (by decide)]
                    dsimp only
                    rw [(hH132.2 35 _ rfl).1]
                    rfl
                  refine ((tc_a hxa hn hh1 5).2 (d + 22) h132 1 _ _ (by omega) hH132 (by decide) e1_h132 rfl rfl hb_h132 (exR_n hbn (by decide) b128.1 f132)).mono ?_
                  rintro rv138 h138 ⟨rfl, hH138, hs138, f138⟩
                  have o_h138 : az_same_out [(14, 2), (14, 3), (35, 6), (35, 7), (36, 1000000), (37, 1000000), (38, 1000000), (39, 1000000), (40, 1000000)] h h138 := ((hs77.sub (by decide)).tr ((hs87.sub (by decide)).tr ((hs97.sub (by decide)).tr ((hs128.sub (by decide)).tr ((hs132.sub (by decide)).tr (hs138.sub (by decide)))))))
                  have e1_h138 : ja h138 14 1 = n := (jso o_h138 (by decide)).trans e1
                  have hb_h138 : jBY h138 n hh := jBY_so o_h138 (by decide) hb
                  show az_X P _ 93 141 ls28 [] _ _
                  refine jm_aload_n (x := P.1 + 14) rfl rfl (jM_at hl28 4 rfl) ?_
                  refine az_X_step (pc' := 144) (ls' := ls28) (st' := [.int 41, .ref (P.1 + 14)]) (h' := h138) rfl rfl rfl ?_
                  refine az_X_call (m' := 124) (as := [.ref (P.1 + 14), .int 41]) (rest := []) rfl rfl rfl rfl rfl ?_ ?_
                  · unfold si_call
                    dsimp only
                    rw [if_pos ⟨rfl, rfl⟩]
                    show (match si_ix P h138 (P.1 + 14) with | some i => _ | none => none) = _
                    rw [jix hH138 (by decide)]
                    dsimp only
                    rw [(hH138.2 14 _ rfl).1]
                    rfl
                  refine (ex2_ok hxa hH138 hn e1_h138 rfl rfl hb_h138 41 (by decide)).mono ?_
                  rintro rv144 h144 ⟨rfl, hH144, hs144, f144⟩
                  have o_h144 : az_same_out [(14, 2), (14, 3), (35, 6), (35, 7), (36, 1000000), (37, 1000000), (38, 1000000), (39, 1000000), (40, 1000000)] h h144 := ((hs77.sub (by decide)).tr ((hs87.sub (by decide)).tr ((hs97.sub (by decide)).tr ((hs128.sub (by decide)).tr ((hs132.sub (by decide)).tr ((hs138.sub (by decide)).tr (hs144.sub (by decide))))))))
                  have e1_h144 : ja h144 14 1 = n := (jso o_h144 (by decide)).trans e1
                  have hb_h144 : jBY h144 n hh := jBY_so o_h144 (by decide) hb
                  show az_X P _ 93 147 ls28 [] _ _
                  refine jm_aload_n (x := P.1 + 35) rfl rfl (jM_at hl28 3 rfl) ?_
                  refine az_X_step (pc' := 150) (ls' := ls28) (st' := [.int 46, .ref (P.1 + 35)]) (h' := h144) rfl rfl rfl ?_
                  refine az_X_step (pc' := 151) (ls' := ls28) (st' := [.int 0, .int 46, .ref (P.1 + 35)]) (h' := h144) rfl rfl rfl ?_
                  refine az_X_call (m' := 94) (as := [.ref (P.1 + 35), .int 46, .int 0]) (rest := []) rfl rfl rfl rfl rfl ?_ ?_
                  · unfold si_call
                    dsimp only
                    rw [if_pos ⟨rfl, rfl⟩]
                    show (match si_ix P h144 (P.1 + 35) with | some i => _ | none => none) = _
                    rw [jix hH144 (by decide)]
                    dsimp only
                    rw [(hH144.2 35 _ rfl).1]
                    rfl
                  refine (as_a hxa hH144 46 0 (by omega)).mono ?_
                  rintro rv151 h151 ⟨z151, rfl, hH151, hs151, f151⟩
                  have o_h151 : az_same_out [(14, 2), (14, 3), (35, 6), (35, 7), (36, 1000000), (37, 1000000), (38, 1000000), (39, 1000000), (40, 1000000)] h h151 := ((hs77.sub (by decide)).tr ((hs87.sub (by decide)).tr ((hs97.sub (by decide)).tr ((hs128.sub (by decide)).tr ((hs132.sub (by decide)).tr ((hs138.sub (by decide)).tr ((hs144.sub (by decide)).tr (hs151.sub (by decide)))))))))
                  have e1_h151 : ja h151 14 1 = n := (jso o_h151 (by decide)).trans e1
                  have hb_h151 : jBY h151 n hh := jBY_so o_h151 (by decide) hb
                  have r3_h151 : ja h151 14 3 = ja h144 14 3 := jso hs151 (by decide)
                  have r2_h151 : ja h151 14 2 = ja h144 14 2 := jso hs151 (by decide)
                  show az_X P _ 93 154 ls28 [.int z151] _ _
                  refine az_X_step (pc' := 155) (ls' := ls28) (st' := []) (h' := h151) rfl rfl rfl ?_
                  refine jm_aload_n (x := P.1 + 35) rfl rfl (jM_at hl28 3 rfl) ?_
                  refine az_X_step (pc' := 157) (ls' := ls28) (st' := [.ref (P.1 + 35), .ref (P.1 + 35)]) (h' := h151) rfl rfl rfl ?_
                  refine jn_gf (i := 35) (k := 7) rfl rfl hH151 (by decide) (hH151.2 35 _ rfl).1 rfl rfl (fun z157 (ez157 : z157.toInt = ja h151 35 7) (bz157 : 0 ≤ z157.toInt ∧ z157.toInt ≤ 16) => ?_)
                  replace ez157 : z157.toInt = ja h 35 7 := ez157.trans ((jso hs151 (by decide)).trans ((jso hs144 (by decide)).trans ((jso hs138 (by decide)).trans ((jso hs132 (by decide)).trans ((jso hs128 (by decide)).trans ((jso hs97 (by decide)).trans ((jso hs87 (by decide)).trans (jso hs77 (by decide)))))))))
                  refine az_X_step (pc' := 161) (ls' := ls28) (st' := [.int 1, .int z157, .ref (P.1 + 35)]) (h' := h151) rfl rfl rfl ?_
                  refine jn_add (a := z157) (b := 1) rfl rfl (by omega) (by omega) (fun z161 ez161 => ?_)
                  rw [show (1 : Int32).toInt = 1 by decide] at ez161
                  refine jn_pf (i := 35) (k := 7) (x := z161) rfl rfl hH151 (by decide) rfl (hH151.2 35 _ rfl).1 rfl rfl (by decide) (by decide) (by show 0 ≤ _; omega) (by show _ ≤ 16; omega) (fun h162 hH162 hs162 (t162 : ja h162 35 7 = z161.toInt) => ?_)
                  have o_h162 : az_same_out [(14, 2), (14, 3), (35, 6), (35, 7), (36, 1000000), (37, 1000000), (38, 1000000), (39, 1000000), (40, 1000000)] h h162 := ((hs77.sub (by decide)).tr ((hs87.sub (by decide)).tr ((hs97.sub (by decide)).tr ((hs128.sub (by decide)).tr ((hs132.sub (by decide)).tr ((hs138.sub (by decide)).tr ((hs144.sub (by decide)).tr ((hs151.sub (by decide)).tr (hs162.sub (by decide))))))))))
                  have e1_h162 : ja h162 14 1 = n := (jso o_h162 (by decide)).trans e1
                  have hb_h162 : jBY h162 n hh := jBY_so o_h162 (by decide) hb
                  have r3_h162 : ja h162 14 3 = ja h151 14 3 := jso hs162 (by decide)
                  have r2_h162 : ja h162 14 2 = ja h151 14 2 := jso hs162 (by decide)
                  refine jm_aload_n (x := P.1 + 14) rfl rfl (jM_at hl28 4 rfl) ?_
                  refine az_X_step (pc' := 168) (ls' := ls28) (st' := [.int 59, .ref (P.1 + 14)]) (h' := h162) rfl rfl rfl ?_
                  refine az_X_call (m' := 123) (as := [.ref (P.1 + 14), .int 59]) (rest := []) rfl rfl rfl rfl rfl ?_ ?_
                  · unfold si_call
                    dsimp only
                    rw [if_pos ⟨rfl, rfl⟩]
                    show (match si_ix P h162 (P.1 + 14) with | some i => _ | none => none) = _
                    rw [jix hH162 (by decide)]
                    dsimp only
                    rw [(hH162.2 14 _ rfl).1]
                    rfl
                  refine (tk2_ok hxa hH162 hn e1_h162 rfl rfl hb_h162 59 (by decide)).mono ?_
                  rintro rv168 h168 ⟨z168, rfl, hH168, hs168, f168⟩
                  have o_h168 : az_same_out [(14, 2), (14, 3), (35, 6), (35, 7), (36, 1000000), (37, 1000000), (38, 1000000), (39, 1000000), (40, 1000000)] h h168 := ((hs77.sub (by decide)).tr ((hs87.sub (by decide)).tr ((hs97.sub (by decide)).tr ((hs128.sub (by decide)).tr ((hs132.sub (by decide)).tr ((hs138.sub (by decide)).tr ((hs144.sub (by decide)).tr ((hs151.sub (by decide)).tr ((hs162.sub (by decide)).tr (hs168.sub (by decide)))))))))))
                  have e1_h168 : ja h168 14 1 = n := (jso o_h168 (by decide)).trans e1
                  have hb_h168 : jBY h168 n hh := jBY_so o_h168 (by decide) hb
                  have r3_h168 : ja h168 14 3 = ja h162 14 3 := jso hs168 (by decide)
                  show az_X P _ 93 171 ls28 [.int z168] _ _
                  refine jm_istore_n (l' := [(2, .int z168), (4, .int z25), (3, .int T), (0, .ref (P.1 + 35)), (1, .ref (P.1 + 14))]) rfl rfl (by decide) hl28 rfl rfl (fun ls171 hl171 => ?_)
                  refine jn_iinc (x := T) rfl rfl (by decide) (jM_at hl171 2 rfl) hl171 rfl (by decide) (by omega) (by omega) (fun z172 (ez172 : z172.toInt = T.toInt + 1) ls172 (hl172 : jM [(3, .int z172), (2, .int z168), (4, .int z25), (0, .ref (P.1 + 35)), (1, .ref (P.1 + 14))] ls172) => ?_)
                  refine az_X_step (pc' := 14) (ls' := ls172) (st' := []) (h' := h168) rfl rfl rfl ?_
                  rw [k59] at f168
                  rw [k40] at f132
                  rw [k1] at f138
                  rw [k41] at f144
                  have hO1 := ru_ok (hh := hh) (n := n) (i := (j : Int)) (k := z25.toInt) (q2 := ja h128 14 2) (f2 := ja h128 14 3) bp.1 ez25 kiy (by omega) (Or.inl ⟨kx, p128, q128⟩) f132 f138 f144
                  have hO : pyO hh n (ja h162 14 2) (ja h162 14 3) (0, 0, 0, 0, [], 0) (fun q => (7, 0, 0, q, [], (j : Int) + 1)) := by
                    rw [r2_h162.trans r2_h151, r3_h162.trans r3_h151]
                    exact pyO_pre hL hO1
                  refine ih (j + 1) z172 z168 h168 ls172 (jM_pick hl172 [0, 1, 3, 4] rfl) hH168 (hs.tr ((hs77.sub (by decide)).tr ((hs87.sub (by decide)).tr ((hs97.sub (by decide)).tr ((hs128.sub (by decide)).tr ((hs132.sub (by decide)).tr ((hs138.sub (by decide)).tr ((hs144.sub (by decide)).tr ((hs151.sub (by decide)).tr ((hs162.sub (by decide)).tr (hs168.sub (by decide)))))))))))) e1_h168 hb_h168 (by omega) (by omega) ?_
                  rw [r3_h168, show (((j + 1 : Nat)) : Int) = (j : Int) + 1 by omega]
                  exact pyW_step hbn hO (fun e => (((jso hs168 (by decide)).trans t162)).trans (by omega)) (Or.inl jlt) f168
                · have g102 := jc2_eq_f hc102
                  have kx : z25.toInt ≠ 120 := by omega
                  refine jm_aload_n (x := P.1 + 35) rfl rfl (jM_at hl28 3 rfl) ?_
                  refine jm_aload_n (x := P.1 + 14) rfl rfl (jM_at hl28 4 rfl) ?_
                  refine az_X_step (pc' := 108) (ls' := ls28) (st' := [.int 0, .ref (P.1 + 14), .ref (P.1 + 35)]) (h' := h97) rfl rfl rfl ?_
                  refine az_X_call (m' := 98) (as := [.ref (P.1 + 35), .ref (P.1 + 14), .int 0]) (rest := []) rfl rfl rfl rfl rfl ?_ ?_
                  · unfold si_call
                    dsimp only
                    rw [if_pos ⟨rfl, rfl⟩]
                    show (match si_ix P h97 (P.1 + 35) with | some i => _ | none => none) = _
                    rw [jix hH97 (by decide)]
                    dsimp only
                    rw [(hH97.2 35 _ rfl).1]
                    rfl
                  refine ((fx_a hxa hn hh1 6).2 (d + 22) h97 0 _ _ (by omega) hH97 (by decide) e1_h97 rfl rfl hb_h97 (by omega)).mono ?_
                  rintro rv108 h108 ⟨rfl, hH108, hs108, f108⟩
                  have o_h108 : az_same_out [(14, 2), (14, 3), (35, 6), (35, 7), (36, 1000000), (37, 1000000), (38, 1000000), (39, 1000000), (40, 1000000)] h h108 := ((hs77.sub (by decide)).tr ((hs87.sub (by decide)).tr ((hs97.sub (by decide)).tr (hs108.sub (by decide)))))
                  have e1_h108 : ja h108 14 1 = n := (jso o_h108 (by decide)).trans e1
                  have hb_h108 : jBY h108 n hh := jBY_so o_h108 (by decide) hb
                  show az_X P _ 93 111 ls28 [] _ _
                  refine jm_aload_n (x := P.1 + 35) rfl rfl (jM_at hl28 3 rfl) ?_
                  refine az_X_step (pc' := 114) (ls' := ls28) (st' := [.int 46, .ref (P.1 + 35)]) (h' := h108) rfl rfl rfl ?_
                  refine az_X_step (pc' := 115) (ls' := ls28) (st' := [.int 0, .int 46, .ref (P.1 + 35)]) (h' := h108) rfl rfl rfl ?_
                  refine az_X_call (m' := 94) (as := [.ref (P.1 + 35), .int 46, .int 0]) (rest := []) rfl rfl rfl rfl rfl ?_ ?_
                  · unfold si_call
                    dsimp only
                    rw [if_pos ⟨rfl, rfl⟩]
                    show (match si_ix P h108 (P.1 + 35) with | some i => _ | none => none) = _
                    rw [jix hH108 (by decide)]
                    dsimp only
                    rw [(hH108.2 35 _ rfl).1]
                    rfl
                  refine (as_a hxa hH108 46 0 (by omega)).mono ?_
                  rintro rv115 h115 ⟨z115, rfl, hH115, hs115, f115⟩
                  have o_h115 : az_same_out [(14, 2), (14, 3), (35, 6), (35, 7), (36, 1000000), (37, 1000000), (38, 1000000), (39, 1000000), (40, 1000000)] h h115 := ((hs77.sub (by decide)).tr ((hs87.sub (by decide)).tr ((hs97.sub (by decide)).tr ((hs108.sub (by decide)).tr (hs115.sub (by decide))))))
                  have e1_h115 : ja h115 14 1 = n := (jso o_h115 (by decide)).trans e1
                  have hb_h115 : jBY h115 n hh := jBY_so o_h115 (by decide) hb
                  have r3_h115 : ja h115 14 3 = ja h108 14 3 := jso hs115 (by decide)
                  have r2_h115 : ja h115 14 2 = ja h108 14 2 := jso hs115 (by decide)
                  show az_X P _ 93 118 ls28 [.int z115] _ _
                  refine az_X_step (pc' := 119) (ls' := ls28) (st' := []) (h' := h115) rfl rfl rfl ?_
                  have tr1 := trivial
                  refine jm_aload_n (x := P.1 + 35) rfl rfl (jM_at hl28 3 rfl) ?_
                  refine jx_gf (i := 35) rfl rfl hH115 (by decide) (hH115.2 35 _ rfl).1 rfl (jx_rf hH115 rfl rfl) ?_
                  refine jm_iload_n (x := T) rfl rfl (jM_at hl28 1 rfl) ?_
                  refine jm_aload_n (x := P.1 + 35) rfl rfl (jM_at hl28 3 rfl) ?_
                  refine jn_gf (i := 35) (k := 6) rfl rfl hH115 (by decide) (hH115.2 35 _ rfl).1 rfl rfl (fun z125 (ez125 : z125.toInt = ja h115 35 6) (bz125 : 0 ≤ z125.toInt ∧ z125.toInt ≤ 272) => ?_)
                  refine jn_ias (i := 40) (x := T) (v := z125) rfl rfl hH115 (by decide) rfl (by omega) (by show _ < ((16 : Nat) : Int); omega) (by show 0 ≤ _; omega) (by show _ ≤ 272; omega) (fun h128 hH128 hs128 t128 u128 => ?_)
                  have o_h128 : az_same_out [(14, 2), (14, 3), (35, 6), (35, 7), (36, 1000000), (37, 1000000), (38, 1000000), (39, 1000000), (40, 1000000)] h h128 := ((hs77.sub (by decide)).tr ((hs87.sub (by decide)).tr ((hs97.sub (by decide)).tr ((hs108.sub (by decide)).tr ((hs115.sub (by decide)).tr (hs128.sub (by decide)))))))
                  have e1_h128 : ja h128 14 1 = n := (jso o_h128 (by decide)).trans e1
                  have hb_h128 : jBY h128 n hh := jBY_so o_h128 (by decide) hb
                  have r3_h128 : ja h128 14 3 = ja h115 14 3 := jso hs128 (by decide)
                  have r2_h128 : ja h128 14 2 = ja h115 14 2 := jso hs128 (by decide)
                  have b128 : 0 ≤ ja h128 14 2 ∧ ja h128 14 2 ≤ 241 := ja_bd hH128 (i := 14) (k := 2) rfl
                  have p128 : ja h128 14 2 = ja h108 14 2 := by omega
                  have q128 : ja h128 14 3 = ja h108 14 3 := by omega
                  refine jm_aload_n (x := P.1 + 14) rfl rfl (jM_at hl28 4 rfl) ?_
                  refine az_X_step (pc' := 132) (ls' := ls28) (st' := [.int 40, .ref (P.1 + 14)]) (h' := h128) rfl rfl rfl ?_
                  refine az_X_call (m' := 124) (as := [.ref (P.1 + 14), .int 40]) (rest := []) rfl rfl rfl rfl rfl ?_ ?_
                  · unfold si_call
                    dsimp only
                    rw [if_pos ⟨rfl, rfl⟩]
                    show (match si_ix P h128 (P.1 + 14) with | some i => _ | none => none) = _
                    rw [jix hH128 (by decide)]
                    dsimp only
                    rw [(hH128.2 14 _ rfl).1]
                    rfl
                  refine (ex2_ok hxa hH128 hn e1_h128 rfl rfl hb_h128 40 (by decide)).mono ?_
                  rintro rv132 h132 ⟨rfl, hH132, hs132, f132⟩
                  have o_h132 : az_same_out [(14, 2), (14, 3), (35, 6), (35, 7), (36, 1000000), (37, 1000000), (38, 1000000), (39, 1000000), (40, 1000000)] h h132 := ((hs77.sub (by decide)).tr ((hs87.sub (by decide)).tr ((hs97.sub (by decide)).tr ((hs108.sub (by decide)).tr ((hs115.sub (by decide)).tr ((hs128.sub (by decide)).tr (hs132.sub (by decide))))))))
                  have e1_h132 : ja h132 14 1 = n := (jso o_h132 (by decide)).trans e1
                  have hb_h132 : jBY h132 n hh := jBY_so o_h132 (by decide) hb
                  show az_X P _ 93 135 ls28 [] _ _
                  refine jm_aload_n (x := P.1 + 35) rfl rfl (jM_at hl28 3 rfl) ?_
                  refine jm_aload_n (x := P.1 + 14) rfl rfl (jM_at hl28 4 rfl) ?_
                  refine az_X_step (pc' := 138) (ls' := ls28) (st' := [.int 1, .ref (P.1 + 14), .ref (P.1 + 35)]) (h' := h132) rfl rfl rfl ?_
                  refine az_X_call (m' := 96) (as := [.ref (P.1 + 35), .ref (P.1 + 14), .int 1]) (rest := []) rfl rfl rfl rfl rfl ?_ ?_
                  · unfold si_call
                    dsimp only
                    rw [if_pos ⟨rfl, rfl⟩]
                    show (match si_ix P h132 (P.1 + 35) with | some i => _ | none => none) = _
                    rw [jix hH132 (by decide)]
                    dsimp only
                    rw [(hH132.2 35 _ rfl).1]
                    rfl
                  refine ((tc_a hxa hn hh1 5).2 (d + 22) h132 1 _ _ (by omega) hH132 (by decide) e1_h132 rfl rfl hb_h132 (exR_n hbn (by decide) b128.1 f132)).mono ?_
                  rintro rv138 h138 ⟨rfl, hH138, hs138, f138⟩
                  have o_h138 : az_same_out [(14, 2), (14, 3), (35, 6), (35, 7), (36, 1000000), (37, 1000000), (38, 1000000), (39, 1000000), (40, 1000000)] h h138 := ((hs77.sub (by decide)).tr ((hs87.sub (by decide)).tr ((hs97.sub (by decide)).tr ((hs108.sub (by decide)).tr ((hs115.sub (by decide)).tr ((hs128.sub (by decide)).tr ((hs132.sub (by decide)).tr (hs138.sub (by decide)))))))))
                  have e1_h138 : ja h138 14 1 = n := (jso o_h138 (by decide)).trans e1
                  have hb_h138 : jBY h138 n hh := jBY_so o_h138 (by decide) hb
                  show az_X P _ 93 141 ls28 [] _ _
                  refine jm_aload_n (x := P.1 + 14) rfl rfl (jM_at hl28 4 rfl) ?_
                  refine az_X_step (pc' := 144) (ls' := ls28) (st' := [.int 41, .ref (P.1 + 14)]) (h' := h138) rfl rfl rfl ?_
                  refine az_X_call (m' := 124) (as := [.ref (P.1 + 14), .int 41]) (rest := []) rfl rfl rfl rfl rfl ?_ ?_
                  · unfold si_call
                    dsimp only
                    rw [if_pos ⟨rfl, rfl⟩]
                    show (match si_ix P h138 (P.1 + 14) with | some i => _ | none => none) = _
                    rw [jix hH138 (by decide)]
                    dsimp only
                    rw [(hH138.2 14 _ rfl).1]
                    rfl
                  refine (ex2_ok hxa hH138 hn e1_h138 rfl rfl hb_h138 41 (by decide)).mono ?_
                  rintro rv144 h144 ⟨rfl, hH144, hs144, f144⟩
                  have o_h144 : az_same_out [(14, 2), (14, 3), (35, 6), (35, 7), (36, 1000000), (37, 1000000), (38, 1000000), (39, 1000000), (40, 1000000)] h h144 := ((hs77.sub (by decide)).tr ((hs87.sub (by decide)).tr ((hs97.sub (by decide)).tr ((hs108.sub (by decide)).tr ((hs115.sub (by decide)).tr ((hs128.sub (by decide)).tr ((hs132.sub (by decide)).tr ((hs138.sub (by decide)).tr (hs144.sub (by decide))))))))))
                  have e1_h144 : ja h144 14 1 = n := (jso o_h144 (by decide)).trans e1
                  have hb_h144 : jBY h144 n hh := jBY_so o_h144 (by decide) hb
                  show az_X P _ 93 147 ls28 [] _ _
                  refine jm_aload_n (x := P.1 + 35) rfl rfl (jM_at hl28 3 rfl) ?_
                  refine az_X_step (pc' := 150) (ls' := ls28) (st' := [.int 46, .ref (P.1 + 35)]) (h' := h144) rfl rfl rfl ?_
                  refine az_X_step (pc' := 151) (ls' := ls28) (st' := [.int 0, .int 46, .ref (P.1 + 35)]) (h' := h144) rfl rfl rfl ?_
                  refine az_X_call (m' := 94) (as := [.ref (P.1 + 35), .int 46, .int 0]) (rest := []) rfl rfl rfl rfl rfl ?_ ?_
                  · unfold si_call
                    dsimp only
                    rw [if_pos ⟨rfl, rfl⟩]
                    show (match si_ix P h144 (P.1 + 35) with | some i => _ | none => none) = _
                    rw [jix hH144 (by decide)]
                    dsimp only
                    rw [(hH144.2 35 _ rfl).1]
                    rfl
                  refine (as_a hxa hH144 46 0 (by omega)).mono ?_
                  rintro rv151 h151 ⟨z151, rfl, hH151, hs151, f151⟩
                  have o_h151 : az_same_out [(14, 2), (14, 3), (35, 6), (35, 7), (36, 1000000), (37, 1000000), (38, 1000000), (39, 1000000), (40, 1000000)] h h151 := ((hs77.sub (by decide)).tr ((hs87.sub (by decide)).tr ((hs97.sub (by decide)).tr ((hs108.sub (by decide)).tr ((hs115.sub (by decide)).tr ((hs128.sub (by decide)).tr ((hs132.sub (by decide)).tr ((hs138.sub (by decide)).tr ((hs144.sub (by decide)).tr (hs151.sub (by decide)))))))))))
                  have e1_h151 : ja h151 14 1 = n := (jso o_h151 (by decide)).trans e1
                  have hb_h151 : jBY h151 n hh := jBY_so o_h151 (by decide) hb
                  have r3_h151 : ja h151 14 3 = ja h144 14 3 := jso hs151 (by decide)
                  have r2_h151 : ja h151 14 2 = ja h144 14 2 := jso hs151 (by decide)
                  show az_X P _ 93 154 ls28 [.int z151] _ _
                  refine az_X_step (pc' := 155) (ls' := ls28) (st' := []) (h' := h151) rfl rfl rfl ?_
                  refine jm_aload_n (x := P.1 + 35) rfl rfl (jM_at hl28 3 rfl) ?_
                  refine az_X_step (pc' := 157) (ls' := ls28) (st' := [.ref (P.1 + 35), .ref (P.1 + 35)]) (h' := h151) rfl rfl rfl ?_
                  refine jn_gf (i := 35) (k := 7) rfl rfl hH151 (by decide) (hH151.2 35 _ rfl).1 rfl rfl (fun z157 (ez157 : z157.toInt = ja h151 35 7) (bz157 : 0 ≤ z157.toInt ∧ z157.toInt ≤ 16) => ?_)
                  replace ez157 : z157.toInt = ja h 35 7 := ez157.trans ((jso hs151 (by decide)).trans ((jso hs144 (by decide)).trans ((jso hs138 (by decide)).trans ((jso hs132 (by decide)).trans ((jso hs128 (by decide)).trans ((jso hs115 (by decide)).trans ((jso hs108 (by decide)).trans ((jso hs97 (by decide)).trans ((jso hs87 (by decide)).trans (jso hs77 (by decide)))))))))))
                  refine az_X_step (pc' := 161) (ls' := ls28) (st' := [.int 1, .int z157, .ref (P.1 + 35)]) (h' := h151) rfl rfl rfl ?_
                  refine jn_add (a := z157) (b := 1) rfl rfl (by omega) (by omega) (fun z161 ez161 => ?_)
                  rw [show (1 : Int32).toInt = 1 by decide] at ez161
                  refine jn_pf (i := 35) (k := 7) (x := z161) rfl rfl hH151 (by decide) rfl (hH151.2 35 _ rfl).1 rfl rfl (by decide) (by decide) (by show 0 ≤ _; omega) (by show _ ≤ 16; omega) (fun h162 hH162 hs162 (t162 : ja h162 35 7 = z161.toInt) => ?_)
                  have o_h162 : az_same_out [(14, 2), (14, 3), (35, 6), (35, 7), (36, 1000000), (37, 1000000), (38, 1000000), (39, 1000000), (40, 1000000)] h h162 := ((hs77.sub (by decide)).tr ((hs87.sub (by decide)).tr ((hs97.sub (by decide)).tr ((hs108.sub (by decide)).tr ((hs115.sub (by decide)).tr ((hs128.sub (by decide)).tr ((hs132.sub (by decide)).tr ((hs138.sub (by decide)).tr ((hs144.sub (by decide)).tr ((hs151.sub (by decide)).tr (hs162.sub (by decide))))))))))))
                  have e1_h162 : ja h162 14 1 = n := (jso o_h162 (by decide)).trans e1
                  have hb_h162 : jBY h162 n hh := jBY_so o_h162 (by decide) hb
                  have r3_h162 : ja h162 14 3 = ja h151 14 3 := jso hs162 (by decide)
                  have r2_h162 : ja h162 14 2 = ja h151 14 2 := jso hs162 (by decide)
                  refine jm_aload_n (x := P.1 + 14) rfl rfl (jM_at hl28 4 rfl) ?_
                  refine az_X_step (pc' := 168) (ls' := ls28) (st' := [.int 59, .ref (P.1 + 14)]) (h' := h162) rfl rfl rfl ?_
                  refine az_X_call (m' := 123) (as := [.ref (P.1 + 14), .int 59]) (rest := []) rfl rfl rfl rfl rfl ?_ ?_
                  · unfold si_call
                    dsimp only
                    rw [if_pos ⟨rfl, rfl⟩]
                    show (match si_ix P h162 (P.1 + 14) with | some i => _ | none => none) = _
                    rw [jix hH162 (by decide)]
                    dsimp only
                    rw [(hH162.2 14 _ rfl).1]
                    rfl
                  refine (tk2_ok hxa hH162 hn e1_h162 rfl rfl hb_h162 59 (by decide)).mono ?_
                  rintro rv168 h168 ⟨z168, rfl, hH168, hs168, f168⟩
                  have o_h168 : az_same_out [(14, 2), (14, 3), (35, 6), (35, 7), (36, 1000000), (37, 1000000), (38, 1000000), (39, 1000000), (40, 1000000)] h h168 := ((hs77.sub (by decide)).tr ((hs87.sub (by decide)).tr ((hs97.sub (by decide)).tr ((hs108.sub (by decide)).tr ((hs115.sub (by decide)).tr ((hs128.sub (by decide)).tr ((hs132.sub (by decide)).tr ((hs138.sub (by decide)).tr ((hs144.sub (by decide)).tr ((hs151.sub (by decide)).tr ((hs162.sub (by decide)).tr (hs168.sub (by decide)))))))))))))
                  have e1_h168 : ja h168 14 1 = n := (jso o_h168 (by decide)).trans e1
                  have hb_h168 : jBY h168 n hh := jBY_so o_h168 (by decide) hb
                  have r3_h168 : ja h168 14 3 = ja h162 14 3 := jso hs168 (by decide)
                  show az_X P _ 93 171 ls28 [.int z168] _ _
                  refine jm_istore_n (l' := [(2, .int z168), (4, .int z25), (3, .int T), (0, .ref (P.1 + 35)), (1, .ref (P.1 + 14))]) rfl rfl (by decide) hl28 rfl rfl (fun ls171 hl171 => ?_)
                  refine jn_iinc (x := T) rfl rfl (by decide) (jM_at hl171 2 rfl) hl171 rfl (by decide) (by omega) (by omega) (fun z172 (ez172 : z172.toInt = T.toInt + 1) ls172 (hl172 : jM [(3, .int z172), (2, .int z168), (4, .int z25), (0, .ref (P.1 + 35)), (1, .ref (P.1 + 14))] ls172) => ?_)
                  refine az_X_step (pc' := 14) (ls' := ls172) (st' := []) (h' := h168) rfl rfl rfl ?_
                  rw [k59] at f168
                  rw [p97, q97, k0] at f108
                  rw [k40, p128, q128] at f132
                  rw [k1] at f138
                  rw [k41] at f144
                  have hO1 := ru_ok (hh := hh) (n := n) (i := (j : Int)) (k := z25.toInt) (q2 := ja h108 14 2) (f2 := ja h108 14 3) bp.1 ez25 kiy (by omega) (Or.inr ⟨kx, f108⟩) f132 f138 f144
                  have hO : pyO hh n (ja h162 14 2) (ja h162 14 3) (0, 0, 0, 0, [], 0) (fun q => (7, 0, 0, q, [], (j : Int) + 1)) := by
                    rw [r2_h162.trans r2_h151, r3_h162.trans r3_h151]
                    exact pyO_pre hL hO1
                  refine ih (j + 1) z172 z168 h168 ls172 (jM_pick hl172 [0, 1, 3, 4] rfl) hH168 (hs.tr ((hs77.sub (by decide)).tr ((hs87.sub (by decide)).tr ((hs97.sub (by decide)).tr ((hs108.sub (by decide)).tr ((hs115.sub (by decide)).tr ((hs128.sub (by decide)).tr ((hs132.sub (by decide)).tr ((hs138.sub (by decide)).tr ((hs144.sub (by decide)).tr ((hs151.sub (by decide)).tr ((hs162.sub (by decide)).tr (hs168.sub (by decide)))))))))))))) e1_h168 hb_h168 (by omega) (by omega) ?_
                  rw [r3_h168, show (((j + 1 : Nat)) : Int) = (j : Int) + 1 by omega]
                  exact pyW_step hbn hO (fun e => (((jso hs168 (by decide)).trans t162)).trans (by omega)) (Or.inl jlt) f168
              · have g61 := jc2_ne_f hc61
                refine jm_aload_n (x := P.1 + 14) rfl rfl (jM_at hl28 4 rfl) ?_
                refine az_X_step (pc' := 66) (ls' := ls28) (st' := [.int 4, .ref (P.1 + 14)]) (h' := h) rfl rfl rfl ?_
                refine jm_aload_n (x := P.1 + 14) rfl rfl (jM_at hl28 4 rfl) ?_
                refine az_X_call (m' := 120) (as := [.ref (P.1 + 14)]) (rest := [.int 4, .ref (P.1 + 14)]) rfl rfl rfl rfl rfl ?_ ?_
                · unfold si_call
                  dsimp only
                  rw [if_pos ⟨rfl, rfl⟩]
                  show (match si_ix P h (P.1 + 14) with | some i => _ | none => none) = _
                  rw [jix hH (by decide)]
                  dsimp only
                  rw [(hH.2 14 _ rfl).1]
                  rfl
                refine (pl_ok hH).mono ?_
                rintro rv67 h67 ⟨q67, z67, rfl, ez67⟩
                subst h67
                show az_X P _ 93 70 ls28 [.int z67, .int 4, .ref (P.1 + 14)] _ _
                refine az_X_call (m' := 125) (as := [.ref (P.1 + 14), .int 4, .int z67]) (rest := []) rfl rfl rfl rfl rfl ?_ ?_
                · unfold si_call
                  dsimp only
                  rw [if_pos ⟨rfl, rfl⟩]
                  show (match si_ix P h (P.1 + 14) with | some i => _ | none => none) = _
                  rw [jix hH (by decide)]
                  dsimp only
                  rw [(hH.2 14 _ rfl).1]
                  rfl
                refine (fl_ok hH 4 z67 (by decide) (by omega)).mono ?_
                rintro rv70 h70 ⟨rfl, hH70, hs70, f70⟩
                have o_h70 : az_same_out [(14, 2), (14, 3), (35, 6), (35, 7), (36, 1000000), (37, 1000000), (38, 1000000), (39, 1000000), (40, 1000000)] h h70 := (hs70.sub (by decide))
                have e1_h70 : ja h70 14 1 = n := (jso o_h70 (by decide)).trans e1
                have hb_h70 : jBY h70 n hh := jBY_so o_h70 (by decide) hb
                have r2_h70 : ja h70 14 2 = ja h 14 2 := jso hs70 (by decide)
                show az_X P _ 93 73 ls28 [] _ _
                refine az_X_step (pc' := 165) (ls' := ls28) (st' := []) (h' := h70) rfl rfl rfl ?_
                have tr0 := trivial
                refine jm_aload_n (x := P.1 + 14) rfl rfl (jM_at hl28 4 rfl) ?_
                refine az_X_step (pc' := 168) (ls' := ls28) (st' := [.int 59, .ref (P.1 + 14)]) (h' := h70) rfl rfl rfl ?_
                refine az_X_call (m' := 123) (as := [.ref (P.1 + 14), .int 59]) (rest := []) rfl rfl rfl rfl rfl ?_ ?_
                · unfold si_call
                  dsimp only
                  rw [if_pos ⟨rfl, rfl⟩]
                  show (match si_ix P h70 (P.1 + 14) with | some i => _ | none => none) = _
                  rw [jix hH70 (by decide)]
                  dsimp only
                  rw [(hH70.2 14 _ rfl).1]
                  rfl
                refine (tk2_ok hxa hH70 hn e1_h70 rfl rfl hb_h70 59 (by decide)).mono ?_
                rintro rv168 h168 ⟨z168, rfl, hH168, hs168, f168⟩
                have o_h168 : az_same_out [(14, 2), (14, 3), (35, 6), (35, 7), (36, 1000000), (37, 1000000), (38, 1000000), (39, 1000000), (40, 1000000)] h h168 := ((hs70.sub (by decide)).tr (hs168.sub (by decide)))
                have e1_h168 : ja h168 14 1 = n := (jso o_h168 (by decide)).trans e1
                have hb_h168 : jBY h168 n hh := jBY_so o_h168 (by decide) hb
                have r3_h168 : ja h168 14 3 = ja h70 14 3 := jso hs168 (by decide)
                show az_X P _ 93 171 ls28 [.int z168] _ _
                refine jm_istore_n (l' := [(2, .int z168), (4, .int z25), (3, .int T), (0, .ref (P.1 + 35)), (1, .ref (P.1 + 14))]) rfl rfl (by decide) hl28 rfl rfl (fun ls171 hl171 => ?_)
                refine jn_iinc (x := T) rfl rfl (by decide) (jM_at hl171 2 rfl) hl171 rfl (by decide) (by omega) (by omega) (fun z172 (ez172 : z172.toInt = T.toInt + 1) ls172 (hl172 : jM [(3, .int z172), (2, .int z168), (4, .int z25), (0, .ref (P.1 + 35)), (1, .ref (P.1 + 14))] ls172) => ?_)
                refine az_X_step (pc' := 14) (ls' := ls172) (st' := []) (h' := h168) rfl rfl rfl ?_
                rw [k59] at f168
                have q5 := f70.1 f0
                rw [k4] at q5
                have hO : pyO hh n (ja h70 14 2) (ja h70 14 3) (0, 0, 0, 0, [], 0) (fun q => (7, 0, 0, q, [], (j : Int) + 1)) := Or.inr ⟨by omega, by
                  rw [show ja h70 14 3 = -4000 - ja h 14 2 by omega]
                  exact hL _ (by
                    rw [show ((j : Nat) : Int) = 16 by omega]
                    exact ru_many (ez25 ▸ kiy))⟩
                refine ih (j + 1) z172 z168 h168 ls172 (jM_pick hl172 [0, 1, 3, 4] rfl) hH168 (hs.tr ((hs70.sub (by decide)).tr (hs168.sub (by decide)))) e1_h168 hb_h168 (by omega) (by omega) ?_
                rw [r3_h168, show (((j + 1 : Nat)) : Int) = (j : Int) + 1 by omega]
                exact pyW_step hbn hO (fun e => absurd e (by omega)) (Or.inr (by omega)) f168
            · have g43 := jc1_ge_f hc43
              have kin : ¬ pyki (hh (ja h 14 2)) := by
                rw [← ez25]
                omega
              refine jm_aload_n (x := P.1 + 14) rfl rfl (jM_at hl28 4 rfl) ?_
              refine az_X_step (pc' := 48) (ls' := ls28) (st' := [.int 1, .ref (P.1 + 14)]) (h' := h) rfl rfl rfl ?_
              refine jm_aload_n (x := P.1 + 14) rfl rfl (jM_at hl28 4 rfl) ?_
              refine az_X_call (m' := 120) (as := [.ref (P.1 + 14)]) (rest := [.int 1, .ref (P.1 + 14)]) rfl rfl rfl rfl rfl ?_ ?_
              · unfold si_call
                dsimp only
                rw [if_pos ⟨rfl, rfl⟩]
                show (match si_ix P h (P.1 + 14) with | some i => _ | none => none) = _
                rw [jix hH (by decide)]
                dsimp only
                rw [(hH.2 14 _ rfl).1]
                rfl
              refine (pl_ok hH).mono ?_
              rintro rv49 h49 ⟨q49, z49, rfl, ez49⟩
              subst h49
              show az_X P _ 93 52 ls28 [.int z49, .int 1, .ref (P.1 + 14)] _ _
              refine az_X_call (m' := 125) (as := [.ref (P.1 + 14), .int 1, .int z49]) (rest := []) rfl rfl rfl rfl rfl ?_ ?_
              · unfold si_call
                dsimp only
                rw [if_pos ⟨rfl, rfl⟩]
                show (match si_ix P h (P.1 + 14) with | some i => _ | none => none) = _
                rw [jix hH (by decide)]
                dsimp only
                rw [(hH.2 14 _ rfl).1]
                rfl
              refine (fl_ok hH 1 z49 (by decide) (by omega)).mono ?_
              rintro rv52 h52 ⟨rfl, hH52, hs52, f52⟩
              have o_h52 : az_same_out [(14, 2), (14, 3), (35, 6), (35, 7), (36, 1000000), (37, 1000000), (38, 1000000), (39, 1000000), (40, 1000000)] h h52 := (hs52.sub (by decide))
              have e1_h52 : ja h52 14 1 = n := (jso o_h52 (by decide)).trans e1
              have hb_h52 : jBY h52 n hh := jBY_so o_h52 (by decide) hb
              have r2_h52 : ja h52 14 2 = ja h 14 2 := jso hs52 (by decide)
              show az_X P _ 93 55 ls28 [] _ _
              refine az_X_step (pc' := 165) (ls' := ls28) (st' := []) (h' := h52) rfl rfl rfl ?_
              have tr0 := trivial
              refine jm_aload_n (x := P.1 + 14) rfl rfl (jM_at hl28 4 rfl) ?_
              refine az_X_step (pc' := 168) (ls' := ls28) (st' := [.int 59, .ref (P.1 + 14)]) (h' := h52) rfl rfl rfl ?_
              refine az_X_call (m' := 123) (as := [.ref (P.1 + 14), .int 59]) (rest := []) rfl rfl rfl rfl rfl ?_ ?_
              · unfold si_call
                dsimp only
                rw [if_pos ⟨rfl, rfl⟩]
                show (match si_ix P h52 (P.1 + 14) with | some i => _ | none => none) = _
                rw [jix hH52 (by decide)]
                dsimp only
                rw [(hH52.2 14 _ rfl).1]
                rfl
              refine (tk2_ok hxa hH52 hn e1_h52 rfl rfl hb_h52 59 (by decide)).mono ?_
              rintro rv168 h168 ⟨z168, rfl, hH168, hs168, f168⟩
              have o_h168 : az_same_out [(14, 2), (14, 3), (35, 6), (35, 7), (36, 1000000), (37, 1000000), (38, 1000000), (39, 1000000), (40, 1000000)] h h168 := ((hs52.sub (by decide)).tr (hs168.sub (by decide)))
              have e1_h168 : ja h168 14 1 = n := (jso o_h168 (by decide)).trans e1
              have hb_h168 : jBY h168 n hh := jBY_so o_h168 (by decide) hb
              have r3_h168 : ja h168 14 3 = ja h52 14 3 := jso hs168 (by decide)
              show az_X P _ 93 171 ls28 [.int z168] _ _
              refine jm_istore_n (l' := [(2, .int z168), (4, .int z25), (3, .int T), (0, .ref (P.1 + 35)), (1, .ref (P.1 + 14))]) rfl rfl (by decide) hl28 rfl rfl (fun ls171 hl171 => ?_)
              refine jn_iinc (x := T) rfl rfl (by decide) (jM_at hl171 2 rfl) hl171 rfl (by decide) (by omega) (by omega) (fun z172 (ez172 : z172.toInt = T.toInt + 1) ls172 (hl172 : jM [(3, .int z172), (2, .int z168), (4, .int z25), (0, .ref (P.1 + 35)), (1, .ref (P.1 + 14))] ls172) => ?_)
              refine az_X_step (pc' := 14) (ls' := ls172) (st' := []) (h' := h168) rfl rfl rfl ?_
              rw [k59] at f168
              have q5 := f52.1 f0
              rw [k1] at q5
              have hO : pyO hh n (ja h52 14 2) (ja h52 14 3) (0, 0, 0, 0, [], 0) (fun q => (7, 0, 0, q, [], (j : Int) + 1)) := Or.inr ⟨by omega, by
                rw [show ja h52 14 3 = -1000 - ja h 14 2 by omega]
                exact hL _ (ru_no kin)⟩
              refine ih (j + 1) z172 z168 h168 ls172 (jM_pick hl172 [0, 1, 3, 4] rfl) hH168 (hs.tr ((hs52.sub (by decide)).tr (hs168.sub (by decide)))) e1_h168 hb_h168 (by omega) (by omega) ?_
              rw [r3_h168, show (((j + 1 : Nat)) : Int) = (j : Int) + 1 by omega]
              exact pyW_step hbn hO (fun e => absurd e (by omega)) (Or.inr (by omega)) f168
    · have k0 : (0 : Int32).toInt = 0 := by decide
      have k16 : (16 : Int32).toInt = 16 := by decide
      refine jm_iload_n (x := T) rfl rfl (jM_at hl 0 rfl) ?_
      refine az_X_step (pc' := 17) (ls' := ls) (st' := [.int 16, .int T]) (h' := h) rfl rfl rfl ?_
      refine jx_ic (t := 178) rfl rfl rfl (fun hc17 => ?_) (fun hc17 => ?_)
      · have g17 := jc2_gt_t hc17
        refine jm_aload_n (x := P.1 + 14) rfl rfl (jM_at hl 3 rfl) ?_
        refine jm_aload_n (x := P.1 + 35) rfl rfl (jM_at hl 2 rfl) ?_
        refine jn_gf (i := 35) (k := 7) rfl rfl hH (by decide) (hH.2 35 _ rfl).1 rfl rfl (fun z180 (ez180 : z180.toInt = ja h 35 7) (bz180 : 0 ≤ z180.toInt ∧ z180.toInt ≤ 16) => ?_)
        refine az_X_call (m' := 129) (as := [.ref (P.1 + 14), .int z180]) (rest := []) rfl rfl rfl rfl rfl ?_ ?_
        · unfold si_call
          dsimp only
          rw [if_pos ⟨rfl, rfl⟩]
          show (match si_ix P h (P.1 + 14) with | some i => _ | none => none) = _
          rw [jix hH (by decide)]
          dsimp only
          rw [(hH.2 14 _ rfl).1]
          rfl
        refine (aw_ok hH e1 rfl rfl z180).mono ?_
        rintro rv183 h183 ⟨z183, rfl, hH183, hs183, f183⟩
        show az_X P _ 93 186 ls [.int z183] _ _
        refine jx_ret rfl rfl rfl ?_
        exact ⟨z183, rfl, hH183, hs.tr (hs183.sub (by decide)), pyW_end m0 hR (by omega)⟩
      · have g17 := jc2_gt_f hc17
        refine jm_iload_n (x := U) rfl rfl (jM_at hl 1 rfl) ?_
        refine jx_if (t := 178) rfl rfl rfl (fun hc21 => ?_) (fun hc21 => ?_)
        · have g21 := jc1_eq_t hc21
          refine jm_aload_n (x := P.1 + 14) rfl rfl (jM_at hl 3 rfl) ?_
          refine jm_aload_n (x := P.1 + 35) rfl rfl (jM_at hl 2 rfl) ?_
          refine jn_gf (i := 35) (k := 7) rfl rfl hH (by decide) (hH.2 35 _ rfl).1 rfl rfl (fun z180 (ez180 : z180.toInt = ja h 35 7) (bz180 : 0 ≤ z180.toInt ∧ z180.toInt ≤ 16) => ?_)
          refine az_X_call (m' := 129) (as := [.ref (P.1 + 14), .int z180]) (rest := []) rfl rfl rfl rfl rfl ?_ ?_
          · unfold si_call
            dsimp only
            rw [if_pos ⟨rfl, rfl⟩]
            show (match si_ix P h (P.1 + 14) with | some i => _ | none => none) = _
            rw [jix hH (by decide)]
            dsimp only
            rw [(hH.2 14 _ rfl).1]
            rfl
          refine (aw_ok hH e1 rfl rfl z180).mono ?_
          rintro rv183 h183 ⟨z183, rfl, hH183, hs183, f183⟩
          show az_X P _ 93 186 ls [.int z183] _ _
          refine jx_ret rfl rfl rfl ?_
          exact ⟨z183, rfl, hH183, hs.tr (hs183.sub (by decide)), pyW_end m0 hR (by omega)⟩
        · have g21 := jc1_eq_f hc21
          exfalso
          omega
theorem rd_a {P : si_P} (hxa : P.2.1 < P.1) {d : Nat} {h : si_H} (hH : az_HI P az_tb h) {n : Int} {hh : Int → Int} (hn : 1 ≤ n ∧ n ≤ 240) (hh1 : ∀ i : Int, hh i ≤ 255) (hkk : P.2.2.2.2 1 ≠ P.2.2.2.2 2) (e1 : ja h 14 1 = n) (e2 : ja h 14 2 = 0) (e3 : ja h 14 3 = 0) (hb : jBY h n hh) : az_X P (d + 23) 93 0 (lv_args 0 [.ref (P.1 + 35), .ref (P.1 + 14)]) [] h (fun rv h' => ∃ z : Int32, rv = some (.int z) ∧ az_HI P az_tb h' ∧ az_same_out [(14, 2), (14, 3), (35, 6), (35, 7), (36, 1000000), (37, 1000000), (38, 1000000), (39, 1000000), (40, 1000000)] h h' ∧ pyR hh n (0, 0, 0, 0, [], 0) z.toInt) := by
  have hl : jM [(0, .ref (P.1 + 35)), (1, .ref (P.1 + 14))] (lv_args 0 [.ref (P.1 + 35), .ref (P.1 + 14)]) := jM_args [0, 1] rfl (by decide)
  generalize lv_args 0 [.ref (P.1 + 35), .ref (P.1 + 14)] = ls at hl
  have k0 : (0 : Int32).toInt = 0 := by decide
  have k1 : (1 : Int32).toInt = 1 := by decide
  refine jm_aload_n (x := P.1 + 35) rfl rfl (jM_at hl 0 rfl) ?_
  refine az_X_step (pc' := 2) (ls' := ls) (st' := [.int 0, .ref (P.1 + 35)]) (h' := h) rfl rfl rfl ?_
  refine jn_pf (i := 35) (k := 6) (x := 0) rfl rfl hH (by decide) rfl (hH.2 35 _ rfl).1 rfl rfl (by decide) (by decide) (by show 0 ≤ _; omega) (by show _ ≤ 272; omega) (fun h2 hH2 hs2 (t2 : ja h2 35 6 = (0 : Int32).toInt) => ?_)
  replace t2 : ja h2 35 6 = 0 := t2.trans (by decide)
  refine jm_aload_n (x := P.1 + 35) rfl rfl (jM_at hl 0 rfl) ?_
  refine az_X_step (pc' := 7) (ls' := ls) (st' := [.int 0, .ref (P.1 + 35)]) (h' := h2) rfl rfl rfl ?_
  refine jn_pf (i := 35) (k := 7) (x := 0) rfl rfl hH2 (by decide) rfl (hH2.2 35 _ rfl).1 rfl rfl (by decide) (by decide) (by show 0 ≤ _; omega) (by show _ ≤ 16; omega) (fun h7 hH7 hs7 (t7 : ja h7 35 7 = (0 : Int32).toInt) => ?_)
  replace t7 : ja h7 35 7 = 0 := t7.trans (by decide)
  refine az_X_step (pc' := 11) (ls' := ls) (st' := [.int 1]) (h' := h7) rfl rfl rfl ?_
  refine jm_istore_n (l' := [(2, .int 1), (0, .ref (P.1 + 35)), (1, .ref (P.1 + 14))]) rfl rfl (by decide) hl rfl rfl (fun ls11 hl11 => ?_)
  refine az_X_step (pc' := 13) (ls' := ls11) (st' := [.int 0]) (h' := h7) rfl rfl rfl ?_
  refine jm_istore_n (l' := [(3, .int 0), (2, .int 1), (0, .ref (P.1 + 35)), (1, .ref (P.1 + 14))]) rfl rfl (by decide) hl11 rfl rfl (fun ls13 hl13 => ?_)
  have o7 : az_same_out [(14, 2), (14, 3), (35, 6), (35, 7), (36, 1000000), (37, 1000000), (38, 1000000), (39, 1000000), (40, 1000000)] h h7 := ((hs2.sub (by decide)).tr (hs7.sub (by decide)))
  refine rd_la (d := d) hxa hn hh1 hkk (h0 := h) 17 0 0 1 h7 ls13 (jM_pick hl13 [0, 1, 2, 3] rfl) hH7 o7 ((jso o7 (by decide)).trans e1) (jBY_so o7 (by decide) hb) (by decide) (by omega) (Or.inl ⟨by decide, ?_, ?_, t7, by decide, ?_⟩)
  · exact (jso hs7 (by decide)).trans ((jso hs2 (by decide)).trans e3)
  · rw [jso hs7 (by decide), jso hs2 (by decide), e2]
    omega
  · rw [jso hs7 (by decide), jso hs2 (by decide), e2]
    exact pyL.rf
theorem rd_lb {P : si_P} (hxa : P.2.1 < P.1) {d : Nat} {hh : Int → Int} {n : Int} (hn : 1 ≤ n ∧ n ≤ 240) (hh1 : ∀ i : Int, hh i ≤ 255) (hkk : P.2.2.2.2 1 ≠ P.2.2.2.2 2) {h0 : si_H} : ∀ (k j : Nat) (T U : Int32) (h : si_H) (ls : si_L), jM [(3, .int T), (2, .int U), (0, .ref (P.1 + 42)), (1, .ref (P.1 + 14))] ls → az_HI P az_tb h → az_same_out [(14, 2), (14, 3), (42, 6), (42, 7), (43, 1000000), (44, 1000000), (45, 1000000), (46, 1000000), (47, 1000000)] h0 h → ja h 14 1 = n → jBY h n hh → T.toInt = j → j + k = 17 → pyW hh n (ja h 14 2) (ja h 14 3) U.toInt (ja h 42 7) j → az_X P (d + 23) 93 14 ls [] h (fun rv h' => ∃ z : Int32, rv = some (.int z) ∧ az_HI P az_tb h' ∧ az_same_out [(14, 2), (14, 3), (42, 6), (42, 7), (43, 1000000), (44, 1000000), (45, 1000000), (46, 1000000), (47, 1000000)] h0 h' ∧ pyR hh n (0, 0, 0, 0, [], 0) z.toInt) := by
  intro k
  induction k with
  | zero =>
    intro j T U h ls hl hH hs e1 hb eT hj hw
    have bp : 0 ≤ ja h 14 2 ∧ ja h 14 2 ≤ 241 := ja_bd hH (i := 14) (k := 2) rfl
    have bF : -7000 ≤ ja h 14 3 ∧ ja h 14 3 ≤ 0 := ja_bd hH (i := 14) (k := 3) rfl
    have hbn := hb.2
    rcases hw with ⟨m1, f0, qn, sz, j16, hL⟩ | ⟨m0, hR⟩
    · exfalso
      omega
    · have k0 : (0 : Int32).toInt = 0 := by decide
      have k16 : (16 : Int32).toInt = 16 := by decide
      refine jm_iload_n (x := T) rfl rfl (jM_at hl 0 rfl) ?_
      refine az_X_step (pc' := 17) (ls' := ls) (st' := [.int 16, .int T]) (h' := h) rfl rfl rfl ?_
      refine jx_ic (t := 178) rfl rfl rfl (fun hc17 => ?_) (fun hc17 => ?_)
      · have g17 := jc2_gt_t hc17
        refine jm_aload_n (x := P.1 + 14) rfl rfl (jM_at hl 3 rfl) ?_
        refine jm_aload_n (x := P.1 + 42) rfl rfl (jM_at hl 2 rfl) ?_
        refine jn_gf (i := 42) (k := 7) rfl rfl hH (by decide) (hH.2 42 _ rfl).1 rfl rfl (fun z180 (ez180 : z180.toInt = ja h 42 7) (bz180 : 0 ≤ z180.toInt ∧ z180.toInt ≤ 16) => ?_)
        refine az_X_call (m' := 129) (as := [.ref (P.1 + 14), .int z180]) (rest := []) rfl rfl rfl rfl rfl ?_ ?_
        · unfold si_call
          dsimp only
          rw [if_pos ⟨rfl, rfl⟩]
          show (match si_ix P h (P.1 + 14) with | some i => _ | none => none) = _
          rw [jix hH (by decide)]
          dsimp only
          rw [(hH.2 14 _ rfl).1]
          rfl
        refine (aw_ok hH e1 rfl rfl z180).mono ?_
        rintro rv183 h183 ⟨z183, rfl, hH183, hs183, f183⟩
        show az_X P _ 93 186 ls [.int z183] _ _
        refine jx_ret rfl rfl rfl ?_
        exact ⟨z183, rfl, hH183, hs.tr (hs183.sub (by decide)), pyW_end m0 hR (by omega)⟩
      · have g17 := jc2_gt_f hc17
        refine jm_iload_n (x := U) rfl rfl (jM_at hl 1 rfl) ?_
        refine jx_if (t := 178) rfl rfl rfl (fun hc21 => ?_) (fun hc21 => ?_)
        · have g21 := jc1_eq_t hc21
          refine jm_aload_n (x := P.1 + 14) rfl rfl (jM_at hl 3 rfl) ?_
          refine jm_aload_n (x := P.1 + 42) rfl rfl (jM_at hl 2 rfl) ?_
          refine jn_gf (i := 42) (k := 7) rfl rfl hH (by decide) (hH.2 42 _ rfl).1 rfl rfl (fun z180 (ez180 : z180.toInt = ja h 42 7) (bz180 : 0 ≤ z180.toInt ∧ z180.toInt ≤ 16) => ?_)
          refine az_X_call (m' := 129) (as := [.ref (P.1 + 14), .int z180]) (rest := []) rfl rfl rfl rfl rfl ?_ ?_
          · unfold si_call
            dsimp only
            rw [if_pos ⟨rfl, rfl⟩]
            show (match si_ix P h (P.1 + 14) with | some i => _ | none => none) = _
            rw [jix hH (by decide)]
            dsimp only
            rw [(hH.2 14 _ rfl).1]
            rfl
          refine (aw_ok hH e1 rfl rfl z180).mono ?_
          rintro rv183 h183 ⟨z183, rfl, hH183, hs183, f183⟩
          show az_X P _ 93 186 ls [.int z183] _ _
          refine jx_ret rfl rfl rfl ?_
          exact ⟨z183, rfl, hH183, hs.tr (hs183.sub (by decide)), pyW_end m0 hR (by omega)⟩
        · have g21 := jc1_eq_f hc21
          exfalso
          omega
  | succ k ih =>
    intro j T U h ls hl hH hs e1 hb eT hj hw
    have bp : 0 ≤ ja h 14 2 ∧ ja h 14 2 ≤ 241 := ja_bd hH (i := 14) (k := 2) rfl
    have bF : -7000 ≤ ja h 14 3 ∧ ja h 14 3 ≤ 0 := ja_bd hH (i := 14) (k := 3) rfl
    have hbn := hb.2
    rcases hw with ⟨m1, f0, qn, sz, j16, hL⟩ | ⟨m0, hR⟩
    · have k0 : (0 : Int32).toInt = 0 := by decide
      have k1 : (1 : Int32).toInt = 1 := by decide
      have k4 : (4 : Int32).toInt = 4 := by decide
      have k16 : (16 : Int32).toInt = 16 := by decide
      have k40 : (40 : Int32).toInt = 40 := by decide
      have k41 : (41 : Int32).toInt = 41 := by decide
      have k46 : (46 : Int32).toInt = 46 := by decide
      have k59 : (59 : Int32).toInt = 59 := by decide
      have k120 : (120 : Int32).toInt = 120 := by decide
      refine jm_iload_n (x := T) rfl rfl (jM_at hl 0 rfl) ?_
      refine az_X_step (pc' := 17) (ls' := ls) (st' := [.int 16, .int T]) (h' := h) rfl rfl rfl ?_
      refine jx_ic (t := 178) rfl rfl rfl (fun hc17 => ?_) (fun hc17 => ?_)
      · have g17 := jc2_gt_t hc17
        exfalso
        omega
      · have g17 := jc2_gt_f hc17
        refine jm_iload_n (x := U) rfl rfl (jM_at hl 1 rfl) ?_
        refine jx_if (t := 178) rfl rfl rfl (fun hc21 => ?_) (fun hc21 => ?_)
        · have g21 := jc1_eq_t hc21
          exfalso
          omega
        · have g21 := jc1_eq_f hc21
          refine jm_aload_n (x := P.1 + 14) rfl rfl (jM_at hl 3 rfl) ?_
          refine az_X_call (m' := 121) (as := [.ref (P.1 + 14)]) (rest := []) rfl rfl rfl rfl rfl ?_ ?_
          · unfold si_call
            dsimp only
            rw [if_pos ⟨rfl, rfl⟩]
            show (match si_ix P h (P.1 + 14) with | some i => _ | none => none) = _
            rw [jix hH (by decide)]
            dsimp only
            rw [(hH.2 14 _ rfl).1]
            rfl
          refine (nx_ok hxa hH hn e1 rfl f0 hb).mono ?_
          rintro rv25 h25 ⟨q25, z25, rfl, ez25⟩
          subst h25
          rw [if_pos rfl] at ez25
          show az_X P _ 93 28 ls [.int z25] _ _
          refine jm_istore (l' := [(4, .int z25), (3, .int T), (2, .int U), (0, .ref (P.1 + 42)), (1, .ref (P.1 + 14))]) rfl rfl (by decide) hl rfl rfl (fun ls28 hl28 => ?_)
          refine jm_iload (x := z25) rfl rfl (jM_at hl28 0 rfl) ?_
          refine jx_if (t := 46) rfl rfl rfl (fun hc32 => ?_) (fun hc32 => ?_)
          · have g32 := jc1_lt_t hc32
            have kin : ¬ pyki (hh (ja h 14 2)) := by
              rw [← ez25]
              omega
            refine jm_aload_n (x := P.1 + 14) rfl rfl (jM_at hl28 4 rfl) ?_
            refine az_X_step (pc' := 48) (ls' := ls28) (st' := [.int 1, .ref (P.1 + 14)]) (h' := h) rfl rfl rfl ?_
            refine jm_aload_n (x := P.1 + 14) rfl rfl (jM_at hl28 4 rfl) ?_
            refine az_X_call (m' := 120) (as := [.ref (P.1 + 14)]) (rest := [.int 1, .ref (P.1 + 14)]) rfl rfl rfl rfl rfl ?_ ?_
            · unfold si_call
              dsimp only
              rw [if_pos ⟨rfl, rfl⟩]
              show (match si_ix P h (P.1 + 14) with | some i => _ | none => none) = _
              rw [jix hH (by decide)]
              dsimp only
              rw [(hH.2 14 _ rfl).1]
              rfl
            refine (pl_ok hH).mono ?_
            rintro rv49 h49 ⟨q49, z49, rfl, ez49⟩
            subst h49
            show az_X P _ 93 52 ls28 [.int z49, .int 1, .ref (P.1 + 14)] _ _
            refine az_X_call (m' := 125) (as := [.ref (P.1 + 14), .int 1, .int z49]) (rest := []) rfl rfl rfl rfl rfl ?_ ?_
            · unfold si_call
              dsimp only
              rw [if_pos ⟨rfl, rfl⟩]
              show (match si_ix P h (P.1 + 14) with | some i => _ | none => none) = _
              rw [jix hH (by decide)]
              dsimp only
              rw [(hH.2 14 _ rfl).1]
              rfl
            refine (fl_ok hH 1 z49 (by decide) (by omega)).mono ?_
            rintro rv52 h52 ⟨rfl, hH52, hs52, f52⟩
            have o_h52 : az_same_out [(14, 2), (14, 3), (42, 6), (42, 7), (43, 1000000), (44, 1000000), (45, 1000000), (46, 1000000), (47, 1000000)] h h52 := (hs52.sub (by decide))
            have e1_h52 : ja h52 14 1 = n := (jso o_h52 (by decide)).trans e1
            have hb_h52 : jBY h52 n hh := jBY_so o_h52 (by decide) hb
            have r2_h52 : ja h52 14 2 = ja h 14 2 := jso hs52 (by decide)
            show az_X P _ 93 55 ls28 [] _ _
            refine az_X_step (pc' := 165) (ls' := ls28) (st' := []) (h' := h52) rfl rfl rfl ?_
            have tr0 := trivial
            refine jm_aload_n (x := P.1 + 14) rfl rfl (jM_at hl28 4 rfl) ?_
            refine az_X_step (pc' := 168) (ls' := ls28) (st' := [.int 59, .ref (P.1 + 14)]) (h' := h52) rfl rfl rfl ?_
            refine az_X_call (m' := 123) (as := [.ref (P.1 + 14), .int 59]) (rest := []) rfl rfl rfl rfl rfl ?_ ?_
            · unfold si_call
              dsimp only
              rw [if_pos ⟨rfl, rfl⟩]
              show (match si_ix P h52 (P.1 + 14) with | some i => _ | none => none) = _
              rw [jix hH52 (by decide)]
              dsimp only
              rw [(hH52.2 14 _ rfl).1]
              rfl
            refine (tk2_ok hxa hH52 hn e1_h52 rfl rfl hb_h52 59 (by decide)).mono ?_
            rintro rv168 h168 ⟨z168, rfl, hH168, hs168, f168⟩
            have o_h168 : az_same_out [(14, 2), (14, 3), (42, 6), (42, 7), (43, 1000000), (44, 1000000), (45, 1000000), (46, 1000000), (47, 1000000)] h h168 := ((hs52.sub (by decide)).tr (hs168.sub (by decide)))
            have e1_h168 : ja h168 14 1 = n := (jso o_h168 (by decide)).trans e1
            have hb_h168 : jBY h168 n hh := jBY_so o_h168 (by decide) hb
            have r3_h168 : ja h168 14 3 = ja h52 14 3 := jso hs168 (by decide)
            show az_X P _ 93 171 ls28 [.int z168] _ _
            refine jm_istore_n (l' := [(2, .int z168), (4, .int z25), (3, .int T), (0, .ref (P.1 + 42)), (1, .ref (P.1 + 14))]) rfl rfl (by decide) hl28 rfl rfl (fun ls171 hl171 => ?_)
            refine jn_iinc (x := T) rfl rfl (by decide) (jM_at hl171 2 rfl) hl171 rfl (by decide) (by omega) (by omega) (fun z172 (ez172 : z172.toInt = T.toInt + 1) ls172 (hl172 : jM [(3, .int z172), (2, .int z168), (4, .int z25), (0, .ref (P.1 + 42)), (1, .ref (P.1 + 14))] ls172) => ?_)
            refine az_X_step (pc' := 14) (ls' := ls172) (st' := []) (h' := h168) rfl rfl rfl ?_
            rw [k59] at f168
            have q5 := f52.1 f0
            rw [k1] at q5
            have hO : pyO hh n (ja h52 14 2) (ja h52 14 3) (0, 0, 0, 0, [], 0) (fun q => (7, 0, 0, q, [], (j : Int) + 1)) := Or.inr ⟨by omega, by
              rw [show ja h52 14 3 = -1000 - ja h 14 2 by omega]
              exact hL _ (ru_no kin)⟩
            refine ih (j + 1) z172 z168 h168 ls172 (jM_pick hl172 [0, 1, 3, 4] rfl) hH168 (hs.tr ((hs52.sub (by decide)).tr (hs168.sub (by decide)))) e1_h168 hb_h168 (by omega) (by omega) ?_
            rw [r3_h168, show (((j + 1 : Nat)) : Int) = (j : Int) + 1 by omega]
            exact pyW_step hbn hO (fun e => absurd e (by omega)) (Or.inr (by omega)) f168
          · have g32 := jc1_lt_f hc32
            refine az_X_step (pc' := 37) (ls' := ls28) (st' := [.ref (P.2.2.2.2 2)]) (h' := h) rfl rfl rfl ?_
            refine jm_iload (x := z25) rfl rfl (jM_at hl28 0 rfl) ?_
            refine az_X_step (pc' := 40) (ls' := ls28) (st' := [.int ((z25.toUInt32 % 65536).toInt32), .ref (P.2.2.2.2 2)]) (h' := h) rfl rfl rfl ?_
            refine az_X_prim (st' := [.int (si_find ((z25.toUInt32 % 65536).toInt32) (si_text 2) 0)]) rfl rfl rfl rfl rfl rfl ?_ (by omega) ?_
            · show (if si_wide [] = true then (if P.2.2.2.2 2 = P.2.2.2.2 1 then some _ else if P.2.2.2.2 2 = P.2.2.2.2 2 then some _ else none) else none) = _
              rw [if_pos (by decide), if_neg (fun e => hkk e.symm), if_pos rfl]
            show az_X P _ 93 43 ls28 [.int (si_find ((z25.toUInt32 % 65536).toInt32) (si_text 2) 0)] _ _
            have ki := ki_find z25 (by have := hh1 (ja h 14 2); omega)
            refine jx_if (t := 58) rfl rfl rfl (fun hc43 => ?_) (fun hc43 => ?_)
            · have g43 := jc1_ge_t hc43
              have kiy : pyki z25.toInt := by omega
              clear ki
              refine jm_iload_n (x := T) rfl rfl (jM_at hl28 1 rfl) ?_
              refine az_X_step (pc' := 61) (ls' := ls28) (st' := [.int 16, .int T]) (h' := h) rfl rfl rfl ?_
              refine jx_ic (t := 76) rfl rfl rfl (fun hc61 => ?_) (fun hc61 => ?_)
              · have g61 := jc2_ne_t hc61
                have hlt := jBY_lt hb (p := ja h 14 2) (by omega)
                have jlt : (j : Int) + 1 ≤ 16 := by omega
                refine jm_aload_n (x := P.1 + 14) rfl rfl (jM_at hl28 4 rfl) ?_
                refine az_X_call (m' := 122) (as := [.ref (P.1 + 14)]) (rest := []) rfl rfl rfl rfl rfl ?_ ?_
                · unfold si_call
                  dsimp only
                  rw [if_pos ⟨rfl, rfl⟩]
                  show (match si_ix P h (P.1 + 14) with | some i => _ | none => none) = _
                  rw [jix hH (by decide)]
                  dsimp only
                  rw [(hH.2 14 _ rfl).1]
                  rfl
                refine (sp_ok hH (by omega)).mono ?_
                rintro rv77 h77 ⟨rfl, hH77, hs77, f77⟩
                have o_h77 : az_same_out [(14, 2), (14, 3), (42, 6), (42, 7), (43, 1000000), (44, 1000000), (45, 1000000), (46, 1000000), (47, 1000000)] h h77 := (hs77.sub (by decide))
                have e1_h77 : ja h77 14 1 = n := (jso o_h77 (by decide)).trans e1
                have hb_h77 : jBY h77 n hh := jBY_so o_h77 (by decide) hb
                have r3_h77 : ja h77 14 3 = ja h 14 3 := jso hs77 (by decide)
                show az_X P _ 93 80 ls28 [] _ _
                refine jm_aload_n (x := P.1 + 42) rfl rfl (jM_at hl28 3 rfl) ?_
                refine jx_gf (i := 42) rfl rfl hH77 (by decide) (hH77.2 42 _ rfl).1 rfl (jx_rf hH77 rfl rfl) ?_
                refine jm_iload_n (x := T) rfl rfl (jM_at hl28 1 rfl) ?_
                refine jm_iload (x := z25) rfl rfl (jM_at hl28 0 rfl) ?_
                refine jn_ias (i := 45) (x := T) (v := z25) rfl rfl hH77 (by decide) rfl (by omega) (by show _ < ((16 : Nat) : Int); omega) (by show (-2147483648) ≤ _; omega) (by show _ ≤ 2147483647; omega) (fun h87 hH87 hs87 t87 u87 => ?_)
                have o_h87 : az_same_out [(14, 2), (14, 3), (42, 6), (42, 7), (43, 1000000), (44, 1000000), (45, 1000000), (46, 1000000), (47, 1000000)] h h87 := ((hs77.sub (by decide)).tr (hs87.sub (by decide)))
                have e1_h87 : ja h87 14 1 = n := (jso o_h87 (by decide)).trans e1
                have hb_h87 : jBY h87 n hh := jBY_so o_h87 (by decide) hb
                have r3_h87 : ja h87 14 3 = ja h77 14 3 := jso hs87 (by decide)
                have r2_h87 : ja h87 14 2 = ja h77 14 2 := jso hs87 (by decide)
                refine jm_aload_n (x := P.1 + 42) rfl rfl (jM_at hl28 3 rfl) ?_
                refine jx_gf (i := 42) rfl rfl hH87 (by decide) (hH87.2 42 _ rfl).1 rfl (jx_rf hH87 rfl rfl) ?_
                refine jm_iload_n (x := T) rfl rfl (jM_at hl28 1 rfl) ?_
                refine jm_aload_n (x := P.1 + 42) rfl rfl (jM_at hl28 3 rfl) ?_
                refine jn_gf (i := 42) (k := 6) rfl rfl hH87 (by decide) (hH87.2 42 _ rfl).1 rfl rfl (fun z94 (ez94 : z94.toInt = ja h87 42 6) (bz94 : 0 ≤ z94.toInt ∧ z94.toInt ≤ 272) => ?_)
                replace ez94 : z94.toInt = ja h 42 6 := ez94.trans ((jso hs87 (by decide)).trans (jso hs77 (by decide)))
                refine jn_ias (i := 46) (x := T) (v := z94) rfl rfl hH87 (by decide) rfl (by omega) (by show _ < ((16 : Nat) : Int); omega) (by show 0 ≤ _; omega) (by show _ ≤ 272; omega) (fun h97 hH97 hs97 t97 u97 => ?_)
                have o_h97 : az_same_out [(14, 2), (14, 3), (42, 6), (42, 7), (43, 1000000), (44, 1000000), (45, 1000000), (46, 1000000), (47, 1000000)] h h97 := ((hs77.sub (by decide)).tr ((hs87.sub (by decide)).tr (hs97.sub (by decide))))
                have e1_h97 : ja h97 14 1 = n := (jso o_h97 (by decide)).trans e1
                have hb_h97 : jBY h97 n hh := jBY_so o_h97 (by decide) hb
                have r3_h97 : ja h97 14 3 = ja h87 14 3 := jso hs97 (by decide)
                have r2_h97 : ja h97 14 2 = ja h87 14 2 := jso hs97 (by decide)
                have p97 : ja h97 14 2 = ja h 14 2 + 1 := by omega
                have q97 : ja h97 14 3 = 0 := by omega
                refine jm_iload (x := z25) rfl rfl (jM_at hl28 0 rfl) ?_
                refine az_X_step (pc' := 102) (ls' := ls28) (st' := [.int 120, .int z25]) (h' := h97) rfl rfl rfl ?_
                refine jx_ic (t := 119) rfl rfl rfl (fun hc102 => ?_) (fun hc102 => ?_)
                · have g102 := jc2_eq_t hc102
                  have kx : z25.toInt = 120 := by omega
                  refine jm_aload_n (x := P.1 + 42) rfl rfl (jM_at hl28 3 rfl) ?_
                  refine jx_gf (i := 42) rfl rfl hH97 (by decide) (hH97.2 42 _ rfl).1 rfl (jx_rf hH97 rfl rfl) ?_
                  refine jm_iload_n (x := T) rfl rfl (jM_at hl28 1 rfl) ?_
                  refine jm_aload_n (x := P.1 + 42) rfl rfl (jM_at hl28 3 rfl) ?_
                  refine jn_gf (i := 42) (k := 6) rfl rfl hH97 (by decide) (hH97.2 42 _ rfl).1 rfl rfl (fun z125 (ez125 : z125.toInt = ja h97 42 6) (bz125 : 0 ≤ z125.toInt ∧ z125.toInt ≤ 272) => ?_)
                  replace ez125 : z125.toInt = ja h 42 6 := ez125.trans ((jso hs97 (by decide)).trans ((jso hs87 (by decide)).trans (jso hs77 (by decide))))
                  refine jn_ias (i := 47) (x := T) (v := z125) rfl rfl hH97 (by decide) rfl (by omega) (by show _ < ((16 : Nat) : Int); omega) (by show 0 ≤ _; omega) (by show _ ≤ 272; omega) (fun h128 hH128 hs128 t128 u128 => ?_)
                  have o_h128 : az_same_out [(14, 2), (14, 3), (42, 6), (42, 7), (43, 1000000), (44, 1000000), (45, 1000000), (46, 1000000), (47, 1000000)] h h128 := ((hs77.sub (by decide)).tr ((hs87.sub (by decide)).tr ((hs97.sub (by decide)).tr (hs128.sub (by decide)))))
                  have e1_h128 : ja h128 14 1 = n := (jso o_h128 (by decide)).trans e1
                  have hb_h128 : jBY h128 n hh := jBY_so o_h128 (by decide) hb
                  have r3_h128 : ja h128 14 3 = ja h97 14 3 := jso hs128 (by decide)
                  have r2_h128 : ja h128 14 2 = ja h97 14 2 := jso hs128 (by decide)
                  have b128 : 0 ≤ ja h128 14 2 ∧ ja h128 14 2 ≤ 241 := ja_bd hH128 (i := 14) (k := 2) rfl
                  have p128 : ja h128 14 2 = ja h 14 2 + 1 := by omega
                  have q128 : ja h128 14 3 = 0 := by omega
                  refine jm_aload_n (x := P.1 + 14) rfl rfl (jM_at hl28 4 rfl) ?_
                  refine az_X_step (pc' := 132) (ls' := ls28) (st' := [.int 40, .ref (P.1 + 14)]) (h' := h128) rfl rfl rfl ?_
                  refine az_X_call (m' := 124) (as := [.ref (P.1 + 14), .int 40]) (rest := []) rfl rfl rfl rfl rfl ?_ ?_
                  · unfold si_call
                    dsimp only
                    rw [if_pos ⟨rfl, rfl⟩]
                    show (match si_ix P h128 (P.1 + 14) with | some i => _ | none => none) = _
                    rw [jix hH128 (by decide)]
                    dsimp only
                    rw [(hH128.2 14 _ rfl).1]
                    rfl
                  refine (ex2_ok hxa hH128 hn e1_h128 rfl rfl hb_h128 40 (by decide)).mono ?_
                  rintro rv132 h132 ⟨rfl, hH132, hs132, f132⟩
                  have o_h132 : az_same_out [(14, 2), (14, 3), (42, 6), (42, 7), (43, 1000000), (44, 1000000), (45, 1000000), (46, 1000000), (47, 1000000)] h h132 := ((hs77.sub (by decide)).tr ((hs87.sub (by decide)).tr ((hs97.sub (by decide)).tr ((hs128.sub (by decide)).tr (hs132.sub (by decide))))))
                  have e1_h132 : ja h132 14 1 = n := (jso o_h132 (by decide)).trans e1
                  have hb_h132 : jBY h132 n hh := jBY_so o_h132 (by decide) hb
                  show az_X P _ 93 135 ls28 [] _ _
                  refine jm_aload_n (x := P.1 + 42) rfl rfl (jM_at hl28 3 rfl) ?_
                  refine jm_aload_n (x := P.1 + 14) rfl rfl (jM_at hl28 4 rfl) ?_
                  refine az_X_step (pc' := 138) (ls' := ls28) (st' := [.int 1, .ref (P.1 + 14), .ref (P.1 + 42)]) (h' := h132) rfl rfl rfl ?_
                  refine az_X_call (m' := 96) (as := [.ref (P.1 + 42), .ref (P.1 + 14), .int 1]) (rest := []) rfl rfl rfl rfl rfl ?_ ?_
                  · unfold si_call
                    dsimp only
                    rw [if_pos ⟨rfl, rfl⟩]
                    show (match si_ix P h132 (P.1 + 42) with | some i => _ | none => none) = _
                    rw [jix hH132 (by decide)]
                    dsimp only
                    rw [(hH132.2 42 _ rfl).1]
                    rfl
                  refine ((tc_b hxa hn hh1 5).2 (d + 22) h132 1 _ _ (by omega) hH132 (by decide) e1_h132 rfl rfl hb_h132 (exR_n hbn (by decide) b128.1 f132)).mono ?_
                  rintro rv138 h138 ⟨rfl, hH138, hs138, f138⟩
                  have o_h138 : az_same_out [(14, 2), (14, 3), (42, 6), (42, 7), (43, 1000000), (44, 1000000), (45, 1000000), (46, 1000000), (47, 1000000)] h h138 := ((hs77.sub (by decide)).tr ((hs87.sub (by decide)).tr ((hs97.sub (by decide)).tr ((hs128.sub (by decide)).tr ((hs132.sub (by decide)).tr (hs138.sub (by decide)))))))
                  have e1_h138 : ja h138 14 1 = n := (jso o_h138 (by decide)).trans e1
                  have hb_h138 : jBY h138 n hh := jBY_so o_h138 (by decide) hb
                  show az_X P _ 93 141 ls28 [] _ _
                  refine jm_aload_n (x := P.1 + 14) rfl rfl (jM_at hl28 4 rfl) ?_
                  refine az_X_step (pc' := 144) (ls' := ls28) (st' := [.int 41, .ref (P.1 + 14)]) (h' := h138) rfl rfl rfl ?_
                  refine az_X_call (m' := 124) (as := [.ref (P.1 + 14), .int 41]) (rest := []) rfl rfl rfl rfl rfl ?_ ?_
                  · unfold si_call
                    dsimp only
                    rw [if_pos ⟨rfl, rfl⟩]
                    show (match si_ix P h138 (P.1 + 14) with | some i => _ | none => none) = _
                    rw [jix hH138 (by decide)]
                    dsimp only
                    rw [(hH138.2 14 _ rfl).1]
                    rfl
                  refine (ex2_ok hxa hH138 hn e1_h138 rfl rfl hb_h138 41 (by decide)).mono ?_
                  rintro rv144 h144 ⟨rfl, hH144, hs144, f144⟩
                  have o_h144 : az_same_out [(14, 2), (14, 3), (42, 6), (42, 7), (43, 1000000), (44, 1000000), (45, 1000000), (46, 1000000), (47, 1000000)] h h144 := ((hs77.sub (by decide)).tr ((hs87.sub (by decide)).tr ((hs97.sub (by decide)).tr ((hs128.sub (by decide)).tr ((hs132.sub (by decide)).tr ((hs138.sub (by decide)).tr (hs144.sub (by decide))))))))
                  have e1_h144 : ja h144 14 1 = n := (jso o_h144 (by decide)).trans e1
                  have hb_h144 : jBY h144 n hh := jBY_so o_h144 (by decide) hb
                  show az_X P _ 93 147 ls28 [] _ _
                  refine jm_aload_n (x := P.1 + 42) rfl rfl (jM_at hl28 3 rfl) ?_
                  refine az_X_step (pc' := 150) (ls' := ls28) (st' := [.int 46, .ref (P.1 + 42)]) (h' := h144) rfl rfl rfl ?_
                  refine az_X_step (pc' := 151) (ls' := ls28) (st' := [.int 0, .int 46, .ref (P.1 + 42)]) (h' := h144) rfl rfl rfl ?_
                  refine az_X_call (m' := 94) (as := [.ref (P.1 + 42), .int 46, .int 0]) (rest := []) rfl rfl rfl rfl rfl ?_ ?_
                  · unfold si_call
                    dsimp only
                    rw [if_pos ⟨rfl, rfl⟩]
                    show (match si_ix P h144 (P.1 + 42) with | some i => _ | none => none) = _
                    rw [jix hH144 (by decide)]
                    dsimp only
                    rw [(hH144.2 42 _ rfl).1]
                    rfl
                  refine (as_b hxa hH144 46 0 (by omega)).mono ?_
                  rintro rv151 h151 ⟨z151, rfl, hH151, hs151, f151⟩
                  have o_h151 : az_same_out [(14, 2), (14, 3), (42, 6), (42, 7), (43, 1000000), (44, 1000000), (45, 1000000), (46, 1000000), (47, 1000000)] h h151 := ((hs77.sub (by decide)).tr ((hs87.sub (by decide)).tr ((hs97.sub (by decide)).tr ((hs128.sub (by decide)).tr ((hs132.sub (by decide)).tr ((hs138.sub (by decide)).tr ((hs144.sub (by decide)).tr (hs151.sub (by decide)))))))))
                  have e1_h151 : ja h151 14 1 = n := (jso o_h151 (by decide)).trans e1
                  have hb_h151 : jBY h151 n hh := jBY_so o_h151 (by decide) hb
                  have r3_h151 : ja h151 14 3 = ja h144 14 3 := jso hs151 (by decide)
                  have r2_h151 : ja h151 14 2 = ja h144 14 2 := jso hs151 (by decide)
                  show az_X P _ 93 154 ls28 [.int z151] _ _
                  refine az_X_step (pc' := 155) (ls' := ls28) (st' := []) (h' := h151) rfl rfl rfl ?_
                  refine jm_aload_n (x := P.1 + 42) rfl rfl (jM_at hl28 3 rfl) ?_
                  refine az_X_step (pc' := 157) (ls' := ls28) (st' := [.ref (P.1 + 42), .ref (P.1 + 42)]) (h' := h151) rfl rfl rfl ?_
                  refine jn_gf (i := 42) (k := 7) rfl rfl hH151 (by decide) (hH151.2 42 _ rfl).1 rfl rfl (fun z157 (ez157 : z157.toInt = ja h151 42 7) (bz157 : 0 ≤ z157.toInt ∧ z157.toInt ≤ 16) => ?_)
                  replace ez157 : z157.toInt = ja h 42 7 := ez157.trans ((jso hs151 (by decide)).trans ((jso hs144 (by decide)).trans ((jso hs138 (by decide)).trans ((jso hs132 (by decide)).trans ((jso hs128 (by decide)).trans ((jso hs97 (by decide)).trans ((jso hs87 (by decide)).trans (jso hs77 (by decide)))))))))
                  refine az_X_step (pc' := 161) (ls' := ls28) (st' := [.int 1, .int z157, .ref (P.1 + 42)]) (h' := h151) rfl rfl rfl ?_
                  refine jn_add (a := z157) (b := 1) rfl rfl (by omega) (by omega) (fun z161 ez161 => ?_)
                  rw [show (1 : Int32).toInt = 1 by decide] at ez161
                  refine jn_pf (i := 42) (k := 7) (x := z161) rfl rfl hH151 (by decide) rfl (hH151.2 42 _ rfl).1 rfl rfl (by decide) (by decide) (by show 0 ≤ _; omega) (by show _ ≤ 16; omega) (fun h162 hH162 hs162 (t162 : ja h162 42 7 = z161.toInt) => ?_)
                  have o_h162 : az_same_out [(14, 2), (14, 3), (42, 6), (42, 7), (43, 1000000), (44, 1000000), (45, 1000000), (46, 1000000), (47, 1000000)] h h162 := ((hs77.sub (by decide)).tr ((hs87.sub (by decide)).tr ((hs97.sub (by decide)).tr ((hs128.sub (by decide)).tr ((hs132.sub (by decide)).tr ((hs138.sub (by decide)).tr ((hs144.sub (by decide)).tr ((hs151.sub (by decide)).tr (hs162.sub (by decide))))))))))
                  have e1_h162 : ja h162 14 1 = n := (jso o_h162 (by decide)).trans e1
                  have hb_h162 : jBY h162 n hh := jBY_so o_h162 (by decide) hb
                  have r3_h162 : ja h162 14 3 = ja h151 14 3 := jso hs162 (by decide)
                  have r2_h162 : ja h162 14 2 = ja h151 14 2 := jso hs162 (by decide)
                  refine jm_aload_n (x := P.1 + 14) rfl rfl (jM_at hl28 4 rfl) ?_
                  refine az_X_step (pc' := 168) (ls' := ls28) (st' := [.int 59, .ref (P.1 + 14)]) (h' := h162) rfl rfl rfl ?_
                  refine az_X_call (m' := 123) (as := [.ref (P.1 + 14), .int 59]) (rest := []) rfl rfl rfl rfl rfl ?_ ?_
                  · unfold si_call
                    dsimp only
                    rw [if_pos ⟨rfl, rfl⟩]
                    show (match si_ix P h162 (P.1 + 14) with | some i => _ | none => none) = _
                    rw [jix hH162 (by decide)]
                    dsimp only
                    rw [(hH162.2 14 _ rfl).1]
                    rfl
                  refine (tk2_ok hxa hH162 hn e1_h162 rfl rfl hb_h162 59 (by decide)).mono ?_
                  rintro rv168 h168 ⟨z168, rfl, hH168, hs168, f168⟩
                  have o_h168 : az_same_out [(14, 2), (14, 3), (42, 6), (42, 7), (43, 1000000), (44, 1000000), (45, 1000000), (46, 1000000), (47, 1000000)] h h168 := ((hs77.sub (by decide)).tr ((hs87.sub (by decide)).tr ((hs97.sub (by decide)).tr ((hs128.sub (by decide)).tr ((hs132.sub (by decide)).tr ((hs138.sub (by decide)).tr ((hs144.sub (by decide)).tr ((hs151.sub (by decide)).tr ((hs162.sub (by decide)).tr (hs168.sub (by decide)))))))))))
                  have e1_h168 : ja h168 14 1 = n := (jso o_h168 (by decide)).trans e1
                  have hb_h168 : jBY h168 n hh := jBY_so o_h168 (by decide) hb
                  have r3_h168 : ja h168 14 3 = ja h162 14 3 := jso hs168 (by decide)
                  show az_X P _ 93 171 ls28 [.int z168] _ _
                  refine jm_istore_n (l' := [(2, .int z168), (4, .int z25), (3, .int T), (0, .ref (P.1 + 42)), (1, .ref (P.1 + 14))]) rfl rfl (by decide) hl28 rfl rfl (fun ls171 hl171 => ?_)
                  refine jn_iinc (x := T) rfl rfl (by decide) (jM_at hl171 2 rfl) hl171 rfl (by decide) (by omega) (by omega) (fun z172 (ez172 : z172.toInt = T.toInt + 1) ls172 (hl172 : jM [(3, .int z172), (2, .int z168), (4, .int z25), (0, .ref (P.1 + 42)), (1, .ref (P.1 + 14))] ls172) => ?_)
                  refine az_X_step (pc' := 14) (ls' := ls172) (st' := []) (h' := h168) rfl rfl rfl ?_
                  rw [k59] at f168
                  rw [k40] at f132
                  rw [k1] at f138
                  rw [k41] at f144
                  have hO1 := ru_ok (hh := hh) (n := n) (i := (j : Int)) (k := z25.toInt) (q2 := ja h128 14 2) (f2 := ja h128 14 3) bp.1 ez25 kiy (by omega) (Or.inl ⟨kx, p128, q128⟩) f132 f138 f144
                  have hO : pyO hh n (ja h162 14 2) (ja h162 14 3) (0, 0, 0, 0, [], 0) (fun q => (7, 0, 0, q, [], (j : Int) + 1)) := by
                    rw [r2_h162.trans r2_h151, r3_h162.trans r3_h151]
                    exact pyO_pre hL hO1
                  refine ih (j + 1) z172 z168 h168 ls172 (jM_pick hl172 [0, 1, 3, 4] rfl) hH168 (hs.tr ((hs77.sub (by decide)).tr ((hs87.sub (by decide)).tr ((hs97.sub (by decide)).tr ((hs128.sub (by decide)).tr ((hs132.sub (by decide)).tr ((hs138.sub (by decide)).tr ((hs144.sub (by decide)).tr ((hs151.sub (by decide)).tr ((hs162.sub (by decide)).tr (hs168.sub (by decide)))))))))))) e1_h168 hb_h168 (by omega) (by omega) ?_
                  rw [r3_h168, show (((j + 1 : Nat)) : Int) = (j : Int) + 1 by omega]
                  exact pyW_step hbn hO (fun e => (((jso hs168 (by decide)).trans t162)).trans (by omega)) (Or.inl jlt) f168
                · have g102 := jc2_eq_f hc102
                  have kx : z25.toInt ≠ 120 := by omega
                  refine jm_aload_n (x := P.1 + 42) rfl rfl (jM_at hl28 3 rfl) ?_
                  refine jm_aload_n (x := P.1 + 14) rfl rfl (jM_at hl28 4 rfl) ?_
                  refine az_X_step (pc' := 108) (ls' := ls28) (st' := [.int 0, .ref (P.1 + 14), .ref (P.1 + 42)]) (h' := h97) rfl rfl rfl ?_
                  refine az_X_call (m' := 98) (as := [.ref (P.1 + 42), .ref (P.1 + 14), .int 0]) (rest := []) rfl rfl rfl rfl rfl ?_ ?_
                  · unfold si_call
                    dsimp only
                    rw [if_pos ⟨rfl, rfl⟩]
                    show (match si_ix P h97 (P.1 + 42) with | some i => _ | none => none) = _
                    rw [jix hH97 (by decide)]
                    dsimp only
                    rw [(hH97.2 42 _ rfl).1]
                    rfl
                  refine ((fx_b hxa hn hh1 6).2 (d + 22) h97 0 _ _ (by omega) hH97 (by decide) e1_h97 rfl rfl hb_h97 (by omega)).mono ?_
                  rintro rv108 h108 ⟨rfl, hH108, hs108, f108⟩
                  have o_h108 : az_same_out [(14, 2), (14, 3), (42, 6), (42, 7), (43, 1000000), (44, 1000000), (45, 1000000), (46, 1000000), (47, 1000000)] h h108 := ((hs77.sub (by decide)).tr ((hs87.sub (by decide)).tr ((hs97.sub (by decide)).tr (hs108.sub (by decide)))))
                  have e1_h108 : ja h108 14 1 = n := (jso o_h108 (by decide)).trans e1
                  have hb_h108 : jBY h108 n hh := jBY_so o_h108 (by decide) hb
                  show az_X P _ 93 111 ls28 [] _ _
                  refine jm_aload_n (x := P.1 + 42) rfl rfl (jM_at hl28 3 rfl) ?_
                  refine az_X_step (pc' := 114) (ls' := ls28) (st' := [.int 46, .ref (P.1 + 42)]) (h' := h108) rfl rfl rfl ?_
                  refine az_X_step (pc' := 115) (ls' := ls28) (st' := [.int 0, .int 46, .ref (P.1 + 42)]) (h' := h108) rfl rfl rfl ?_
                  refine az_X_call (m' := 94) (as := [.ref (P.1 + 42), .int 46, .int 0]) (rest := []) rfl rfl rfl rfl rfl ?_ ?_
                  · unfold si_call
                    dsimp only
                    rw [if_pos ⟨rfl, rfl⟩]
                    show (match si_ix P h108 (P.1 + 42) with | some i => _ | none => none) = _
                    rw [jix hH108 (by decide)]
                    dsimp only
                    rw [(hH108.2 42 _ rfl).1]
                    rfl
                  refine (as_b hxa hH108 46 0 (by omega)).mono ?_
                  rintro rv115 h115 ⟨z115, rfl, hH115, hs115, f115⟩
                  have o_h115 : az_same_out [(14, 2), (14, 3), (42, 6), (42, 7), (43, 1000000), (44, 1000000), (45, 1000000), (46, 1000000), (47, 1000000)] h h115 := ((hs77.sub (by decide)).tr ((hs87.sub (by decide)).tr ((hs97.sub (by decide)).tr ((hs108.sub (by decide)).tr (hs115.sub (by decide))))))
                  have e1_h115 : ja h115 14 1 = n := (jso o_h115 (by decide)).trans e1
                  have hb_h115 : jBY h115 n hh := jBY_so o_h115 (by decide) hb
                  have r3_h115 : ja h115 14 3 = ja h108 14 3 := jso hs115 (by decide)
                  have r2_h115 : ja h115 14 2 = ja h108 14 2 := jso hs115 (by decide)
                  show az_X P _ 93 118 ls28 [.int z115] _ _
                  refine az_X_step (pc' := 119) (ls' := ls28) (st' := []) (h' := h115) rfl rfl rfl ?_
                  have tr1 := trivial
                  refine jm_aload_n (x := P.1 + 42) rfl rfl (jM_at hl28 3 rfl) ?_
                  refine jx_gf (i := 42) rfl rfl hH115 (by decide) (hH115.2 42 _ rfl).1 rfl (jx_rf hH115 rfl rfl) ?_
                  refine jm_iload_n (x := T) rfl rfl (jM_at hl28 1 rfl) ?_
                  refine jm_aload_n (x := P.1 + 42) rfl rfl (jM_at hl28 3 rfl) ?_
                  refine jn_gf (i := 42) (k := 6) rfl rfl hH115 (by decide) (hH115.2 42 _ rfl).1 rfl rfl (fun z125 (ez125 : z125.toInt = ja h115 42 6) (bz125 : 0 ≤ z125.toInt ∧ z125.toInt ≤ 272) => ?_)
                  refine jn_ias (i := 47) (x := T) (v := z125) rfl rfl hH115 (by decide) rfl (by omega) (by show _ < ((16 : Nat) : Int); omega) (by show 0 ≤ _; omega) (by show _ ≤ 272; omega) (fun h128 hH128 hs128 t128 u128 => ?_)
                  have o_h128 : az_same_out [(14, 2), (14, 3), (42, 6), (42, 7), (43, 1000000), (44, 1000000), (45, 1000000), (46, 1000000), (47, 1000000)] h h128 := ((hs77.sub (by decide)).tr ((hs87.sub (by decide)).tr ((hs97.sub (by decide)).tr ((hs108.sub (by decide)).tr ((hs115.sub (by decide)).tr (hs128.sub (by decide)))))))
                  have e1_h128 : ja h128 14 1 = n := (jso o_h128 (by decide)).trans e1
                  have hb_h128 : jBY h128 n hh := jBY_so o_h128 (by decide) hb
                  have r3_h128 : ja h128 14 3 = ja h115 14 3 := jso hs128 (by decide)
                  have r2_h128 : ja h128 14 2 = ja h115 14 2 := jso hs128 (by decide)
                  have b128 : 0 ≤ ja h128 14 2 ∧ ja h128 14 2 ≤ 241 := ja_bd hH128 (i := 14) (k := 2) rfl
                  have p128 : ja h128 14 2 = ja h108 14 2 := by omega
                  have q128 : ja h128 14 3 = ja h108 14 3 := by omega
                  refine jm_aload_n (x := P.1 + 14) rfl rfl (jM_at hl28 4 rfl) ?_
                  refine az_X_step (pc' := 132) (ls' := ls28) (st' := [.int 40, .ref (P.1 + 14)]) (h' := h128) rfl rfl rfl ?_
                  refine az_X_call (m' := 124) (as := [.ref (P.1 + 14), .int 40]) (rest := []) rfl rfl rfl rfl rfl ?_ ?_
                  · unfold si_call
                    dsimp only
                    rw [if_pos ⟨rfl, rfl⟩]
                    show (match si_ix P h128 (P.1 + 14) with | some i => _ | none => none) = _
                    rw [jix hH128 (by decide)]
                    dsimp only
                    rw [(hH128.2 14 _ rfl).1]
                    rfl
                  refine (ex2_ok hxa hH128 hn e1_h128 rfl rfl hb_h128 40 (by decide)).mono ?_
                  rintro rv132 h132 ⟨rfl, hH132, hs132, f132⟩
                  have o_h132 : az_same_out [(14, 2), (14, 3), (42, 6), (42, 7), (43, 1000000), (44, 1000000), (45, 1000000), (46, 1000000), (47, 1000000)] h h132 := ((hs77.sub (by decide)).tr ((hs87.sub (by decide)).tr ((hs97.sub (by decide)).tr ((hs108.sub (by decide)).tr ((hs115.sub (by decide)).tr ((hs128.sub (by decide)).tr (hs132.sub (by decide))))))))
                  have e1_h132 : ja h132 14 1 = n := (jso o_h132 (by decide)).trans e1
                  have hb_h132 : jBY h132 n hh := jBY_so o_h132 (by decide) hb
                  show az_X P _ 93 135 ls28 [] _ _
                  refine jm_aload_n (x := P.1 + 42) rfl rfl (jM_at hl28 3 rfl) ?_
                  refine jm_aload_n (x := P.1 + 14) rfl rfl (jM_at hl28 4 rfl) ?_
                  refine az_X_step (pc' := 138) (ls' := ls28) (st' := [.int 1, .ref (P.1 + 14), .ref (P.1 + 42)]) (h' := h132) rfl rfl rfl ?_
                  refine az_X_call (m' := 96) (as := [.ref (P.1 + 42), .ref (P.1 + 14), .int 1]) (rest := []) rfl rfl rfl rfl rfl ?_ ?_
                  · unfold si_call
                    dsimp only
                    rw [if_pos ⟨rfl, rfl⟩]
                    show (match si_ix P h132 (P.1 + 42) with | some i => _ | none => none) = _
                    rw [jix hH132 (by decide)]
                    dsimp only
                    rw [(hH132.2 42 _ rfl).1]
                    rfl
                  refine ((tc_b hxa hn hh1 5).2 (d + 22) h132 1 _ _ (by omega) hH132 (by decide) e1_h132 rfl rfl hb_h132 (exR_n hbn (by decide) b128.1 f132)).mono ?_
                  rintro rv138 h138 ⟨rfl, hH138, hs138, f138⟩
                  have o_h138 : az_same_out [(14, 2), (14, 3), (42, 6), (42, 7), (43, 1000000), (44, 1000000), (45, 1000000), (46, 1000000), (47, 1000000)] h h138 := ((hs77.sub (by decide)).tr ((hs87.sub (by decide)).tr ((hs97.sub (by decide)).tr ((hs108.sub (by decide)).tr ((hs115.sub (by decide)).tr ((hs128.sub (by decide)).tr ((hs132.sub (by decide)).tr (hs138.sub (by decide)))))))))
                  have e1_h138 : ja h138 14 1 = n := (jso o_h138 (by decide)).trans e1
                  have hb_h138 : jBY h138 n hh := jBY_so o_h138 (by decide) hb
                  show az_X P _ 93 141 ls28 [] _ _
                  refine jm_aload_n (x := P.1 + 14) rfl rfl (jM_at hl28 4 rfl) ?_
                  refine az_X_step (pc' := 144) (ls' := ls28) (st' := [.int 41, .ref (P.1 + 14)]) (h' := h138) rfl rfl rfl ?_
                  refine az_X_call (m' := 124) (as := [.ref (P.1 + 14), .int 41]) (rest := []) rfl rfl rfl rfl rfl ?_ ?_
                  · unfold si_call
                    dsimp only
                    rw [if_pos ⟨rfl, rfl⟩]
                    show (match si_ix P h138 (P.1 + 14) with | some i => _ | none => none) = _
                    rw [jix hH138 (by decide)]
                    dsimp only
                    rw [(hH138.2 14 _ rfl).1]
                    rfl
                  refine (ex2_ok hxa hH138 hn e1_h138 rfl rfl hb_h138 41 (by decide)).mono ?_
                  rintro rv144 h144 ⟨rfl, hH144, hs144, f144⟩
                  have o_h144 : az_same_out [(14, 2), (14, 3), (42, 6), (42, 7), (43, 1000000), (44, 1000000), (45, 1000000), (46, 1000000), (47, 1000000)] h h144 := ((hs77.sub (by decide)).tr ((hs87.sub (by decide)).tr ((hs97.sub (by decide)).tr ((hs108.sub (by decide)).tr ((hs115.sub (by decide)).tr ((hs128.sub (by decide)).tr ((hs132.sub (by decide)).tr ((hs138.sub (by decide)).tr (hs144.sub (by decide))))))))))
                  have e1_h144 : ja h144 14 1 = n := (jso o_h144 (by decide)).trans e1
                  have hb_h144 : jBY h144 n hh := jBY_so o_h144 (by decide) hb
                  show az_X P _ 93 147 ls28 [] _ _
                  refine jm_aload_n (x := P.1 + 42) rfl rfl (jM_at hl28 3 rfl) ?_
                  refine az_X_step (pc' := 150) (ls' := ls28) (st' := [.int 46, .ref (P.1 + 42)]) (h' := h144) rfl rfl rfl ?_
                  refine az_X_step (pc' := 151) (ls' := ls28) (st' := [.int 0, .int 46, .ref (P.1 + 42)]) (h' := h144) rfl rfl rfl ?_
                  refine az_X_call (m' := 94) (as := [.ref (P.1 + 42), .int 46, .int 0]) (rest := []) rfl rfl rfl rfl rfl ?_ ?_
                  · unfold si_call
                    dsimp only
                    rw [if_pos ⟨rfl, rfl⟩]
                    show (match si_ix P h144 (P.1 + 42) with | some i => _ | none => none) = _
                    rw [jix hH144 (by decide)]
                    dsimp only
                    rw [(hH144.2 42 _ rfl).1]
                    rfl
                  refine (as_b hxa hH144 46 0 (by omega)).mono ?_
                  rintro rv151 h151 ⟨z151, rfl, hH151, hs151, f151⟩
                  have o_h151 : az_same_out [(14, 2), (14, 3), (42, 6), (42, 7), (43, 1000000), (44, 1000000), (45, 1000000), (46, 1000000), (47, 1000000)] h h151 := ((hs77.sub (by decide)).tr ((hs87.sub (by decide)).tr ((hs97.sub (by decide)).tr ((hs108.sub (by decide)).tr ((hs115.sub (by decide)).tr ((hs128.sub (by decide)).tr ((hs132.sub (by decide)).tr ((hs138.sub (by decide)).tr ((hs144.sub (by decide)).tr (hs151.sub (by decide)))))))))))
                  have e1_h151 : ja h151 14 1 = n := (jso o_h151 (by decide)).trans e1
                  have hb_h151 : jBY h151 n hh := jBY_so o_h151 (by decide) hb
                  have r3_h151 : ja h151 14 3 = ja h144 14 3 := jso hs151 (by decide)
                  have r2_h151 : ja h151 14 2 = ja h144 14 2 := jso hs151 (by decide)
                  show az_X P _ 93 154 ls28 [.int z151] _ _
                  refine az_X_step (pc' := 155) (ls' := ls28) (st' := []) (h' := h151) rfl rfl rfl ?_
                  refine jm_aload_n (x := P.1 + 42) rfl rfl (jM_at hl28 3 rfl) ?_
                  refine az_X_step (pc' := 157) (ls' := ls28) (st' := [.ref (P.1 + 42), .ref (P.1 + 42)]) (h' := h151) rfl rfl rfl ?_
                  refine jn_gf (i := 42) (k := 7) rfl rfl hH151 (by decide) (hH151.2 42 _ rfl).1 rfl rfl (fun z157 (ez157 : z157.toInt = ja h151 42 7) (bz157 : 0 ≤ z157.toInt ∧ z157.toInt ≤ 16) => ?_)
                  replace ez157 : z157.toInt = ja h 42 7 := ez157.trans ((jso hs151 (by decide)).trans ((jso hs144 (by decide)).trans ((jso hs138 (by decide)).trans ((jso hs132 (by decide)).trans ((jso hs128 (by decide)).trans ((jso hs115 (by decide)).trans ((jso hs108 (by decide)).trans ((jso hs97 (by decide)).trans ((jso hs87 (by decide)).trans (jso hs77 (by decide)))))))))))
                  refine az_X_step (pc' := 161) (ls' := ls28) (st' := [.int 1, .int z157, .ref (P.1 + 42)]) (h' := h151) rfl rfl rfl ?_
                  refine jn_add (a := z157) (b := 1) rfl rfl (by omega) (by omega) (fun z161 ez161 => ?_)
                  rw [show (1 : Int32).toInt = 1 by decide] at ez161
                  refine jn_pf (i := 42) (k := 7) (x := z161) rfl rfl hH151 (by decide) rfl (hH151.2 42 _ rfl).1 rfl rfl (by decide) (by decide) (by show 0 ≤ _; omega) (by show _ ≤ 16; omega) (fun h162 hH162 hs162 (t162 : ja h162 42 7 = z161.toInt) => ?_)
                  have o_h162 : az_same_out [(14, 2), (14, 3), (42, 6), (42, 7), (43, 1000000), (44, 1000000), (45, 1000000), (46, 1000000), (47, 1000000)] h h162 := ((hs77.sub (by decide)).tr ((hs87.sub (by decide)).tr ((hs97.sub (by decide)).tr ((hs108.sub (by decide)).tr ((hs115.sub (by decide)).tr ((hs128.sub (by decide)).tr ((hs132.sub (by decide)).tr ((hs138.sub (by decide)).tr ((hs144.sub (by decide)).tr ((hs151.sub (by decide)).tr (hs162.sub (by decide))))))))))))
                  have e1_h162 : ja h162 14 1 = n := (jso o_h162 (by decide)).trans e1
                  have hb_h162 : jBY h162 n hh := jBY_so o_h162 (by decide) hb
                  have r3_h162 : ja h162 14 3 = ja h151 14 3 := jso hs162 (by decide)
                  have r2_h162 : ja h162 14 2 = ja h151 14 2 := jso hs162 (by decide)
                  refine jm_aload_n (x := P.1 + 14) rfl rfl (jM_at hl28 4 rfl) ?_
                  refine az_X_step (pc' := 168) (ls' := ls28) (st' := [.int 59, .ref (P.1 + 14)]) (h' := h162) rfl rfl rfl ?_
                  refine az_X_call (m' := 123) (as := [.ref (P.1 + 14), .int 59]) (rest := []) rfl rfl rfl rfl rfl ?_ ?_
                  · unfold si_call
                    dsimp only
                    rw [if_pos ⟨rfl, rfl⟩]
                    show (match si_ix P h162 (P.1 + 14) with | some i => _ | none => none) = _
                    rw [jix hH162 (by decide)]
                    dsimp only
                    rw [(hH162.2 14 _ rfl).1]
                    rfl
                  refine (tk2_ok hxa hH162 hn e1_h162 rfl rfl hb_h162 59 (by decide)).mono ?_
                  rintro rv168 h168 ⟨z168, rfl, hH168, hs168, f168⟩
                  have o_h168 : az_same_out [(14, 2), (14, 3), (42, 6), (42, 7), (43, 1000000), (44, 1000000), (45, 1000000), (46, 1000000), (47, 1000000)] h h168 := ((hs77.sub (by decide)).tr ((hs87.sub (by decide)).tr ((hs97.sub (by decide)).tr ((hs108.sub (by decide)).tr ((hs115.sub (by decide)).tr ((hs128.sub (by decide)).tr ((hs132.sub (by decide)).tr ((hs138.sub (by decide)).tr ((hs144.sub (by decide)).tr ((hs151.sub (by decide)).tr ((hs162.sub (by decide)).tr (hs168.sub (by decide)))))))))))))
                  have e1_h168 : ja h168 14 1 = n := (jso o_h168 (by decide)).trans e1
                  have hb_h168 : jBY h168 n hh := jBY_so o_h168 (by decide) hb
                  have r3_h168 : ja h168 14 3 = ja h162 14 3 := jso hs168 (by decide)
                  show az_X P _ 93 171 ls28 [.int z168] _ _
                  refine jm_istore_n (l' := [(2, .int z168), (4, .int z25), (3, .int T), (0, .ref (P.1 + 42)), (1, .ref (P.1 + 14))]) rfl rfl (by decide) hl28 rfl rfl (fun ls171 hl171 => ?_)
                  refine jn_iinc (x := T) rfl rfl (by decide) (jM_at hl171 2 rfl) hl171 rfl (by decide) (by omega) (by omega) (fun z172 (ez172 : z172.toInt = T.toInt + 1) ls172 (hl172 : jM [(3, .int z172), (2, .int z168), (4, .int z25), (0, .ref (P.1 + 42)), (1, .ref (P.1 + 14))] ls172) => ?_)
                  refine az_X_step (pc' := 14) (ls' := ls172) (st' := []) (h' := h168) rfl rfl rfl ?_
                  rw [k59] at f168
                  rw [p97, q97, k0] at f108
                  rw [k40, p128, q128] at f132
                  rw [k1] at f138
                  rw [k41] at f144
                  have hO1 := ru_ok (hh := hh) (n := n) (i := (j : Int)) (k := z25.toInt) (q2 := ja h108 14 2) (f2 := ja h108 14 3) bp.1 ez25 kiy (by omega) (Or.inr ⟨kx, f108⟩) f132 f138 f144
                  have hO : pyO hh n (ja h162 14 2) (ja h162 14 3) (0, 0, 0, 0, [], 0) (fun q => (7, 0, 0, q, [], (j : Int) + 1)) := by
                    rw [r2_h162.trans r2_h151, r3_h162.trans r3_h151]
                    exact pyO_pre hL hO1
                  refine ih (j + 1) z172 z168 h168 ls172 (jM_pick hl172 [0, 1, 3, 4] rfl) hH168 (hs.tr ((hs77.sub (by decide)).tr ((hs87.sub (by decide)).tr ((hs97.sub (by decide)).tr ((hs108.sub (by decide)).tr ((hs115.sub (by decide)).tr ((hs128.sub (by decide)).tr ((hs132.sub (by decide)).tr ((hs138.sub (by decide)).tr ((hs144.sub (by decide)).tr ((hs151.sub (by decide)).tr ((hs162.sub (by decide)).tr (hs168.sub (by decide)))))))))))))) e1_h168 hb_h168 (by omega) (by omega) ?_
                  rw [r3_h168, show (((j + 1 : Nat)) : Int) = (j : Int) + 1 by omega]
                  exact pyW_step hbn hO (fun e => (((jso hs168 (by decide)).trans t162)).trans (by omega)) (Or.inl jlt) f168
              · have g61 := jc2_ne_f hc61
                refine jm_aload_n (x := P.1 + 14) rfl rfl (jM_at hl28 4 rfl) ?_
                refine az_X_step (pc' := 66) (ls' := ls28) (st' := [.int 4, .ref (P.1 + 14)]) (h' := h) rfl rfl rfl ?_
                refine jm_aload_n (x := P.1 + 14) rfl rfl (jM_at hl28 4 rfl) ?_
                refine az_X_call (m' := 120) (as := [.ref (P.1 + 14)]) (rest := [.int 4, .ref (P.1 + 14)]) rfl rfl rfl rfl rfl ?_ ?_
                · unfold si_call
                  dsimp only
                  rw [if_pos ⟨rfl, rfl⟩]
                  show (match si_ix P h (P.1 + 14) with | some i => _ | none => none) = _
                  rw [jix hH (by decide)]
                  dsimp only
                  rw [(hH.2 14 _ rfl).1]
                  rfl
                refine (pl_ok hH).mono ?_
                rintro rv67 h67 ⟨q67, z67, rfl, ez67⟩
                subst h67
                show az_X P _ 93 70 ls28 [.int z67, .int 4, .ref (P.1 + 14)] _ _
                refine az_X_call (m' := 125) (as := [.ref (P.1 + 14), .int 4, .int z67]) (rest := []) rfl rfl rfl rfl rfl ?_ ?_
                · unfold si_call
                  dsimp only
                  rw [if_pos ⟨rfl, rfl⟩]
                  show (match si_ix P h (P.1 + 14) with | some i => _ | none => none) = _
                  rw [jix hH (by decide)]
                  dsimp only
                  rw [(hH.2 14 _ rfl).1]
                  rfl
                refine (fl_ok hH 4 z67 (by decide) (by omega)).mono ?_
                rintro rv70 h70 ⟨rfl, hH70, hs70, f70⟩
                have o_h70 : az_same_out [(14, 2), (14, 3), (42, 6), (42, 7), (43, 1000000), (44, 1000000), (45, 1000000), (46, 1000000), (47, 1000000)] h h70 := (hs70.sub (by decide))
                have e1_h70 : ja h70 14 1 = n := (jso o_h70 (by decide)).trans e1
                have hb_h70 : jBY h70 n hh := jBY_so o_h70 (by decide) hb
                have r2_h70 : ja h70 14 2 = ja h 14 2 := jso hs70 (by decide)
                show az_X P _ 93 73 ls28 [] _ _
                refine az_X_step (pc' := 165) (ls' := ls28) (st' := []) (h' := h70) rfl rfl rfl ?_
                have tr0 := trivial
                refine jm_aload_n (x := P.1 + 14) rfl rfl (jM_at hl28 4 rfl) ?_
                refine az_X_step (pc' := 168) (ls' := ls28) (st' := [.int 59, .ref (P.1 + 14)]) (h' := h70) rfl rfl rfl ?_
                refine az_X_call (m' := 123) (as := [.ref (P.1 + 14), .int 59]) (rest := []) rfl rfl rfl rfl rfl ?_ ?_
                · unfold si_call
                  dsimp only
                  rw [if_pos ⟨rfl, rfl⟩]
                  show (match si_ix P h70 (P.1 + 14) with | some i => _ | none => none) = _
                  rw [jix hH70 (by decide)]
                  dsimp only
                  rw [(hH70.2 14 _ rfl).1]
                  rfl
                refine (tk2_ok hxa hH70 hn e1_h70 rfl rfl hb_h70 59 (by decide)).mono ?_
                rintro rv168 h168 ⟨z168, rfl, hH168, hs168, f168⟩
                have o_h168 : az_same_out [(14, 2), (14, 3), (42, 6), (42, 7), (43, 1000000), (44, 1000000), (45, 1000000), (46, 1000000), (47, 1000000)] h h168 := ((hs70.sub (by decide)).tr (hs168.sub (by decide)))
                have e1_h168 : ja h168 14 1 = n := (jso o_h168 (by decide)).trans e1
                have hb_h168 : jBY h168 n hh := jBY_so o_h168 (by decide) hb
                have r3_h168 : ja h168 14 3 = ja h70 14 3 := jso hs168 (by decide)
                show az_X P _ 93 171 ls28 [.int z168] _ _
                refine jm_istore_n (l' := [(2, .int z168), (4, .int z25), (3, .int T), (0, .ref (P.1 + 42)), (1, .ref (P.1 + 14))]) rfl rfl (by decide) hl28 rfl rfl (fun ls171 hl171 => ?_)
                refine jn_iinc (x := T) rfl rfl (by decide) (jM_at hl171 2 rfl) hl171 rfl (by decide) (by omega) (by omega) (fun z172 (ez172 : z172.toInt = T.toInt + 1) ls172 (hl172 : jM [(3, .int z172), (2, .int z168), (4, .int z25), (0, .ref (P.1 + 42)), (1, .ref (P.1 + 14))] ls172) => ?_)
                refine az_X_step (pc' := 14) (ls' := ls172) (st' := []) (h' := h168) rfl rfl rfl ?_
                rw [k59] at f168
                have q5 := f70.1 f0
                rw [k4] at q5
                have hO : pyO hh n (ja h70 14 2) (ja h70 14 3) (0, 0, 0, 0, [], 0) (fun q => (7, 0, 0, q, [], (j : Int) + 1)) := Or.inr ⟨by omega, by
                  rw [show ja h70 14 3 = -4000 - ja h 14 2 by omega]
                  exact hL _ (by
                    rw [show ((j : Nat) : Int) = 16 by omega]
                    exact ru_many (ez25 ▸ kiy))⟩
                refine ih (j + 1) z172 z168 h168 ls172 (jM_pick hl172 [0, 1, 3, 4] rfl) hH168 (hs.tr ((hs70.sub (by decide)).tr (hs168.sub (by decide)))) e1_h168 hb_h168 (by omega) (by omega) ?_
                rw [r3_h168, show (((j + 1 : Nat)) : Int) = (j : Int) + 1 by omega]
                exact pyW_step hbn hO (fun e => absurd e (by omega)) (Or.inr (by omega)) f168
            · have g43 := jc1_ge_f hc43
              have kin : ¬ pyki (hh (ja h 14 2)) := by
                rw [← ez25]
                omega
              refine jm_aload_n (x := P.1 + 14) rfl rfl (jM_at hl28 4 rfl) ?_
              refine az_X_step (pc' := 48) (ls' := ls28) (st' := [.int 1, .ref (P.1 + 14)]) (h' := h) rfl rfl rfl ?_
              refine jm_aload_n (x := P.1 + 14) rfl rfl (jM_at hl28 4 rfl) ?_
              refine az_X_call (m' := 120) (as := [.ref (P.1 + 14)]) (rest := [.int 1, .ref (P.1 + 14)]) rfl rfl rfl rfl rfl ?_ ?_
              · unfold si_call
                dsimp only
                rw [if_pos ⟨rfl, rfl⟩]
                show (match si_ix P h (P.1 + 14) with | some i => _ | none => none) = _
                rw [jix hH (by decide)]
                dsimp only
                rw [(hH.2 14 _ rfl).1]
                rfl
              refine (pl_ok hH).mono ?_
              rintro rv49 h49 ⟨q49, z49, rfl, ez49⟩
              subst h49
              show az_X P _ 93 52 ls28 [.int z49, .int 1, .ref (P.1 + 14)] _ _
              refine az_X_call (m' := 125) (as := [.ref (P.1 + 14), .int 1, .int z49]) (rest := []) rfl rfl rfl rfl rfl ?_ ?_
              · unfold si_call
                dsimp only
                rw [if_pos ⟨rfl, rfl⟩]
                show (match si_ix P h (P.1 + 14) with | some i => _ | none => none) = _
                rw [jix hH (by decide)]
                dsimp only
                rw [(hH.2 14 _ rfl).1]
                rfl
              refine (fl_ok hH 1 z49 (by decide) (by omega)).mono ?_
              rintro rv52 h52 ⟨rfl, hH52, hs52, f52⟩
              have o_h52 : az_same_out [(14, 2), (14, 3), (42, 6), (42, 7), (43, 1000000), (44, 1000000), (45, 1000000), (46, 1000000), (47, 1000000)] h h52 := (hs52.sub (by decide))
              have e1_h52 : ja h52 14 1 = n := (jso o_h52 (by decide)).trans e1
              have hb_h52 : jBY h52 n hh := jBY_so o_h52 (by decide) hb
              have r2_h52 : ja h52 14 2 = ja h 14 2 := jso hs52 (by decide)
              show az_X P _ 93 55 ls28 [] _ _
              refine az_X_step (pc' := 165) (ls' := ls28) (st' := []) (h' := h52) rfl rfl rfl ?_
              have tr0 := trivial
              refine jm_aload_n (x := P.1 + 14) rfl rfl (jM_at hl28 4 rfl) ?_
              refine az_X_step (pc' := 168) (ls' := ls28) (st' := [.int 59, .ref (P.1 + 14)]) (h' := h52) rfl rfl rfl ?_
              refine az_X_call (m' := 123) (as := [.ref (P.1 + 14), .int 59]) (rest := []) rfl rfl rfl rfl rfl ?_ ?_
              · unfold si_call
                dsimp only
                rw [if_pos ⟨rfl, rfl⟩]
                show (match si_ix P h52 (P.1 + 14) with | some i => _ | none => none) = _
                rw [jix hH52 (by decide)]
                dsimp only
                rw [(hH52.2 14 _ rfl).1]
                rfl
              refine (tk2_ok hxa hH52 hn e1_h52 rfl rfl hb_h52 59 (by decide)).mono ?_
              rintro rv168 h168 ⟨z168, rfl, hH168, hs168, f168⟩
              have o_h168 : az_same_out [(14, 2), (14, 3), (42, 6), (42, 7), (43, 1000000), (44, 1000000), (45, 1000000), (46, 1000000), (47, 1000000)] h h168 := ((hs52.sub (by decide)).tr (hs168.sub (by decide)))
              have e1_h168 : ja h168 14 1 = n := (jso o_h168 (by decide)).trans e1
              have hb_h168 : jBY h168 n hh := jBY_so o_h168 (by decide) hb
              have r3_h168 : ja h168 14 3 = ja h52 14 3 := jso hs168 (by decide)
              show az_X P _ 93 171 ls28 [.int z168] _ _
              refine jm_istore_n (l' := [(2, .int z168), (4, .int z25), (3, .int T), (0, .ref (P.1 + 42)), (1, .ref (P.1 + 14))]) rfl rfl (by decide) hl28 rfl rfl (fun ls171 hl171 => ?_)
              refine jn_iinc (x := T) rfl rfl (by decide) (jM_at hl171 2 rfl) hl171 rfl (by decide) (by omega) (by omega) (fun z172 (ez172 : z172.toInt = T.toInt + 1) ls172 (hl172 : jM [(3, .int z172), (2, .int z168), (4, .int z25), (0, .ref (P.1 + 42)), (1, .ref (P.1 + 14))] ls172) => ?_)
              refine az_X_step (pc' := 14) (ls' := ls172) (st' := []) (h' := h168) rfl rfl rfl ?_
              rw [k59] at f168
              have q5 := f52.1 f0
              rw [k1] at q5
              have hO : pyO hh n (ja h52 14 2) (ja h52 14 3) (0, 0, 0, 0, [], 0) (fun q => (7, 0, 0, q, [], (j : Int) + 1)) := Or.inr ⟨by omega, by
                rw [show ja h52 14 3 = -1000 - ja h 14 2 by omega]
                exact hL _ (ru_no kin)⟩
              refine ih (j + 1) z172 z168 h168 ls172 (jM_pick hl172 [0, 1, 3, 4] rfl) hH168 (hs.tr ((hs52.sub (by decide)).tr (hs168.sub (by decide)))) e1_h168 hb_h168 (by omega) (by omega) ?_
              rw [r3_h168, show (((j + 1 : Nat)) : Int) = (j : Int) + 1 by omega]
              exact pyW_step hbn hO (fun e => absurd e (by omega)) (Or.inr (by omega)) f168
    · have k0 : (0 : Int32).toInt = 0 := by decide
      have k16 : (16 : Int32).toInt = 16 := by decide
      refine jm_iload_n (x := T) rfl rfl (jM_at hl 0 rfl) ?_
      refine az_X_step (pc' := 17) (ls' := ls) (st' := [.int 16, .int T]) (h' := h) rfl rfl rfl ?_
      refine jx_ic (t := 178) rfl rfl rfl (fun hc17 => ?_) (fun hc17 => ?_)
      · have g17 := jc2_gt_t hc17
        refine jm_aload_n (x := P.1 + 14) rfl rfl (jM_at hl 3 rfl) ?_
        refine jm_aload_n (x := P.1 + 42) rfl rfl (jM_at hl 2 rfl) ?_
        refine jn_gf (i := 42) (k := 7) rfl rfl hH (by decide) (hH.2 42 _ rfl).1 rfl rfl (fun z180 (ez180 : z180.toInt = ja h 42 7) (bz180 : 0 ≤ z180.toInt ∧ z180.toInt ≤ 16) => ?_)
        refine az_X_call (m' := 129) (as := [.ref (P.1 + 14), .int z180]) (rest := []) rfl rfl rfl rfl rfl ?_ ?_
        · unfold si_call
          dsimp only
          rw [if_pos ⟨rfl, rfl⟩]
          show (match si_ix P h (P.1 + 14) with | some i => _ | none => none) = _
          rw [jix hH (by decide)]
          dsimp only
          rw [(hH.2 14 _ rfl).1]
          rfl
        refine (aw_ok hH e1 rfl rfl z180).mono ?_
        rintro rv183 h183 ⟨z183, rfl, hH183, hs183, f183⟩
        show az_X P _ 93 186 ls [.int z183] _ _
        refine jx_ret rfl rfl rfl ?_
        exact ⟨z183, rfl, hH183, hs.tr (hs183.sub (by decide)), pyW_end m0 hR (by omega)⟩
      · have g17 := jc2_gt_f hc17
        refine jm_iload_n (x := U) rfl rfl (jM_at hl 1 rfl) ?_
        refine jx_if (t := 178) rfl rfl rfl (fun hc21 => ?_) (fun hc21 => ?_)
        · have g21 := jc1_eq_t hc21
          refine jm_aload_n (x := P.1 + 14) rfl rfl (jM_at hl 3 rfl) ?_
          refine jm_aload_n (x := P.1 + 42) rfl rfl (jM_at hl 2 rfl) ?_
          refine jn_gf (i := 42) (k := 7) rfl rfl hH (by decide) (hH.2 42 _ rfl).1 rfl rfl (fun z180 (ez180 : z180.toInt = ja h 42 7) (bz180 : 0 ≤ z180.toInt ∧ z180.toInt ≤ 16) => ?_)
          refine az_X_call (m' := 129) (as := [.ref (P.1 + 14), .int z180]) (rest := []) rfl rfl rfl rfl rfl ?_ ?_
          · unfold si_call
            dsimp only
            rw [if_pos ⟨rfl, rfl⟩]
            show (match si_ix P h (P.1 + 14) with | some i => _ | none => none) = _
            rw [jix hH (by decide)]
            dsimp only
            rw [(hH.2 14 _ rfl).1]
            rfl
          refine (aw_ok hH e1 rfl rfl z180).mono ?_
          rintro rv183 h183 ⟨z183, rfl, hH183, hs183, f183⟩
          show az_X P _ 93 186 ls [.int z183] _ _
          refine jx_ret rfl rfl rfl ?_
          exact ⟨z183, rfl, hH183, hs.tr (hs183.sub (by decide)), pyW_end m0 hR (by omega)⟩
        · have g21 := jc1_eq_f hc21
          exfalso
          omega
theorem rd_b {P : si_P} (hxa : P.2.1 < P.1) {d : Nat} {h : si_H} (hH : az_HI P az_tb h) {n : Int} {hh : Int → Int} (hn : 1 ≤ n ∧ n ≤ 240) (hh1 : ∀ i : Int, hh i ≤ 255) (hkk : P.2.2.2.2 1 ≠ P.2.2.2.2 2) (e1 : ja h 14 1 = n) (e2 : ja h 14 2 = 0) (e3 : ja h 14 3 = 0) (hb : jBY h n hh) : az_X P (d + 23) 93 0 (lv_args 0 [.ref (P.1 + 42), .ref (P.1 + 14)]) [] h (fun rv h' => ∃ z : Int32, rv = some (.int z) ∧ az_HI P az_tb h' ∧ az_same_out [(14, 2), (14, 3), (42, 6), (42, 7), (43, 1000000), (44, 1000000), (45, 1000000), (46, 1000000), (47, 1000000)] h h' ∧ pyR hh n (0, 0, 0, 0, [], 0) z.toInt) := by
  have hl : jM [(0, .ref (P.1 + 42)), (1, .ref (P.1 + 14))] (lv_args 0 [.ref (P.1 + 42), .ref (P.1 + 14)]) := jM_args [0, 1] rfl (by decide)
  generalize lv_args 0 [.ref (P.1 + 42), .ref (P.1 + 14)] = ls at hl
  have k0 : (0 : Int32).toInt = 0 := by decide
  have k1 : (1 : Int32).toInt = 1 := by decide
  refine jm_aload_n (x := P.1 + 42) rfl rfl (jM_at hl 0 rfl) ?_
  refine az_X_step (pc' := 2) (ls' := ls) (st' := [.int 0, .ref (P.1 + 42)]) (h' := h) rfl rfl rfl ?_
  refine jn_pf (i := 42) (k := 6) (x := 0) rfl rfl hH (by decide) rfl (hH.2 42 _ rfl).1 rfl rfl (by decide) (by decide) (by show 0 ≤ _; omega) (by show _ ≤ 272; omega) (fun h2 hH2 hs2 (t2 : ja h2 42 6 = (0 : Int32).toInt) => ?_)
  replace t2 : ja h2 42 6 = 0 := t2.trans (by decide)
  refine jm_aload_n (x := P.1 + 42) rfl rfl (jM_at hl 0 rfl) ?_
  refine az_X_step (pc' := 7) (ls' := ls) (st' := [.int 0, .ref (P.1 + 42)]) (h' := h2) rfl rfl rfl ?_
  refine jn_pf (i := 42) (k := 7) (x := 0) rfl rfl hH2 (by decide) rfl (hH2.2 42 _ rfl).1 rfl rfl (by decide) (by decide) (by show 0 ≤ _; omega) (by show _ ≤ 16; omega) (fun h7 hH7 hs7 (t7 : ja h7 42 7 = (0 : Int32).toInt) => ?_)
  replace t7 : ja h7 42 7 = 0 := t7.trans (by decide)
  refine az_X_step (pc' := 11) (ls' := ls) (st' := [.int 1]) (h' := h7) rfl rfl rfl ?_
  refine jm_istore_n (l' := [(2, .int 1), (0, .ref (P.1 + 42)), (1, .ref (P.1 + 14))]) rfl rfl (by decide) hl rfl rfl (fun ls11 hl11 => ?_)
  refine az_X_step (pc' := 13) (ls' := ls11) (st' := [.int 0]) (h' := h7) rfl rfl rfl ?_
  refine jm_istore_n (l' := [(3, .int 0), (2, .int 1), (0, .ref (P.1 + 42)), (1, .ref (P.1 + 14))]) rfl rfl (by decide) hl11 rfl rfl (fun ls13 hl13 => ?_)
  have o7 : az_same_out [(14, 2), (14, 3), (42, 6), (42, 7), (43, 1000000), (44, 1000000), (45, 1000000), (46, 1000000), (47, 1000000)] h h7 := ((hs2.sub (by decide)).tr (hs7.sub (by decide)))
  refine rd_lb (d := d) hxa hn hh1 hkk (h0 := h) 17 0 0 1 h7 ls13 (jM_pick hl13 [0, 1, 2, 3] rfl) hH7 o7 ((jso o7 (by decide)).trans e1) (jBY_so o7 (by decide) hb) (by decide) (by omega) (Or.inl ⟨by decide, ?_, ?_, t7, by decide, ?_⟩)
  · exact (jso hs7 (by decide)).trans ((jso hs2 (by decide)).trans e3)
  · rw [jso hs7 (by decide), jso hs2 (by decide), e2]
    omega
  · rw [jso hs7 (by decide), jso hs2 (by decide), e2]
    exact pyL.rf
theorem law0_ok {P : si_P} (hxa : P.2.1 < P.1) {d : Nat} {h : si_H} (hH : az_HI P az_tb h) (hkk : P.2.2.2.2 1 ≠ P.2.2.2.2 2) (a : Int32) : az_X P (d + 24) 146 0 (lv_args 0 [.ref (P.1 + 0), .int a]) [] h (fun rv h' => ∃ z : Int32, rv = some (.int z) ∧ az_HI P az_tb h' ∧ az_same_out [(0, 15), (0, 16), (12, 1), (14, 1), (14, 2), (14, 3), (35, 6), (35, 7), (36, 1000000), (37, 1000000), (38, 1000000), (39, 1000000), (40, 1000000), (42, 6), (42, 7), (43, 1000000), (44, 1000000), (45, 1000000), (46, 1000000), (47, 1000000)] h h' ∧ (((1 ≤ a.toInt ∧ a.toInt ≤ 240 ∧ a.toInt ≤ ja h 12 1) ∧ ja h' 12 1 = 0 ∧ pyR (fun i => if 0 ≤ i ∧ i < a.toInt then ja h 13 i else -1) a.toInt (0, 0, 0, 0, [], 0) z.toInt) ∨ (¬ (1 ≤ a.toInt ∧ a.toInt ≤ 240 ∧ a.toInt ≤ ja h 12 1) ∧ ja h' 12 1 = ja h 12 1 ∧ z.toInt = -1))) := by
  have b13 : ∀ i : Int, 0 ≤ i → i < 260 → 0 ≤ ja h 13 i ∧ ja h 13 i ≤ 255 := fun i i0 i1 => ja_row hH (i := 13) (r := (260, 0, 255)) rfl i0 i1
  have b12 : 0 ≤ ja h 12 1 ∧ ja h 12 1 ≤ 260 := ja_bd hH (i := 12) (k := 1) rfl
  have hl : jM [(0, .ref (P.1 + 0)), (1, .int a)] (lv_args 0 [.ref (P.1 + 0), .int a]) := jM_args [0, 1] rfl (by decide)
  generalize lv_args 0 [.ref (P.1 + 0), .int a] = ls at hl
  have km1 : ((-1) : Int32).toInt = (-1) := by decide
  have k0 : (0 : Int32).toInt = 0 := by decide
  have k240 : (240 : Int32).toInt = 240 := by decide
  refine jm_aload_n (x := P.1 + 0) rfl rfl (jM_at hl 0 rfl) ?_
  refine jm_iload_n (x := a) rfl rfl (jM_at hl 1 rfl) ?_
  refine az_X_step (pc' := 5) (ls' := ls) (st' := [.int 240, .int a, .ref (P.1 + 0)]) (h' := h) rfl rfl rfl ?_
  refine az_X_call (m' := 192) (as := [.ref (P.1 + 0), .int a, .int 240]) (rest := []) rfl rfl rfl rfl rfl ?_ ?_
  · unfold si_call
    dsimp only
    rw [if_pos ⟨rfl, rfl⟩]
    show (match si_ix P h (P.1 + 0) with | some i => _ | none => none) = _
    rw [jix hH (by decide)]
    dsimp only
    rw [(hH.2 0 _ rfl).1]
    rfl
  refine (cr_ok hH a 240).mono ?_
  rintro rv5 h5 ⟨q5, z5, rfl, ez5⟩
  subst h5
  show az_X P _ 146 8 ls [.int z5] _ _
  refine jx_if (t := 13) rfl rfl rfl (fun hc8 => ?_) (fun hc8 => ?_)
  · have g8 := jc1_ne_t hc8
    refine jm_aload_n (x := P.1 + 0) rfl rfl (jM_at hl 0 rfl) ?_
    refine jx_gf (i := 0) rfl rfl hH (by decide) (hH.2 0 _ rfl).1 rfl (jx_rf hH rfl rfl) ?_
    refine jm_iload_n (x := a) rfl rfl (jM_at hl 1 rfl) ?_
    refine az_X_call (m' := 119) (as := [.ref (P.1 + 14), .int a]) (rest := []) rfl rfl rfl rfl rfl ?_ ?_
    · unfold si_call
      dsimp only
      rw [if_pos ⟨rfl, rfl⟩]
      show (match si_ix P h (P.1 + 14) with | some i => _ | none => none) = _
      rw [jix hH (by decide)]
      dsimp only
      rw [(hH.2 14 _ rfl).1]
      rfl
    refine (rb_ok hH a (by omega)).mono ?_
    rintro rv18 h18 ⟨rfl, hH18, hs18, f18⟩
    show az_X P _ 146 21 ls [] _ _
    refine jm_aload_n (x := P.1 + 0) rfl rfl (jM_at hl 0 rfl) ?_
    rcases jn_rf2 (i := 0) (k := 16) hH18 rfl rfl with hv22 | hv22
    · refine jx_gf (i := 0) rfl rfl hH18 (by decide) (hH18.2 0 _ rfl).1 rfl hv22 ?_
      refine jm_aload_n (x := P.1 + 0) rfl rfl (jM_at hl 0 rfl) ?_
      refine jx_gf (i := 0) rfl rfl hH18 (by decide) (hH18.2 0 _ rfl).1 rfl (jx_rf hH18 rfl rfl) ?_
      refine az_X_call (m' := 93) (as := [.ref (P.1 + 35), .ref (P.1 + 14)]) (rest := []) rfl rfl rfl rfl rfl ?_ ?_
      · unfold si_call
        dsimp only
        rw [if_pos ⟨rfl, rfl⟩]
        show (match si_ix P h18 (P.1 + 35) with | some i => _ | none => none) = _
        rw [jix hH18 (by decide)]
        dsimp only
        rw [(hH18.2 35 _ rfl).1]
        rfl
      refine (rd_a (d := d) hxa hH18 (n := a.toInt) (hh := (fun i => if 0 ≤ i ∧ i < a.toInt then ja h 13 i else -1)) (by omega) (fun i => by
        show (if 0 ≤ i ∧ i < a.toInt then ja h 13 i else -1) ≤ 255
        split
        · rename_i q
          have := b13 i q.1 (by omega)
          omega
        · omega) hkk f18.1 f18.2.1 f18.2.2 ⟨fun i i0 i1 => by rw [jso_row (i := 13) hs18 (by decide)]; show ja h 13 i = if 0 ≤ i ∧ i < a.toInt then ja h 13 i else -1; rw [if_pos ⟨i0, i1⟩], fun i i0 => if_neg (by omega)⟩).mono ?_
      rintro rv29 h29 ⟨z29, rfl, hH29, hs29, f29⟩
      show az_X P _ 146 32 ls [.int z29] _ _
      refine jm_istore_n (l' := [(2, .int z29), (0, .ref (P.1 + 0)), (1, .int a)]) rfl rfl (by decide) hl rfl rfl (fun ls32 hl32 => ?_)
      refine jm_aload_n (x := P.1 + 0) rfl rfl (jM_at hl32 1 rfl) ?_
      refine jx_gf (i := 0) rfl rfl hH29 (by decide) (hH29.2 0 _ rfl).1 rfl (jx_rf hH29 rfl rfl) ?_
      refine az_X_call (m' := 142) (as := [.ref (P.1 + 12)]) (rest := []) rfl rfl rfl rfl rfl ?_ ?_
      · unfold si_call
        dsimp only
        rw [if_pos ⟨rfl, rfl⟩]
        show (match si_ix P h29 (P.1 + 12) with | some i => _ | none => none) = _
        rw [jix hH29 (by decide)]
        dsimp only
        rw [(hH29.2 12 _ rfl).1]
        rfl
      refine (tempty_ok hH29).mono ?_
      rintro rv37 h37 ⟨rfl, hH37, hs37, f37⟩
      show az_X P _ 146 40 ls32 [] _ _
      refine jm_iload_n (x := z29) rfl rfl (jM_at hl32 0 rfl) ?_
      refine jx_if (t := 62) rfl rfl rfl (fun hc41 => ?_) (fun hc41 => ?_)
      · have g41 := jc1_lt_t hc41
        refine jm_iload_n (x := z29) rfl rfl (jM_at hl32 0 rfl) ?_
        refine jx_ret rfl rfl rfl ?_
        exact ⟨z29, rfl, hH37, ((hs18.sub (by decide)).tr ((hs29.sub (by decide)).tr (hs37.sub (by decide)))), Or.inl ⟨by omega, f37, f29⟩⟩
      · have g41 := jc1_lt_f hc41
        refine jm_aload_n (x := P.1 + 0) rfl rfl (jM_at hl32 1 rfl) ?_
        rcases jn_rf2 (i := 0) (k := 15) hH37 rfl rfl with hv45 | hv45
        · refine jx_gf (i := 0) rfl rfl hH37 (by decide) (hH37.2 0 _ rfl).1 rfl hv45 ?_
          refine jm_astore_n (l' := [(3, .ref (P.1 + 35)), (2, .int z29), (0, .ref (P.1 + 0)), (1, .int a)]) rfl rfl (by decide) hl32 rfl rfl (fun ls48 hl48 => ?_)
          refine jm_aload_n (x := P.1 + 0) rfl rfl (jM_at hl48 2 rfl) ?_
          refine jm_aload_n (x := P.1 + 0) rfl rfl (jM_at hl48 2 rfl) ?_
          rcases jn_rf2 (i := 0) (k := 16) hH37 rfl rfl with hv51 | hv51
          · refine jx_gf (i := 0) rfl rfl hH37 (by decide) (hH37.2 0 _ rfl).1 rfl hv51 ?_
            refine jn_pfr (i := 0) (k := 15) (c := 35) rfl rfl hH37 (by decide) rfl (hH37.2 0 _ rfl).1 rfl rfl (by decide) (fun v => ⟨rfl, rfl⟩) (by decide) (fun h54 hH54 hs54 => ?_)
            refine jm_aload_n (x := P.1 + 0) rfl rfl (jM_at hl48 2 rfl) ?_
            refine jm_aload_n (x := P.1 + 35) rfl rfl (jM_at hl48 0 rfl) ?_
            refine jn_pfr (i := 0) (k := 16) (c := 35) rfl rfl hH54 (by decide) rfl (hH54.2 0 _ rfl).1 rfl rfl (by decide) (fun v => ⟨rfl, rfl⟩) (by decide) (fun h59 hH59 hs59 => ?_)
            refine jm_iload_n (x := z29) rfl rfl (jM_at hl48 1 rfl) ?_
            refine jx_ret rfl rfl rfl ?_
            exact ⟨z29, rfl, hH59, ((hs18.sub (by decide)).tr ((hs29.sub (by decide)).tr ((hs37.sub (by decide)).tr ((hs54.sub (by decide)).tr (hs59.sub (by decide)))))), Or.inl ⟨by omega, ((jso hs59 (by decide)).trans ((jso hs54 (by decide)).trans f37)), f29⟩⟩
          · refine jx_gf (i := 0) rfl rfl hH37 (by decide) (hH37.2 0 _ rfl).1 rfl hv51 ?_
            refine jn_pfr (i := 0) (k := 15) (c := 42) rfl rfl hH37 (by decide) rfl (hH37.2 0 _ rfl).1 rfl rfl (by decide) (fun v => ⟨rfl, rfl⟩) (by decide) (fun h54 hH54 hs54 => ?_)
            refine jm_aload_n (x := P.1 + 0) rfl rfl (jM_at hl48 2 rfl) ?_
            refine jm_aload_n (x := P.1 + 35) rfl rfl (jM_at hl48 0 rfl) ?_
            refine jn_pfr (i := 0) (k := 16) (c := 35) rfl rfl hH54 (by decide) rfl (hH54.2 0 _ rfl).1 rfl rfl (by decide) (fun v => ⟨rfl, rfl⟩) (by decide) (fun h59 hH59 hs59 => ?_)
            refine jm_iload_n (x := z29) rfl rfl (jM_at hl48 1 rfl) ?_
            refine jx_ret rfl rfl rfl ?_
            exact ⟨z29, rfl, hH59, ((hs18.sub (by decide)).tr ((hs29.sub (by decide)).tr ((hs37.sub (by decide)).tr ((hs54.sub (by decide)).tr (hs59.sub (by decide)))))), Or.inl ⟨by omega, ((jso hs59 (by decide)).trans ((jso hs54 (by decide)).trans f37)), f29⟩⟩
        · refine jx_gf (i := 0) rfl rfl hH37 (by decide) (hH37.2 0 _ rfl).1 rfl hv45 ?_
          refine jm_astore_n (l' := [(3, .ref (P.1 + 42)), (2, .int z29), (0, .ref (P.1 + 0)), (1, .int a)]) rfl rfl (by decide) hl32 rfl rfl (fun ls48 hl48 => ?_)
          refine jm_aload_n (x := P.1 + 0) rfl rfl (jM_at hl48 2 rfl) ?_
          refine jm_aload_n (x := P.1 + 0) rfl rfl (jM_at hl48 2 rfl) ?_
          rcases jn_rf2 (i := 0) (k := 16) hH37 rfl rfl with hv51 | hv51
          · refine jx_gf (i := 0) rfl rfl hH37 (by decide) (hH37.2 0 _ rfl).1 rfl hv51 ?_
            refine jn_pfr (i := 0) (k := 15) (c := 35) rfl rfl hH37 (by decide) rfl (hH37.2 0 _ rfl).1 rfl rfl (by decide) (fun v => ⟨rfl, rfl⟩) (by decide) (fun h54 hH54 hs54 => ?_)
            refine jm_aload_n (x := P.1 + 0) rfl rfl (jM_at hl48 2 rfl) ?_
            refine jm_aload_n (x := P.1 + 42) rfl rfl (jM_at hl48 0 rfl) ?_
            refine jn_pfr (i := 0) (k := 16) (c := 42) rfl rfl hH54 (by decide) rfl (hH54.2 0 _ rfl).1 rfl rfl (by decide) (fun v => ⟨rfl, rfl⟩) (by decide) (fun h59 hH59 hs59 => ?_)
            refine jm_iload_n (x := z29) rfl rfl (jM_at hl48 1 rfl) ?_
            refine jx_ret rfl rfl rfl ?_
            exact ⟨z29, rfl, hH59, ((hs18.sub (by decide)).tr ((hs29.sub (by decide)).tr ((hs37.sub (by decide)).tr ((hs54.sub (by decide)).tr (hs59.sub (by decide)))))), Or.inl ⟨by omega, ((jso hs59 (by decide)).trans ((jso hs54 (by decide)).trans f37)), f29⟩⟩
          · refine jx_gf (i := 0) rfl rfl hH37 (by decide) (hH37.2 0 _ rfl).1 rfl hv51 ?_
            refine jn_pfr (i := 0) (k := 15) (c := 42) rfl rfl hH37 (by decide) rfl (hH37.2 0 _ rfl).1 rfl rfl (by decide) (fun v => ⟨rfl, rfl⟩) (by decide) (fun h54 hH54 hs54 => ?_)
            refine jm_aload_n (x := P.1 + 0) rfl rfl (jM_at hl48 2 rfl) ?_
            refine jm_aload_n (x := P.1 + 42) rfl rfl (jM_at hl48 0 rfl) ?_
            refine jn_pfr (i := 0) (k := 16) (c := 42) rfl rfl hH54 (by decide) rfl (hH54.2 0 _ rfl).1 rfl rfl (by decide) (fun v => ⟨rfl, rfl⟩) (by decide) (fun h59 hH59 hs59 => ?_)
            refine jm_iload_n (x := z29) rfl rfl (jM_at hl48 1 rfl) ?_
            refine jx_ret rfl rfl rfl ?_
            exact ⟨z29, rfl, hH59, ((hs18.sub (by decide)).tr ((hs29.sub (by decide)).tr ((hs37.sub (by decide)).tr ((hs54.sub (by decide)).tr (hs59.sub (by decide)))))), Or.inl ⟨by omega, ((jso hs59 (by decide)).trans ((jso hs54 (by decide)).trans f37)), f29⟩⟩
    · refine jx_gf (i := 0) rfl rfl hH18 (by decide) (hH18.2 0 _ rfl).1 rfl hv22 ?_
      refine jm_aload_n (x := P.1 + 0) rfl rfl (jM_at hl 0 rfl) ?_
      refine jx_gf (i := 0) rfl rfl hH18 (by decide) (hH18.2 0 _ rfl).1 rfl (jx_rf hH18 rfl rfl) ?_
      refine az_X_call (m' := 93) (as := [.ref (P.1 + 42), .ref (P.1 + 14)]) (rest := []) rfl rfl rfl rfl rfl ?_ ?_
      · unfold si_call
        dsimp only
        rw [if_pos ⟨rfl, rfl⟩]
        show (match si_ix P h18 (P.1 + 42) with | some i => _ | none => none) = _
        rw [jix hH18 (by decide)]
        dsimp only
        rw [(hH18.2 42 _ rfl).1]
        rfl
      refine (rd_b (d := d) hxa hH18 (n := a.toInt) (hh := (fun i => if 0 ≤ i ∧ i < a.toInt then ja h 13 i else -1)) (by omega) (fun i => by
        show (if 0 ≤ i ∧ i < a.toInt then ja h 13 i else -1) ≤ 255
        split
        · rename_i q
          have := b13 i q.1 (by omega)
          omega
        · omega) hkk f18.1 f18.2.1 f18.2.2 ⟨fun i i0 i1 => by rw [jso_row (i := 13) hs18 (by decide)]; show ja h 13 i = if 0 ≤ i ∧ i < a.toInt then ja h 13 i else -1; rw [if_pos ⟨i0, i1⟩], fun i i0 => if_neg (by omega)⟩).mono ?_
      rintro rv29 h29 ⟨z29, rfl, hH29, hs29, f29⟩
      show az_X P _ 146 32 ls [.int z29] _ _
      refine jm_istore_n (l' := [(2, .int z29), (0, .ref (P.1 + 0)), (1, .int a)]) rfl rfl (by decide) hl rfl rfl (fun ls32 hl32 => ?_)
      refine jm_aload_n (x := P.1 + 0) rfl rfl (jM_at hl32 1 rfl) ?_
      refine jx_gf (i := 0) rfl rfl hH29 (by decide) (hH29.2 0 _ rfl).1 rfl (jx_rf hH29 rfl rfl) ?_
      refine az_X_call (m' := 142) (as := [.ref (P.1 + 12)]) (rest := []) rfl rfl rfl rfl rfl ?_ ?_
      · unfold si_call
        dsimp only
        rw [if_pos ⟨rfl, rfl⟩]
        show (match si_ix P h29 (P.1 + 12) with | some i => _ | none => none) = _
        rw [jix hH29 (by decide)]
        dsimp only
        rw [(hH29.2 12 _ rfl).1]
        rfl
      refine (tempty_ok hH29).mono ?_
      rintro rv37 h37 ⟨rfl, hH37, hs37, f37⟩
      show az_X P _ 146 40 ls32 [] _ _
      refine jm_iload_n (x := z29) rfl rfl (jM_at hl32 0 rfl) ?_
      refine jx_if (t := 62) rfl rfl rfl (fun hc41 => ?_) (fun hc41 => ?_)
      · have g41 := jc1_lt_t hc41
        refine jm_iload_n (x := z29) rfl rfl (jM_at hl32 0 rfl) ?_
        refine jx_ret rfl rfl rfl ?_
        exact ⟨z29, rfl, hH37, ((hs18.sub (by decide)).tr ((hs29.sub (by decide)).tr (hs37.sub (by decide)))), Or.inl ⟨by omega, f37, f29⟩⟩
      · have g41 := jc1_lt_f hc41
        refine jm_aload_n (x := P.1 + 0) rfl rfl (jM_at hl32 1 rfl) ?_
        rcases jn_rf2 (i := 0) (k := 15) hH37 rfl rfl with hv45 | hv45
        · refine jx_gf (i := 0) rfl rfl hH37 (by decide) (hH37.2 0 _ rfl).1 rfl hv45 ?_
          refine jm_astore_n (l' := [(3, .ref (P.1 + 35)), (2, .int z29), (0, .ref (P.1 + 0)), (1, .int a)]) rfl rfl (by decide) hl32 rfl rfl (fun ls48 hl48 => ?_)
          refine jm_aload_n (x := P.1 + 0) rfl rfl (jM_at hl48 2 rfl) ?_
          refine jm_aload_n (x := P.1 + 0) rfl rfl (jM_at hl48 2 rfl) ?_
          rcases jn_rf2 (i := 0) (k := 16) hH37 rfl rfl with hv51 | hv51
          · refine jx_gf (i := 0) rfl rfl hH37 (by decide) (hH37.2 0 _ rfl).1 rfl hv51 ?_
            refine jn_pfr (i := 0) (k := 15) (c := 35) rfl rfl hH37 (by decide) rfl (hH37.2 0 _ rfl).1 rfl rfl (by decide) (fun v => ⟨rfl, rfl⟩) (by decide) (fun h54 hH54 hs54 => ?_)
            refine jm_aload_n (x := P.1 + 0) rfl rfl (jM_at hl48 2 rfl) ?_
            refine jm_aload_n (x := P.1 + 35) rfl rfl (jM_at hl48 0 rfl) ?_
            refine jn_pfr (i := 0) (k := 16) (c := 35) rfl rfl hH54 (by decide) rfl (hH54.2 0 _ rfl).1 rfl rfl (by decide) (fun v => ⟨rfl, rfl⟩) (by decide) (fun h59 hH59 hs59 => ?_)
            refine jm_iload_n (x := z29) rfl rfl (jM_at hl48 1 rfl) ?_
            refine jx_ret rfl rfl rfl ?_
            exact ⟨z29, rfl, hH59, ((hs18.sub (by decide)).tr ((hs29.sub (by decide)).tr ((hs37.sub (by decide)).tr ((hs54.sub (by decide)).tr (hs59.sub (by decide)))))), Or.inl ⟨by omega, ((jso hs59 (by decide)).trans ((jso hs54 (by decide)).trans f37)), f29⟩⟩
          · refine jx_gf (i := 0) rfl rfl hH37 (by decide) (hH37.2 0 _ rfl).1 rfl hv51 ?_
            refine jn_pfr (i := 0) (k := 15) (c := 42) rfl rfl hH37 (by decide) rfl (hH37.2 0 _ rfl).1 rfl rfl (by decide) (fun v => ⟨rfl, rfl⟩) (by decide) (fun h54 hH54 hs54 => ?_)
            refine jm_aload_n (x := P.1 + 0) rfl rfl (jM_at hl48 2 rfl) ?_
            refine jm_aload_n (x := P.1 + 35) rfl rfl (jM_at hl48 0 rfl) ?_
            refine jn_pfr (i := 0) (k := 16) (c := 35) rfl rfl hH54 (by decide) rfl (hH54.2 0 _ rfl).1 rfl rfl (by decide) (fun v => ⟨rfl, rfl⟩) (by decide) (fun h59 hH59 hs59 => ?_)
            refine jm_iload_n (x := z29) rfl rfl (jM_at hl48 1 rfl) ?_
            refine jx_ret rfl rfl rfl ?_
            exact ⟨z29, rfl, hH59, ((hs18.sub (by decide)).tr ((hs29.sub (by decide)).tr ((hs37.sub (by decide)).tr ((hs54.sub (by decide)).tr (hs59.sub (by decide)))))), Or.inl ⟨by omega, ((jso hs59 (by decide)).trans ((jso hs54 (by decide)).trans f37)), f29⟩⟩
        · refine jx_gf (i := 0) rfl rfl hH37 (by decide) (hH37.2 0 _ rfl).1 rfl hv45 ?_
          refine jm_astore_n (l' := [(3, .ref (P.1 + 42)), (2, .int z29), (0, .ref (P.1 + 0)), (1, .int a)]) rfl rfl (by decide) hl32 rfl rfl (fun ls48 hl48 => ?_)
          refine jm_aload_n (x := P.1 + 0) rfl rfl (jM_at hl48 2 rfl) ?_
          refine jm_aload_n (x := P.1 + 0) rfl rfl (jM_at hl48 2 rfl) ?_
          rcases jn_rf2 (i := 0) (k := 16) hH37 rfl rfl with hv51 | hv51
          · refine jx_gf (i := 0) rfl rfl hH37 (by decide) (hH37.2 0 _ rfl).1 rfl hv51 ?_
            refine jn_pfr (i := 0) (k := 15) (c := 35) rfl rfl hH37 (by decide) rfl (hH37.2 0 _ rfl).1 rfl rfl (by decide) (fun v => ⟨rfl, rfl⟩) (by decide) (fun h54 hH54 hs54 => ?_)
            refine jm_aload_n (x := P.1 + 0) rfl rfl (jM_at hl48 2 rfl) ?_
            refine jm_aload_n (x := P.1 + 42) rfl rfl (jM_at hl48 0 rfl) ?_
            refine jn_pfr (i := 0) (k := 16) (c := 42) rfl rfl hH54 (by decide) rfl (hH54.2 0 _ rfl).1 rfl rfl (by decide) (fun v => ⟨rfl, rfl⟩) (by decide) (fun h59 hH59 hs59 => ?_)
            refine jm_iload_n (x := z29) rfl rfl (jM_at hl48 1 rfl) ?_
            refine jx_ret rfl rfl rfl ?_
            exact ⟨z29, rfl, hH59, ((hs18.sub (by decide)).tr ((hs29.sub (by decide)).tr ((hs37.sub (by decide)).tr ((hs54.sub (by decide)).tr (hs59.sub (by decide)))))), Or.inl ⟨by omega, ((jso hs59 (by decide)).trans ((jso hs54 (by decide)).trans f37)), f29⟩⟩
          · refine jx_gf (i := 0) rfl rfl hH37 (by decide) (hH37.2 0 _ rfl).1 rfl hv51 ?_
            refine jn_pfr (i := 0) (k := 15) (c := 42) rfl rfl hH37 (by decide) rfl (hH37.2 0 _ rfl).1 rfl rfl (by decide) (fun v => ⟨rfl, rfl⟩) (by decide) (fun h54 hH54 hs54 => ?_)
            refine jm_aload_n (x := P.1 + 0) rfl rfl (jM_at hl48 2 rfl) ?_
            refine jm_aload_n (x := P.1 + 42) rfl rfl (jM_at hl48 0 rfl) ?_
            refine jn_pfr (i := 0) (k := 16) (c := 42) rfl rfl hH54 (by decide) rfl (hH54.2 0 _ rfl).1 rfl rfl (by decide) (fun v => ⟨rfl, rfl⟩) (by decide) (fun h59 hH59 hs59 => ?_)
            refine jm_iload_n (x := z29) rfl rfl (jM_at hl48 1 rfl) ?_
            refine jx_ret rfl rfl rfl ?_
            exact ⟨z29, rfl, hH59, ((hs18.sub (by decide)).tr ((hs29.sub (by decide)).tr ((hs37.sub (by decide)).tr ((hs54.sub (by decide)).tr (hs59.sub (by decide)))))), Or.inl ⟨by omega, ((jso hs59 (by decide)).trans ((jso hs54 (by decide)).trans f37)), f29⟩⟩
  · have g8 := jc1_ne_f hc8
    refine az_X_step (pc' := 12) (ls' := ls) (st' := [.int (-1)]) (h' := h) rfl rfl rfl ?_
    refine jx_ret rfl rfl rfl ?_
    exact ⟨(-1), rfl, hH, az_same_out.rf, Or.inr ⟨by omega, rfl, by decide⟩⟩
