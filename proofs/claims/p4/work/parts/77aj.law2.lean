set_option maxRecDepth 100000
theorem as_b {P : si_P} (hxa : P.2.1 < P.1) {d : Nat} {h : si_H} (hH : az_HI P az_tb h) (x y : Int32) (hy : -1 ≤ y.toInt ∧ y.toInt ≤ 99999) : az_X P d 94 0 (lv_args 0 [.ref (P.1 + 42), .int x, .int y]) [] h (fun rv h' => ∃ z : Int32, rv = some (.int z) ∧ az_HI P az_tb h' ∧ az_same_out [(42, 6), (43, 1000000), (44, 1000000)] h h' ∧ 0 ≤ z.toInt ∧ z.toInt ≤ 272) := by
  have bx1 := Int32.le_toInt x
  have bx2 := Int32.toInt_lt x
  have hl : jM [(0, .ref (P.1 + 42)), (1, .int x), (2, .int y)] (lv_args 0 [.ref (P.1 + 42), .int x, .int y]) := jM_args [0, 1, 2] rfl (by decide)
  generalize lv_args 0 [.ref (P.1 + 42), .int x, .int y] = ls at hl
  have k1 : (1 : Int32).toInt = 1 := by decide
  have k272 : (272 : Int32).toInt = 272 := by decide
  refine jm_aload_n (x := P.1 + 42) rfl rfl (jM_at hl 0 rfl) ?_
  refine jn_gf (i := 42) (k := 6) rfl rfl hH (by decide) (hH.2 42 _ rfl).1 rfl rfl (fun z1 (ez1 : z1.toInt = ja h 42 6) (bz1 : 0 ≤ z1.toInt ∧ z1.toInt ≤ 272) => ?_)
  refine jm_istore_n (l' := [(3, .int z1), (0, .ref (P.1 + 42)), (1, .int x), (2, .int y)]) rfl rfl (by decide) hl rfl rfl (fun ls4 hl4 => ?_)
  refine jm_iload_n (x := z1) rfl rfl (jM_at hl4 0 rfl) ?_
  refine jm_aload_n (x := P.1 + 42) rfl rfl (jM_at hl4 1 rfl) ?_
  refine jx_gf (i := 42) rfl rfl hH (by decide) (hH.2 42 _ rfl).1 rfl (jx_rf hH rfl rfl) ?_
  refine jn_len (i := 43) (x := 272) rfl rfl hxa hH (by decide) rfl (by decide) ?_
  refine jx_ic (t := 38) rfl rfl rfl (fun hc11 => ?_) (fun hc11 => ?_)
  · have g11 := jc2_ge_t hc11
    refine jm_iload_n (x := z1) rfl rfl (jM_at hl4 0 rfl) ?_
    refine jx_ret rfl rfl rfl ?_
    exact ⟨z1, rfl, hH, az_same_out.rf, by omega⟩
  · have g11 := jc2_ge_f hc11
    refine jm_aload_n (x := P.1 + 42) rfl rfl (jM_at hl4 1 rfl) ?_
    refine jx_gf (i := 42) rfl rfl hH (by decide) (hH.2 42 _ rfl).1 rfl (jx_rf hH rfl rfl) ?_
    refine jm_iload_n (x := z1) rfl rfl (jM_at hl4 0 rfl) ?_
    refine jm_iload_n (x := x) rfl rfl (jM_at hl4 2 rfl) ?_
    refine jn_ias (i := 43) (x := z1) (v := x) rfl rfl hH (by decide) rfl (by omega) (by show _ < ((272 : Nat) : Int); omega) (by show (-2147483648) ≤ _; omega) (by show _ ≤ 2147483647; omega) (fun h20 hH20 hs20 t20 u20 => ?_)
    refine jm_aload_n (x := P.1 + 42) rfl rfl (jM_at hl4 1 rfl) ?_
    refine jx_gf (i := 42) rfl rfl hH20 (by decide) (hH20.2 42 _ rfl).1 rfl (jx_rf hH20 rfl rfl) ?_
    refine jm_iload_n (x := z1) rfl rfl (jM_at hl4 0 rfl) ?_
    refine jm_iload_n (x := y) rfl rfl (jM_at hl4 3 rfl) ?_
    refine jn_ias (i := 44) (x := z1) (v := y) rfl rfl hH20 (by decide) rfl (by omega) (by show _ < ((272 : Nat) : Int); omega) (by show (-1) ≤ _; omega) (by show _ ≤ 99999; omega) (fun h27 hH27 hs27 t27 u27 => ?_)
    refine jm_aload_n (x := P.1 + 42) rfl rfl (jM_at hl4 1 rfl) ?_
    refine az_X_step (pc' := 30) (ls' := ls4) (st' := [.ref (P.1 + 42), .ref (P.1 + 42)]) (h' := h27) rfl rfl rfl ?_
    refine jn_gf (i := 42) (k := 6) rfl rfl hH27 (by decide) (hH27.2 42 _ rfl).1 rfl rfl (fun z30 (ez30 : z30.toInt = ja h27 42 6) (bz30 : 0 ≤ z30.toInt ∧ z30.toInt ≤ 272) => ?_)
    replace ez30 : z30.toInt = ja h 42 6 := ez30.trans ((jso hs27 (by decide)).trans (jso hs20 (by decide)))
    refine az_X_step (pc' := 34) (ls' := ls4) (st' := [.int 1, .int z30, .ref (P.1 + 42)]) (h' := h27) rfl rfl rfl ?_
    refine jn_add (a := z30) (b := 1) rfl rfl (by omega) (by omega) (fun z34 ez34 => ?_)
    rw [show (1 : Int32).toInt = 1 by decide] at ez34
    refine jn_pf (i := 42) (k := 6) (x := z34) rfl rfl hH27 (by decide) rfl (hH27.2 42 _ rfl).1 rfl rfl (by decide) (by decide) (by show 0 ≤ _; omega) (by show _ ≤ 272; omega) (fun h35 hH35 hs35 (t35 : ja h35 42 6 = z34.toInt) => ?_)
    refine jm_iload_n (x := z1) rfl rfl (jM_at hl4 0 rfl) ?_
    refine jx_ret rfl rfl rfl ?_
    exact ⟨z1, rfl, hH35, ((hs20.sub (by decide)).tr ((hs27.sub (by decide)).tr (hs35.sub (by decide)))), by omega⟩
theorem ld_lb {P : si_P} (hxa : P.2.1 < P.1) {d : Nat} {h0 : si_H} (L : Int32) : ∀ (k j : Nat) (T V : Int32) (h : si_H) (ls : si_L), jM [(3, .int T), (2, .int V), (0, .ref (P.1 + 42)), (1, .int L)] ls → az_HI P az_tb h → az_same_out [(44, 1000000)] h0 h → T.toInt = j → j + k = 240 → -1 ≤ V.toInt ∧ V.toInt ≤ 99999 → az_X P d 95 4 ls [] h (fun rv h' => rv = none ∧ az_HI P az_tb h' ∧ az_same_out [(44, 1000000)] h0 h' ∧ True) := by
  intro k
  induction k with
  | zero =>
    intro j T V h ls hl hH hs eT hj hV
    have k240 : (240 : Int32).toInt = 240 := by decide
    refine jm_iload_n (x := T) rfl rfl (jM_at hl 0 rfl) ?_
    refine az_X_step (pc' := 8) (ls' := ls) (st' := [.int 240, .int T]) (h' := h) rfl rfl rfl ?_
    refine jx_ic (t := 50) rfl rfl rfl (fun hc8 => ?_) (fun hc8 => ?_)
    · have g8 := jc2_ge_t hc8
      refine jn_retv rfl rfl rfl ?_
      exact ⟨rfl, hH, hs, trivial⟩
    · have g8 := jc2_ge_f hc8
      exfalso
      omega
  | succ k ih =>
    intro j T V h ls hl hH hs eT hj hV
    have k0 : (0 : Int32).toInt = 0 := by decide
    have k240 : (240 : Int32).toInt = 240 := by decide
    refine jm_iload_n (x := T) rfl rfl (jM_at hl 0 rfl) ?_
    refine az_X_step (pc' := 8) (ls' := ls) (st' := [.int 240, .int T]) (h' := h) rfl rfl rfl ?_
    refine jx_ic (t := 50) rfl rfl rfl (fun hc8 => ?_) (fun hc8 => ?_)
    · have g8 := jc2_ge_t hc8
      refine jn_retv rfl rfl rfl ?_
      exact ⟨rfl, hH, hs, trivial⟩
    · have g8 := jc2_ge_f hc8
      refine jm_iload_n (x := V) rfl rfl (jM_at hl 1 rfl) ?_
      refine jx_if (t := 50) rfl rfl rfl (fun hc12 => ?_) (fun hc12 => ?_)
      · have g12 := jc1_lt_t hc12
        refine jn_retv rfl rfl rfl ?_
        exact ⟨rfl, hH, hs, trivial⟩
      · have g12 := jc1_lt_f hc12
        refine jm_iload_n (x := V) rfl rfl (jM_at hl 1 rfl) ?_
        refine jm_aload_n (x := P.1 + 42) rfl rfl (jM_at hl 2 rfl) ?_
        refine jn_gf (i := 42) (k := 6) rfl rfl hH (by decide) (hH.2 42 _ rfl).1 rfl rfl (fun z17 (ez17 : z17.toInt = ja h 42 6) (bz17 : 0 ≤ z17.toInt ∧ z17.toInt ≤ 272) => ?_)
        refine jx_ic (t := 50) rfl rfl rfl (fun hc20 => ?_) (fun hc20 => ?_)
        · have g20 := jc2_ge_t hc20
          refine jn_retv rfl rfl rfl ?_
          exact ⟨rfl, hH, hs, trivial⟩
        · have g20 := jc2_ge_f hc20
          refine jm_aload_n (x := P.1 + 42) rfl rfl (jM_at hl 2 rfl) ?_
          refine jx_gf (i := 42) rfl rfl hH (by decide) (hH.2 42 _ rfl).1 rfl (jx_rf hH rfl rfl) ?_
          refine jm_iload_n (x := V) rfl rfl (jM_at hl 1 rfl) ?_
          refine jx_ial (i := 44) (x := V) rfl rfl hxa hH (by decide) rfl (by omega) (by show _ < ((272 : Nat) : Int); omega) (fun z28 ez28 bz28 => ?_)
          refine jm_istore (l' := [(4, .int z28), (3, .int T), (2, .int V), (0, .ref (P.1 + 42)), (1, .int L)]) rfl rfl (by decide) hl rfl rfl (fun ls29 hl29 => ?_)
          refine jm_aload_n (x := P.1 + 42) rfl rfl (jM_at hl29 3 rfl) ?_
          refine jx_gf (i := 42) rfl rfl hH (by decide) (hH.2 42 _ rfl).1 rfl (jx_rf hH rfl rfl) ?_
          refine jm_iload_n (x := V) rfl rfl (jM_at hl29 2 rfl) ?_
          refine jm_aload_n (x := P.1 + 42) rfl rfl (jM_at hl29 3 rfl) ?_
          refine jn_gf (i := 42) (k := 6) rfl rfl hH (by decide) (hH.2 42 _ rfl).1 rfl rfl (fun z37 (ez37 : z37.toInt = ja h 42 6) (bz37 : 0 ≤ z37.toInt ∧ z37.toInt ≤ 272) => ?_)
          refine jn_ias (i := 44) (x := V) (v := z37) rfl rfl hH (by decide) rfl (by omega) (by show _ < ((272 : Nat) : Int); omega) (by show (-1) ≤ _; omega) (by show _ ≤ 99999; omega) (fun h40 hH40 hs40 t40 u40 => ?_)
          refine jm_iload (x := z28) rfl rfl (jM_at hl29 0 rfl) ?_
          refine jm_istore_n (l' := [(2, .int z28), (4, .int z28), (3, .int T), (0, .ref (P.1 + 42)), (1, .int L)]) rfl rfl (by decide) hl29 rfl rfl (fun ls43 hl43 => ?_)
          refine jn_iinc (x := T) rfl rfl (by decide) (jM_at hl43 2 rfl) hl43 rfl (by decide) (by omega) (by omega) (fun z44 (ez44 : z44.toInt = T.toInt + 1) ls44 (hl44 : jM [(3, .int z44), (2, .int z28), (4, .int z28), (0, .ref (P.1 + 42)), (1, .int L)] ls44) => ?_)
          refine az_X_step (pc' := 4) (ls' := ls44) (st' := []) (h' := h40) rfl rfl rfl ?_
          exact ih (j + 1) z44 z28 h40 ls44 (jM_pick hl44 [0, 1, 3, 4] rfl) hH40 (hs.tr (hs40.sub (by decide))) (by omega) (by omega) (by omega)
theorem ld_b {P : si_P} (hxa : P.2.1 < P.1) {d : Nat} {h : si_H} (hH : az_HI P az_tb h) (L : Int32) (hL : -1 ≤ L.toInt ∧ L.toInt ≤ 99999) : az_X P d 95 0 (lv_args 0 [.ref (P.1 + 42), .int L]) [] h (fun rv h' => rv = none ∧ az_HI P az_tb h' ∧ az_same_out [(44, 1000000)] h h' ∧ True) := by
  have hl : jM [(0, .ref (P.1 + 42)), (1, .int L)] (lv_args 0 [.ref (P.1 + 42), .int L]) := jM_args [0, 1] rfl (by decide)
  generalize lv_args 0 [.ref (P.1 + 42), .int L] = ls at hl
  have k0 : (0 : Int32).toInt = 0 := by decide
  refine jm_iload_n (x := L) rfl rfl (jM_at hl 1 rfl) ?_
  refine jm_istore_n (l' := [(2, .int L), (0, .ref (P.1 + 42)), (1, .int L)]) rfl rfl (by decide) hl rfl rfl (fun ls1 hl1 => ?_)
  refine az_X_step (pc' := 3) (ls' := ls1) (st' := [.int 0]) (h' := h) rfl rfl rfl ?_
  refine jm_istore_n (l' := [(3, .int 0), (2, .int L), (0, .ref (P.1 + 42)), (1, .int L)]) rfl rfl (by decide) hl1 rfl rfl (fun ls3 hl3 => ?_)
  exact ld_lb hxa L 240 0 0 L h ls3 (jM_pick hl3 [0, 1, 2, 3] rfl) hH az_same_out.rf (by decide) (by omega) hL
theorem fa_b {P : si_P} (hxa : P.2.1 < P.1) {hh : Int → Int} {n : Int} (hn : 1 ≤ n ∧ n ≤ 240) (hh1 : ∀ i : Int, hh i ≤ 255) (k : Nat) (hE : ∀ k1 : Nat, k = k1 + 1 → pyM P hh n 42 98 10 k1 (pyX hh n)) : pyM P hh n 42 99 9 k (pyF hh n) := by
  intro D h o p F hD hH ho e1 e2 e3 hb hpn
  obtain ⟨d, rfl⟩ : ∃ d, D = d + 9 := ⟨D - 9, by omega⟩
  have bp : 0 ≤ ja h 14 2 ∧ ja h 14 2 ≤ 241 := ja_bd hH (i := 14) (k := 2) rfl
  have bF : -7000 ≤ ja h 14 3 ∧ ja h 14 3 ≤ 0 := ja_bd hH (i := 14) (k := 3) rfl
  have hbn := hb.2
  have hl : jM [(0, .ref (P.1 + 42)), (1, .ref (P.1 + 14)), (2, .int o)] (lv_args 0 [.ref (P.1 + 42), .ref (P.1 + 14), .int o]) := jM_args [0, 1, 2] rfl (by decide)
  generalize lv_args 0 [.ref (P.1 + 42), .ref (P.1 + 14), .int o] = ls at hl
  have km1 : ((-1) : Int32).toInt = (-1) := by decide
  have k0 : (0 : Int32).toInt = 0 := by decide
  have k1 : (1 : Int32).toInt = 1 := by decide
  have k5 : (5 : Int32).toInt = 5 := by decide
  have k6 : (6 : Int32).toInt = 6 := by decide
  have k35 : (35 : Int32).toInt = 35 := by decide
  have k36 : (36 : Int32).toInt = 36 := by decide
  have k91 : (91 : Int32).toInt = 91 := by decide
  have k93 : (93 : Int32).toInt = 93 := by decide
  refine jm_aload_n (x := P.1 + 14) rfl rfl (jM_at hl 1 rfl) ?_
  refine az_X_call (m' := 121) (as := [.ref (P.1 + 14)]) (rest := []) rfl rfl rfl rfl rfl ?_ ?_
  · unfold si_call
    dsimp only
    rw [if_pos ⟨rfl, rfl⟩]
    show (match si_ix P h (P.1 + 14) with | some i => _ | none => none) = _
    rw [jix hH (by decide)]
    dsimp only
    rw [(hH.2 14 _ rfl).1]
    rfl
  refine (nx_ok hxa hH hn e1 e2 e3 hb).mono ?_
  rintro rv1 h1 ⟨q1, z1, rfl, ez1⟩
  subst h1
  have hz1 : (F = 0 ∧ z1.toInt = hh p) ∨ (F ≠ 0 ∧ z1.toInt = -1) := by
    by_cases q : F = 0
    · rw [if_pos q] at ez1
      exact Or.inl ⟨q, ez1⟩
    · rw [if_neg q] at ez1
      exact Or.inr ⟨q, ez1⟩
  show az_X P _ 99 4 ls [.int z1] _ _
  refine jm_istore_n (l' := [(3, .int z1), (0, .ref (P.1 + 42)), (1, .ref (P.1 + 14)), (2, .int o)]) rfl rfl (by decide) hl rfl rfl (fun ls4 hl4 => ?_)
  refine jm_iload_n (x := z1) rfl rfl (jM_at hl4 0 rfl) ?_
  refine jx_if (t := 13) rfl rfl rfl (fun hc6 => ?_) (fun hc6 => ?_)
  · have g6 := jc1_ge_t hc6
    refine az_X_step (pc' := 15) (ls' := ls4) (st' := [.ref (P.2.2.2.2 1)]) (h' := h) rfl rfl rfl ?_
    refine jm_iload_n (x := z1) rfl rfl (jM_at hl4 0 rfl) ?_
    refine az_X_step (pc' := 17) (ls' := ls4) (st' := [.int ((z1.toUInt32 % 65536).toInt32), .ref (P.2.2.2.2 1)]) (h' := h) rfl rfl rfl ?_
    refine az_X_prim (st' := [.int (si_find ((z1.toUInt32 % 65536).toInt32) (si_text 1) 0)]) rfl rfl rfl rfl rfl rfl ?_ (by omega) ?_
    · show (if si_wide [] = true then (if P.2.2.2.2 1 = P.2.2.2.2 1 then some _ else if P.2.2.2.2 1 = P.2.2.2.2 2 then some _ else none) else none) = _
      rw [if_pos (by decide), if_pos rfl]
    show az_X P _ 99 20 ls4 [.int (si_find ((z1.toUInt32 % 65536).toInt32) (si_text 1) 0)] _ _
    have fi := fa_find z1 (by have := hh1 p; omega)
    refine jm_istore (l' := [(4, .int (si_find ((z1.toUInt32 % 65536).toInt32) (si_text 1) 0)), (3, .int z1), (0, .ref (P.1 + 42)), (1, .ref (P.1 + 14)), (2, .int o)]) rfl rfl (by decide) hl4 rfl rfl (fun ls20 hl20 => ?_)
    refine jm_iload_n (x := z1) rfl rfl (jM_at hl20 1 rfl) ?_
    refine az_X_step (pc' := 25) (ls' := ls20) (st' := [.int 91, .int z1]) (h' := h) rfl rfl rfl ?_
    refine jx_ic (t := 46) rfl rfl rfl (fun hc25 => ?_) (fun hc25 => ?_)
    · have g25 := jc2_ne_t hc25
      refine jm_aload_n (x := P.1 + 14) rfl rfl (jM_at hl20 3 rfl) ?_
      refine az_X_step (pc' := 49) (ls' := ls20) (st' := [.int 91, .ref (P.1 + 14)]) (h' := h) rfl rfl rfl ?_
      refine az_X_call (m' := 123) (as := [.ref (P.1 + 14), .int 91]) (rest := []) rfl rfl rfl rfl rfl ?_ ?_
      · unfold si_call
        dsimp only
        rw [if_pos ⟨rfl, rfl⟩]
        show (match si_ix P h (P.1 + 14) with | some i => _ | none => none) = _
        rw [jix hH (by decide)]
        dsimp only
        rw [(hH.2 14 _ rfl).1]
        rfl
      refine (tk2_ok hxa hH hn e1 e2 e3 hb 91 (by decide)).mono ?_
      rintro rv49 h49 ⟨z49, rfl, hH49, hs49, f49⟩
      have o_h49 : az_same_out [(14, 2), (14, 3), (42, 6), (43, 1000000), (44, 1000000)] h h49 := (hs49.sub (by decide))
      have e1_h49 : ja h49 14 1 = n := (jso o_h49 (by decide)).trans e1
      have hb_h49 : jBY h49 n hh := jBY_so o_h49 (by decide) hb
      have r3_h49 : ja h49 14 3 = ja h 14 3 := jso hs49 (by decide)
      show az_X P _ 99 52 ls20 [.int z49] _ _
      refine jx_if (t := 72) rfl rfl rfl (fun hc52 => ?_) (fun hc52 => ?_)
      · have g52 := jc1_eq_t hc52
        refine jm_iload (x := (si_find ((z1.toUInt32 % 65536).toInt32) (si_text 1) 0)) rfl rfl (jM_at hl20 0 rfl) ?_
        refine jx_if (t := 93) rfl rfl rfl (fun hc74 => ?_) (fun hc74 => ?_)
        · have g74 := jc1_lt_t hc74
          refine jm_aload_n (x := P.1 + 42) rfl rfl (jM_at hl20 2 rfl) ?_
          refine az_X_step (pc' := 96) (ls' := ls20) (st' := [.int 35, .ref (P.1 + 42)]) (h' := h49) rfl rfl rfl ?_
          refine jm_aload_n (x := P.1 + 14) rfl rfl (jM_at hl20 3 rfl) ?_
          refine az_X_step (pc' := 98) (ls' := ls20) (st' := [.int 5, .ref (P.1 + 14), .int 35, .ref (P.1 + 42)]) (h' := h49) rfl rfl rfl ?_
          have f49x := f49
          refine az_X_call (m' := 127) (as := [.ref (P.1 + 14), .int 5]) (rest := [.int 35, .ref (P.1 + 42)]) rfl rfl rfl rfl rfl ?_ ?_
          · unfold si_call
            dsimp only
            rw [if_pos ⟨rfl, rfl⟩]
            show (match si_ix P h49 (P.1 + 14) with | some i => _ | none => none) = _
            rw [jix hH49 (by decide)]
            dsimp only
            rw [(hH49.2 14 _ rfl).1]
            rfl
          refine (nu2_ok hxa hH49 hn e1_h49 rfl rfl hb_h49 hh1 (by omega)).mono ?_
          rintro rv98 h98 ⟨z98, rfl, hH98, hs98, f98⟩
          have o_h98 : az_same_out [(14, 2), (14, 3), (42, 6), (43, 1000000), (44, 1000000)] h h98 := ((hs49.sub (by decide)).tr (hs98.sub (by decide)))
          have e1_h98 : ja h98 14 1 = n := (jso o_h98 (by decide)).trans e1
          have hb_h98 : jBY h98 n hh := jBY_so o_h98 (by decide) hb
          show az_X P _ 99 101 ls20 [.int z98, .int 35, .ref (P.1 + 42)] _ _
          refine az_X_call (m' := 94) (as := [.ref (P.1 + 42), .int 35, .int z98]) (rest := []) rfl rfl rfl rfl rfl ?_ ?_
          · unfold si_call
            dsimp only
            rw [if_pos ⟨rfl, rfl⟩]
            show (match si_ix P h98 (P.1 + 42) with | some i => _ | none => none) = _
            rw [jix hH98 (by decide)]
            dsimp only
            rw [(hH98.2 42 _ rfl).1]
            rfl
          refine (as_b hxa hH98 35 z98 (by omega)).mono ?_
          rintro rv101 h101 ⟨z101, rfl, hH101, hs101, f101⟩
          have o_h101 : az_same_out [(14, 2), (14, 3), (42, 6), (43, 1000000), (44, 1000000)] h h101 := ((hs49.sub (by decide)).tr ((hs98.sub (by decide)).tr (hs101.sub (by decide))))
          have e1_h101 : ja h101 14 1 = n := (jso o_h101 (by decide)).trans e1
          have hb_h101 : jBY h101 n hh := jBY_so o_h101 (by decide) hb
          have r3_h101 : ja h101 14 3 = ja h98 14 3 := jso hs101 (by decide)
          have r2_h101 : ja h101 14 2 = ja h98 14 2 := jso hs101 (by decide)
          show az_X P _ 99 104 ls20 [.int z101] _ _
          refine az_X_step (pc' := 105) (ls' := ls20) (st' := []) (h' := h101) rfl rfl rfl ?_
          refine jn_retv rfl rfl rfl ?_
          refine ⟨rfl, hH101, ((hs49.sub (by decide)).tr ((hs98.sub (by decide)).tr (hs101.sub (by decide)))), ?_⟩
          by_cases hF : F = 0
          · subst hF
            rcases f98.2 with ⟨-, q⟩ | ⟨q, -⟩
            · rw [show ja h49 14 2 = p by omega] at q
              rw [r2_h101, r3_h101]
              exact fa_num hbn (by omega) (by omega) (by omega) q
            · exact absurd (by omega) q
          · exact pyF_skip hF (by omega)
        · have g74 := jc1_lt_f hc74
          have hlt := jBY_lt hb (p := p) (by omega)
          refine jm_aload_n (x := P.1 + 14) rfl rfl (jM_at hl20 3 rfl) ?_
          refine az_X_call (m' := 122) (as := [.ref (P.1 + 14)]) (rest := []) rfl rfl rfl rfl rfl ?_ ?_
          · unfold si_call
            dsimp only
            rw [if_pos ⟨rfl, rfl⟩]
            show (match si_ix P h49 (P.1 + 14) with | some i => _ | none => none) = _
            rw [jix hH49 (by decide)]
            dsimp only
            rw [(hH49.2 14 _ rfl).1]
            rfl
          refine (sp_ok hH49 (by omega)).mono ?_
          rintro rv78 h78 ⟨rfl, hH78, hs78, f78⟩
          have o_h78 : az_same_out [(14, 2), (14, 3), (42, 6), (43, 1000000), (44, 1000000)] h h78 := ((hs49.sub (by decide)).tr (hs78.sub (by decide)))
          have e1_h78 : ja h78 14 1 = n := (jso o_h78 (by decide)).trans e1
          have hb_h78 : jBY h78 n hh := jBY_so o_h78 (by decide) hb
          have r3_h78 : ja h78 14 3 = ja h49 14 3 := jso hs78 (by decide)
          show az_X P _ 99 81 ls20 [] _ _
          refine jm_aload_n (x := P.1 + 42) rfl rfl (jM_at hl20 2 rfl) ?_
          refine az_X_step (pc' := 84) (ls' := ls20) (st' := [.int 36, .ref (P.1 + 42)]) (h' := h78) rfl rfl rfl ?_
          refine jm_iload (x := (si_find ((z1.toUInt32 % 65536).toInt32) (si_text 1) 0)) rfl rfl (jM_at hl20 0 rfl) ?_
          refine az_X_call (m' := 94) (as := [.ref (P.1 + 42), .int 36, .int (si_find ((z1.toUInt32 % 65536).toInt32) (si_text 1) 0)]) (rest := []) rfl rfl rfl rfl rfl ?_ ?_
          · unfold si_call
            dsimp only
            rw [if_pos ⟨rfl, rfl⟩]
            show (match si_ix P h78 (P.1 + 42) with | some i => _ | none => none) = _
            rw [jix hH78 (by decide)]
            dsimp only
            rw [(hH78.2 42 _ rfl).1]
            rfl
          refine (as_b hxa hH78 36 (si_find ((z1.toUInt32 % 65536).toInt32) (si_text 1) 0) (by omega)).mono ?_
          rintro rv86 h86 ⟨z86, rfl, hH86, hs86, f86⟩
          have o_h86 : az_same_out [(14, 2), (14, 3), (42, 6), (43, 1000000), (44, 1000000)] h h86 := ((hs49.sub (by decide)).tr ((hs78.sub (by decide)).tr (hs86.sub (by decide))))
          have e1_h86 : ja h86 14 1 = n := (jso o_h86 (by decide)).trans e1
          have hb_h86 : jBY h86 n hh := jBY_so o_h86 (by decide) hb
          have r3_h86 : ja h86 14 3 = ja h78 14 3 := jso hs86 (by decide)
          have r2_h86 : ja h86 14 2 = ja h78 14 2 := jso hs86 (by decide)
          show az_X P _ 99 89 ls20 [.int z86] _ _
          refine az_X_step (pc' := 90) (ls' := ls20) (st' := []) (h' := h86) rfl rfl rfl ?_
          refine az_X_step (pc' := 105) (ls' := ls20) (st' := []) (h' := h86) rfl rfl rfl ?_
          refine jn_retv rfl rfl rfl ?_
          refine ⟨rfl, hH86, ((hs49.sub (by decide)).tr ((hs78.sub (by decide)).tr (hs86.sub (by decide)))), ?_⟩
          have hF : F = 0 := by omega
          subst hF
          have hlt := jBY_lt hb (p := p) (by omega)
          exact fa_fact hlt (by omega) (by omega) (by omega)
      · have g52 := jc1_eq_f hc52
        exfalso
        omega
    · have g25 := jc2_ne_f hc25
      refine jm_iload_n (x := o) rfl rfl (jM_at hl20 4 rfl) ?_
      refine az_X_step (pc' := 31) (ls' := ls20) (st' := [.int 6, .int o]) (h' := h) rfl rfl rfl ?_
      refine jx_ic (t := 46) rfl rfl rfl (fun hc31 => ?_) (fun hc31 => ?_)
      · have g31 := jc2_lt_t hc31
        refine jm_aload_n (x := P.1 + 14) rfl rfl (jM_at hl20 3 rfl) ?_
        refine az_X_step (pc' := 49) (ls' := ls20) (st' := [.int 91, .ref (P.1 + 14)]) (h' := h) rfl rfl rfl ?_
        refine az_X_call (m' := 123) (as := [.ref (P.1 + 14), .int 91]) (rest := []) rfl rfl rfl rfl rfl ?_ ?_
        · unfold si_call
          dsimp only
          rw [if_pos ⟨rfl, rfl⟩]
          show (match si_ix P h (P.1 + 14) with | some i => _ | none => none) = _
          rw [jix hH (by decide)]
          dsimp only
          rw [(hH.2 14 _ rfl).1]
          rfl
        refine (tk2_ok hxa hH hn e1 e2 e3 hb 91 (by decide)).mono ?_
        rintro rv49 h49 ⟨z49, rfl, hH49, hs49, f49⟩
        have o_h49 : az_same_out [(14, 2), (14, 3), (42, 6), (43, 1000000), (44, 1000000)] h h49 := (hs49.sub (by decide))
        have e1_h49 : ja h49 14 1 = n := (jso o_h49 (by decide)).trans e1
        have hb_h49 : jBY h49 n hh := jBY_so o_h49 (by decide) hb
        have r3_h49 : ja h49 14 3 = ja h 14 3 := jso hs49 (by decide)
        show az_X P _ 99 52 ls20 [.int z49] _ _
        refine jx_if (t := 72) rfl rfl rfl (fun hc52 => ?_) (fun hc52 => ?_)
        · have g52 := jc1_eq_t hc52
          exfalso
          omega
        · have g52 := jc1_eq_f hc52
          obtain ⟨k1, rfl⟩ : ∃ k1, k = k1 + 1 := ⟨k - 1, by omega⟩
          have hlt := jBY_lt hb (p := p) (by omega)
          refine jm_aload_n (x := P.1 + 42) rfl rfl (jM_at hl20 2 rfl) ?_
          refine jm_aload_n (x := P.1 + 14) rfl rfl (jM_at hl20 3 rfl) ?_
          refine jm_iload_n (x := o) rfl rfl (jM_at hl20 4 rfl) ?_
          refine az_X_step (pc' := 59) (ls' := ls20) (st' := [.int 1, .int o, .ref (P.1 + 14), .ref (P.1 + 42)]) (h' := h49) rfl rfl rfl ?_
          refine jn_add (a := o) (b := 1) rfl rfl (by omega) (by omega) (fun z59 ez59 => ?_)
          rw [show (1 : Int32).toInt = 1 by decide] at ez59
          refine az_X_call (m' := 98) (as := [.ref (P.1 + 42), .ref (P.1 + 14), .int z59]) (rest := []) rfl rfl rfl rfl rfl ?_ ?_
          · unfold si_call
            dsimp only
            rw [if_pos ⟨rfl, rfl⟩]
            show (match si_ix P h49 (P.1 + 42) with | some i => _ | none => none) = _
            rw [jix hH49 (by decide)]
            dsimp only
            rw [(hH49.2 42 _ rfl).1]
            rfl
          refine (hE k1 rfl (d + 8) h49 z59 _ _ (by omega) hH49 (by omega) e1_h49 rfl rfl hb_h49 (by omega)).mono ?_
          rintro rv60 h60 ⟨rfl, hH60, hs60, f60⟩
          have o_h60 : az_same_out [(14, 2), (14, 3), (42, 6), (43, 1000000), (44, 1000000)] h h60 := ((hs49.sub (by decide)).tr (hs60.sub (by decide)))
          have e1_h60 : ja h60 14 1 = n := (jso o_h60 (by decide)).trans e1
          have hb_h60 : jBY h60 n hh := jBY_so o_h60 (by decide) hb
          show az_X P _ 99 63 ls20 [] _ _
          refine jm_aload_n (x := P.1 + 14) rfl rfl (jM_at hl20 3 rfl) ?_
          refine az_X_step (pc' := 66) (ls' := ls20) (st' := [.int 93, .ref (P.1 + 14)]) (h' := h60) rfl rfl rfl ?_
          refine az_X_call (m' := 124) (as := [.ref (P.1 + 14), .int 93]) (rest := []) rfl rfl rfl rfl rfl ?_ ?_
          · unfold si_call
            dsimp only
            rw [if_pos ⟨rfl, rfl⟩]
            show (match si_ix P h60 (P.1 + 14) with | some i => _ | none => none) = _
            rw [jix hH60 (by decide)]
            dsimp only
            rw [(hH60.2 14 _ rfl).1]
            rfl
          refine (ex2_ok hxa hH60 hn e1_h60 rfl rfl hb_h60 93 (by decide)).mono ?_
          rintro rv66 h66 ⟨rfl, hH66, hs66, f66⟩
          have o_h66 : az_same_out [(14, 2), (14, 3), (42, 6), (43, 1000000), (44, 1000000)] h h66 := ((hs49.sub (by decide)).tr ((hs60.sub (by decide)).tr (hs66.sub (by decide))))
          have e1_h66 : ja h66 14 1 = n := (jso o_h66 (by decide)).trans e1
          have hb_h66 : jBY h66 n hh := jBY_so o_h66 (by decide) hb
          show az_X P _ 99 69 ls20 [] _ _
          refine az_X_step (pc' := 105) (ls' := ls20) (st' := []) (h' := h66) rfl rfl rfl ?_
          refine jn_retv rfl rfl rfl ?_
          refine ⟨rfl, hH66, ((hs49.sub (by decide)).tr ((hs60.sub (by decide)).tr (hs66.sub (by decide)))), ?_⟩
          have hF : F = 0 := by omega
          subst hF
          rw [show ja h49 14 2 = p + 1 by omega, show ja h49 14 3 = 0 by omega, show z59.toInt = o.toInt + 1 by omega] at f60
          exact fa_open hbn (by omega) (by omega) (by omega) f60 f66
      · have g31 := jc2_lt_f hc31
        refine jm_aload_n (x := P.1 + 14) rfl rfl (jM_at hl20 3 rfl) ?_
        refine az_X_step (pc' := 36) (ls' := ls20) (st' := [.int 5, .ref (P.1 + 14)]) (h' := h) rfl rfl rfl ?_
        refine jm_aload_n (x := P.1 + 14) rfl rfl (jM_at hl20 3 rfl) ?_
        refine az_X_call (m' := 120) (as := [.ref (P.1 + 14)]) (rest := [.int 5, .ref (P.1 + 14)]) rfl rfl rfl rfl rfl ?_ ?_
        · unfold si_call
          dsimp only
          rw [if_pos ⟨rfl, rfl⟩]
          show (match si_ix P h (P.1 + 14) with | some i => _ | none => none) = _
          rw [jix hH (by decide)]
          dsimp only
          rw [(hH.2 14 _ rfl).1]
          rfl
        refine (pl_ok hH).mono ?_
        rintro rv37 h37 ⟨q37, z37, rfl, ez37⟩
        subst h37
        show az_X P _ 99 40 ls20 [.int z37, .int 5, .ref (P.1 + 14)] _ _
        refine az_X_call (m' := 125) (as := [.ref (P.1 + 14), .int 5, .int z37]) (rest := []) rfl rfl rfl rfl rfl ?_ ?_
        · unfold si_call
          dsimp only
          rw [if_pos ⟨rfl, rfl⟩]
          show (match si_ix P h (P.1 + 14) with | some i => _ | none => none) = _
          rw [jix hH (by decide)]
          dsimp only
          rw [(hH.2 14 _ rfl).1]
          rfl
        refine (fl_ok hH 5 z37 (by decide) (by omega)).mono ?_
        rintro rv40 h40 ⟨rfl, hH40, hs40, f40⟩
        have o_h40 : az_same_out [(14, 2), (14, 3), (42, 6), (43, 1000000), (44, 1000000)] h h40 := (hs40.sub (by decide))
        have e1_h40 : ja h40 14 1 = n := (jso o_h40 (by decide)).trans e1
        have hb_h40 : jBY h40 n hh := jBY_so o_h40 (by decide) hb
        have r2_h40 : ja h40 14 2 = ja h 14 2 := jso hs40 (by decide)
        show az_X P _ 99 43 ls20 [] _ _
        refine az_X_step (pc' := 105) (ls' := ls20) (st' := []) (h' := h40) rfl rfl rfl ?_
        refine jn_retv rfl rfl rfl ?_
        have f40a := f40.1
        refine ⟨rfl, hH40, (hs40.sub (by decide)), ?_⟩
        have hF : F = 0 := by omega
        subst hF
        exact fa_deep (by omega) (by omega) (by omega) (by have := f40a (by omega); omega)
  · have g6 := jc1_ge_f hc6
    refine az_X_step (pc' := 10) (ls' := ls4) (st' := [.int (-1)]) (h' := h) rfl rfl rfl ?_
    refine az_X_step (pc' := 20) (ls' := ls4) (st' := [.int (-1)]) (h' := h) rfl rfl rfl ?_
    have fi : (-1 : Int32).toInt = -1 := by decide
    refine jm_istore (l' := [(4, .int (-1)), (3, .int z1), (0, .ref (P.1 + 42)), (1, .ref (P.1 + 14)), (2, .int o)]) rfl rfl (by decide) hl4 rfl rfl (fun ls20 hl20 => ?_)
    refine jm_iload_n (x := z1) rfl rfl (jM_at hl20 1 rfl) ?_
    refine az_X_step (pc' := 25) (ls' := ls20) (st' := [.int 91, .int z1]) (h' := h) rfl rfl rfl ?_
    refine jx_ic (t := 46) rfl rfl rfl (fun hc25 => ?_) (fun hc25 => ?_)
    · have g25 := jc2_ne_t hc25
      refine jm_aload_n (x := P.1 + 14) rfl rfl (jM_at hl20 3 rfl) ?_
      refine az_X_step (pc' := 49) (ls' := ls20) (st' := [.int 91, .ref (P.1 + 14)]) (h' := h) rfl rfl rfl ?_
      refine az_X_call (m' := 123) (as := [.ref (P.1 + 14), .int 91]) (rest := []) rfl rfl rfl rfl rfl ?_ ?_
      · unfold si_call
        dsimp only
        rw [if_pos ⟨rfl, rfl⟩]
        show (match si_ix P h (P.1 + 14) with | some i => _ | none => none) = _
        rw [jix hH (by decide)]
        dsimp only
        rw [(hH.2 14 _ rfl).1]
        rfl
      refine (tk2_ok hxa hH hn e1 e2 e3 hb 91 (by decide)).mono ?_
      rintro rv49 h49 ⟨z49, rfl, hH49, hs49, f49⟩
      have o_h49 : az_same_out [(14, 2), (14, 3), (42, 6), (43, 1000000), (44, 1000000)] h h49 := (hs49.sub (by decide))
      have e1_h49 : ja h49 14 1 = n := (jso o_h49 (by decide)).trans e1
      have hb_h49 : jBY h49 n hh := jBY_so o_h49 (by decide) hb
      have r3_h49 : ja h49 14 3 = ja h 14 3 := jso hs49 (by decide)
      show az_X P _ 99 52 ls20 [.int z49] _ _
      refine jx_if (t := 72) rfl rfl rfl (fun hc52 => ?_) (fun hc52 => ?_)
      · have g52 := jc1_eq_t hc52
        refine jm_iload (x := (-1)) rfl rfl (jM_at hl20 0 rfl) ?_
        refine jn_ifd (t := 93) (c := true) rfl rfl rfl (by decide) ?_
        show az_X P _ 99 93 ls20 [] _ _
        refine jm_aload_n (x := P.1 + 42) rfl rfl (jM_at hl20 2 rfl) ?_
        refine az_X_step (pc' := 96) (ls' := ls20) (st' := [.int 35, .ref (P.1 + 42)]) (h' := h49) rfl rfl rfl ?_
        refine jm_aload_n (x := P.1 + 14) rfl rfl (jM_at hl20 3 rfl) ?_
        refine az_X_step (pc' := 98) (ls' := ls20) (st' := [.int 5, .ref (P.1 + 14), .int 35, .ref (P.1 + 42)]) (h' := h49) rfl rfl rfl ?_
        have f49x := f49
        refine az_X_call (m' := 127) (as := [.ref (P.1 + 14), .int 5]) (rest := [.int 35, .ref (P.1 + 42)]) rfl rfl rfl rfl rfl ?_ ?_
        · unfold si_call
          dsimp only
          rw [if_pos ⟨rfl, rfl⟩]
          show (match si_ix P h49 (P.1 + 14) with | some i => _ | none => none) = _
          rw [jix hH49 (by decide)]
          dsimp only
          rw [(hH49.2 14 _ rfl).1]
          rfl
        refine (nu2_ok hxa hH49 hn e1_h49 rfl rfl hb_h49 hh1 (by omega)).mono ?_
        rintro rv98 h98 ⟨z98, rfl, hH98, hs98, f98⟩
        have o_h98 : az_same_out [(14, 2), (14, 3), (42, 6), (43, 1000000), (44, 1000000)] h h98 := ((hs49.sub (by decide)).tr (hs98.sub (by decide)))
        have e1_h98 : ja h98 14 1 = n := (jso o_h98 (by decide)).trans e1
        have hb_h98 : jBY h98 n hh := jBY_so o_h98 (by decide) hb
        show az_X P _ 99 101 ls20 [.int z98, .int 35, .ref (P.1 + 42)] _ _
        refine az_X_call (m' := 94) (as := [.ref (P.1 + 42), .int 35, .int z98]) (rest := []) rfl rfl rfl rfl rfl ?_ ?_
        · unfold si_call
          dsimp only
          rw [if_pos ⟨rfl, rfl⟩]
          show (match si_ix P h98 (P.1 + 42) with | some i => _ | none => none) = _
          rw [jix hH98 (by decide)]
          dsimp only
          rw [(hH98.2 42 _ rfl).1]
          rfl
        refine (as_b hxa hH98 35 z98 (by omega)).mono ?_
        rintro rv101 h101 ⟨z101, rfl, hH101, hs101, f101⟩
        have o_h101 : az_same_out [(14, 2), (14, 3), (42, 6), (43, 1000000), (44, 1000000)] h h101 := ((hs49.sub (by decide)).tr ((hs98.sub (by decide)).tr (hs101.sub (by decide))))
        have e1_h101 : ja h101 14 1 = n := (jso o_h101 (by decide)).trans e1
        have hb_h101 : jBY h101 n hh := jBY_so o_h101 (by decide) hb
        have r3_h101 : ja h101 14 3 = ja h98 14 3 := jso hs101 (by decide)
        have r2_h101 : ja h101 14 2 = ja h98 14 2 := jso hs101 (by decide)
        show az_X P _ 99 104 ls20 [.int z101] _ _
        refine az_X_step (pc' := 105) (ls' := ls20) (st' := []) (h' := h101) rfl rfl rfl ?_
        refine jn_retv rfl rfl rfl ?_
        refine ⟨rfl, hH101, ((hs49.sub (by decide)).tr ((hs98.sub (by decide)).tr (hs101.sub (by decide)))), ?_⟩
        by_cases hF : F = 0
        · subst hF
          rcases f98.2 with ⟨-, q⟩ | ⟨q, -⟩
          · rw [show ja h49 14 2 = p by omega] at q
            rw [r2_h101, r3_h101]
            exact fa_num hbn (by omega) (by omega) (by omega) q
          · exact absurd (by omega) q
        · exact pyF_skip hF (by omega)
      · have g52 := jc1_eq_f hc52
        exfalso
        omega
    · have g25 := jc2_ne_f hc25
      exfalso
      omega
theorem ex_lb {P : si_P} (hxa : P.2.1 < P.1) {d : Nat} {hh : Int → Int} {n : Int} (hn : 1 ≤ n ∧ n ≤ 240) (hh1 : ∀ i : Int, hh i ≤ 255) {k0 : Nat} (hF : pyM P hh n 42 99 9 k0 (pyF hh n)) {h0 : si_H} (o : Int32) (ho : 0 ≤ o.toInt ∧ o.toInt + k0 = 6) (hd0 : 2 * k0 + 10 ≤ d + 10) {p F : Int} : ∀ (k j : Nat) (T V : Int32) (h : si_H) (ls : si_L), jM [(4, .int T), (3, .int V), (0, .ref (P.1 + 42)), (1, .ref (P.1 + 14)), (2, .int o)] ls → az_HI P az_tb h → az_same_out [(14, 2), (14, 3), (42, 6), (43, 1000000), (44, 1000000)] h0 h → ja h 14 1 = n → jBY h n hh → T.toInt = j → j + k = 240 → pyF hh n p F o.toInt (ja h 14 2) (ja h 14 3) → (F = 0 → ja h 14 3 = 0 → (j : Int) ≤ ja h 14 2) → az_X P (d + 10) 98 11 ls [] h (fun rv h' => rv = none ∧ az_HI P az_tb h' ∧ az_same_out [(14, 2), (14, 3), (42, 6), (43, 1000000), (44, 1000000)] h0 h' ∧ pyX hh n p F o.toInt (ja h' 14 2) (ja h' 14 3)) := by
  intro k
  induction k with
  | zero =>
    intro j T V h ls hl hH hs e1 hb eT hj hf hm
    have bp : 0 ≤ ja h 14 2 ∧ ja h 14 2 ≤ 241 := ja_bd hH (i := 14) (k := 2) rfl
    have bF : -7000 ≤ ja h 14 3 ∧ ja h 14 3 ≤ 0 := ja_bd hH (i := 14) (k := 3) rfl
    have hbn := hb.2
    have F0 : ja h 14 3 = 0 → F = 0 := fun e => by
      by_cases q : F = 0
      · exact q
      · have := hf.1 q
        omega
    have qn : ja h 14 3 = 0 → ja h 14 2 ≤ n := fun e => (hf.2.1 (F0 e) e).2
    have hlt2 : ja h 14 2 < n ∨ hh (ja h 14 2) = -1 := by
      rcases Int.lt_or_le (ja h 14 2) n with q | q
      · exact Or.inl q
      · exact Or.inr (hbn _ q)
    have k0 : (0 : Int32).toInt = 0 := by decide
    have k240 : (240 : Int32).toInt = 240 := by decide
    refine jm_iload (x := T) rfl rfl (jM_at hl 0 rfl) ?_
    refine az_X_step (pc' := 16) (ls' := ls) (st' := [.int 240, .int T]) (h' := h) rfl rfl rfl ?_
    refine jx_ic (t := 113) rfl rfl rfl (fun hc16 => ?_) (fun hc16 => ?_)
    · have g16 := jc2_ge_t hc16
      refine jm_iload_n (x := V) rfl rfl (jM_at hl 1 rfl) ?_
      refine jx_if (t := 124) rfl rfl rfl (fun hc114 => ?_) (fun hc114 => ?_)
      · have g114 := jc1_lt_t hc114
        refine jn_retv rfl rfl rfl ?_
        have v2 : ja h 14 2 = ja h 14 2 := by omega
        have v3 : ja h 14 3 = ja h 14 3 := by omega
        refine ⟨rfl, hH, hs.tr az_same_out.rf, ?_⟩
        rw [v2, v3]
        refine ⟨hf, fun _ e => ?_⟩
        intro q
        have := hm (F0 e) e
        have hx : (240 : Int) ≤ ja h 14 2 → hh (ja h 14 2) = -1 := fun q2 => hbn _ (by omega)
        omega
      · have g114 := jc1_lt_f hc114
        refine jm_aload_n (x := P.1 + 42) rfl rfl (jM_at hl 2 rfl) ?_
        refine jm_iload_n (x := V) rfl rfl (jM_at hl 1 rfl) ?_
        refine az_X_step (pc' := 120) (ls' := ls) (st' := [.int 0, .int V, .ref (P.1 + 42)]) (h' := h) rfl rfl rfl ?_
        refine az_X_call (m' := 94) (as := [.ref (P.1 + 42), .int V, .int 0]) (rest := []) rfl rfl rfl rfl rfl ?_ ?_
        · unfold si_call
          dsimp only
          rw [if_pos ⟨rfl, rfl⟩]
          show (match si_ix P h (P.1 + 42) with | some i => _ | none => none) = _
          rw [jix hH (by decide)]
          dsimp only
          rw [(hH.2 42 _ rfl).1]
          rfl
        refine (as_b hxa hH V 0 (by omega)).mono ?_
        rintro rv120 h120 ⟨z120, rfl, hH120, hs120, f120⟩
        have o_h120 : az_same_out [(14, 2), (14, 3), (42, 6), (43, 1000000), (44, 1000000)] h h120 := (hs120.sub (by decide))
        have e1_h120 : ja h120 14 1 = n := (jso o_h120 (by decide)).trans e1
        have hb_h120 : jBY h120 n hh := jBY_so o_h120 (by decide) hb
        have r3_h120 : ja h120 14 3 = ja h 14 3 := jso hs120 (by decide)
        have r2_h120 : ja h120 14 2 = ja h 14 2 := jso hs120 (by decide)
        show az_X P _ 98 123 ls [.int z120] _ _
        refine az_X_step (pc' := 124) (ls' := ls) (st' := []) (h' := h120) rfl rfl rfl ?_
        refine jn_retv rfl rfl rfl ?_
        have v2 : ja h120 14 2 = ja h 14 2 := by omega
        have v3 : ja h120 14 3 = ja h 14 3 := by omega
        refine ⟨rfl, hH120, hs.tr (hs120.sub (by decide)), ?_⟩
        rw [v2, v3]
        refine ⟨hf, fun _ e => ?_⟩
        intro q
        have := hm (F0 e) e
        have hx : (240 : Int) ≤ ja h 14 2 → hh (ja h 14 2) = -1 := fun q2 => hbn _ (by omega)
        omega
    · have g16 := jc2_ge_f hc16
      exfalso
      omega
  | succ k ih =>
    intro j T V h ls hl hH hs e1 hb eT hj hf hm
    have bp : 0 ≤ ja h 14 2 ∧ ja h 14 2 ≤ 241 := ja_bd hH (i := 14) (k := 2) rfl
    have bF : -7000 ≤ ja h 14 3 ∧ ja h 14 3 ≤ 0 := ja_bd hH (i := 14) (k := 3) rfl
    have hbn := hb.2
    have F0 : ja h 14 3 = 0 → F = 0 := fun e => by
      by_cases q : F = 0
      · exact q
      · have := hf.1 q
        omega
    have qn : ja h 14 3 = 0 → ja h 14 2 ≤ n := fun e => (hf.2.1 (F0 e) e).2
    have hlt2 : ja h 14 2 < n ∨ hh (ja h 14 2) = -1 := by
      rcases Int.lt_or_le (ja h 14 2) n with q | q
      · exact Or.inl q
      · exact Or.inr (hbn _ q)
    have k0 : (0 : Int32).toInt = 0 := by decide
    have k37 : (37 : Int32).toInt = 37 := by decide
    have k42 : (42 : Int32).toInt = 42 := by decide
    have k43 : (43 : Int32).toInt = 43 := by decide
    have k45 : (45 : Int32).toInt = 45 := by decide
    have k47 : (47 : Int32).toInt = 47 := by decide
    have k240 : (240 : Int32).toInt = 240 := by decide
    refine jm_iload (x := T) rfl rfl (jM_at hl 0 rfl) ?_
    refine az_X_step (pc' := 16) (ls' := ls) (st' := [.int 240, .int T]) (h' := h) rfl rfl rfl ?_
    refine jx_ic (t := 113) rfl rfl rfl (fun hc16 => ?_) (fun hc16 => ?_)
    · have g16 := jc2_ge_t hc16
      refine jm_iload_n (x := V) rfl rfl (jM_at hl 1 rfl) ?_
      refine jx_if (t := 124) rfl rfl rfl (fun hc114 => ?_) (fun hc114 => ?_)
      · have g114 := jc1_lt_t hc114
        refine jn_retv rfl rfl rfl ?_
        have v2 : ja h 14 2 = ja h 14 2 := by omega
        have v3 : ja h 14 3 = ja h 14 3 := by omega
        refine ⟨rfl, hH, hs.tr az_same_out.rf, ?_⟩
        rw [v2, v3]
        refine ⟨hf, fun _ e => ?_⟩
        intro q
        have := hm (F0 e) e
        have hx : (240 : Int) ≤ ja h 14 2 → hh (ja h 14 2) = -1 := fun q2 => hbn _ (by omega)
        omega
      · have g114 := jc1_lt_f hc114
        refine jm_aload_n (x := P.1 + 42) rfl rfl (jM_at hl 2 rfl) ?_
        refine jm_iload_n (x := V) rfl rfl (jM_at hl 1 rfl) ?_
        refine az_X_step (pc' := 120) (ls' := ls) (st' := [.int 0, .int V, .ref (P.1 + 42)]) (h' := h) rfl rfl rfl ?_
        refine az_X_call (m' := 94) (as := [.ref (P.1 + 42), .int V, .int 0]) (rest := []) rfl rfl rfl rfl rfl ?_ ?_
        · unfold si_call
          dsimp only
          rw [if_pos ⟨rfl, rfl⟩]
          show (match si_ix P h (P.1 + 42) with | some i => _ | none => none) = _
          rw [jix hH (by decide)]
          dsimp only
          rw [(hH.2 42 _ rfl).1]
          rfl
        refine (as_b hxa hH V 0 (by omega)).mono ?_
        rintro rv120 h120 ⟨z120, rfl, hH120, hs120, f120⟩
        have o_h120 : az_same_out [(14, 2), (14, 3), (42, 6), (43, 1000000), (44, 1000000)] h h120 := (hs120.sub (by decide))
        have e1_h120 : ja h120 14 1 = n := (jso o_h120 (by decide)).trans e1
        have hb_h120 : jBY h120 n hh := jBY_so o_h120 (by decide) hb
        have r3_h120 : ja h120 14 3 = ja h 14 3 := jso hs120 (by decide)
        have r2_h120 : ja h120 14 2 = ja h 14 2 := jso hs120 (by decide)
        show az_X P _ 98 123 ls [.int z120] _ _
        refine az_X_step (pc' := 124) (ls' := ls) (st' := []) (h' := h120) rfl rfl rfl ?_
        refine jn_retv rfl rfl rfl ?_
        have v2 : ja h120 14 2 = ja h 14 2 := by omega
        have v3 : ja h120 14 3 = ja h 14 3 := by omega
        refine ⟨rfl, hH120, hs.tr (hs120.sub (by decide)), ?_⟩
        rw [v2, v3]
        refine ⟨hf, fun _ e => ?_⟩
        intro q
        have := hm (F0 e) e
        have hx : (240 : Int) ≤ ja h 14 2 → hh (ja h 14 2) = -1 := fun q2 => hbn _ (by omega)
        omega
    · have g16 := jc2_ge_f hc16
      refine jm_aload_n (x := P.1 + 14) rfl rfl (jM_at hl 3 rfl) ?_
      refine az_X_call (m' := 121) (as := [.ref (P.1 + 14)]) (rest := []) rfl rfl rfl rfl rfl ?_ ?_
      · unfold si_call
        dsimp only
        rw [if_pos ⟨rfl, rfl⟩]
        show (match si_ix P h (P.1 + 14) with | some i => _ | none => none) = _
        rw [jix hH (by decide)]
        dsimp only
        rw [(hH.2 14 _ rfl).1]
        rfl
      refine (nx_ok hxa hH hn e1 rfl rfl hb).mono ?_
      rintro rv20 h20 ⟨q20, z20, rfl, ez20⟩
      subst h20
      show az_X P _ 98 23 ls [.int z20] _ _
      refine jm_istore (l' := [(5, .int z20), (4, .int T), (3, .int V), (0, .ref (P.1 + 42)), (1, .ref (P.1 + 14)), (2, .int o)]) rfl rfl (by decide) hl rfl rfl (fun ls23 hl23 => ?_)
      refine jm_aload_n (x := P.1 + 14) rfl rfl (jM_at hl23 4 rfl) ?_
      refine az_X_step (pc' := 28) (ls' := ls23) (st' := [.int 42, .ref (P.1 + 14)]) (h' := h) rfl rfl rfl ?_
      refine az_X_call (m' := 123) (as := [.ref (P.1 + 14), .int 42]) (rest := []) rfl rfl rfl rfl rfl ?_ ?_
      · unfold si_call
        dsimp only
        rw [if_pos ⟨rfl, rfl⟩]
        show (match si_ix P h (P.1 + 14) with | some i => _ | none => none) = _
        rw [jix hH (by decide)]
        dsimp only
        rw [(hH.2 14 _ rfl).1]
        rfl
      refine (tk2_ok hxa hH hn e1 rfl rfl hb 42 (by decide)).mono ?_
      rintro rv28 h28 ⟨z28, rfl, hH28, hs28, f28⟩
      have o_h28 : az_same_out [(14, 2), (14, 3), (42, 6), (43, 1000000), (44, 1000000)] h h28 := (hs28.sub (by decide))
      have e1_h28 : ja h28 14 1 = n := (jso o_h28 (by decide)).trans e1
      have hb_h28 : jBY h28 n hh := jBY_so o_h28 (by decide) hb
      have r3_h28 : ja h28 14 3 = ja h 14 3 := jso hs28 (by decide)
      show az_X P _ 98 31 ls23 [.int z28] _ _
      refine jx_if (t := 52) rfl rfl rfl (fun hc31 => ?_) (fun hc31 => ?_)
      · have g31 := jc1_ne_t hc31
        refine jm_aload_n (x := P.1 + 42) rfl rfl (jM_at hl23 3 rfl) ?_
        refine jm_aload_n (x := P.1 + 14) rfl rfl (jM_at hl23 4 rfl) ?_
        refine jm_iload_n (x := o) rfl rfl (jM_at hl23 5 rfl) ?_
        refine az_X_call (m' := 99) (as := [.ref (P.1 + 42), .ref (P.1 + 14), .int o]) (rest := []) rfl rfl rfl rfl rfl ?_ ?_
        · unfold si_call
          dsimp only
          rw [if_pos ⟨rfl, rfl⟩]
          show (match si_ix P h28 (P.1 + 42) with | some i => _ | none => none) = _
          rw [jix hH28 (by decide)]
          dsimp only
          rw [(hH28.2 42 _ rfl).1]
          rfl
        refine (hF (d + 9) h28 o _ _ (by omega) hH28 ho e1_h28 rfl rfl hb_h28 (by omega)).mono ?_
        rintro rv55 h55 ⟨rfl, hH55, hs55, f55⟩
        have o_h55 : az_same_out [(14, 2), (14, 3), (42, 6), (43, 1000000), (44, 1000000)] h h55 := ((hs28.sub (by decide)).tr (hs55.sub (by decide)))
        have e1_h55 : ja h55 14 1 = n := (jso o_h55 (by decide)).trans e1
        have hb_h55 : jBY h55 n hh := jBY_so o_h55 (by decide) hb
        show az_X P _ 98 58 ls23 [] _ _
        refine jm_aload_n (x := P.1 + 42) rfl rfl (jM_at hl23 3 rfl) ?_
        refine jm_iload (x := z20) rfl rfl (jM_at hl23 0 rfl) ?_
        refine az_X_step (pc' := 62) (ls' := ls23) (st' := [.int 0, .int z20, .ref (P.1 + 42)]) (h' := h55) rfl rfl rfl ?_
        refine az_X_call (m' := 94) (as := [.ref (P.1 + 42), .int z20, .int 0]) (rest := []) rfl rfl rfl rfl rfl ?_ ?_
        · unfold si_call
          dsimp only
          rw [if_pos ⟨rfl, rfl⟩]
          show (match si_ix P h55 (P.1 + 42) with | some i => _ | none => none) = _
          rw [jix hH55 (by decide)]
          dsimp only
          rw [(hH55.2 42 _ rfl).1]
          rfl
        refine (as_b hxa hH55 z20 0 (by omega)).mono ?_
        rintro rv62 h62 ⟨z62, rfl, hH62, hs62, f62⟩
        have o_h62 : az_same_out [(14, 2), (14, 3), (42, 6), (43, 1000000), (44, 1000000)] h h62 := ((hs28.sub (by decide)).tr ((hs55.sub (by decide)).tr (hs62.sub (by decide))))
        have e1_h62 : ja h62 14 1 = n := (jso o_h62 (by decide)).trans e1
        have hb_h62 : jBY h62 n hh := jBY_so o_h62 (by decide) hb
        have r3_h62 : ja h62 14 3 = ja h55 14 3 := jso hs62 (by decide)
        have r2_h62 : ja h62 14 2 = ja h55 14 2 := jso hs62 (by decide)
        show az_X P _ 98 65 ls23 [.int z62] _ _
        refine az_X_step (pc' := 66) (ls' := ls23) (st' := []) (h' := h62) rfl rfl rfl ?_
        refine az_X_step (pc' := 107) (ls' := ls23) (st' := []) (h' := h62) rfl rfl rfl ?_
        refine jn_iinc (x := T) rfl rfl (by decide) (jM_at hl23 1 rfl) hl23 rfl (by decide) (by omega) (by omega) (fun z107 (ez107 : z107.toInt = T.toInt + 1) ls107 (hl107 : jM [(4, .int z107), (5, .int z20), (3, .int V), (0, .ref (P.1 + 42)), (1, .ref (P.1 + 14)), (2, .int o)] ls107) => ?_)
        refine az_X_step (pc' := 11) (ls' := ls107) (st' := []) (h' := h62) rfl rfl rfl ?_
        have q1 : ja h 14 3 = 0 ∧ pysg (hh (ja h 14 2)) ∧ ja h28 14 2 = ja h 14 2 + 1 ∧ ja h28 14 3 = 0 := by omega
        have fx := f55
        rw [q1.2.2.1, q1.2.2.2] at fx
        have fy := ex_step hf q1.1 q1.2.1 fx
        have v2 : ja h62 14 2 = ja h55 14 2 := by omega
        have v3 : ja h62 14 3 = ja h55 14 3 := by omega
        refine ih (j + 1) z107 V h62 ls107 (jM_pick hl107 [0, 2, 3, 4, 5] rfl) hH62 (hs.tr ((hs28.sub (by decide)).tr ((hs55.sub (by decide)).tr (hs62.sub (by decide))))) e1_h62 hb_h62 (by omega) (by omega) (by rw [v2, v3]; exact fy) (fun e e0 => ?_)
        rw [v3] at e0
        rw [v2]
        have := fx.2.1 rfl e0
        have := hm e q1.1
        omega
      · have g31 := jc1_ne_f hc31
        refine jm_aload_n (x := P.1 + 14) rfl rfl (jM_at hl23 4 rfl) ?_
        refine az_X_step (pc' := 37) (ls' := ls23) (st' := [.int 47, .ref (P.1 + 14)]) (h' := h28) rfl rfl rfl ?_
        refine az_X_call (m' := 123) (as := [.ref (P.1 + 14), .int 47]) (rest := []) rfl rfl rfl rfl rfl ?_ ?_
        · unfold si_call
          dsimp only
          rw [if_pos ⟨rfl, rfl⟩]
          show (match si_ix P h28 (P.1 + 14) with | some i => _ | none => none) = _
          rw [jix hH28 (by decide)]
          dsimp only
          rw [(hH28.2 14 _ rfl).1]
          rfl
        refine (tk2_ok hxa hH28 hn e1_h28 (show ja h28 14 2 = ja h 14 2 by omega) (show ja h28 14 3 = ja h 14 3 by omega) hb_h28 47 (by decide)).mono ?_
        rintro rv37 h37 ⟨z37, rfl, hH37, hs37, f37⟩
        have o_h37 : az_same_out [(14, 2), (14, 3), (42, 6), (43, 1000000), (44, 1000000)] h h37 := ((hs28.sub (by decide)).tr (hs37.sub (by decide)))
        have e1_h37 : ja h37 14 1 = n := (jso o_h37 (by decide)).trans e1
        have hb_h37 : jBY h37 n hh := jBY_so o_h37 (by decide) hb
        have r3_h37 : ja h37 14 3 = ja h28 14 3 := jso hs37 (by decide)
        show az_X P _ 98 40 ls23 [.int z37] _ _
        refine jx_if (t := 52) rfl rfl rfl (fun hc40 => ?_) (fun hc40 => ?_)
        · have g40 := jc1_ne_t hc40
          refine jm_aload_n (x := P.1 + 42) rfl rfl (jM_at hl23 3 rfl) ?_
          refine jm_aload_n (x := P.1 + 14) rfl rfl (jM_at hl23 4 rfl) ?_
          refine jm_iload_n (x := o) rfl rfl (jM_at hl23 5 rfl) ?_
          refine az_X_call (m' := 99) (as := [.ref (P.1 + 42), .ref (P.1 + 14), .int o]) (rest := []) rfl rfl rfl rfl rfl ?_ ?_
          · unfold si_call
            dsimp only
            rw [if_pos ⟨rfl, rfl⟩]
            show (match si_ix P h37 (P.1 + 42) with | some i => _ | none => none) = _
            rw [jix hH37 (by decide)]
            dsimp only
            rw [(hH37.2 42 _ rfl).1]
            rfl
          refine (hF (d + 9) h37 o _ _ (by omega) hH37 ho e1_h37 rfl rfl hb_h37 (by omega)).mono ?_
          rintro rv55 h55 ⟨rfl, hH55, hs55, f55⟩
          have o_h55 : az_same_out [(14, 2), (14, 3), (42, 6), (43, 1000000), (44, 1000000)] h h55 := ((hs28.sub (by decide)).tr ((hs37.sub (by decide)).tr (hs55.sub (by decide))))
          have e1_h55 : ja h55 14 1 = n := (jso o_h55 (by decide)).trans e1
          have hb_h55 : jBY h55 n hh := jBY_so o_h55 (by decide) hb
          show az_X P _ 98 58 ls23 [] _ _
          refine jm_aload_n (x := P.1 + 42) rfl rfl (jM_at hl23 3 rfl) ?_
          refine jm_iload (x := z20) rfl rfl (jM_at hl23 0 rfl) ?_
          refine az_X_step (pc' := 62) (ls' := ls23) (st' := [.int 0, .int z20, .ref (P.1 + 42)]) (h' := h55) rfl rfl rfl ?_
          refine az_X_call (m' := 94) (as := [.ref (P.1 + 42), .int z20, .int 0]) (rest := []) rfl rfl rfl rfl rfl ?_ ?_
          · unfold si_call
            dsimp only
            rw [if_pos ⟨rfl, rfl⟩]
            show (match si_ix P h55 (P.1 + 42) with | some i => _ | none => none) = _
            rw [jix hH55 (by decide)]
            dsimp only
            rw [(hH55.2 42 _ rfl).1]
            rfl
          refine (as_b hxa hH55 z20 0 (by omega)).mono ?_
          rintro rv62 h62 ⟨z62, rfl, hH62, hs62, f62⟩
          have o_h62 : az_same_out [(14, 2), (14, 3), (42, 6), (43, 1000000), (44, 1000000)] h h62 := ((hs28.sub (by decide)).tr ((hs37.sub (by decide)).tr ((hs55.sub (by decide)).tr (hs62.sub (by decide)))))
          have e1_h62 : ja h62 14 1 = n := (jso o_h62 (by decide)).trans e1
          have hb_h62 : jBY h62 n hh := jBY_so o_h62 (by decide) hb
          have r3_h62 : ja h62 14 3 = ja h55 14 3 := jso hs62 (by decide)
          have r2_h62 : ja h62 14 2 = ja h55 14 2 := jso hs62 (by decide)
          show az_X P _ 98 65 ls23 [.int z62] _ _
          refine az_X_step (pc' := 66) (ls' := ls23) (st' := []) (h' := h62) rfl rfl rfl ?_
          refine az_X_step (pc' := 107) (ls' := ls23) (st' := []) (h' := h62) rfl rfl rfl ?_
          refine jn_iinc (x := T) rfl rfl (by decide) (jM_at hl23 1 rfl) hl23 rfl (by decide) (by omega) (by omega) (fun z107 (ez107 : z107.toInt = T.toInt + 1) ls107 (hl107 : jM [(4, .int z107), (5, .int z20), (3, .int V), (0, .ref (P.1 + 42)), (1, .ref (P.1 + 14)), (2, .int o)] ls107) => ?_)
          refine az_X_step (pc' := 11) (ls' := ls107) (st' := []) (h' := h62) rfl rfl rfl ?_
          have q1 : ja h 14 3 = 0 ∧ pysg (hh (ja h 14 2)) ∧ ja h37 14 2 = ja h 14 2 + 1 ∧ ja h37 14 3 = 0 := by omega
          have fx := f55
          rw [q1.2.2.1, q1.2.2.2] at fx
          have fy := ex_step hf q1.1 q1.2.1 fx
          have v2 : ja h62 14 2 = ja h55 14 2 := by omega
          have v3 : ja h62 14 3 = ja h55 14 3 := by omega
          refine ih (j + 1) z107 V h62 ls107 (jM_pick hl107 [0, 2, 3, 4, 5] rfl) hH62 (hs.tr ((hs28.sub (by decide)).tr ((hs37.sub (by decide)).tr ((hs55.sub (by decide)).tr (hs62.sub (by decide)))))) e1_h62 hb_h62 (by omega) (by omega) (by rw [v2, v3]; exact fy) (fun e e0 => ?_)
          rw [v3] at e0
          rw [v2]
          have := fx.2.1 rfl e0
          have := hm e q1.1
          omega
        · have g40 := jc1_ne_f hc40
          refine jm_aload_n (x := P.1 + 14) rfl rfl (jM_at hl23 4 rfl) ?_
          refine az_X_step (pc' := 46) (ls' := ls23) (st' := [.int 37, .ref (P.1 + 14)]) (h' := h37) rfl rfl rfl ?_
          refine az_X_call (m' := 123) (as := [.ref (P.1 + 14), .int 37]) (rest := []) rfl rfl rfl rfl rfl ?_ ?_
          · unfold si_call
            dsimp only
            rw [if_pos ⟨rfl, rfl⟩]
            show (match si_ix P h37 (P.1 + 14) with | some i => _ | none => none) = _
            rw [jix hH37 (by decide)]
            dsimp only
            rw [(hH37.2 14 _ rfl).1]
            rfl
          refine (tk2_ok hxa hH37 hn e1_h37 (show ja h37 14 2 = ja h 14 2 by omega) (show ja h37 14 3 = ja h 14 3 by omega) hb_h37 37 (by decide)).mono ?_
          rintro rv46 h46 ⟨z46, rfl, hH46, hs46, f46⟩
          have o_h46 : az_same_out [(14, 2), (14, 3), (42, 6), (43, 1000000), (44, 1000000)] h h46 := ((hs28.sub (by decide)).tr ((hs37.sub (by decide)).tr (hs46.sub (by decide))))
          have e1_h46 : ja h46 14 1 = n := (jso o_h46 (by decide)).trans e1
          have hb_h46 : jBY h46 n hh := jBY_so o_h46 (by decide) hb
          have r3_h46 : ja h46 14 3 = ja h37 14 3 := jso hs46 (by decide)
          show az_X P _ 98 49 ls23 [.int z46] _ _
          refine jx_if (t := 69) rfl rfl rfl (fun hc49 => ?_) (fun hc49 => ?_)
          · have g49 := jc1_eq_t hc49
            refine jm_aload_n (x := P.1 + 14) rfl rfl (jM_at hl23 4 rfl) ?_
            refine az_X_step (pc' := 72) (ls' := ls23) (st' := [.int 43, .ref (P.1 + 14)]) (h' := h46) rfl rfl rfl ?_
            refine az_X_call (m' := 123) (as := [.ref (P.1 + 14), .int 43]) (rest := []) rfl rfl rfl rfl rfl ?_ ?_
            · unfold si_call
              dsimp only
              rw [if_pos ⟨rfl, rfl⟩]
              show (match si_ix P h46 (P.1 + 14) with | some i => _ | none => none) = _
              rw [jix hH46 (by decide)]
              dsimp only
              rw [(hH46.2 14 _ rfl).1]
              rfl
            refine (tk2_ok hxa hH46 hn e1_h46 (show ja h46 14 2 = ja h 14 2 by omega) (show ja h46 14 3 = ja h 14 3 by omega) hb_h46 43 (by decide)).mono ?_
            rintro rv72 h72 ⟨z72, rfl, hH72, hs72, f72⟩
            have o_h72 : az_same_out [(14, 2), (14, 3), (42, 6), (43, 1000000), (44, 1000000)] h h72 := ((hs28.sub (by decide)).tr ((hs37.sub (by decide)).tr ((hs46.sub (by decide)).tr (hs72.sub (by decide)))))
            have e1_h72 : ja h72 14 1 = n := (jso o_h72 (by decide)).trans e1
            have hb_h72 : jBY h72 n hh := jBY_so o_h72 (by decide) hb
            have r3_h72 : ja h72 14 3 = ja h46 14 3 := jso hs72 (by decide)
            show az_X P _ 98 75 ls23 [.int z72] _ _
            refine jx_if (t := 87) rfl rfl rfl (fun hc75 => ?_) (fun hc75 => ?_)
            · have g75 := jc1_ne_t hc75
              refine jm_iload_n (x := V) rfl rfl (jM_at hl23 2 rfl) ?_
              refine jx_if (t := 98) rfl rfl rfl (fun hc88 => ?_) (fun hc88 => ?_)
              · have g88 := jc1_lt_t hc88
                refine jm_iload (x := z20) rfl rfl (jM_at hl23 0 rfl) ?_
                refine jm_istore_n (l' := [(3, .int z20), (5, .int z20), (4, .int T), (0, .ref (P.1 + 42)), (1, .ref (P.1 + 14)), (2, .int o)]) rfl rfl (by decide) hl23 rfl rfl (fun ls100 hl100 => ?_)
                refine jm_aload_n (x := P.1 + 42) rfl rfl (jM_at hl100 3 rfl) ?_
                refine jm_aload_n (x := P.1 + 14) rfl rfl (jM_at hl100 4 rfl) ?_
                refine jm_iload_n (x := o) rfl rfl (jM_at hl100 5 rfl) ?_
                refine az_X_call (m' := 99) (as := [.ref (P.1 + 42), .ref (P.1 + 14), .int o]) (rest := []) rfl rfl rfl rfl rfl ?_ ?_
                · unfold si_call
                  dsimp only
                  rw [if_pos ⟨rfl, rfl⟩]
                  show (match si_ix P h72 (P.1 + 42) with | some i => _ | none => none) = _
                  rw [jix hH72 (by decide)]
                  dsimp only
                  rw [(hH72.2 42 _ rfl).1]
                  rfl
                refine (hF (d + 9) h72 o _ _ (by omega) hH72 ho e1_h72 rfl rfl hb_h72 (by omega)).mono ?_
                rintro rv104 h104 ⟨rfl, hH104, hs104, f104⟩
                have o_h104 : az_same_out [(14, 2), (14, 3), (42, 6), (43, 1000000), (44, 1000000)] h h104 := ((hs28.sub (by decide)).tr ((hs37.sub (by decide)).tr ((hs46.sub (by decide)).tr ((hs72.sub (by decide)).tr (hs104.sub (by decide))))))
                have e1_h104 : ja h104 14 1 = n := (jso o_h104 (by decide)).trans e1
                have hb_h104 : jBY h104 n hh := jBY_so o_h104 (by decide) hb
                show az_X P _ 98 107 ls100 [] _ _
                refine jn_iinc (x := T) rfl rfl (by decide) (jM_at hl100 2 rfl) hl100 rfl (by decide) (by omega) (by omega) (fun z107 (ez107 : z107.toInt = T.toInt + 1) ls107 (hl107 : jM [(4, .int z107), (3, .int z20), (5, .int z20), (0, .ref (P.1 + 42)), (1, .ref (P.1 + 14)), (2, .int o)] ls107) => ?_)
                refine az_X_step (pc' := 11) (ls' := ls107) (st' := []) (h' := h104) rfl rfl rfl ?_
                have q1 : ja h 14 3 = 0 ∧ pysg (hh (ja h 14 2)) ∧ ja h72 14 2 = ja h 14 2 + 1 ∧ ja h72 14 3 = 0 := by omega
                have fx := f104
                rw [q1.2.2.1, q1.2.2.2] at fx
                have fy := ex_step hf q1.1 q1.2.1 fx
                have v2 : ja h104 14 2 = ja h104 14 2 := by omega
                have v3 : ja h104 14 3 = ja h104 14 3 := by omega
                refine ih (j + 1) z107 z20 h104 ls107 (jM_pick hl107 [0, 1, 3, 4, 5] rfl) hH104 (hs.tr ((hs28.sub (by decide)).tr ((hs37.sub (by decide)).tr ((hs46.sub (by decide)).tr ((hs72.sub (by decide)).tr (hs104.sub (by decide))))))) e1_h104 hb_h104 (by omega) (by omega) (by rw [v2, v3]; exact fy) (fun e e0 => ?_)
                rw [v3] at e0
                rw [v2]
                have := fx.2.1 rfl e0
                have := hm e q1.1
                omega
              · have g88 := jc1_lt_f hc88
                refine jm_aload_n (x := P.1 + 42) rfl rfl (jM_at hl23 3 rfl) ?_
                refine jm_iload_n (x := V) rfl rfl (jM_at hl23 2 rfl) ?_
                refine az_X_step (pc' := 94) (ls' := ls23) (st' := [.int 0, .int V, .ref (P.1 + 42)]) (h' := h72) rfl rfl rfl ?_
                refine az_X_call (m' := 94) (as := [.ref (P.1 + 42), .int V, .int 0]) (rest := []) rfl rfl rfl rfl rfl ?_ ?_
                · unfold si_call
                  dsimp only
                  rw [if_pos ⟨rfl, rfl⟩]
                  show (match si_ix P h72 (P.1 + 42) with | some i => _ | none => none) = _
                  rw [jix hH72 (by decide)]
                  dsimp only
                  rw [(hH72.2 42 _ rfl).1]
                  rfl
                refine (as_b hxa hH72 V 0 (by omega)).mono ?_
                rintro rv94 h94 ⟨z94, rfl, hH94, hs94, f94⟩
                have o_h94 : az_same_out [(14, 2), (14, 3), (42, 6), (43, 1000000), (44, 1000000)] h h94 := ((hs28.sub (by decide)).tr ((hs37.sub (by decide)).tr ((hs46.sub (by decide)).tr ((hs72.sub (by decide)).tr (hs94.sub (by decide))))))
                have e1_h94 : ja h94 14 1 = n := (jso o_h94 (by decide)).trans e1
                have hb_h94 : jBY h94 n hh := jBY_so o_h94 (by decide) hb
                have r3_h94 : ja h94 14 3 = ja h72 14 3 := jso hs94 (by decide)
                have r2_h94 : ja h94 14 2 = ja h72 14 2 := jso hs94 (by decide)
                show az_X P _ 98 97 ls23 [.int z94] _ _
                refine az_X_step (pc' := 98) (ls' := ls23) (st' := []) (h' := h94) rfl rfl rfl ?_
                refine jm_iload (x := z20) rfl rfl (jM_at hl23 0 rfl) ?_
                refine jm_istore_n (l' := [(3, .int z20), (5, .int z20), (4, .int T), (0, .ref (P.1 + 42)), (1, .ref (P.1 + 14)), (2, .int o)]) rfl rfl (by decide) hl23 rfl rfl (fun ls100 hl100 => ?_)
                refine jm_aload_n (x := P.1 + 42) rfl rfl (jM_at hl100 3 rfl) ?_
                refine jm_aload_n (x := P.1 + 14) rfl rfl (jM_at hl100 4 rfl) ?_
                refine jm_iload_n (x := o) rfl rfl (jM_at hl100 5 rfl) ?_
                refine az_X_call (m' := 99) (as := [.ref (P.1 + 42), .ref (P.1 + 14), .int o]) (rest := []) rfl rfl rfl rfl rfl ?_ ?_
                · unfold si_call
                  dsimp only
                  rw [if_pos ⟨rfl, rfl⟩]
                  show (match si_ix P h94 (P.1 + 42) with | some i => _ | none => none) = _
                  rw [jix hH94 (by decide)]
                  dsimp only
                  rw [(hH94.2 42 _ rfl).1]
                  rfl
                refine (hF (d + 9) h94 o _ _ (by omega) hH94 ho e1_h94 rfl rfl hb_h94 (by omega)).mono ?_
                rintro rv104 h104 ⟨rfl, hH104, hs104, f104⟩
                have o_h104 : az_same_out [(14, 2), (14, 3), (42, 6), (43, 1000000), (44, 1000000)] h h104 := ((hs28.sub (by decide)).tr ((hs37.sub (by decide)).tr ((hs46.sub (by decide)).tr ((hs72.sub (by decide)).tr ((hs94.sub (by decide)).tr (hs104.sub (by decide)))))))
                have e1_h104 : ja h104 14 1 = n := (jso o_h104 (by decide)).trans e1
                have hb_h104 : jBY h104 n hh := jBY_so o_h104 (by decide) hb
                show az_X P _ 98 107 ls100 [] _ _
                refine jn_iinc (x := T) rfl rfl (by decide) (jM_at hl100 2 rfl) hl100 rfl (by decide) (by omega) (by omega) (fun z107 (ez107 : z107.toInt = T.toInt + 1) ls107 (hl107 : jM [(4, .int z107), (3, .int z20), (5, .int z20), (0, .ref (P.1 + 42)), (1, .ref (P.1 + 14)), (2, .int o)] ls107) => ?_)
                refine az_X_step (pc' := 11) (ls' := ls107) (st' := []) (h' := h104) rfl rfl rfl ?_
                have q1 : ja h 14 3 = 0 ∧ pysg (hh (ja h 14 2)) ∧ ja h94 14 2 = ja h 14 2 + 1 ∧ ja h94 14 3 = 0 := by omega
                have fx := f104
                rw [q1.2.2.1, q1.2.2.2] at fx
                have fy := ex_step hf q1.1 q1.2.1 fx
                have v2 : ja h104 14 2 = ja h104 14 2 := by omega
                have v3 : ja h104 14 3 = ja h104 14 3 := by omega
                refine ih (j + 1) z107 z20 h104 ls107 (jM_pick hl107 [0, 1, 3, 4, 5] rfl) hH104 (hs.tr ((hs28.sub (by decide)).tr ((hs37.sub (by decide)).tr ((hs46.sub (by decide)).tr ((hs72.sub (by decide)).tr ((hs94.sub (by decide)).tr (hs104.sub (by decide)))))))) e1_h104 hb_h104 (by omega) (by omega) (by rw [v2, v3]; exact fy) (fun e e0 => ?_)
                rw [v3] at e0
                rw [v2]
                have := fx.2.1 rfl e0
                have := hm e q1.1
                omega
            · have g75 := jc1_ne_f hc75
              refine jm_aload_n (x := P.1 + 14) rfl rfl (jM_at hl23 4 rfl) ?_
              refine az_X_step (pc' := 81) (ls' := ls23) (st' := [.int 45, .ref (P.1 + 14)]) (h' := h72) rfl rfl rfl ?_
              refine az_X_call (m' := 123) (as := [.ref (P.1 + 14), .int 45]) (rest := []) rfl rfl rfl rfl rfl ?_ ?_
              · unfold si_call
                dsimp only
                rw [if_pos ⟨rfl, rfl⟩]
                show (match si_ix P h72 (P.1 + 14) with | some i => _ | none => none) = _
                rw [jix hH72 (by decide)]
                dsimp only
                rw [(hH72.2 14 _ rfl).1]
                rfl
              refine (tk2_ok hxa hH72 hn e1_h72 (show ja h72 14 2 = ja h 14 2 by omega) (show ja h72 14 3 = ja h 14 3 by omega) hb_h72 45 (by decide)).mono ?_
              rintro rv81 h81 ⟨z81, rfl, hH81, hs81, f81⟩
              have o_h81 : az_same_out [(14, 2), (14, 3), (42, 6), (43, 1000000), (44, 1000000)] h h81 := ((hs28.sub (by decide)).tr ((hs37.sub (by decide)).tr ((hs46.sub (by decide)).tr ((hs72.sub (by decide)).tr (hs81.sub (by decide))))))
              have e1_h81 : ja h81 14 1 = n := (jso o_h81 (by decide)).trans e1
              have hb_h81 : jBY h81 n hh := jBY_so o_h81 (by decide) hb
              have r3_h81 : ja h81 14 3 = ja h72 14 3 := jso hs81 (by decide)
              show az_X P _ 98 84 ls23 [.int z81] _ _
              refine jx_if (t := 113) rfl rfl rfl (fun hc84 => ?_) (fun hc84 => ?_)
              · have g84 := jc1_eq_t hc84
                refine jm_iload_n (x := V) rfl rfl (jM_at hl23 2 rfl) ?_
                refine jx_if (t := 124) rfl rfl rfl (fun hc114 => ?_) (fun hc114 => ?_)
                · have g114 := jc1_lt_t hc114
                  refine jn_retv rfl rfl rfl ?_
                  have v2 : ja h81 14 2 = ja h 14 2 := by omega
                  have v3 : ja h81 14 3 = ja h 14 3 := by omega
                  refine ⟨rfl, hH81, hs.tr ((hs28.sub (by decide)).tr ((hs37.sub (by decide)).tr ((hs46.sub (by decide)).tr ((hs72.sub (by decide)).tr (hs81.sub (by decide)))))), ?_⟩
                  rw [v2, v3]
                  refine ⟨hf, fun _ e => ?_⟩
                  intro q
                  have := hm (F0 e) e
                  have hx : (240 : Int) ≤ ja h 14 2 → hh (ja h 14 2) = -1 := fun q2 => hbn _ (by omega)
                  omega
                · have g114 := jc1_lt_f hc114
                  refine jm_aload_n (x := P.1 + 42) rfl rfl (jM_at hl23 3 rfl) ?_
                  refine jm_iload_n (x := V) rfl rfl (jM_at hl23 2 rfl) ?_
                  refine az_X_step (pc' := 120) (ls' := ls23) (st' := [.int 0, .int V, .ref (P.1 + 42)]) (h' := h81) rfl rfl rfl ?_
                  refine az_X_call (m' := 94) (as := [.ref (P.1 + 42), .int V, .int 0]) (rest := []) rfl rfl rfl rfl rfl ?_ ?_
                  · unfold si_call
                    dsimp only
                    rw [if_pos ⟨rfl, rfl⟩]
                    show (match si_ix P h81 (P.1 + 42) with | some i => _ | none => none) = _
                    rw [jix hH81 (by decide)]
                    dsimp only
                    rw [(hH81.2 42 _ rfl).1]
                    rfl
                  refine (as_b hxa hH81 V 0 (by omega)).mono ?_
                  rintro rv120 h120 ⟨z120, rfl, hH120, hs120, f120⟩
                  have o_h120 : az_same_out [(14, 2), (14, 3), (42, 6), (43, 1000000), (44, 1000000)] h h120 := ((hs28.sub (by decide)).tr ((hs37.sub (by decide)).tr ((hs46.sub (by decide)).tr ((hs72.sub (by decide)).tr ((hs81.sub (by decide)).tr (hs120.sub (by decide)))))))
                  have e1_h120 : ja h120 14 1 = n := (jso o_h120 (by decide)).trans e1
                  have hb_h120 : jBY h120 n hh := jBY_so o_h120 (by decide) hb
                  have r3_h120 : ja h120 14 3 = ja h81 14 3 := jso hs120 (by decide)
                  have r2_h120 : ja h120 14 2 = ja h81 14 2 := jso hs120 (by decide)
                  show az_X P _ 98 123 ls23 [.int z120] _ _
                  refine az_X_step (pc' := 124) (ls' := ls23) (st' := []) (h' := h120) rfl rfl rfl ?_
                  refine jn_retv rfl rfl rfl ?_
                  have v2 : ja h120 14 2 = ja h 14 2 := by omega
                  have v3 : ja h120 14 3 = ja h 14 3 := by omega
                  refine ⟨rfl, hH120, hs.tr ((hs28.sub (by decide)).tr ((hs37.sub (by decide)).tr ((hs46.sub (by decide)).tr ((hs72.sub (by decide)).tr ((hs81.sub (by decide)).tr (hs120.sub (by decide))))))), ?_⟩
                  rw [v2, v3]
                  refine ⟨hf, fun _ e => ?_⟩
                  intro q
                  have := hm (F0 e) e
                  have hx : (240 : Int) ≤ ja h 14 2 → hh (ja h 14 2) = -1 := fun q2 => hbn _ (by omega)
                  omega
              · have g84 := jc1_eq_f hc84
                refine jm_iload_n (x := V) rfl rfl (jM_at hl23 2 rfl) ?_
                refine jx_if (t := 98) rfl rfl rfl (fun hc88 => ?_) (fun hc88 => ?_)
                · have g88 := jc1_lt_t hc88
                  refine jm_iload (x := z20) rfl rfl (jM_at hl23 0 rfl) ?_
                  refine jm_istore_n (l' := [(3, .int z20), (5, .int z20), (4, .int T), (0, .ref (P.1 + 42)), (1, .ref (P.1 + 14)), (2, .int o)]) rfl rfl (by decide) hl23 rfl rfl (fun ls100 hl100 => ?_)
                  refine jm_aload_n (x := P.1 + 42) rfl rfl (jM_at hl100 3 rfl) ?_
                  refine jm_aload_n (x := P.1 + 14) rfl rfl (jM_at hl100 4 rfl) ?_
                  refine jm_iload_n (x := o) rfl rfl (jM_at hl100 5 rfl) ?_
                  refine az_X_call (m' := 99) (as := [.ref (P.1 + 42), .ref (P.1 + 14), .int o]) (rest := []) rfl rfl rfl rfl rfl ?_ ?_
                  · unfold si_call
                    dsimp only
                    rw [if_pos ⟨rfl, rfl⟩]
                    show (match si_ix P h81 (P.1 + 42) with | some i => _ | none => none) = _
                    rw [jix hH81 (by decide)]
                    dsimp only
                    rw [(hH81.2 42 _ rfl).1]
                    rfl
                  refine (hF (d + 9) h81 o _ _ (by omega) hH81 ho e1_h81 rfl rfl hb_h81 (by omega)).mono ?_
                  rintro rv104 h104 ⟨rfl, hH104, hs104, f104⟩
                  have o_h104 : az_same_out [(14, 2), (14, 3), (42, 6), (43, 1000000), (44, 1000000)] h h104 := ((hs28.sub (by decide)).tr ((hs37.sub (by decide)).tr ((hs46.sub (by decide)).tr ((hs72.sub (by decide)).tr ((hs81.sub (by decide)).tr (hs104.sub (by decide)))))))
                  have e1_h104 : ja h104 14 1 = n := (jso o_h104 (by decide)).trans e1
                  have hb_h104 : jBY h104 n hh := jBY_so o_h104 (by decide) hb
                  show az_X P _ 98 107 ls100 [] _ _
                  refine jn_iinc (x := T) rfl rfl (by decide) (jM_at hl100 2 rfl) hl100 rfl (by decide) (by omega) (by omega) (fun z107 (ez107 : z107.toInt = T.toInt + 1) ls107 (hl107 : jM [(4, .int z107), (3, .int z20), (5, .int z20), (0, .ref (P.1 + 42)), (1, .ref (P.1 + 14)), (2, .int o)] ls107) => ?_)
                  refine az_X_step (pc' := 11) (ls' := ls107) (st' := []) (h' := h104) rfl rfl rfl ?_
                  have q1 : ja h 14 3 = 0 ∧ pysg (hh (ja h 14 2)) ∧ ja h81 14 2 = ja h 14 2 + 1 ∧ ja h81 14 3 = 0 := by omega
                  have fx := f104
                  rw [q1.2.2.1, q1.2.2.2] at fx
                  have fy := ex_step hf q1.1 q1.2.1 fx
                  have v2 : ja h104 14 2 = ja h104 14 2 := by omega
                  have v3 : ja h104 14 3 = ja h104 14 3 := by omega
                  refine ih (j + 1) z107 z20 h104 ls107 (jM_pick hl107 [0, 1, 3, 4, 5] rfl) hH104 (hs.tr ((hs28.sub (by decide)).tr ((hs37.sub (by decide)).tr ((hs46.sub (by decide)).tr ((hs72.sub (by decide)).tr ((hs81.sub (by decide)).tr (hs104.sub (by decide)))))))) e1_h104 hb_h104 (by omega) (by omega) (by rw [v2, v3]; exact fy) (fun e e0 => ?_)
                  rw [v3] at e0
                  rw [v2]
                  have := fx.2.1 rfl e0
                  have := hm e q1.1
                  omega
                · have g88 := jc1_lt_f hc88
                  refine jm_aload_n (x := P.1 + 42) rfl rfl (jM_at hl23 3 rfl) ?_
                  refine jm_iload_n (x := V) rfl rfl (jM_at hl23 2 rfl) ?_
                  refine az_X_step (pc' := 94) (ls' := ls23) (st' := [.int 0, .int V, .ref (P.1 + 42)]) (h' := h81) rfl rfl rfl ?_
                  refine az_X_call (m' := 94) (as := [.ref (P.1 + 42), .int V, .int 0]) (rest := []) rfl rfl rfl rfl rfl ?_ ?_
                  · unfold si_call
                    dsimp only
                    rw [if_pos ⟨rfl, rfl⟩]
                    show (match si_ix P h81 (P.1 + 42) with | some i => _ | none => none) = _
                    rw [jix hH81 (by decide)]
                    dsimp only
                    rw [(hH81.2 42 _ rfl).1]
                    rfl
                  refine (as_b hxa hH81 V 0 (by omega)).mono ?_
                  rintro rv94 h94 ⟨z94, rfl, hH94, hs94, f94⟩
                  have o_h94 : az_same_out [(14, 2), (14, 3), (42, 6), (43, 1000000), (44, 1000000)] h h94 := ((hs28.sub (by decide)).tr ((hs37.sub (by decide)).tr ((hs46.sub (by decide)).tr ((hs72.sub (by decide)).tr ((hs81.sub (by decide)).tr (hs94.sub (by decide)))))))
                  have e1_h94 : ja h94 14 1 = n := (jso o_h94 (by decide)).trans e1
                  have hb_h94 : jBY h94 n hh := jBY_so o_h94 (by decide) hb
                  have r3_h94 : ja h94 14 3 = ja h81 14 3 := jso hs94 (by decide)
                  have r2_h94 : ja h94 14 2 = ja h81 14 2 := jso hs94 (by decide)
                  show az_X P _ 98 97 ls23 [.int z94] _ _
                  refine az_X_step (pc' := 98) (ls' := ls23) (st' := []) (h' := h94) rfl rfl rfl ?_
                  refine jm_iload (x := z20) rfl rfl (jM_at hl23 0 rfl) ?_
                  refine jm_istore_n (l' := [(3, .int z20), (5, .int z20), (4, .int T), (0, .ref (P.1 + 42)), (1, .ref (P.1 + 14)), (2, .int o)]) rfl rfl (by decide) hl23 rfl rfl (fun ls100 hl100 => ?_)
                  refine jm_aload_n (x := P.1 + 42) rfl rfl (jM_at hl100 3 rfl) ?_
                  refine jm_aload_n (x := P.1 + 14) rfl rfl (jM_at hl100 4 rfl) ?_
                  refine jm_iload_n (x := o) rfl rfl (jM_at hl100 5 rfl) ?_
                  refine az_X_call (m' := 99) (as := [.ref (P.1 + 42), .ref (P.1 + 14), .int o]) (rest := []) rfl rfl rfl rfl rfl ?_ ?_
                  · unfold si_call
                    dsimp only
                    rw [if_pos ⟨rfl, rfl⟩]
                    show (match si_ix P h94 (P.1 + 42) with | some i => _ | none => none) = _
                    rw [jix hH94 (by decide)]
                    dsimp only
                    rw [(hH94.2 42 _ rfl).1]
                    rfl
                  refine (hF (d + 9) h94 o _ _ (by omega) hH94 ho e1_h94 rfl rfl hb_h94 (by omega)).mono ?_
                  rintro rv104 h104 ⟨rfl, hH104, hs104, f104⟩
                  have o_h104 : az_same_out [(14, 2), (14, 3), (42, 6), (43, 1000000), (44, 1000000)] h h104 := ((hs28.sub (by decide)).tr ((hs37.sub (by decide)).tr ((hs46.sub (by decide)).tr ((hs72.sub (by decide)).tr ((hs81.sub (by decide)).tr ((hs94.sub (by decide)).tr (hs104.sub (by decide))))))))
                  have e1_h104 : ja h104 14 1 = n := (jso o_h104 (by decide)).trans e1
                  have hb_h104 : jBY h104 n hh := jBY_so o_h104 (by decide) hb
                  show az_X P _ 98 107 ls100 [] _ _
                  refine jn_iinc (x := T) rfl rfl (by decide) (jM_at hl100 2 rfl) hl100 rfl (by decide) (by omega) (by omega) (fun z107 (ez107 : z107.toInt = T.toInt + 1) ls107 (hl107 : jM [(4, .int z107), (3, .int z20), (5, .int z20), (0, .ref (P.1 + 42)), (1, .ref (P.1 + 14)), (2, .int o)] ls107) => ?_)
                  refine az_X_step (pc' := 11) (ls' := ls107) (st' := []) (h' := h104) rfl rfl rfl ?_
                  have q1 : ja h 14 3 = 0 ∧ pysg (hh (ja h 14 2)) ∧ ja h94 14 2 = ja h 14 2 + 1 ∧ ja h94 14 3 = 0 := by omega
                  have fx := f104
                  rw [q1.2.2.1, q1.2.2.2] at fx
                  have fy := ex_step hf q1.1 q1.2.1 fx
                  have v2 : ja h104 14 2 = ja h104 14 2 := by omega
                  have v3 : ja h104 14 3 = ja h104 14 3 := by omega
                  refine ih (j + 1) z107 z20 h104 ls107 (jM_pick hl107 [0, 1, 3, 4, 5] rfl) hH104 (hs.tr ((hs28.sub (by decide)).tr ((hs37.sub (by decide)).tr ((hs46.sub (by decide)).tr ((hs72.sub (by decide)).tr ((hs81.sub (by decide)).tr ((hs94.sub (by decide)).tr (hs104.sub (by decide))))))))) e1_h104 hb_h104 (by omega) (by omega) (by rw [v2, v3]; exact fy) (fun e e0 => ?_)
                  rw [v3] at e0
                  rw [v2]
                  have := fx.2.1 rfl e0
                  have := hm e q1.1
                  omega
          · have g49 := jc1_eq_f hc49
            refine jm_aload_n (x := P.1 + 42) rfl rfl (jM_at hl23 3 rfl) ?_
            refine jm_aload_n (x := P.1 + 14) rfl rfl (jM_at hl23 4 rfl) ?_
            refine jm_iload_n (x := o) rfl rfl (jM_at hl23 5 rfl) ?_
            refine az_X_call (m' := 99) (as := [.ref (P.1 + 42), .ref (P.1 + 14), .int o]) (rest := []) rfl rfl rfl rfl rfl ?_ ?_
            · unfold si_call
              dsimp only
              rw [if_pos ⟨rfl, rfl⟩]
              show (match si_ix P h46 (P.1 + 42) with | some i => _ | none => none) = _
              rw [jix hH46 (by decide)]
              dsimp only
              rw [(hH46.2 42 _ rfl).1]
              rfl
            refine (hF (d + 9) h46 o _ _ (by omega) hH46 ho e1_h46 rfl rfl hb_h46 (by omega)).mono ?_
            rintro rv55 h55 ⟨rfl, hH55, hs55, f55⟩
            have o_h55 : az_same_out [(14, 2), (14, 3), (42, 6), (43, 1000000), (44, 1000000)] h h55 := ((hs28.sub (by decide)).tr ((hs37.sub (by decide)).tr ((hs46.sub (by decide)).tr (hs55.sub (by decide)))))
            have e1_h55 : ja h55 14 1 = n := (jso o_h55 (by decide)).trans e1
            have hb_h55 : jBY h55 n hh := jBY_so o_h55 (by decide) hb
            show az_X P _ 98 58 ls23 [] _ _
            refine jm_aload_n (x := P.1 + 42) rfl rfl (jM_at hl23 3 rfl) ?_
            refine jm_iload (x := z20) rfl rfl (jM_at hl23 0 rfl) ?_
            refine az_X_step (pc' := 62) (ls' := ls23) (st' := [.int 0, .int z20, .ref (P.1 + 42)]) (h' := h55) rfl rfl rfl ?_
            refine az_X_call (m' := 94) (as := [.ref (P.1 + 42), .int z20, .int 0]) (rest := []) rfl rfl rfl rfl rfl ?_ ?_
            · unfold si_call
              dsimp only
              rw [if_pos ⟨rfl, rfl⟩]
              show (match si_ix P h55 (P.1 + 42) with | some i => _ | none => none) = _
              rw [jix hH55 (by decide)]
              dsimp only
              rw [(hH55.2 42 _ rfl).1]
              rfl
            refine (as_b hxa hH55 z20 0 (by omega)).mono ?_
            rintro rv62 h62 ⟨z62, rfl, hH62, hs62, f62⟩
            have o_h62 : az_same_out [(14, 2), (14, 3), (42, 6), (43, 1000000), (44, 1000000)] h h62 := ((hs28.sub (by decide)).tr ((hs37.sub (by decide)).tr ((hs46.sub (by decide)).tr ((hs55.sub (by decide)).tr (hs62.sub (by decide))))))
            have e1_h62 : ja h62 14 1 = n := (jso o_h62 (by decide)).trans e1
            have hb_h62 : jBY h62 n hh := jBY_so o_h62 (by decide) hb
            have r3_h62 : ja h62 14 3 = ja h55 14 3 := jso hs62 (by decide)
            have r2_h62 : ja h62 14 2 = ja h55 14 2 := jso hs62 (by decide)
            show az_X P _ 98 65 ls23 [.int z62] _ _
            refine az_X_step (pc' := 66) (ls' := ls23) (st' := []) (h' := h62) rfl rfl rfl ?_
            refine az_X_step (pc' := 107) (ls' := ls23) (st' := []) (h' := h62) rfl rfl rfl ?_
            refine jn_iinc (x := T) rfl rfl (by decide) (jM_at hl23 1 rfl) hl23 rfl (by decide) (by omega) (by omega) (fun z107 (ez107 : z107.toInt = T.toInt + 1) ls107 (hl107 : jM [(4, .int z107), (5, .int z20), (3, .int V), (0, .ref (P.1 + 42)), (1, .ref (P.1 + 14)), (2, .int o)] ls107) => ?_)
            refine az_X_step (pc' := 11) (ls' := ls107) (st' := []) (h' := h62) rfl rfl rfl ?_
            have q1 : ja h 14 3 = 0 ∧ pysg (hh (ja h 14 2)) ∧ ja h46 14 2 = ja h 14 2 + 1 ∧ ja h46 14 3 = 0 := by omega
            have fx := f55
            rw [q1.2.2.1, q1.2.2.2] at fx
            have fy := ex_step hf q1.1 q1.2.1 fx
            have v2 : ja h62 14 2 = ja h55 14 2 := by omega
            have v3 : ja h62 14 3 = ja h55 14 3 := by omega
            refine ih (j + 1) z107 V h62 ls107 (jM_pick hl107 [0, 2, 3, 4, 5] rfl) hH62 (hs.tr ((hs28.sub (by decide)).tr ((hs37.sub (by decide)).tr ((hs46.sub (by decide)).tr ((hs55.sub (by decide)).tr (hs62.sub (by decide))))))) e1_h62 hb_h62 (by omega) (by omega) (by rw [v2, v3]; exact fy) (fun e e0 => ?_)
            rw [v3] at e0
            rw [v2]
            have := fx.2.1 rfl e0
            have := hm e q1.1
            omega
theorem ex_b {P : si_P} (hxa : P.2.1 < P.1) {hh : Int → Int} {n : Int} (hn : 1 ≤ n ∧ n ≤ 240) (hh1 : ∀ i : Int, hh i ≤ 255) (k : Nat) (hF : pyM P hh n 42 99 9 k (pyF hh n)) : pyM P hh n 42 98 10 k (pyX hh n) := by
  intro D h o p F hD hH ho e1 e2 e3 hb hpn
  obtain ⟨d, rfl⟩ : ∃ d, D = d + 10 := ⟨D - 10, by omega⟩
  have bp : 0 ≤ ja h 14 2 ∧ ja h 14 2 ≤ 241 := ja_bd hH (i := 14) (k := 2) rfl
  have bF : -7000 ≤ ja h 14 3 ∧ ja h 14 3 ≤ 0 := ja_bd hH (i := 14) (k := 3) rfl
  have hbn := hb.2
  have hl : jM [(0, .ref (P.1 + 42)), (1, .ref (P.1 + 14)), (2, .int o)] (lv_args 0 [.ref (P.1 + 42), .ref (P.1 + 14), .int o]) := jM_args [0, 1, 2] rfl (by decide)
  generalize lv_args 0 [.ref (P.1 + 42), .ref (P.1 + 14), .int o] = ls at hl
  have km1 : ((-1) : Int32).toInt = (-1) := by decide
  have k0 : (0 : Int32).toInt = 0 := by decide
  refine az_X_step (pc' := 1) (ls' := ls) (st' := [.int (-1)]) (h' := h) rfl rfl rfl ?_
  refine jm_istore_n (l' := [(3, .int (-1)), (0, .ref (P.1 + 42)), (1, .ref (P.1 + 14)), (2, .int o)]) rfl rfl (by decide) hl rfl rfl (fun ls1 hl1 => ?_)
  refine jm_aload_n (x := P.1 + 42) rfl rfl (jM_at hl1 1 rfl) ?_
  refine jm_aload_n (x := P.1 + 14) rfl rfl (jM_at hl1 2 rfl) ?_
  refine jm_iload_n (x := o) rfl rfl (jM_at hl1 3 rfl) ?_
  refine az_X_call (m' := 99) (as := [.ref (P.1 + 42), .ref (P.1 + 14), .int o]) (rest := []) rfl rfl rfl rfl rfl ?_ ?_
  · unfold si_call
    dsimp only
    rw [if_pos ⟨rfl, rfl⟩]
    show (match si_ix P h (P.1 + 42) with | some i => _ | none => none) = _
    rw [jix hH (by decide)]
    dsimp only
    rw [(hH.2 42 _ rfl).1]
    rfl
  refine (hF (d + 9) h o p F (by omega) hH ho e1 e2 e3 hb hpn).mono ?_
  rintro rv5 h5 ⟨rfl, hH5, hs5, f5⟩
  have o_h5 : az_same_out [(14, 2), (14, 3), (42, 6), (43, 1000000), (44, 1000000)] h h5 := (hs5.sub (by decide))
  have e1_h5 : ja h5 14 1 = n := (jso o_h5 (by decide)).trans e1
  have hb_h5 : jBY h5 n hh := jBY_so o_h5 (by decide) hb
  show az_X P _ 98 8 ls1 [] _ _
  refine az_X_step (pc' := 9) (ls' := ls1) (st' := [.int 0]) (h' := h5) rfl rfl rfl ?_
  refine jm_istore (l' := [(4, .int 0), (3, .int (-1)), (0, .ref (P.1 + 42)), (1, .ref (P.1 + 14)), (2, .int o)]) rfl rfl (by decide) hl1 rfl rfl (fun ls9 hl9 => ?_)
  refine ex_lb (d := d) hxa hn hh1 hF (h0 := h) o ho (by omega) 240 0 0 (-1) h5 ls9 (jM_pick hl9 [0, 1, 2, 3, 4] rfl) hH5 o_h5 e1_h5 hb_h5 (by decide) (by omega) f5 (fun e e0 => ?_)
  have b5 : 0 ≤ ja h5 14 2 ∧ ja h5 14 2 ≤ 241 := ja_bd hH5 (i := 14) (k := 2) rfl
  omega
theorem fx_b {P : si_P} (hxa : P.2.1 < P.1) {hh : Int → Int} {n : Int} (hn : 1 ≤ n ∧ n ≤ 240) (hh1 : ∀ i : Int, hh i ≤ 255) : ∀ k : Nat, pyM P hh n 42 99 9 k (pyF hh n) ∧ pyM P hh n 42 98 10 k (pyX hh n)
  | 0 => by
    have a := fa_b hxa hn hh1 0 (fun k1 e => absurd e (by omega))
    exact ⟨a, ex_b hxa hn hh1 0 a⟩
  | k + 1 => by
    have i := fx_b hxa hn hh1 k
    have a := fa_b hxa hn hh1 (k + 1) (fun k1 e => by
      have : k1 = k := by omega
      rw [this]
      exact i.2)
    exact ⟨a, ex_b hxa hn hh1 (k + 1) a⟩
theorem te_b {P : si_P} (hxa : P.2.1 < P.1) {hh : Int → Int} {n : Int} (hn : 1 ≤ n ∧ n ≤ 240) (hh1 : ∀ i : Int, hh i ≤ 255) (k : Nat) (hX : pyM P hh n 42 98 10 k (pyX hh n)) (hT : ∀ k1 : Nat, k = k1 + 1 → pyM P hh n 42 97 11 k1 (pyT hh n)) (hC : ∀ k1 : Nat, k = k1 + 1 → pyM P hh n 42 96 12 k1 (pyC hh n)) : pyM P hh n 42 97 11 k (pyT hh n) := by
  intro D h o p F hD hH ho e1 e2 e3 hb hpn
  obtain ⟨d, rfl⟩ : ∃ d, D = d + 11 := ⟨D - 11, by omega⟩
  have bp : 0 ≤ ja h 14 2 ∧ ja h 14 2 ≤ 241 := ja_bd hH (i := 14) (k := 2) rfl
  have bF : -7000 ≤ ja h 14 3 ∧ ja h 14 3 ≤ 0 := ja_bd hH (i := 14) (k := 3) rfl
  have hbn := hb.2
  have hl : jM [(0, .ref (P.1 + 42)), (1, .ref (P.1 + 14)), (2, .int o)] (lv_args 0 [.ref (P.1 + 42), .ref (P.1 + 14), .int o]) := jM_args [0, 1, 2] rfl (by decide)
  generalize lv_args 0 [.ref (P.1 + 42), .ref (P.1 + 14), .int o] = ls at hl
  have k0 : (0 : Int32).toInt = 0 := by decide
  have k1 : (1 : Int32).toInt = 1 := by decide
  have k5 : (5 : Int32).toInt = 5 := by decide
  have k6 : (6 : Int32).toInt = 6 := by decide
  have k33 : (33 : Int32).toInt = 33 := by decide
  have k40 : (40 : Int32).toInt = 40 := by decide
  have k41 : (41 : Int32).toInt = 41 := by decide
  have k60 : (60 : Int32).toInt = 60 := by decide
  have k61 : (61 : Int32).toInt = 61 := by decide
  have k62 : (62 : Int32).toInt = 62 := by decide
  refine jm_aload_n (x := P.1 + 14) rfl rfl (jM_at hl 1 rfl) ?_
  refine az_X_call (m' := 121) (as := [.ref (P.1 + 14)]) (rest := []) rfl rfl rfl rfl rfl ?_ ?_
  · unfold si_call
    dsimp only
    rw [if_pos ⟨rfl, rfl⟩]
    show (match si_ix P h (P.1 + 14) with | some i => _ | none => none) = _
    rw [jix hH (by decide)]
    dsimp only
    rw [(hH.2 14 _ rfl).1]
    rfl
  refine (nx_ok hxa hH hn e1 e2 e3 hb).mono ?_
  rintro rv1 h1 ⟨q1, z1, rfl, ez1⟩
  subst h1
  have hz1 : (F = 0 ∧ z1.toInt = hh p) ∨ (F ≠ 0 ∧ z1.toInt = -1) := by
    by_cases q : F = 0
    · rw [if_pos q] at ez1
      exact Or.inl ⟨q, ez1⟩
    · rw [if_neg q] at ez1
      exact Or.inr ⟨q, ez1⟩
  show az_X P _ 97 4 ls [.int z1] _ _
  refine jm_istore_n (l' := [(3, .int z1), (0, .ref (P.1 + 42)), (1, .ref (P.1 + 14)), (2, .int o)]) rfl rfl (by decide) hl rfl rfl (fun ls4 hl4 => ?_)
  refine jm_iload_n (x := z1) rfl rfl (jM_at hl4 0 rfl) ?_
  refine az_X_step (pc' := 8) (ls' := ls4) (st' := [.int 33, .int z1]) (h' := h) rfl rfl rfl ?_
  refine jx_ic (t := 17) rfl rfl rfl (fun hc8 => ?_) (fun hc8 => ?_)
  · have g8 := jc2_eq_t hc8
    refine jm_iload_n (x := o) rfl rfl (jM_at hl4 3 rfl) ?_
    refine az_X_step (pc' := 20) (ls' := ls4) (st' := [.int 6, .int o]) (h' := h) rfl rfl rfl ?_
    refine jx_ic (t := 35) rfl rfl rfl (fun hc20 => ?_) (fun hc20 => ?_)
    · have g20 := jc2_lt_t hc20
      refine jm_aload_n (x := P.1 + 14) rfl rfl (jM_at hl4 2 rfl) ?_
      refine az_X_step (pc' := 38) (ls' := ls4) (st' := [.int 33, .ref (P.1 + 14)]) (h' := h) rfl rfl rfl ?_
      refine az_X_call (m' := 123) (as := [.ref (P.1 + 14), .int 33]) (rest := []) rfl rfl rfl rfl rfl ?_ ?_
      · unfold si_call
        dsimp only
        rw [if_pos ⟨rfl, rfl⟩]
        show (match si_ix P h (P.1 + 14) with | some i => _ | none => none) = _
        rw [jix hH (by decide)]
        dsimp only
        rw [(hH.2 14 _ rfl).1]
        rfl
      refine (tk2_ok hxa hH hn e1 e2 e3 hb 33 (by decide)).mono ?_
      rintro rv38 h38 ⟨z38, rfl, hH38, hs38, f38⟩
      have o_h38 : az_same_out [(14, 2), (14, 3), (42, 6), (43, 1000000), (44, 1000000)] h h38 := (hs38.sub (by decide))
      have e1_h38 : ja h38 14 1 = n := (jso o_h38 (by decide)).trans e1
      have hb_h38 : jBY h38 n hh := jBY_so o_h38 (by decide) hb
      have r3_h38 : ja h38 14 3 = ja h 14 3 := jso hs38 (by decide)
      show az_X P _ 97 41 ls4 [.int z38] _ _
      refine jx_if (t := 63) rfl rfl rfl (fun hc41 => ?_) (fun hc41 => ?_)
      · have g41 := jc1_eq_t hc41
        exfalso
        omega
      · have g41 := jc1_eq_f hc41
        obtain ⟨k1, rfl⟩ : ∃ k1, k = k1 + 1 := ⟨k - 1, by omega⟩
        have hlt := jBY_lt hb (p := p) (by omega)
        refine jm_aload_n (x := P.1 + 42) rfl rfl (jM_at hl4 1 rfl) ?_
        refine jm_aload_n (x := P.1 + 14) rfl rfl (jM_at hl4 2 rfl) ?_
        refine jm_iload_n (x := o) rfl rfl (jM_at hl4 3 rfl) ?_
        refine az_X_step (pc' := 48) (ls' := ls4) (st' := [.int 1, .int o, .ref (P.1 + 14), .ref (P.1 + 42)]) (h' := h38) rfl rfl rfl ?_
        refine jn_add (a := o) (b := 1) rfl rfl (by omega) (by omega) (fun z48 ez48 => ?_)
        rw [show (1 : Int32).toInt = 1 by decide] at ez48
        refine az_X_call (m' := 97) (as := [.ref (P.1 + 42), .ref (P.1 + 14), .int z48]) (rest := []) rfl rfl rfl rfl rfl ?_ ?_
        · unfold si_call
          dsimp only
          rw [if_pos ⟨rfl, rfl⟩]
          show (match si_ix P h38 (P.1 + 42) with | some i => _ | none => none) = _
          rw [jix hH38 (by decide)]
          dsimp only
          rw [(hH38.2 42 _ rfl).1]
          rfl
        refine (hT k1 rfl (d + 10) h38 z48 _ _ (by omega) hH38 (by omega) e1_h38 rfl rfl hb_h38 (by omega)).mono ?_
        rintro rv49 h49 ⟨rfl, hH49, hs49, f49⟩
        have o_h49 : az_same_out [(14, 2), (14, 3), (42, 6), (43, 1000000), (44, 1000000)] h h49 := ((hs38.sub (by decide)).tr (hs49.sub (by decide)))
        have e1_h49 : ja h49 14 1 = n := (jso o_h49 (by decide)).trans e1
        have hb_h49 : jBY h49 n hh := jBY_so o_h49 (by decide) hb
        show az_X P _ 97 52 ls4 [] _ _
        refine jm_aload_n (x := P.1 + 42) rfl rfl (jM_at hl4 1 rfl) ?_
        refine az_X_step (pc' := 55) (ls' := ls4) (st' := [.int 33, .ref (P.1 + 42)]) (h' := h49) rfl rfl rfl ?_
        refine az_X_step (pc' := 56) (ls' := ls4) (st' := [.int 0, .int 33, .ref (P.1 + 42)]) (h' := h49) rfl rfl rfl ?_
        refine az_X_call (m' := 94) (as := [.ref (P.1 + 42), .int 33, .int 0]) (rest := []) rfl rfl rfl rfl rfl ?_ ?_
        · unfold si_call
          dsimp only
          rw [if_pos ⟨rfl, rfl⟩]
          show (match si_ix P h49 (P.1 + 42) with | some i => _ | none => none) = _
          rw [jix hH49 (by decide)]
          dsimp only
          rw [(hH49.2 42 _ rfl).1]
          rfl
        refine (as_b hxa hH49 33 0 (by omega)).mono ?_
        rintro rv56 h56 ⟨z56, rfl, hH56, hs56, f56⟩
        have o_h56 : az_same_out [(14, 2), (14, 3), (42, 6), (43, 1000000), (44, 1000000)] h h56 := ((hs38.sub (by decide)).tr ((hs49.sub (by decide)).tr (hs56.sub (by decide))))
        have e1_h56 : ja h56 14 1 = n := (jso o_h56 (by decide)).trans e1
        have hb_h56 : jBY h56 n hh := jBY_so o_h56 (by decide) hb
        have r3_h56 : ja h56 14 3 = ja h49 14 3 := jso hs56 (by decide)
        have r2_h56 : ja h56 14 2 = ja h49 14 2 := jso hs56 (by decide)
        show az_X P _ 97 59 ls4 [.int z56] _ _
        refine az_X_step (pc' := 60) (ls' := ls4) (st' := []) (h' := h56) rfl rfl rfl ?_
        refine az_X_step (pc' := 139) (ls' := ls4) (st' := []) (h' := h56) rfl rfl rfl ?_
        refine jn_retv rfl rfl rfl ?_
        refine ⟨rfl, hH56, ((hs38.sub (by decide)).tr ((hs49.sub (by decide)).tr (hs56.sub (by decide)))), ?_⟩
        have hF0 : F = 0 := by omega
        subst hF0
        rw [show ja h38 14 2 = p + 1 by omega, show ja h38 14 3 = 0 by omega, show z48.toInt = o.toInt + 1 by omega] at f49
        rw [r2_h56, r3_h56]
        exact te_not (by omega) (by omega) f49
    · have g20 := jc2_lt_f hc20
      refine jm_aload_n (x := P.1 + 14) rfl rfl (jM_at hl4 2 rfl) ?_
      refine az_X_step (pc' := 25) (ls' := ls4) (st' := [.int 5, .ref (P.1 + 14)]) (h' := h) rfl rfl rfl ?_
      refine jm_aload_n (x := P.1 + 14) rfl rfl (jM_at hl4 2 rfl) ?_
      refine az_X_call (m' := 120) (as := [.ref (P.1 + 14)]) (rest := [.int 5, .ref (P.1 + 14)]) rfl rfl rfl rfl rfl ?_ ?_
      · unfold si_call
        dsimp only
        rw [if_pos ⟨rfl, rfl⟩]
        show (match si_ix P h (P.1 + 14) with | some i => _ | none => none) = _
        rw [jix hH (by decide)]
        dsimp only
        rw [(hH.2 14 _ rfl).1]
        rfl
      refine (pl_ok hH).mono ?_
      rintro rv26 h26 ⟨q26, z26, rfl, ez26⟩
      subst h26
      show az_X P _ 97 29 ls4 [.int z26, .int 5, .ref (P.1 + 14)] _ _
      refine az_X_call (m' := 125) (as := [.ref (P.1 + 14), .int 5, .int z26]) (rest := []) rfl rfl rfl rfl rfl ?_ ?_
      · unfold si_call
        dsimp only
        rw [if_pos ⟨rfl, rfl⟩]
        show (match si_ix P h (P.1 + 14) with | some i => _ | none => none) = _
        rw [jix hH (by decide)]
        dsimp only
        rw [(hH.2 14 _ rfl).1]
        rfl
      refine (fl_ok hH 5 z26 (by decide) (by omega)).mono ?_
      rintro rv29 h29 ⟨rfl, hH29, hs29, f29⟩
      have o_h29 : az_same_out [(14, 2), (14, 3), (42, 6), (43, 1000000), (44, 1000000)] h h29 := (hs29.sub (by decide))
      have e1_h29 : ja h29 14 1 = n := (jso o_h29 (by decide)).trans e1
      have hb_h29 : jBY h29 n hh := jBY_so o_h29 (by decide) hb
      have r2_h29 : ja h29 14 2 = ja h 14 2 := jso hs29 (by decide)
      show az_X P _ 97 32 ls4 [] _ _
      refine az_X_step (pc' := 139) (ls' := ls4) (st' := []) (h' := h29) rfl rfl rfl ?_
      refine jn_retv rfl rfl rfl ?_
      have f29a := f29.1
      refine ⟨rfl, hH29, (hs29.sub (by decide)), ?_⟩
      have hF0 : F = 0 := by omega
      subst hF0
      exact te_deep (by omega) (by omega) (by omega) (by have := f29a (by omega); omega)
  · have g8 := jc2_eq_f hc8
    refine jm_iload_n (x := z1) rfl rfl (jM_at hl4 0 rfl) ?_
    refine az_X_step (pc' := 14) (ls' := ls4) (st' := [.int 40, .int z1]) (h' := h) rfl rfl rfl ?_
    refine jx_ic (t := 35) rfl rfl rfl (fun hc14 => ?_) (fun hc14 => ?_)
    · have g14 := jc2_ne_t hc14
      refine jm_aload_n (x := P.1 + 14) rfl rfl (jM_at hl4 2 rfl) ?_
      refine az_X_step (pc' := 38) (ls' := ls4) (st' := [.int 33, .ref (P.1 + 14)]) (h' := h) rfl rfl rfl ?_
      refine az_X_call (m' := 123) (as := [.ref (P.1 + 14), .int 33]) (rest := []) rfl rfl rfl rfl rfl ?_ ?_
      · unfold si_call
        dsimp only
        rw [if_pos ⟨rfl, rfl⟩]
        show (match si_ix P h (P.1 + 14) with | some i => _ | none => none) = _
        rw [jix hH (by decide)]
        dsimp only
        rw [(hH.2 14 _ rfl).1]
        rfl
      refine (tk2_ok hxa hH hn e1 e2 e3 hb 33 (by decide)).mono ?_
      rintro rv38 h38 ⟨z38, rfl, hH38, hs38, f38⟩
      have o_h38 : az_same_out [(14, 2), (14, 3), (42, 6), (43, 1000000), (44, 1000000)] h h38 := (hs38.sub (by decide))
      have e1_h38 : ja h38 14 1 = n := (jso o_h38 (by decide)).trans e1
      have hb_h38 : jBY h38 n hh := jBY_so o_h38 (by decide) hb
      have r3_h38 : ja h38 14 3 = ja h 14 3 := jso hs38 (by decide)
      show az_X P _ 97 41 ls4 [.int z38] _ _
      refine jx_if (t := 63) rfl rfl rfl (fun hc41 => ?_) (fun hc41 => ?_)
      · have g41 := jc1_eq_t hc41
        refine jm_aload_n (x := P.1 + 14) rfl rfl (jM_at hl4 2 rfl) ?_
        refine az_X_step (pc' := 66) (ls' := ls4) (st' := [.int 40, .ref (P.1 + 14)]) (h' := h38) rfl rfl rfl ?_
        refine az_X_call (m' := 123) (as := [.ref (P.1 + 14), .int 40]) (rest := []) rfl rfl rfl rfl rfl ?_ ?_
        · unfold si_call
          dsimp only
          rw [if_pos ⟨rfl, rfl⟩]
          show (match si_ix P h38 (P.1 + 14) with | some i => _ | none => none) = _
          rw [jix hH38 (by decide)]
          dsimp only
          rw [(hH38.2 14 _ rfl).1]
          rfl
        refine (tk2_ok hxa hH38 hn e1_h38 (show ja h38 14 2 = p by omega) (show ja h38 14 3 = F by omega) hb_h38 40 (by decide)).mono ?_
        rintro rv66 h66 ⟨z66, rfl, hH66, hs66, f66⟩
        have o_h66 : az_same_out [(14, 2), (14, 3), (42, 6), (43, 1000000), (44, 1000000)] h h66 := ((hs38.sub (by decide)).tr (hs66.sub (by decide)))
        have e1_h66 : ja h66 14 1 = n := (jso o_h66 (by decide)).trans e1
        have hb_h66 : jBY h66 n hh := jBY_so o_h66 (by decide) hb
        have r3_h66 : ja h66 14 3 = ja h38 14 3 := jso hs66 (by decide)
        show az_X P _ 97 69 ls4 [.int z66] _ _
        refine jx_if (t := 89) rfl rfl rfl (fun hc69 => ?_) (fun hc69 => ?_)
        · have g69 := jc1_eq_t hc69
          refine jm_aload_n (x := P.1 + 42) rfl rfl (jM_at hl4 1 rfl) ?_
          refine jm_aload_n (x := P.1 + 14) rfl rfl (jM_at hl4 2 rfl) ?_
          refine jm_iload_n (x := o) rfl rfl (jM_at hl4 3 rfl) ?_
          refine az_X_call (m' := 98) (as := [.ref (P.1 + 42), .ref (P.1 + 14), .int o]) (rest := []) rfl rfl rfl rfl rfl ?_ ?_
          · unfold si_call
            dsimp only
            rw [if_pos ⟨rfl, rfl⟩]
            show (match si_ix P h66 (P.1 + 42) with | some i => _ | none => none) = _
            rw [jix hH66 (by decide)]
            dsimp only
            rw [(hH66.2 42 _ rfl).1]
            rfl
          refine (hX (d + 10) h66 o _ _ (by omega) hH66 ho e1_h66 rfl rfl hb_h66 (by omega)).mono ?_
          rintro rv92 h92 ⟨rfl, hH92, hs92, f92⟩
          have o_h92 : az_same_out [(14, 2), (14, 3), (42, 6), (43, 1000000), (44, 1000000)] h h92 := ((hs38.sub (by decide)).tr ((hs66.sub (by decide)).tr (hs92.sub (by decide))))
          have e1_h92 : ja h92 14 1 = n := (jso o_h92 (by decide)).trans e1
          have hb_h92 : jBY h92 n hh := jBY_so o_h92 (by decide) hb
          have b92 : 0 ≤ ja h92 14 2 ∧ ja h92 14 2 ≤ 241 := ja_bd hH92 (i := 14) (k := 2) rfl
          have q92 : F = 0 → ja h92 14 3 = 0 → ja h92 14 2 ≤ n := fun a b => by
            have f := f92
            rw [show ja h66 14 2 = p by omega, show ja h66 14 3 = F by omega] at f
            exact (f.1.2.1 a b).2
          have s92 : F ≠ 0 → ja h92 14 3 = F := fun a => by
            have f := f92
            rw [show ja h66 14 2 = p by omega, show ja h66 14 3 = F by omega] at f
            exact f.1.1 a
          show az_X P _ 97 95 ls4 [] _ _
          refine jm_aload_n (x := P.1 + 14) rfl rfl (jM_at hl4 2 rfl) ?_
          refine az_X_call (m' := 121) (as := [.ref (P.1 + 14)]) (rest := []) rfl rfl rfl rfl rfl ?_ ?_
          · unfold si_call
            dsimp only
            rw [if_pos ⟨rfl, rfl⟩]
            show (match si_ix P h92 (P.1 + 14) with | some i => _ | none => none) = _
            rw [jix hH92 (by decide)]
            dsimp only
            rw [(hH92.2 14 _ rfl).1]
            rfl
          refine (nx_ok hxa hH92 hn e1_h92 rfl rfl hb_h92).mono ?_
          rintro rv96 h96 ⟨q96, z96, rfl, ez96⟩
          subst h96
          show az_X P _ 97 99 ls4 [.int z96] _ _
          refine jm_istore (l' := [(4, .int z96), (3, .int z1), (0, .ref (P.1 + 42)), (1, .ref (P.1 + 14)), (2, .int o)]) rfl rfl (by decide) hl4 rfl rfl (fun ls99 hl99 => ?_)
          refine jm_aload_n (x := P.1 + 14) rfl rfl (jM_at hl99 3 rfl) ?_
          refine az_X_step (pc' := 104) (ls' := ls99) (st' := [.int 60, .ref (P.1 + 14)]) (h' := h92) rfl rfl rfl ?_
          refine az_X_call (m' := 123) (as := [.ref (P.1 + 14), .int 60]) (rest := []) rfl rfl rfl rfl rfl ?_ ?_
          · unfold si_call
            dsimp only
            rw [if_pos ⟨rfl, rfl⟩]
            show (match si_ix P h92 (P.1 + 14) with | some i => _ | none => none) = _
            rw [jix hH92 (by decide)]
            dsimp only
            rw [(hH92.2 14 _ rfl).1]
            rfl
          refine (tk2_ok hxa hH92 hn e1_h92 rfl rfl hb_h92 60 (by decide)).mono ?_
          rintro rv104 h104 ⟨z104, rfl, hH104, hs104, f104⟩
          have o_h104 : az_same_out [(14, 2), (14, 3), (42, 6), (43, 1000000), (44, 1000000)] h h104 := ((hs38.sub (by decide)).tr ((hs66.sub (by decide)).tr ((hs92.sub (by decide)).tr (hs104.sub (by decide)))))
          have e1_h104 : ja h104 14 1 = n := (jso o_h104 (by decide)).trans e1
          have hb_h104 : jBY h104 n hh := jBY_so o_h104 (by decide) hb
          have r3_h104 : ja h104 14 3 = ja h92 14 3 := jso hs104 (by decide)
          show az_X P _ 97 107 ls99 [.int z104] _ _
          refine jx_if (t := 125) rfl rfl rfl (fun hc107 => ?_) (fun hc107 => ?_)
          · have g107 := jc1_ne_t hc107
            have hlt := fun e => jBY_lt hb_h92 (p := ja h92 14 2) e
            have hlt2 : ja h92 14 2 < n ∨ hh (ja h92 14 2) = -1 := by
              by_cases q : hh (ja h92 14 2) = -1
              · exact Or.inr q
              · exact Or.inl (hlt q)
            refine jm_aload_n (x := P.1 + 42) rfl rfl (jM_at hl99 2 rfl) ?_
            refine jm_aload_n (x := P.1 + 14) rfl rfl (jM_at hl99 3 rfl) ?_
            refine jm_iload_n (x := o) rfl rfl (jM_at hl99 4 rfl) ?_
            refine az_X_call (m' := 98) (as := [.ref (P.1 + 42), .ref (P.1 + 14), .int o]) (rest := []) rfl rfl rfl rfl rfl ?_ ?_
            · unfold si_call
              dsimp only
              rw [if_pos ⟨rfl, rfl⟩]
              show (match si_ix P h104 (P.1 + 42) with | some i => _ | none => none) = _
              rw [jix hH104 (by decide)]
              dsimp only
              rw [(hH104.2 42 _ rfl).1]
              rfl
            refine (hX (d + 10) h104 o _ _ (by omega) hH104 ho e1_h104 rfl rfl hb_h104 (by omega)).mono ?_
            rintro rv128 h128 ⟨rfl, hH128, hs128, f128⟩
            have o_h128 : az_same_out [(14, 2), (14, 3), (42, 6), (43, 1000000), (44, 1000000)] h h128 := ((hs38.sub (by decide)).tr ((hs66.sub (by decide)).tr ((hs92.sub (by decide)).tr ((hs104.sub (by decide)).tr (hs128.sub (by decide))))))
            have e1_h128 : ja h128 14 1 = n := (jso o_h128 (by decide)).trans e1
            have hb_h128 : jBY h128 n hh := jBY_so o_h128 (by decide) hb
            show az_X P _ 97 131 ls99 [] _ _
            refine jm_aload_n (x := P.1 + 42) rfl rfl (jM_at hl99 2 rfl) ?_
            refine jm_iload (x := z96) rfl rfl (jM_at hl99 0 rfl) ?_
            refine az_X_step (pc' := 135) (ls' := ls99) (st' := [.int 0, .int z96, .ref (P.1 + 42)]) (h' := h128) rfl rfl rfl ?_
            refine az_X_call (m' := 94) (as := [.ref (P.1 + 42), .int z96, .int 0]) (rest := []) rfl rfl rfl rfl rfl ?_ ?_
            · unfold si_call
              dsimp only
              rw [if_pos ⟨rfl, rfl⟩]
              show (match si_ix P h128 (P.1 + 42) with | some i => _ | none => none) = _
              rw [jix hH128 (by decide)]
              dsimp only
              rw [(hH128.2 42 _ rfl).1]
              rfl
            refine (as_b hxa hH128 z96 0 (by omega)).mono ?_
            rintro rv135 h135 ⟨z135, rfl, hH135, hs135, f135⟩
            have o_h135 : az_same_out [(14, 2), (14, 3), (42, 6), (43, 1000000), (44, 1000000)] h h135 := ((hs38.sub (by decide)).tr ((hs66.sub (by decide)).tr ((hs92.sub (by decide)).tr ((hs104.sub (by decide)).tr ((hs128.sub (by decide)).tr (hs135.sub (by decide)))))))
            have e1_h135 : ja h135 14 1 = n := (jso o_h135 (by decide)).trans e1
            have hb_h135 : jBY h135 n hh := jBY_so o_h135 (by decide) hb
            have r3_h135 : ja h135 14 3 = ja h128 14 3 := jso hs135 (by decide)
            have r2_h135 : ja h135 14 2 = ja h128 14 2 := jso hs135 (by decide)
            show az_X P _ 97 138 ls99 [.int z135] _ _
            refine az_X_step (pc' := 139) (ls' := ls99) (st' := []) (h' := h135) rfl rfl rfl ?_
            refine jn_retv rfl rfl rfl ?_
            refine ⟨rfl, hH135, ((hs38.sub (by decide)).tr ((hs66.sub (by decide)).tr ((hs92.sub (by decide)).tr ((hs104.sub (by decide)).tr ((hs128.sub (by decide)).tr (hs135.sub (by decide))))))), ?_⟩
            rw [show ja h66 14 2 = p by omega, show ja h66 14 3 = F by omega] at f92
            have b92 : 0 ≤ ja h92 14 2 ∧ ja h92 14 2 ≤ 241 := ja_bd hH92 (i := 14) (k := 2) rfl
            have cm : cmR hh (ja h92 14 2) (ja h92 14 3) (ja h104 14 2) (ja h104 14 3) := by omega
            rw [r2_h135, r3_h135]
            exact te_cmp (by omega) (by omega) f92 cm f128
          · have g107 := jc1_ne_f hc107
            refine jm_aload_n (x := P.1 + 14) rfl rfl (jM_at hl99 3 rfl) ?_
            refine az_X_step (pc' := 113) (ls' := ls99) (st' := [.int 62, .ref (P.1 + 14)]) (h' := h104) rfl rfl rfl ?_
            refine az_X_call (m' := 123) (as := [.ref (P.1 + 14), .int 62]) (rest := []) rfl rfl rfl rfl rfl ?_ ?_
            · unfold si_call
              dsimp only
              rw [if_pos ⟨rfl, rfl⟩]
              show (match si_ix P h104 (P.1 + 14) with | some i => _ | none => none) = _
              rw [jix hH104 (by decide)]
              dsimp only
              rw [(hH104.2 14 _ rfl).1]
              rfl
            refine (tk2_ok hxa hH104 hn e1_h104 (show ja h104 14 2 = ja h92 14 2 by omega) (show ja h104 14 3 = ja h92 14 3 by omega) hb_h104 62 (by decide)).mono ?_
            rintro rv113 h113 ⟨z113, rfl, hH113, hs113, f113⟩
            have o_h113 : az_same_out [(14, 2), (14, 3), (42, 6), (43, 1000000), (44, 1000000)] h h113 := ((hs38.sub (by decide)).tr ((hs66.sub (by decide)).tr ((hs92.sub (by decide)).tr ((hs104.sub (by decide)).tr (hs113.sub (by decide))))))
            have e1_h113 : ja h113 14 1 = n := (jso o_h113 (by decide)).trans e1
            have hb_h113 : jBY h113 n hh := jBY_so o_h113 (by decide) hb
            have r3_h113 : ja h113 14 3 = ja h104 14 3 := jso hs113 (by decide)
            show az_X P _ 97 116 ls99 [.int z113] _ _
            refine jx_if (t := 125) rfl rfl rfl (fun hc116 => ?_) (fun hc116 => ?_)
            · have g116 := jc1_ne_t hc116
              have hlt := fun e => jBY_lt hb_h92 (p := ja h92 14 2) e
              have hlt2 : ja h92 14 2 < n ∨ hh (ja h92 14 2) = -1 := by
                by_cases q : hh (ja h92 14 2) = -1
                · exact Or.inr q
                · exact Or.inl (hlt q)
              refine jm_aload_n (x := P.1 + 42) rfl rfl (jM_at hl99 2 rfl) ?_
              refine jm_aload_n (x := P.1 + 14) rfl rfl (jM_at hl99 3 rfl) ?_
              refine jm_iload_n (x := o) rfl rfl (jM_at hl99 4 rfl) ?_
              refine az_X_call (m' := 98) (as := [.ref (P.1 + 42), .ref (P.1 + 14), .int o]) (rest := []) rfl rfl rfl rfl rfl ?_ ?_
              · unfold si_call
                dsimp only
                rw [if_pos ⟨rfl, rfl⟩]
                show (match si_ix P h113 (P.1 + 42) with | some i => _ | none => none) = _
                rw [jix hH113 (by decide)]
                dsimp only
                rw [(hH113.2 42 _ rfl).1]
                rfl
              refine (hX (d + 10) h113 o _ _ (by omega) hH113 ho e1_h113 rfl rfl hb_h113 (by omega)).mono ?_
              rintro rv128 h128 ⟨rfl, hH128, hs128, f128⟩
              have o_h128 : az_same_out [(14, 2), (14, 3), (42, 6), (43, 1000000), (44, 1000000)] h h128 := ((hs38.sub (by decide)).tr ((hs66.sub (by decide)).tr ((hs92.sub (by decide)).tr ((hs104.sub (by decide)).tr ((hs113.sub (by decide)).tr (hs128.sub (by decide)))))))
              have e1_h128 : ja h128 14 1 = n := (jso o_h128 (by decide)).trans e1
              have hb_h128 : jBY h128 n hh := jBY_so o_h128 (by decide) hb
              show az_X P _ 97 131 ls99 [] _ _
              refine jm_aload_n (x := P.1 + 42) rfl rfl (jM_at hl99 2 rfl) ?_
              refine jm_iload (x := z96) rfl rfl (jM_at hl99 0 rfl) ?_
              refine az_X_step (pc' := 135) (ls' := ls99) (st' := [.int 0, .int z96, .ref (P.1 + 42)]) (h' := h128) rfl rfl rfl ?_
              refine az_X_call (m' := 94) (as := [.ref (P.1 + 42), .int z96, .int 0]) (rest := []) rfl rfl rfl rfl rfl ?_ ?_
              · unfold si_call
                dsimp only
                rw [if_pos ⟨rfl, rfl⟩]
                show (match si_ix P h128 (P.1 + 42) with | some i => _ | none => none) = _
                rw [jix hH128 (by decide)]
                dsimp only
                rw [(hH128.2 42 _ rfl).1]
                rfl
              refine (as_b hxa hH128 z96 0 (by omega)).mono ?_
              rintro rv135 h135 ⟨z135, rfl, hH135, hs135, f135⟩
              have o_h135 : az_same_out [(14, 2), (14, 3), (42, 6), (43, 1000000), (44, 1000000)] h h135 := ((hs38.sub (by decide)).tr ((hs66.sub (by decide)).tr ((hs92.sub (by decide)).tr ((hs104.sub (by decide)).tr ((hs113.sub (by decide)).tr ((hs128.sub (by decide)).tr (hs135.sub (by decide))))))))
              have e1_h135 : ja h135 14 1 = n := (jso o_h135 (by decide)).trans e1
              have hb_h135 : jBY h135 n hh := jBY_so o_h135 (by decide) hb
              have r3_h135 : ja h135 14 3 = ja h128 14 3 := jso hs135 (by decide)
              have r2_h135 : ja h135 14 2 = ja h128 14 2 := jso hs135 (by decide)
              show az_X P _ 97 138 ls99 [.int z135] _ _
              refine az_X_step (pc' := 139) (ls' := ls99) (st' := []) (h' := h135) rfl rfl rfl ?_
              refine jn_retv rfl rfl rfl ?_
              refine ⟨rfl, hH135, ((hs38.sub (by decide)).tr ((hs66.sub (by decide)).tr ((hs92.sub (by decide)).tr ((hs104.sub (by decide)).tr ((hs113.sub (by decide)).tr ((hs128.sub (by decide)).tr (hs135.sub (by decide)))))))), ?_⟩
              rw [show ja h66 14 2 = p by omega, show ja h66 14 3 = F by omega] at f92
              have b92 : 0 ≤ ja h92 14 2 ∧ ja h92 14 2 ≤ 241 := ja_bd hH92 (i := 14) (k := 2) rfl
              have cm : cmR hh (ja h92 14 2) (ja h92 14 3) (ja h113 14 2) (ja h113 14 3) := by omega
              rw [r2_h135, r3_h135]
              exact te_cmp (by omega) (by omega) f92 cm f128
            · have g116 := jc1_ne_f hc116
              refine jm_aload_n (x := P.1 + 14) rfl rfl (jM_at hl99 3 rfl) ?_
              refine az_X_step (pc' := 122) (ls' := ls99) (st' := [.int 61, .ref (P.1 + 14)]) (h' := h113) rfl rfl rfl ?_
              refine az_X_call (m' := 124) (as := [.ref (P.1 + 14), .int 61]) (rest := []) rfl rfl rfl rfl rfl ?_ ?_
              · unfold si_call
                dsimp only
                rw [if_pos ⟨rfl, rfl⟩]
                show (match si_ix P h113 (P.1 + 14) with | some i => _ | none => none) = _
                rw [jix hH113 (by decide)]
                dsimp only
                rw [(hH113.2 14 _ rfl).1]
                rfl
              refine (ex2_ok hxa hH113 hn e1_h113 (show ja h113 14 2 = ja h92 14 2 by omega) (show ja h113 14 3 = ja h92 14 3 by omega) hb_h113 61 (by decide)).mono ?_
              rintro rv122 h122 ⟨rfl, hH122, hs122, f122⟩
              have o_h122 : az_same_out [(14, 2), (14, 3), (42, 6), (43, 1000000), (44, 1000000)] h h122 := ((hs38.sub (by decide)).tr ((hs66.sub (by decide)).tr ((hs92.sub (by decide)).tr ((hs104.sub (by decide)).tr ((hs113.sub (by decide)).tr (hs122.sub (by decide)))))))
              have e1_h122 : ja h122 14 1 = n := (jso o_h122 (by decide)).trans e1
              have hb_h122 : jBY h122 n hh := jBY_so o_h122 (by decide) hb
              show az_X P _ 97 125 ls99 [] _ _
              have hlt := fun e => jBY_lt hb_h92 (p := ja h92 14 2) e
              have hlt2 : ja h92 14 2 < n ∨ hh (ja h92 14 2) = -1 := by
                by_cases q : hh (ja h92 14 2) = -1
                · exact Or.inr q
                · exact Or.inl (hlt q)
              refine jm_aload_n (x := P.1 + 42) rfl rfl (jM_at hl99 2 rfl) ?_
              refine jm_aload_n (x := P.1 + 14) rfl rfl (jM_at hl99 3 rfl) ?_
              refine jm_iload_n (x := o) rfl rfl (jM_at hl99 4 rfl) ?_
              refine az_X_call (m' := 98) (as := [.ref (P.1 + 42), .ref (P.1 + 14), .int o]) (rest := []) rfl rfl rfl rfl rfl ?_ ?_
              · unfold si_call
                dsimp only
                rw [if_pos ⟨rfl, rfl⟩]
                show (match si_ix P h122 (P.1 + 42) with | some i => _ | none => none) = _
                rw [jix hH122 (by decide)]
                dsimp only
                rw [(hH122.2 42 _ rfl).1]
                rfl
              refine (hX (d + 10) h122 o _ _ (by omega) hH122 ho e1_h122 rfl rfl hb_h122 (by omega)).mono ?_
              rintro rv128 h128 ⟨rfl, hH128, hs128, f128⟩
              have o_h128 : az_same_out [(14, 2), (14, 3), (42, 6), (43, 1000000), (44, 1000000)] h h128 := ((hs38.sub (by decide)).tr ((hs66.sub (by decide)).tr ((hs92.sub (by decide)).tr ((hs104.sub (by decide)).tr ((hs113.sub (by decide)).tr ((hs122.sub (by decide)).tr (hs128.sub (by decide))))))))
              have e1_h128 : ja h128 14 1 = n := (jso o_h128 (by decide)).trans e1
              have hb_h128 : jBY h128 n hh := jBY_so o_h128 (by decide) hb
              show az_X P _ 97 131 ls99 [] _ _
              refine jm_aload_n (x := P.1 + 42) rfl rfl (jM_at hl99 2 rfl) ?_
              refine jm_iload (x := z96) rfl rfl (jM_at hl99 0 rfl) ?_
              refine az_X_step (pc' := 135) (ls' := ls99) (st' := [.int 0, .int z96, .ref (P.1 + 42)]) (h' := h128) rfl rfl rfl ?_
              refine az_X_call (m' := 94) (as := [.ref (P.1 + 42), .int z96, .int 0]) (rest := []) rfl rfl rfl rfl rfl ?_ ?_
              · unfold si_call
                dsimp only
                rw [if_pos ⟨rfl, rfl⟩]
                show (match si_ix P h128 (P.1 + 42) with | some i => _ | none => none) = _
                rw [jix hH128 (by decide)]
                dsimp only
                rw [(hH128.2 42 _ rfl).1]
                rfl
              refine (as_b hxa hH128 z96 0 (by omega)).mono ?_
              rintro rv135 h135 ⟨z135, rfl, hH135, hs135, f135⟩
              have o_h135 : az_same_out [(14, 2), (14, 3), (42, 6), (43, 1000000), (44, 1000000)] h h135 := ((hs38.sub (by decide)).tr ((hs66.sub (by decide)).tr ((hs92.sub (by decide)).tr ((hs104.sub (by decide)).tr ((hs113.sub (by decide)).tr ((hs122.sub (by decide)).tr ((hs128.sub (by decide)).tr (hs135.sub (by decide)))))))))
              have e1_h135 : ja h135 14 1 = n := (jso o_h135 (by decide)).trans e1
              have hb_h135 : jBY h135 n hh := jBY_so o_h135 (by decide) hb
              have r3_h135 : ja h135 14 3 = ja h128 14 3 := jso hs135 (by decide)
              have r2_h135 : ja h135 14 2 = ja h128 14 2 := jso hs135 (by decide)
              show az_X P _ 97 138 ls99 [.int z135] _ _
              refine az_X_step (pc' := 139) (ls' := ls99) (st' := []) (h' := h135) rfl rfl rfl ?_
              refine jn_retv rfl rfl rfl ?_
              refine ⟨rfl, hH135, ((hs38.sub (by decide)).tr ((hs66.sub (by decide)).tr ((hs92.sub (by decide)).tr ((hs104.sub (by decide)).tr ((hs113.sub (by decide)).tr ((hs122.sub (by decide)).tr ((hs128.sub (by decide)).tr (hs135.sub (by decide))))))))), ?_⟩
              rw [show ja h66 14 2 = p by omega, show ja h66 14 3 = F by omega] at f92
              have b92 : 0 ≤ ja h92 14 2 ∧ ja h92 14 2 ≤ 241 := ja_bd hH92 (i := 14) (k := 2) rfl
              have cm : cmR hh (ja h92 14 2) (ja h92 14 3) (ja h122 14 2) (ja h122 14 3) := by omega
              rw [r2_h135, r3_h135]
              exact te_cmp (by omega) (by omega) f92 cm f128
        · have g69 := jc1_eq_f hc69
          exfalso
          omega
      · have g41 := jc1_eq_f hc41
        exfalso
        omega
    · have g14 := jc2_ne_f hc14
      refine jm_iload_n (x := o) rfl rfl (jM_at hl4 3 rfl) ?_
      refine az_X_step (pc' := 20) (ls' := ls4) (st' := [.int 6, .int o]) (h' := h) rfl rfl rfl ?_
      refine jx_ic (t := 35) rfl rfl rfl (fun hc20 => ?_) (fun hc20 => ?_)
      · have g20 := jc2_lt_t hc20
        refine jm_aload_n (x := P.1 + 14) rfl rfl (jM_at hl4 2 rfl) ?_
        refine az_X_step (pc' := 38) (ls' := ls4) (st' := [.int 33, .ref (P.1 + 14)]) (h' := h) rfl rfl rfl ?_
        refine az_X_call (m' := 123) (as := [.ref (P.1 + 14), .int 33]) (rest := []) rfl rfl rfl rfl rfl ?_ ?_
        · unfold si_call
          dsimp only
          rw [if_pos ⟨rfl, rfl⟩]
          show (match si_ix P h (P.1 + 14) with | some i => _ | none => none) = _
          rw [jix hH (by decide)]
          dsimp only
          rw [(hH.2 14 _ rfl).1]
          rfl
        refine (tk2_ok hxa hH hn e1 e2 e3 hb 33 (by decide)).mono ?_
        rintro rv38 h38 ⟨z38, rfl, hH38, hs38, f38⟩
        have o_h38 : az_same_out [(14, 2), (14, 3), (42, 6), (43, 1000000), (44, 1000000)] h h38 := (hs38.sub (by decide))
        have e1_h38 : ja h38 14 1 = n := (jso o_h38 (by decide)).trans e1
        have hb_h38 : jBY h38 n hh := jBY_so o_h38 (by decide) hb
        have r3_h38 : ja h38 14 3 = ja h 14 3 := jso hs38 (by decide)
        show az_X P _ 97 41 ls4 [.int z38] _ _
        refine jx_if (t := 63) rfl rfl rfl (fun hc41 => ?_) (fun hc41 => ?_)
        · have g41 := jc1_eq_t hc41
          refine jm_aload_n (x := P.1 + 14) rfl rfl (jM_at hl4 2 rfl) ?_
          refine az_X_step (pc' := 66) (ls' := ls4) (st' := [.int 40, .ref (P.1 + 14)]) (h' := h38) rfl rfl rfl ?_
          refine az_X_call (m' := 123) (as := [.ref (P.1 + 14), .int 40]) (rest := []) rfl rfl rfl rfl rfl ?_ ?_
          · unfold si_call
            dsimp only
            rw [if_pos ⟨rfl, rfl⟩]
            show (match si_ix P h38 (P.1 + 14) with | some i => _ | none => none) = _
            rw [jix hH38 (by decide)]
            dsimp only
            rw [(hH38.2 14 _ rfl).1]
            rfl
          refine (tk2_ok hxa hH38 hn e1_h38 (show ja h38 14 2 = p by omega) (show ja h38 14 3 = F by omega) hb_h38 40 (by decide)).mono ?_
          rintro rv66 h66 ⟨z66, rfl, hH66, hs66, f66⟩
          have o_h66 : az_same_out [(14, 2), (14, 3), (42, 6), (43, 1000000), (44, 1000000)] h h66 := ((hs38.sub (by decide)).tr (hs66.sub (by decide)))
          have e1_h66 : ja h66 14 1 = n := (jso o_h66 (by decide)).trans e1
          have hb_h66 : jBY h66 n hh := jBY_so o_h66 (by decide) hb
          have r3_h66 : ja h66 14 3 = ja h38 14 3 := jso hs66 (by decide)
          show az_X P _ 97 69 ls4 [.int z66] _ _
          refine jx_if (t := 89) rfl rfl rfl (fun hc69 => ?_) (fun hc69 => ?_)
          · have g69 := jc1_eq_t hc69
            exfalso
            omega
          · have g69 := jc1_eq_f hc69
            obtain ⟨k1, rfl⟩ : ∃ k1, k = k1 + 1 := ⟨k - 1, by omega⟩
            have hlt := jBY_lt hb (p := p) (by omega)
            refine jm_aload_n (x := P.1 + 42) rfl rfl (jM_at hl4 1 rfl) ?_
            refine jm_aload_n (x := P.1 + 14) rfl rfl (jM_at hl4 2 rfl) ?_
            refine jm_iload_n (x := o) rfl rfl (jM_at hl4 3 rfl) ?_
            refine az_X_step (pc' := 76) (ls' := ls4) (st' := [.int 1, .int o, .ref (P.1 + 14), .ref (P.1 + 42)]) (h' := h66) rfl rfl rfl ?_
            refine jn_add (a := o) (b := 1) rfl rfl (by omega) (by omega) (fun z76 ez76 => ?_)
            rw [show (1 : Int32).toInt = 1 by decide] at ez76
            refine az_X_call (m' := 96) (as := [.ref (P.1 + 42), .ref (P.1 + 14), .int z76]) (rest := []) rfl rfl rfl rfl rfl ?_ ?_
            · unfold si_call
              dsimp only
              rw [if_pos ⟨rfl, rfl⟩]
              show (match si_ix P h66 (P.1 + 42) with | some i => _ | none => none) = _
              rw [jix hH66 (by decide)]
              dsimp only
              rw [(hH66.2 42 _ rfl).1]
              rfl
            refine (hC k1 rfl (d + 10) h66 z76 _ _ (by omega) hH66 (by omega) e1_h66 rfl rfl hb_h66 (by omega)).mono ?_
            rintro rv77 h77 ⟨rfl, hH77, hs77, f77⟩
            have o_h77 : az_same_out [(14, 2), (14, 3), (42, 6), (43, 1000000), (44, 1000000)] h h77 := ((hs38.sub (by decide)).tr ((hs66.sub (by decide)).tr (hs77.sub (by decide))))
            have e1_h77 : ja h77 14 1 = n := (jso o_h77 (by decide)).trans e1
            have hb_h77 : jBY h77 n hh := jBY_so o_h77 (by decide) hb
            show az_X P _ 97 80 ls4 [] _ _
            refine jm_aload_n (x := P.1 + 14) rfl rfl (jM_at hl4 2 rfl) ?_
            refine az_X_step (pc' := 83) (ls' := ls4) (st' := [.int 41, .ref (P.1 + 14)]) (h' := h77) rfl rfl rfl ?_
            refine az_X_call (m' := 124) (as := [.ref (P.1 + 14), .int 41]) (rest := []) rfl rfl rfl rfl rfl ?_ ?_
            · unfold si_call
              dsimp only
              rw [if_pos ⟨rfl, rfl⟩]
              show (match si_ix P h77 (P.1 + 14) with | some i => _ | none => none) = _
              rw [jix hH77 (by decide)]
              dsimp only
              rw [(hH77.2 14 _ rfl).1]
              rfl
            refine (ex2_ok hxa hH77 hn e1_h77 rfl rfl hb_h77 41 (by decide)).mono ?_
            rintro rv83 h83 ⟨rfl, hH83, hs83, f83⟩
            have o_h83 : az_same_out [(14, 2), (14, 3), (42, 6), (43, 1000000), (44, 1000000)] h h83 := ((hs38.sub (by decide)).tr ((hs66.sub (by decide)).tr ((hs77.sub (by decide)).tr (hs83.sub (by decide)))))
            have e1_h83 : ja h83 14 1 = n := (jso o_h83 (by decide)).trans e1
            have hb_h83 : jBY h83 n hh := jBY_so o_h83 (by decide) hb
            show az_X P _ 97 86 ls4 [] _ _
            refine az_X_step (pc' := 139) (ls' := ls4) (st' := []) (h' := h83) rfl rfl rfl ?_
            refine jn_retv rfl rfl rfl ?_
            refine ⟨rfl, hH83, ((hs38.sub (by decide)).tr ((hs66.sub (by decide)).tr ((hs77.sub (by decide)).tr (hs83.sub (by decide))))), ?_⟩
            have hF0 : F = 0 := by omega
            subst hF0
            rw [show ja h66 14 2 = p + 1 by omega, show ja h66 14 3 = 0 by omega, show z76.toInt = o.toInt + 1 by omega] at f77
            exact te_par hbn (by omega) (by omega) (by omega) f77 f83
        · have g41 := jc1_eq_f hc41
          exfalso
          omega
      · have g20 := jc2_lt_f hc20
        refine jm_aload_n (x := P.1 + 14) rfl rfl (jM_at hl4 2 rfl) ?_
        refine az_X_step (pc' := 25) (ls' := ls4) (st' := [.int 5, .ref (P.1 + 14)]) (h' := h) rfl rfl rfl ?_
        refine jm_aload_n (x := P.1 + 14) rfl rfl (jM_at hl4 2 rfl) ?_
        refine az_X_call (m' := 120) (as := [.ref (P.1 + 14)]) (rest := [.int 5, .ref (P.1 + 14)]) rfl rfl rfl rfl rfl ?_ ?_
        · unfold si_call
          dsimp only
          rw [if_pos ⟨rfl, rfl⟩]
          show (match si_ix P h (P.1 + 14) with | some i => _ | none => none) = _
          rw [jix hH (by decide)]
          dsimp only
          rw [(hH.2 14 _ rfl).1]
          rfl
        refine (pl_ok hH).mono ?_
        rintro rv26 h26 ⟨q26, z26, rfl, ez26⟩
        subst h26
        show az_X P _ 97 29 ls4 [.int z26, .int 5, .ref (P.1 + 14)] _ _
        refine az_X_call (m' := 125) (as := [.ref (P.1 + 14), .int 5, .int z26]) (rest := []) rfl rfl rfl rfl rfl ?_ ?_
        · unfold si_call
          dsimp only
          rw [if_pos ⟨rfl, rfl⟩]
          show (match si_ix P h (P.1 + 14) with | some i => _ | none => none) = _
          rw [jix hH (by decide)]
          dsimp only
          rw [(hH.2 14 _ rfl).1]
          rfl
        refine (fl_ok hH 5 z26 (by decide) (by omega)).mono ?_
        rintro rv29 h29 ⟨rfl, hH29, hs29, f29⟩
        have o_h29 : az_same_out [(14, 2), (14, 3), (42, 6), (43, 1000000), (44, 1000000)] h h29 := (hs29.sub (by decide))
        have e1_h29 : ja h29 14 1 = n := (jso o_h29 (by decide)).trans e1
        have hb_h29 : jBY h29 n hh := jBY_so o_h29 (by decide) hb
        have r2_h29 : ja h29 14 2 = ja h 14 2 := jso hs29 (by decide)
        show az_X P _ 97 32 ls4 [] _ _
        refine az_X_step (pc' := 139) (ls' := ls4) (st' := []) (h' := h29) rfl rfl rfl ?_
        refine jn_retv rfl rfl rfl ?_
        have f29a := f29.1
        refine ⟨rfl, hH29, (hs29.sub (by decide)), ?_⟩
        have hF0 : F = 0 := by omega
        subst hF0
        exact te_deep (by omega) (by omega) (by omega) (by have := f29a (by omega); omega)
theorem co_lb {P : si_P} (hxa : P.2.1 < P.1) {d : Nat} {hh : Int → Int} {n : Int} (hn : 1 ≤ n ∧ n ≤ 240) (hh1 : ∀ i : Int, hh i ≤ 255) {k0 : Nat} (hT : pyM P hh n 42 97 11 k0 (pyT hh n)) {h0 : si_H} (o : Int32) (ho : 0 ≤ o.toInt ∧ o.toInt + k0 = 6) (hd0 : 2 * k0 + 12 ≤ d + 12) {p F : Int} : ∀ (k j : Nat) (T U V : Int32) (h : si_H) (ls : si_L), jM [(5, .int T), (3, .int U), (4, .int V), (0, .ref (P.1 + 42)), (1, .ref (P.1 + 14)), (2, .int o)] ls → az_HI P az_tb h → az_same_out [(14, 2), (14, 3), (42, 6), (43, 1000000), (44, 1000000)] h0 h → ja h 14 1 = n → jBY h n hh → T.toInt = j → j + k = 240 → pyD hh n p F o.toInt (ja h 14 2) (ja h 14 3) → (F = 0 → ja h 14 3 = 0 → (j : Int) ≤ ja h 14 2) → -1 ≤ U.toInt ∧ U.toInt ≤ 99999 → -1 ≤ V.toInt ∧ V.toInt ≤ 99999 → az_X P (d + 12) 96 14 ls [] h (fun rv h' => rv = none ∧ az_HI P az_tb h' ∧ az_same_out [(14, 2), (14, 3), (42, 6), (43, 1000000), (44, 1000000)] h0 h' ∧ pyC hh n p F o.toInt (ja h' 14 2) (ja h' 14 3)) := by
  intro k
  induction k with
  | zero =>
    intro j T U V h ls hl hH hs e1 hb eT hj hf hm hU hV
    have bp : 0 ≤ ja h 14 2 ∧ ja h 14 2 ≤ 241 := ja_bd hH (i := 14) (k := 2) rfl
    have bF : -7000 ≤ ja h 14 3 ∧ ja h 14 3 ≤ 0 := ja_bd hH (i := 14) (k := 3) rfl
    have hbn := hb.2
    have F0 : ja h 14 3 = 0 → F = 0 := fun e => by
      by_cases q : F = 0
      · exact q
      · have := hf.1 q
        omega
    have qn : ja h 14 3 = 0 → ja h 14 2 ≤ n := fun e => (hf.2.1 (F0 e) e).2
    have hlt2 : ja h 14 2 < n ∨ hh (ja h 14 2) = -1 := by
      rcases Int.lt_or_le (ja h 14 2) n with q | q
      · exact Or.inl q
      · exact Or.inr (hbn _ q)
    have k240 : (240 : Int32).toInt = 240 := by decide
    refine jm_iload (x := T) rfl rfl (jM_at hl 0 rfl) ?_
    refine az_X_step (pc' := 19) (ls' := ls) (st' := [.int 240, .int T]) (h' := h) rfl rfl rfl ?_
    refine jx_ic (t := 80) rfl rfl rfl (fun hc19 => ?_) (fun hc19 => ?_)
    · have g19 := jc2_ge_t hc19
      refine jm_aload_n (x := P.1 + 42) rfl rfl (jM_at hl 3 rfl) ?_
      refine jm_iload_n (x := U) rfl rfl (jM_at hl 1 rfl) ?_
      refine az_X_call (m' := 95) (as := [.ref (P.1 + 42), .int U]) (rest := []) rfl rfl rfl rfl rfl ?_ ?_
      · unfold si_call
        dsimp only
        rw [if_pos ⟨rfl, rfl⟩]
        show (match si_ix P h (P.1 + 42) with | some i => _ | none => none) = _
        rw [jix hH (by decide)]
        dsimp only
        rw [(hH.2 42 _ rfl).1]
        rfl
      refine (ld_b hxa hH U (by omega)).mono ?_
      rintro rv82 h82 ⟨rfl, hH82, hs82, f82⟩
      have o_h82 : az_same_out [(14, 2), (14, 3), (42, 6), (43, 1000000), (44, 1000000)] h h82 := (hs82.sub (by decide))
      have e1_h82 : ja h82 14 1 = n := (jso o_h82 (by decide)).trans e1
      have hb_h82 : jBY h82 n hh := jBY_so o_h82 (by decide) hb
      have r3_h82 : ja h82 14 3 = ja h 14 3 := jso hs82 (by decide)
      have r2_h82 : ja h82 14 2 = ja h 14 2 := jso hs82 (by decide)
      show az_X P _ 96 85 ls [] _ _
      refine jm_aload_n (x := P.1 + 42) rfl rfl (jM_at hl 3 rfl) ?_
      refine jm_iload (x := V) rfl rfl (jM_at hl 2 rfl) ?_
      refine az_X_call (m' := 95) (as := [.ref (P.1 + 42), .int V]) (rest := []) rfl rfl rfl rfl rfl ?_ ?_
      · unfold si_call
        dsimp only
        rw [if_pos ⟨rfl, rfl⟩]
        show (match si_ix P h82 (P.1 + 42) with | some i => _ | none => none) = _
        rw [jix hH82 (by decide)]
        dsimp only
        rw [(hH82.2 42 _ rfl).1]
        rfl
      refine (ld_b hxa hH82 V (by omega)).mono ?_
      rintro rv88 h88 ⟨rfl, hH88, hs88, f88⟩
      have o_h88 : az_same_out [(14, 2), (14, 3), (42, 6), (43, 1000000), (44, 1000000)] h h88 := ((hs82.sub (by decide)).tr (hs88.sub (by decide)))
      have e1_h88 : ja h88 14 1 = n := (jso o_h88 (by decide)).trans e1
      have hb_h88 : jBY h88 n hh := jBY_so o_h88 (by decide) hb
      have r3_h88 : ja h88 14 3 = ja h82 14 3 := jso hs88 (by decide)
      have r2_h88 : ja h88 14 2 = ja h82 14 2 := jso hs88 (by decide)
      show az_X P _ 96 91 ls [] _ _
      refine jn_retv rfl rfl rfl ?_
      have v2 : ja h88 14 2 = ja h 14 2 := by omega
      have v3 : ja h88 14 3 = ja h 14 3 := by omega
      refine ⟨rfl, hH88, hs.tr ((hs82.sub (by decide)).tr (hs88.sub (by decide))), ?_⟩
      rw [v2, v3]
      refine ⟨hf, fun _ e => ?_⟩
      have := hm (F0 e) e
      have hx : (240 : Int) ≤ ja h 14 2 → hh (ja h 14 2) = -1 := fun q2 => hbn _ (by omega)
      omega
    · have g19 := jc2_ge_f hc19
      exfalso
      omega
  | succ k ih =>
    intro j T U V h ls hl hH hs e1 hb eT hj hf hm hU hV
    have bp : 0 ≤ ja h 14 2 ∧ ja h 14 2 ≤ 241 := ja_bd hH (i := 14) (k := 2) rfl
    have bF : -7000 ≤ ja h 14 3 ∧ ja h 14 3 ≤ 0 := ja_bd hH (i := 14) (k := 3) rfl
    have hbn := hb.2
    have F0 : ja h 14 3 = 0 → F = 0 := fun e => by
      by_cases q : F = 0
      · exact q
      · have := hf.1 q
        omega
    have qn : ja h 14 3 = 0 → ja h 14 2 ≤ n := fun e => (hf.2.1 (F0 e) e).2
    have hlt2 : ja h 14 2 < n ∨ hh (ja h 14 2) = -1 := by
      rcases Int.lt_or_le (ja h 14 2) n with q | q
      · exact Or.inl q
      · exact Or.inr (hbn _ q)
    have km1 : ((-1) : Int32).toInt = (-1) := by decide
    have k0 : (0 : Int32).toInt = 0 := by decide
    have k38 : (38 : Int32).toInt = 38 := by decide
    have k124 : (124 : Int32).toInt = 124 := by decide
    have k240 : (240 : Int32).toInt = 240 := by decide
    refine jm_iload (x := T) rfl rfl (jM_at hl 0 rfl) ?_
    refine az_X_step (pc' := 19) (ls' := ls) (st' := [.int 240, .int T]) (h' := h) rfl rfl rfl ?_
    refine jx_ic (t := 80) rfl rfl rfl (fun hc19 => ?_) (fun hc19 => ?_)
    · have g19 := jc2_ge_t hc19
      refine jm_aload_n (x := P.1 + 42) rfl rfl (jM_at hl 3 rfl) ?_
      refine jm_iload_n (x := U) rfl rfl (jM_at hl 1 rfl) ?_
      refine az_X_call (m' := 95) (as := [.ref (P.1 + 42), .int U]) (rest := []) rfl rfl rfl rfl rfl ?_ ?_
      · unfold si_call
        dsimp only
        rw [if_pos ⟨rfl, rfl⟩]
        show (match si_ix P h (P.1 + 42) with | some i => _ | none => none) = _
        rw [jix hH (by decide)]
        dsimp only
        rw [(hH.2 42 _ rfl).1]
        rfl
      refine (ld_b hxa hH U (by omega)).mono ?_
      rintro rv82 h82 ⟨rfl, hH82, hs82, f82⟩
      have o_h82 : az_same_out [(14, 2), (14, 3), (42, 6), (43, 1000000), (44, 1000000)] h h82 := (hs82.sub (by decide))
      have e1_h82 : ja h82 14 1 = n := (jso o_h82 (by decide)).trans e1
      have hb_h82 : jBY h82 n hh := jBY_so o_h82 (by decide) hb
      have r3_h82 : ja h82 14 3 = ja h 14 3 := jso hs82 (by decide)
      have r2_h82 : ja h82 14 2 = ja h 14 2 := jso hs82 (by decide)
      show az_X P _ 96 85 ls [] _ _
      refine jm_aload_n (x := P.1 + 42) rfl rfl (jM_at hl 3 rfl) ?_
      refine jm_iload (x := V) rfl rfl (jM_at hl 2 rfl) ?_
      refine az_X_call (m' := 95) (as := [.ref (P.1 + 42), .int V]) (rest := []) rfl rfl rfl rfl rfl ?_ ?_
      · unfold si_call
        dsimp only
        rw [if_pos ⟨rfl, rfl⟩]
        show (match si_ix P h82 (P.1 + 42) with | some i => _ | none => none) = _
        rw [jix hH82 (by decide)]
        dsimp only
        rw [(hH82.2 42 _ rfl).1]
        rfl
      refine (ld_b hxa hH82 V (by omega)).mono ?_
      rintro rv88 h88 ⟨rfl, hH88, hs88, f88⟩
      have o_h88 : az_same_out [(14, 2), (14, 3), (42, 6), (43, 1000000), (44, 1000000)] h h88 := ((hs82.sub (by decide)).tr (hs88.sub (by decide)))
      have e1_h88 : ja h88 14 1 = n := (jso o_h88 (by decide)).trans e1
      have hb_h88 : jBY h88 n hh := jBY_so o_h88 (by decide) hb
      have r3_h88 : ja h88 14 3 = ja h82 14 3 := jso hs88 (by decide)
      have r2_h88 : ja h88 14 2 = ja h82 14 2 := jso hs88 (by decide)
      show az_X P _ 96 91 ls [] _ _
      refine jn_retv rfl rfl rfl ?_
      have v2 : ja h88 14 2 = ja h 14 2 := by omega
      have v3 : ja h88 14 3 = ja h 14 3 := by omega
      refine ⟨rfl, hH88, hs.tr ((hs82.sub (by decide)).tr (hs88.sub (by decide))), ?_⟩
      rw [v2, v3]
      refine ⟨hf, fun _ e => ?_⟩
      have := hm (F0 e) e
      have hx : (240 : Int) ≤ ja h 14 2 → hh (ja h 14 2) = -1 := fun q2 => hbn _ (by omega)
      omega
    · have g19 := jc2_ge_f hc19
      refine jm_aload_n (x := P.1 + 14) rfl rfl (jM_at hl 4 rfl) ?_
      refine az_X_step (pc' := 25) (ls' := ls) (st' := [.int 38, .ref (P.1 + 14)]) (h' := h) rfl rfl rfl ?_
      refine az_X_call (m' := 123) (as := [.ref (P.1 + 14), .int 38]) (rest := []) rfl rfl rfl rfl rfl ?_ ?_
      · unfold si_call
        dsimp only
        rw [if_pos ⟨rfl, rfl⟩]
        show (match si_ix P h (P.1 + 14) with | some i => _ | none => none) = _
        rw [jix hH (by decide)]
        dsimp only
        rw [(hH.2 14 _ rfl).1]
        rfl
      refine (tk2_ok hxa hH hn e1 rfl rfl hb 38 (by decide)).mono ?_
      rintro rv25 h25 ⟨z25, rfl, hH25, hs25, f25⟩
      have o_h25 : az_same_out [(14, 2), (14, 3), (42, 6), (43, 1000000), (44, 1000000)] h h25 := (hs25.sub (by decide))
      have e1_h25 : ja h25 14 1 = n := (jso o_h25 (by decide)).trans e1
      have hb_h25 : jBY h25 n hh := jBY_so o_h25 (by decide) hb
      have r3_h25 : ja h25 14 3 = ja h 14 3 := jso hs25 (by decide)
      show az_X P _ 96 28 ls [.int z25] _ _
      refine jx_if (t := 42) rfl rfl rfl (fun hc28 => ?_) (fun hc28 => ?_)
      · have g28 := jc1_eq_t hc28
        refine jm_aload_n (x := P.1 + 14) rfl rfl (jM_at hl 4 rfl) ?_
        refine az_X_step (pc' := 45) (ls' := ls) (st' := [.int 124, .ref (P.1 + 14)]) (h' := h25) rfl rfl rfl ?_
        refine az_X_call (m' := 123) (as := [.ref (P.1 + 14), .int 124]) (rest := []) rfl rfl rfl rfl rfl ?_ ?_
        · unfold si_call
          dsimp only
          rw [if_pos ⟨rfl, rfl⟩]
          show (match si_ix P h25 (P.1 + 14) with | some i => _ | none => none) = _
          rw [jix hH25 (by decide)]
          dsimp only
          rw [(hH25.2 14 _ rfl).1]
          rfl
        refine (tk2_ok hxa hH25 hn e1_h25 (show ja h25 14 2 = ja h 14 2 by omega) (show ja h25 14 3 = ja h 14 3 by omega) hb_h25 124 (by decide)).mono ?_
        rintro rv45 h45 ⟨z45, rfl, hH45, hs45, f45⟩
        have o_h45 : az_same_out [(14, 2), (14, 3), (42, 6), (43, 1000000), (44, 1000000)] h h45 := ((hs25.sub (by decide)).tr (hs45.sub (by decide)))
        have e1_h45 : ja h45 14 1 = n := (jso o_h45 (by decide)).trans e1
        have hb_h45 : jBY h45 n hh := jBY_so o_h45 (by decide) hb
        have r3_h45 : ja h45 14 3 = ja h25 14 3 := jso hs45 (by decide)
        show az_X P _ 96 48 ls [.int z45] _ _
        refine jx_if (t := 80) rfl rfl rfl (fun hc48 => ?_) (fun hc48 => ?_)
        · have g48 := jc1_eq_t hc48
          refine jm_aload_n (x := P.1 + 42) rfl rfl (jM_at hl 3 rfl) ?_
          refine jm_iload_n (x := U) rfl rfl (jM_at hl 1 rfl) ?_
          refine az_X_call (m' := 95) (as := [.ref (P.1 + 42), .int U]) (rest := []) rfl rfl rfl rfl rfl ?_ ?_
          · unfold si_call
            dsimp only
            rw [if_pos ⟨rfl, rfl⟩]
            show (match si_ix P h45 (P.1 + 42) with | some i => _ | none => none) = _
            rw [jix hH45 (by decide)]
            dsimp only
            rw [(hH45.2 42 _ rfl).1]
            rfl
          refine (ld_b hxa hH45 U (by omega)).mono ?_
          rintro rv82 h82 ⟨rfl, hH82, hs82, f82⟩
          have o_h82 : az_same_out [(14, 2), (14, 3), (42, 6), (43, 1000000), (44, 1000000)] h h82 := ((hs25.sub (by decide)).tr ((hs45.sub (by decide)).tr (hs82.sub (by decide))))
          have e1_h82 : ja h82 14 1 = n := (jso o_h82 (by decide)).trans e1
          have hb_h82 : jBY h82 n hh := jBY_so o_h82 (by decide) hb
          have r3_h82 : ja h82 14 3 = ja h45 14 3 := jso hs82 (by decide)
          have r2_h82 : ja h82 14 2 = ja h45 14 2 := jso hs82 (by decide)
          show az_X P _ 96 85 ls [] _ _
          refine jm_aload_n (x := P.1 + 42) rfl rfl (jM_at hl 3 rfl) ?_
          refine jm_iload (x := V) rfl rfl (jM_at hl 2 rfl) ?_
          refine az_X_call (m' := 95) (as := [.ref (P.1 + 42), .int V]) (rest := []) rfl rfl rfl rfl rfl ?_ ?_
          · unfold si_call
            dsimp only
            rw [if_pos ⟨rfl, rfl⟩]
            show (match si_ix P h82 (P.1 + 42) with | some i => _ | none => none) = _
            rw [jix hH82 (by decide)]
            dsimp only
            rw [(hH82.2 42 _ rfl).1]
            rfl
          refine (ld_b hxa hH82 V (by omega)).mono ?_
          rintro rv88 h88 ⟨rfl, hH88, hs88, f88⟩
          have o_h88 : az_same_out [(14, 2), (14, 3), (42, 6), (43, 1000000), (44, 1000000)] h h88 := ((hs25.sub (by decide)).tr ((hs45.sub (by decide)).tr ((hs82.sub (by decide)).tr (hs88.sub (by decide)))))
          have e1_h88 : ja h88 14 1 = n := (jso o_h88 (by decide)).trans e1
          have hb_h88 : jBY h88 n hh := jBY_so o_h88 (by decide) hb
          have r3_h88 : ja h88 14 3 = ja h82 14 3 := jso hs88 (by decide)
          have r2_h88 : ja h88 14 2 = ja h82 14 2 := jso hs88 (by decide)
          show az_X P _ 96 91 ls [] _ _
          refine jn_retv rfl rfl rfl ?_
          have v2 : ja h88 14 2 = ja h 14 2 := by omega
          have v3 : ja h88 14 3 = ja h 14 3 := by omega
          refine ⟨rfl, hH88, hs.tr ((hs25.sub (by decide)).tr ((hs45.sub (by decide)).tr ((hs82.sub (by decide)).tr (hs88.sub (by decide))))), ?_⟩
          rw [v2, v3]
          refine ⟨hf, fun _ e => ?_⟩
          have := hm (F0 e) e
          have hx : (240 : Int) ≤ ja h 14 2 → hh (ja h 14 2) = -1 := fun q2 => hbn _ (by omega)
          omega
        · have g48 := jc1_eq_f hc48
          refine jm_aload_n (x := P.1 + 42) rfl rfl (jM_at hl 3 rfl) ?_
          refine jm_iload_n (x := U) rfl rfl (jM_at hl 1 rfl) ?_
          refine az_X_call (m' := 95) (as := [.ref (P.1 + 42), .int U]) (rest := []) rfl rfl rfl rfl rfl ?_ ?_
          · unfold si_call
            dsimp only
            rw [if_pos ⟨rfl, rfl⟩]
            show (match si_ix P h45 (P.1 + 42) with | some i => _ | none => none) = _
            rw [jix hH45 (by decide)]
            dsimp only
            rw [(hH45.2 42 _ rfl).1]
            rfl
          refine (ld_b hxa hH45 U (by omega)).mono ?_
          rintro rv53 h53 ⟨rfl, hH53, hs53, f53⟩
          have o_h53 : az_same_out [(14, 2), (14, 3), (42, 6), (43, 1000000), (44, 1000000)] h h53 := ((hs25.sub (by decide)).tr ((hs45.sub (by decide)).tr (hs53.sub (by decide))))
          have e1_h53 : ja h53 14 1 = n := (jso o_h53 (by decide)).trans e1
          have hb_h53 : jBY h53 n hh := jBY_so o_h53 (by decide) hb
          have r3_h53 : ja h53 14 3 = ja h45 14 3 := jso hs53 (by decide)
          have r2_h53 : ja h53 14 2 = ja h45 14 2 := jso hs53 (by decide)
          show az_X P _ 96 56 ls [] _ _
          refine az_X_step (pc' := 57) (ls' := ls) (st' := [.int (-1)]) (h' := h53) rfl rfl rfl ?_
          refine jm_istore_n (l' := [(3, .int (-1)), (5, .int T), (4, .int V), (0, .ref (P.1 + 42)), (1, .ref (P.1 + 14)), (2, .int o)]) rfl rfl (by decide) hl rfl rfl (fun ls57 hl57 => ?_)
          refine jm_aload_n (x := P.1 + 42) rfl rfl (jM_at hl57 3 rfl) ?_
          refine az_X_step (pc' := 61) (ls' := ls57) (st' := [.int 124, .ref (P.1 + 42)]) (h' := h53) rfl rfl rfl ?_
          refine jm_iload (x := V) rfl rfl (jM_at hl57 2 rfl) ?_
          refine az_X_call (m' := 94) (as := [.ref (P.1 + 42), .int 124, .int V]) (rest := []) rfl rfl rfl rfl rfl ?_ ?_
          · unfold si_call
            dsimp only
            rw [if_pos ⟨rfl, rfl⟩]
            show (match si_ix P h53 (P.1 + 42) with | some i => _ | none => none) = _
            rw [jix hH53 (by decide)]
            dsimp only
            rw [(hH53.2 42 _ rfl).1]
            rfl
          refine (as_b hxa hH53 124 V (by omega)).mono ?_
          rintro rv63 h63 ⟨z63, rfl, hH63, hs63, f63⟩
          have o_h63 : az_same_out [(14, 2), (14, 3), (42, 6), (43, 1000000), (44, 1000000)] h h63 := ((hs25.sub (by decide)).tr ((hs45.sub (by decide)).tr ((hs53.sub (by decide)).tr (hs63.sub (by decide)))))
          have e1_h63 : ja h63 14 1 = n := (jso o_h63 (by decide)).trans e1
          have hb_h63 : jBY h63 n hh := jBY_so o_h63 (by decide) hb
          have r3_h63 : ja h63 14 3 = ja h53 14 3 := jso hs63 (by decide)
          have r2_h63 : ja h63 14 2 = ja h53 14 2 := jso hs63 (by decide)
          show az_X P _ 96 66 ls57 [.int z63] _ _
          refine jm_istore (l' := [(4, .int z63), (3, .int (-1)), (5, .int T), (0, .ref (P.1 + 42)), (1, .ref (P.1 + 14)), (2, .int o)]) rfl rfl (by decide) hl57 rfl rfl (fun ls66 hl66 => ?_)
          refine jm_aload_n (x := P.1 + 42) rfl rfl (jM_at hl66 3 rfl) ?_
          refine jm_aload_n (x := P.1 + 14) rfl rfl (jM_at hl66 4 rfl) ?_
          refine jm_iload_n (x := o) rfl rfl (jM_at hl66 5 rfl) ?_
          refine az_X_call (m' := 97) (as := [.ref (P.1 + 42), .ref (P.1 + 14), .int o]) (rest := []) rfl rfl rfl rfl rfl ?_ ?_
          · unfold si_call
            dsimp only
            rw [if_pos ⟨rfl, rfl⟩]
            show (match si_ix P h63 (P.1 + 42) with | some i => _ | none => none) = _
            rw [jix hH63 (by decide)]
            dsimp only
            rw [(hH63.2 42 _ rfl).1]
            rfl
          refine (hT (d + 11) h63 o _ _ (by omega) hH63 ho e1_h63 rfl rfl hb_h63 (by omega)).mono ?_
          rintro rv71 h71 ⟨rfl, hH71, hs71, f71⟩
          have o_h71 : az_same_out [(14, 2), (14, 3), (42, 6), (43, 1000000), (44, 1000000)] h h71 := ((hs25.sub (by decide)).tr ((hs45.sub (by decide)).tr ((hs53.sub (by decide)).tr ((hs63.sub (by decide)).tr (hs71.sub (by decide))))))
          have e1_h71 : ja h71 14 1 = n := (jso o_h71 (by decide)).trans e1
          have hb_h71 : jBY h71 n hh := jBY_so o_h71 (by decide) hb
          show az_X P _ 96 74 ls66 [] _ _
          refine jn_iinc (x := T) rfl rfl (by decide) (jM_at hl66 2 rfl) hl66 rfl (by decide) (by omega) (by omega) (fun z74 (ez74 : z74.toInt = T.toInt + 1) ls74 (hl74 : jM [(5, .int z74), (4, .int z63), (3, .int (-1)), (0, .ref (P.1 + 42)), (1, .ref (P.1 + 14)), (2, .int o)] ls74) => ?_)
          refine az_X_step (pc' := 14) (ls' := ls74) (st' := []) (h' := h71) rfl rfl rfl ?_
          have q1 : ja h 14 3 = 0 ∧ (hh (ja h 14 2) = 38 ∨ hh (ja h 14 2) = 124) ∧ ja h63 14 2 = ja h 14 2 + 1 ∧ ja h63 14 3 = 0 := by omega
          have fx := f71
          rw [q1.2.2.1, q1.2.2.2] at fx
          have fy := co_step hf q1.1 q1.2.1 fx
          refine ih (j + 1) z74 (-1) z63 h71 ls74 (jM_pick hl74 [0, 2, 1, 3, 4, 5] rfl) hH71 (hs.tr ((hs25.sub (by decide)).tr ((hs45.sub (by decide)).tr ((hs53.sub (by decide)).tr ((hs63.sub (by decide)).tr (hs71.sub (by decide))))))) e1_h71 hb_h71 (by omega) (by omega) fy (fun e e0 => ?_) (by omega) (by omega)
          have := fx.2.1 rfl e0
          have := hm e q1.1
          omega
      · have g28 := jc1_eq_f hc28
        refine jm_aload_n (x := P.1 + 42) rfl rfl (jM_at hl 3 rfl) ?_
        refine az_X_step (pc' := 34) (ls' := ls) (st' := [.int 38, .ref (P.1 + 42)]) (h' := h25) rfl rfl rfl ?_
        refine jm_iload_n (x := U) rfl rfl (jM_at hl 1 rfl) ?_
        refine az_X_call (m' := 94) (as := [.ref (P.1 + 42), .int 38, .int U]) (rest := []) rfl rfl rfl rfl rfl ?_ ?_
        · unfold si_call
          dsimp only
          rw [if_pos ⟨rfl, rfl⟩]
          show (match si_ix P h25 (P.1 + 42) with | some i => _ | none => none) = _
          rw [jix hH25 (by decide)]
          dsimp only
          rw [(hH25.2 42 _ rfl).1]
          rfl
        refine (as_b hxa hH25 38 U (by omega)).mono ?_
        rintro rv35 h35 ⟨z35, rfl, hH35, hs35, f35⟩
        have o_h35 : az_same_out [(14, 2), (14, 3), (42, 6), (43, 1000000), (44, 1000000)] h h35 := ((hs25.sub (by decide)).tr (hs35.sub (by decide)))
        have e1_h35 : ja h35 14 1 = n := (jso o_h35 (by decide)).trans e1
        have hb_h35 : jBY h35 n hh := jBY_so o_h35 (by decide) hb
        have r3_h35 : ja h35 14 3 = ja h25 14 3 := jso hs35 (by decide)
        have r2_h35 : ja h35 14 2 = ja h25 14 2 := jso hs35 (by decide)
        show az_X P _ 96 38 ls [.int z35] _ _
        refine jm_istore_n (l' := [(3, .int z35), (5, .int T), (4, .int V), (0, .ref (P.1 + 42)), (1, .ref (P.1 + 14)), (2, .int o)]) rfl rfl (by decide) hl rfl rfl (fun ls38 hl38 => ?_)
        refine az_X_step (pc' := 68) (ls' := ls38) (st' := []) (h' := h35) rfl rfl rfl ?_
        refine jm_aload_n (x := P.1 + 42) rfl rfl (jM_at hl38 3 rfl) ?_
        refine jm_aload_n (x := P.1 + 14) rfl rfl (jM_at hl38 4 rfl) ?_
        refine jm_iload_n (x := o) rfl rfl (jM_at hl38 5 rfl) ?_
        refine az_X_call (m' := 97) (as := [.ref (P.1 + 42), .ref (P.1 + 14), .int o]) (rest := []) rfl rfl rfl rfl rfl ?_ ?_
        · unfold si_call
          dsimp only
          rw [if_pos ⟨rfl, rfl⟩]
          show (match si_ix P h35 (P.1 + 42) with | some i => _ | none => none) = _
          rw [jix hH35 (by decide)]
          dsimp only
          rw [(hH35.2 42 _ rfl).1]
          rfl
        refine (hT (d + 11) h35 o _ _ (by omega) hH35 ho e1_h35 rfl rfl hb_h35 (by omega)).mono ?_
        rintro rv71 h71 ⟨rfl, hH71, hs71, f71⟩
        have o_h71 : az_same_out [(14, 2), (14, 3), (42, 6), (43, 1000000), (44, 1000000)] h h71 := ((hs25.sub (by decide)).tr ((hs35.sub (by decide)).tr (hs71.sub (by decide))))
        have e1_h71 : ja h71 14 1 = n := (jso o_h71 (by decide)).trans e1
        have hb_h71 : jBY h71 n hh := jBY_so o_h71 (by decide) hb
        show az_X P _ 96 74 ls38 [] _ _
        refine jn_iinc (x := T) rfl rfl (by decide) (jM_at hl38 1 rfl) hl38 rfl (by decide) (by omega) (by omega) (fun z74 (ez74 : z74.toInt = T.toInt + 1) ls74 (hl74 : jM [(5, .int z74), (3, .int z35), (4, .int V), (0, .ref (P.1 + 42)), (1, .ref (P.1 + 14)), (2, .int o)] ls74) => ?_)
        refine az_X_step (pc' := 14) (ls' := ls74) (st' := []) (h' := h71) rfl rfl rfl ?_
        have q1 : ja h 14 3 = 0 ∧ (hh (ja h 14 2) = 38 ∨ hh (ja h 14 2) = 124) ∧ ja h35 14 2 = ja h 14 2 + 1 ∧ ja h35 14 3 = 0 := by omega
        have fx := f71
        rw [q1.2.2.1, q1.2.2.2] at fx
        have fy := co_step hf q1.1 q1.2.1 fx
        refine ih (j + 1) z74 z35 V h71 ls74 (jM_pick hl74 [0, 1, 2, 3, 4, 5] rfl) hH71 (hs.tr ((hs25.sub (by decide)).tr ((hs35.sub (by decide)).tr (hs71.sub (by decide))))) e1_h71 hb_h71 (by omega) (by omega) fy (fun e e0 => ?_) (by omega) (by omega)
        have := fx.2.1 rfl e0
        have := hm e q1.1
        omega
theorem co_b {P : si_P} (hxa : P.2.1 < P.1) {hh : Int → Int} {n : Int} (hn : 1 ≤ n ∧ n ≤ 240) (hh1 : ∀ i : Int, hh i ≤ 255) (k : Nat) (hT : pyM P hh n 42 97 11 k (pyT hh n)) : pyM P hh n 42 96 12 k (pyC hh n) := by
  intro D h o p F hD hH ho e1 e2 e3 hb hpn
  obtain ⟨d, rfl⟩ : ∃ d, D = d + 12 := ⟨D - 12, by omega⟩
  have bp : 0 ≤ ja h 14 2 ∧ ja h 14 2 ≤ 241 := ja_bd hH (i := 14) (k := 2) rfl
  have bF : -7000 ≤ ja h 14 3 ∧ ja h 14 3 ≤ 0 := ja_bd hH (i := 14) (k := 3) rfl
  have hbn := hb.2
  have hl : jM [(0, .ref (P.1 + 42)), (1, .ref (P.1 + 14)), (2, .int o)] (lv_args 0 [.ref (P.1 + 42), .ref (P.1 + 14), .int o]) := jM_args [0, 1, 2] rfl (by decide)
  generalize lv_args 0 [.ref (P.1 + 42), .ref (P.1 + 14), .int o] = ls at hl
  have km1 : ((-1) : Int32).toInt = (-1) := by decide
  have k0 : (0 : Int32).toInt = 0 := by decide
  refine az_X_step (pc' := 1) (ls' := ls) (st' := [.int (-1)]) (h' := h) rfl rfl rfl ?_
  refine jm_istore_n (l' := [(3, .int (-1)), (0, .ref (P.1 + 42)), (1, .ref (P.1 + 14)), (2, .int o)]) rfl rfl (by decide) hl rfl rfl (fun ls1 hl1 => ?_)
  refine az_X_step (pc' := 3) (ls' := ls1) (st' := [.int (-1)]) (h' := h) rfl rfl rfl ?_
  refine jm_istore (l' := [(4, .int (-1)), (3, .int (-1)), (0, .ref (P.1 + 42)), (1, .ref (P.1 + 14)), (2, .int o)]) rfl rfl (by decide) hl1 rfl rfl (fun ls3 hl3 => ?_)
  refine jm_aload_n (x := P.1 + 42) rfl rfl (jM_at hl3 2 rfl) ?_
  refine jm_aload_n (x := P.1 + 14) rfl rfl (jM_at hl3 3 rfl) ?_
  refine jm_iload_n (x := o) rfl rfl (jM_at hl3 4 rfl) ?_
  refine az_X_call (m' := 97) (as := [.ref (P.1 + 42), .ref (P.1 + 14), .int o]) (rest := []) rfl rfl rfl rfl rfl ?_ ?_
  · unfold si_call
    dsimp only
    rw [if_pos ⟨rfl, rfl⟩]
    show (match si_ix P h (P.1 + 42) with | some i => _ | none => none) = _
    rw [jix hH (by decide)]
    dsimp only
    rw [(hH.2 42 _ rfl).1]
    rfl
  refine (hT (d + 11) h o p F (by omega) hH ho e1 e2 e3 hb hpn).mono ?_
  rintro rv8 h8 ⟨rfl, hH8, hs8, f8⟩
  have o_h8 : az_same_out [(14, 2), (14, 3), (42, 6), (43, 1000000), (44, 1000000)] h h8 := (hs8.sub (by decide))
  have e1_h8 : ja h8 14 1 = n := (jso o_h8 (by decide)).trans e1
  have hb_h8 : jBY h8 n hh := jBY_so o_h8 (by decide) hb
  show az_X P _ 96 11 ls3 [] _ _
  refine az_X_step (pc' := 12) (ls' := ls3) (st' := [.int 0]) (h' := h8) rfl rfl rfl ?_
  refine jm_istore (l' := [(5, .int 0), (4, .int (-1)), (3, .int (-1)), (0, .ref (P.1 + 42)), (1, .ref (P.1 + 14)), (2, .int o)]) rfl rfl (by decide) hl3 rfl rfl (fun ls12 hl12 => ?_)
  refine co_lb (d := d) hxa hn hh1 hT (h0 := h) o ho (by omega) 240 0 0 (-1) (-1) h8 ls12 (jM_pick hl12 [0, 2, 1, 3, 4, 5] rfl) hH8 o_h8 e1_h8 hb_h8 (by decide) (by omega) (pyT_D f8) (fun e e0 => ?_) (by decide) (by decide)
  have b5 : 0 ≤ ja h8 14 2 ∧ ja h8 14 2 ≤ 241 := ja_bd hH8 (i := 14) (k := 2) rfl
  omega
theorem tc_b {P : si_P} (hxa : P.2.1 < P.1) {hh : Int → Int} {n : Int} (hn : 1 ≤ n ∧ n ≤ 240) (hh1 : ∀ i : Int, hh i ≤ 255) : ∀ k : Nat, pyM P hh n 42 97 11 k (pyT hh n) ∧ pyM P hh n 42 96 12 k (pyC hh n)
  | 0 => by
    have a := te_b hxa hn hh1 0 (fx_b hxa hn hh1 0).2 (fun k1 e => absurd e (by omega)) (fun k1 e => absurd e (by omega))
    exact ⟨a, co_b hxa hn hh1 0 a⟩
  | k + 1 => by
    have i := tc_b hxa hn hh1 k
    have a := te_b hxa hn hh1 (k + 1) (fx_b hxa hn hh1 (k + 1)).2 (fun k1 e => by
      have : k1 = k := by omega
      rw [this]
      exact i.1) (fun k1 e => by
      have : k1 = k := by omega
      rw [this]
      exact i.2)
    exact ⟨a, co_b hxa hn hh1 (k + 1) a⟩
