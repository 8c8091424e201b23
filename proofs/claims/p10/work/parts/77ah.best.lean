set_option maxRecDepth 100000
theorem olong_ok {P : si_P} {d : Nat} {h : si_H} (hH : az_HI P az_tb h) (h2 : 2 ≤ ja h 2 1) (t : Int32) : az_X P (d + 1) 77 0 (lv_args 0 [.ref (P.1 + 2), .int t]) [] h (fun rv h' => h' = h ∧ jV rv (t.toInt % ja h 2 0)) := by
  have bm : 4 ≤ ja h 2 0 ∧ ja h 2 0 ≤ 60 := ja_bd hH (i := 2) (k := 0) rfl
  have br : 2 ≤ ja h 2 1 ∧ ja h 2 1 ≤ 24 := ⟨h2, (ja_bd hH (i := 2) (k := 1) rfl).2⟩
  have bp := nm_mulnn (a := 4) (b := 60) (c := 2) (d := 24) (x := ja h 2 0) (y := ja h 2 1) (by decide) (by decide) bm.1 bm.2 br.1 br.2
  have hl : jM [(0, .ref (P.1 + 2)), (1, .int t)] (lv_args 0 [.ref (P.1 + 2), .int t]) := jM_args [0, 1] rfl (by decide)
  generalize lv_args 0 [.ref (P.1 + 2), .int t] = ls at hl
  refine jm_iload_n (x := t) rfl rfl (jM_at hl 1 rfl) ?_
  refine jm_aload_n (x := P.1 + 2) rfl rfl (jM_at hl 0 rfl) ?_
  refine jn_gf (i := 2) (k := 0) rfl rfl hH (by decide) (hH.2 2 _ rfl).1 rfl rfl (fun z2 (ez2 : z2.toInt = ja h 2 0) (bz2 : 4 ≤ z2.toInt ∧ z2.toInt ≤ 60) => ?_)
  refine az_X_call (m' := 200) (as := [.int t, .int z2]) (rest := []) rfl rfl rfl rfl rfl rfl ?_
  refine (modulo_ok t z2 (by omega)).mono ?_
  rintro rv5 h5 ⟨q5, z5, rfl, ez5⟩
  subst h5
  show az_X P _ 77 8 ls [.int z5] _ _
  refine jx_ret rfl rfl rfl ?_
  exact ⟨rfl, z5, rfl, by rw [ez5, ez2]⟩
theorem oshort_ok {P : si_P} {d : Nat} {h : si_H} (hH : az_HI P az_tb h) (h2 : 2 ≤ ja h 2 1) (t : Int32) (ht : 0 ≤ t.toInt) : az_X P (d + 1) 76 0 (lv_args 0 [.ref (P.1 + 2), .int t]) [] h (fun rv h' => h' = h ∧ jV rv (t.toInt / ja h 2 1)) := by
  have bm : 4 ≤ ja h 2 0 ∧ ja h 2 0 ≤ 60 := ja_bd hH (i := 2) (k := 0) rfl
  have br : 2 ≤ ja h 2 1 ∧ ja h 2 1 ≤ 24 := ⟨h2, (ja_bd hH (i := 2) (k := 1) rfl).2⟩
  have bp := nm_mulnn (a := 4) (b := 60) (c := 2) (d := 24) (x := ja h 2 0) (y := ja h 2 1) (by decide) (by decide) bm.1 bm.2 br.1 br.2
  have hl : jM [(0, .ref (P.1 + 2)), (1, .int t)] (lv_args 0 [.ref (P.1 + 2), .int t]) := jM_args [0, 1] rfl (by decide)
  generalize lv_args 0 [.ref (P.1 + 2), .int t] = ls at hl
  refine jm_iload_n (x := t) rfl rfl (jM_at hl 1 rfl) ?_
  refine jm_aload_n (x := P.1 + 2) rfl rfl (jM_at hl 0 rfl) ?_
  refine jn_gf (i := 2) (k := 1) rfl rfl hH (by decide) (hH.2 2 _ rfl).1 rfl rfl (fun z2 (ez2 : z2.toInt = ja h 2 1) (bz2 : 1 ≤ z2.toInt ∧ z2.toInt ≤ 24) => ?_)
  refine az_X_call (m' := 199) (as := [.int t, .int z2]) (rest := []) rfl rfl rfl rfl rfl rfl ?_
  refine (through_ok t z2 ht (by omega)).mono ?_
  rintro rv5 h5 ⟨q5, z5, rfl, ez5⟩
  subst h5
  show az_X P _ 76 8 ls [.int z5] _ _
  refine jx_ret rfl rfl rfl ?_
  exact ⟨rfl, z5, rfl, by rw [ez5, ez2]⟩
theorem oround_ok {P : si_P} {d : Nat} {h : si_H} (hH : az_HI P az_tb h) (h2 : 2 ≤ ja h 2 1) : az_X P d 73 0 (lv_args 0 [.ref (P.1 + 2)]) [] h (fun rv h' => h' = h ∧ jV rv (ja h 2 0 * ja h 2 1)) := by
  have bm : 4 ≤ ja h 2 0 ∧ ja h 2 0 ≤ 60 := ja_bd hH (i := 2) (k := 0) rfl
  have br : 2 ≤ ja h 2 1 ∧ ja h 2 1 ≤ 24 := ⟨h2, (ja_bd hH (i := 2) (k := 1) rfl).2⟩
  have bp := nm_mulnn (a := 4) (b := 60) (c := 2) (d := 24) (x := ja h 2 0) (y := ja h 2 1) (by decide) (by decide) bm.1 bm.2 br.1 br.2
  have hl : jM [(0, .ref (P.1 + 2))] (lv_args 0 [.ref (P.1 + 2)]) := jM_args [0] rfl (by decide)
  generalize lv_args 0 [.ref (P.1 + 2)] = ls at hl
  refine jm_aload_n (x := P.1 + 2) rfl rfl (jM_at hl 0 rfl) ?_
  refine jn_gf (i := 2) (k := 0) rfl rfl hH (by decide) (hH.2 2 _ rfl).1 rfl rfl (fun z1 (ez1 : z1.toInt = ja h 2 0) (bz1 : 4 ≤ z1.toInt ∧ z1.toInt ≤ 60) => ?_)
  refine jm_aload_n (x := P.1 + 2) rfl rfl (jM_at hl 0 rfl) ?_
  refine jn_gf (i := 2) (k := 1) rfl rfl hH (by decide) (hH.2 2 _ rfl).1 rfl rfl (fun z5 (ez5 : z5.toInt = ja h 2 1) (bz5 : 1 ≤ z5.toInt ∧ z5.toInt ≤ 24) => ?_)
  refine jn_mul (a := z1) (b := z5) rfl rfl (by rw [ez1, ez5]; omega) (by rw [ez1, ez5]; omega) (fun z8 ez8 => ?_)
  refine jx_ret rfl rfl rfl ?_
  exact ⟨rfl, z8, rfl, by rw [ez8, ez1, ez5]⟩
theorem olowest_ok {P : si_P} {d : Nat} {h : si_H} (hH : az_HI P az_tb h) (h2 : 2 ≤ ja h 2 1) (a b : Int32) (ha : 0 ≤ a.toInt ∧ a.toInt ≤ 1000) (hb : 0 ≤ b.toInt ∧ b.toInt ≤ 1000) : az_X P (d + 1) 83 0 (lv_args 0 [.ref (P.1 + 2), .int a, .int b]) [] h (fun rv h' => h' = h ∧ jV rv (jlw (ja h 2 0) (ja h 2 1) a.toInt b.toInt)) := by
  have bm : 4 ≤ ja h 2 0 ∧ ja h 2 0 ≤ 60 := ja_bd hH (i := 2) (k := 0) rfl
  have br : 2 ≤ ja h 2 1 ∧ ja h 2 1 ≤ 24 := ⟨h2, (ja_bd hH (i := 2) (k := 1) rfl).2⟩
  have bp := nm_mulnn (a := 4) (b := 60) (c := 2) (d := 24) (x := ja h 2 0) (y := ja h 2 1) (by decide) (by decide) bm.1 bm.2 br.1 br.2
  have ba := nm_mulnn (a := 0) (b := 1000) (c := 2) (d := 24) (x := a.toInt) (y := ja h 2 1) (by decide) (by decide) ha.1 ha.2 br.1 br.2
  have hl : jM [(0, .ref (P.1 + 2)), (1, .int a), (2, .int b)] (lv_args 0 [.ref (P.1 + 2), .int a, .int b]) := jM_args [0, 1, 2] rfl (by decide)
  generalize lv_args 0 [.ref (P.1 + 2), .int a, .int b] = ls at hl
  have km2 : ((-2) : Int32).toInt = (-2) := by decide
  refine jm_iload_n (x := a) rfl rfl (jM_at hl 1 rfl) ?_
  refine jm_aload_n (x := P.1 + 2) rfl rfl (jM_at hl 0 rfl) ?_
  refine jn_gf (i := 2) (k := 1) rfl rfl hH (by decide) (hH.2 2 _ rfl).1 rfl rfl (fun z2 (ez2 : z2.toInt = ja h 2 1) (bz2 : 1 ≤ z2.toInt ∧ z2.toInt ≤ 24) => ?_)
  refine jn_mul (a := a) (b := z2) rfl rfl (by rw [ez2]; omega) (by rw [ez2]; omega) (fun z5 ez5 => ?_)
  have e5a : z5.toInt = a.toInt * ja h 2 1 := by rw [ez5, ez2]
  refine jm_istore_n (l' := [(3, .int z5), (0, .ref (P.1 + 2)), (1, .int a), (2, .int b)]) rfl rfl (by decide) hl rfl rfl (fun ls6 hl6 => ?_)
  refine jm_iload_n (x := z5) rfl rfl (jM_at hl6 0 rfl) ?_
  refine jm_iload_n (x := b) rfl rfl (jM_at hl6 3 rfl) ?_
  refine jm_iload_n (x := z5) rfl rfl (jM_at hl6 0 rfl) ?_
  refine jn_sub (a := b) (b := z5) rfl rfl (by omega) (by omega) (fun z10 ez10 => ?_)
  refine jm_aload_n (x := P.1 + 2) rfl rfl (jM_at hl6 1 rfl) ?_
  refine jn_gf (i := 2) (k := 0) rfl rfl hH (by decide) (hH.2 2 _ rfl).1 rfl rfl (fun z12 (ez12 : z12.toInt = ja h 2 0) (bz12 : 4 ≤ z12.toInt ∧ z12.toInt ≤ 60) => ?_)
  refine az_X_call (m' := 200) (as := [.int z10, .int z12]) (rest := [.int z5]) rfl rfl rfl rfl rfl rfl ?_
  refine (modulo_ok z10 z12 (by omega)).mono ?_
  rintro rv15 h15 ⟨q15, z15, rfl, ez15⟩
  subst h15
  have bz15 := Int.emod_nonneg z10.toInt (b := z12.toInt) (by omega)
  have cz15 := Int.emod_lt_of_pos z10.toInt (b := z12.toInt) (by omega)
  show az_X P _ 83 18 ls6 [.int z15, .int z5] _ _
  refine jn_add (a := z5) (b := z15) rfl rfl (by omega) (by omega) (fun z18 ez18 => ?_)
  refine jm_istore (l' := [(4, .int z18), (3, .int z5), (0, .ref (P.1 + 2)), (1, .int a), (2, .int b)]) rfl rfl (by decide) hl6 rfl rfl (fun ls19 hl19 => ?_)
  refine jm_iload (x := z18) rfl rfl (jM_at hl19 0 rfl) ?_
  refine jm_iload_n (x := z5) rfl rfl (jM_at hl19 1 rfl) ?_
  refine jm_aload_n (x := P.1 + 2) rfl rfl (jM_at hl19 2 rfl) ?_
  refine jn_gf (i := 2) (k := 1) rfl rfl hH (by decide) (hH.2 2 _ rfl).1 rfl rfl (fun z25 (ez25 : z25.toInt = ja h 2 1) (bz25 : 1 ≤ z25.toInt ∧ z25.toInt ≤ 24) => ?_)
  refine jn_add (a := z5) (b := z25) rfl rfl (by omega) (by omega) (fun z28 ez28 => ?_)
  refine jx_ic (t := 37) rfl rfl rfl (fun hc29 => ?_) (fun hc29 => ?_)
  · have g29 := jc2_ge_t hc29
    refine az_X_step (pc' := 39) (ls' := ls19) (st' := [.int (-2)]) (h' := h) rfl rfl rfl ?_
    refine jx_ret rfl rfl rfl ?_
    refine ⟨rfl, (-2), rfl, ?_⟩
    have e5 : z5.toInt = a.toInt * ja h 2 1 := by rw [ez5, ez2]
    have e15 : z15.toInt = (b.toInt - a.toInt * ja h 2 1) % ja h 2 0 := by rw [ez15, ez12, ez10, e5]
    unfold jlw
    rw [if_neg (by omega)]; decide
  · have g29 := jc2_ge_f hc29
    refine jm_iload (x := z18) rfl rfl (jM_at hl19 0 rfl) ?_
    refine az_X_step (pc' := 39) (ls' := ls19) (st' := [.int z18]) (h' := h) rfl rfl rfl ?_
    refine jx_ret rfl rfl rfl ?_
    refine ⟨rfl, z18, rfl, ?_⟩
    have e5 : z5.toInt = a.toInt * ja h 2 1 := by rw [ez5, ez2]
    have e15 : z15.toInt = (b.toInt - a.toInt * ja h 2 1) % ja h 2 0 := by rw [ez15, ez12, ez10, e5]
    unfold jlw
    rw [if_pos (by omega)]; omega
theorem omany_ok {P : si_P} {d : Nat} {h : si_H} (hH : az_HI P az_tb h) (h2 : 2 ≤ ja h 2 1) (s l : Int32) (hs : 0 ≤ s.toInt ∧ s.toInt < ja h 2 0) (hl : 0 ≤ l.toInt ∧ l.toInt < ja h 2 0) : az_X P (d + 2) 85 0 (lv_args 0 [.ref (P.1 + 2), .int s, .int l]) [] h (fun rv h' => h' = h ∧ jV rv (jmq (ja h 2 0) (ja h 2 1) s.toInt l.toInt)) := by
  have bm : 4 ≤ ja h 2 0 ∧ ja h 2 0 ≤ 60 := ja_bd hH (i := 2) (k := 0) rfl
  have br : 2 ≤ ja h 2 1 ∧ ja h 2 1 ≤ 24 := ⟨h2, (ja_bd hH (i := 2) (k := 1) rfl).2⟩
  have bp := nm_mulnn (a := 4) (b := 60) (c := 2) (d := 24) (x := ja h 2 0) (y := ja h 2 1) (by decide) (by decide) bm.1 bm.2 br.1 br.2
  have bs := nm_mulnn (a := 0) (b := 60) (c := 2) (d := 24) (x := s.toInt) (y := ja h 2 1) (by decide) (by decide) hs.1 (by omega) br.1 br.2
  have hl : jM [(0, .ref (P.1 + 2)), (1, .int s), (2, .int l)] (lv_args 0 [.ref (P.1 + 2), .int s, .int l]) := jM_args [0, 1, 2] rfl (by decide)
  generalize lv_args 0 [.ref (P.1 + 2), .int s, .int l] = ls at hl
  have k0 : (0 : Int32).toInt = 0 := by decide
  have k1 : (1 : Int32).toInt = 1 := by decide
  refine jm_aload_n (x := P.1 + 2) rfl rfl (jM_at hl 0 rfl) ?_
  refine jm_iload_n (x := s) rfl rfl (jM_at hl 1 rfl) ?_
  refine jm_iload_n (x := l) rfl rfl (jM_at hl 2 rfl) ?_
  refine az_X_call (m' := 83) (as := [.ref (P.1 + 2), .int s, .int l]) (rest := []) rfl rfl rfl rfl rfl ?_ ?_
  · unfold si_call
    dsimp only
    rw [if_pos ⟨rfl, rfl⟩]
    show (match si_ix P h (P.1 + 2) with | some i => _ | none => none) = _
    rw [jix hH (by decide)]
    dsimp only
    rw [(hH.2 2 _ rfl).1]
    rfl
  refine (olowest_ok hH h2 s l (by omega) (by omega)).mono ?_
  rintro rv3 h3 ⟨q3, z3, rfl, ez3⟩
  subst h3
  show az_X P _ 85 6 ls [.int z3] _ _
  refine jm_istore_n (l' := [(3, .int z3), (0, .ref (P.1 + 2)), (1, .int s), (2, .int l)]) rfl rfl (by decide) hl rfl rfl (fun ls6 hl6 => ?_)
  refine jm_iload_n (x := s) rfl rfl (jM_at hl6 2 rfl) ?_
  refine az_X_step (pc' := 9) (ls' := ls6) (st' := [.int 1, .int s]) (h' := h) rfl rfl rfl ?_
  refine jn_add (a := s) (b := 1) rfl rfl (by omega) (by omega) (fun z9 ez9 => ?_)
  rw [show (1 : Int32).toInt = 1 by decide] at ez9
  refine jm_aload_n (x := P.1 + 2) rfl rfl (jM_at hl6 1 rfl) ?_
  refine jn_gf (i := 2) (k := 1) rfl rfl hH (by decide) (hH.2 2 _ rfl).1 rfl rfl (fun z11 (ez11 : z11.toInt = ja h 2 1) (bz11 : 1 ≤ z11.toInt ∧ z11.toInt ≤ 24) => ?_)
  have hp14 := nm_mulnn (a := 0) (b := 61) (c := 2) (d := 24) (x := z9.toInt) (y := z11.toInt) (by decide) (by decide) (by omega) (by omega) (by omega) (by omega)
  refine jn_mul (a := z9) (b := z11) rfl rfl (by omega) (by omega) (fun z14 ez14 => ?_)
  refine az_X_step (pc' := 16) (ls' := ls6) (st' := [.int 1, .int z14]) (h' := h) rfl rfl rfl ?_
  refine jn_sub (a := z14) (b := 1) rfl rfl (by omega) (by omega) (fun z16 ez16 => ?_)
  rw [show (1 : Int32).toInt = 1 by decide] at ez16
  refine jm_istore (l' := [(4, .int z16), (3, .int z3), (0, .ref (P.1 + 2)), (1, .int s), (2, .int l)]) rfl rfl (by decide) hl6 rfl rfl (fun ls17 hl17 => ?_)
  refine jm_iload_n (x := z3) rfl rfl (jM_at hl17 1 rfl) ?_
  refine jx_if (t := 27) rfl rfl rfl (fun hc20 => ?_) (fun hc20 => ?_)
  · have g20 := jc1_ge_t hc20
    refine az_X_step (pc' := 28) (ls' := ls17) (st' := [.int 1]) (h' := h) rfl rfl rfl ?_
    refine jm_iload (x := z16) rfl rfl (jM_at hl17 0 rfl) ?_
    refine jm_iload_n (x := z3) rfl rfl (jM_at hl17 1 rfl) ?_
    have je0 := jmq_eq (m := ja h 2 0) (r := ja h 2 1) (s := s.toInt) (l := l.toInt) (by omega) (by omega) (by omega) (by omega)
    have je1 := je0.2 (by omega)
    refine jn_sub (a := z16) (b := z3) rfl rfl (by omega) (by omega) (fun z31 ez31 => ?_)
    refine jm_aload_n (x := P.1 + 2) rfl rfl (jM_at hl17 2 rfl) ?_
    refine jn_gf (i := 2) (k := 0) rfl rfl hH (by decide) (hH.2 2 _ rfl).1 rfl rfl (fun z33 (ez33 : z33.toInt = ja h 2 0) (bz33 : 4 ≤ z33.toInt ∧ z33.toInt ≤ 60) => ?_)
    refine az_X_call (m' := 199) (as := [.int z31, .int z33]) (rest := [.int 1]) rfl rfl rfl rfl rfl rfl ?_
    refine (through_ok z31 z33 (by
      have je := jmq_eq (m := ja h 2 0) (r := ja h 2 1) (s := s.toInt) (l := l.toInt) (by omega) (by omega) (by omega) (by omega)
      have ep : z9.toInt * z11.toInt = s.toInt * ja h 2 1 + ja h 2 1 := by rw [ez9, ez11, Int.add_mul, Int.one_mul]
      have := je.2 (by omega)
      omega) (by omega)).mono ?_
    rintro rv36 h36 ⟨q36, z36, rfl, ez36⟩
    subst h36
    show az_X P _ 85 39 ls17 [.int z36, .int 1] _ _
    have jb1 := jct_bd (fun j => decide ((s.toInt * ja h 2 1 + (j : Int)) % ja h 2 0 = l.toInt)) (ja h 2 1).toNat
    have jb2 : z36.toInt + 1 = jmq (ja h 2 0) (ja h 2 1) s.toInt l.toInt := by
      have ep : z9.toInt * z11.toInt = s.toInt * ja h 2 1 + ja h 2 1 := by rw [ez9, ez11, Int.add_mul, Int.one_mul]
      rw [je1.2.2, ez36, ez33, show z31.toInt = s.toInt * ja h 2 1 + ja h 2 1 - 1 - jlw (ja h 2 0) (ja h 2 1) s.toInt l.toInt by omega]
      omega
    have jb3 : 0 ≤ z36.toInt + 1 ∧ z36.toInt + 1 ≤ 24 := by
      rw [jb2]
      unfold jmq
      omega
    refine jn_add (a := 1) (b := z36) rfl rfl (by omega) (by omega) (fun z39 ez39 => ?_)
    rw [show (1 : Int32).toInt = 1 by decide] at ez39
    refine jx_ret rfl rfl rfl ?_
    have je := jmq_eq (m := ja h 2 0) (r := ja h 2 1) (s := s.toInt) (l := l.toInt) (by omega) (by omega) (by omega) (by omega)
    have ep : z9.toInt * z11.toInt = s.toInt * ja h 2 1 + ja h 2 1 := by rw [ez9, ez11, Int.add_mul, Int.one_mul]
    exact ⟨rfl, z39, rfl, by rw [(je.2 (by omega)).2.2, ez39, ez36, ez33, show z31.toInt = s.toInt * ja h 2 1 + ja h 2 1 - 1 - jlw (ja h 2 0) (ja h 2 1) s.toInt l.toInt by omega]⟩
  · have g20 := jc1_ge_f hc20
    refine az_X_step (pc' := 24) (ls' := ls17) (st' := [.int 0]) (h' := h) rfl rfl rfl ?_
    refine az_X_step (pc' := 40) (ls' := ls17) (st' := [.int 0]) (h' := h) rfl rfl rfl ?_
    refine jx_ret rfl rfl rfl ?_
    have je := jmq_eq (m := ja h 2 0) (r := ja h 2 1) (s := s.toInt) (l := l.toInt) (by omega) (by omega) (by omega) (by omega)
    have ep : z9.toInt * z11.toInt = s.toInt * ja h 2 1 + ja h 2 1 := by rw [ez9, ez11, Int.add_mul, Int.one_mul]
    exact ⟨rfl, 0, rfl, by rw [je.1 (by omega)]; decide⟩
theorem oalike_ok {P : si_P} {d : Nat} {h : si_H} (hH : az_HI P az_tb h) (h2 : 2 ≤ ja h 2 1) (t : Int32) (ht : 0 ≤ t.toInt ∧ t.toInt < ja h 2 0 * ja h 2 1) : az_X P (d + 3) 86 0 (lv_args 0 [.ref (P.1 + 2), .int t]) [] h (fun rv h' => h' = h ∧ jV rv (jam (ja h 2 0) (ja h 2 1) (ja h 2 0 * ja h 2 1).toNat (jlk (ja h 2 0) (ja h 2 1) t.toInt))) := by
  have bm : 4 ≤ ja h 2 0 ∧ ja h 2 0 ≤ 60 := ja_bd hH (i := 2) (k := 0) rfl
  have br : 2 ≤ ja h 2 1 ∧ ja h 2 1 ≤ 24 := ⟨h2, (ja_bd hH (i := 2) (k := 1) rfl).2⟩
  have bp := nm_mulnn (a := 4) (b := 60) (c := 2) (d := 24) (x := ja h 2 0) (y := ja h 2 1) (by decide) (by decide) bm.1 bm.2 br.1 br.2
  have dm := jdm (m := ja h 2 0) (r := ja h 2 1) (a := t.toInt) bm br ht.1 ht.2
  have hl : jM [(0, .ref (P.1 + 2)), (1, .int t)] (lv_args 0 [.ref (P.1 + 2), .int t]) := jM_args [0, 1] rfl (by decide)
  generalize lv_args 0 [.ref (P.1 + 2), .int t] = ls at hl
  refine jm_aload_n (x := P.1 + 2) rfl rfl (jM_at hl 0 rfl) ?_
  refine jm_iload_n (x := t) rfl rfl (jM_at hl 1 rfl) ?_
  refine az_X_call (m' := 76) (as := [.ref (P.1 + 2), .int t]) (rest := []) rfl rfl rfl rfl rfl ?_ ?_
  · unfold si_call
    dsimp only
    rw [if_pos ⟨rfl, rfl⟩]
    show (match si_ix P h (P.1 + 2) with | some i => _ | none => none) = _
    rw [jix hH (by decide)]
    dsimp only
    rw [(hH.2 2 _ rfl).1]
    rfl
  refine (oshort_ok hH h2 t ht.1).mono ?_
  rintro rv2 h2 ⟨q2, z2, rfl, ez2⟩
  subst h2
  show az_X P _ 86 5 ls [.int z2] _ _
  refine jm_istore_n (l' := [(2, .int z2), (0, .ref (P.1 + 2)), (1, .int t)]) rfl rfl (by decide) hl rfl rfl (fun ls5 hl5 => ?_)
  refine jm_aload_n (x := P.1 + 2) rfl rfl (jM_at hl5 1 rfl) ?_
  refine jm_iload_n (x := t) rfl rfl (jM_at hl5 2 rfl) ?_
  refine az_X_call (m' := 77) (as := [.ref (P.1 + 2), .int t]) (rest := []) rfl rfl rfl rfl rfl ?_ ?_
  · unfold si_call
    dsimp only
    rw [if_pos ⟨rfl, rfl⟩]
    show (match si_ix P h (P.1 + 2) with | some i => _ | none => none) = _
    rw [jix hH (by decide)]
    dsimp only
    rw [(hH.2 2 _ rfl).1]
    rfl
  refine (olong_ok hH h2 t).mono ?_
  rintro rv8 h8 ⟨q8, z8, rfl, ez8⟩
  subst h8
  show az_X P _ 86 11 ls5 [.int z8] _ _
  refine jm_istore_n (l' := [(3, .int z8), (2, .int z2), (0, .ref (P.1 + 2)), (1, .int t)]) rfl rfl (by decide) hl5 rfl rfl (fun ls11 hl11 => ?_)
  refine jm_aload_n (x := P.1 + 2) rfl rfl (jM_at hl11 2 rfl) ?_
  refine jm_iload_n (x := z2) rfl rfl (jM_at hl11 1 rfl) ?_
  refine jm_iload_n (x := z8) rfl rfl (jM_at hl11 0 rfl) ?_
  refine az_X_call (m' := 85) (as := [.ref (P.1 + 2), .int z2, .int z8]) (rest := []) rfl rfl rfl rfl rfl ?_ ?_
  · unfold si_call
    dsimp only
    rw [if_pos ⟨rfl, rfl⟩]
    show (match si_ix P h (P.1 + 2) with | some i => _ | none => none) = _
    rw [jix hH (by decide)]
    dsimp only
    rw [(hH.2 2 _ rfl).1]
    rfl
  refine (omany_ok hH h2 z2 z8 (by omega) (by omega)).mono ?_
  rintro rv15 h15 ⟨q15, z15, rfl, ez15⟩
  subst h15
  have bz15 := jct_bd (fun j => decide ((z2.toInt * ja h 2 1 + (j : Int)) % ja h 2 0 = z8.toInt)) (ja h 2 1).toNat
  have cz15 : 0 ≤ z15.toInt ∧ z15.toInt ≤ 24 := by
    rw [ez15]
    unfold jmq
    omega
  show az_X P _ 86 18 ls11 [.int z15] _ _
  refine jm_istore (l' := [(4, .int z15), (3, .int z8), (2, .int z2), (0, .ref (P.1 + 2)), (1, .int t)]) rfl rfl (by decide) hl11 rfl rfl (fun ls18 hl18 => ?_)
  refine jm_iload_n (x := z2) rfl rfl (jM_at hl18 2 rfl) ?_
  refine jm_iload_n (x := z8) rfl rfl (jM_at hl18 1 rfl) ?_
  refine jx_ic (t := 30) rfl rfl rfl (fun hc22 => ?_) (fun hc22 => ?_)
  · have g22 := jc2_ne_t hc22
    refine jm_iload (x := z15) rfl rfl (jM_at hl18 0 rfl) ?_
    refine jm_aload_n (x := P.1 + 2) rfl rfl (jM_at hl18 3 rfl) ?_
    refine jm_iload_n (x := z8) rfl rfl (jM_at hl18 1 rfl) ?_
    refine jm_iload_n (x := z2) rfl rfl (jM_at hl18 2 rfl) ?_
    refine az_X_call (m' := 85) (as := [.ref (P.1 + 2), .int z8, .int z2]) (rest := [.int z15]) rfl rfl rfl rfl rfl ?_ ?_
    · unfold si_call
      dsimp only
      rw [if_pos ⟨rfl, rfl⟩]
      show (match si_ix P h (P.1 + 2) with | some i => _ | none => none) = _
      rw [jix hH (by decide)]
      dsimp only
      rw [(hH.2 2 _ rfl).1]
      rfl
    refine (omany_ok hH h2 z8 z2 (by omega) (by omega)).mono ?_
    rintro rv35 h35 ⟨q35, z35, rfl, ez35⟩
    subst h35
    have bz35 := jct_bd (fun j => decide ((z8.toInt * ja h 2 1 + (j : Int)) % ja h 2 0 = z2.toInt)) (ja h 2 1).toNat
    have cz35 : 0 ≤ z35.toInt ∧ z35.toInt ≤ 24 := by
      rw [ez35]
      unfold jmq
      omega
    show az_X P _ 86 38 ls18 [.int z35, .int z15] _ _
    refine jn_add (a := z15) (b := z35) rfl rfl (by omega) (by omega) (fun z38 ez38 => ?_)
    refine jx_ret rfl rfl rfl ?_
    have ja1 := jam_at (m := ja h 2 0) (r := ja h 2 1) (y := (ja h 2 0 * ja h 2 1).toNat) bm br (by omega) (s := t.toInt / ja h 2 1) (l := t.toInt % ja h 2 0) dm.2 dm.1
    refine ⟨rfl, z38, rfl, ?_⟩
    unfold jlk
    rw [ja1]
    rw [if_neg (by omega), ez38, ez15, ez35, ez2, ez8]
  · have g22 := jc2_ne_f hc22
    refine jm_iload (x := z15) rfl rfl (jM_at hl18 0 rfl) ?_
    refine az_X_step (pc' := 39) (ls' := ls18) (st' := [.int z15]) (h' := h) rfl rfl rfl ?_
    refine jx_ret rfl rfl rfl ?_
    have ja1 := jam_at (m := ja h 2 0) (r := ja h 2 1) (y := (ja h 2 0 * ja h 2 1).toNat) bm br (by omega) (s := t.toInt / ja h 2 1) (l := t.toInt % ja h 2 0) dm.2 dm.1
    refine ⟨rfl, z15, rfl, ?_⟩
    unfold jlk
    rw [ja1]
    rw [if_pos (by omega), ez15, ez2, ez8, Int.add_zero]
theorem otold_ok {P : si_P} {d : Nat} {h : si_H} (hH : az_HI P az_tb h) (h2 : 2 ≤ ja h 2 1) (t : Int32) (ht : 0 ≤ t.toInt ∧ t.toInt < ja h 2 0 * ja h 2 1) : az_X P (d + 4) 87 0 (lv_args 0 [.ref (P.1 + 2), .int t]) [] h (fun rv h' => h' = h ∧ jV rv (jb (jtl (ja h 2 0) (ja h 2 1) (ja h 2 0 * ja h 2 1).toNat t.toInt))) := by
  have hl : jM [(0, .ref (P.1 + 2)), (1, .int t)] (lv_args 0 [.ref (P.1 + 2), .int t]) := jM_args [0, 1] rfl (by decide)
  generalize lv_args 0 [.ref (P.1 + 2), .int t] = ls at hl
  have k0 : (0 : Int32).toInt = 0 := by decide
  have k1 : (1 : Int32).toInt = 1 := by decide
  refine jm_aload_n (x := P.1 + 2) rfl rfl (jM_at hl 0 rfl) ?_
  refine jm_iload_n (x := t) rfl rfl (jM_at hl 1 rfl) ?_
  refine az_X_call (m' := 86) (as := [.ref (P.1 + 2), .int t]) (rest := []) rfl rfl rfl rfl rfl ?_ ?_
  · unfold si_call
    dsimp only
    rw [if_pos ⟨rfl, rfl⟩]
    show (match si_ix P h (P.1 + 2) with | some i => _ | none => none) = _
    rw [jix hH (by decide)]
    dsimp only
    rw [(hH.2 2 _ rfl).1]
    rfl
  refine (oalike_ok hH h2 t ht).mono ?_
  rintro rv2 h2 ⟨q2, z2, rfl, ez2⟩
  subst h2
  show az_X P _ 87 5 ls [.int z2] _ _
  refine az_X_step (pc' := 6) (ls' := ls) (st' := [.int 1, .int z2]) (h' := h) rfl rfl rfl ?_
  refine jx_ic (t := 13) rfl rfl rfl (fun hc6 => ?_) (fun hc6 => ?_)
  · have g6 := jc2_ne_t hc6
    refine az_X_step (pc' := 14) (ls' := ls) (st' := [.int 0]) (h' := h) rfl rfl rfl ?_
    refine jx_retz rfl rfl rfl (by decide) ?_
    rw [ez2, k1] at g6
    exact ⟨rfl, 0, rfl, by unfold jb jtl; rw [decide_eq_false g6, if_neg (by decide)]; decide⟩
  · have g6 := jc2_ne_f hc6
    refine az_X_step (pc' := 10) (ls' := ls) (st' := [.int 1]) (h' := h) rfl rfl rfl ?_
    refine az_X_step (pc' := 14) (ls' := ls) (st' := [.int 1]) (h' := h) rfl rfl rfl ?_
    refine jx_retz rfl rfl rfl (by decide) ?_
    rw [ez2, k1] at g6
    exact ⟨rfl, 1, rfl, by unfold jb jtl; rw [decide_eq_true g6, if_pos rfl]; decide⟩
theorem ount_l {P : si_P} {d : Nat} {h : si_H} (hH : az_HI P az_tb h) (h2 : 2 ≤ ja h 2 1) (K : Int32) (hK : K.toInt = ja h 2 0 * ja h 2 1) : ∀ (k j : Nat) (T A : Int32) (ls : si_L), jM [(3, .int T), (2, .int K), (1, .int A), (0, .ref (P.1 + 2))] ls → T.toInt = j → (j : Int) + k = K.toInt → A.toInt = jct (fun t : Nat => !(jtl (ja h 2 0) (ja h 2 1) (ja h 2 0 * ja h 2 1).toNat t)) j → az_X P (d + 5) 88 9 ls [] h (fun rv h' => h' = h ∧ jV rv (jct (fun t : Nat => !(jtl (ja h 2 0) (ja h 2 1) (ja h 2 0 * ja h 2 1).toNat t)) (ja h 2 0 * ja h 2 1).toNat)) := by
  have bm : 4 ≤ ja h 2 0 ∧ ja h 2 0 ≤ 60 := ja_bd hH (i := 2) (k := 0) rfl
  have br : 2 ≤ ja h 2 1 ∧ ja h 2 1 ≤ 24 := ⟨h2, (ja_bd hH (i := 2) (k := 1) rfl).2⟩
  have bp := nm_mulnn (a := 4) (b := 60) (c := 2) (d := 24) (x := ja h 2 0) (y := ja h 2 1) (by decide) (by decide) bm.1 bm.2 br.1 br.2
  intro k
  induction k with
  | zero =>
    intro j T A ls hl eT hj eA
    refine jm_iload_n (x := T) rfl rfl (jM_at hl 0 rfl) ?_
    refine jm_iload_n (x := K) rfl rfl (jM_at hl 1 rfl) ?_
    refine jx_ic (t := 31) rfl rfl rfl (fun hc11 => ?_) (fun hc11 => ?_)
    · have g11 := jc2_ge_t hc11
      refine jm_iload_n (x := A) rfl rfl (jM_at hl 2 rfl) ?_
      refine jx_ret rfl rfl rfl ?_
      exact ⟨rfl, A, rfl, by rw [eA, show j = (ja h 2 0 * ja h 2 1).toNat by omega]⟩
    · have g11 := jc2_ge_f hc11
      exfalso
      omega
  | succ k ih =>
    intro j T A ls hl eT hj eA
    have bA := jct_bd (fun t : Nat => !(jtl (ja h 2 0) (ja h 2 1) (ja h 2 0 * ja h 2 1).toNat t)) j
    have k0 : (0 : Int32).toInt = 0 := by decide
    refine jm_iload_n (x := T) rfl rfl (jM_at hl 0 rfl) ?_
    refine jm_iload_n (x := K) rfl rfl (jM_at hl 1 rfl) ?_
    refine jx_ic (t := 31) rfl rfl rfl (fun hc11 => ?_) (fun hc11 => ?_)
    · have g11 := jc2_ge_t hc11
      refine jm_iload_n (x := A) rfl rfl (jM_at hl 2 rfl) ?_
      refine jx_ret rfl rfl rfl ?_
      exfalso
      omega
    · have g11 := jc2_ge_f hc11
      refine jm_aload_n (x := P.1 + 2) rfl rfl (jM_at hl 3 rfl) ?_
      refine jm_iload_n (x := T) rfl rfl (jM_at hl 0 rfl) ?_
      refine az_X_call (m' := 87) (as := [.ref (P.1 + 2), .int T]) (rest := []) rfl rfl rfl rfl rfl ?_ ?_
      · unfold si_call
        dsimp only
        rw [if_pos ⟨rfl, rfl⟩]
        show (match si_ix P h (P.1 + 2) with | some i => _ | none => none) = _
        rw [jix hH (by decide)]
        dsimp only
        rw [(hH.2 2 _ rfl).1]
        rfl
      refine (otold_ok hH h2 T (by omega)).mono ?_
      rintro rv16 h16 ⟨q16, z16, rfl, ez16⟩
      subst h16
      show az_X P _ 88 19 ls [.int z16] _ _
      refine jx_if (t := 25) rfl rfl rfl (fun hc19 => ?_) (fun hc19 => ?_)
      · have g19 := jc1_ne_t hc19
        refine jn_iinc (x := T) rfl rfl (by decide) (jM_at hl 0 rfl) hl rfl (by decide) (by omega) (by omega) (fun z25 (ez25 : z25.toInt = T.toInt + 1) ls25 (hl25 : jM [(3, .int z25), (2, .int K), (1, .int A), (0, .ref (P.1 + 2))] ls25) => ?_)
        refine az_X_step (pc' := 9) (ls' := ls25) (st' := []) (h' := h) rfl rfl rfl ?_
        rw [ez16, eT] at g19
        have ps := jct_s (fun t : Nat => !(jtl (ja h 2 0) (ja h 2 1) (ja h 2 0 * ja h 2 1).toNat t)) j
        have np : (!(jtl (ja h 2 0) (ja h 2 1) (ja h 2 0 * ja h 2 1).toNat j)) = false := by
          unfold jb at g19
          cases hh : jtl (ja h 2 0) (ja h 2 1) (ja h 2 0 * ja h 2 1).toNat j
          · rw [hh] at g19; exact absurd rfl g19
          · rfl
        rw [np] at ps
        exact ih (j + 1) z25 A ls25 (jM_pick hl25 [0, 1, 2, 3] rfl) (by omega) (by omega) (by rw [ps, if_neg (by decide), Int.add_zero]; exact eA)
      · have g19 := jc1_ne_f hc19
        refine jn_iinc (x := A) rfl rfl (by decide) (jM_at hl 2 rfl) hl rfl (by decide) (by omega) (by omega) (fun z22 (ez22 : z22.toInt = A.toInt + 1) ls22 (hl22 : jM [(1, .int z22), (3, .int T), (2, .int K), (0, .ref (P.1 + 2))] ls22) => ?_)
        refine jn_iinc (x := T) rfl rfl (by decide) (jM_at hl22 1 rfl) hl22 rfl (by decide) (by omega) (by omega) (fun z25 (ez25 : z25.toInt = T.toInt + 1) ls25 (hl25 : jM [(3, .int z25), (1, .int z22), (2, .int K), (0, .ref (P.1 + 2))] ls25) => ?_)
        refine az_X_step (pc' := 9) (ls' := ls25) (st' := []) (h' := h) rfl rfl rfl ?_
        rw [ez16, eT] at g19
        have ps := jct_s (fun t : Nat => !(jtl (ja h 2 0) (ja h 2 1) (ja h 2 0 * ja h 2 1).toNat t)) j
        have np : (!(jtl (ja h 2 0) (ja h 2 1) (ja h 2 0 * ja h 2 1).toNat j)) = true := by
          unfold jb at g19
          cases hh : jtl (ja h 2 0) (ja h 2 1) (ja h 2 0 * ja h 2 1).toNat j
          · rfl
          · rw [hh] at g19; exact absurd g19 (by decide)
        rw [np, if_pos rfl] at ps
        exact ih (j + 1) z25 z22 ls25 (jM_pick hl25 [0, 2, 1, 3] rfl) (by omega) (by omega) (by rw [ps]; omega)
theorem ount_ok {P : si_P} {d : Nat} {h : si_H} (hH : az_HI P az_tb h) (h2 : 2 ≤ ja h 2 1) : az_X P (d + 5) 88 0 (lv_args 0 [.ref (P.1 + 2)]) [] h (fun rv h' => h' = h ∧ jV rv (jct (fun t : Nat => !(jtl (ja h 2 0) (ja h 2 1) (ja h 2 0 * ja h 2 1).toNat t)) (ja h 2 0 * ja h 2 1).toNat)) := by
  have bm : 4 ≤ ja h 2 0 ∧ ja h 2 0 ≤ 60 := ja_bd hH (i := 2) (k := 0) rfl
  have br : 2 ≤ ja h 2 1 ∧ ja h 2 1 ≤ 24 := ⟨h2, (ja_bd hH (i := 2) (k := 1) rfl).2⟩
  have bp := nm_mulnn (a := 4) (b := 60) (c := 2) (d := 24) (x := ja h 2 0) (y := ja h 2 1) (by decide) (by decide) bm.1 bm.2 br.1 br.2
  have hl : jM [(0, .ref (P.1 + 2))] (lv_args 0 [.ref (P.1 + 2)]) := jM_args [0] rfl (by decide)
  generalize lv_args 0 [.ref (P.1 + 2)] = ls at hl
  have k0 : (0 : Int32).toInt = 0 := by decide
  refine az_X_step (pc' := 1) (ls' := ls) (st' := [.int 0]) (h' := h) rfl rfl rfl ?_
  refine jm_istore_n (l' := [(1, .int 0), (0, .ref (P.1 + 2))]) rfl rfl (by decide) hl rfl rfl (fun ls1 hl1 => ?_)
  refine jm_aload_n (x := P.1 + 2) rfl rfl (jM_at hl1 1 rfl) ?_
  refine az_X_call (m' := 73) (as := [.ref (P.1 + 2)]) (rest := []) rfl rfl rfl rfl rfl ?_ ?_
  · unfold si_call
    dsimp only
    rw [if_pos ⟨rfl, rfl⟩]
    show (match si_ix P h (P.1 + 2) with | some i => _ | none => none) = _
    rw [jix hH (by decide)]
    dsimp only
    rw [(hH.2 2 _ rfl).1]
    rfl
  refine (oround_ok hH h2).mono ?_
  rintro rv3 h3 ⟨q3, z3, rfl, ez3⟩
  subst h3
  show az_X P _ 88 6 ls1 [.int z3] _ _
  refine jm_istore_n (l' := [(2, .int z3), (1, .int 0), (0, .ref (P.1 + 2))]) rfl rfl (by decide) hl1 rfl rfl (fun ls6 hl6 => ?_)
  refine az_X_step (pc' := 8) (ls' := ls6) (st' := [.int 0]) (h' := h) rfl rfl rfl ?_
  refine jm_istore_n (l' := [(3, .int 0), (2, .int z3), (1, .int 0), (0, .ref (P.1 + 2))]) rfl rfl (by decide) hl6 rfl rfl (fun ls8 hl8 => ?_)
  exact ount_l hH h2 z3 ez3 (ja h 2 0 * ja h 2 1).toNat 0 0 0 ls8 (jM_pick hl8 [0, 1, 2, 3] rfl) (by decide) (by omega) (by show (0 : Int32).toInt = 0; decide)
/-! THE BEST DIAL -/
def jU (d r : Int) : Int := jct (fun t : Nat => !(jtl d r (d * r).toNat t)) (d * r).toNat
def jbs (d : Int) : Nat → Int × Int
  | 0 => (2, jU d 2)
  | k + 1 => if jU d ((k : Int) + 3) * (jbs d k).1 < (jbs d k).2 * ((k : Int) + 3) then ((k : Int) + 3, jU d ((k : Int) + 3)) else jbs d k
theorem jbs_t {d : Int} {k : Nat} (h : jU d ((k : Int) + 3) * (jbs d k).1 < (jbs d k).2 * ((k : Int) + 3)) : jbs d (k + 1) = ((k : Int) + 3, jU d ((k : Int) + 3)) := if_pos h
theorem jbs_f {d : Int} {k : Nat} (h : ¬ jU d ((k : Int) + 3) * (jbs d k).1 < (jbs d k).2 * ((k : Int) + 3)) : jbs d (k + 1) = jbs d k := if_neg h
theorem jU_bd {d r : Int} (hd : 4 ≤ d ∧ d ≤ 60) (hr : 2 ≤ r ∧ r ≤ 24) : 0 ≤ jU d r ∧ jU d r ≤ 1440 := by
  have b := nm_mulnn (a := 4) (b := 60) (c := 2) (d := 24) (x := d) (y := r) (by decide) (by decide) hd.1 hd.2 hr.1 hr.2
  have c := jct_bd (fun t : Nat => !(jtl d r (d * r).toNat t)) (d * r).toNat
  unfold jU
  omega
theorem jbs_bd {d : Int} (hd : 4 ≤ d ∧ d ≤ 60) : ∀ k : Nat, k ≤ 22 → 2 ≤ (jbs d k).1 ∧ (jbs d k).1 ≤ (k : Int) + 2 ∧ (jbs d k).2 = jU d (jbs d k).1
  | 0, _ => by
    show (2 : Int) ≤ 2 ∧ (2 : Int) ≤ ((0 : Nat) : Int) + 2 ∧ jU d 2 = jU d 2
    exact ⟨by omega, by omega, rfl⟩
  | k + 1, hk => by
    have i := jbs_bd hd k (by omega)
    by_cases c : jU d ((k : Int) + 3) * (jbs d k).1 < (jbs d k).2 * ((k : Int) + 3)
    · rw [jbs_t c]
      exact ⟨by show (2 : Int) ≤ (k : Int) + 3; omega, by show (k : Int) + 3 ≤ ((k + 1 : Nat) : Int) + 2; omega, rfl⟩
    · rw [jbs_f c]
      exact ⟨i.1, by omega, i.2.2⟩
/-- what bestDial answers -/
def jbe (d w : Int) : Int := if (4 ≤ d ∧ d ≤ 60) ∧ 0 ≤ w ∧ w ≤ 1 then (if w = 0 then (jbs d 22).1 else (jbs d 22).2) else -1
/-- those looks that more than one time has: counted by looks, counted by times -/
def jfc (f : Nat → Bool) (c : Nat → Int) : Nat → Int
  | 0 => 0
  | k + 1 => jfc f c k + (if f k = true then c k else 0)
theorem jfc_add {f : Nat → Bool} {c : Nat → Int} {l : Nat} : ∀ M : Nat, jfc f (fun L => c L + (if decide (l = L) = true then 1 else 0)) M = jfc f c M + (if l < M ∧ f l = true then 1 else 0)
  | 0 => by
    rw [if_neg (by omega)]
    rfl
  | M + 1 => by
    have i := jfc_add (f := f) (c := c) (l := l) M
    show jfc f (fun L => c L + (if decide (l = L) = true then 1 else 0)) M + (if f M = true then c M + (if decide (l = M) = true then 1 else 0) else 0) = jfc f c M + (if f M = true then c M else 0) + (if l < M + 1 ∧ f l = true then 1 else 0)
    rw [i]
    by_cases h1 : l = M
    · subst h1
      rw [if_neg (by omega), decide_eq_true rfl, if_pos rfl]
      by_cases h2 : f l = true
      · rw [if_pos h2, if_pos h2, if_pos ⟨by omega, h2⟩]
        omega
      · rw [if_neg h2, if_neg h2, if_neg (fun q => h2 q.2)]
    · rw [decide_eq_false h1, if_neg (show ¬ (false = true) by decide), Int.add_zero]
      by_cases h2 : l < M ∧ f l = true
      · rw [if_pos h2, if_pos (show l < M + 1 ∧ f l = true from ⟨by omega, h2.2⟩)]
        omega
      · rw [if_neg h2, if_neg (show ¬ (l < M + 1 ∧ f l = true) from fun q => h2 ⟨by omega, q.2⟩)]
        omega
theorem jfc_cg {f : Nat → Bool} {c e : Nat → Int} : ∀ {M : Nat}, (∀ L : Nat, L < M → c L = e L) → jfc f c M = jfc f e M
  | 0, _ => rfl
  | M + 1, h => by
    show jfc f c M + (if f M = true then c M else 0) = jfc f e M + (if f M = true then e M else 0)
    rw [jfc_cg (M := M) (fun L hL => h L (by omega)), h M (by omega)]
theorem jfc_0 {f : Nat → Bool} : ∀ M : Nat, jfc f (fun _ => 0) M = 0
  | 0 => rfl
  | M + 1 => by
    show jfc f (fun _ => 0) M + (if f M = true then (0 : Int) else 0) = 0
    rw [jfc_0 M]
    split <;> rfl
theorem jfc_ct {f : Nat → Bool} {lk : Nat → Nat} {M : Nat} : ∀ n : Nat, (∀ t : Nat, t < n → lk t < M) → jfc f (fun L => jct (fun t => decide (lk t = L)) n) M = jct (fun t => f (lk t)) n
  | 0, _ => jfc_0 M
  | n + 1, h => by
    have i := jfc_ct (f := f) (lk := lk) (M := M) n (fun t ht => h t (by omega))
    have a := jfc_add (f := f) (c := fun L => jct (fun t => decide (lk t = L)) n) (l := lk n) M
    show jfc f (fun L => jct (fun t => decide (lk t = L)) n + (if decide (lk n = L) = true then 1 else 0)) M = jct (fun t => f (lk t)) n + (if f (lk n) = true then 1 else 0)
    rw [a, i]
    by_cases h2 : f (lk n) = true
    · rw [if_pos ⟨h n (by omega), h2⟩, if_pos h2]
    · rw [if_neg (fun q => h2 q.2), if_neg h2]
theorem jfc_U {d r : Int} (hd : 4 ≤ d ∧ d ≤ 60) (hr : 2 ≤ r ∧ r ≤ 24) : jfc (fun L => decide (1 < jam d r (d * r).toNat (L : Int))) (fun L => jam d r (d * r).toNat (L : Int)) 4096 = jU d r := by
  have b := nm_mulnn (a := 4) (b := 60) (c := 2) (d := 24) (x := d) (y := r) (by decide) (by decide) hd.1 hd.2 hr.1 hr.2
  have lb : ∀ t : Nat, t < (d * r).toNat → 0 ≤ jlk d r t ∧ jlk d r t < 4096 := by
    intro t ht
    have dm := jdm (m := d) (r := r) (a := (t : Int)) hd hr (by omega) (by omega)
    unfold jlk
    omega
  have q := jfc_ct (f := fun L => decide (1 < jam d r (d * r).toNat (L : Int))) (lk := fun t => (jlk d r t).toNat) (M := 4096) (d * r).toNat (fun t ht => by have := lb t ht; show (jlk d r t).toNat < 4096; omega)
  have e1 : ∀ L : Nat, jam d r (d * r).toNat (L : Int) = jct (fun t => decide ((jlk d r t).toNat = L)) (d * r).toNat := fun L => jct_cg (fun t ht => by
    have := lb t ht
    exact decide_eq_decide.mpr (by omega))
  rw [jfc_cg (e := fun L => jct (fun t => decide ((jlk d r t).toNat = L)) (d * r).toNat) (fun L _ => e1 L)]
  refine q.trans ?_
  unfold jU
  refine jct_cg (fun t ht => ?_)
  have l1 := lb t ht
  show decide (1 < jam d r (d * r).toNat (((jlk d r t).toNat : Nat) : Int)) = !(jtl d r (d * r).toNat t)
  unfold jtl
  rw [Int.toNat_of_nonneg l1.1]
  have p : 0 < jam d r (d * r).toNat (jlk d r t) := jct_pos.mpr ⟨t, ht, decide_eq_true rfl⟩
  by_cases c : jam d r (d * r).toNat (jlk d r t) = 1
  · rw [decide_eq_true c, decide_eq_false (by omega)]
    rfl
  · rw [decide_eq_false c, decide_eq_true (by omega)]
    rfl
theorem omake_ok {P : si_P} {d : Nat} {h : si_H} (hH : az_HI P az_tb h) (a b : Int32) (ha : 4 ≤ a.toInt ∧ a.toInt ≤ 60) (hb : 1 ≤ b.toInt ∧ b.toInt ≤ 24) : az_X P d 72 0 (lv_args 0 [.ref (P.1 + 2), .int a, .int b]) [] h (fun rv h' => rv = none ∧ az_HI P az_tb h' ∧ az_same_out [(2, 0), (2, 1)] h h' ∧ ja h' 2 0 = a.toInt ∧ ja h' 2 1 = b.toInt) := by
  have hl : jM [(0, .ref (P.1 + 2)), (1, .int a), (2, .int b)] (lv_args 0 [.ref (P.1 + 2), .int a, .int b]) := jM_args [0, 1, 2] rfl (by decide)
  generalize lv_args 0 [.ref (P.1 + 2), .int a, .int b] = ls at hl
  refine jm_aload_n (x := P.1 + 2) rfl rfl (jM_at hl 0 rfl) ?_
  refine jm_iload_n (x := a) rfl rfl (jM_at hl 1 rfl) ?_
  refine jn_pf (i := 2) (k := 0) (x := a) rfl rfl hH (by decide) rfl (hH.2 2 _ rfl).1 rfl rfl (by decide) (by decide) (by show 4 ≤ _; omega) (by show _ ≤ 60; omega) (fun h2 hH2 hs2 (t2 : ja h2 2 0 = a.toInt) => ?_)
  refine jm_aload_n (x := P.1 + 2) rfl rfl (jM_at hl 0 rfl) ?_
  refine jm_iload_n (x := b) rfl rfl (jM_at hl 2 rfl) ?_
  refine jn_pf (i := 2) (k := 1) (x := b) rfl rfl hH2 (by decide) rfl (hH2.2 2 _ rfl).1 rfl rfl (by decide) (by decide) (by show 1 ≤ _; omega) (by show _ ≤ 24; omega) (fun h7 hH7 hs7 (t7 : ja h7 2 1 = b.toInt) => ?_)
  refine jn_retv rfl rfl rfl ?_
  exact ⟨rfl, hH7, ((hs2.sub (by decide)).tr (hs7.sub (by decide))), ((jso hs7 (by decide)).trans t2), t7⟩
theorem obest_l {P : si_P} {d : Nat} {h0 : si_H} (a : Int32) (ha : 4 ≤ a.toInt ∧ a.toInt ≤ 60) : ∀ (n k : Nat) (T F B : Int32) (h : si_H) (ls : si_L), jM [(4, .int T), (3, .int F), (2, .int B), (0, .ref (P.1 + 0)), (1, .int a)] ls → az_HI P az_tb h → az_same_out [(2, 0), (2, 1)] h0 h → T.toInt = (k : Int) + 3 → k + n = 22 → B.toInt = (jbs a.toInt k).1 → F.toInt = (jbs a.toInt k).2 → az_X P (d + 6) 193 22 ls [] h (fun rv h' => ∃ z : Int32, rv = some (.int z) ∧ az_HI P az_tb h' ∧ az_same_out [(2, 0), (2, 1)] h0 h' ∧ z.toInt = (jbs a.toInt 22).1) := by
  intro n
  induction n with
  | zero =>
    intro k T F B h ls hl hH hs eT hn eB eF
    have k24 : (24 : Int32).toInt = 24 := by decide
    refine jm_iload (x := T) rfl rfl (jM_at hl 0 rfl) ?_
    refine az_X_step (pc' := 26) (ls' := ls) (st' := [.int 24, .int T]) (h' := h) rfl rfl rfl ?_
    refine jx_ic (t := 71) rfl rfl rfl (fun hc26 => ?_) (fun hc26 => ?_)
    · have g26 := jc2_gt_t hc26
      refine jm_iload_n (x := B) rfl rfl (jM_at hl 2 rfl) ?_
      refine jx_ret rfl rfl rfl ?_
      exact ⟨B, rfl, hH, hs, by rw [eB, show k = 22 by omega]⟩
    · have g26 := jc2_gt_f hc26
      exfalso
      omega
  | succ n ih =>
    intro k T F B h ls hl hH hs eT hn eB eF
    have bd := jbs_bd ha k (by omega)
    have u1 := jU_bd ha (r := (k : Int) + 3) (by omega)
    have u2 := jU_bd ha (r := (jbs a.toInt k).1) (by omega)
    have p1 := nm_mulnn (a := 0) (b := 1440) (c := 2) (d := 24) (x := jU a.toInt ((k : Int) + 3)) (y := (jbs a.toInt k).1) (by decide) (by decide) u1.1 u1.2 bd.1 (by omega)
    have p2 := nm_mulnn (a := 0) (b := 1440) (c := 2) (d := 24) (x := (jbs a.toInt k).2) (y := (k : Int) + 3) (by decide) (by decide) (by omega) (by omega) (by omega) (by omega)
    have k24 : (24 : Int32).toInt = 24 := by decide
    refine jm_iload (x := T) rfl rfl (jM_at hl 0 rfl) ?_
    refine az_X_step (pc' := 26) (ls' := ls) (st' := [.int 24, .int T]) (h' := h) rfl rfl rfl ?_
    refine jx_ic (t := 71) rfl rfl rfl (fun hc26 => ?_) (fun hc26 => ?_)
    · have g26 := jc2_gt_t hc26
      refine jm_iload_n (x := B) rfl rfl (jM_at hl 2 rfl) ?_
      refine jx_ret rfl rfl rfl ?_
      exfalso
      omega
    · have g26 := jc2_gt_f hc26
      refine jm_aload_n (x := P.1 + 0) rfl rfl (jM_at hl 3 rfl) ?_
      refine jx_gf (i := 0) rfl rfl hH (by decide) (hH.2 0 _ rfl).1 rfl (jx_rf hH rfl rfl) ?_
      refine jm_iload_n (x := a) rfl rfl (jM_at hl 4 rfl) ?_
      refine jm_iload (x := T) rfl rfl (jM_at hl 0 rfl) ?_
      refine az_X_call (m' := 72) (as := [.ref (P.1 + 2), .int a, .int T]) (rest := []) rfl rfl rfl rfl rfl ?_ ?_
      · unfold si_call
        dsimp only
        rw [if_pos ⟨rfl, rfl⟩]
        show (match si_ix P h (P.1 + 2) with | some i => _ | none => none) = _
        rw [jix hH (by decide)]
        dsimp only
        rw [(hH.2 2 _ rfl).1]
        rfl
      refine (omake_ok hH a T ha (by omega)).mono ?_
      rintro rv36 h36 ⟨rfl, hH36, hs36, f36⟩
      show az_X P _ 193 39 ls [] _ _
      refine jm_aload_n (x := P.1 + 0) rfl rfl (jM_at hl 3 rfl) ?_
      refine jx_gf (i := 0) rfl rfl hH36 (by decide) (hH36.2 0 _ rfl).1 rfl (jx_rf hH36 rfl rfl) ?_
      refine az_X_call (m' := 88) (as := [.ref (P.1 + 2)]) (rest := []) rfl rfl rfl rfl rfl ?_ ?_
      · unfold si_call
        dsimp only
        rw [if_pos ⟨rfl, rfl⟩]
        show (match si_ix P h36 (P.1 + 2) with | some i => _ | none => none) = _
        rw [jix hH36 (by decide)]
        dsimp only
        rw [(hH36.2 2 _ rfl).1]
        rfl
      refine (ount_ok hH36 (by rw [f36.2]; omega)).mono ?_
      rintro rv43 h43 ⟨q43, z43, rfl, ez43⟩
      subst h43
      show az_X P _ 193 46 ls [.int z43] _ _
      refine jm_istore (l' := [(5, .int z43), (4, .int T), (3, .int F), (2, .int B), (0, .ref (P.1 + 0)), (1, .int a)]) rfl rfl (by decide) hl rfl rfl (fun ls46 hl46 => ?_)
      have e43 : z43.toInt = jU a.toInt ((k : Int) + 3) := by
        rw [ez43, f36.1, f36.2, eT]
        rfl
      
      refine jm_iload (x := z43) rfl rfl (jM_at hl46 0 rfl) ?_
      refine jm_iload_n (x := B) rfl rfl (jM_at hl46 3 rfl) ?_
      
      refine jn_mul (a := z43) (b := B) rfl rfl (by rw [e43, eB]; omega) (by rw [e43, eB]; omega) (fun z51 ez51 => ?_)
      refine jm_iload_n (x := F) rfl rfl (jM_at hl46 2 rfl) ?_
      refine jm_iload (x := T) rfl rfl (jM_at hl46 1 rfl) ?_
      
      refine jn_mul (a := F) (b := T) rfl rfl (by rw [eF, eT]; omega) (by rw [eF, eT]; omega) (fun z55 ez55 => ?_)
      refine jx_ic (t := 65) rfl rfl rfl (fun hc56 => ?_) (fun hc56 => ?_)
      · have g56 := jc2_ge_t hc56
        refine jn_iinc (x := T) rfl rfl (by decide) (jM_at hl46 1 rfl) hl46 rfl (by decide) (by omega) (by omega) (fun z65 (ez65 : z65.toInt = T.toInt + 1) ls65 (hl65 : jM [(4, .int z65), (5, .int z43), (3, .int F), (2, .int B), (0, .ref (P.1 + 0)), (1, .int a)] ls65) => ?_)
        refine az_X_step (pc' := 22) (ls' := ls65) (st' := []) (h' := h36) rfl rfl rfl ?_
        rw [ez51, ez55] at g56
        rw [e43, eB, eF, eT] at g56
        exact ih (k + 1) z65 F B h36 ls65 (jM_pick hl65 [0, 2, 3, 4, 5] rfl) hH36 (hs.tr hs36) (by omega) (by omega) (by rw [jbs_f (by omega)]; exact eB) (by rw [jbs_f (by omega)]; exact eF)
      · have g56 := jc2_ge_f hc56
        refine jm_iload (x := T) rfl rfl (jM_at hl46 1 rfl) ?_
        refine jm_istore_n (l' := [(2, .int T), (5, .int z43), (4, .int T), (3, .int F), (0, .ref (P.1 + 0)), (1, .int a)]) rfl rfl (by decide) hl46 rfl rfl (fun ls61 hl61 => ?_)
        refine jm_iload (x := z43) rfl rfl (jM_at hl61 1 rfl) ?_
        refine jm_istore_n (l' := [(3, .int z43), (2, .int T), (5, .int z43), (4, .int T), (0, .ref (P.1 + 0)), (1, .int a)]) rfl rfl (by decide) hl61 rfl rfl (fun ls64 hl64 => ?_)
        refine jn_iinc (x := T) rfl rfl (by decide) (jM_at hl64 3 rfl) hl64 rfl (by decide) (by omega) (by omega) (fun z65 (ez65 : z65.toInt = T.toInt + 1) ls65 (hl65 : jM [(4, .int z65), (3, .int z43), (2, .int T), (5, .int z43), (0, .ref (P.1 + 0)), (1, .int a)] ls65) => ?_)
        refine az_X_step (pc' := 22) (ls' := ls65) (st' := []) (h' := h36) rfl rfl rfl ?_
        rw [ez51, ez55] at g56
        rw [e43, eB, eF, eT] at g56
        exact ih (k + 1) z65 z43 T h36 ls65 (jM_pick hl65 [0, 1, 2, 4, 5] rfl) hH36 (hs.tr hs36) (by omega) (by omega) (by rw [jbs_t g56]; exact eT) (by rw [jbs_t g56]; exact e43)
theorem obest_ok {P : si_P} {d : Nat} {h : si_H} (hH : az_HI P az_tb h) (a : Int32) (ha : 4 ≤ a.toInt ∧ a.toInt ≤ 60) : az_X P (d + 6) 193 0 (lv_args 0 [.ref (P.1 + 0), .int a]) [] h (fun rv h' => ∃ z : Int32, rv = some (.int z) ∧ az_HI P az_tb h' ∧ az_same_out [(2, 0), (2, 1)] h h' ∧ z.toInt = (jbs a.toInt 22).1) := by
  have hl : jM [(0, .ref (P.1 + 0)), (1, .int a)] (lv_args 0 [.ref (P.1 + 0), .int a]) := jM_args [0, 1] rfl (by decide)
  generalize lv_args 0 [.ref (P.1 + 0), .int a] = ls at hl
  have k2 : (2 : Int32).toInt = 2 := by decide
  have k3 : (3 : Int32).toInt = 3 := by decide
  refine az_X_step (pc' := 1) (ls' := ls) (st' := [.int 2]) (h' := h) rfl rfl rfl ?_
  refine jm_istore_n (l' := [(2, .int 2), (0, .ref (P.1 + 0)), (1, .int a)]) rfl rfl (by decide) hl rfl rfl (fun ls1 hl1 => ?_)
  refine jm_aload_n (x := P.1 + 0) rfl rfl (jM_at hl1 1 rfl) ?_
  refine jx_gf (i := 0) rfl rfl hH (by decide) (hH.2 0 _ rfl).1 rfl (jx_rf hH rfl rfl) ?_
  refine jm_iload_n (x := a) rfl rfl (jM_at hl1 2 rfl) ?_
  refine jm_iload_n (x := 2) rfl rfl (jM_at hl1 0 rfl) ?_
  refine az_X_call (m' := 72) (as := [.ref (P.1 + 2), .int a, .int 2]) (rest := []) rfl rfl rfl rfl rfl ?_ ?_
  · unfold si_call
    dsimp only
    rw [if_pos ⟨rfl, rfl⟩]
    show (match si_ix P h (P.1 + 2) with | some i => _ | none => none) = _
    rw [jix hH (by decide)]
    dsimp only
    rw [(hH.2 2 _ rfl).1]
    rfl
  refine (omake_ok hH a 2 ha (by decide)).mono ?_
  rintro rv8 h8 ⟨rfl, hH8, hs8, f8⟩
  show az_X P _ 193 11 ls1 [] _ _
  refine jm_aload_n (x := P.1 + 0) rfl rfl (jM_at hl1 1 rfl) ?_
  refine jx_gf (i := 0) rfl rfl hH8 (by decide) (hH8.2 0 _ rfl).1 rfl (jx_rf hH8 rfl rfl) ?_
  refine az_X_call (m' := 88) (as := [.ref (P.1 + 2)]) (rest := []) rfl rfl rfl rfl rfl ?_ ?_
  · unfold si_call
    dsimp only
    rw [if_pos ⟨rfl, rfl⟩]
    show (match si_ix P h8 (P.1 + 2) with | some i => _ | none => none) = _
    rw [jix hH8 (by decide)]
    dsimp only
    rw [(hH8.2 2 _ rfl).1]
    rfl
  refine (ount_ok hH8 (by rw [f8.2]; decide)).mono ?_
  rintro rv15 h15 ⟨q15, z15, rfl, ez15⟩
  subst h15
  show az_X P _ 193 18 ls1 [.int z15] _ _
  refine jm_istore_n (l' := [(3, .int z15), (2, .int 2), (0, .ref (P.1 + 0)), (1, .int a)]) rfl rfl (by decide) hl1 rfl rfl (fun ls18 hl18 => ?_)
  refine az_X_step (pc' := 20) (ls' := ls18) (st' := [.int 3]) (h' := h8) rfl rfl rfl ?_
  refine jm_istore (l' := [(4, .int 3), (3, .int z15), (2, .int 2), (0, .ref (P.1 + 0)), (1, .int a)]) rfl rfl (by decide) hl18 rfl rfl (fun ls20 hl20 => ?_)
  exact obest_l a ha 22 0 3 z15 2 h8 ls20 (jM_pick hl20 [0, 1, 2, 3, 4] rfl) hH8 hs8 (by decide) (by omega) (by show _ = (2 : Int); decide) (by rw [ez15, f8.1, f8.2, k2]; rfl)
theorem cmarks_ok {P : si_P} {d : Nat} {h : si_H} (i : Int32) : az_X P d 189 0 (lv_args 0 [.int i]) [] h (fun rv h' => h' = h ∧ ∃ z : Int32, rv = some (.int z) ∧ ((z.toInt = 1 ∧ 4 ≤ i.toInt ∧ i.toInt ≤ 60) ∨ (z.toInt = 0 ∧ ¬ (4 ≤ i.toInt ∧ i.toInt ≤ 60)))) := by
  have hl : jM [(0, .int i)] (lv_args 0 [.int i]) := jM_args [0] rfl (by decide)
  generalize lv_args 0 [.int i] = ls at hl
  have k0 : (0 : Int32).toInt = 0 := by decide
  have k1 : (1 : Int32).toInt = 1 := by decide
  have k4 : (4 : Int32).toInt = 4 := by decide
  have k60 : (60 : Int32).toInt = 60 := by decide
  refine jm_iload_n (x := i) rfl rfl (jM_at hl 0 rfl) ?_
  refine az_X_step (pc' := 2) (ls' := ls) (st' := [.int 4, .int i]) (h' := h) rfl rfl rfl ?_
  refine jx_ic (t := 15) rfl rfl rfl (fun hc2 => ?_) (fun hc2 => ?_)
  · have g2 := jc2_lt_t hc2
    refine az_X_step (pc' := 16) (ls' := ls) (st' := [.int 0]) (h' := h) rfl rfl rfl ?_
    refine jx_retz rfl rfl rfl (by decide) ?_
    exact ⟨rfl, 0, rfl, by omega⟩
  · have g2 := jc2_lt_f hc2
    refine jm_iload_n (x := i) rfl rfl (jM_at hl 0 rfl) ?_
    refine az_X_step (pc' := 8) (ls' := ls) (st' := [.int 60, .int i]) (h' := h) rfl rfl rfl ?_
    refine jx_ic (t := 15) rfl rfl rfl (fun hc8 => ?_) (fun hc8 => ?_)
    · have g8 := jc2_gt_t hc8
      refine az_X_step (pc' := 16) (ls' := ls) (st' := [.int 0]) (h' := h) rfl rfl rfl ?_
      refine jx_retz rfl rfl rfl (by decide) ?_
      exact ⟨rfl, 0, rfl, by omega⟩
    · have g8 := jc2_gt_f hc8
      refine az_X_step (pc' := 12) (ls' := ls) (st' := [.int 1]) (h' := h) rfl rfl rfl ?_
      refine az_X_step (pc' := 16) (ls' := ls) (st' := [.int 1]) (h' := h) rfl rfl rfl ?_
      refine jx_retz rfl rfl rfl (by decide) ?_
      exact ⟨rfl, 1, rfl, by omega⟩
theorem ctwo_ok {P : si_P} {d : Nat} {h : si_H} (i : Int32) : az_X P d 188 0 (lv_args 0 [.int i]) [] h (fun rv h' => h' = h ∧ ∃ z : Int32, rv = some (.int z) ∧ ((z.toInt = 1 ∧ 0 ≤ i.toInt ∧ i.toInt ≤ 1) ∨ (z.toInt = 0 ∧ ¬ (0 ≤ i.toInt ∧ i.toInt ≤ 1)))) := by
  have hl : jM [(0, .int i)] (lv_args 0 [.int i]) := jM_args [0] rfl (by decide)
  generalize lv_args 0 [.int i] = ls at hl
  have k0 : (0 : Int32).toInt = 0 := by decide
  have k1 : (1 : Int32).toInt = 1 := by decide
  refine jm_iload_n (x := i) rfl rfl (jM_at hl 0 rfl) ?_
  refine jx_if (t := 9) rfl rfl rfl (fun hc1 => ?_) (fun hc1 => ?_)
  · have g1 := jc1_eq_t hc1
    refine az_X_step (pc' := 10) (ls' := ls) (st' := [.int 1]) (h' := h) rfl rfl rfl ?_
    refine az_X_step (pc' := 14) (ls' := ls) (st' := [.int 1]) (h' := h) rfl rfl rfl ?_
    refine jx_retz rfl rfl rfl (by decide) ?_
    exact ⟨rfl, 1, rfl, by omega⟩
  · have g1 := jc1_eq_f hc1
    refine jm_iload_n (x := i) rfl rfl (jM_at hl 0 rfl) ?_
    refine az_X_step (pc' := 6) (ls' := ls) (st' := [.int 1, .int i]) (h' := h) rfl rfl rfl ?_
    refine jx_ic (t := 13) rfl rfl rfl (fun hc6 => ?_) (fun hc6 => ?_)
    · have g6 := jc2_ne_t hc6
      refine az_X_step (pc' := 14) (ls' := ls) (st' := [.int 0]) (h' := h) rfl rfl rfl ?_
      refine jx_retz rfl rfl rfl (by decide) ?_
      exact ⟨rfl, 0, rfl, by omega⟩
    · have g6 := jc2_ne_f hc6
      refine az_X_step (pc' := 10) (ls' := ls) (st' := [.int 1]) (h' := h) rfl rfl rfl ?_
      refine az_X_step (pc' := 14) (ls' := ls) (st' := [.int 1]) (h' := h) rfl rfl rfl ?_
      refine jx_retz rfl rfl rfl (by decide) ?_
      exact ⟨rfl, 1, rfl, by omega⟩
/-- the row of what was found: nothing, or the best -/
def jbc (h : si_H) : Prop := ∀ k : Nat, 4 ≤ k → k ≤ 60 → ja h 34 k = 0 ∨ ja h 34 k = (jbs k 22).1
theorem best0_ok {P : si_P} (hxa : P.2.1 < P.1) {d : Nat} {h : si_H} (hH : az_HI P az_tb h) (hC : jbc h) (a w : Int32) : az_X P (d + 7) 152 0 (lv_args 0 [.ref (P.1 + 0), .int a, .int w]) [] h (fun rv h' => ∃ z : Int32, rv = some (.int z) ∧ az_HI P az_tb h' ∧ az_same_out [(2, 0), (2, 1), (34, 1000000)] h h' ∧ z.toInt = jbe a.toInt w.toInt ∧ jbc h') := by
  have hl : jM [(0, .ref (P.1 + 0)), (1, .int a), (2, .int w)] (lv_args 0 [.ref (P.1 + 0), .int a, .int w]) := jM_args [0, 1, 2] rfl (by decide)
  generalize lv_args 0 [.ref (P.1 + 0), .int a, .int w] = ls at hl
  have km1 : ((-1) : Int32).toInt = (-1) := by decide
  have k0 : (0 : Int32).toInt = 0 := by decide
  refine jm_iload_n (x := a) rfl rfl (jM_at hl 1 rfl) ?_
  refine az_X_call (m' := 189) (as := [.int a]) (rest := []) rfl rfl rfl rfl rfl rfl ?_
  refine (cmarks_ok a).mono ?_
  rintro rv1 h1 ⟨q1, z1, rfl, ez1⟩
  subst h1
  show az_X P _ 152 4 ls [.int z1] _ _
  refine jx_if (t := 14) rfl rfl rfl (fun hc4 => ?_) (fun hc4 => ?_)
  · have g4 := jc1_eq_t hc4
    refine az_X_step (pc' := 15) (ls' := ls) (st' := [.int (-1)]) (h' := h) rfl rfl rfl ?_
    refine jx_ret rfl rfl rfl ?_
    refine ⟨(-1), rfl, hH, az_same_out.rf, ?_, hC⟩
    unfold jbe
    rw [if_neg (by omega)]
    decide
  · have g4 := jc1_eq_f hc4
    refine jm_iload_n (x := w) rfl rfl (jM_at hl 2 rfl) ?_
    refine az_X_call (m' := 188) (as := [.int w]) (rest := []) rfl rfl rfl rfl rfl rfl ?_
    refine (ctwo_ok w).mono ?_
    rintro rv8 h8 ⟨q8, z8, rfl, ez8⟩
    subst h8
    show az_X P _ 152 11 ls [.int z8] _ _
    refine jx_if (t := 16) rfl rfl rfl (fun hc11 => ?_) (fun hc11 => ?_)
    · have g11 := jc1_ne_t hc11
      refine jm_aload_n (x := P.1 + 0) rfl rfl (jM_at hl 0 rfl) ?_
      refine jx_gf (i := 0) rfl rfl hH (by decide) (hH.2 0 _ rfl).1 rfl (jx_rf hH rfl rfl) ?_
      refine jm_iload_n (x := a) rfl rfl (jM_at hl 1 rfl) ?_
      refine jx_ial (i := 34) (x := a) rfl rfl hxa hH (by decide) rfl (by omega) (by show _ < ((61 : Nat) : Int); omega) (fun z21 ez21 bz21 => ?_)
      refine jx_if (t := 36) rfl rfl rfl (fun hc22 => ?_) (fun hc22 => ?_)
      · have g22 := jc1_ne_t hc22
        refine jm_iload_n (x := w) rfl rfl (jM_at hl 2 rfl) ?_
        refine jx_if (t := 47) rfl rfl rfl (fun hc37 => ?_) (fun hc37 => ?_)
        · have g37 := jc1_ne_t hc37
          refine jm_aload_n (x := P.1 + 0) rfl rfl (jM_at hl 0 rfl) ?_
          refine jx_gf (i := 0) rfl rfl hH (by decide) (hH.2 0 _ rfl).1 rfl (jx_rf hH rfl rfl) ?_
          refine jm_iload_n (x := a) rfl rfl (jM_at hl 1 rfl) ?_
          refine jm_aload_n (x := P.1 + 0) rfl rfl (jM_at hl 0 rfl) ?_
          refine jx_gf (i := 0) rfl rfl hH (by decide) (hH.2 0 _ rfl).1 rfl (jx_rf hH rfl rfl) ?_
          refine jm_iload_n (x := a) rfl rfl (jM_at hl 1 rfl) ?_
          refine jx_ial (i := 34) (x := a) rfl rfl hxa hH (by decide) rfl (by omega) (by show _ < ((61 : Nat) : Int); omega) (fun z57 ez57 bz57 => ?_)
          refine az_X_call (m' := 72) (as := [.ref (P.1 + 2), .int a, .int z57]) (rest := []) rfl rfl rfl rfl rfl ?_ ?_
          · unfold si_call
            dsimp only
            rw [if_pos ⟨rfl, rfl⟩]
            show (match si_ix P h (P.1 + 2) with | some i => _ | none => none) = _
            rw [jix hH (by decide)]
            dsimp only
            rw [(hH.2 2 _ rfl).1]
            rfl
          refine (omake_ok hH a z57 (by omega) (by
            have va : 4 ≤ a.toInt ∧ a.toInt ≤ 60 := by omega
            have bd := jbs_bd va 22 (by omega)
            have ec := hC a.toInt.toNat (by omega) (by omega)
            rw [Int.toNat_of_nonneg (by omega)] at ec
            rw [ez57]
            rcases ec with q | q
            · exact absurd (ez21.trans q) g22
            · rw [q]; omega)).mono ?_
          rintro rv58 h58 ⟨rfl, hH58, hs58, f58⟩
          show az_X P _ 152 61 ls [] _ _
          refine jm_aload_n (x := P.1 + 0) rfl rfl (jM_at hl 0 rfl) ?_
          refine jx_gf (i := 0) rfl rfl hH58 (by decide) (hH58.2 0 _ rfl).1 rfl (jx_rf hH58 rfl rfl) ?_
          refine az_X_call (m' := 88) (as := [.ref (P.1 + 2)]) (rest := []) rfl rfl rfl rfl rfl ?_ ?_
          · unfold si_call
            dsimp only
            rw [if_pos ⟨rfl, rfl⟩]
            show (match si_ix P h58 (P.1 + 2) with | some i => _ | none => none) = _
            rw [jix hH58 (by decide)]
            dsimp only
            rw [(hH58.2 2 _ rfl).1]
            rfl
          refine (ount_ok hH58 (by
            have va : 4 ≤ a.toInt ∧ a.toInt ≤ 60 := by omega
            have bd := jbs_bd va 22 (by omega)
            rw [f58.2, ez57]
            have ec := hC a.toInt.toNat (by omega) (by omega)
            rw [Int.toNat_of_nonneg (by omega)] at ec
            rcases ec with q | q
            · exact absurd (ez21.trans q) g22
            · rw [q]; omega)).mono ?_
          rintro rv65 h65 ⟨q65, z65, rfl, ez65⟩
          subst h65
          show az_X P _ 152 68 ls [.int z65] _ _
          refine jx_ret rfl rfl rfl ?_
          have va : 4 ≤ a.toInt ∧ a.toInt ≤ 60 := by omega
          have bd := jbs_bd va 22 (by omega)
          have ec := hC a.toInt.toNat (by omega) (by omega)
          rw [Int.toNat_of_nonneg (by omega)] at ec
          have ev : ja h 34 a.toInt = (jbs a.toInt 22).1 := by
            rcases ec with q | q
            · exact absurd (ez21.trans q) g22
            · exact q
          have hC2 : jbc h := hC
          refine ⟨z65, rfl, hH58, (hs58.sub (by decide)), ?_, ?_⟩
          · unfold jbe
            rw [if_pos ⟨va, by omega, by omega⟩, if_neg (by omega), ez65, f58.1, f58.2, ez57, ev, bd.2.2]
            rfl
          · intro k k1 k2
            rw [jso_row hs58 (by decide)]
            exact hC2 k k1 k2
        · have g37 := jc1_ne_f hc37
          refine jm_aload_n (x := P.1 + 0) rfl rfl (jM_at hl 0 rfl) ?_
          refine jx_gf (i := 0) rfl rfl hH (by decide) (hH.2 0 _ rfl).1 rfl (jx_rf hH rfl rfl) ?_
          refine jm_iload_n (x := a) rfl rfl (jM_at hl 1 rfl) ?_
          refine jx_ial (i := 34) (x := a) rfl rfl hxa hH (by decide) rfl (by omega) (by show _ < ((61 : Nat) : Int); omega) (fun z45 ez45 bz45 => ?_)
          refine jx_ret rfl rfl rfl ?_
          have va : 4 ≤ a.toInt ∧ a.toInt ≤ 60 := by omega
          have bd := jbs_bd va 22 (by omega)
          have ec := hC a.toInt.toNat (by omega) (by omega)
          rw [Int.toNat_of_nonneg (by omega)] at ec
          have ev : ja h 34 a.toInt = (jbs a.toInt 22).1 := by
            rcases ec with q | q
            · exact absurd (ez21.trans q) g22
            · exact q
          have hC2 : jbc h := hC
          refine ⟨z45, rfl, hH, az_same_out.rf, ?_, hC2⟩
          unfold jbe
          rw [if_pos ⟨va, by omega, by omega⟩, if_pos (by omega), ez45]
          exact ev
      · have g22 := jc1_ne_f hc22
        refine jm_aload_n (x := P.1 + 0) rfl rfl (jM_at hl 0 rfl) ?_
        refine jx_gf (i := 0) rfl rfl hH (by decide) (hH.2 0 _ rfl).1 rfl (jx_rf hH rfl rfl) ?_
        refine jm_iload_n (x := a) rfl rfl (jM_at hl 1 rfl) ?_
        refine jm_aload_n (x := P.1 + 0) rfl rfl (jM_at hl 0 rfl) ?_
        refine jm_iload_n (x := a) rfl rfl (jM_at hl 1 rfl) ?_
        refine az_X_call (m' := 193) (as := [.ref (P.1 + 0), .int a]) (rest := [.int a, .ref (P.1 + 34)]) rfl rfl rfl rfl rfl ?_ ?_
        · unfold si_call
          dsimp only
          rw [if_pos ⟨rfl, rfl⟩]
          show (match si_ix P h (P.1 + 0) with | some i => _ | none => none) = _
          rw [jix hH (by decide)]
          dsimp only
          rw [(hH.2 0 _ rfl).1]
          rfl
        refine (obest_ok hH a (by omega)).mono ?_
        rintro rv32 h32 ⟨z32, rfl, hH32, hs32, f32⟩
        show az_X P _ 152 35 ls [.int z32, .int a, .ref (P.1 + 34)] _ _
        refine jn_ias (i := 34) (x := a) (v := z32) rfl rfl hH32 (by decide) rfl (by omega) (by show _ < ((61 : Nat) : Int); omega) (by show 0 ≤ _; have bd := jbs_bd (d := a.toInt) (by omega) 22 (by omega); rw [f32]; omega) (by show _ ≤ 24; have bd := jbs_bd (d := a.toInt) (by omega) 22 (by omega); rw [f32]; omega) (fun h35 hH35 hs35 t35 u35 => ?_)
        refine jm_iload_n (x := w) rfl rfl (jM_at hl 2 rfl) ?_
        refine jx_if (t := 47) rfl rfl rfl (fun hc37 => ?_) (fun hc37 => ?_)
        · have g37 := jc1_ne_t hc37
          refine jm_aload_n (x := P.1 + 0) rfl rfl (jM_at hl 0 rfl) ?_
          refine jx_gf (i := 0) rfl rfl hH35 (by decide) (hH35.2 0 _ rfl).1 rfl (jx_rf hH35 rfl rfl) ?_
          refine jm_iload_n (x := a) rfl rfl (jM_at hl 1 rfl) ?_
          refine jm_aload_n (x := P.1 + 0) rfl rfl (jM_at hl 0 rfl) ?_
          refine jx_gf (i := 0) rfl rfl hH35 (by decide) (hH35.2 0 _ rfl).1 rfl (jx_rf hH35 rfl rfl) ?_
          refine jm_iload_n (x := a) rfl rfl (jM_at hl 1 rfl) ?_
          refine jx_ial (i := 34) (x := a) rfl rfl hxa hH35 (by decide) rfl (by omega) (by show _ < ((61 : Nat) : Int); omega) (fun z57 ez57 bz57 => ?_)
          refine az_X_call (m' := 72) (as := [.ref (P.1 + 2), .int a, .int z57]) (rest := []) rfl rfl rfl rfl rfl ?_ ?_
          · unfold si_call
            dsimp only
            rw [if_pos ⟨rfl, rfl⟩]
            show (match si_ix P h35 (P.1 + 2) with | some i => _ | none => none) = _
            rw [jix hH35 (by decide)]
            dsimp only
            rw [(hH35.2 2 _ rfl).1]
            rfl
          refine (omake_ok hH35 a z57 (by omega) (by
            have va : 4 ≤ a.toInt ∧ a.toInt ≤ 60 := by omega
            have bd := jbs_bd va 22 (by omega)
            rw [ez57, t35, f32]; omega)).mono ?_
          rintro rv58 h58 ⟨rfl, hH58, hs58, f58⟩
          show az_X P _ 152 61 ls [] _ _
          refine jm_aload_n (x := P.1 + 0) rfl rfl (jM_at hl 0 rfl) ?_
          refine jx_gf (i := 0) rfl rfl hH58 (by decide) (hH58.2 0 _ rfl).1 rfl (jx_rf hH58 rfl rfl) ?_
          refine az_X_call (m' := 88) (as := [.ref (P.1 + 2)]) (rest := []) rfl rfl rfl rfl rfl ?_ ?_
          · unfold si_call
            dsimp only
            rw [if_pos ⟨rfl, rfl⟩]
            show (match si_ix P h58 (P.1 + 2) with | some i => _ | none => none) = _
            rw [jix hH58 (by decide)]
            dsimp only
            rw [(hH58.2 2 _ rfl).1]
            rfl
          refine (ount_ok hH58 (by
            have va : 4 ≤ a.toInt ∧ a.toInt ≤ 60 := by omega
            have bd := jbs_bd va 22 (by omega)
            rw [f58.2, ez57]
            rw [t35, f32]; omega)).mono ?_
          rintro rv65 h65 ⟨q65, z65, rfl, ez65⟩
          subst h65
          show az_X P _ 152 68 ls [.int z65] _ _
          refine jx_ret rfl rfl rfl ?_
          have va : 4 ≤ a.toInt ∧ a.toInt ≤ 60 := by omega
          have bd := jbs_bd va 22 (by omega)
          have ec := hC a.toInt.toNat (by omega) (by omega)
          rw [Int.toNat_of_nonneg (by omega)] at ec
          have ev : ja h35 34 a.toInt = (jbs a.toInt 22).1 := t35.trans f32
          have hC2 : jbc h35 := by
            intro k k1 k2
            by_cases q : (k : Int) = a.toInt
            · rw [q]
              exact Or.inr ev
            · rw [u35 k (by omega) q, jso_row hs32 (by decide)]
              exact hC k k1 k2
          refine ⟨z65, rfl, hH58, ((hs32.sub (by decide)).tr ((hs35.sub (by decide)).tr (hs58.sub (by decide)))), ?_, ?_⟩
          · unfold jbe
            rw [if_pos ⟨va, by omega, by omega⟩, if_neg (by omega), ez65, f58.1, f58.2, ez57, ev, bd.2.2]
            rfl
          · intro k k1 k2
            rw [jso_row hs58 (by decide)]
            exact hC2 k k1 k2
        · have g37 := jc1_ne_f hc37
          refine jm_aload_n (x := P.1 + 0) rfl rfl (jM_at hl 0 rfl) ?_
          refine jx_gf (i := 0) rfl rfl hH35 (by decide) (hH35.2 0 _ rfl).1 rfl (jx_rf hH35 rfl rfl) ?_
          refine jm_iload_n (x := a) rfl rfl (jM_at hl 1 rfl) ?_
          refine jx_ial (i := 34) (x := a) rfl rfl hxa hH35 (by decide) rfl (by omega) (by show _ < ((61 : Nat) : Int); omega) (fun z45 ez45 bz45 => ?_)
          refine jx_ret rfl rfl rfl ?_
          have va : 4 ≤ a.toInt ∧ a.toInt ≤ 60 := by omega
          have bd := jbs_bd va 22 (by omega)
          have ec := hC a.toInt.toNat (by omega) (by omega)
          rw [Int.toNat_of_nonneg (by omega)] at ec
          have ev : ja h35 34 a.toInt = (jbs a.toInt 22).1 := t35.trans f32
          have hC2 : jbc h35 := by
            intro k k1 k2
            by_cases q : (k : Int) = a.toInt
            · rw [q]
              exact Or.inr ev
            · rw [u35 k (by omega) q, jso_row hs32 (by decide)]
              exact hC k k1 k2
          refine ⟨z45, rfl, hH35, ((hs32.sub (by decide)).tr (hs35.sub (by decide))), ?_, hC2⟩
          unfold jbe
          rw [if_pos ⟨va, by omega, by omega⟩, if_pos (by omega), ez45]
          exact ev
    · have g11 := jc1_ne_f hc11
      refine az_X_step (pc' := 15) (ls' := ls) (st' := [.int (-1)]) (h' := h) rfl rfl rfl ?_
      refine jx_ret rfl rfl rfl ?_
      refine ⟨(-1), rfl, hH, az_same_out.rf, ?_, hC⟩
      unfold jbe
      rw [if_neg (by omega)]
      decide
theorem rub_69 {P : si_P} (hxa : P.2.1 < P.1) {d : Nat} {h0 h : si_H} (hH : az_HI P az_tb h) (hs : az_same_out [(70, 1000000)] h0 h) (a b : Int32) (ha : 4 ≤ a.toInt ∧ a.toInt ≤ 60) (hb : 2 ≤ b.toInt ∧ b.toInt ≤ 24) (hA : ∀ L : Nat, L < 4096 → ja h 70 L = jam a.toInt b.toInt (a.toInt * b.toInt).toNat L) : ∀ (n k : Nat) (T A : Int32) (ls : si_L), jM [(4, .int T), (3, .int A), (0, .ref (P.1 + 60)), (1, .int a), (2, .int b)] ls → T.toInt = k → k + n = 4096 → A.toInt = jfc (fun L => decide (1 < jam a.toInt b.toInt (a.toInt * b.toInt).toNat (L : Int))) (fun L => jam a.toInt b.toInt (a.toInt * b.toInt).toNat (L : Int)) k → 0 ≤ A.toInt ∧ A.toInt ≤ 1440 * (k : Int) → az_X P (d + 1) 227 69 ls [] h (fun rv h' => ∃ z : Int32, rv = some (.int z) ∧ az_HI P az_tb h' ∧ az_same_out [(70, 1000000)] h0 h' ∧ z.toInt = jU a.toInt b.toInt) := by
  have bp := nm_mulnn (a := 4) (b := 60) (c := 2) (d := 24) (x := a.toInt) (y := b.toInt) (by decide) (by decide) ha.1 ha.2 hb.1 hb.2
  intro n
  induction n with
  | zero =>
    intro k T A ls hl eT hn eA bA
    have k4096 : (4096 : Int32).toInt = 4096 := by decide
    refine jm_iload (x := T) rfl rfl (jM_at hl 0 rfl) ?_
    refine az_X_step (pc' := 74) (ls' := ls) (st' := [.int 4096, .int T]) (h' := h) rfl rfl rfl ?_
    refine jx_ic (t := 104) rfl rfl rfl (fun hc74 => ?_) (fun hc74 => ?_)
    · have g74 := jc2_ge_t hc74
      refine jm_iload_n (x := A) rfl rfl (jM_at hl 1 rfl) ?_
      refine jx_ret rfl rfl rfl ?_
      exact ⟨A, rfl, hH, hs, by rw [eA, show k = 4096 by omega]; exact jfc_U ha hb⟩
    · have g74 := jc2_ge_f hc74
      exfalso
      omega
  | succ n ih =>
    intro k T A ls hl eT hn eA bA
    have e70 := hA k (by omega)
    have b70 : 0 ≤ jam a.toInt b.toInt (a.toInt * b.toInt).toNat k ∧ jam a.toInt b.toInt (a.toInt * b.toInt).toNat k ≤ ((a.toInt * b.toInt).toNat : Nat) := jct_bd _ _
    have ps : jfc (fun L => decide (1 < jam a.toInt b.toInt (a.toInt * b.toInt).toNat (L : Int))) (fun L => jam a.toInt b.toInt (a.toInt * b.toInt).toNat (L : Int)) (k + 1) = jfc (fun L => decide (1 < jam a.toInt b.toInt (a.toInt * b.toInt).toNat (L : Int))) (fun L => jam a.toInt b.toInt (a.toInt * b.toInt).toNat (L : Int)) k + (if decide (1 < jam a.toInt b.toInt (a.toInt * b.toInt).toNat (k : Int)) = true then jam a.toInt b.toInt (a.toInt * b.toInt).toNat (k : Int) else 0) := rfl
    have k1 : (1 : Int32).toInt = 1 := by decide
    have k4096 : (4096 : Int32).toInt = 4096 := by decide
    refine jm_iload (x := T) rfl rfl (jM_at hl 0 rfl) ?_
    refine az_X_step (pc' := 74) (ls' := ls) (st' := [.int 4096, .int T]) (h' := h) rfl rfl rfl ?_
    refine jx_ic (t := 104) rfl rfl rfl (fun hc74 => ?_) (fun hc74 => ?_)
    · have g74 := jc2_ge_t hc74
      refine jm_iload_n (x := A) rfl rfl (jM_at hl 1 rfl) ?_
      refine jx_ret rfl rfl rfl ?_
      exfalso
      omega
    · have g74 := jc2_ge_f hc74
      refine jm_aload_n (x := P.1 + 60) rfl rfl (jM_at hl 2 rfl) ?_
      refine jx_gf (i := 60) rfl rfl hH (by decide) (hH.2 60 _ rfl).1 rfl (jx_rf hH rfl rfl) ?_
      refine jm_iload (x := T) rfl rfl (jM_at hl 0 rfl) ?_
      refine jx_ial (i := 70) (x := T) rfl rfl hxa hH (by decide) rfl (by omega) (by show _ < ((4096 : Nat) : Int); omega) (fun z83 ez83 bz83 => ?_)
      refine az_X_step (pc' := 85) (ls' := ls) (st' := [.int 1, .int z83]) (h' := h) rfl rfl rfl ?_
      refine jx_ic (t := 98) rfl rfl rfl (fun hc85 => ?_) (fun hc85 => ?_)
      · have g85 := jc2_le_t hc85
        refine jn_iinc (x := T) rfl rfl (by decide) (jM_at hl 0 rfl) hl rfl (by decide) (by omega) (by omega) (fun z98 (ez98 : z98.toInt = T.toInt + 1) ls98 (hl98 : jM [(4, .int z98), (3, .int A), (0, .ref (P.1 + 60)), (1, .int a), (2, .int b)] ls98) => ?_)
        refine az_X_step (pc' := 69) (ls' := ls98) (st' := []) (h' := h) rfl rfl rfl ?_
        rw [ez83, eT, e70] at g85
        rw [decide_eq_false (by omega), if_neg (by decide), Int.add_zero] at ps
        exact ih (k + 1) z98 A ls98 (jM_pick hl98 [0, 1, 2, 3, 4] rfl) (by omega) (by omega) (by rw [ps]; exact eA) (by omega)
      · have g85 := jc2_le_f hc85
        refine jm_iload_n (x := A) rfl rfl (jM_at hl 1 rfl) ?_
        refine jm_aload_n (x := P.1 + 60) rfl rfl (jM_at hl 2 rfl) ?_
        refine jx_gf (i := 60) rfl rfl hH (by decide) (hH.2 60 _ rfl).1 rfl (jx_rf hH rfl rfl) ?_
        refine jm_iload (x := T) rfl rfl (jM_at hl 0 rfl) ?_
        refine jx_ial (i := 70) (x := T) rfl rfl hxa hH (by decide) rfl (by omega) (by show _ < ((4096 : Nat) : Int); omega) (fun z95 ez95 bz95 => ?_)
        have e95a : z95.toInt = jam a.toInt b.toInt (a.toInt * b.toInt).toNat k := by rw [ez95, eT]; exact e70
        refine jn_add (a := A) (b := z95) rfl rfl (by omega) (by omega) (fun z96 ez96 => ?_)
        refine jm_istore_n (l' := [(3, .int z96), (4, .int T), (0, .ref (P.1 + 60)), (1, .int a), (2, .int b)]) rfl rfl (by decide) hl rfl rfl (fun ls97 hl97 => ?_)
        refine jn_iinc (x := T) rfl rfl (by decide) (jM_at hl97 1 rfl) hl97 rfl (by decide) (by omega) (by omega) (fun z98 (ez98 : z98.toInt = T.toInt + 1) ls98 (hl98 : jM [(4, .int z98), (3, .int z96), (0, .ref (P.1 + 60)), (1, .int a), (2, .int b)] ls98) => ?_)
        refine az_X_step (pc' := 69) (ls' := ls98) (st' := []) (h' := h) rfl rfl rfl ?_
        rw [ez83, eT, e70] at g85
        rw [decide_eq_true (by omega), if_pos rfl] at ps
        have e95 : z95.toInt = jam a.toInt b.toInt (a.toInt * b.toInt).toNat k := by rw [ez95, eT]; exact e70
        exact ih (k + 1) z98 z96 ls98 (jM_pick hl98 [0, 1, 2, 3, 4] rfl) (by omega) (by omega) (by rw [ps]; omega) (by omega)
theorem rub_24 {P : si_P} (hxa : P.2.1 < P.1) {d : Nat} {h0 : si_H} (a b : Int32) (ha : 4 ≤ a.toInt ∧ a.toInt ≤ 60) (hb : 2 ≤ b.toInt ∧ b.toInt ≤ 24) : ∀ (n k : Nat) (T : Int32) (h : si_H) (ls : si_L), jM [(3, .int T), (0, .ref (P.1 + 60)), (1, .int a), (2, .int b)] ls → az_HI P az_tb h → az_same_out [(70, 1000000)] h0 h → T.toInt = k → k + n = (a.toInt * b.toInt).toNat → (∀ L : Nat, L < 4096 → ja h 70 L = jam a.toInt b.toInt k L) → az_X P (d + 2) 227 24 ls [] h (fun rv h' => ∃ z : Int32, rv = some (.int z) ∧ az_HI P az_tb h' ∧ az_same_out [(70, 1000000)] h0 h' ∧ z.toInt = jU a.toInt b.toInt) := by
  have bp := nm_mulnn (a := 4) (b := 60) (c := 2) (d := 24) (x := a.toInt) (y := b.toInt) (by decide) (by decide) ha.1 ha.2 hb.1 hb.2
  intro n
  induction n with
  | zero =>
    intro k T h ls hl hH hs eT hn hA
    have k0 : (0 : Int32).toInt = 0 := by decide
    refine jm_iload_n (x := T) rfl rfl (jM_at hl 0 rfl) ?_
    refine jm_iload_n (x := a) rfl rfl (jM_at hl 2 rfl) ?_
    refine jm_iload_n (x := b) rfl rfl (jM_at hl 3 rfl) ?_
    refine jn_mul (a := a) (b := b) rfl rfl (by omega) (by omega) (fun z27 ez27 => ?_)
    refine jx_ic (t := 64) rfl rfl rfl (fun hc28 => ?_) (fun hc28 => ?_)
    · have g28 := jc2_ge_t hc28
      refine az_X_step (pc' := 65) (ls' := ls) (st' := [.int 0]) (h' := h) rfl rfl rfl ?_
      refine jm_istore_n (l' := [(3, .int 0), (0, .ref (P.1 + 60)), (1, .int a), (2, .int b)]) rfl rfl (by decide) hl rfl rfl (fun ls65 hl65 => ?_)
      refine az_X_step (pc' := 67) (ls' := ls65) (st' := [.int 0]) (h' := h) rfl rfl rfl ?_
      refine jm_istore (l' := [(4, .int 0), (3, .int 0), (0, .ref (P.1 + 60)), (1, .int a), (2, .int b)]) rfl rfl (by decide) hl65 rfl rfl (fun ls67 hl67 => ?_)
      exact rub_69 (d := d + 1) hxa hH hs a b ha hb (by rw [show (a.toInt * b.toInt).toNat = k by omega]; exact hA) 4096 0 0 0 ls67 (jM_pick hl67 [0, 1, 2, 3, 4] rfl) (by decide) (by omega) (by show (0 : Int32).toInt = 0; decide) (by decide)
    · have g28 := jc2_ge_f hc28
      exfalso
      omega
  | succ n ih =>
    intro k T h ls hl hH hs eT hn hA
    have dm := jdm (m := a.toInt) (r := b.toInt) (a := (k : Int)) ha hb (by omega) (by omega)
    have k1 : (1 : Int32).toInt = 1 := by decide
    refine jm_iload_n (x := T) rfl rfl (jM_at hl 0 rfl) ?_
    refine jm_iload_n (x := a) rfl rfl (jM_at hl 2 rfl) ?_
    refine jm_iload_n (x := b) rfl rfl (jM_at hl 3 rfl) ?_
    refine jn_mul (a := a) (b := b) rfl rfl (by omega) (by omega) (fun z27 ez27 => ?_)
    refine jx_ic (t := 64) rfl rfl rfl (fun hc28 => ?_) (fun hc28 => ?_)
    · have g28 := jc2_ge_t hc28
      exfalso
      omega
    · have g28 := jc2_ge_f hc28
      refine jm_iload_n (x := T) rfl rfl (jM_at hl 0 rfl) ?_
      refine jm_iload_n (x := a) rfl rfl (jM_at hl 2 rfl) ?_
      refine jn_rem (a := T) (b := a) rfl rfl (by omega) (by omega) (fun z33 ez33 lz33 uz33 => ?_)
      refine jm_iload_n (x := T) rfl rfl (jM_at hl 0 rfl) ?_
      refine jm_iload_n (x := b) rfl rfl (jM_at hl 3 rfl) ?_
      refine jn_div (a := T) (b := b) rfl rfl (by omega) (by omega) (fun z36 ez36 => ?_)
      refine az_X_call (m' := 214) (as := [.int z33, .int z36]) (rest := []) rfl rfl rfl rfl rfl rfl ?_
      refine (rlook_ok z33 z36 (by rw [ez33, eT]; omega) (by rw [ez36, eT]; omega)).mono ?_
      rintro rv37 h37 ⟨q37, z37, rfl, ez37⟩
      subst h37
      have b33 : 0 ≤ z33.toInt ∧ z33.toInt < a.toInt := by rw [ez33, eT]; exact dm.1
      have b36 : 0 ≤ z36.toInt ∧ z36.toInt < a.toInt := by rw [ez36, eT]; exact dm.2
      have bz : 0 ≤ z37.toInt ∧ z37.toInt < 4096 := by omega
      show az_X P _ 227 40 ls [.int z37] _ _
      refine jm_istore (l' := [(4, .int z37), (3, .int T), (0, .ref (P.1 + 60)), (1, .int a), (2, .int b)]) rfl rfl (by decide) hl rfl rfl (fun ls40 hl40 => ?_)
      refine jm_aload_n (x := P.1 + 60) rfl rfl (jM_at hl40 2 rfl) ?_
      refine jx_gf (i := 60) rfl rfl hH (by decide) (hH.2 60 _ rfl).1 rfl (jx_rf hH rfl rfl) ?_
      refine jm_iload (x := z37) rfl rfl (jM_at hl40 0 rfl) ?_
      refine jm_aload_n (x := P.1 + 60) rfl rfl (jM_at hl40 2 rfl) ?_
      refine jx_gf (i := 60) rfl rfl hH (by decide) (hH.2 60 _ rfl).1 rfl (jx_rf hH rfl rfl) ?_
      refine jm_iload (x := z37) rfl rfl (jM_at hl40 0 rfl) ?_
      refine jx_ial (i := 70) (x := z37) rfl rfl hxa hH (by decide) rfl (by omega) (by show _ < ((4096 : Nat) : Int); omega) (fun z54 ez54 bz54 => ?_)
      refine az_X_step (pc' := 56) (ls' := ls40) (st' := [.int 1, .int z54, .int z37, .ref (P.1 + 70)]) (h' := h) rfl rfl rfl ?_
      have h54 := hA z37.toInt.toNat (by omega)
      rw [Int.toNat_of_nonneg bz.1] at h54
      have b54 : 0 ≤ jam a.toInt b.toInt k z37.toInt ∧ jam a.toInt b.toInt k z37.toInt ≤ k := jct_bd _ k
      refine jn_add (a := z54) (b := 1) rfl rfl (by omega) (by omega) (fun z56 ez56 => ?_)
      rw [show (1 : Int32).toInt = 1 by decide] at ez56
      refine jn_ias (i := 70) (x := z37) (v := z56) rfl rfl hH (by decide) rfl (by omega) (by show _ < ((4096 : Nat) : Int); omega) (by show (-2147483648) ≤ _; omega) (by show _ ≤ 2147483647; omega) (fun h57 hH57 hs57 t57 u57 => ?_)
      refine jn_iinc (x := T) rfl rfl (by decide) (jM_at hl40 1 rfl) hl40 rfl (by decide) (by omega) (by omega) (fun z58 (ez58 : z58.toInt = T.toInt + 1) ls58 (hl58 : jM [(3, .int z58), (4, .int z37), (0, .ref (P.1 + 60)), (1, .int a), (2, .int b)] ls58) => ?_)
      refine az_X_step (pc' := 24) (ls' := ls58) (st' := []) (h' := h57) rfl rfl rfl ?_
      have ev : z37.toInt = jlk a.toInt b.toInt k := by
        rw [ez37, ez33, ez36, eT]
        rfl
      refine ih (k + 1) z58 h57 ls58 (jM_pick hl58 [0, 2, 3, 4] rfl) hH57 (hs.tr hs57) (by omega) (by omega) (fun L hL => ?_)
      have ps : jam a.toInt b.toInt (k + 1) L = jam a.toInt b.toInt k L + (if decide (jlk a.toInt b.toInt k = (L : Int)) = true then 1 else 0) := rfl
      have h0' := hA L hL
      by_cases e : (L : Int) = z37.toInt
      · have hv : ja h57 70 z37.toInt = ja h 70 z37.toInt + 1 := by rw [t57, ez56, ez54]
        rw [ps, decide_eq_true (by rw [← ev]; exact e.symm), if_pos rfl, ← h0', e]
        exact hv
      · rw [ps, decide_eq_false (by rw [← ev]; exact fun q => e q.symm), if_neg (by decide), Int.add_zero, u57 L (by omega) e]
        exact h0'
theorem rub_2 {P : si_P} (hxa : P.2.1 < P.1) {d : Nat} {h0 : si_H} (a b : Int32) (ha : 4 ≤ a.toInt ∧ a.toInt ≤ 60) (hb : 2 ≤ b.toInt ∧ b.toInt ≤ 24) : ∀ (n k : Nat) (T : Int32) (h : si_H) (ls : si_L), jM [(3, .int T), (0, .ref (P.1 + 60)), (1, .int a), (2, .int b)] ls → az_HI P az_tb h → az_same_out [(70, 1000000)] h0 h → T.toInt = k → k + n = 4096 → (∀ L : Nat, L < k → ja h 70 L = 0) → az_X P (d + 2) 227 2 ls [] h (fun rv h' => ∃ z : Int32, rv = some (.int z) ∧ az_HI P az_tb h' ∧ az_same_out [(70, 1000000)] h0 h' ∧ z.toInt = jU a.toInt b.toInt) := by
  intro n
  induction n with
  | zero =>
    intro k T h ls hl hH hs eT hn hA
    have k0 : (0 : Int32).toInt = 0 := by decide
    have k4096 : (4096 : Int32).toInt = 4096 := by decide
    refine jm_iload_n (x := T) rfl rfl (jM_at hl 0 rfl) ?_
    refine az_X_step (pc' := 6) (ls' := ls) (st' := [.int 4096, .int T]) (h' := h) rfl rfl rfl ?_
    refine jx_ic (t := 22) rfl rfl rfl (fun hc6 => ?_) (fun hc6 => ?_)
    · have g6 := jc2_ge_t hc6
      refine az_X_step (pc' := 23) (ls' := ls) (st' := [.int 0]) (h' := h) rfl rfl rfl ?_
      refine jm_istore_n (l' := [(3, .int 0), (0, .ref (P.1 + 60)), (1, .int a), (2, .int b)]) rfl rfl (by decide) hl rfl rfl (fun ls23 hl23 => ?_)
      exact rub_24 hxa a b ha hb (a.toInt * b.toInt).toNat 0 0 h ls23 (jM_pick hl23 [0, 1, 2, 3] rfl) hH hs (by decide) (by omega) (fun L hL => hA L (by omega))
    · have g6 := jc2_ge_f hc6
      exfalso
      omega
  | succ n ih =>
    intro k T h ls hl hH hs eT hn hA
    have k0 : (0 : Int32).toInt = 0 := by decide
    have k4096 : (4096 : Int32).toInt = 4096 := by decide
    refine jm_iload_n (x := T) rfl rfl (jM_at hl 0 rfl) ?_
    refine az_X_step (pc' := 6) (ls' := ls) (st' := [.int 4096, .int T]) (h' := h) rfl rfl rfl ?_
    refine jx_ic (t := 22) rfl rfl rfl (fun hc6 => ?_) (fun hc6 => ?_)
    · have g6 := jc2_ge_t hc6
      exfalso
      omega
    · have g6 := jc2_ge_f hc6
      refine jm_aload_n (x := P.1 + 60) rfl rfl (jM_at hl 1 rfl) ?_
      refine jx_gf (i := 60) rfl rfl hH (by decide) (hH.2 60 _ rfl).1 rfl (jx_rf hH rfl rfl) ?_
      refine jm_iload_n (x := T) rfl rfl (jM_at hl 0 rfl) ?_
      refine az_X_step (pc' := 15) (ls' := ls) (st' := [.int 0, .int T, .ref (P.1 + 70)]) (h' := h) rfl rfl rfl ?_
      refine jn_ias (i := 70) (x := T) (v := 0) rfl rfl hH (by decide) rfl (by omega) (by show _ < ((4096 : Nat) : Int); omega) (by show (-2147483648) ≤ _; omega) (by show _ ≤ 2147483647; omega) (fun h15 hH15 hs15 t15 u15 => ?_)
      refine jn_iinc (x := T) rfl rfl (by decide) (jM_at hl 0 rfl) hl rfl (by decide) (by omega) (by omega) (fun z16 (ez16 : z16.toInt = T.toInt + 1) ls16 (hl16 : jM [(3, .int z16), (0, .ref (P.1 + 60)), (1, .int a), (2, .int b)] ls16) => ?_)
      refine az_X_step (pc' := 2) (ls' := ls16) (st' := []) (h' := h15) rfl rfl rfl ?_
      refine ih (k + 1) z16 h15 ls16 (jM_pick hl16 [0, 1, 2, 3] rfl) hH15 (hs.tr hs15) (by omega) (by omega) (fun L hL => ?_)
      by_cases e : (L : Int) = T.toInt
      · rw [e, t15]; decide
      · rw [u15 L (by omega) e]; exact hA L (by omega)
theorem rub_ok {P : si_P} (hxa : P.2.1 < P.1) {d : Nat} {h : si_H} (hH : az_HI P az_tb h) (a b : Int32) (ha : 4 ≤ a.toInt ∧ a.toInt ≤ 60) (hb : 2 ≤ b.toInt ∧ b.toInt ≤ 24) : az_X P (d + 2) 227 0 (lv_args 0 [.ref (P.1 + 60), .int a, .int b]) [] h (fun rv h' => ∃ z : Int32, rv = some (.int z) ∧ az_HI P az_tb h' ∧ az_same_out [(70, 1000000)] h h' ∧ z.toInt = jU a.toInt b.toInt) := by
  have hl : jM [(0, .ref (P.1 + 60)), (1, .int a), (2, .int b)] (lv_args 0 [.ref (P.1 + 60), .int a, .int b]) := jM_args [0, 1, 2] rfl (by decide)
  generalize lv_args 0 [.ref (P.1 + 60), .int a, .int b] = ls at hl
  have k0 : (0 : Int32).toInt = 0 := by decide
  refine az_X_step (pc' := 1) (ls' := ls) (st' := [.int 0]) (h' := h) rfl rfl rfl ?_
  refine jm_istore_n (l' := [(3, .int 0), (0, .ref (P.1 + 60)), (1, .int a), (2, .int b)]) rfl rfl (by decide) hl rfl rfl (fun ls1 hl1 => ?_)
  exact rub_2 hxa a b ha hb 4096 0 0 h ls1 (jM_pick hl1 [0, 1, 2, 3] rfl) hH az_same_out.rf (by decide) (by omega) (fun L hL => absurd hL (by omega))
theorem rbest_l {P : si_P} (hxa : P.2.1 < P.1) {d : Nat} {h0 : si_H} (a w : Int32) (ha : 4 ≤ a.toInt ∧ a.toInt ≤ 60) : ∀ (n k : Nat) (T F B : Int32) (h : si_H) (ls : si_L), jM [(5, .int T), (4, .int F), (3, .int B), (0, .ref (P.1 + 60)), (1, .int a), (2, .int w)] ls → az_HI P az_tb h → az_same_out [(70, 1000000)] h0 h → T.toInt = (k : Int) + 3 → k + n = 22 → B.toInt = (jbs a.toInt k).1 → F.toInt = (jbs a.toInt k).2 → az_X P (d + 3) 228 34 ls [] h (fun rv h' => ∃ z : Int32, rv = some (.int z) ∧ az_HI P az_tb h' ∧ az_same_out [(70, 1000000)] h0 h' ∧ z.toInt = (if w.toInt = 0 then (jbs a.toInt 22).1 else (jbs a.toInt 22).2)) := by
  intro n
  induction n with
  | zero =>
    intro k T F B h ls hl hH hs eT hn eB eF
    have k0 : (0 : Int32).toInt = 0 := by decide
    have k24 : (24 : Int32).toInt = 24 := by decide
    refine jm_iload (x := T) rfl rfl (jM_at hl 0 rfl) ?_
    refine az_X_step (pc' := 38) (ls' := ls) (st' := [.int 24, .int T]) (h' := h) rfl rfl rfl ?_
    refine jx_ic (t := 78) rfl rfl rfl (fun hc38 => ?_) (fun hc38 => ?_)
    · have g38 := jc2_gt_t hc38
      refine jm_iload_n (x := w) rfl rfl (jM_at hl 5 rfl) ?_
      refine jx_if (t := 86) rfl rfl rfl (fun hc79 => ?_) (fun hc79 => ?_)
      · have g79 := jc1_ne_t hc79
        refine jm_iload (x := F) rfl rfl (jM_at hl 1 rfl) ?_
        refine jx_ret rfl rfl rfl ?_
        exact ⟨F, rfl, hH, hs, by rw [if_neg g79, eF, show k = 22 by omega]⟩
      · have g79 := jc1_ne_f hc79
        refine jm_iload_n (x := B) rfl rfl (jM_at hl 2 rfl) ?_
        refine az_X_step (pc' := 88) (ls' := ls) (st' := [.int B]) (h' := h) rfl rfl rfl ?_
        refine jx_ret rfl rfl rfl ?_
        exact ⟨B, rfl, hH, hs, by rw [if_pos g79, eB, show k = 22 by omega]⟩
    · have g38 := jc2_gt_f hc38
      exfalso
      omega
  | succ n ih =>
    intro k T F B h ls hl hH hs eT hn eB eF
    have bd := jbs_bd ha k (by omega)
    have u1 := jU_bd ha (r := (k : Int) + 3) (by omega)
    have u2 := jU_bd ha (r := (jbs a.toInt k).1) (by omega)
    have p1 := nm_mulnn (a := 0) (b := 1440) (c := 2) (d := 24) (x := jU a.toInt ((k : Int) + 3)) (y := (jbs a.toInt k).1) (by decide) (by decide) u1.1 u1.2 bd.1 (by omega)
    have p2 := nm_mulnn (a := 0) (b := 1440) (c := 2) (d := 24) (x := (jbs a.toInt k).2) (y := (k : Int) + 3) (by decide) (by decide) (by omega) (by omega) (by omega) (by omega)
    have k24 : (24 : Int32).toInt = 24 := by decide
    refine jm_iload (x := T) rfl rfl (jM_at hl 0 rfl) ?_
    refine az_X_step (pc' := 38) (ls' := ls) (st' := [.int 24, .int T]) (h' := h) rfl rfl rfl ?_
    refine jx_ic (t := 78) rfl rfl rfl (fun hc38 => ?_) (fun hc38 => ?_)
    · have g38 := jc2_gt_t hc38
      exfalso
      omega
    · have g38 := jc2_gt_f hc38
      refine jm_aload_n (x := P.1 + 60) rfl rfl (jM_at hl 3 rfl) ?_
      refine jm_iload_n (x := a) rfl rfl (jM_at hl 4 rfl) ?_
      refine jm_iload (x := T) rfl rfl (jM_at hl 0 rfl) ?_
      refine az_X_call (m' := 227) (as := [.ref (P.1 + 60), .int a, .int T]) (rest := []) rfl rfl rfl rfl rfl ?_ ?_
      · unfold si_call
        dsimp only
        rw [if_pos ⟨rfl, rfl⟩]
        show (match si_ix P h (P.1 + 60) with | some i => _ | none => none) = _
        rw [jix hH (by decide)]
        dsimp only
        rw [(hH.2 60 _ rfl).1]
        rfl
      refine (rub_ok (d := d) hxa hH a T ha (by omega)).mono ?_
      rintro rv45 h45 ⟨z45, rfl, hH45, hs45, f45⟩
      show az_X P _ 228 48 ls [.int z45] _ _
      refine jm_istore (l' := [(6, .int z45), (5, .int T), (4, .int F), (3, .int B), (0, .ref (P.1 + 60)), (1, .int a), (2, .int w)]) rfl rfl (by decide) hl rfl rfl (fun ls48 hl48 => ?_)
      have e45 : z45.toInt = jU a.toInt ((k : Int) + 3) := by rw [f45, eT]
      refine jm_iload (x := z45) rfl rfl (jM_at hl48 0 rfl) ?_
      refine jm_iload_n (x := B) rfl rfl (jM_at hl48 3 rfl) ?_
      refine jn_mul (a := z45) (b := B) rfl rfl (by rw [e45, eB]; omega) (by rw [e45, eB]; omega) (fun z53 ez53 => ?_)
      refine jm_iload (x := F) rfl rfl (jM_at hl48 2 rfl) ?_
      refine jm_iload (x := T) rfl rfl (jM_at hl48 1 rfl) ?_
      refine jn_mul (a := F) (b := T) rfl rfl (by rw [eF, eT]; omega) (by rw [eF, eT]; omega) (fun z58 ez58 => ?_)
      refine jx_ic (t := 65) rfl rfl rfl (fun hc59 => ?_) (fun hc59 => ?_)
      · have g59 := jc2_lt_t hc59
        refine jm_iload (x := T) rfl rfl (jM_at hl48 1 rfl) ?_
        refine jm_istore_n (l' := [(3, .int T), (6, .int z45), (5, .int T), (4, .int F), (0, .ref (P.1 + 60)), (1, .int a), (2, .int w)]) rfl rfl (by decide) hl48 rfl rfl (fun ls67 hl67 => ?_)
        refine jm_iload (x := z45) rfl rfl (jM_at hl67 1 rfl) ?_
        refine jm_istore (l' := [(4, .int z45), (3, .int T), (6, .int z45), (5, .int T), (0, .ref (P.1 + 60)), (1, .int a), (2, .int w)]) rfl rfl (by decide) hl67 rfl rfl (fun ls70 hl70 => ?_)
        refine jn_iinc (x := T) rfl rfl (by decide) (jM_at hl70 3 rfl) hl70 rfl (by decide) (by omega) (by omega) (fun z72 (ez72 : z72.toInt = T.toInt + 1) ls72 (hl72 : jM [(5, .int z72), (4, .int z45), (3, .int T), (6, .int z45), (0, .ref (P.1 + 60)), (1, .int a), (2, .int w)] ls72) => ?_)
        refine az_X_step (pc' := 34) (ls' := ls72) (st' := []) (h' := h45) rfl rfl rfl ?_
        rw [ez53, ez58] at g59
        rw [e45, eB, eF, eT] at g59
        exact ih (k + 1) z72 z45 T h45 ls72 (jM_pick hl72 [0, 1, 2, 4, 5, 6] rfl) hH45 (hs.tr hs45) (by omega) (by omega) (by rw [jbs_t g59]; exact eT) (by rw [jbs_t g59]; exact e45)
      · have g59 := jc2_lt_f hc59
        refine az_X_step (pc' := 72) (ls' := ls48) (st' := []) (h' := h45) rfl rfl rfl ?_
        refine jn_iinc (x := T) rfl rfl (by decide) (jM_at hl48 1 rfl) hl48 rfl (by decide) (by omega) (by omega) (fun z72 (ez72 : z72.toInt = T.toInt + 1) ls72 (hl72 : jM [(5, .int z72), (6, .int z45), (4, .int F), (3, .int B), (0, .ref (P.1 + 60)), (1, .int a), (2, .int w)] ls72) => ?_)
        refine az_X_step (pc' := 34) (ls' := ls72) (st' := []) (h' := h45) rfl rfl rfl ?_
        rw [ez53, ez58] at g59
        rw [e45, eB, eF, eT] at g59
        exact ih (k + 1) z72 F B h45 ls72 (jM_pick hl72 [0, 2, 3, 4, 5, 6] rfl) hH45 (hs.tr hs45) (by omega) (by omega) (by rw [jbs_f (by omega)]; exact eB) (by rw [jbs_f (by omega)]; exact eF)
theorem best1_ok {P : si_P} (hxa : P.2.1 < P.1) {d : Nat} {h : si_H} (hH : az_HI P az_tb h) (a w : Int32) : az_X P (d + 3) 228 0 (lv_args 0 [.ref (P.1 + 60), .int a, .int w]) [] h (fun rv h' => ∃ z : Int32, rv = some (.int z) ∧ az_HI P az_tb h' ∧ az_same_out [(70, 1000000)] h h' ∧ z.toInt = jbe a.toInt w.toInt) := by
  have hl : jM [(0, .ref (P.1 + 60)), (1, .int a), (2, .int w)] (lv_args 0 [.ref (P.1 + 60), .int a, .int w]) := jM_args [0, 1, 2] rfl (by decide)
  generalize lv_args 0 [.ref (P.1 + 60), .int a, .int w] = ls at hl
  have km1 : ((-1) : Int32).toInt = (-1) := by decide
  have k0 : (0 : Int32).toInt = 0 := by decide
  have k1 : (1 : Int32).toInt = 1 := by decide
  have k2 : (2 : Int32).toInt = 2 := by decide
  have k3 : (3 : Int32).toInt = 3 := by decide
  have k4 : (4 : Int32).toInt = 4 := by decide
  have k60 : (60 : Int32).toInt = 60 := by decide
  refine jm_iload_n (x := a) rfl rfl (jM_at hl 1 rfl) ?_
  refine az_X_step (pc' := 2) (ls' := ls) (st' := [.int 4, .int a]) (h' := h) rfl rfl rfl ?_
  refine az_X_step (pc' := 4) (ls' := ls) (st' := [.int 60, .int 4, .int a]) (h' := h) rfl rfl rfl ?_
  refine az_X_call (m' := 202) (as := [.int a, .int 4, .int 60]) (rest := []) rfl rfl rfl rfl rfl rfl ?_
  refine (rin_ok a 4 60).mono ?_
  rintro rv4 h4 ⟨q4, z4, rfl, ez4⟩
  subst h4
  show az_X P _ 228 7 ls [.int z4] _ _
  refine jx_if (t := 19) rfl rfl rfl (fun hc7 => ?_) (fun hc7 => ?_)
  · have g7 := jc1_eq_t hc7
    refine az_X_step (pc' := 20) (ls' := ls) (st' := [.int (-1)]) (h' := h) rfl rfl rfl ?_
    refine jx_ret rfl rfl rfl ?_
    refine ⟨(-1), rfl, hH, az_same_out.rf, ?_⟩
    unfold jbe
    rw [if_neg (by omega)]
    decide
  · have g7 := jc1_eq_f hc7
    refine jm_iload_n (x := w) rfl rfl (jM_at hl 2 rfl) ?_
    refine az_X_step (pc' := 12) (ls' := ls) (st' := [.int 0, .int w]) (h' := h) rfl rfl rfl ?_
    refine az_X_step (pc' := 13) (ls' := ls) (st' := [.int 1, .int 0, .int w]) (h' := h) rfl rfl rfl ?_
    refine az_X_call (m' := 202) (as := [.int w, .int 0, .int 1]) (rest := []) rfl rfl rfl rfl rfl rfl ?_
    refine (rin_ok w 0 1).mono ?_
    rintro rv13 h13 ⟨q13, z13, rfl, ez13⟩
    subst h13
    show az_X P _ 228 16 ls [.int z13] _ _
    refine jx_if (t := 21) rfl rfl rfl (fun hc16 => ?_) (fun hc16 => ?_)
    · have g16 := jc1_ne_t hc16
      refine az_X_step (pc' := 22) (ls' := ls) (st' := [.int 2]) (h' := h) rfl rfl rfl ?_
      refine jm_istore_n (l' := [(3, .int 2), (0, .ref (P.1 + 60)), (1, .int a), (2, .int w)]) rfl rfl (by decide) hl rfl rfl (fun ls22 hl22 => ?_)
      refine jm_aload_n (x := P.1 + 60) rfl rfl (jM_at hl22 1 rfl) ?_
      refine jm_iload_n (x := a) rfl rfl (jM_at hl22 2 rfl) ?_
      refine az_X_step (pc' := 26) (ls' := ls22) (st' := [.int 2, .int a, .ref (P.1 + 60)]) (h' := h) rfl rfl rfl ?_
      refine az_X_call (m' := 227) (as := [.ref (P.1 + 60), .int a, .int 2]) (rest := []) rfl rfl rfl rfl rfl ?_ ?_
      · unfold si_call
        dsimp only
        rw [if_pos ⟨rfl, rfl⟩]
        show (match si_ix P h (P.1 + 60) with | some i => _ | none => none) = _
        rw [jix hH (by decide)]
        dsimp only
        rw [(hH.2 60 _ rfl).1]
        rfl
      refine (rub_ok (d := d) hxa hH a 2 (by omega) (by decide)).mono ?_
      rintro rv26 h26 ⟨z26, rfl, hH26, hs26, f26⟩
      show az_X P _ 228 29 ls22 [.int z26] _ _
      refine jm_istore (l' := [(4, .int z26), (3, .int 2), (0, .ref (P.1 + 60)), (1, .int a), (2, .int w)]) rfl rfl (by decide) hl22 rfl rfl (fun ls29 hl29 => ?_)
      refine az_X_step (pc' := 32) (ls' := ls29) (st' := [.int 3]) (h' := h26) rfl rfl rfl ?_
      refine jm_istore (l' := [(5, .int 3), (4, .int z26), (3, .int 2), (0, .ref (P.1 + 60)), (1, .int a), (2, .int w)]) rfl rfl (by decide) hl29 rfl rfl (fun ls32 hl32 => ?_)
      refine (rbest_l (d := d) hxa (h0 := h) a w (by omega) 22 0 3 z26 2 h26 ls32 (jM_pick hl32 [0, 1, 2, 3, 4, 5] rfl) hH26 hs26 (by decide) (by omega) (by show _ = (2 : Int); decide) (by rw [f26, k2]; rfl)).mono ?_
      rintro rv h9 ⟨z, q1, q2, q3, q4⟩
      refine ⟨z, q1, q2, q3, ?_⟩
      unfold jbe
      rw [if_pos ⟨by omega, by omega, by omega⟩]
      exact q4
    · have g16 := jc1_ne_f hc16
      refine az_X_step (pc' := 20) (ls' := ls) (st' := [.int (-1)]) (h' := h) rfl rfl rfl ?_
      refine jx_ret rfl rfl rfl ?_
      refine ⟨(-1), rfl, hH, az_same_out.rf, ?_⟩
      unfold jbe
      rw [if_neg (by omega)]
      decide
