/-! KEPT: which dial, by class and reference -/
set_option maxRecDepth 100000
def cq_k0 : az_Ct := (184, ([(4, 60), (2, 24)], [], [], [(1, ([], 0), ([(0, 1)], 0)), (1, ([], 1), ([(1, 1)], 0))]), [.inr (.inr (.inl 0))], [(([(4, 60), (2, 24), (0, 9999)], [], [], [(59, ([], 0), ([(0, 1)], 0)), (59, ([], 1), ([(1, 1)], 0))]), some (.inl ([(2, 1)], 0)))], [(21, 5), (21, 6), (22, 1000000), (23, 1000000), (24, 1000000), (25, 1000000), (59, 1000000)], 3)
def cv_k0 : List az_Cut := []
theorem ck_cq_k0 : az_chk az_tb [ct_X3_copyAll_368] cq_k0 cv_k0 az_inl az_spl [(59, 1000000)] 24 = true := by decide +kernel
theorem ok_cq_k0 {P : si_P} (hxa : P.2.1 < P.1) : az_ok js_J P az_tb cq_k0 ∧ az_wfct cq_k0 = true := az_chk_ok az_tb_ok hxa (az_dj_ok js_fr (by decide)) (az_fc (ok_X3_copyAll_368 hxa js_fr) az_fn) ck_cq_k0
def cq_k1 : az_Ct := (336, ([(4, 60), (2, 24)], [], [], [(60, ([], 7), ([(0, 1)], 0)), (60, ([], 8), ([(1, 1)], 0))]), [.inr (.inr (.inl 60))], [(([(4, 60), (2, 24), ((-65535), 65535)], [], [], [(60, ([], 62), ([], 1)), (60, ([], 64), ([(0, 1)], 0)), (60, ([], 65), ([(1, 1)], 0))]), some (.inl ([(2, 1)], 0)))], [(60, 62), (60, 63), (60, 64), (60, 65), (63, 1000000)], 1)
def cv_k1 : List az_Cut := []
theorem ck_cq_k1 : az_chk az_tb [ct_X11_copies_525] cq_k1 cv_k1 az_inl az_spl [(60, 62), (60, 63), (60, 64), (60, 65)] 26 = true := by decide +kernel
theorem ok_cq_k1 {P : si_P} (hxa : P.2.1 < P.1) : az_ok js_J P az_tb cq_k1 ∧ az_wfct cq_k1 = true := az_chk_ok az_tb_ok hxa (az_dj_ok js_fr (by decide)) (az_fc (ok_X11_copies_525 hxa js_fr) az_fn) ck_cq_k1
def cq_u0 : az_Ct := (185, ([(4, 60), (2, 24), ((-2147483648), 2147483647), ((-2147483648), 2147483647)], [], [], [(1, ([], 0), ([(0, 1)], 0)), (1, ([], 1), ([(1, 1)], 0)), (59, ([], 0), ([(2, 1)], 0)), (59, ([], 1), ([(3, 1)], 0))]), [.inr (.inr (.inl 0))], [(([(4, 60), (2, 24), ((-2147483648), 2147483647), ((-2147483648), 2147483647)], [([(0, (-1)), (2, 1)], 0), ([(0, 1), (2, (-1))], 0), ([(1, 1), (3, (-1))], 0), ([(1, 1), (3, (-1))], (-1))], [], []), some (.inl ([], 0))), (([(4, 60), (2, 24), ((-2147483648), 2147483647), ((-2147483648), 2147483647)], [([(0, (-1)), (2, 1)], 0), ([(0, 1), (2, (-1))], 0), ([(1, (-1)), (3, 1)], 0), ([(1, (-1)), (3, 1)], (-1))], [], []), some (.inl ([], 0))), (([(4, 60), (2, 24), ((-2147483648), 2147483647), ((-2147483648), 2147483647)], [([(0, (-1)), (2, 1)], 0), ([(0, 1), (2, (-1))], 0), ([(1, (-1)), (3, 1)], 0), ([(1, 1), (3, (-1))], 0)], [], []), some (.inl ([], 1))), (([(4, 60), (2, 24), ((-2147483648), 2147483647), ((-2147483648), 2147483647)], [([(0, 1), (2, (-1))], 0), ([(0, 1), (2, (-1))], (-1))], [], []), some (.inl ([], 0))), (([(4, 60), (2, 24), ((-2147483648), 2147483647), ((-2147483648), 2147483647)], [([(0, (-1)), (2, 1)], 0), ([(0, (-1)), (2, 1)], (-1))], [], []), some (.inl ([], 0)))], [(16, 5), (16, 6), (17, 1000000), (18, 1000000), (19, 1000000), (20, 1000000)], 2)
def cv_u0 : List az_Cut := []
theorem ck_cq_u0 : az_chk az_tb [ct_X3_restore_371] cq_u0 cv_u0 az_inl (az_spl ++ [(185, 13), (185, 29)]) [] 24 = true := by decide +kernel
theorem ok_cq_u0 {P : si_P} (hxa : P.2.1 < P.1) : az_ok js_J P az_tb cq_u0 ∧ az_wfct cq_u0 = true := az_chk_ok az_tb_ok hxa (az_dj_ok js_fr (by decide)) (az_fc (ok_X3_restore_371 hxa js_fr) az_fn) ck_cq_u0
def cq_u1 : az_Ct := (337, ([(4, 60), (2, 24), ((-2147483648), 2147483647), ((-2147483648), 2147483647), (0, 1)], [], [], [(60, ([], 7), ([(0, 1)], 0)), (60, ([], 8), ([(1, 1)], 0)), (60, ([], 64), ([(2, 1)], 0)), (60, ([], 65), ([(3, 1)], 0)), (60, ([], 62), ([(4, 1)], 0))]), [.inr (.inr (.inl 60))], [(([(4, 60), (2, 24), ((-2147483648), 2147483647), ((-2147483648), 2147483647), (0, 1)], [([(0, (-1)), (2, 1)], 0), ([(0, 1), (2, (-1))], 0), ([(1, 1), (3, (-1))], 0), ([(1, 1), (3, (-1))], (-1)), ([(4, 1)], (-1))], [], []), some (.inl ([], 0))), (([(4, 60), (2, 24), ((-2147483648), 2147483647), ((-2147483648), 2147483647), (0, 1)], [([(0, (-1)), (2, 1)], 0), ([(0, 1), (2, (-1))], 0), ([(1, (-1)), (3, 1)], 0), ([(1, (-1)), (3, 1)], (-1)), ([(4, 1)], (-1))], [], []), some (.inl ([], 0))), (([(4, 60), (2, 24), ((-2147483648), 2147483647), ((-2147483648), 2147483647), (0, 1)], [([(0, 1), (2, (-1))], 0), ([(0, 1), (2, (-1))], (-1)), ([(4, 1)], (-1))], [], []), some (.inl ([], 0))), (([(4, 60), (2, 24), ((-2147483648), 2147483647), ((-2147483648), 2147483647), (0, 1)], [([(0, (-1)), (2, 1)], 0), ([(0, (-1)), (2, 1)], (-1)), ([(4, 1)], (-1))], [], []), some (.inl ([], 0))), (([(4, 60), (2, 24), ((-2147483648), 2147483647), ((-2147483648), 2147483647), (0, 1)], [([(4, (-1))], 0)], [], []), some (.inl ([], 0))), (([(4, 60), (2, 24), ((-2147483648), 2147483647), ((-2147483648), 2147483647), (0, 1)], [([(0, (-1)), (2, 1)], 0), ([(0, 1), (2, (-1))], 0), ([(1, (-1)), (3, 1)], 0), ([(1, 1), (3, (-1))], 0), ([(4, 1)], (-1))], [], []), some (.inl ([], 1)))], [(61, 1000000)], 1)
def cv_u1 : List az_Cut := [(33, ([(4, 60), (2, 24), (4, 60), (2, 24), (1, 1), (4, 60), (2, 24), (4, 60), (2, 24), (1, 1), (0, 24)], [([(3, (-1)), (1, 1)], 0), ([(3, (-1)), (8, 1)], 0), ([(3, (-1)), (6, 1)], 0), ([(2, (-1)), (0, 1)], 0), ([(2, (-1)), (7, 1)], 0), ([(2, (-1)), (5, 1)], 0), ([(1, (-1)), (3, 1)], 0), ([(1, (-1)), (8, 1)], 0), ([(1, (-1)), (6, 1)], 0), ([(0, (-1)), (2, 1)], 0), ([(0, (-1)), (7, 1)], 0), ([(0, (-1)), (5, 1)], 0), ([(9, (-1)), (4, 1)], 0), ([(8, (-1)), (3, 1)], 0), ([(8, (-1)), (1, 1)], 0), ([(8, (-1)), (6, 1)], 0), ([(7, (-1)), (2, 1)], 0), ([(7, (-1)), (0, 1)], 0), ([(7, (-1)), (5, 1)], 0), ([(6, (-1)), (3, 1)], 0), ([(6, (-1)), (1, 1)], 0), ([(6, (-1)), (8, 1)], 0), ([(5, (-1)), (2, 1)], 0), ([(5, (-1)), (0, 1)], 0), ([(5, (-1)), (7, 1)], 0)], [], [(60, ([], 7), ([(5, 1)], 0)), (60, ([], 8), ([(6, 1)], 0)), (60, ([], 64), ([(7, 1)], 0)), (60, ([], 65), ([(8, 1)], 0)), (60, ([], 62), ([(9, 1)], 0))]), [(0, .inr (.inr (.inl 60))), (1, .inl ([(10, 1)], 0))], [], ([(10, (-1))], 24))]
theorem ck_cq_u1 : az_chk az_tb [] cq_u1 cv_u1 az_inl (az_spl ++ [(337, 4), (337, 15), (337, 26), (337, 55)]) [(61, 1000000)] 35 = true := by decide +kernel
theorem ok_cq_u1 {P : si_P} (hxa : P.2.1 < P.1) : az_ok js_J P az_tb cq_u1 ∧ az_wfct cq_u1 = true := az_chk_ok az_tb_ok hxa (az_dj_ok js_fr (by decide)) az_fn ck_cq_u1
theorem ct_k0_ok {P : si_P} (hxa : P.2.1 < P.1) {d : Nat} (hd : 3 ≤ d) {h : si_H} (hH : az_HI P az_tb h) (hJ : js_J h) : az_X P d 184 0 (lv_args 0 [.ref (P.1 + 0)]) [] h (fun rv h1 => ∃ w : Int32, rv = some (.int w) ∧ az_HI P az_tb h1 ∧ js_J h1 ∧ az_same_out cq_k0.2.2.2.2.1 h h1 ∧ ((∃ z2 : Int, (0 ≤ z2 ∧ z2 ≤ 9999) ∧ w.toInt = z2 ∧ ja h1 59 0 = ja h 1 0 ∧ ja h1 59 1 = ja h 1 1))) := by
  refine ((ok_cq_k0 hxa).1 d hd (jρ [ja h 1 0, ja h 1 1]) h [.ref (P.1 + 0)] hH hJ (jg_mk hH (by decide) (by decide) ⟨(ja_bd hH (i := 1) (k := 0) rfl), (ja_bd hH (i := 1) (k := 1) rfl), trivial⟩ trivial trivial ⟨⟨by decide, (by show (0 : Int) ≤ 0 + 0; decide), rfl, ?_⟩, ⟨by decide, (by show (0 : Int) ≤ 0 + 1; decide), rfl, ?_⟩, trivial⟩) ⟨trivial, rfl, trivial⟩).mono ?_
  · show ja h 1 0 = (1 * ja h 1 0 + 0) + 0
    omega
  · show ja h 1 1 = (1 * ja h 1 1 + 0) + 0
    omega
  rintro rv h1 ⟨c1, c2, c3, q, q1, σ, s1, s2, s3⟩
  have e0 : σ 0 = ja h 1 0 := s1 0 (by decide)
  have e1 : σ 1 = ja h 1 1 := s1 1 (by decide)
  rcases List.mem_singleton.mp q1 with rfl
  obtain ⟨w, rfl, hw⟩ := jO_int s3
  have hw : w.toInt = ((1 * σ 2 + 0) + 0) := hw
  have i2 : 0 ≤ σ 2 ∧ σ 2 ≤ 9999 := s2.1 2 _ rfl
  have t := jgT_un s2.2.2.2
  have t0 : ja h1 59 0 = ((1 * σ 0 + 0) + 0) := t.1 (by decide)
  have t1 : ja h1 59 1 = ((1 * σ 1 + 0) + 0) := t.2.1 (by decide)
  exact ⟨w, rfl, c1, c2, c3, ⟨σ 2, i2, by omega, by omega, by omega⟩⟩
theorem ct_k1_ok {P : si_P} (hxa : P.2.1 < P.1) {d : Nat} (hd : 1 ≤ d) {h : si_H} (hH : az_HI P az_tb h) (hJ : js_J h) : az_X P d 336 0 (lv_args 0 [.ref (P.1 + 60)]) [] h (fun rv h1 => ∃ w : Int32, rv = some (.int w) ∧ az_HI P az_tb h1 ∧ js_J h1 ∧ az_same_out cq_k1.2.2.2.2.1 h h1 ∧ ((∃ z2 : Int, ((-65535) ≤ z2 ∧ z2 ≤ 65535) ∧ w.toInt = z2 ∧ ja h1 60 62 = 1 ∧ ja h1 60 64 = ja h 60 7 ∧ ja h1 60 65 = ja h 60 8))) := by
  refine ((ok_cq_k1 hxa).1 d hd (jρ [ja h 60 7, ja h 60 8]) h [.ref (P.1 + 60)] hH hJ (jg_mk hH (by decide) (by decide) ⟨(ja_bd hH (i := 60) (k := 7) rfl), (ja_bd hH (i := 60) (k := 8) rfl), trivial⟩ trivial trivial ⟨⟨by decide, (by show (0 : Int) ≤ 0 + 7; decide), rfl, ?_⟩, ⟨by decide, (by show (0 : Int) ≤ 0 + 8; decide), rfl, ?_⟩, trivial⟩) ⟨trivial, rfl, trivial⟩).mono ?_
  · show ja h 60 7 = (1 * ja h 60 7 + 0) + 0
    omega
  · show ja h 60 8 = (1 * ja h 60 8 + 0) + 0
    omega
  rintro rv h1 ⟨c1, c2, c3, q, q1, σ, s1, s2, s3⟩
  have e0 : σ 0 = ja h 60 7 := s1 0 (by decide)
  have e1 : σ 1 = ja h 60 8 := s1 1 (by decide)
  rcases List.mem_singleton.mp q1 with rfl
  obtain ⟨w, rfl, hw⟩ := jO_int s3
  have hw : w.toInt = ((1 * σ 2 + 0) + 0) := hw
  have i2 : (-65535) ≤ σ 2 ∧ σ 2 ≤ 65535 := s2.1 2 _ rfl
  have t := jgT_un s2.2.2.2
  have t0 : ja h1 60 62 = (1 : Int) := t.1 (by decide)
  have t1 : ja h1 60 64 = ((1 * σ 0 + 0) + 0) := t.2.1 (by decide)
  have t2 : ja h1 60 65 = ((1 * σ 1 + 0) + 0) := t.2.2.1 (by decide)
  exact ⟨w, rfl, c1, c2, c3, ⟨σ 2, i2, by omega, by omega, by omega, by omega⟩⟩
theorem ct_u0_ok {P : si_P} (hxa : P.2.1 < P.1) {d : Nat} (hd : 2 ≤ d) {h : si_H} (hH : az_HI P az_tb h) (hJ : js_J h) : az_X P d 185 0 (lv_args 0 [.ref (P.1 + 0)]) [] h (fun rv h1 => ∃ w : Int32, rv = some (.int w) ∧ az_HI P az_tb h1 ∧ js_J h1 ∧ az_same_out cq_u0.2.2.2.2.1 h h1 ∧ ((w.toInt = 0 ∧ 0 ≤ -ja h 1 0 + ja h 59 0 ∧ 0 ≤ ja h 1 0 - ja h 59 0 ∧ 0 ≤ ja h 1 1 - ja h 59 1 ∧ 0 ≤ ja h 1 1 - ja h 59 1 - 1) ∨ (w.toInt = 0 ∧ 0 ≤ -ja h 1 0 + ja h 59 0 ∧ 0 ≤ ja h 1 0 - ja h 59 0 ∧ 0 ≤ -ja h 1 1 + ja h 59 1 ∧ 0 ≤ -ja h 1 1 + ja h 59 1 - 1) ∨ (w.toInt = 1 ∧ 0 ≤ -ja h 1 0 + ja h 59 0 ∧ 0 ≤ ja h 1 0 - ja h 59 0 ∧ 0 ≤ -ja h 1 1 + ja h 59 1 ∧ 0 ≤ ja h 1 1 - ja h 59 1) ∨ (w.toInt = 0 ∧ 0 ≤ ja h 1 0 - ja h 59 0 ∧ 0 ≤ ja h 1 0 - ja h 59 0 - 1) ∨ (w.toInt = 0 ∧ 0 ≤ -ja h 1 0 + ja h 59 0 ∧ 0 ≤ -ja h 1 0 + ja h 59 0 - 1))) := by
  refine ((ok_cq_u0 hxa).1 d hd (jρ [ja h 1 0, ja h 1 1, ja h 59 0, ja h 59 1]) h [.ref (P.1 + 0)] hH hJ (jg_mk hH (by decide) (by decide) ⟨(ja_bd hH (i := 1) (k := 0) rfl), (ja_bd hH (i := 1) (k := 1) rfl), (ja_bd hH (i := 59) (k := 0) rfl), (ja_bd hH (i := 59) (k := 1) rfl), trivial⟩ trivial trivial ⟨⟨by decide, (by show (0 : Int) ≤ 0 + 0; decide), rfl, ?_⟩, ⟨by decide, (by show (0 : Int) ≤ 0 + 1; decide), rfl, ?_⟩, ⟨by decide, (by show (0 : Int) ≤ 0 + 0; decide), rfl, ?_⟩, ⟨by decide, (by show (0 : Int) ≤ 0 + 1; decide), rfl, ?_⟩, trivial⟩) ⟨trivial, rfl, trivial⟩).mono ?_
  · show ja h 1 0 = (1 * ja h 1 0 + 0) + 0
    omega
  · show ja h 1 1 = (1 * ja h 1 1 + 0) + 0
    omega
  · show ja h 59 0 = (1 * ja h 59 0 + 0) + 0
    omega
  · show ja h 59 1 = (1 * ja h 59 1 + 0) + 0
    omega
  rintro rv h1 ⟨c1, c2, c3, q, q1, σ, s1, s2, s3⟩
  have e0 : σ 0 = ja h 1 0 := s1 0 (by decide)
  have e1 : σ 1 = ja h 1 1 := s1 1 (by decide)
  have e2 : σ 2 = ja h 59 0 := s1 2 (by decide)
  have e3 : σ 3 = ja h 59 1 := s1 3 (by decide)
  rcases List.mem_cons.mp q1 with rfl | q1
  · obtain ⟨w, rfl, hw⟩ := jO_int s3
    have hw : w.toInt = (0 : Int) := hw
    have f := jgF_un s2.2.1
    have f0 : 0 ≤ (((-1) * σ 0 + (1 * σ 2 + 0)) + 0) := f.1
    have f1 : 0 ≤ ((1 * σ 0 + ((-1) * σ 2 + 0)) + 0) := f.2.1
    have f2 : 0 ≤ ((1 * σ 1 + ((-1) * σ 3 + 0)) + 0) := f.2.2.1
    have f3 : 0 ≤ ((1 * σ 1 + ((-1) * σ 3 + 0)) + (-1)) := f.2.2.2.1
    exact ⟨w, rfl, c1, c2, c3, Or.inl ⟨by omega, by omega, by omega, by omega, by omega⟩⟩
  rcases List.mem_cons.mp q1 with rfl | q1
  · obtain ⟨w, rfl, hw⟩ := jO_int s3
    have hw : w.toInt = (0 : Int) := hw
    have f := jgF_un s2.2.1
    have f0 : 0 ≤ (((-1) * σ 0 + (1 * σ 2 + 0)) + 0) := f.1
    have f1 : 0 ≤ ((1 * σ 0 + ((-1) * σ 2 + 0)) + 0) := f.2.1
    have f2 : 0 ≤ (((-1) * σ 1 + (1 * σ 3 + 0)) + 0) := f.2.2.1
    have f3 : 0 ≤ (((-1) * σ 1 + (1 * σ 3 + 0)) + (-1)) := f.2.2.2.1
    exact ⟨w, rfl, c1, c2, c3, Or.inr (Or.inl ⟨by omega, by omega, by omega, by omega, by omega⟩)⟩
  rcases List.mem_cons.mp q1 with rfl | q1
  · obtain ⟨w, rfl, hw⟩ := jO_int s3
    have hw : w.toInt = (1 : Int) := hw
    have f := jgF_un s2.2.1
    have f0 : 0 ≤ (((-1) * σ 0 + (1 * σ 2 + 0)) + 0) := f.1
    have f1 : 0 ≤ ((1 * σ 0 + ((-1) * σ 2 + 0)) + 0) := f.2.1
    have f2 : 0 ≤ (((-1) * σ 1 + (1 * σ 3 + 0)) + 0) := f.2.2.1
    have f3 : 0 ≤ ((1 * σ 1 + ((-1) * σ 3 + 0)) + 0) := f.2.2.2.1
    exact ⟨w, rfl, c1, c2, c3, Or.inr (Or.inr (Or.inl ⟨by omega, by omega, by omega, by omega, by omega⟩))⟩
  rcases List.mem_cons.mp q1 with rfl | q1
  · obtain ⟨w, rfl, hw⟩ := jO_int s3
    have hw : w.toInt = (0 : Int) := hw
    have f := jgF_un s2.2.1
    have f0 : 0 ≤ ((1 * σ 0 + ((-1) * σ 2 + 0)) + 0) := f.1
    have f1 : 0 ≤ ((1 * σ 0 + ((-1) * σ 2 + 0)) + (-1)) := f.2.1
    exact ⟨w, rfl, c1, c2, c3, Or.inr (Or.inr (Or.inr (Or.inl ⟨by omega, by omega, by omega⟩)))⟩
  · rcases List.mem_singleton.mp q1 with rfl
    obtain ⟨w, rfl, hw⟩ := jO_int s3
    have hw : w.toInt = (0 : Int) := hw
    have f := jgF_un s2.2.1
    have f0 : 0 ≤ (((-1) * σ 0 + (1 * σ 2 + 0)) + 0) := f.1
    have f1 : 0 ≤ (((-1) * σ 0 + (1 * σ 2 + 0)) + (-1)) := f.2.1
    exact ⟨w, rfl, c1, c2, c3, Or.inr (Or.inr (Or.inr (Or.inr (⟨by omega, by omega, by omega⟩))))⟩
theorem ct_u1_ok {P : si_P} (hxa : P.2.1 < P.1) {d : Nat} (hd : 1 ≤ d) {h : si_H} (hH : az_HI P az_tb h) (hJ : js_J h) : az_X P d 337 0 (lv_args 0 [.ref (P.1 + 60)]) [] h (fun rv h1 => ∃ w : Int32, rv = some (.int w) ∧ az_HI P az_tb h1 ∧ js_J h1 ∧ az_same_out cq_u1.2.2.2.2.1 h h1 ∧ ((w.toInt = 0 ∧ 0 ≤ -ja h 60 7 + ja h 60 64 ∧ 0 ≤ ja h 60 7 - ja h 60 64 ∧ 0 ≤ ja h 60 8 - ja h 60 65 ∧ 0 ≤ ja h 60 8 - ja h 60 65 - 1 ∧ 0 ≤ ja h 60 62 - 1) ∨ (w.toInt = 0 ∧ 0 ≤ -ja h 60 7 + ja h 60 64 ∧ 0 ≤ ja h 60 7 - ja h 60 64 ∧ 0 ≤ -ja h 60 8 + ja h 60 65 ∧ 0 ≤ -ja h 60 8 + ja h 60 65 - 1 ∧ 0 ≤ ja h 60 62 - 1) ∨ (w.toInt = 0 ∧ 0 ≤ ja h 60 7 - ja h 60 64 ∧ 0 ≤ ja h 60 7 - ja h 60 64 - 1 ∧ 0 ≤ ja h 60 62 - 1) ∨ (w.toInt = 0 ∧ 0 ≤ -ja h 60 7 + ja h 60 64 ∧ 0 ≤ -ja h 60 7 + ja h 60 64 - 1 ∧ 0 ≤ ja h 60 62 - 1) ∨ (w.toInt = 0 ∧ 0 ≤ -ja h 60 62) ∨ (w.toInt = 1 ∧ 0 ≤ -ja h 60 7 + ja h 60 64 ∧ 0 ≤ ja h 60 7 - ja h 60 64 ∧ 0 ≤ -ja h 60 8 + ja h 60 65 ∧ 0 ≤ ja h 60 8 - ja h 60 65 ∧ 0 ≤ ja h 60 62 - 1))) := by
  refine ((ok_cq_u1 hxa).1 d hd (jρ [ja h 60 7, ja h 60 8, ja h 60 64, ja h 60 65, ja h 60 62]) h [.ref (P.1 + 60)] hH hJ (jg_mk hH (by decide) (by decide) ⟨(ja_bd hH (i := 60) (k := 7) rfl), (ja_bd hH (i := 60) (k := 8) rfl), (ja_bd hH (i := 60) (k := 64) rfl), (ja_bd hH (i := 60) (k := 65) rfl), (ja_bd hH (i := 60) (k := 62) rfl), trivial⟩ trivial trivial ⟨⟨by decide, (by show (0 : Int) ≤ 0 + 7; decide), rfl, ?_⟩, ⟨by decide, (by show (0 : Int) ≤ 0 + 8; decide), rfl, ?_⟩, ⟨by decide, (by show (0 : Int) ≤ 0 + 64; decide), rfl, ?_⟩, ⟨by decide, (by show (0 : Int) ≤ 0 + 65; decide), rfl, ?_⟩, ⟨by decide, (by show (0 : Int) ≤ 0 + 62; decide), rfl, ?_⟩, trivial⟩) ⟨trivial, rfl, trivial⟩).mono ?_
  · show ja h 60 7 = (1 * ja h 60 7 + 0) + 0
    omega
  · show ja h 60 8 = (1 * ja h 60 8 + 0) + 0
    omega
  · show ja h 60 64 = (1 * ja h 60 64 + 0) + 0
    omega
  · show ja h 60 65 = (1 * ja h 60 65 + 0) + 0
    omega
  · show ja h 60 62 = (1 * ja h 60 62 + 0) + 0
    omega
  rintro rv h1 ⟨c1, c2, c3, q, q1, σ, s1, s2, s3⟩
  have e0 : σ 0 = ja h 60 7 := s1 0 (by decide)
  have e1 : σ 1 = ja h 60 8 := s1 1 (by decide)
  have e2 : σ 2 = ja h 60 64 := s1 2 (by decide)
  have e3 : σ 3 = ja h 60 65 := s1 3 (by decide)
  have e4 : σ 4 = ja h 60 62 := s1 4 (by decide)
  rcases List.mem_cons.mp q1 with rfl | q1
  · obtain ⟨w, rfl, hw⟩ := jO_int s3
    have hw : w.toInt = (0 : Int) := hw
    have f := jgF_un s2.2.1
    have f0 : 0 ≤ (((-1) * σ 0 + (1 * σ 2 + 0)) + 0) := f.1
    have f1 : 0 ≤ ((1 * σ 0 + ((-1) * σ 2 + 0)) + 0) := f.2.1
    have f2 : 0 ≤ ((1 * σ 1 + ((-1) * σ 3 + 0)) + 0) := f.2.2.1
    have f3 : 0 ≤ ((1 * σ 1 + ((-1) * σ 3 + 0)) + (-1)) := f.2.2.2.1
    have f4 : 0 ≤ ((1 * σ 4 + 0) + (-1)) := f.2.2.2.2.1
    exact ⟨w, rfl, c1, c2, c3, Or.inl ⟨by omega, by omega, by omega, by omega, by omega, by omega⟩⟩
  rcases List.mem_cons.mp q1 with rfl | q1
  · obtain ⟨w, rfl, hw⟩ := jO_int s3
    have hw : w.toInt = (0 : Int) := hw
    have f := jgF_un s2.2.1
    have f0 : 0 ≤ (((-1) * σ 0 + (1 * σ 2 + 0)) + 0) := f.1
    have f1 : 0 ≤ ((1 * σ 0 + ((-1) * σ 2 + 0)) + 0) := f.2.1
    have f2 : 0 ≤ (((-1) * σ 1 + (1 * σ 3 + 0)) + 0) := f.2.2.1
    have f3 : 0 ≤ (((-1) * σ 1 + (1 * σ 3 + 0)) + (-1)) := f.2.2.2.1
    have f4 : 0 ≤ ((1 * σ 4 + 0) + (-1)) := f.2.2.2.2.1
    exact ⟨w, rfl, c1, c2, c3, Or.inr (Or.inl ⟨by omega, by omega, by omega, by omega, by omega, by omega⟩)⟩
  rcases List.mem_cons.mp q1 with rfl | q1
  · obtain ⟨w, rfl, hw⟩ := jO_int s3
    have hw : w.toInt = (0 : Int) := hw
    have f := jgF_un s2.2.1
    have f0 : 0 ≤ ((1 * σ 0 + ((-1) * σ 2 + 0)) + 0) := f.1
    have f1 : 0 ≤ ((1 * σ 0 + ((-1) * σ 2 + 0)) + (-1)) := f.2.1
    have f2 : 0 ≤ ((1 * σ 4 + 0) + (-1)) := f.2.2.1
    exact ⟨w, rfl, c1, c2, c3, Or.inr (Or.inr (Or.inl ⟨by omega, by omega, by omega, by omega⟩))⟩
  rcases List.mem_cons.mp q1 with rfl | q1
  · obtain ⟨w, rfl, hw⟩ := jO_int s3
    have hw : w.toInt = (0 : Int) := hw
    have f := jgF_un s2.2.1
    have f0 : 0 ≤ (((-1) * σ 0 + (1 * σ 2 + 0)) + 0) := f.1
    have f1 : 0 ≤ (((-1) * σ 0 + (1 * σ 2 + 0)) + (-1)) := f.2.1
    have f2 : 0 ≤ ((1 * σ 4 + 0) + (-1)) := f.2.2.1
    exact ⟨w, rfl, c1, c2, c3, Or.inr (Or.inr (Or.inr (Or.inl ⟨by omega, by omega, by omega, by omega⟩)))⟩
  rcases List.mem_cons.mp q1 with rfl | q1
  · obtain ⟨w, rfl, hw⟩ := jO_int s3
    have hw : w.toInt = (0 : Int) := hw
    have f := jgF_un s2.2.1
    have f0 : 0 ≤ (((-1) * σ 4 + 0) + 0) := f.1
    exact ⟨w, rfl, c1, c2, c3, Or.inr (Or.inr (Or.inr (Or.inr (Or.inl ⟨by omega, by omega⟩))))⟩
  · rcases List.mem_singleton.mp q1 with rfl
    obtain ⟨w, rfl, hw⟩ := jO_int s3
    have hw : w.toInt = (1 : Int) := hw
    have f := jgF_un s2.2.1
    have f0 : 0 ≤ (((-1) * σ 0 + (1 * σ 2 + 0)) + 0) := f.1
    have f1 : 0 ≤ ((1 * σ 0 + ((-1) * σ 2 + 0)) + 0) := f.2.1
    have f2 : 0 ≤ (((-1) * σ 1 + (1 * σ 3 + 0)) + 0) := f.2.2.1
    have f3 : 0 ≤ ((1 * σ 1 + ((-1) * σ 3 + 0)) + 0) := f.2.2.2.1
    have f4 : 0 ≤ ((1 * σ 4 + 0) + (-1)) := f.2.2.2.2.1
    exact ⟨w, rfl, c1, c2, c3, Or.inr (Or.inr (Or.inr (Or.inr (Or.inr (⟨by omega, by omega, by omega, by omega, by omega, by omega⟩)))))⟩
