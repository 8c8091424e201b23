/-! THE LAW'S LOOP, by contracts, some cases by hand -/
set_option maxRecDepth 100000
def lw_cts : List az_Ct := [ct_X10_feed_3, ct_X10_law_92, ct_X10_clocks_103, ct_X10_book_108, ct_X10_reads_147, ct_X10_exchanged_148, ct_X10_mirrors_152, ct_X10_untold_178, ct_X10_till_182, ct_X10_glance_189, ct_X10_covered_192, ct_X10_apart_193, ct_X10_photographs_210, ct_X10_anyOrder_220, ct_X10_quiet_230, ct_X10_strokesTill_238, ct_X10_strokes_239, ct_X10_heard_250, ct_X10_listen_254, ct_X10_towers_258, ct_X10_wheels_262, ct_X10_shows_265, ct_X10_clockIs_268, ct_X10_agree_271, ct_X10_agreeing_276, ct_X10_all_281, ct_X10_nearest_289, ct_X10_most_294, ct_X10_pairs_297, ct_X10_spread_301, ct_X10_goodTimes_307, ct_X10_setBy_309, ct_X10_appointment_318, ct_X10_meetings_323, ct_X10_days_348, ct_X10_tried_363, ct_X10_together_364, ct_X10_seed_365, ct_X10_keep_369, ct_X10_undo_372, ct_X10_check_375, ct_X10_count_378, ct_X11_feed_381, ct_X11_law_382, ct_X11_clocks_387, ct_X11_book_389, ct_X11_reads_400, ct_X11_exchanged_401, ct_X11_mirrors_402, ct_X11_untold_414, ct_X11_till_415, ct_X11_glance_417, ct_X11_covered_418, ct_X11_apart_419, ct_X11_photographs_433, ct_X11_anyOrder_439, ct_X11_quiet_443, ct_X11_strokesTill_444, ct_X11_strokes_446, ct_X11_heard_448, ct_X11_listen_450, ct_X11_towers_454, ct_X11_wheels_456, ct_X11_shows_460, ct_X11_clockIs_463, ct_X11_agree_465, ct_X11_agreeing_467, ct_X11_all_471, ct_X11_nearest_479, ct_X11_most_481, ct_X11_pairs_484, ct_X11_spread_488, ct_X11_goodTimes_493, ct_X11_setBy_495, ct_X11_appointment_502, ct_X11_meetings_505, ct_X11_days_519, ct_X11_tried_522, ct_X11_together_523, ct_X11_seed_524, ct_X11_keep_526, ct_X11_undo_527, ct_X11_check_528, ct_X11_count_530]
theorem lw_cts_ok0 {P : si_P} (hxa : P.2.1 < P.1) : ∀ c ∈ lw_cts, az_ok js_J P az_tb c ∧ az_wfct c = true := (az_fc (ok_X10_feed_3 hxa js_fr) (az_fc (ok_X10_law_92 hxa js_fr) (az_fc (ok_X10_clocks_103 hxa js_fr) (az_fc (ok_X10_book_108 hxa js_fr) (az_fc (ok_X10_reads_147 hxa js_fr) (az_fc (ok_X10_exchanged_148 hxa js_fr) (az_fc (ok_X10_mirrors_152 hxa js_fr) (az_fc (ok_X10_untold_178 hxa js_fr) (az_fc (ok_X10_till_182 hxa js_fr) (az_fc (ok_X10_glance_189 hxa js_fr) (az_fc (ok_X10_covered_192 hxa js_fr) (az_fc (ok_X10_apart_193 hxa js_fr) (az_fc (ok_X10_photographs_210 hxa js_fr) (az_fc (ok_X10_anyOrder_220 hxa js_fr) (az_fc (ok_X10_quiet_230 hxa js_fr) (az_fc (ok_X10_strokesTill_238 hxa js_fr) (az_fc (ok_X10_strokes_239 hxa js_fr) (az_fc (ok_X10_heard_250 hxa js_fr) (az_fc (ok_X10_listen_254 hxa js_fr) (az_fc (ok_X10_towers_258 hxa js_fr) (az_fc (ok_X10_wheels_262 hxa js_fr) (az_fc (ok_X10_shows_265 hxa js_fr) (az_fc (ok_X10_clockIs_268 hxa js_fr) (az_fc (ok_X10_agree_271 hxa js_fr) (az_fc (ok_X10_agreeing_276 hxa js_fr) (az_fc (ok_X10_all_281 hxa js_fr) (az_fc (ok_X10_nearest_289 hxa js_fr) (az_fc (ok_X10_most_294 hxa js_fr) (az_fc (ok_X10_pairs_297 hxa js_fr) (az_fc (ok_X10_spread_301 hxa js_fr) (az_fc (ok_X10_goodTimes_307 hxa js_fr) (az_fc (ok_X10_setBy_309 hxa js_fr) (az_fc (ok_X10_appointment_318 hxa js_fr) (az_fc (ok_X10_meetings_323 hxa js_fr) (az_fc (ok_X10_days_348 hxa js_fr) (az_fc (ok_X10_tried_363 hxa js_fr) (az_fc (ok_X10_together_364 hxa js_fr) (az_fc (ok_X10_seed_365 hxa js_fr) (az_fc (ok_X10_keep_369 hxa js_fr) (az_fc (ok_X10_undo_372 hxa js_fr) (az_fc (ok_X10_check_375 hxa js_fr) (az_fc (ok_X10_count_378 hxa js_fr) (az_fc (ok_X11_feed_381 hxa js_fr) (az_fc (ok_X11_law_382 hxa) (az_fc (ok_X11_clocks_387 hxa js_fr) (az_fc (ok_X11_book_389 hxa js_fr) (az_fc (ok_X11_reads_400 hxa) (az_fc (ok_X11_exchanged_401 hxa js_fr) (az_fc (ok_X11_mirrors_402 hxa) (az_fc (ok_X11_untold_414 hxa js_fr) (az_fc (ok_X11_till_415 hxa js_fr) (az_fc (ok_X11_glance_417 hxa js_fr) (az_fc (ok_X11_covered_418 hxa) (az_fc (ok_X11_apart_419 hxa js_fr) (az_fc (ok_X11_photographs_433 hxa js_fr) (az_fc (ok_X11_anyOrder_439 hxa) (az_fc (ok_X11_quiet_443 hxa) (az_fc (ok_X11_strokesTill_444 hxa) (az_fc (ok_X11_strokes_446 hxa js_fr) (az_fc (ok_X11_heard_448 hxa) (az_fc (ok_X11_listen_450 hxa) (az_fc (ok_X11_towers_454 hxa js_fr) (az_fc (ok_X11_wheels_456 hxa js_fr) (az_fc (ok_X11_shows_460 hxa js_fr) (az_fc (ok_X11_clockIs_463 hxa js_fr) (az_fc (ok_X11_agree_465 hxa js_fr) (az_fc (ok_X11_agreeing_467 hxa js_fr) (az_fc (ok_X11_all_471 hxa js_fr) (az_fc (ok_X11_nearest_479 hxa js_fr) (az_fc (ok_X11_most_481 hxa js_fr) (az_fc (ok_X11_pairs_484 hxa js_fr) (az_fc (ok_X11_spread_488 hxa js_fr) (az_fc (ok_X11_goodTimes_493 hxa js_fr) (az_fc (ok_X11_setBy_495 hxa js_fr) (az_fc (ok_X11_appointment_502 hxa js_fr) (az_fc (ok_X11_meetings_505 hxa js_fr) (az_fc (ok_X11_days_519 hxa) (az_fc (ok_X11_tried_522 hxa) (az_fc (ok_X11_together_523 hxa) (az_fc (ok_X11_seed_524 hxa js_fr) (az_fc (ok_X11_keep_526 hxa js_fr) (az_fc (ok_X11_undo_527 hxa js_fr) (az_fc (ok_X11_check_528 hxa js_fr) (az_fc (ok_X11_count_530 hxa js_fr) az_fn))))))))))))))))))))))))))))))))))))))))))))))))))))))))))))))))))))))))))))))))))))
def lw_md : List (Nat × Nat) := [(0, 15), (0, 16), (0, 17), (0, 18), (1, 0), (1, 1), (2, 0), (2, 1), (4, 1000000), (6, 6), (6, 7), (6, 8), (7, 1000000), (8, 1000000), (9, 1000000), (10, 1000000), (11, 1000000), (12, 1), (13, 1000000), (14, 1), (14, 2), (14, 3), (15, 0), (15, 1), (16, 5), (16, 6), (17, 1000000), (18, 1000000), (19, 1000000), (20, 1000000), (21, 5), (21, 6), (22, 1000000), (23, 1000000), (24, 1000000), (25, 1000000), (26, 5), (26, 6), (27, 1000000), (28, 1000000), (29, 1000000), (30, 1000000), (31, 1000000), (32, 1000000), (33, 1000000), (34, 1000000), (35, 6), (35, 7), (35, 8), (36, 1000000), (37, 1000000), (38, 1000000), (39, 1000000), (40, 1000000), (41, 1000000), (42, 6), (42, 7), (42, 8), (43, 1000000), (44, 1000000), (45, 1000000), (46, 1000000), (47, 1000000), (48, 1000000), (49, 5), (50, 1000000), (51, 1000000), (52, 1000000), (53, 1000000), (54, 5), (55, 1000000), (56, 1000000), (57, 1000000), (58, 1000000), (59, 1000000), (60, 7), (60, 8), (60, 9), (60, 10), (60, 11), (60, 16), (60, 17), (60, 18), (60, 19), (60, 20), (60, 21), (60, 22), (60, 23), (60, 24), (60, 25), (60, 45), (60, 46), (60, 47), (60, 58), (60, 61), (60, 62), (60, 63), (60, 64), (60, 65), (61, 1000000), (62, 1000000), (63, 1000000), (64, 1000000), (65, 1000000), (66, 1000000), (67, 1000000), (68, 1000000), (69, 1000000), (70, 1000000), (71, 1000000), (72, 1000000), (73, 1000000), (74, 1000000), (75, 1000000), (76, 1000000), (77, 1000000), (78, 1000000), (79, 1000000), (80, 1000000), (81, 1000000), (82, 1000000), (83, 1000000), (84, 1000000), (85, 1000000), (86, 1000000), (87, 1000000), (88, 1000000), (89, 1000000), (90, 1000000), (91, 1000000), (92, 1000000), (93, 1000000), (94, 1000000), (95, 1000000), (96, 1000000), (97, 1000000), (98, 1000000), (99, 1000000), (100, 1000000), (101, 1000000), (102, 1000000)]
/-- beside the dials: what the class has found is right -/
def jrx (h : si_H) : Prop := jbc h
def jrpx : List (Nat × Nat) := [(34, 1000000)]
theorem jrx_fr : az_fr_of jrx jrpx := by
  intro a b ha hq
  have e : ∀ i k : Nat, az_in jrpx i k = true → ji b i k = ji a i k := fun i k hik => by unfold ji; rw [hq i k hik]
  have e4 : ∀ i : Nat, ja b 34 i = ja a 34 i := fun i => e 34 i (by unfold az_in; rw [Bool.or_eq_true]; exact Or.inr (by decide))
  intro k k1 k2
  rw [e4]
  exact ha k k1 k2
/-- the two dials are one, and what is said beside -/
def jdls (h : si_H) : Prop := ja h 1 0 = ja h 60 7 ∧ ja h 1 1 = ja h 60 8
def jpd : List (Nat × Nat) := [(1, 0), (1, 1), (60, 7), (60, 8)]
theorem jdls_fr : az_fr_of jdls jpd := by
  intro a b ha hq
  have e : ∀ i k : Nat, az_in jpd i k = true → ji b i k = ji a i k := fun i k hik => by unfold ji; rw [hq i k hik]
  exact ⟨(e 1 0 rfl).trans (ha.1.trans (e 60 7 rfl).symm), (e 1 1 rfl).trans (ha.2.trans (e 60 8 rfl).symm)⟩
def jrd (h : si_H) : Prop := jdls h ∧ jrx h
def jrp : List (Nat × Nat) := jpd ++ jrpx
theorem az_in_app {a b : List (Nat × Nat)} {i k : Nat} : (az_in a i k = true → az_in (a ++ b) i k = true) ∧ (az_in b i k = true → az_in (a ++ b) i k = true) := by
  unfold az_in
  simp only [Bool.or_eq_true, List.contains_iff_mem, List.mem_append]
  constructor <;> rintro (h | h) <;> simp [h]
theorem jrd_fr : az_fr_of jrd jrp := fun a b ha hq => ⟨jdls_fr a b ha.1 (fun i k hik => hq i k (az_in_app.1 hik)), jrx_fr a b ha.2 (fun i k hik => hq i k (az_in_app.2 hik))⟩
theorem az_ok_and {J R : si_H → Prop} {PL : List (Nat × Nat)} {P : si_P} {tb : List az_B} {c : az_Ct} (hk : az_ok J P tb c ∧ az_wfct c = true) (hR : az_fr_of R PL) (hd : az_dj c.2.2.2.2.1 PL = true) : az_ok (fun h => J h ∧ R h) P tb c ∧ az_wfct c = true := ⟨fun d hd' ρ h as hH hJ hg hS => (hk.1 d hd' ρ h as hH hJ.1 hg hS).mono (fun rv h1 q => ⟨q.1, ⟨q.2.1, az_dj_ok hR hd h h1 hJ.2 q.2.2.1⟩, q.2.2.1, q.2.2.2⟩), hk.2⟩
def JJ (h : si_H) : Prop := js_J h ∧ jrd h
theorem lw_dj : lw_cts.all (fun c => az_dj c.2.2.2.2.1 jrp) = true := by decide +kernel
theorem lw_cts_ok {P : si_P} (hxa : P.2.1 < P.1) : ∀ c ∈ lw_cts, az_ok JJ P az_tb c ∧ az_wfct c = true := fun c hc => az_ok_and (lw_cts_ok0 hxa c hc) jrd_fr (List.all_eq_true.mp lw_dj c hc)
theorem JJ_nil : ∀ a b : si_H, JJ a → az_same_out [] a b → JJ b := fun a b ha hs => ⟨az_dj_ok js_fr (by decide) a b ha.1 hs, az_dj_ok jrd_fr (by decide) a b ha.2 hs⟩
theorem lw_in {P : si_P} {x : Int32} {i : Int} (hx : x.toInt = i) (h0 : 0 ≤ i) (h1 : i ≤ 3072) (hl : i + 6 ≤ (P.2.2.1 : Int)) (j : Int32) (hj : 0 ≤ j.toInt ∧ j.toInt ≤ 5) : si_in (x + j) P.2.2.1 = true := by
  have e1 : (x + j).toInt = x.toInt + j.toInt := by
    rw [Int32.toInt_add]
    exact Int.bmod_eq_of_le (by omega) (by omega)
  unfold si_in
  rw [Bool.and_eq_true, decide_eq_true_eq, decide_eq_true_eq]
  refine ⟨Int32.le_iff_toInt_le.mpr (by have : (0 : Int32).toInt = 0 := by decide
                                        omega), ?_⟩
  have : (x + j).toNatClampNeg = (x + j).toInt.toNat := rfl
  omega
theorem hc_dial_ {P : si_P} (hxa : P.2.1 < P.1) {d : Nat} (hd : 39 ≤ d) {h : si_H} (hJ : JJ h) (hH : az_HI P az_tb h) (a b : Int32) : ∃ K1 : Int32 → si_H → Prop, az_X P d 144 0 (lv_args 0 [.ref (P.1 + 0), .int a, .int b]) [] h (fun rv h1 => ∃ w1 : Int32, rv = some (.int w1) ∧ az_HI P az_tb h1 ∧ K1 w1 h1) ∧ ∀ (w1 : Int32) (h1 : si_H), az_HI P az_tb h1 → K1 w1 h1 → az_X P d 218 0 (lv_args 0 [.ref (P.1 + 60), .int a, .int b]) [] h1 (fun rv h2 => ∃ w2 : Int32, rv = some (.int w2) ∧ True ∧ az_HI P az_tb h2 ∧ JJ h2 ∧ az_same_out lw_md h h2) := by
  refine ⟨_, dial0_ok hxa (by omega) a b hH hJ.1, fun w1 h1 hH1 k1 => ?_⟩
  obtain ⟨k2, k3, k4⟩ := k1
  refine (dial1_ok hxa (by omega) a b hH1 k2).mono (fun rv h2 q => ?_)
  obtain ⟨w, e, q1, q2, q3, q4⟩ := q
  have e10 : ja h2 1 0 = ja h1 1 0 := jso q3 (by decide)
  have e11 : ja h2 1 1 = ja h1 1 1 := jso q3 (by decide)
  have e7 : ja h1 60 7 = ja h 60 7 := jso k3 (by decide)
  have e8 : ja h1 60 8 = ja h 60 8 := jso k3 (by decide)
  have r1 := hJ.2.1.1
  have r2 := hJ.2.1.2
  refine ⟨w, e, ?_, q1, ⟨q2, ?_, az_dj_ok jrx_fr (by decide) _ _ (az_dj_ok jrx_fr (by decide) _ _ hJ.2.2 k3) q3⟩, (k3.sub (by decide)).tr (q3.sub (by decide))⟩
  · first
      | exact trivial
      | (rcases k4 with ⟨x1, x2, -⟩ | ⟨x1, x2, -⟩ <;> rcases q4 with ⟨z1, z2, -⟩ | ⟨z1, z2, -⟩
         · rw [x2, z2]
         · exact absurd x1 z1
         · exact absurd z1 x1
         · rw [x2, z2])
  · rcases k4 with ⟨x1, x2, x3, x4⟩ | ⟨x1, x2, x3, x4⟩ <;> rcases q4 with ⟨z1, z2, z3, z4⟩ | ⟨z1, z2, z3, z4⟩
    · exact ⟨by omega, by omega⟩
    · exact absurd x1 z1
    · exact absurd z1 x1
    · exact ⟨by omega, by omega⟩
theorem hc_dial {P : si_P} (hxa : P.2.1 < P.1) {d : Nat} (hd : 39 ≤ d) {h : si_H} {ls : si_L} {Q : Option Value → si_H → Prop} {x : Int32} (h0 : si_ld 0 ls = some (.ref P.2.1)) (h1 : si_ld 1 ls = some (.ref (P.1 + 0))) (h2 : si_ld 2 ls = some (.ref (P.1 + 60))) (h3 : si_ld 3 ls = some (.int x)) (hin1 : si_in (x + 1) P.2.2.1 = true) (hin2 : si_in (x + 2) P.2.2.1 = true) (hH : az_HI P az_tb h) (hJ : JJ h) (cont : ∀ hb : si_H, az_HI P az_tb hb → JJ hb → az_same_out lw_md h hb → az_X P (d + 1) 346 254 ls [] hb Q) : az_X P (d + 1) 346 224 ls [] h Q := by
  obtain ⟨K1, k0, k1⟩ := hc_dial_ hxa hd hJ hH (jsv P x 1) (jsv P x 2)
  exact lw_case_dial h0 h1 h2 h3 hin1 hin2 hH (K1 := K1) (K2 := fun w1 w2 hb => True ∧ az_HI P az_tb hb ∧ JJ hb ∧ az_same_out lw_md h hb) k0 k1 (fun w1 w2 hb q => cont hb q.2.1 q.2.2.1 q.2.2.2)
theorem hc_bestDial_ {P : si_P} (hxa : P.2.1 < P.1) {d : Nat} (hd : 39 ≤ d) {h : si_H} (hJ : JJ h) (hH : az_HI P az_tb h) (a v : Int32) : ∃ K1 : Int32 → si_H → Prop, az_X P d 152 0 (lv_args 0 [.ref (P.1 + 0), .int a, .int v]) [] h (fun rv h1 => ∃ w1 : Int32, rv = some (.int w1) ∧ az_HI P az_tb h1 ∧ K1 w1 h1) ∧ ∀ (w1 : Int32) (h1 : si_H), az_HI P az_tb h1 → K1 w1 h1 → az_X P d 228 0 (lv_args 0 [.ref (P.1 + 60), .int a, .int v]) [] h1 (fun rv h2 => ∃ w2 : Int32, rv = some (.int w2) ∧ w2 = w1 ∧ az_HI P az_tb h2 ∧ JJ h2 ∧ az_same_out lw_md h h2) := by
  obtain ⟨d', rfl⟩ : ∃ d', d = d' + 7 := ⟨d - 7, by omega⟩
  refine ⟨_, best0_ok (d := d') hxa hH hJ.2.2 a v, fun w1 h1 hH1 k1 => ?_⟩
  obtain ⟨k3, hw, hC⟩ := k1
  have j1 : js_J h1 := az_dj_ok js_fr (by decide) _ _ hJ.1 k3
  have x1 : jdls h1 := az_dj_ok jdls_fr (by decide) _ _ hJ.2.1 k3
  refine (best1_ok (d := d' + 4) hxa hH1 a v).mono (fun rv h2 q => ?_)
  obtain ⟨w, rfl, q1, q3, hw2⟩ := q
  refine ⟨w, rfl, Int32.toInt_inj.mp ?_, q1, ⟨az_dj_ok js_fr (by decide) _ _ j1 q3, az_dj_ok jdls_fr (by decide) _ _ x1 q3, az_dj_ok jrx_fr (by decide) _ _ hC q3⟩, (k3.sub (by decide)).tr (q3.sub (by decide))⟩
  rw [hw, hw2]
theorem hc_bestDial {P : si_P} (hxa : P.2.1 < P.1) {d : Nat} (hd : 39 ≤ d) {h : si_H} {ls : si_L} {Q : Option Value → si_H → Prop} {x : Int32} (h0 : si_ld 0 ls = some (.ref P.2.1)) (h1 : si_ld 1 ls = some (.ref (P.1 + 0))) (h2 : si_ld 2 ls = some (.ref (P.1 + 60))) (h3 : si_ld 3 ls = some (.int x)) (hin1 : si_in (x + 1) P.2.2.1 = true) (hin2 : si_in (x + 2) P.2.2.1 = true) (hH : az_HI P az_tb h) (hJ : JJ h) (cont : ∀ hb : si_H, az_HI P az_tb hb → JJ hb → az_same_out lw_md h hb → az_X P (d + 1) 346 1728 ls [] hb Q) : az_X P (d + 1) 346 468 ls [] h Q := by
  obtain ⟨K1, k0, k1⟩ := hc_bestDial_ hxa hd hJ hH (jsv P x 1) (jsv P x 2)
  exact lw_case_bestDial h0 h1 h2 h3 hin1 hin2 hH (K1 := K1) (K2 := fun w1 w2 hb => w2 = w1 ∧ az_HI P az_tb hb ∧ JJ hb ∧ az_same_out lw_md h hb) k0 k1 (fun w1 w2 hb q => ⟨q.1, cont hb q.2.1 q.2.2.1 q.2.2.2⟩)
def lw_C : az_C := ([(0, 3072), (0, 3072)], [], [], [(1000000, ([], 0), ([(0, 1)], 0))])
def lw_L : az_Ls := [(0, .inr (.inr (.inr 0))), (1, .inr (.inr (.inl 0))), (2, .inr (.inr (.inl 60))), (3, .inl ([(1, 1)], 0))]
def lw_cut : az_Cut := (18, lw_C, lw_L, [], ([(1, -2)], 6145))
def lw_Ch : az_C := ([(0, 3072), (0, 3072)], [([(0, 1), (1, -1)], -6)], [], [(1000000, ([], 0), ([(0, 1)], 0))])
def lw_hm : az_L := ([(1, -2)], 6144)
def lw_hc (pc : Nat) : az_Cut := (pc, lw_Ch, lw_L, [], lw_hm)
def lw_post : List (az_C × Option az_V) := [(([(0, 3072)], [], [], []), some (.inl ([], 1)))]
def lw_cuts : List az_Cut := [lw_cut, lw_hc 224, lw_hc 468]
theorem lw_ex : az_ex az_tb lw_cts [] lw_cuts lw_post lw_md [] az_spl 1 (some lw_cut.2.2.2.2) 400 true 40 lw_C 346 18 lw_L [] [] = true := by decide +kernel
theorem lw_ex254 : az_ex az_tb [] [] [lw_cut] lw_post lw_md [] az_spl 1 (some lw_hm) 50 true 40 lw_Ch 346 254 lw_L [] [] = true := by decide +kernel
theorem lw_ex1728 : az_ex az_tb [] [] [lw_cut] lw_post lw_md [] az_spl 1 (some lw_hm) 50 true 40 lw_Ch 346 1728 lw_L [] [] = true := by decide +kernel
theorem lw_wfcuts : lw_cuts.all (az_wfcut 1) = true := by decide +kernel
theorem lw_wfpst : lw_post.all (az_wfpst 1) = true := by decide +kernel
/-- behind a case: on to the loop's head -/
def lw_IH (P : si_P) (d : Nat) (h0 : si_H) (ρ0 : Nat → Int) (M : Nat) : Prop := ∀ (τ : Nat → Int) (h : si_H) (ls : si_L) (st : List Value), az_HI P az_tb h → JJ h → az_same_out lw_md h0 h → az_ext 1 ρ0 τ → az_g P τ h lw_C → az_gL P τ 2 lw_L ls → az_gS P τ 2 [] st → az_ev τ lw_cut.2.2.2.2 < M → az_X P d 346 18 ls st h (fun rv h1 => jV rv 1 ∧ az_HI P az_tb h1)
theorem lw_qf {P : si_P} (h0 : si_H) (ρ0 : Nat → Int) (rv : Option Value) (h1 : si_H) (a1 : az_HI P az_tb h1) (aJ : JJ h1) (a2 : az_same_out lw_md h0 h1) (a3 : ∃ q, q ∈ lw_post ∧ ∃ τ, az_ext 1 ρ0 τ ∧ az_g P τ h1 q.1 ∧ az_gO P τ q.1.1.length q.2 rv) : jV rv 1 ∧ az_HI P az_tb h1 := by
  obtain ⟨q, q1, σ, s1, s2, s3⟩ := a3
  rcases List.mem_singleton.mp q1 with rfl
  exact ⟨jO_int s3, a1⟩
theorem lw_behind {P : si_P} (hxa : P.2.1 < P.1) {d : Nat} (hd : 40 ≤ d) {h0 : si_H} {ρ0 : Nat → Int} {M e : Nat} (hex : az_ex az_tb [] [] [lw_cut] lw_post lw_md [] az_spl 1 (some lw_hm) 50 true 40 lw_Ch 346 e lw_L [] [] = true) (ih : lw_IH P d h0 ρ0 M) {τ' : Nat → Int} {hb : si_H} {ls' : si_L} (b1 : az_HI P az_tb hb) (jb : JJ hb) (b2 : az_same_out lw_md h0 hb) (a3 : az_ext 1 ρ0 τ') (g9 : az_g P τ' hb lw_Ch) (a5 : az_gL P τ' 2 lw_L ls') (hm : az_ev τ' lw_hm < M + 1) : az_X P d 346 e ls' [] hb (fun rv h1 => jV rv 1 ∧ az_HI P az_tb h1) := by
  refine az_ex_ok (J := JJ) (cts := []) (cuts := [lw_cut]) (posts := lw_post) (md := lw_md) (mw := []) (npre := 1) (src := some lw_hm) (d0 := d) (mi0 := 346) (ns := 2) (ρs := τ') (h0 := h0) (ρ0 := ρ0) az_tb_ok hxa JJ_nil (by decide) az_fn (fun c hc => by rcases List.mem_singleton.mp hc with rfl; decide) (fun q hq => List.all_eq_true.mp lw_wfpst q hq) (fun m hm => by cases hm; exact az_wfb_ok (by decide)) (fun c hc τ2 h2 ls2 st2 c1 cJ c2 c3 c4 c5 c6 c7 => ?_) (lw_qf h0 ρ0) 50 true 40 lw_Ch 346 e lw_L [] [] d τ' hb ls' [] [] hex rfl hd rfl b1 jb b2 (by decide) a3 (by decide) az_ext.rf g9 a5 trivial trivial
  rcases List.mem_singleton.mp hc with rfl
  exact ih τ2 h2 ls2 st2 c1 cJ c2 c3 c4 c5 c6 (by have := c7 _ rfl; omega)
/-- from the loop's head on: the law answers yes -/
theorem law_loop {P : si_P} (hxa : P.2.1 < P.1) {d : Nat} (hd : 40 ≤ d) {h0 : si_H} {ρ0 : Nat → Int} : ∀ M : Nat, lw_IH P d h0 ρ0 M := by
  intro M
  induction M with
  | zero =>
    intro τ h ls st hH hJ hs hx hg hL hS hm
    exfalso
    have h1 := hg.1 1 _ rfl
    have h2 : (-2 * τ 1 + 0) + 6145 < 0 := hm
    have h3 : τ 1 ≤ 3072 := h1.2
    omega
  | succ M ih =>
    intro τ h ls st hH hJ hs hx hg hL hS hm
    refine az_ex_ok (J := JJ) (cuts := lw_cuts) (posts := lw_post) (md := lw_md) (mw := []) (npre := 1) (src := some lw_cut.2.2.2.2) (d0 := d) (mi0 := 346) (ns := 2) (ρs := τ) (h0 := h0) (ρ0 := ρ0) az_tb_ok hxa JJ_nil (by decide) (lw_cts_ok hxa) (fun c hc => List.all_eq_true.mp lw_wfcuts c hc) (fun q hq => List.all_eq_true.mp lw_wfpst q hq) (fun m hm => by cases hm; exact az_wfb_ok (by decide)) (fun c hc τ' h' ls' st' a1 aJ a2 a3 a4 a5 a6 a7 => ?_) (lw_qf h0 ρ0) 400 true 40 lw_C 346 18 lw_L [] [] d τ h ls st [] lw_ex rfl hd rfl hH hJ hs (by decide) hx (by decide) az_ext.rf hg hL hS trivial
    rcases List.mem_cons.mp hc with rfl | hc
    · exact ih τ' h' ls' st' a1 aJ a2 a3 a4 a5 a6 (by have := a7 _ rfl; omega)
    have two : ∀ pc : Nat, c = lw_hc pc → az_g P τ' h' lw_Ch ∧ az_gL P τ' 2 lw_L ls' ∧ az_gS P τ' 2 [] st' ∧ az_ev τ' lw_hm < M + 1 := by
      rintro pc rfl
      exact ⟨a4, a5, a6, by have := a7 _ rfl; have : az_ev τ' lw_hm ≤ az_ev τ lw_cut.2.2.2.2 - 1 := this; omega⟩
    have pcs : ∃ pc ∈ [224, 468], c = lw_hc pc := by
      simp only [List.mem_cons, List.not_mem_nil, or_false] at hc
      rcases hc with hc | hc
      · exact ⟨224, by decide, hc⟩
      · exact ⟨468, by decide, hc⟩

    obtain ⟨pc, hpc, rfl⟩ := pcs
    obtain ⟨g9, g5, g6, g7⟩ := two pc rfl
    clear two
    cases jS_nil g6
    obtain ⟨-, w0, x0, y0⟩ := g5 0 _ rfl
    obtain ⟨-, w1, x1, y1⟩ := g5 1 _ rfl
    obtain ⟨-, w2, x2, y2⟩ := g5 2 _ rfl
    obtain ⟨-, w3, x3, y3⟩ := g5 3 _ rfl
    cases az_gV_cell y1
    cases az_gV_cell y2
    obtain ⟨x, rfl, hx3⟩ := az_gV_int y3
    have hx4 : x.toInt = 1 * τ' 1 + 0 + 0 := hx3
    have w0e : w0 = .ref P.2.1 := by
      cases w0 <;> first | exact y0.elim | skip
      rename_i aa
      have : aa = P.2.1 := y0
      rw [this]
    subst w0e
    have i1 : 0 ≤ τ' 1 ∧ τ' 1 ≤ 3072 := g9.1 1 _ rfl
    have i2 : 0 ≤ (1 * τ' 0 + (-1 * τ' 1 + 0)) + -6 := (jgF_un g9.2.1).1
    have i3 : (P.2.2.1 : Int) = 1 * τ' 0 + 0 + 0 := (g9.2.2.2 _ List.mem_cons_self).1.1 rfl
    have hi := lw_in (P := P) (x := x) (i := τ' 1) (by omega) (by omega) (by omega) (by omega)
    obtain ⟨d', rfl⟩ : ∃ d', d = d' + 1 := ⟨d - 1, by omega⟩
    have g9' : ∀ hb : si_H, az_g P τ' hb lw_Ch := fun hb => ⟨g9.1, g9.2.1, g9.2.2.1, fun q hq => by
      rcases List.mem_singleton.mp hq with rfl
      exact ⟨⟨fun _ => i3, fun hn => absurd rfl hn⟩, (g9.2.2.2 _ List.mem_cons_self).2⟩⟩
    simp only [List.mem_cons, List.not_mem_nil, or_false] at hpc
    rcases hpc with rfl | rfl
    · exact hc_dial hxa (by omega) x0 x1 x2 x3 (hi 1 (by decide)) (hi 2 (by decide)) a1 aJ (fun hb b1 jb b2 => lw_behind hxa hd lw_ex254 ih b1 jb (a2.tr b2) a3 (g9' hb) g5 g7)
    · exact hc_bestDial hxa (by omega) x0 x1 x2 x3 (hi 1 (by decide)) (hi 2 (by decide)) a1 aJ (fun hb b1 jb b2 => lw_behind hxa hd lw_ex1728 ih b1 jb (a2.tr b2) a3 (g9' hb) g5 g7)
