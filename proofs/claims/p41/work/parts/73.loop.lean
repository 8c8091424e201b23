/-! THE LAW'S LOOP, by all contracts -/
set_option maxRecDepth 100000
def lw_cts : List az_Ct := [ct_X10_dial_1, ct_X10_feed_3, ct_X10_law_92, ct_X10_clocks_103, ct_X10_book_108, ct_X10_reads_147, ct_X10_exchanged_148, ct_X10_mirrors_152, ct_X10_bestDial_168, ct_X10_untold_178, ct_X10_till_182, ct_X10_glance_189, ct_X10_covered_192, ct_X10_apart_193, ct_X10_photographs_210, ct_X10_anyOrder_220, ct_X10_quiet_230, ct_X10_strokesTill_238, ct_X10_strokes_239, ct_X10_heard_250, ct_X10_listen_254, ct_X10_towers_258, ct_X10_wheels_262, ct_X10_shows_265, ct_X10_clockIs_268, ct_X10_agree_271, ct_X10_agreeing_276, ct_X10_all_281, ct_X10_nearest_289, ct_X10_most_294, ct_X10_pairs_297, ct_X10_spread_301, ct_X10_goodTimes_307, ct_X10_setBy_309, ct_X10_appointment_318, ct_X10_meetings_323, ct_X10_days_348, ct_X10_tried_363, ct_X10_together_364, ct_X10_seed_365, ct_X10_keep_369, ct_X10_undo_372, ct_X10_check_375, ct_X10_count_378, ct_X11_dial_380, ct_X11_feed_381, ct_X11_law_382, ct_X11_clocks_387, ct_X11_book_389, ct_X11_reads_400, ct_X11_exchanged_401, ct_X11_mirrors_402, ct_X11_bestDial_406, ct_X11_untold_414, ct_X11_till_415, ct_X11_glance_417, ct_X11_covered_418, ct_X11_apart_419, ct_X11_photographs_433, ct_X11_anyOrder_439, ct_X11_quiet_443, ct_X11_strokesTill_444, ct_X11_strokes_446, ct_X11_heard_448, ct_X11_listen_450, ct_X11_towers_454, ct_X11_wheels_456, ct_X11_shows_460, ct_X11_clockIs_463, ct_X11_agree_465, ct_X11_agreeing_467, ct_X11_all_471, ct_X11_nearest_479, ct_X11_most_481, ct_X11_pairs_484, ct_X11_spread_488, ct_X11_goodTimes_493, ct_X11_setBy_495, ct_X11_appointment_502, ct_X11_meetings_505, ct_X11_days_519, ct_X11_tried_522, ct_X11_together_523, ct_X11_seed_524, ct_X11_keep_526, ct_X11_undo_527, ct_X11_check_528, ct_X11_count_530]
theorem lw_cts_ok {P : si_P} (hxa : P.2.1 < P.1) : ∀ c ∈ lw_cts, az_ok js_J P az_tb c ∧ az_wfct c = true := (az_fc (ok_X10_dial_1 hxa js_fr) (az_fc (ok_X10_feed_3 hxa js_fr) (az_fc (ok_X10_law_92 hxa js_fr) (az_fc (ok_X10_clocks_103 hxa js_fr) (az_fc (ok_X10_book_108 hxa js_fr) (az_fc (ok_X10_reads_147 hxa js_fr) (az_fc (ok_X10_exchanged_148 hxa js_fr) (az_fc (ok_X10_mirrors_152 hxa js_fr) (az_fc (ok_X10_bestDial_168 hxa js_fr) (az_fc (ok_X10_untold_178 hxa js_fr) (az_fc (ok_X10_till_182 hxa js_fr) (az_fc (ok_X10_glance_189 hxa js_fr) (az_fc (ok_X10_covered_192 hxa js_fr) (az_fc (ok_X10_apart_193 hxa js_fr) (az_fc (ok_X10_photographs_210 hxa js_fr) (az_fc (ok_X10_anyOrder_220 hxa js_fr) (az_fc (ok_X10_quiet_230 hxa js_fr) (az_fc (ok_X10_strokesTill_238 hxa js_fr) (az_fc (ok_X10_strokes_239 hxa js_fr) (az_fc (ok_X10_heard_250 hxa js_fr) (az_fc (ok_X10_listen_254 hxa js_fr) (az_fc (ok_X10_towers_258 hxa js_fr) (az_fc (ok_X10_wheels_262 hxa js_fr) (az_fc (ok_X10_shows_265 hxa js_fr) (az_fc (ok_X10_clockIs_268 hxa js_fr) (az_fc (ok_X10_agree_271 hxa js_fr) (az_fc (ok_X10_agreeing_276 hxa js_fr) (az_fc (ok_X10_all_281 hxa js_fr) (az_fc (ok_X10_nearest_289 hxa js_fr) (az_fc (ok_X10_most_294 hxa js_fr) (az_fc (ok_X10_pairs_297 hxa js_fr) (az_fc (ok_X10_spread_301 hxa js_fr) (az_fc (ok_X10_goodTimes_307 hxa js_fr) (az_fc (ok_X10_setBy_309 hxa js_fr) (az_fc (ok_X10_appointment_318 hxa js_fr) (az_fc (ok_X10_meetings_323 hxa js_fr) (az_fc (ok_X10_days_348 hxa js_fr) (az_fc (ok_X10_tried_363 hxa js_fr) (az_fc (ok_X10_together_364 hxa js_fr) (az_fc (ok_X10_seed_365 hxa js_fr) (az_fc (ok_X10_keep_369 hxa js_fr) (az_fc (ok_X10_undo_372 hxa js_fr) (az_fc (ok_X10_check_375 hxa js_fr) (az_fc (ok_X10_count_378 hxa js_fr) (az_fc (ok_X11_dial_380 hxa) (az_fc (ok_X11_feed_381 hxa js_fr) (az_fc (ok_X11_law_382 hxa) (az_fc (ok_X11_clocks_387 hxa js_fr) (az_fc (ok_X11_book_389 hxa js_fr) (az_fc (ok_X11_reads_400 hxa) (az_fc (ok_X11_exchanged_401 hxa js_fr) (az_fc (ok_X11_mirrors_402 hxa) (az_fc (ok_X11_bestDial_406 hxa js_fr) (az_fc (ok_X11_untold_414 hxa js_fr) (az_fc (ok_X11_till_415 hxa js_fr) (az_fc (ok_X11_glance_417 hxa js_fr) (az_fc (ok_X11_covered_418 hxa) (az_fc (ok_X11_apart_419 hxa js_fr) (az_fc (ok_X11_photographs_433 hxa js_fr) (az_fc (ok_X11_anyOrder_439 hxa) (az_fc (ok_X11_quiet_443 hxa) (az_fc (ok_X11_strokesTill_444 hxa) (az_fc (ok_X11_strokes_446 hxa js_fr) (az_fc (ok_X11_heard_448 hxa) (az_fc (ok_X11_listen_450 hxa) (az_fc (ok_X11_towers_454 hxa js_fr) (az_fc (ok_X11_wheels_456 hxa js_fr) (az_fc (ok_X11_shows_460 hxa js_fr) (az_fc (ok_X11_clockIs_463 hxa js_fr) (az_fc (ok_X11_agree_465 hxa js_fr) (az_fc (ok_X11_agreeing_467 hxa js_fr) (az_fc (ok_X11_all_471 hxa js_fr) (az_fc (ok_X11_nearest_479 hxa js_fr) (az_fc (ok_X11_most_481 hxa js_fr) (az_fc (ok_X11_pairs_484 hxa js_fr) (az_fc (ok_X11_spread_488 hxa js_fr) (az_fc (ok_X11_goodTimes_493 hxa js_fr) (az_fc (ok_X11_setBy_495 hxa js_fr) (az_fc (ok_X11_appointment_502 hxa js_fr) (az_fc (ok_X11_meetings_505 hxa js_fr) (az_fc (ok_X11_days_519 hxa) (az_fc (ok_X11_tried_522 hxa) (az_fc (ok_X11_together_523 hxa) (az_fc (ok_X11_seed_524 hxa js_fr) (az_fc (ok_X11_keep_526 hxa js_fr) (az_fc (ok_X11_undo_527 hxa js_fr) (az_fc (ok_X11_check_528 hxa js_fr) (az_fc (ok_X11_count_530 hxa js_fr) az_fn))))))))))))))))))))))))))))))))))))))))))))))))))))))))))))))))))))))))))))))))))))))))
def lw_md : List (Nat × Nat) := [(0, 15), (0, 16), (0, 17), (0, 18), (1, 0), (1, 1), (2, 0), (2, 1), (4, 1000000), (6, 6), (6, 7), (6, 8), (7, 1000000), (8, 1000000), (9, 1000000), (10, 1000000), (11, 1000000), (12, 1), (13, 1000000), (14, 1), (14, 2), (14, 3), (15, 0), (15, 1), (16, 5), (16, 6), (17, 1000000), (18, 1000000), (19, 1000000), (20, 1000000), (21, 5), (21, 6), (22, 1000000), (23, 1000000), (24, 1000000), (25, 1000000), (26, 5), (26, 6), (27, 1000000), (28, 1000000), (29, 1000000), (30, 1000000), (31, 1000000), (32, 1000000), (33, 1000000), (34, 1000000), (35, 6), (35, 7), (35, 8), (36, 1000000), (37, 1000000), (38, 1000000), (39, 1000000), (40, 1000000), (41, 1000000), (42, 6), (42, 7), (42, 8), (43, 1000000), (44, 1000000), (45, 1000000), (46, 1000000), (47, 1000000), (48, 1000000), (49, 5), (50, 1000000), (51, 1000000), (52, 1000000), (53, 1000000), (54, 5), (55, 1000000), (56, 1000000), (57, 1000000), (58, 1000000), (59, 1000000), (60, 7), (60, 8), (60, 9), (60, 10), (60, 11), (60, 16), (60, 17), (60, 18), (60, 19), (60, 20), (60, 21), (60, 22), (60, 23), (60, 24), (60, 25), (60, 45), (60, 46), (60, 47), (60, 58), (60, 61), (60, 62), (60, 63), (60, 64), (60, 65), (61, 1000000), (62, 1000000), (63, 1000000), (64, 1000000), (65, 1000000), (66, 1000000), (67, 1000000), (68, 1000000), (69, 1000000), (70, 1000000), (71, 1000000), (72, 1000000), (73, 1000000), (74, 1000000), (75, 1000000), (76, 1000000), (77, 1000000), (78, 1000000), (79, 1000000), (80, 1000000), (81, 1000000), (82, 1000000), (83, 1000000), (84, 1000000), (85, 1000000), (86, 1000000), (87, 1000000), (88, 1000000), (89, 1000000), (90, 1000000), (91, 1000000), (92, 1000000), (93, 1000000), (94, 1000000), (95, 1000000), (96, 1000000), (97, 1000000), (98, 1000000), (99, 1000000), (100, 1000000), (101, 1000000), (102, 1000000)]
def lw_C : az_C := ([(0, 3072), (0, 3072)], [], [], [(1000000, ([], 0), ([(0, 1)], 0))])
def lw_L : az_Ls := [(0, .inr (.inr (.inr 0))), (1, .inr (.inr (.inl 0))), (2, .inr (.inr (.inl 60))), (3, .inl ([(1, 1)], 0))]
def lw_cut : az_Cut := (18, lw_C, lw_L, [], ([(1, -2)], 6145))
def lw_C39 : az_C := ([(0, 3072), (0, 3072)], [([(0, 1), (1, -1)], -6)], [], [(1000000, ([], 0), ([(0, 1)], 0))])
def lw_cut39 : az_Cut := (1633, lw_C39, lw_L, [], ([(1, -2)], 6144))
def lw_post : List (az_C × Option az_V) := [(([(0, 3072)], [], [], []), some (.inl ([], 1)))]
def jm_s0 : List (Nat × Nat) := [(16, 6)]
def jm_s1 : List (Nat × Nat) := [(61, 1000000)]
theorem sg_sd0 : az_sgm az_tb [] [] [] jm_s0 jm_s0 [] 400 true 2 ([((-2147483648), 2147483647)], [], [], []) 183 0 [(0, .inr (.inr (.inl 0))), (1, .inl ([(0, 1)], 0))] [] [] [] = some [(([((-2147483648), (-1))], [], [], []), [], .inr (some (.inl ([], 0)))),
  (([(0, 65535)], [], [], [(16, ([], 6), ([(0, 1)], 0))]), [(16, some ([], 6))], .inr (some (.inl ([], 1)))),
  (([(65536, 2147483647)], [], [], []), [], .inr (some (.inl ([], 0))))] := jdo (by decide +kernel)
theorem sx_sd0 {P : si_P} (hxa : P.2.1 < P.1) {Q : Option Value → si_H → Prop} {d : Nat} (hd : 2 ≤ d) {h : si_H} {ls : si_L} {v : Int} (hH : az_HI P az_tb h) (v0 : (-2147483648) ≤ v ∧ v ≤ 2147483647) (l0 : jR P ls 0 0) (l1 : jI ls 1 (v))
  (a0 : ∀ (τ : Nat → Int) (h' : si_H) (rv : Option Value), τ 0 = v → az_HI P az_tb h' → az_same_out jm_s0 h h' → (∀ (i : Nat) (k : Int), 0 ≤ k → ja h' i k = ja h i k) → (((-2147483648) ≤ τ 0 ∧ τ 0 ≤ (-1)) ∧ True) → (True) → (True) → jV rv (0 : Int) → Q rv h')
  (a1 : ∀ (τ : Nat → Int) (h' : si_H) (rv : Option Value), τ 0 = v → az_HI P az_tb h' → az_same_out jm_s0 h h' → (∀ (i : Nat) (k : Int), 0 ≤ k → (16 = i → 0 ≤ (6 : Int) ∧ k ≠ (6 : Int)) → ja h' i k = ja h i k) → ((0 ≤ τ 0 ∧ τ 0 ≤ 65535) ∧ True) → (True) → (True) → (∀ k : Int, k = (6 : Int) → ja h' 16 k = ((1 * τ 0 + 0) + 0)) → jV rv (1 : Int) → Q rv h')
  (a2 : ∀ (τ : Nat → Int) (h' : si_H) (rv : Option Value), τ 0 = v → az_HI P az_tb h' → az_same_out jm_s0 h h' → (∀ (i : Nat) (k : Int), 0 ≤ k → ja h' i k = ja h i k) → ((65536 ≤ τ 0 ∧ τ 0 ≤ 2147483647) ∧ True) → (True) → (True) → jV rv (0 : Int) → Q rv h') : az_X P d 183 0 ls [] h Q := by
  have ρe : ∀ i, jρ [v] i = [v].getD i 0 := fun _ => rfl
  refine jseg (ρ := jρ [v]) hxa (by decide) az_fn sg_sd0 hd hH (jg_mk hH (by decide) (by decide) ⟨v0, trivial⟩ ?gF ?gN ?gT) (jL_ref l0 (jL_int (l1.cg (by simp only [az_ev, az_evL, jρ, List.getD_cons_zero, List.getD_cons_succ]; omega)) (by decide) jL_nil)) trivial ⟨fun τ h' hx hH' hso hfr hI hF hN hT w hw => a0 τ h' w (hx 0 (by decide)) hH' hso (fun i k h0 => hfr i k h0 trivial) hI hF trivial (jO_int hw), fun τ h' hx hH' hso hfr hI hF hN hT w hw => a1 τ h' w (hx 0 (by decide)) hH' hso (fun i k h0 w0 => hfr i k h0 ⟨w0, trivial⟩) hI hF trivial (fun k hk => (congrArg (ja h' 16) hk).trans (hT.1 (by decide))) (jO_int hw), fun τ h' hx hH' hso hfr hI hF hN hT w hw => a2 τ h' w (hx 0 (by decide)) hH' hso (fun i k h0 => hfr i k h0 trivial) hI hF trivial (jO_int hw), trivial⟩
  case gF => trivial
  case gN => trivial
  case gT => trivial
theorem sg_sd1 : az_sgm az_tb [] [202] [] jm_s1 jm_s1 [] 400 true 2 ([((-2147483648), 2147483647)], [], [], []) 335 0 [(0, .inr (.inr (.inl 60))), (1, .inl ([(0, 1)], 0))] [] [] [] = some [(([((-2147483648), (-1))], [], [], []), [], .inr (some (.inl ([], 0)))),
  (([(65536, 2147483647)], [], [], []), [], .inr (some (.inl ([], 0)))),
  (([(0, 65535)], [], [], [(61, ([], 25), ([(0, 1)], 0))]), [(61, some ([], 25))], .inr (some (.inl ([], 1))))] := jdo (by decide +kernel)
theorem sx_sd1 {P : si_P} (hxa : P.2.1 < P.1) {Q : Option Value → si_H → Prop} {d : Nat} (hd : 2 ≤ d) {h : si_H} {ls : si_L} {v : Int} (hH : az_HI P az_tb h) (v0 : (-2147483648) ≤ v ∧ v ≤ 2147483647) (l0 : jR P ls 0 60) (l1 : jI ls 1 (v))
  (a0 : ∀ (τ : Nat → Int) (h' : si_H) (rv : Option Value), τ 0 = v → az_HI P az_tb h' → az_same_out jm_s1 h h' → (∀ (i : Nat) (k : Int), 0 ≤ k → ja h' i k = ja h i k) → (((-2147483648) ≤ τ 0 ∧ τ 0 ≤ (-1)) ∧ True) → (True) → (True) → jV rv (0 : Int) → Q rv h')
  (a1 : ∀ (τ : Nat → Int) (h' : si_H) (rv : Option Value), τ 0 = v → az_HI P az_tb h' → az_same_out jm_s1 h h' → (∀ (i : Nat) (k : Int), 0 ≤ k → ja h' i k = ja h i k) → ((65536 ≤ τ 0 ∧ τ 0 ≤ 2147483647) ∧ True) → (True) → (True) → jV rv (0 : Int) → Q rv h')
  (a2 : ∀ (τ : Nat → Int) (h' : si_H) (rv : Option Value), τ 0 = v → az_HI P az_tb h' → az_same_out jm_s1 h h' → (∀ (i : Nat) (k : Int), 0 ≤ k → (61 = i → 0 ≤ (25 : Int) ∧ k ≠ (25 : Int)) → ja h' i k = ja h i k) → ((0 ≤ τ 0 ∧ τ 0 ≤ 65535) ∧ True) → (True) → (True) → (∀ k : Int, k = (25 : Int) → ja h' 61 k = ((1 * τ 0 + 0) + 0)) → jV rv (1 : Int) → Q rv h') : az_X P d 335 0 ls [] h Q := by
  have ρe : ∀ i, jρ [v] i = [v].getD i 0 := fun _ => rfl
  refine jseg (ρ := jρ [v]) hxa (by decide) az_fn sg_sd1 hd hH (jg_mk hH (by decide) (by decide) ⟨v0, trivial⟩ ?gF ?gN ?gT) (jL_ref l0 (jL_int (l1.cg (by simp only [az_ev, az_evL, jρ, List.getD_cons_zero, List.getD_cons_succ]; omega)) (by decide) jL_nil)) trivial ⟨fun τ h' hx hH' hso hfr hI hF hN hT w hw => a0 τ h' w (hx 0 (by decide)) hH' hso (fun i k h0 => hfr i k h0 trivial) hI hF trivial (jO_int hw), fun τ h' hx hH' hso hfr hI hF hN hT w hw => a1 τ h' w (hx 0 (by decide)) hH' hso (fun i k h0 => hfr i k h0 trivial) hI hF trivial (jO_int hw), fun τ h' hx hH' hso hfr hI hF hN hT w hw => a2 τ h' w (hx 0 (by decide)) hH' hso (fun i k h0 w0 => hfr i k h0 ⟨w0, trivial⟩) hI hF trivial (fun k hk => (congrArg (ja h' 61) hk).trans (hT.1 (by decide))) (jO_int hw), trivial⟩
  case gF => trivial
  case gN => trivial
  case gT => trivial
theorem lw_ex : az_ex az_tb lw_cts [] [lw_cut, lw_cut39] lw_post lw_md [] az_spl 1 (some lw_cut.2.2.2.2) 400 true 40 lw_C 346 18 lw_L [] [] = true := by decide +kernel
theorem lw_ex39 : az_ex az_tb [] [] [lw_cut] lw_post lw_md [] az_spl 1 (some lw_cut39.2.2.2.2) 50 true 40 lw_C39 346 1728 lw_L [] [] = true := by decide +kernel
theorem lw_wfcut : az_wfcut 1 lw_cut = true := by decide +kernel
theorem lw_wfcut39 : az_wfcut 1 lw_cut39 = true := by decide +kernel
theorem lw_wfpst : lw_post.all (az_wfpst 1) = true := by decide +kernel
/-- a call at a stop, with what stays -/
theorem jcall2 {P : si_P} {Q : Option Value → si_H → Prop} {τ : Nat → Int} {h : si_H} {C : az_C} {mi pc d m' : Nat} {aS args rest : List az_V} {ls : si_L} {st : List Value} (hc : jcl mi pc aS = some (m', args, rest)) (hH : az_HI P az_tb h) (hS : az_gS P τ C.1.length aS st) (hx : ∀ as rs : List Value, az_gL P τ C.1.length (az_args 0 args) (lv_args 0 as) → az_gS P τ C.1.length rest rs → az_X P d m' 0 (lv_args 0 as) [] h (fun rv h1 => az_X P (d + 1) mi (pc + 3) ls (rv.toList ++ rs) h1 Q)) : az_X P (d + 1) mi pc ls st h Q := by
  unfold jcl at hc
  split at hc
  · rename_i y e hy he
    obtain ⟨c1, c2, c3, as, rs, c4, c5, c6⟩ := az_call_ok (pc := pc) (y := y) (ls := ls) (P := P) (h := h) (C := C) az_tb_ok hH hS hc
    exact az_X_call hy he c1 c2 c3 c4 (hx as rs (az_args_ok 0 c5) c6)
  · cases hc
def jsd (v : Int) : Int := if 0 ≤ v ∧ v ≤ 65535 then 1 else 0
theorem seed0_ok {P : si_P} (hxa : P.2.1 < P.1) {d : Nat} (hd : 2 ≤ d) {h : si_H} {ls : si_L} {v : Int} (hv : -2147483648 ≤ v ∧ v ≤ 2147483647) (hH : az_HI P az_tb h) (l0 : jR P ls 0 0) (l1 : jI ls 1 v) : az_X P d 183 0 ls [] h (fun rv h' => az_HI P az_tb h' ∧ az_same_out jm_s0 h h' ∧ jV rv (jsd v)) := by
  apply sx_sd0 hxa (by omega) hH (v := v) hv l0 l1
  all_goals first
    | (intro τ h2 rv2 e0 hH2 hs2 fr2 iv2 fs2 nn2 hv2
       exact ⟨hH2, hs2, hv2.cg (by unfold jsd; rw [if_neg (by omega)])⟩)
    | (intro τ h2 rv2 e0 hH2 hs2 fr2 iv2 fs2 nn2 t0 hv2
       exact ⟨hH2, hs2, hv2.cg (by unfold jsd; rw [if_pos (by omega)])⟩)
theorem seed1_ok {P : si_P} (hxa : P.2.1 < P.1) {d : Nat} (hd : 2 ≤ d) {h : si_H} {ls : si_L} {v : Int} (hv : -2147483648 ≤ v ∧ v ≤ 2147483647) (hH : az_HI P az_tb h) (l0 : jR P ls 0 60) (l1 : jI ls 1 v) : az_X P d 335 0 ls [] h (fun rv h' => az_HI P az_tb h' ∧ az_same_out jm_s1 h h' ∧ jV rv (jsd v)) := by
  apply sx_sd1 hxa (by omega) hH (v := v) hv l0 l1
  all_goals first
    | (intro τ h2 rv2 e0 hH2 hs2 fr2 iv2 fs2 nn2 hv2
       exact ⟨hH2, hs2, hv2.cg (by unfold jsd; rw [if_neg (by omega)])⟩)
    | (intro τ h2 rv2 e0 hH2 hs2 fr2 iv2 fs2 nn2 t0 hv2
       exact ⟨hH2, hs2, hv2.cg (by unfold jsd; rw [if_pos (by omega)])⟩)
theorem law_1633 {P : si_P} (hxa : P.2.1 < P.1) {d : Nat} (hd : 2 ≤ d) {h : si_H} {ls : si_L} {Q : Option Value → si_H → Prop} {x : Int32} (h0 : si_ld 0 ls = some (.ref P.2.1)) (h1 : si_ld 1 ls = some (.ref (P.1 + 0))) (h2 : si_ld 2 ls = some (.ref (P.1 + 60))) (h3 : si_ld 3 ls = some (.int x)) (hin : si_in (x + 1) P.2.2.1 = true) (hH : az_HI P az_tb h) (cont : ∀ h' : si_H, az_HI P az_tb h' → az_same_out lw_md h h' → az_same_out (jm_s0 ++ jm_s1) h h' → az_X P (d + 1) 346 1728 ls [] h' Q) : az_X P (d + 1) 346 1633 ls [] h Q := by
  have f0 : si_ld ((0 : Fin 4) : Nat) ls = some (.ref P.2.1) := h0
  have f1 : si_ld ((1 : Fin 4) : Nat) ls = some (.ref (P.1 + 0)) := h1
  have f2 : si_ld ((2 : Fin 4) : Nat) ls = some (.ref (P.1 + 60)) := h2
  have f3 : si_ld ((3 : Fin 4) : Nat) ls = some (.int x) := h3
  generalize hv : P.2.2.2.1 (x + 1).toNatClampNeg = v
  have hvb : -2147483648 ≤ v.toInt ∧ v.toInt ≤ 2147483647 := ⟨Int32.le_toInt v, Int32.toInt_le v⟩
  refine az_X_step (pc' := 1634) (ls' := ls) (st' := [.ref (P.1 + 0)]) (h' := h) rfl rfl (by unfold si_step; simp only [si_lod, f1]; rfl) ?_
  refine az_X_step (pc' := 1635) (ls' := ls) (st' := [.ref P.2.1, .ref (P.1 + 0)]) (h' := h) rfl rfl (by unfold si_step; simp only [si_lod, f0]; rfl) ?_
  refine az_X_step (pc' := 1636) (ls' := ls) (st' := [.int x, .ref P.2.1, .ref (P.1 + 0)]) (h' := h) rfl rfl (by unfold si_step; simp only [si_lod, f3]; rfl) ?_
  refine az_X_step (pc' := 1637) (ls' := ls) (st' := [.int 1, .int x, .ref P.2.1, .ref (P.1 + 0)]) (h' := h) rfl rfl rfl ?_
  refine az_X_step (pc' := 1638) (ls' := ls) (st' := [.int (x + 1), .ref P.2.1, .ref (P.1 + 0)]) (h' := h) rfl rfl rfl ?_
  refine az_X_step (pc' := 1639) (ls' := ls) (st' := [.int v, .ref (P.1 + 0)]) (h' := h) rfl rfl (by unfold si_step; simp only [if_true, hin, hv]) ?_
  refine jcall2 (C := ([(0, 0)], [], [], [])) (τ := fun _ => v.toInt) (aS := [.inl ([(0, 1)], 0), .inr (.inr (.inl 0))]) (m' := 183) (args := [.inr (.inr (.inl 0)), .inl ([(0, 1)], 0)]) (rest := []) (jdp (by decide +kernel)) hH ⟨az_wfb_ok (by decide), (show v.toInt = 1 * v.toInt + 0 + 0 by omega), trivial, rfl, trivial⟩ (fun as rs hL hR => ?_)
  refine (seed0_ok hxa hd hvb hH (jR.of (k := 0) (c := 0) hL rfl) ((jI.of (k := 1) (a := ([(0, 1)], 0)) hL rfl).cg (show 1 * v.toInt + 0 + 0 = v.toInt by omega))).mono ?_
  rintro rv1 ha ⟨a1, a2, w1, rfl, a3⟩
  cases jS_nil hR
  show az_X P (d + 1) 346 1642 ls [.int w1] ha Q
  refine az_X_step (pc' := 1643) (ls' := ls) (st' := [.ref (P.1 + 60), .int w1]) (h' := ha) rfl rfl (by unfold si_step; simp only [si_lod, f2]; rfl) ?_
  refine az_X_step (pc' := 1644) (ls' := ls) (st' := [.ref P.2.1, .ref (P.1 + 60), .int w1]) (h' := ha) rfl rfl (by unfold si_step; simp only [si_lod, f0]; rfl) ?_
  refine az_X_step (pc' := 1645) (ls' := ls) (st' := [.int x, .ref P.2.1, .ref (P.1 + 60), .int w1]) (h' := ha) rfl rfl (by unfold si_step; simp only [si_lod, f3]; rfl) ?_
  refine az_X_step (pc' := 1646) (ls' := ls) (st' := [.int 1, .int x, .ref P.2.1, .ref (P.1 + 60), .int w1]) (h' := ha) rfl rfl rfl ?_
  refine az_X_step (pc' := 1647) (ls' := ls) (st' := [.int (x + 1), .ref P.2.1, .ref (P.1 + 60), .int w1]) (h' := ha) rfl rfl rfl ?_
  refine az_X_step (pc' := 1648) (ls' := ls) (st' := [.int v, .ref (P.1 + 60), .int w1]) (h' := ha) rfl rfl (by unfold si_step; simp only [if_true, hin, hv]) ?_
  refine jcall2 (C := ([(0, 0), (0, 0)], [], [], [])) (τ := fun k => if k = 0 then v.toInt else w1.toInt) (aS := [.inl ([(0, 1)], 0), .inr (.inr (.inl 60)), .inl ([(1, 1)], 0)]) (m' := 335) (args := [.inr (.inr (.inl 60)), .inl ([(0, 1)], 0)]) (rest := [.inl ([(1, 1)], 0)]) (jdp (by decide +kernel)) a1 ⟨az_wfb_ok (by decide), (show v.toInt = 1 * v.toInt + 0 + 0 by omega), trivial, rfl, az_wfb_ok (by decide), (show w1.toInt = 1 * w1.toInt + 0 + 0 by omega), trivial⟩ (fun as rs hL hR => ?_)
  obtain ⟨w, rs', rfl, -, hw, hR'⟩ := az_gS_cons hR
  cases jS_nil hR'
  obtain ⟨w1', rfl, hw1⟩ := az_gV_int hw
  have hw2 : w1'.toInt = 1 * w1.toInt + 0 + 0 := hw1
  refine (seed1_ok hxa hd hvb a1 (jR.of (k := 0) (c := 60) hL rfl) ((jI.of (k := 1) (a := ([(0, 1)], 0)) hL rfl).cg (show 1 * v.toInt + 0 + 0 = v.toInt by omega))).mono ?_
  rintro rv2 hb ⟨b1, b2, w2, rfl, b3⟩
  show az_X P (d + 1) 346 1651 ls [.int w2, .int w1'] hb Q
  have he : w2 = w1' := Int32.toInt_inj.mp (by omega)
  refine az_X_step (pc' := 1728) (ls' := ls) (st' := []) (h' := hb) rfl rfl (by
    subst he
    unfold si_step
    simp [si_c2, si_tgt]) ?_
  have hab : az_same_out (jm_s0 ++ jm_s1) h hb := (a2.sub (by decide)).tr (b2.sub (by decide))
  exact cont hb b1 (hab.sub (by decide)) hab
/-- from the loop's head on: the law answers yes -/
theorem law_loop {P : si_P} (hxa : P.2.1 < P.1) {d : Nat} (hd : 40 ≤ d) {h0 : si_H} {ρ0 : Nat → Int} : ∀ (M : Nat) (τ : Nat → Int) (h : si_H) (ls : si_L) (st : List Value), az_HI P az_tb h → js_J h → az_same_out lw_md h0 h → az_ext 1 ρ0 τ → az_g P τ h lw_C → az_gL P τ 2 lw_L ls → az_gS P τ 2 [] st → az_ev τ lw_cut.2.2.2.2 < M → az_X P d 346 18 ls st h (fun rv h1 => jV rv 1 ∧ az_HI P az_tb h1) := by
  intro M
  have hQ : ∀ (h0 : si_H) (ρ0 : Nat → Int) (rv : Option Value) (h1 : si_H), az_HI P az_tb h1 → js_J h1 → az_same_out lw_md h0 h1 → (∃ q, q ∈ lw_post ∧ ∃ τ, az_ext 1 ρ0 τ ∧ az_g P τ h1 q.1 ∧ az_gO P τ q.1.1.length q.2 rv) → jV rv 1 ∧ az_HI P az_tb h1 := by
    intro h0 ρ0 rv h1 a1 aJ a2 a3
    obtain ⟨q, q1, σ, s1, s2, s3⟩ := a3
    rcases List.mem_singleton.mp q1 with rfl
    exact ⟨jO_int s3, a1⟩
  induction M with
  | zero =>
    intro τ h ls st hH hJ hs hx hg hL hS hm
    exfalso
    have h1 := hg.1 1 _ rfl
    have h2 : (-2 * τ 1 + 0) + 6145 < 0 := hm
    have h3 : τ 1 ≤ 3072 := h1.2
    omega
  | succ M ih =>
    intro τ h ls st hH hJ hs hx hg hL hS hm
    refine az_ex_ok (J := js_J) (cuts := [lw_cut, lw_cut39]) (posts := lw_post) (md := lw_md) (mw := []) (npre := 1) (src := some lw_cut.2.2.2.2) (d0 := d) (mi0 := 346) (ns := 2) (ρs := τ) (h0 := h0) (ρ0 := ρ0) az_tb_ok hxa (az_dj_ok js_fr (by decide)) (by decide) (lw_cts_ok hxa) (fun c hc => by rcases List.mem_cons.mp hc with rfl | hc; exact lw_wfcut; rcases List.mem_singleton.mp hc with rfl; exact lw_wfcut39) (fun q hq => List.all_eq_true.mp lw_wfpst q hq) (fun m hm => by cases hm; exact az_wfb_ok (by decide)) (fun c hc τ' h' ls' st' a1 aJ a2 a3 a4 a5 a6 a7 => ?_) (hQ h0 ρ0) 400 true 40 lw_C 346 18 lw_L [] [] d τ h ls st [] lw_ex rfl hd rfl hH hJ hs (by decide) hx (by decide) az_ext.rf hg hL hS trivial
    rcases List.mem_cons.mp hc with rfl | hc
    · exact ih τ' h' ls' st' a1 aJ a2 a3 a4 a5 a6 (by have := a7 _ rfl; omega)
    · rcases List.mem_singleton.mp hc with rfl
      have a8 := a7 _ rfl
      cases jS_nil a6
      obtain ⟨-, w0, x0, y0⟩ := a5 0 _ rfl
      obtain ⟨-, w1, x1, y1⟩ := a5 1 _ rfl
      obtain ⟨-, w2, x2, y2⟩ := a5 2 _ rfl
      obtain ⟨-, w3, x3, y3⟩ := a5 3 _ rfl
      cases az_gV_cell y1
      cases az_gV_cell y2
      obtain ⟨x, rfl, hx3⟩ := az_gV_int y3
      have hx4 : x.toInt = 1 * τ' 1 + 0 + 0 := hx3
      have w0e : w0 = .ref P.2.1 := by
        cases w0 <;> first | exact y0.elim | skip
        rename_i aa
        have : aa = P.2.1 := y0
        rw [this]
      subst w0e
      have i1 : 0 ≤ τ' 1 ∧ τ' 1 ≤ 3072 := a4.1 1 _ rfl
      have i2 : 0 ≤ (1 * τ' 0 + (-1 * τ' 1 + 0)) + -6 := (jgF_un a4.2.1).1
      have i3 : (P.2.2.1 : Int) = 1 * τ' 0 + 0 + 0 := (a4.2.2.2 _ List.mem_cons_self).1.1 rfl
      obtain ⟨d', rfl⟩ : ∃ d', d = d' + 1 := ⟨d - 1, by omega⟩
      refine law_1633 hxa (by omega) x0 x1 x2 x3 ?_ a1 (fun hb b1 b2 b3 => ?_)
      · have e1 : (x + 1).toInt = x.toInt + 1 := by
          rw [Int32.toInt_add]
          exact Int.bmod_eq_of_le (by have : (1 : Int32).toInt = 1 := by decide
                                      omega) (by have : (1 : Int32).toInt = 1 := by decide
                                                 omega)
        unfold si_in
        rw [Bool.and_eq_true, decide_eq_true_eq, decide_eq_true_eq]
        refine ⟨Int32.le_iff_toInt_le.mpr (by have : (0 : Int32).toInt = 0 := by decide
                                              omega), ?_⟩
        have : (x + 1).toNatClampNeg = (x + 1).toInt.toNat := rfl
        omega
      · have jb : js_J hb := js_fr h' hb aJ (fun i k hik => b3.2.2 i k (by
          rw [Bool.eq_false_iff]
          intro hc
          exact absurd hik (by
            have : az_in (jm_s0 ++ jm_s1) i k = true → az_in az_jf i k = false := by
              intro hcc
              unfold az_in at hcc ⊢
              simp [jm_s0, jm_s1, az_jf] at hcc ⊢
              omega
            rw [this hc]
            decide)))
        have g9 : az_g P τ' hb lw_C39 := ⟨a4.1, a4.2.1, a4.2.2.1, fun q hq => by
          rcases List.mem_singleton.mp hq with rfl
          exact ⟨⟨fun _ => i3, fun hn => absurd rfl hn⟩, (a4.2.2.2 _ List.mem_cons_self).2⟩⟩
        refine az_ex_ok (J := js_J) (cts := []) (cuts := [lw_cut]) (posts := lw_post) (md := lw_md) (mw := []) (npre := 1) (src := some lw_cut39.2.2.2.2) (d0 := d' + 1) (mi0 := 346) (ns := 2) (ρs := τ') (h0 := h0) (ρ0 := ρ0) az_tb_ok hxa (az_dj_ok js_fr (by decide)) (by decide) az_fn (fun c hc => by rcases List.mem_singleton.mp hc with rfl; exact lw_wfcut) (fun q hq => List.all_eq_true.mp lw_wfpst q hq) (fun m hm => by cases hm; exact az_wfb_ok (by decide)) (fun c hc τ2 h2 ls2 st2 c1 cJ c2 c3 c4 c5 c6 c7 => ?_) (hQ h0 ρ0) 50 true 40 lw_C39 346 1728 lw_L [] [] (d' + 1) τ' hb ls' [] [] lw_ex39 rfl hd rfl b1 jb (a2.tr b2) (by decide) a3 (by decide) az_ext.rf g9 a5 trivial trivial
        rcases List.mem_singleton.mp hc with rfl
        exact ih τ2 h2 ls2 st2 c1 cJ c2 c3 c4 c5 c6 (by have := c7 _ rfl; omega)
