/-! THE CONTRACTS: 480 and on -/
set_option maxRecDepth 100000
def ct_X11_min_494 : az_Ct := (203, ([((-65534), 65536)], [], [], []), [.inl ([], 9999), .inl ([(0, 1)], 0)], [(([((-65534), 65536), ((-65534), 9999)], [], [], []), some (.inl ([(1, 1)], 0)))], [], 0)
def cu_X11_min_494 : List az_Cut := []
theorem ck_X11_min_494 : az_chk az_tb [] ct_X11_min_494 cu_X11_min_494 az_inl az_spl [] 7 = true := by decide +kernel
theorem ok_X11_min_494 {J : si_H → Prop} {P : si_P} (hxa : P.2.1 < P.1) (hJ : az_fr_of J az_jf) : az_ok J P az_tb ct_X11_min_494 ∧ az_wfct ct_X11_min_494 = true := az_chk_ok az_tb_ok hxa (az_dj_ok hJ (by decide)) az_fn ck_X11_min_494
def ct_X11_setBy_495 : az_Ct := (325, ([((-2147483648), 2147483647), ((-2147483648), 2147483647)], [], [], []), [.inr (.inr (.inl 60)), .inl ([(0, 1)], 0), .inl ([(1, 1)], 0)], [(([((-2147483648), 2147483647), ((-2147483648), 2147483647), (0, 1)], [], [], []), some (.inl ([(2, 1)], 0)))], [(61, 1000000)], 3)
def cu_X11_setBy_495 : List az_Cut := []
theorem ck_X11_setBy_495 : az_chk az_tb [ct_X11_min_494] ct_X11_setBy_495 cu_X11_setBy_495 az_inl az_spl [(61, 1000000)] 118 = true := by decide +kernel
theorem ok_X11_setBy_495 {J : si_H → Prop} {P : si_P} (hxa : P.2.1 < P.1) (hJ : az_fr_of J az_jf) : az_ok J P az_tb ct_X11_setBy_495 ∧ az_wfct ct_X11_setBy_495 = true := az_chk_ok az_tb_ok hxa (az_dj_ok hJ (by decide)) (az_fc (ok_X11_min_494 hxa hJ) az_fn) ck_X11_setBy_495
def ct_X11_thereAt_496 : az_Ct := (315, ([(0, 7), (0, 1439)], [], [], []), [.inr (.inr (.inl 60)), .inl ([(0, 1)], 0), .inl ([(1, 1)], 0)], [(([(0, 7), (0, 1439), ((-2), 1439)], [], [], []), some (.inl ([(2, 1)], 0)))], [], 3)
def cu_X11_thereAt_496 : List az_Cut := [(13, ([(0, 7), (0, 1439), (0, 7), (0, 1439), (0, 255), (0, 1440)], [([(1, (-1)), (3, 1)], 0), ([(0, (-1)), (2, 1)], 0), ([(3, (-1)), (1, 1)], 0), ([(2, (-1)), (0, 1)], 0)], [], [(60, ([], 10), ([(4, 1)], 0))]), [(0, .inr (.inr (.inl 60))), (1, .inl ([(2, 1)], 0)), (2, .inl ([(3, 1)], 0)), (3, .inl ([(5, 1)], 0))], [], ([(5, (-1))], 1440))]
theorem ck_X11_thereAt_496 : az_chk az_tb [ct_X11_showsAt_459] ct_X11_thereAt_496 cu_X11_thereAt_496 az_inl az_spl [] 40 = true := by decide +kernel
theorem ok_X11_thereAt_496 {J : si_H → Prop} {P : si_P} (hxa : P.2.1 < P.1) (hJ : az_fr_of J az_jf) : az_ok J P az_tb ct_X11_thereAt_496 ∧ az_wfct ct_X11_thereAt_496 = true := az_chk_ok az_tb_ok hxa (az_dj_ok hJ (by decide)) (az_fc (ok_X11_showsAt_459 hxa hJ) az_fn) ck_X11_thereAt_496
def ct_X11_size_497 : az_Ct := (205, ([((-1439), 1439)], [], [], []), [.inl ([(0, 1)], 0)], [(([((-1439), 1439), (0, 1439)], [], [], []), some (.inl ([(1, 1)], 0)))], [], 0)
def cu_X11_size_497 : List az_Cut := []
theorem ck_X11_size_497 : az_chk az_tb [] ct_X11_size_497 cu_X11_size_497 az_inl az_spl [] 7 = true := by decide +kernel
theorem ok_X11_size_497 {J : si_H → Prop} {P : si_P} (hxa : P.2.1 < P.1) (hJ : az_fr_of J az_jf) : az_ok J P az_tb ct_X11_size_497 ∧ az_wfct ct_X11_size_497 = true := az_chk_ok az_tb_ok hxa (az_dj_ok hJ (by decide)) az_fn ck_X11_size_497
def ct_X11_min_498 : az_Ct := (203, ([(0, 99), (0, 1439)], [], [], []), [.inl ([(0, 1)], 0), .inl ([(1, 1)], 0)], [(([(0, 99), (0, 1439), (0, 99)], [], [], []), some (.inl ([(2, 1)], 0)))], [], 0)
def cu_X11_min_498 : List az_Cut := []
theorem ck_X11_min_498 : az_chk az_tb [] ct_X11_min_498 cu_X11_min_498 az_inl az_spl [] 7 = true := by decide +kernel
theorem ok_X11_min_498 {J : si_H → Prop} {P : si_P} (hxa : P.2.1 < P.1) (hJ : az_fr_of J az_jf) : az_ok J P az_tb ct_X11_min_498 ∧ az_wfct ct_X11_min_498 = true := az_chk_ok az_tb_ok hxa (az_dj_ok hJ (by decide)) az_fn ck_X11_min_498
def ct_X11_waitedAt_499 : az_Ct := (318, ([(0, 15)], [], [], []), [.inr (.inr (.inl 60)), .inl ([(0, 1)], 0)], [(([(0, 15), (0, 99)], [], [], []), some (.inl ([(1, 1)], 0)))], [], 4)
def cu_X11_waitedAt_499 : List az_Cut := []
theorem ck_X11_waitedAt_499 : az_chk az_tb [ct_X11_min_498, ct_X11_size_497, ct_X11_thereAt_496] ct_X11_waitedAt_499 cu_X11_waitedAt_499 az_inl az_spl [] 39 = true := by decide +kernel
theorem ok_X11_waitedAt_499 {J : si_H → Prop} {P : si_P} (hxa : P.2.1 < P.1) (hJ : az_fr_of J az_jf) : az_ok J P az_tb ct_X11_waitedAt_499 ∧ az_wfct ct_X11_waitedAt_499 = true := az_chk_ok az_tb_ok hxa (az_dj_ok hJ (by decide)) (az_fc (ok_X11_min_498 hxa hJ) (az_fc (ok_X11_size_497 hxa hJ) (az_fc (ok_X11_thereAt_496 hxa hJ) az_fn))) ck_X11_waitedAt_499
def ct_X11_isMet_500 : az_Ct := (316, ([((-2), 1439), ((-2), 1439), (0, 99)], [], [], []), [.inl ([(0, 1)], 0), .inl ([(1, 1)], 0), .inl ([(2, 1)], 0)], [(([((-2), 1439), ((-2), 1439), (0, 99), (0, 1)], [], [], []), some (.inl ([(3, 1)], 0)))], [], 1)
def cu_X11_isMet_500 : List az_Cut := []
theorem ck_X11_isMet_500 : az_chk az_tb [ct_X11_size_497] ct_X11_isMet_500 cu_X11_isMet_500 az_inl az_spl [] 14 = true := by decide +kernel
theorem ok_X11_isMet_500 {J : si_H → Prop} {P : si_P} (hxa : P.2.1 < P.1) (hJ : az_fr_of J az_jf) : az_ok J P az_tb ct_X11_isMet_500 ∧ az_wfct ct_X11_isMet_500 = true := az_chk_ok az_tb_ok hxa (az_dj_ok hJ (by decide)) (az_fc (ok_X11_size_497 hxa hJ) az_fn) ck_X11_isMet_500
def ct_X11_isMetAt_501 : az_Ct := (317, ([(0, 15)], [], [], []), [.inr (.inr (.inl 60)), .inl ([(0, 1)], 0)], [(([(0, 15), (0, 1)], [], [], []), some (.inl ([(1, 1)], 0)))], [], 4)
def cu_X11_isMetAt_501 : List az_Cut := []
theorem ck_X11_isMetAt_501 : az_chk az_tb [ct_X11_thereAt_496, ct_X11_isMet_500] ct_X11_isMetAt_501 cu_X11_isMetAt_501 az_inl az_spl [] 27 = true := by decide +kernel
theorem ok_X11_isMetAt_501 {J : si_H → Prop} {P : si_P} (hxa : P.2.1 < P.1) (hJ : az_fr_of J az_jf) : az_ok J P az_tb ct_X11_isMetAt_501 ∧ az_wfct ct_X11_isMetAt_501 = true := az_chk_ok az_tb_ok hxa (az_dj_ok hJ (by decide)) (az_fc (ok_X11_thereAt_496 hxa hJ) (az_fc (ok_X11_isMet_500 hxa hJ) az_fn)) ck_X11_isMetAt_501
def ct_X11_appointment_502 : az_Ct := (319, ([((-2147483648), 2147483647), ((-2147483648), 2147483647)], [], [], []), [.inr (.inr (.inl 60)), .inl ([(0, 1)], 0), .inl ([(1, 1)], 0)], [(([((-2147483648), 2147483647), ((-2147483648), 2147483647), ((-2), 1439)], [], [], []), some (.inl ([(2, 1)], 0)))], [], 5)
def cu_X11_appointment_502 : List az_Cut := []
theorem ck_X11_appointment_502 : az_chk az_tb [ct_X11_thereAt_496, ct_X11_isMetAt_501, ct_X11_waitedAt_499] ct_X11_appointment_502 cu_X11_appointment_502 az_inl az_spl [] 31 = true := by decide +kernel
theorem ok_X11_appointment_502 {J : si_H → Prop} {P : si_P} (hxa : P.2.1 < P.1) (hJ : az_fr_of J az_jf) : az_ok J P az_tb ct_X11_appointment_502 ∧ az_wfct ct_X11_appointment_502 = true := az_chk_ok az_tb_ok hxa (az_dj_ok hJ (by decide)) (az_fc (ok_X11_thereAt_496 hxa hJ) (az_fc (ok_X11_isMetAt_501 hxa hJ) (az_fc (ok_X11_waitedAt_499 hxa hJ) az_fn))) ck_X11_appointment_502
def ct_X11_metInAll_503 : az_Ct := (320, ([], [], [], []), [.inr (.inr (.inl 60))], [(([(0, 16)], [], [], []), some (.inl ([(0, 1)], 0)))], [], 5)
def cu_X11_metInAll_503 : List az_Cut := [(4, ([(0, 16), (0, 16)], [([(0, (-1)), (1, 1)], 0)], [], []), [(0, .inr (.inr (.inl 60))), (1, .inl ([(0, 1)], 0)), (2, .inl ([(1, 1)], 0))], [], ([(1, (-1))], 16))]
theorem ck_X11_metInAll_503 : az_chk az_tb [ct_X11_isMetAt_501] ct_X11_metInAll_503 cu_X11_metInAll_503 az_inl az_spl [] 16 = true := by decide +kernel
theorem ok_X11_metInAll_503 {J : si_H → Prop} {P : si_P} (hxa : P.2.1 < P.1) (hJ : az_fr_of J az_jf) : az_ok J P az_tb ct_X11_metInAll_503 ∧ az_wfct ct_X11_metInAll_503 = true := az_chk_ok az_tb_ok hxa (az_dj_ok hJ (by decide)) (az_fc (ok_X11_isMetAt_501 hxa hJ) az_fn) ck_X11_metInAll_503
def ct_X11_waitedInAll_504 : az_Ct := (321, ([], [], [], []), [.inr (.inr (.inl 60))], [(([((-2147483648), 2147483647)], [], [], []), some (.inl ([(0, 1)], 0)))], [], 5)
def cu_X11_waitedInAll_504 : List az_Cut := [(4, ([((-2147483648), 2147483647), (0, 16)], [], [], []), [(0, .inr (.inr (.inl 60))), (1, .inl ([(0, 1)], 0)), (2, .inl ([(1, 1)], 0))], [], ([(1, (-1))], 16))]
theorem ck_X11_waitedInAll_504 : az_chk az_tb [ct_X11_waitedAt_499] ct_X11_waitedInAll_504 cu_X11_waitedInAll_504 az_inl az_spl [] 14 = true := by decide +kernel
theorem ok_X11_waitedInAll_504 {J : si_H → Prop} {P : si_P} (hxa : P.2.1 < P.1) (hJ : az_fr_of J az_jf) : az_ok J P az_tb ct_X11_waitedInAll_504 ∧ az_wfct ct_X11_waitedInAll_504 = true := az_chk_ok az_tb_ok hxa (az_dj_ok hJ (by decide)) (az_fc (ok_X11_waitedAt_499 hxa hJ) az_fn) ck_X11_waitedInAll_504
def ct_X11_meetings_505 : az_Ct := (322, ([((-2147483648), 2147483647)], [], [], []), [.inr (.inr (.inl 60)), .inl ([(0, 1)], 0)], [(([((-2147483648), 2147483647), ((-2147483648), 2147483647)], [], [], []), some (.inl ([(1, 1)], 0)))], [], 6)
def cu_X11_meetings_505 : List az_Cut := []
theorem ck_X11_meetings_505 : az_chk az_tb [ct_X11_metInAll_503, ct_X11_waitedInAll_504] ct_X11_meetings_505 cu_X11_meetings_505 az_inl az_spl [] 10 = true := by decide +kernel
theorem ok_X11_meetings_505 {J : si_H → Prop} {P : si_P} (hxa : P.2.1 < P.1) (hJ : az_fr_of J az_jf) : az_ok J P az_tb ct_X11_meetings_505 ∧ az_wfct ct_X11_meetings_505 = true := az_chk_ok az_tb_ok hxa (az_dj_ok hJ (by decide)) (az_fc (ok_X11_metInAll_503 hxa hJ) (az_fc (ok_X11_waitedInAll_504 hxa hJ) az_fn)) ck_X11_meetings_505
def ct_X11_likeAhead_506 : az_Ct := (327, ([(0, 7)], [], [], []), [.inr (.inr (.inl 60)), .inl ([(0, 1)], 0)], [(([(0, 7), (0, 8)], [], [], []), some (.inl ([(1, 1)], 0)))], [], 3)
def cu_X11_likeAhead_506 : List az_Cut := [(4, ([(0, 7), (0, 7), (0, 8), (0, 8)], [([(2, (-1)), (3, 1)], 0), ([(0, (-1)), (1, 1)], 0), ([(1, (-1)), (0, 1)], 0)], [], []), [(0, .inr (.inr (.inl 60))), (1, .inl ([(1, 1)], 0)), (2, .inl ([(2, 1)], 0)), (3, .inl ([(3, 1)], 0))], [], ([(3, (-1))], 8))]
theorem ck_X11_likeAhead_506 : az_chk az_tb [] ct_X11_likeAhead_506 cu_X11_likeAhead_506 az_inl az_spl [] 107 = true := by decide +kernel
theorem ok_X11_likeAhead_506 {J : si_H → Prop} {P : si_P} (hxa : P.2.1 < P.1) (hJ : az_fr_of J az_jf) : az_ok J P az_tb ct_X11_likeAhead_506 ∧ az_wfct ct_X11_likeAhead_506 = true := az_chk_ok az_tb_ok hxa (az_dj_ok hJ (by decide)) az_fn ck_X11_likeAhead_506
def ct_X11_mod_507 : az_Ct := (208, ([((-65535), 65535), (8, 1440)], [], [], []), [.inl ([(0, 1)], 0), .inl ([(1, 1)], 0)], [(([((-65535), 65535), (8, 1440), (0, 1439)], [], [], []), some (.inl ([(2, 1)], 0)))], [], 1)
def cu_X11_mod_507 : List az_Cut := []
theorem ck_X11_mod_507 : az_chk az_tb [] ct_X11_mod_507 cu_X11_mod_507 az_inl az_spl [] 20 = true := by decide +kernel
theorem ok_X11_mod_507 {J : si_H → Prop} {P : si_P} (hxa : P.2.1 < P.1) (hJ : az_fr_of J az_jf) : az_ok J P az_tb ct_X11_mod_507 ∧ az_wfct ct_X11_mod_507 = true := az_chk_ok az_tb_ok hxa (az_dj_ok hJ (by decide)) az_fn ck_X11_mod_507
def ct_X11_shorter_508 : az_Ct := (209, ([((-65535), 65535), (8, 1440)], [], [], []), [.inl ([(0, 1)], 0), .inl ([], 0), .inl ([(1, 1)], 0)], [(([((-65535), 65535), (8, 1440), (0, 1439)], [], [], []), some (.inl ([(2, 1)], 0)))], [], 2)
def cu_X11_shorter_508 : List az_Cut := []
theorem ck_X11_shorter_508 : az_chk az_tb [ct_X11_min_473, ct_X11_mod_507] ct_X11_shorter_508 cu_X11_shorter_508 az_inl az_spl [] 13 = true := by decide +kernel
theorem ok_X11_shorter_508 {J : si_H → Prop} {P : si_P} (hxa : P.2.1 < P.1) (hJ : az_fr_of J az_jf) : az_ok J P az_tb ct_X11_shorter_508 ∧ az_wfct ct_X11_shorter_508 = true := az_chk_ok az_tb_ok hxa (az_dj_ok hJ (by decide)) (az_fc (ok_X11_min_473 hxa hJ) (az_fc (ok_X11_mod_507 hxa hJ) az_fn)) ck_X11_shorter_508
def ct_X11_feels_509 : az_Ct := (328, ([(0, 7), ((-65535), 65535)], [], [], [(61, ([], 24), ([(1, 1)], 0))]), [.inr (.inr (.inl 60)), .inl ([(0, 1)], 0)], [(([(0, 7), ((-65535), 65535)], [], [], [(61, ([], 24), ([(1, 1)], 0))]), none)], [(61, 1000000), (84, 1000000)], 4)
def cu_X11_feels_509 : List az_Cut := []
theorem ck_X11_feels_509 : az_chk az_tb [ct_X11_shorter_508, ct_X11_likeAhead_506] ct_X11_feels_509 cu_X11_feels_509 az_inl az_spl [(61, 1000000), (84, 1000000)] 94 = true := by decide +kernel
theorem ok_X11_feels_509 {J : si_H → Prop} {P : si_P} (hxa : P.2.1 < P.1) (hJ : az_fr_of J az_jf) : az_ok J P az_tb ct_X11_feels_509 ∧ az_wfct ct_X11_feels_509 = true := az_chk_ok az_tb_ok hxa (az_dj_ok hJ (by decide)) (az_fc (ok_X11_shorter_508 hxa hJ) (az_fc (ok_X11_likeAhead_506 hxa hJ) az_fn)) ck_X11_feels_509
def ct_X11_mod_512 : az_Ct := (208, ([((-66534), 159905), (8, 1440)], [], [], []), [.inl ([(0, 1)], 0), .inl ([(1, 1)], 0)], [(([((-66534), 159905), (8, 1440), (0, 1439)], [], [], []), some (.inl ([(2, 1)], 0)))], [], 1)
def cu_X11_mod_512 : List az_Cut := []
theorem ck_X11_mod_512 : az_chk az_tb [] ct_X11_mod_512 cu_X11_mod_512 az_inl az_spl [] 20 = true := by decide +kernel
theorem ok_X11_mod_512 {J : si_H → Prop} {P : si_P} (hxa : P.2.1 < P.1) (hJ : az_fr_of J az_jf) : az_ok J P az_tb ct_X11_mod_512 ∧ az_wfct ct_X11_mod_512 = true := az_chk_ok az_tb_ok hxa (az_dj_ok hJ (by decide)) az_fn ck_X11_mod_512
def ct_X11_min_513 : az_Ct := (203, ([((-66534), 66534)], [], [], []), [.inl ([], 99), .inl ([(0, 1)], 0)], [(([((-66534), 66534), ((-66534), 99)], [], [], []), some (.inl ([(1, 1)], 0)))], [], 0)
def cu_X11_min_513 : List az_Cut := []
theorem ck_X11_min_513 : az_chk az_tb [] ct_X11_min_513 cu_X11_min_513 az_inl az_spl [] 7 = true := by decide +kernel
theorem ok_X11_min_513 {J : si_H → Prop} {P : si_P} (hxa : P.2.1 < P.1) (hJ : az_fr_of J az_jf) : az_ok J P az_tb ct_X11_min_513 ∧ az_wfct ct_X11_min_513 = true := az_chk_ok az_tb_ok hxa (az_dj_ok hJ (by decide)) az_fn ck_X11_min_513
def ct_X11_max_514 : az_Ct := (204, ([((-66534), 99)], [], [], []), [.inl ([], (-99)), .inl ([(0, 1)], 0)], [(([((-66534), 99), ((-99), 99)], [], [], []), some (.inl ([(1, 1)], 0)))], [], 0)
def cu_X11_max_514 : List az_Cut := []
theorem ck_X11_max_514 : az_chk az_tb [] ct_X11_max_514 cu_X11_max_514 az_inl az_spl [] 7 = true := by decide +kernel
theorem ok_X11_max_514 {J : si_H → Prop} {P : si_P} (hxa : P.2.1 < P.1) (hJ : az_fr_of J az_jf) : az_ok J P az_tb ct_X11_max_514 ∧ az_wfct ct_X11_max_514 = true := az_chk_ok az_tb_ok hxa (az_dj_ok hJ (by decide)) az_fn ck_X11_max_514
def ct_X11_mod_515 : az_Ct := (208, ([((-160905), 65535), (8, 1440)], [], [], []), [.inl ([(0, 1)], 0), .inl ([(1, 1)], 0)], [(([((-160905), 65535), (8, 1440), (0, 1439)], [], [], []), some (.inl ([(2, 1)], 0)))], [], 1)
def cu_X11_mod_515 : List az_Cut := []
theorem ck_X11_mod_515 : az_chk az_tb [] ct_X11_mod_515 cu_X11_mod_515 az_inl az_spl [] 20 = true := by decide +kernel
theorem ok_X11_mod_515 {J : si_H → Prop} {P : si_P} (hxa : P.2.1 < P.1) (hJ : az_fr_of J az_jf) : az_ok J P az_tb ct_X11_mod_515 ∧ az_wfct ct_X11_mod_515 = true := az_chk_ok az_tb_ok hxa (az_dj_ok hJ (by decide)) az_fn ck_X11_mod_515
def ct_X11_copies_520 : az_Ct := (210, ([], [], [], []), [.inr (.inr (.inl 61)), .inr (.inr (.inl 62))], [(([], [], [], []), none)], [(62, 1000000)], 0)
def cu_X11_copies_520 : List az_Cut := [(2, ([(0, 40)], [], [], []), [(0, .inr (.inr (.inl 61))), (1, .inr (.inr (.inl 62))), (2, .inl ([(0, 1)], 0))], [], ([(0, (-1))], 40))]
theorem ck_X11_copies_520 : az_chk az_tb [] ct_X11_copies_520 cu_X11_copies_520 az_inl az_spl [(62, 1000000)] 13 = true := by decide +kernel
theorem ok_X11_copies_520 {J : si_H → Prop} {P : si_P} (hxa : P.2.1 < P.1) (hJ : az_fr_of J az_jf) : az_ok J P az_tb ct_X11_copies_520 ∧ az_wfct ct_X11_copies_520 = true := az_chk_ok az_tb_ok hxa (az_dj_ok hJ (by decide)) az_fn ck_X11_copies_520
def ct_X11_copies_521 : az_Ct := (210, ([], [], [], []), [.inr (.inr (.inl 62)), .inr (.inr (.inl 61))], [(([], [], [], []), none)], [(61, 1000000)], 0)
def cu_X11_copies_521 : List az_Cut := [(2, ([(0, 40)], [], [], []), [(0, .inr (.inr (.inl 62))), (1, .inr (.inr (.inl 61))), (2, .inl ([(0, 1)], 0))], [], ([(0, (-1))], 40))]
theorem ck_X11_copies_521 : az_chk az_tb [] ct_X11_copies_521 cu_X11_copies_521 az_inl az_spl [(61, 1000000)] 13 = true := by decide +kernel
theorem ok_X11_copies_521 {J : si_H → Prop} {P : si_P} (hxa : P.2.1 < P.1) (hJ : az_fr_of J az_jf) : az_ok J P az_tb ct_X11_copies_521 ∧ az_wfct ct_X11_copies_521 = true := az_chk_ok az_tb_ok hxa (az_dj_ok hJ (by decide)) az_fn ck_X11_copies_521
def ct_X11_seed_524 : az_Ct := (335, ([((-2147483648), 2147483647)], [], [], []), [.inr (.inr (.inl 60)), .inl ([(0, 1)], 0)], [(([((-2147483648), 2147483647), (0, 1)], [], [], []), some (.inl ([(1, 1)], 0)))], [(61, 1000000)], 1)
def cu_X11_seed_524 : List az_Cut := []
theorem ck_X11_seed_524 : az_chk az_tb [] ct_X11_seed_524 cu_X11_seed_524 az_inl az_spl [(61, 1000000)] 22 = true := by decide +kernel
theorem ok_X11_seed_524 {J : si_H → Prop} {P : si_P} (hxa : P.2.1 < P.1) (hJ : az_fr_of J az_jf) : az_ok J P az_tb ct_X11_seed_524 ∧ az_wfct ct_X11_seed_524 = true := az_chk_ok az_tb_ok hxa (az_dj_ok hJ (by decide)) az_fn ck_X11_seed_524
def ct_X11_copies_525 : az_Ct := (210, ([], [], [], []), [.inr (.inr (.inl 61)), .inr (.inr (.inl 63))], [(([], [], [], []), none)], [(63, 1000000)], 0)
def cu_X11_copies_525 : List az_Cut := [(2, ([(0, 40)], [], [], []), [(0, .inr (.inr (.inl 61))), (1, .inr (.inr (.inl 63))), (2, .inl ([(0, 1)], 0))], [], ([(0, (-1))], 40))]
theorem ck_X11_copies_525 : az_chk az_tb [] ct_X11_copies_525 cu_X11_copies_525 az_inl az_spl [(63, 1000000)] 13 = true := by decide +kernel
theorem ok_X11_copies_525 {J : si_H → Prop} {P : si_P} (hxa : P.2.1 < P.1) (hJ : az_fr_of J az_jf) : az_ok J P az_tb ct_X11_copies_525 ∧ az_wfct ct_X11_copies_525 = true := az_chk_ok az_tb_ok hxa (az_dj_ok hJ (by decide)) az_fn ck_X11_copies_525
def ct_X11_keep_526 : az_Ct := (336, ([], [], [], []), [.inr (.inr (.inl 60))], [(([((-65535), 65535)], [], [], []), some (.inl ([(0, 1)], 0)))], [(60, 62), (60, 63), (60, 64), (60, 65), (63, 1000000)], 1)
def cu_X11_keep_526 : List az_Cut := []
theorem ck_X11_keep_526 : az_chk az_tb [ct_X11_copies_525] ct_X11_keep_526 cu_X11_keep_526 az_inl az_spl [(60, 62), (60, 63), (60, 64), (60, 65)] 26 = true := by decide +kernel
theorem ok_X11_keep_526 {J : si_H → Prop} {P : si_P} (hxa : P.2.1 < P.1) (hJ : az_fr_of J az_jf) : az_ok J P az_tb ct_X11_keep_526 ∧ az_wfct ct_X11_keep_526 = true := az_chk_ok az_tb_ok hxa (az_dj_ok hJ (by decide)) (az_fc (ok_X11_copies_525 hxa hJ) az_fn) ck_X11_keep_526
def ct_X11_undo_527 : az_Ct := (337, ([], [], [], []), [.inr (.inr (.inl 60))], [(([(0, 1)], [], [], []), some (.inl ([(0, 1)], 0)))], [(61, 1000000)], 1)
def cu_X11_undo_527 : List az_Cut := [(33, ([(1, 1), (4, 60), (4, 60), (2, 24), (2, 24), (0, 24)], [([(4, (-1)), (3, 1)], 0), ([(3, (-1)), (4, 1)], 0), ([(2, (-1)), (1, 1)], 0), ([(1, (-1)), (2, 1)], 0)], [], [(60, ([], 62), ([(0, 1)], 0)), (60, ([], 64), ([(1, 1)], 0)), (60, ([], 7), ([(2, 1)], 0)), (60, ([], 65), ([(3, 1)], 0)), (60, ([], 8), ([(4, 1)], 0))]), [(0, .inr (.inr (.inl 60))), (1, .inl ([(5, 1)], 0))], [], ([(5, (-1))], 24))]
theorem ck_X11_undo_527 : az_chk az_tb [] ct_X11_undo_527 cu_X11_undo_527 az_inl az_spl [(61, 1000000)] 35 = true := by decide +kernel
theorem ok_X11_undo_527 {J : si_H → Prop} {P : si_P} (hxa : P.2.1 < P.1) (hJ : az_fr_of J az_jf) : az_ok J P az_tb ct_X11_undo_527 ∧ az_wfct ct_X11_undo_527 = true := az_chk_ok az_tb_ok hxa (az_dj_ok hJ (by decide)) az_fn ck_X11_undo_527
def ct_X11_check_528 : az_Ct := (338, ([((-2147483648), 2147483647)], [], [], []), [.inr (.inr (.inl 60)), .inl ([(0, 1)], 0)], [(([((-2147483648), 2147483647), ((-2), 7)], [], [], []), some (.inl ([(1, 1)], 0)))], [(60, 16)], 2)
def cu_X11_check_528 : List az_Cut := [(28, ([(0, 8), (0, 8), (0, 8)], [([(2, (-1)), (1, 1)], 0), ([(0, (-1)), (1, 1)], 0), ([(1, (-1)), (0, 1)], 0)], [], [(60, ([], 16), ([], 0))]), [(0, .inr (.inr (.inl 60))), (1, .inl ([(1, 1)], 0)), (2, .inl ([(2, 1)], 0))], [], ([(2, (-1))], 8))]
theorem ck_X11_check_528 : az_chk az_tb [] ct_X11_check_528 cu_X11_check_528 az_inl az_spl [(60, 16)] 63 = true := by decide +kernel
theorem ok_X11_check_528 {J : si_H → Prop} {P : si_P} (hxa : P.2.1 < P.1) (hJ : az_fr_of J az_jf) : az_ok J P az_tb ct_X11_check_528 ∧ az_wfct ct_X11_check_528 = true := az_chk_ok az_tb_ok hxa (az_dj_ok hJ (by decide)) az_fn ck_X11_check_528
def ct_X11_setOfAll_529 : az_Ct := (339, ([], [], [], []), [.inr (.inr (.inl 60))], [(([((-2147483648), 2147483647)], [], [], []), some (.inl ([(0, 1)], 0)))], [], 2)
def cu_X11_setOfAll_529 : List az_Cut := [(4, ([((-2147483648), 2147483647), (0, 8)], [], [], []), [(0, .inr (.inr (.inl 60))), (1, .inl ([(0, 1)], 0)), (2, .inl ([(1, 1)], 0))], [], ([(1, (-1))], 8))]
theorem ck_X11_setOfAll_529 : az_chk az_tb [] ct_X11_setOfAll_529 cu_X11_setOfAll_529 az_inl az_spl [] 52 = true := by decide +kernel
theorem ok_X11_setOfAll_529 {J : si_H → Prop} {P : si_P} (hxa : P.2.1 < P.1) (hJ : az_fr_of J az_jf) : az_ok J P az_tb ct_X11_setOfAll_529 ∧ az_wfct ct_X11_setOfAll_529 = true := az_chk_ok az_tb_ok hxa (az_dj_ok hJ (by decide)) az_fn ck_X11_setOfAll_529
def ct_X11_count_530 : az_Ct := (340, ([((-2147483648), 2147483647)], [], [], []), [.inr (.inr (.inl 60)), .inl ([(0, 1)], 0)], [(([((-2147483648), 2147483647), ((-2147483648), 2147483647)], [], [], []), some (.inl ([(1, 1)], 0)))], [], 3)
def cu_X11_count_530 : List az_Cut := []
theorem ck_X11_count_530 : az_chk az_tb [ct_X11_setOfAll_529] ct_X11_count_530 cu_X11_count_530 az_inl az_spl [] 8 = true := by decide +kernel
theorem ok_X11_count_530 {J : si_H → Prop} {P : si_P} (hxa : P.2.1 < P.1) (hJ : az_fr_of J az_jf) : az_ok J P az_tb ct_X11_count_530 ∧ az_wfct ct_X11_count_530 = true := az_chk_ok az_tb_ok hxa (az_dj_ok hJ (by decide)) (az_fc (ok_X11_setOfAll_529 hxa hJ) az_fn) ck_X11_count_530
