/-! THE CONTRACTS: 96 and on -/
set_option maxRecDepth 100000
def ct_X7_number_96 : az_Ct := (127, ([], [], [], []), [.inr (.inr (.inl 14)), .inl ([], 2)], [(([(0, 99)], [], [], []), some (.inl ([(0, 1)], 0)))], [(14, 2), (14, 3)], 1)
def cu_X7_number_96 : List az_Cut := []
theorem ck_X7_number_96 : az_chk az_tb [] ct_X7_number_96 cu_X7_number_96 az_inl az_spl [(14, 2), (14, 3)] 181 = true := by decide +kernel
theorem ok_X7_number_96 {J : si_H → Prop} {P : si_P} (hxa : P.2.1 < P.1) (hJ : az_fr_of J az_jf) : az_ok J P az_tb ct_X7_number_96 ∧ az_wfct ct_X7_number_96 = true := az_chk_ok az_tb_ok hxa (az_dj_ok hJ (by decide)) az_fn ck_X7_number_96
def ct_X3_readLine_97 : az_Ct := (45, ([(0, 7)], [], [], []), [.inr (.inr (.inl 26)), .inr (.inr (.inl 14)), .inl ([(0, 1)], 0)], [(([(0, 7)], [], [], []), none)], [(14, 2), (14, 3), (27, 1000000), (28, 1000000), (29, 1000000), (30, 1000000)], 3)
def cu_X3_readLine_97 : List az_Cut := []
theorem ck_X3_readLine_97 : az_chk az_tb [ct_X7_number_96, ct_X7_time_95] ct_X3_readLine_97 cu_X3_readLine_97 az_inl az_spl [(14, 2), (14, 3), (27, 1000000), (28, 1000000), (29, 1000000), (30, 1000000)] 143 = true := by decide +kernel
theorem ok_X3_readLine_97 {J : si_H → Prop} {P : si_P} (hxa : P.2.1 < P.1) (hJ : az_fr_of J az_jf) : az_ok J P az_tb ct_X3_readLine_97 ∧ az_wfct ct_X3_readLine_97 = true := az_chk_ok az_tb_ok hxa (az_dj_ok hJ (by decide)) (az_fc (ok_X7_number_96 hxa hJ) (az_fc (ok_X7_time_95 hxa hJ) az_fn)) ck_X3_readLine_97
def ct_X7_answer_98 : az_Ct := (129, ([(0, 8)], [], [], []), [.inr (.inr (.inl 14)), .inl ([(0, 1)], 0)], [(([(0, 8), ((-7000), 8)], [], [], []), some (.inl ([(1, 1)], 0)))], [(14, 3)], 1)
def cu_X7_answer_98 : List az_Cut := []
theorem ck_X7_answer_98 : az_chk az_tb [] ct_X7_answer_98 cu_X7_answer_98 az_inl az_spl [(14, 3)] 31 = true := by decide +kernel
theorem ok_X7_answer_98 {J : si_H → Prop} {P : si_P} (hxa : P.2.1 < P.1) (hJ : az_fr_of J az_jf) : az_ok J P az_tb ct_X7_answer_98 ∧ az_wfct ct_X7_answer_98 = true := az_chk_ok az_tb_ok hxa (az_dj_ok hJ (by decide)) az_fn ck_X7_answer_98
def ct_X7_answer_99 : az_Ct := (129, ([(0, 9)], [], [], []), [.inr (.inr (.inl 14)), .inl ([(0, 1)], 0)], [(([(0, 9), ((-7000), 9)], [], [], []), some (.inl ([(1, 1)], 0)))], [(14, 3)], 1)
def cu_X7_answer_99 : List az_Cut := []
theorem ck_X7_answer_99 : az_chk az_tb [] ct_X7_answer_99 cu_X7_answer_99 az_inl az_spl [(14, 3)] 31 = true := by decide +kernel
theorem ok_X7_answer_99 {J : si_H → Prop} {P : si_P} (hxa : P.2.1 < P.1) (hJ : az_fr_of J az_jf) : az_ok J P az_tb ct_X7_answer_99 ∧ az_wfct ct_X7_answer_99 = true := az_chk_ok az_tb_ok hxa (az_dj_ok hJ (by decide)) az_fn ck_X7_answer_99
def ct_X3_read_100 : az_Ct := (44, ([], [], [], []), [.inr (.inr (.inl 26)), .inr (.inr (.inl 14))], [(([((-7000), 9)], [], [], []), some (.inl ([(0, 1)], 0)))], [(14, 2), (14, 3), (27, 1000000), (28, 1000000), (29, 1000000), (30, 1000000)], 4)
def cu_X3_read_100 : List az_Cut := [(11, ([(0, 1), (0, 9), (0, 9)], [([(2, (-1)), (1, 1)], 0)], [], []), [(0, .inr (.inr (.inl 26))), (1, .inr (.inr (.inl 14))), (2, .inl ([(2, 1)], 0)), (3, .inl ([(0, 1)], 0)), (4, .inl ([(1, 1)], 0))], [], ([(1, (-1))], 9))]
theorem ck_X3_read_100 : az_chk az_tb [ct_X3_forget_93, ct_X3_readLine_97, ct_X7_answer_98, ct_X7_answer_99] ct_X3_read_100 cu_X3_read_100 az_inl az_spl [(14, 2), (14, 3)] 113 = true := by decide +kernel
theorem ok_X3_read_100 {J : si_H → Prop} {P : si_P} (hxa : P.2.1 < P.1) (hJ : az_fr_of J az_jf) : az_ok J P az_tb ct_X3_read_100 ∧ az_wfct ct_X3_read_100 = true := az_chk_ok az_tb_ok hxa (az_dj_ok hJ (by decide)) (az_fc (ok_X3_forget_93 hxa hJ) (az_fc (ok_X3_readLine_97 hxa hJ) (az_fc (ok_X7_answer_98 hxa hJ) (az_fc (ok_X7_answer_99 hxa hJ) az_fn)))) ck_X3_read_100
def ct_X3_copyClock_101 : az_Ct := (40, ([(0, 7)], [], [], []), [.inr (.inr (.inl 16)), .inl ([(0, 1)], 0), .inr (.inr (.inl 26))], [(([(0, 7)], [], [], []), none)], [(17, 1000000), (18, 1000000), (19, 1000000), (20, 1000000)], 0)
def cu_X3_copyClock_101 : List az_Cut := []
theorem ck_X3_copyClock_101 : az_chk az_tb [] ct_X3_copyClock_101 cu_X3_copyClock_101 az_inl az_spl [(17, 1000000), (18, 1000000), (19, 1000000), (20, 1000000)] 34 = true := by decide +kernel
theorem ok_X3_copyClock_101 {J : si_H → Prop} {P : si_P} (hxa : P.2.1 < P.1) (hJ : az_fr_of J az_jf) : az_ok J P az_tb ct_X3_copyClock_101 ∧ az_wfct ct_X3_copyClock_101 = true := az_chk_ok az_tb_ok hxa (az_dj_ok hJ (by decide)) az_fn ck_X3_copyClock_101
def ct_X3_copyClocks_102 : az_Ct := (41, ([], [], [], []), [.inr (.inr (.inl 16)), .inr (.inr (.inl 26))], [(([], [], [], []), none)], [(17, 1000000), (18, 1000000), (19, 1000000), (20, 1000000)], 1)
def cu_X3_copyClocks_102 : List az_Cut := [(2, ([(0, 8)], [], [], []), [(0, .inr (.inr (.inl 16))), (1, .inr (.inr (.inl 26))), (2, .inl ([(0, 1)], 0))], [], ([(0, (-1))], 8))]
theorem ck_X3_copyClocks_102 : az_chk az_tb [ct_X3_copyClock_101] ct_X3_copyClocks_102 cu_X3_copyClocks_102 az_inl az_spl [] 11 = true := by decide +kernel
theorem ok_X3_copyClocks_102 {J : si_H → Prop} {P : si_P} (hxa : P.2.1 < P.1) (hJ : az_fr_of J az_jf) : az_ok J P az_tb ct_X3_copyClocks_102 ∧ az_wfct ct_X3_copyClocks_102 = true := az_chk_ok az_tb_ok hxa (az_dj_ok hJ (by decide)) (az_fc (ok_X3_copyClock_101 hxa hJ) az_fn) ck_X3_copyClocks_102
def ct_X10_clocks_103 : az_Ct := (147, ([((-2147483648), 2147483647)], [], [], []), [.inr (.inr (.inl 0)), .inl ([(0, 1)], 0)], [(([((-2147483648), 2147483647), ((-7000), 9)], [], [], []), some (.inl ([(1, 1)], 0)))], [(12, 1), (14, 1), (14, 2), (14, 3), (17, 1000000), (18, 1000000), (19, 1000000), (20, 1000000), (27, 1000000), (28, 1000000), (29, 1000000), (30, 1000000)], 5)
def cu_X10_clocks_103 : List az_Cut := []
theorem ck_X10_clocks_103 : az_chk az_tb [ct_X3_copyClocks_102, ct_X3_read_100] ct_X10_clocks_103 cu_X10_clocks_103 az_inl az_spl [(12, 1), (14, 1), (14, 2), (14, 3)] 63 = true := by decide +kernel
theorem ok_X10_clocks_103 {J : si_H → Prop} {P : si_P} (hxa : P.2.1 < P.1) (hJ : az_fr_of J az_jf) : az_ok J P az_tb ct_X10_clocks_103 ∧ az_wfct ct_X10_clocks_103 = true := az_chk_ok az_tb_ok hxa (az_dj_ok hJ (by decide)) (az_fc (ok_X3_copyClocks_102 hxa hJ) (az_fc (ok_X3_read_100 hxa hJ) az_fn)) ck_X10_clocks_103
def ct_X2_readRest_104 : az_Ct := (32, ([(0, 15), (0, 240)], [], [], [(14, ([], 2), ([(1, 1)], 0))]), [.inr (.inr (.inl 54)), .inr (.inr (.inl 14)), .inl ([(0, 1)], 0)], [(([(0, 15), (0, 240)], [], [], []), none)], [(14, 2), (14, 3), (56, 1000000), (57, 1000000), (58, 1000000)], 3)
def cu_X2_readRest_104 : List az_Cut := []
theorem ck_X2_readRest_104 : az_chk az_tb [ct_X7_number_96, ct_X7_time_95] ct_X2_readRest_104 cu_X2_readRest_104 az_inl az_spl [(14, 2), (14, 3), (56, 1000000), (57, 1000000), (58, 1000000)] 162 = true := by decide +kernel
theorem ok_X2_readRest_104 {J : si_H → Prop} {P : si_P} (hxa : P.2.1 < P.1) (hJ : az_fr_of J az_jf) : az_ok J P az_tb ct_X2_readRest_104 ∧ az_wfct ct_X2_readRest_104 = true := az_chk_ok az_tb_ok hxa (az_dj_ok hJ (by decide)) (az_fc (ok_X7_number_96 hxa hJ) (az_fc (ok_X7_time_95 hxa hJ) az_fn)) ck_X2_readRest_104
def ct_X2_read_105 : az_Ct := (31, ([], [], [], []), [.inr (.inr (.inl 54)), .inr (.inr (.inl 14))], [(([((-7000), 16)], [], [], []), some (.inl ([(0, 1)], 0)))], [(14, 2), (14, 3), (54, 5), (55, 1000000), (56, 1000000), (57, 1000000), (58, 1000000)], 4)
def cu_X2_read_105 : List az_Cut := [(9, ([(0, 1), (0, 24), (0, 16)], [([(2, (-1)), (1, 1)], 0)], [], [(54, ([], 5), ([(2, 1)], 0))]), [(0, .inr (.inr (.inl 54))), (1, .inr (.inr (.inl 14))), (2, .inl ([(0, 1)], 0)), (3, .inl ([(1, 1)], 0))], [], ([(1, (-1))], 24))]
theorem ck_X2_read_105 : az_chk az_tb [ct_X2_readRest_104, ct_X7_answer_47] ct_X2_read_105 cu_X2_read_105 az_inl az_spl [(14, 2), (14, 3), (54, 5), (55, 1000000)] 112 = true := by decide +kernel
theorem ok_X2_read_105 {J : si_H → Prop} {P : si_P} (hxa : P.2.1 < P.1) (hJ : az_fr_of J az_jf) : az_ok J P az_tb ct_X2_read_105 ∧ az_wfct ct_X2_read_105 = true := az_chk_ok az_tb_ok hxa (az_dj_ok hJ (by decide)) (az_fc (ok_X2_readRest_104 hxa hJ) (az_fc (ok_X7_answer_47 hxa hJ) az_fn)) ck_X2_read_105
def ct_X2_readRest_106 : az_Ct := (32, ([(0, 15), (0, 240)], [], [], [(14, ([], 2), ([(1, 1)], 0))]), [.inr (.inr (.inl 49)), .inr (.inr (.inl 14)), .inl ([(0, 1)], 0)], [(([(0, 15), (0, 240)], [], [], []), none)], [(14, 2), (14, 3), (51, 1000000), (52, 1000000), (53, 1000000)], 3)
def cu_X2_readRest_106 : List az_Cut := []
theorem ck_X2_readRest_106 : az_chk az_tb [ct_X7_number_96, ct_X7_time_95] ct_X2_readRest_106 cu_X2_readRest_106 az_inl az_spl [(14, 2), (14, 3), (51, 1000000), (52, 1000000), (53, 1000000)] 162 = true := by decide +kernel
theorem ok_X2_readRest_106 {J : si_H → Prop} {P : si_P} (hxa : P.2.1 < P.1) (hJ : az_fr_of J az_jf) : az_ok J P az_tb ct_X2_readRest_106 ∧ az_wfct ct_X2_readRest_106 = true := az_chk_ok az_tb_ok hxa (az_dj_ok hJ (by decide)) (az_fc (ok_X7_number_96 hxa hJ) (az_fc (ok_X7_time_95 hxa hJ) az_fn)) ck_X2_readRest_106
def ct_X2_read_107 : az_Ct := (31, ([], [], [], []), [.inr (.inr (.inl 49)), .inr (.inr (.inl 14))], [(([((-7000), 16)], [], [], []), some (.inl ([(0, 1)], 0)))], [(14, 2), (14, 3), (49, 5), (50, 1000000), (51, 1000000), (52, 1000000), (53, 1000000)], 4)
def cu_X2_read_107 : List az_Cut := [(9, ([(0, 1), (0, 24), (0, 16)], [([(2, (-1)), (1, 1)], 0)], [], [(49, ([], 5), ([(2, 1)], 0))]), [(0, .inr (.inr (.inl 49))), (1, .inr (.inr (.inl 14))), (2, .inl ([(0, 1)], 0)), (3, .inl ([(1, 1)], 0))], [], ([(1, (-1))], 24))]
theorem ck_X2_read_107 : az_chk az_tb [ct_X2_readRest_106, ct_X7_answer_47] ct_X2_read_107 cu_X2_read_107 az_inl az_spl [(14, 2), (14, 3), (49, 5), (50, 1000000)] 112 = true := by decide +kernel
theorem ok_X2_read_107 {J : si_H → Prop} {P : si_P} (hxa : P.2.1 < P.1) (hJ : az_fr_of J az_jf) : az_ok J P az_tb ct_X2_read_107 ∧ az_wfct ct_X2_read_107 = true := az_chk_ok az_tb_ok hxa (az_dj_ok hJ (by decide)) (az_fc (ok_X2_readRest_106 hxa hJ) (az_fc (ok_X7_answer_47 hxa hJ) az_fn)) ck_X2_read_107
def ct_X10_book_108 : az_Ct := (148, ([((-2147483648), 2147483647)], [], [], []), [.inr (.inr (.inl 0)), .inl ([(0, 1)], 0)], [(([((-2147483648), 2147483647), ((-7000), 16)], [], [], []), some (.inl ([(1, 1)], 0)))], [(0, 17), (0, 18), (12, 1), (14, 1), (14, 2), (14, 3), (49, 5), (50, 1000000), (51, 1000000), (52, 1000000), (53, 1000000), (54, 5), (55, 1000000), (56, 1000000), (57, 1000000), (58, 1000000)], 5)
def cu_X10_book_108 : List az_Cut := []
theorem ck_X10_book_108 : az_chk az_tb [ct_X2_read_105, ct_X2_read_107] ct_X10_book_108 cu_X10_book_108 az_inl az_spl [(0, 17), (0, 18), (12, 1), (14, 1), (14, 2), (14, 3)] 68 = true := by decide +kernel
theorem ok_X10_book_108 {J : si_H → Prop} {P : si_P} (hxa : P.2.1 < P.1) (hJ : az_fr_of J az_jf) : az_ok J P az_tb ct_X10_book_108 ∧ az_wfct ct_X10_book_108 = true := az_chk_ok az_tb_ok hxa (az_dj_ok hJ (by decide)) (az_fc (ok_X2_read_105 hxa hJ) (az_fc (ok_X2_read_107 hxa hJ) az_fn)) ck_X10_book_108
def ct_X10_modulo_109 : az_Ct := (200, ([(0, 1439), (4, 60)], [], [], []), [.inl ([(0, 1)], 0), .inl ([(1, 1)], 0)], [(([(0, 1439), (4, 60), (0, 59)], [], [], []), some (.inl ([(2, 1)], 0)))], [], 0)
def cu_X10_modulo_109 : List az_Cut := []
theorem ck_X10_modulo_109 : az_chk az_tb [] ct_X10_modulo_109 cu_X10_modulo_109 az_inl az_spl [] 12 = true := by decide +kernel
theorem ok_X10_modulo_109 {J : si_H → Prop} {P : si_P} (hxa : P.2.1 < P.1) (hJ : az_fr_of J az_jf) : az_ok J P az_tb ct_X10_modulo_109 ∧ az_wfct ct_X10_modulo_109 = true := az_chk_ok az_tb_ok hxa (az_dj_ok hJ (by decide)) az_fn ck_X10_modulo_109
def ct_X4_longAt_110 : az_Ct := (77, ([(0, 1439)], [], [], []), [.inr (.inr (.inl 1)), .inl ([(0, 1)], 0)], [(([(0, 1439), (0, 59)], [], [], []), some (.inl ([(1, 1)], 0)))], [], 1)
def cu_X4_longAt_110 : List az_Cut := []
theorem ck_X4_longAt_110 : az_chk az_tb [ct_X10_modulo_109] ct_X4_longAt_110 cu_X4_longAt_110 az_inl az_spl [] 6 = true := by decide +kernel
theorem ok_X4_longAt_110 {J : si_H → Prop} {P : si_P} (hxa : P.2.1 < P.1) (hJ : az_fr_of J az_jf) : az_ok J P az_tb ct_X4_longAt_110 ∧ az_wfct ct_X4_longAt_110 = true := az_chk_ok az_tb_ok hxa (az_dj_ok hJ (by decide)) (az_fc (ok_X10_modulo_109 hxa hJ) az_fn) ck_X4_longAt_110
def ct_X10_through_111 : az_Ct := (199, ([(0, 1439), (2, 24)], [], [], []), [.inl ([(0, 1)], 0), .inl ([(1, 1)], 0)], [(([(0, 1439), (2, 24), (0, 719)], [], [], []), some (.inl ([(2, 1)], 0)))], [], 0)
def cu_X10_through_111 : List az_Cut := []
theorem ck_X10_through_111 : az_chk az_tb [] ct_X10_through_111 cu_X10_through_111 az_inl az_spl [] 8 = true := by decide +kernel
theorem ok_X10_through_111 {J : si_H → Prop} {P : si_P} (hxa : P.2.1 < P.1) (hJ : az_fr_of J az_jf) : az_ok J P az_tb ct_X10_through_111 ∧ az_wfct ct_X10_through_111 = true := az_chk_ok az_tb_ok hxa (az_dj_ok hJ (by decide)) az_fn ck_X10_through_111
def ct_X4_shortAt_112 : az_Ct := (76, ([(0, 1439)], [], [], []), [.inr (.inr (.inl 1)), .inl ([(0, 1)], 0)], [(([(0, 1439), (0, 719)], [], [], []), some (.inl ([(1, 1)], 0)))], [], 1)
def cu_X4_shortAt_112 : List az_Cut := []
theorem ck_X4_shortAt_112 : az_chk az_tb [ct_X10_through_111] ct_X4_shortAt_112 cu_X4_shortAt_112 az_inl az_spl [] 6 = true := by decide +kernel
theorem ok_X4_shortAt_112 {J : si_H → Prop} {P : si_P} (hxa : P.2.1 < P.1) (hJ : az_fr_of J az_jf) : az_ok J P az_tb ct_X4_shortAt_112 ∧ az_wfct ct_X4_shortAt_112 = true := az_chk_ok az_tb_ok hxa (az_dj_ok hJ (by decide)) (az_fc (ok_X10_through_111 hxa hJ) az_fn) ck_X4_shortAt_112
def ct_X10_modulo_113 : az_Ct := (200, ([((-719), 59), (4, 60)], [], [], []), [.inl ([(0, 1)], 0), .inl ([(1, 1)], 0)], [(([((-719), 59), (4, 60), (0, 59)], [], [], []), some (.inl ([(2, 1)], 0)))], [], 0)
def cu_X10_modulo_113 : List az_Cut := []
theorem ck_X10_modulo_113 : az_chk az_tb [] ct_X10_modulo_113 cu_X10_modulo_113 az_inl az_spl [] 15 = true := by decide +kernel
theorem ok_X10_modulo_113 {J : si_H → Prop} {P : si_P} (hxa : P.2.1 < P.1) (hJ : az_fr_of J az_jf) : az_ok J P az_tb ct_X10_modulo_113 ∧ az_wfct ct_X10_modulo_113 = true := az_chk_ok az_tb_ok hxa (az_dj_ok hJ (by decide)) az_fn ck_X10_modulo_113
def ct_J9_min_7cf53_114 : az_Ct := (344, ([(0, 59), ((-55), 60)], [], [], []), [.inl ([(0, 1)], 0), .inl ([(1, 1)], 0)], [(([(0, 59), ((-55), 60), ((-55), 59)], [([(2, (-1)), (0, 1)], 0), ([(2, (-1)), (1, 1)], 0)], [], []), some (.inl ([(2, 1)], 0)))], [], 0)
def cu_J9_min_7cf53_114 : List az_Cut := []
theorem ck_J9_min_7cf53_114 : az_chk az_tb [] ct_J9_min_7cf53_114 cu_J9_min_7cf53_114 az_inl az_spl [] 7 = true := by decide +kernel
theorem ok_J9_min_7cf53_114 {J : si_H → Prop} {P : si_P} (hxa : P.2.1 < P.1) (hJ : az_fr_of J az_jf) : az_ok J P az_tb ct_J9_min_7cf53_114 ∧ az_wfct ct_J9_min_7cf53_114 = true := az_chk_ok az_tb_ok hxa (az_dj_ok hJ (by decide)) az_fn ck_J9_min_7cf53_114
def ct_X4_apartAt_115 : az_Ct := (80, ([(0, 1439)], [], [], []), [.inr (.inr (.inl 1)), .inl ([(0, 1)], 0)], [(([(0, 1439), ((-55), 59)], [], [], []), some (.inl ([(1, 1)], 0)))], [], 2)
def cu_X4_apartAt_115 : List az_Cut := []
theorem ck_X4_apartAt_115 : az_chk az_tb [ct_X4_shortAt_112, ct_X4_longAt_110, ct_X10_modulo_113, ct_J9_min_7cf53_114] ct_X4_apartAt_115 cu_X4_apartAt_115 az_inl az_spl [] 19 = true := by decide +kernel
theorem ok_X4_apartAt_115 {J : si_H → Prop} {P : si_P} (hxa : P.2.1 < P.1) (hJ : az_fr_of J az_jf) : az_ok J P az_tb ct_X4_apartAt_115 ∧ az_wfct ct_X4_apartAt_115 = true := az_chk_ok az_tb_ok hxa (az_dj_ok hJ (by decide)) (az_fc (ok_X4_shortAt_112 hxa hJ) (az_fc (ok_X4_longAt_110 hxa hJ) (az_fc (ok_X10_modulo_113 hxa hJ) (az_fc (ok_J9_min_7cf53_114 hxa hJ) az_fn)))) ck_X4_apartAt_115
def ct_X4_mirrored_116 : az_Ct := (78, ([(0, 719)], [], [], []), [.inr (.inr (.inl 1)), .inl ([(0, 1)], 0)], [(([(0, 719), ((-715), 59)], [], [], []), some (.inl ([(1, 1)], 0)))], [], 0)
def cu_X4_mirrored_116 : List az_Cut := []
theorem ck_X4_mirrored_116 : az_chk az_tb [] ct_X4_mirrored_116 cu_X4_mirrored_116 az_inl az_spl [] 8 = true := by decide +kernel
theorem ok_X4_mirrored_116 {J : si_H → Prop} {P : si_P} (hxa : P.2.1 < P.1) (hJ : az_fr_of J az_jf) : az_ok J P az_tb ct_X4_mirrored_116 ∧ az_wfct ct_X4_mirrored_116 = true := az_chk_ok az_tb_ok hxa (az_dj_ok hJ (by decide)) az_fn ck_X4_mirrored_116
def ct_X4_mirrored_117 : az_Ct := (78, ([(0, 59)], [], [], []), [.inr (.inr (.inl 1)), .inl ([(0, 1)], 0)], [(([(0, 59), ((-55), 59)], [], [], []), some (.inl ([(1, 1)], 0)))], [], 0)
def cu_X4_mirrored_117 : List az_Cut := []
theorem ck_X4_mirrored_117 : az_chk az_tb [] ct_X4_mirrored_117 cu_X4_mirrored_117 az_inl az_spl [] 8 = true := by decide +kernel
theorem ok_X4_mirrored_117 {J : si_H → Prop} {P : si_P} (hxa : P.2.1 < P.1) (hJ : az_fr_of J az_jf) : az_ok J P az_tb ct_X4_mirrored_117 ∧ az_wfct ct_X4_mirrored_117 = true := az_chk_ok az_tb_ok hxa (az_dj_ok hJ (by decide)) az_fn ck_X4_mirrored_117
def ct_X10_modulo_118 : az_Ct := (200, ([((-17215), 17219), (4, 60)], [], [], []), [.inl ([(0, 1)], 0), .inl ([(1, 1)], 0)], [(([((-17215), 17219), (4, 60), (0, 59)], [], [], []), some (.inl ([(2, 1)], 0)))], [], 0)
def cu_X10_modulo_118 : List az_Cut := []
theorem ck_X10_modulo_118 : az_chk az_tb [] ct_X10_modulo_118 cu_X10_modulo_118 az_inl az_spl [] 15 = true := by decide +kernel
theorem ok_X10_modulo_118 {J : si_H → Prop} {P : si_P} (hxa : P.2.1 < P.1) (hJ : az_fr_of J az_jf) : az_ok J P az_tb ct_X10_modulo_118 ∧ az_wfct ct_X10_modulo_118 = true := az_chk_ok az_tb_ok hxa (az_dj_ok hJ (by decide)) az_fn ck_X10_modulo_118
def ct_X4_lowest_119 : az_Ct := (83, ([((-715), 59), ((-55), 59)], [], [], []), [.inr (.inr (.inl 1)), .inl ([(0, 1)], 0), .inl ([(1, 1)], 0)], [(([((-715), 59), ((-55), 59), ((-17160), 17183)], [], [], []), some (.inl ([(2, 1)], 0)))], [], 1)
def cu_X4_lowest_119 : List az_Cut := []
theorem ck_X4_lowest_119 : az_chk az_tb [ct_X10_modulo_118] ct_X4_lowest_119 cu_X4_lowest_119 az_inl az_spl [] 24 = true := by decide +kernel
theorem ok_X4_lowest_119 {J : si_H → Prop} {P : si_P} (hxa : P.2.1 < P.1) (hJ : az_fr_of J az_jf) : az_ok J P az_tb ct_X4_lowest_119 ∧ az_wfct ct_X4_lowest_119 = true := az_chk_ok az_tb_ok hxa (az_dj_ok hJ (by decide)) (az_fc (ok_X10_modulo_118 hxa hJ) az_fn) ck_X4_lowest_119
def ct_X10_modulo_120 : az_Ct := (200, ([((-2131), 1475), (4, 60)], [], [], []), [.inl ([(0, 1)], 0), .inl ([(1, 1)], 0)], [(([((-2131), 1475), (4, 60), (0, 59)], [], [], []), some (.inl ([(2, 1)], 0)))], [], 0)
def cu_X10_modulo_120 : List az_Cut := []
theorem ck_X10_modulo_120 : az_chk az_tb [] ct_X10_modulo_120 cu_X10_modulo_120 az_inl az_spl [] 15 = true := by decide +kernel
theorem ok_X10_modulo_120 {J : si_H → Prop} {P : si_P} (hxa : P.2.1 < P.1) (hJ : az_fr_of J az_jf) : az_ok J P az_tb ct_X10_modulo_120 ∧ az_wfct ct_X10_modulo_120 = true := az_chk_ok az_tb_ok hxa (az_dj_ok hJ (by decide)) az_fn ck_X10_modulo_120
def ct_X4_lowest_121 : az_Ct := (83, ([((-55), 59), ((-715), 59)], [], [], []), [.inr (.inr (.inl 1)), .inl ([(0, 1)], 0), .inl ([(1, 1)], 0)], [(([((-55), 59), ((-715), 59), ((-1416), 1439)], [], [], []), some (.inl ([(2, 1)], 0)))], [], 1)
def cu_X4_lowest_121 : List az_Cut := []
theorem ck_X4_lowest_121 : az_chk az_tb [ct_X10_modulo_120] ct_X4_lowest_121 cu_X4_lowest_121 az_inl az_spl [] 24 = true := by decide +kernel
theorem ok_X4_lowest_121 {J : si_H → Prop} {P : si_P} (hxa : P.2.1 < P.1) (hJ : az_fr_of J az_jf) : az_ok J P az_tb ct_X4_lowest_121 ∧ az_wfct ct_X4_lowest_121 = true := az_chk_ok az_tb_ok hxa (az_dj_ok hJ (by decide)) (az_fc (ok_X10_modulo_120 hxa hJ) az_fn) ck_X4_lowest_121
def ct_J9_max_7cf53_122 : az_Ct := (343, ([(0, 17183), ((-1416), (-1))], [], [], []), [.inl ([(0, 1)], 0), .inl ([(1, 1)], 0)], [(([(0, 17183), ((-1416), (-1)), (0, 17183)], [([(0, (-1)), (2, 1)], 0), ([(1, (-1)), (2, 1)], 0)], [], []), some (.inl ([(2, 1)], 0)))], [], 0)
def cu_J9_max_7cf53_122 : List az_Cut := []
theorem ck_J9_max_7cf53_122 : az_chk az_tb [] ct_J9_max_7cf53_122 cu_J9_max_7cf53_122 az_inl az_spl [] 7 = true := by decide +kernel
theorem ok_J9_max_7cf53_122 {J : si_H → Prop} {P : si_P} (hxa : P.2.1 < P.1) (hJ : az_fr_of J az_jf) : az_ok J P az_tb ct_J9_max_7cf53_122 ∧ az_wfct ct_J9_max_7cf53_122 = true := az_chk_ok az_tb_ok hxa (az_dj_ok hJ (by decide)) az_fn ck_J9_max_7cf53_122
def ct_J9_min_7cf53_123 : az_Ct := (344, ([(0, 17183), (0, 1439)], [], [], []), [.inl ([(0, 1)], 0), .inl ([(1, 1)], 0)], [(([(0, 17183), (0, 1439), (0, 1439)], [([(2, (-1)), (0, 1)], 0), ([(2, (-1)), (1, 1)], 0)], [], []), some (.inl ([(2, 1)], 0)))], [], 0)
def cu_J9_min_7cf53_123 : List az_Cut := []
theorem ck_J9_min_7cf53_123 : az_chk az_tb [] ct_J9_min_7cf53_123 cu_J9_min_7cf53_123 az_inl az_spl [] 7 = true := by decide +kernel
theorem ok_J9_min_7cf53_123 {J : si_H → Prop} {P : si_P} (hxa : P.2.1 < P.1) (hJ : az_fr_of J az_jf) : az_ok J P az_tb ct_J9_min_7cf53_123 ∧ az_wfct ct_J9_min_7cf53_123 = true := az_chk_ok az_tb_ok hxa (az_dj_ok hJ (by decide)) az_fn ck_J9_min_7cf53_123
def ct_J9_max_7cf53_124 : az_Ct := (343, ([((-17160), (-1)), ((-1416), 1439)], [], [], []), [.inl ([(0, 1)], 0), .inl ([(1, 1)], 0)], [(([((-17160), (-1)), ((-1416), 1439), ((-1416), 1439)], [([(0, (-1)), (2, 1)], 0), ([(1, (-1)), (2, 1)], 0)], [], []), some (.inl ([(2, 1)], 0)))], [], 0)
def cu_J9_max_7cf53_124 : List az_Cut := []
theorem ck_J9_max_7cf53_124 : az_chk az_tb [] ct_J9_max_7cf53_124 cu_J9_max_7cf53_124 az_inl az_spl [] 7 = true := by decide +kernel
theorem ok_J9_max_7cf53_124 {J : si_H → Prop} {P : si_P} (hxa : P.2.1 < P.1) (hJ : az_fr_of J az_jf) : az_ok J P az_tb ct_J9_max_7cf53_124 ∧ az_wfct ct_J9_max_7cf53_124 = true := az_chk_ok az_tb_ok hxa (az_dj_ok hJ (by decide)) az_fn ck_J9_max_7cf53_124
def ct_X4_lowestAt_125 : az_Ct := (84, ([((-715), 59), ((-55), 59)], [], [], []), [.inr (.inr (.inl 1)), .inl ([(0, 1)], 0), .inl ([(1, 1)], 0)], [(([((-715), 59), ((-55), 59), ((-1416), 17183)], [], [], []), some (.inl ([(2, 1)], 0)))], [], 2)
def cu_X4_lowestAt_125 : List az_Cut := []
theorem ck_X4_lowestAt_125 : az_chk az_tb [ct_X4_lowest_119, ct_X4_lowest_121, ct_J9_max_7cf53_122, ct_J9_max_7cf53_124, ct_J9_min_7cf53_123] ct_X4_lowestAt_125 cu_X4_lowestAt_125 az_inl az_spl [] 20 = true := by decide +kernel
theorem ok_X4_lowestAt_125 {J : si_H → Prop} {P : si_P} (hxa : P.2.1 < P.1) (hJ : az_fr_of J az_jf) : az_ok J P az_tb ct_X4_lowestAt_125 ∧ az_wfct ct_X4_lowestAt_125 = true := az_chk_ok az_tb_ok hxa (az_dj_ok hJ (by decide)) (az_fc (ok_X4_lowest_119 hxa hJ) (az_fc (ok_X4_lowest_121 hxa hJ) (az_fc (ok_J9_max_7cf53_122 hxa hJ) (az_fc (ok_J9_max_7cf53_124 hxa hJ) (az_fc (ok_J9_min_7cf53_123 hxa hJ) az_fn))))) ck_X4_lowestAt_125
def ct_X6_mirrorOf_126 : az_Ct := (108, ([(0, 1439)], [], [], []), [.inr (.inr (.inl 3)), .inl ([(0, 1)], 0)], [(([(0, 1439), ((-1416), 17183)], [], [], []), some (.inl ([(1, 1)], 0)))], [], 3)
def cu_X6_mirrorOf_126 : List az_Cut := []
theorem ck_X6_mirrorOf_126 : az_chk az_tb [ct_X4_shortAt_112, ct_X4_longAt_110, ct_X4_mirrored_117, ct_X4_mirrored_116, ct_X4_lowestAt_125] ct_X6_mirrorOf_126 cu_X6_mirrorOf_126 az_inl az_spl [] 19 = true := by decide +kernel
theorem ok_X6_mirrorOf_126 {J : si_H → Prop} {P : si_P} (hxa : P.2.1 < P.1) (hJ : az_fr_of J az_jf) : az_ok J P az_tb ct_X6_mirrorOf_126 ∧ az_wfct ct_X6_mirrorOf_126 = true := az_chk_ok az_tb_ok hxa (az_dj_ok hJ (by decide)) (az_fc (ok_X4_shortAt_112 hxa hJ) (az_fc (ok_X4_longAt_110 hxa hJ) (az_fc (ok_X4_mirrored_117 hxa hJ) (az_fc (ok_X4_mirrored_116 hxa hJ) (az_fc (ok_X4_lowestAt_125 hxa hJ) az_fn))))) ck_X6_mirrorOf_126
def ct_X10_modulo_127 : az_Ct := (200, ([((-17257), 17975), (4, 60)], [], [], []), [.inl ([(0, 1)], 0), .inl ([(1, 1)], 0)], [(([((-17257), 17975), (4, 60), (0, 59)], [], [], []), some (.inl ([(2, 1)], 0)))], [], 0)
def cu_X10_modulo_127 : List az_Cut := []
theorem ck_X10_modulo_127 : az_chk az_tb [] ct_X10_modulo_127 cu_X10_modulo_127 az_inl az_spl [] 15 = true := by decide +kernel
theorem ok_X10_modulo_127 {J : si_H → Prop} {P : si_P} (hxa : P.2.1 < P.1) (hJ : az_fr_of J az_jf) : az_ok J P az_tb ct_X10_modulo_127 ∧ az_wfct ct_X10_modulo_127 = true := az_chk_ok az_tb_ok hxa (az_dj_ok hJ (by decide)) az_fn ck_X10_modulo_127
def ct_X4_lowest_128 : az_Ct := (83, ([((-1), 719), ((-1), 719)], [], [], []), [.inr (.inr (.inl 1)), .inl ([(0, 1)], 0), .inl ([(1, 1)], 0)], [(([((-1), 719), ((-1), 719), ((-17256), 17279)], [], [], []), some (.inl ([(2, 1)], 0)))], [], 1)
def cu_X4_lowest_128 : List az_Cut := []
theorem ck_X4_lowest_128 : az_chk az_tb [ct_X10_modulo_127] ct_X4_lowest_128 cu_X4_lowest_128 az_inl az_spl [] 24 = true := by decide +kernel
theorem ok_X4_lowest_128 {J : si_H → Prop} {P : si_P} (hxa : P.2.1 < P.1) (hJ : az_fr_of J az_jf) : az_ok J P az_tb ct_X4_lowest_128 ∧ az_wfct ct_X4_lowest_128 = true := az_chk_ok az_tb_ok hxa (az_dj_ok hJ (by decide)) (az_fc (ok_X10_modulo_127 hxa hJ) az_fn) ck_X4_lowest_128
def ct_X4_listOrdered_129 : az_Ct := (90, ([((-1), 719), ((-1), 719), (0, 12)], [], [], []), [.inr (.inr (.inl 1)), .inl ([(0, 1)], 0), .inl ([(1, 1)], 0), .inr (.inr (.inl 4)), .inl ([(2, 1)], 0)], [(([((-1), 719), ((-1), 719), (0, 12), (0, 12)], [([(3, (-1)), (2, (-1))], 12)], [], []), some (.inl ([(3, 1)], 0)))], [(4, 1000000)], 2)
def cu_X4_listOrdered_129 : List az_Cut := [(21, ([((-1), 719), ((-1), 719), (0, 12), ((-1), 719), ((-1), 719), (0, 12), ((-17256), 17339), (0, 17280), (2, 24), (0, 12)], [([(6, (-1)), (9, 1)], 17338), ([(9, (-1)), (6, 1)], 17256), ([(5, (-1)), (9, (-1))], 12), ([(2, (-1)), (5, 1)], 0), ([(1, (-1)), (4, 1)], 0), ([(0, (-1)), (3, 1)], 0), ([(5, (-1)), (2, 1)], 0), ([(4, (-1)), (1, 1)], 0), ([(3, (-1)), (0, 1)], 0)], [], [(1, ([], 1), ([(8, 1)], 0))]), [(0, .inr (.inr (.inl 1))), (1, .inl ([(3, 1)], 0)), (2, .inl ([(4, 1)], 0)), (3, .inr (.inr (.inl 4))), (4, .inl ([(5, 1)], 0)), (5, .inl ([(9, 1)], 0)), (6, .inl ([(6, 1)], 0)), (7, .inl ([(7, 1)], 0))], [], ([(9, (-1))], 12))]
theorem ck_X4_listOrdered_129 : az_chk az_tb [ct_X4_lowest_128] ct_X4_listOrdered_129 cu_X4_listOrdered_129 az_inl az_spl [(4, 1000000)] 26 = true := by decide +kernel
theorem ok_X4_listOrdered_129 {J : si_H → Prop} {P : si_P} (hxa : P.2.1 < P.1) (hJ : az_fr_of J az_jf) : az_ok J P az_tb ct_X4_listOrdered_129 ∧ az_wfct ct_X4_listOrdered_129 = true := az_chk_ok az_tb_ok hxa (az_dj_ok hJ (by decide)) (az_fc (ok_X4_lowest_128 hxa hJ) az_fn) ck_X4_listOrdered_129
def ct_X4_list_130 : az_Ct := (89, ([((-1), 719), ((-1), 719), (0, 0)], [], [], []), [.inr (.inr (.inl 1)), .inl ([(0, 1)], 0), .inl ([(1, 1)], 0), .inr (.inr (.inl 4)), .inl ([(2, 1)], 0)], [(([((-1), 719), ((-1), 719), (0, 0), (0, 12)], [([(3, (-1)), (2, (-1))], 12)], [], []), some (.inl ([(3, 1)], 0)))], [(4, 1000000)], 3)
def cu_X4_list_130 : List az_Cut := []
theorem ck_X4_list_130 : az_chk az_tb [ct_X4_listOrdered_129] ct_X4_list_130 cu_X4_list_130 az_inl az_spl [] 24 = true := by decide +kernel
theorem ok_X4_list_130 {J : si_H → Prop} {P : si_P} (hxa : P.2.1 < P.1) (hJ : az_fr_of J az_jf) : az_ok J P az_tb ct_X4_list_130 ∧ az_wfct ct_X4_list_130 = true := az_chk_ok az_tb_ok hxa (az_dj_ok hJ (by decide)) (az_fc (ok_X4_listOrdered_129 hxa hJ) az_fn) ck_X4_list_130
def ct_X6_listAlikes_131 : az_Ct := (106, ([(0, 1439)], [], [], []), [.inr (.inr (.inl 3)), .inl ([(0, 1)], 0)], [(([(0, 1439), (0, 12)], [], [], []), some (.inl ([(1, 1)], 0)))], [(4, 1000000)], 4)
def cu_X6_listAlikes_131 : List az_Cut := []
theorem ck_X6_listAlikes_131 : az_chk az_tb [ct_X4_shortAt_112, ct_X4_longAt_110, ct_X4_list_130] ct_X6_listAlikes_131 cu_X6_listAlikes_131 az_inl az_spl [] 16 = true := by decide +kernel
theorem ok_X6_listAlikes_131 {J : si_H → Prop} {P : si_P} (hxa : P.2.1 < P.1) (hJ : az_fr_of J az_jf) : az_ok J P az_tb ct_X6_listAlikes_131 ∧ az_wfct ct_X6_listAlikes_131 = true := az_chk_ok az_tb_ok hxa (az_dj_ok hJ (by decide)) (az_fc (ok_X4_shortAt_112 hxa hJ) (az_fc (ok_X4_longAt_110 hxa hJ) (az_fc (ok_X4_list_130 hxa hJ) az_fn))) ck_X6_listAlikes_131
def ct_X10_modulo_132 : az_Ct := (200, ([((-1440), 19999), (8, 1440)], [], [], []), [.inl ([(0, 1)], 0), .inl ([(1, 1)], 0)], [(([((-1440), 19999), (8, 1440), (0, 1439)], [], [], []), some (.inl ([(2, 1)], 0)))], [], 0)
def cu_X10_modulo_132 : List az_Cut := []
theorem ck_X10_modulo_132 : az_chk az_tb [] ct_X10_modulo_132 cu_X10_modulo_132 az_inl az_spl [] 15 = true := by decide +kernel
theorem ok_X10_modulo_132 {J : si_H → Prop} {P : si_P} (hxa : P.2.1 < P.1) (hJ : az_fr_of J az_jf) : az_ok J P az_tb ct_X10_modulo_132 ∧ az_wfct ct_X10_modulo_132 = true := az_chk_ok az_tb_ok hxa (az_dj_ok hJ (by decide)) az_fn ck_X10_modulo_132
def ct_X4_around_133 : az_Ct := (75, ([((-1440), 19999)], [], [], []), [.inr (.inr (.inl 1)), .inl ([(0, 1)], 0)], [(([((-1440), 19999), (0, 1439)], [], [], []), some (.inl ([(1, 1)], 0)))], [], 1)
def cu_X4_around_133 : List az_Cut := []
theorem ck_X4_around_133 : az_chk az_tb [ct_X10_modulo_132] ct_X4_around_133 cu_X4_around_133 az_inl az_spl [] 9 = true := by decide +kernel
theorem ok_X4_around_133 {J : si_H → Prop} {P : si_P} (hxa : P.2.1 < P.1) (hJ : az_fr_of J az_jf) : az_ok J P az_tb ct_X4_around_133 ∧ az_wfct ct_X4_around_133 = true := az_chk_ok az_tb_ok hxa (az_dj_ok hJ (by decide)) (az_fc (ok_X10_modulo_132 hxa hJ) az_fn) ck_X4_around_133
def ct_J9_min_7cf53_134 : az_Ct := (344, ([(1, 1440), (1, 1440)], [], [], []), [.inl ([(0, 1)], 0), .inl ([(1, 1)], 0)], [(([(1, 1440), (1, 1440), (1, 1440)], [([(2, (-1)), (0, 1)], 0), ([(2, (-1)), (1, 1)], 0)], [], []), some (.inl ([(2, 1)], 0)))], [], 0)
def cu_J9_min_7cf53_134 : List az_Cut := []
theorem ck_J9_min_7cf53_134 : az_chk az_tb [] ct_J9_min_7cf53_134 cu_J9_min_7cf53_134 az_inl az_spl [] 7 = true := by decide +kernel
theorem ok_J9_min_7cf53_134 {J : si_H → Prop} {P : si_P} (hxa : P.2.1 < P.1) (hJ : az_fr_of J az_jf) : az_ok J P az_tb ct_J9_min_7cf53_134 ∧ az_wfct ct_J9_min_7cf53_134 = true := az_chk_ok az_tb_ok hxa (az_dj_ok hJ (by decide)) az_fn ck_J9_min_7cf53_134
def ct_X10_modulo_135 : az_Ct := (200, ([(1, 2879), (8, 1440)], [], [], []), [.inl ([(0, 1)], 0), .inl ([(1, 1)], 0)], [(([(1, 2879), (8, 1440), (0, 1439)], [], [], []), some (.inl ([(2, 1)], 0)))], [], 0)
def cu_X10_modulo_135 : List az_Cut := []
theorem ck_X10_modulo_135 : az_chk az_tb [] ct_X10_modulo_135 cu_X10_modulo_135 az_inl az_spl [] 12 = true := by decide +kernel
theorem ok_X10_modulo_135 {J : si_H → Prop} {P : si_P} (hxa : P.2.1 < P.1) (hJ : az_fr_of J az_jf) : az_ok J P az_tb ct_X10_modulo_135 ∧ az_wfct ct_X10_modulo_135 = true := az_chk_ok az_tb_ok hxa (az_dj_ok hJ (by decide)) az_fn ck_X10_modulo_135
def ct_X4_around_136 : az_Ct := (75, ([(1, 2879)], [], [], []), [.inr (.inr (.inl 1)), .inl ([(0, 1)], 0)], [(([(1, 2879), (0, 1439)], [], [], []), some (.inl ([(1, 1)], 0)))], [], 1)
def cu_X4_around_136 : List az_Cut := []
theorem ck_X4_around_136 : az_chk az_tb [ct_X10_modulo_135] ct_X4_around_136 cu_X4_around_136 az_inl az_spl [] 9 = true := by decide +kernel
theorem ok_X4_around_136 {J : si_H → Prop} {P : si_P} (hxa : P.2.1 < P.1) (hJ : az_fr_of J az_jf) : az_ok J P az_tb ct_X4_around_136 ∧ az_wfct ct_X4_around_136 = true := az_chk_ok az_tb_ok hxa (az_dj_ok hJ (by decide)) (az_fc (ok_X10_modulo_135 hxa hJ) az_fn) ck_X4_around_136
def ct_X6_nextAlike_137 : az_Ct := (107, ([(0, 1439)], [], [], []), [.inr (.inr (.inl 3)), .inl ([(0, 1)], 0)], [(([(0, 1439), (0, 1439)], [], [], []), some (.inl ([(1, 1)], 0)))], [(4, 1000000)], 5)
def cu_X6_nextAlike_137 : List az_Cut := [(17, ([(0, 1439), (0, 1439), (0, 12), (1, 1440), (4, 60), (2, 24), (0, 12)], [([(6, (-1)), (2, 1)], 0), ([(0, (-1)), (1, 1)], 0), ([(1, (-1)), (0, 1)], 0)], [], [(1, ([], 0), ([(4, 1)], 0)), (1, ([], 1), ([(5, 1)], 0))]), [(0, .inr (.inr (.inl 3))), (1, .inl ([(1, 1)], 0)), (2, .inl ([(2, 1)], 0)), (3, .inl ([(3, 1)], 0)), (4, .inl ([(6, 1)], 0))], [], ([(6, (-1))], 12))]
theorem ck_X6_nextAlike_137 : az_chk az_tb [ct_X4_around_136, ct_X4_around_133, ct_X6_listAlikes_131, ct_J9_min_7cf53_134] ct_X6_nextAlike_137 cu_X6_nextAlike_137 az_inl az_spl [] 23 = true := by decide +kernel
theorem ok_X6_nextAlike_137 {J : si_H → Prop} {P : si_P} (hxa : P.2.1 < P.1) (hJ : az_fr_of J az_jf) : az_ok J P az_tb ct_X6_nextAlike_137 ∧ az_wfct ct_X6_nextAlike_137 = true := az_chk_ok az_tb_ok hxa (az_dj_ok hJ (by decide)) (az_fc (ok_X4_around_136 hxa hJ) (az_fc (ok_X4_around_133 hxa hJ) (az_fc (ok_X6_listAlikes_131 hxa hJ) (az_fc (ok_J9_min_7cf53_134 hxa hJ) az_fn)))) ck_X6_nextAlike_137
def ct_X10_modulo_138 : az_Ct := (200, ([((-17256), 59), (4, 60)], [], [], []), [.inl ([(0, 1)], 0), .inl ([(1, 1)], 0)], [(([((-17256), 59), (4, 60), (0, 59)], [], [], []), some (.inl ([(2, 1)], 0)))], [], 0)
def cu_X10_modulo_138 : List az_Cut := []
theorem ck_X10_modulo_138 : az_chk az_tb [] ct_X10_modulo_138 cu_X10_modulo_138 az_inl az_spl [] 15 = true := by decide +kernel
theorem ok_X10_modulo_138 {J : si_H → Prop} {P : si_P} (hxa : P.2.1 < P.1) (hJ : az_fr_of J az_jf) : az_ok J P az_tb ct_X10_modulo_138 ∧ az_wfct ct_X10_modulo_138 = true := az_chk_ok az_tb_ok hxa (az_dj_ok hJ (by decide)) az_fn ck_X10_modulo_138
def ct_X4_lowest_139 : az_Ct := (83, ([(0, 719), (0, 59)], [], [], []), [.inr (.inr (.inl 1)), .inl ([(0, 1)], 0), .inl ([(1, 1)], 0)], [(([(0, 719), (0, 59), ((-2), 17279)], [], [], []), some (.inl ([(2, 1)], 0)))], [], 1)
def cu_X4_lowest_139 : List az_Cut := []
theorem ck_X4_lowest_139 : az_chk az_tb [ct_X10_modulo_138] ct_X4_lowest_139 cu_X4_lowest_139 az_inl az_spl [] 24 = true := by decide +kernel
theorem ok_X4_lowest_139 {J : si_H → Prop} {P : si_P} (hxa : P.2.1 < P.1) (hJ : az_fr_of J az_jf) : az_ok J P az_tb ct_X4_lowest_139 ∧ az_wfct ct_X4_lowest_139 = true := az_chk_ok az_tb_ok hxa (az_dj_ok hJ (by decide)) (az_fc (ok_X10_modulo_138 hxa hJ) az_fn) ck_X4_lowest_139
def ct_X10_through_140 : az_Ct := (199, ([((-17278), 17279), (4, 60)], [], [], []), [.inl ([(0, 1)], 0), .inl ([(1, 1)], 0)], [(([((-17278), 17279), (4, 60), ((-2147483648), 2147483647)], [], [], []), some (.inl ([(2, 1)], 0)))], [], 0)
def cu_X10_through_140 : List az_Cut := []
theorem ck_X10_through_140 : az_chk az_tb [] ct_X10_through_140 cu_X10_through_140 az_inl az_spl [] 8 = true := by decide +kernel
theorem ok_X10_through_140 {J : si_H → Prop} {P : si_P} (hxa : P.2.1 < P.1) (hJ : az_fr_of J az_jf) : az_ok J P az_tb ct_X10_through_140 ∧ az_wfct ct_X10_through_140 = true := az_chk_ok az_tb_ok hxa (az_dj_ok hJ (by decide)) az_fn ck_X10_through_140
def ct_X4_manyAt_141 : az_Ct := (85, ([(0, 719), (0, 59)], [], [], []), [.inr (.inr (.inl 1)), .inl ([(0, 1)], 0), .inl ([(1, 1)], 0)], [(([(0, 719), (0, 59), ((-2147483648), 2147483647)], [], [], []), some (.inl ([(2, 1)], 0)))], [], 2)
def cu_X4_manyAt_141 : List az_Cut := []
theorem ck_X4_manyAt_141 : az_chk az_tb [ct_X4_lowest_139, ct_X10_through_140] ct_X4_manyAt_141 cu_X4_manyAt_141 az_inl az_spl [] 26 = true := by decide +kernel
theorem ok_X4_manyAt_141 {J : si_H → Prop} {P : si_P} (hxa : P.2.1 < P.1) (hJ : az_fr_of J az_jf) : az_ok J P az_tb ct_X4_manyAt_141 ∧ az_wfct ct_X4_manyAt_141 = true := az_chk_ok az_tb_ok hxa (az_dj_ok hJ (by decide)) (az_fc (ok_X4_lowest_139 hxa hJ) (az_fc (ok_X10_through_140 hxa hJ) az_fn)) ck_X4_manyAt_141
def ct_X10_modulo_142 : az_Ct := (200, ([((-1416), 719), (4, 60)], [], [], []), [.inl ([(0, 1)], 0), .inl ([(1, 1)], 0)], [(([((-1416), 719), (4, 60), (0, 59)], [], [], []), some (.inl ([(2, 1)], 0)))], [], 0)
def cu_X10_modulo_142 : List az_Cut := []
theorem ck_X10_modulo_142 : az_chk az_tb [] ct_X10_modulo_142 cu_X10_modulo_142 az_inl az_spl [] 15 = true := by decide +kernel
theorem ok_X10_modulo_142 {J : si_H → Prop} {P : si_P} (hxa : P.2.1 < P.1) (hJ : az_fr_of J az_jf) : az_ok J P az_tb ct_X10_modulo_142 ∧ az_wfct ct_X10_modulo_142 = true := az_chk_ok az_tb_ok hxa (az_dj_ok hJ (by decide)) az_fn ck_X10_modulo_142
def ct_X4_lowest_143 : az_Ct := (83, ([(0, 59), (0, 719)], [], [], []), [.inr (.inr (.inl 1)), .inl ([(0, 1)], 0), .inl ([(1, 1)], 0)], [(([(0, 59), (0, 719), ((-2), 1439)], [], [], []), some (.inl ([(2, 1)], 0)))], [], 1)
def cu_X4_lowest_143 : List az_Cut := []
theorem ck_X4_lowest_143 : az_chk az_tb [ct_X10_modulo_142] ct_X4_lowest_143 cu_X4_lowest_143 az_inl az_spl [] 24 = true := by decide +kernel
theorem ok_X4_lowest_143 {J : si_H → Prop} {P : si_P} (hxa : P.2.1 < P.1) (hJ : az_fr_of J az_jf) : az_ok J P az_tb ct_X4_lowest_143 ∧ az_wfct ct_X4_lowest_143 = true := az_chk_ok az_tb_ok hxa (az_dj_ok hJ (by decide)) (az_fc (ok_X10_modulo_142 hxa hJ) az_fn) ck_X4_lowest_143
