set_option maxRecDepth 100000
theorem rp_ok {P : si_P} {d : Nat} {h : si_H} (hH : az_HI P az_tb h) {n p : Int} {hh : Int → Int} (hn : 1 ≤ n ∧ n ≤ 240) (e8 : ja h 60 18 = n) (e7 : ja h 60 17 = p) (hb : jBR h n hh) (hh1 : ∀ i : Int, hh i ≤ 255) (hm : 0 ≤ ja h 60 46 ∧ ja h 60 46 ≤ 16) (hy : ja h 60 9 ≤ 1440) : az_X P (d + 4) 270 0 (lv_args 0 [.ref (P.1 + 60)]) [] h (fun rv h' => ∃ z : Int32, rv = some (.int z) ∧ az_HI P az_tb h' ∧ az_same_out [(60, 17), (60, 19), (60, 20), (60, 46), (87, 1000000), (88, 1000000), (89, 1000000), (90, 1000000)] h h' ∧ ((¬ (97 ≤ hh p ∧ hh p ≤ 104) ∧ z.toInt = 0 ∧ ja h' 60 19 = -1000 - p) ∨ ((97 ≤ hh p ∧ hh p ≤ 104) ∧ ja h 60 46 = 16 ∧ z.toInt = 0 ∧ ja h' 60 19 = -4000 - p) ∨ ((97 ≤ hh p ∧ hh p ≤ 104) ∧ ja h 60 46 ≠ 16 ∧ ∃ f q : Int, jAP hh (ja h 60 9) (p + 1) (hh p - 97) f q ∧ ((f ≠ 0 ∧ z.toInt = 0 ∧ ja h' 60 19 = f) ∨ (f = 0 ∧ z.toInt = 1 ∧ ja h' 60 17 = q ∧ ja h' 60 46 = ja h 60 46 + 1))))) := by
  have bp : 0 ≤ ja h 60 17 ∧ ja h 60 17 ≤ 240 := ja_bd hH (i := 60) (k := 17) rfl
  have hbp := jBR_bd hb (p := p) (by omega)
  have hl : jM [(0, .ref (P.1 + 60))] (lv_args 0 [.ref (P.1 + 60)]) := jM_args [0] rfl (by decide)
  generalize lv_args 0 [.ref (P.1 + 60)] = ls at hl
  have k0 : (0 : Int32).toInt = 0 := by decide
  have k1 : (1 : Int32).toInt = 1 := by decide
  have k2 : (2 : Int32).toInt = 2 := by decide
  have k4 : (4 : Int32).toInt = 4 := by decide
  have k6 : (6 : Int32).toInt = 6 := by decide
  have k7 : (7 : Int32).toInt = 7 := by decide
  have k16 : (16 : Int32).toInt = 16 := by decide
  have k58 : (58 : Int32).toInt = 58 := by decide
  have k97 : (97 : Int32).toInt = 97 := by decide
  refine jm_aload_n (x := P.1 + 60) rfl rfl (jM_at hl 0 rfl) ?_
  refine az_X_call (m' := 240) (as := [.ref (P.1 + 60)]) (rest := []) rfl rfl rfl rfl rfl ?_ ?_
  · unfold si_call
    dsimp only
    rw [if_pos ⟨rfl, rfl⟩]
    show (match si_ix P h (P.1 + 60) with | some i => _ | none => none) = _
    rw [jix hH (by decide)]
    dsimp only
    rw [(hH.2 60 _ rfl).1]
    rfl
  refine (rh_ok hH hn e8 e7 hb).mono ?_
  rintro rv1 h1 ⟨q1, z1, rfl, ez1⟩
  subst h1
  show az_X P _ 270 4 ls [.int z1] _ _
  refine az_X_step (pc' := 6) (ls' := ls) (st' := [.int 97, .int z1]) (h' := h) rfl rfl rfl ?_
  refine jn_sub (a := z1) (b := 97) rfl rfl (by omega) (by omega) (fun z6 ez6 => ?_)
  rw [show (97 : Int32).toInt = 97 by decide] at ez6
  refine jm_istore_n (l' := [(1, .int z6), (0, .ref (P.1 + 60))]) rfl rfl (by decide) hl rfl rfl (fun ls7 hl7 => ?_)
  refine jm_iload_n (x := z6) rfl rfl (jM_at hl7 0 rfl) ?_
  refine az_X_step (pc' := 10) (ls' := ls7) (st' := [.int 0, .int z6]) (h' := h) rfl rfl rfl ?_
  refine az_X_step (pc' := 12) (ls' := ls7) (st' := [.int 7, .int 0, .int z6]) (h' := h) rfl rfl rfl ?_
  refine az_X_call (m' := 202) (as := [.int z6, .int 0, .int 7]) (rest := []) rfl rfl rfl rfl rfl rfl ?_
  refine (rin_ok z6 0 7).mono ?_
  rintro rv12 h12 ⟨q12, z12, rfl, ez12⟩
  subst h12
  show az_X P _ 270 15 ls7 [.int z12] _ _
  refine jx_if (t := 28) rfl rfl rfl (fun hc15 => ?_) (fun hc15 => ?_)
  · have g15 := jc1_ne_t hc15
    have lett : (97 ≤ hh p ∧ hh p ≤ 104) ∧ z6.toInt = hh p - 97 := by
      rcases ez12 with ⟨-, a, b⟩ | ⟨a, -⟩
      · exact ⟨by omega, by omega⟩
      · exact absurd a g15
    
    refine jm_aload_n (x := P.1 + 60) rfl rfl (jM_at hl7 1 rfl) ?_
    refine jn_gf (i := 60) (k := 46) rfl rfl hH (by decide) (hH.2 60 _ rfl).1 rfl rfl (fun z29 (ez29 : z29.toInt = ja h 60 46) (bz29 : 0 ≤ z29.toInt ∧ z29.toInt ≤ 16) => ?_)
    refine az_X_step (pc' := 34) (ls' := ls7) (st' := [.int 16, .int z29]) (h' := h) rfl rfl rfl ?_
    refine jx_ic (t := 47) rfl rfl rfl (fun hc34 => ?_) (fun hc34 => ?_)
    · have g34 := jc2_ne_t hc34
      have hpn := jBR_lt hb (p := p) (by omega)
      refine jm_aload_n (x := P.1 + 60) rfl rfl (jM_at hl7 1 rfl) ?_
      refine jm_aload_n (x := P.1 + 60) rfl rfl (jM_at hl7 1 rfl) ?_
      refine jn_gf (i := 60) (k := 17) rfl rfl hH (by decide) (hH.2 60 _ rfl).1 rfl rfl (fun z49 (ez49 : z49.toInt = ja h 60 17) (bz49 : 0 ≤ z49.toInt ∧ z49.toInt ≤ 240) => ?_)
      refine az_X_step (pc' := 53) (ls' := ls7) (st' := [.int 1, .int z49, .ref (P.1 + 60)]) (h' := h) rfl rfl rfl ?_
      refine jn_add (a := z49) (b := 1) rfl rfl (by omega) (by omega) (fun z53 ez53 => ?_)
      rw [show (1 : Int32).toInt = 1 by decide] at ez53
      refine jn_pf (i := 60) (k := 17) (x := z53) rfl rfl hH (by decide) rfl (hH.2 60 _ rfl).1 rfl rfl (by decide) (by decide) (by show 0 ≤ _; omega) (by show _ ≤ 240; omega) (fun h54 hH54 hs54 (t54 : ja h54 60 17 = z53.toInt) => ?_)
      have e53 : z53.toInt = p + 1 := by omega
      refine jm_aload_n (x := P.1 + 60) rfl rfl (jM_at hl7 1 rfl) ?_
      refine az_X_call (m' := 240) (as := [.ref (P.1 + 60)]) (rest := []) rfl rfl rfl rfl rfl ?_ ?_
      · unfold si_call
        dsimp only
        rw [if_pos ⟨rfl, rfl⟩]
        show (match si_ix P h54 (P.1 + 60) with | some i => _ | none => none) = _
        rw [jix hH54 (by decide)]
        dsimp only
        rw [(hH54.2 60 _ rfl).1]
        rfl
      refine (rh_ok hH54 hn ((jso hs54 (by decide)).trans e8) rfl (jBR_so hs54 (by decide) hb)).mono ?_
      rintro rv58 h58 ⟨q58, z58, rfl, ez58⟩
      subst h58
      show az_X P _ 270 61 ls7 [.int z58] _ _
      refine az_X_step (pc' := 63) (ls' := ls7) (st' := [.int 97, .int z58]) (h' := h54) rfl rfl rfl ?_
      have hb58 := jBR_bd (jBR_so hs54 (by decide) hb) (p := ja h54 60 17) (by omega)
      refine jn_sub (a := z58) (b := 97) rfl rfl (by omega) (by omega) (fun z63 ez63 => ?_)
      rw [show (97 : Int32).toInt = 97 by decide] at ez63
      refine jm_istore_n (l' := [(2, .int z63), (1, .int z6), (0, .ref (P.1 + 60))]) rfl rfl (by decide) hl7 rfl rfl (fun ls64 hl64 => ?_)
      refine jm_iload_n (x := z63) rfl rfl (jM_at hl64 0 rfl) ?_
      refine az_X_step (pc' := 67) (ls' := ls64) (st' := [.int 0, .int z63]) (h' := h54) rfl rfl rfl ?_
      refine az_X_step (pc' := 69) (ls' := ls64) (st' := [.int 7, .int 0, .int z63]) (h' := h54) rfl rfl rfl ?_
      refine az_X_call (m' := 202) (as := [.int z63, .int 0, .int 7]) (rest := []) rfl rfl rfl rfl rfl rfl ?_
      refine (rin_ok z63 0 7).mono ?_
      rintro rv69 h69 ⟨q69, z69, rfl, ez69⟩
      subst h69
      show az_X P _ 270 72 ls64 [.int z69] _ _
      refine jx_if (t := 85) rfl rfl rfl (fun hc72 => ?_) (fun hc72 => ?_)
      · have g72 := jc1_ne_t hc72
        refine jm_iload_n (x := z63) rfl rfl (jM_at hl64 0 rfl) ?_
        refine jm_iload_n (x := z6) rfl rfl (jM_at hl64 1 rfl) ?_
        refine jx_ic (t := 101) rfl rfl rfl (fun hc87 => ?_) (fun hc87 => ?_)
        · have g87 := jc2_ne_t hc87
          have hpn2 := jBR_lt hb (p := p + 1) (by
            rw [t54, e53] at ez58
            rcases ez69 with ⟨-, a, b⟩ | ⟨a, -⟩
            · omega
            · exact absurd a g72)
          have z63b : 0 ≤ z63.toInt ∧ z63.toInt ≤ 7 := by
            rcases ez69 with ⟨-, a, b⟩ | ⟨a, -⟩
            · omega
            · exact absurd a g72
          refine jm_aload_n (x := P.1 + 60) rfl rfl (jM_at hl64 2 rfl) ?_
          refine jm_aload_n (x := P.1 + 60) rfl rfl (jM_at hl64 2 rfl) ?_
          refine jn_gf (i := 60) (k := 17) rfl rfl hH54 (by decide) (hH54.2 60 _ rfl).1 rfl rfl (fun z103 (ez103 : z103.toInt = ja h54 60 17) (bz103 : 0 ≤ z103.toInt ∧ z103.toInt ≤ 240) => ?_)
          replace ez103 : z103.toInt = z53.toInt := ez103.trans t54
          refine az_X_step (pc' := 107) (ls' := ls64) (st' := [.int 1, .int z103, .ref (P.1 + 60)]) (h' := h54) rfl rfl rfl ?_
          refine jn_add (a := z103) (b := 1) rfl rfl (by omega) (by omega) (fun z107 ez107 => ?_)
          rw [show (1 : Int32).toInt = 1 by decide] at ez107
          refine jn_pf (i := 60) (k := 17) (x := z107) rfl rfl hH54 (by decide) rfl (hH54.2 60 _ rfl).1 rfl rfl (by decide) (by decide) (by show 0 ≤ _; omega) (by show _ ≤ 240; omega) (fun h108 hH108 hs108 (t108 : ja h108 60 17 = z107.toInt) => ?_)
          refine jm_aload_n (x := P.1 + 60) rfl rfl (jM_at hl64 2 rfl) ?_
          refine az_X_call (m' := 267) (as := [.ref (P.1 + 60)]) (rest := []) rfl rfl rfl rfl rfl ?_ ?_
          · unfold si_call
            dsimp only
            rw [if_pos ⟨rfl, rfl⟩]
            show (match si_ix P h108 (P.1 + 60) with | some i => _ | none => none) = _
            rw [jix hH108 (by decide)]
            dsimp only
            rw [(hH108.2 60 _ rfl).1]
            rfl
          refine (ri_ok hH108 hn (((jso hs108 (by decide)).trans (jso hs54 (by decide))).trans e8) (t108.trans (show _ = p + 1 + 1 by omega)) (jBR_so hs108 (by decide) (jBR_so hs54 (by decide) hb)) hh1).mono ?_
          rintro rv112 h112 ⟨z112, rfl, hH112, hs112, f112⟩
          show az_X P _ 270 115 ls64 [.int z112] _ _
          have r9 : ja h108 60 9 = ja h 60 9 := (jso hs108 (by decide)).trans (jso hs54 (by decide))
          refine jx_if (t := 120) rfl rfl rfl (fun hc115 => ?_) (fun hc115 => ?_)
          · have g115 := jc1_ne_t hc115
            refine jm_aload_n (x := P.1 + 60) rfl rfl (jM_at hl64 2 rfl) ?_
            refine jx_gf (i := 60) rfl rfl hH112 (by decide) (hH112.2 60 _ rfl).1 rfl (jx_rf hH112 rfl rfl) ?_
            refine jm_aload_n (x := P.1 + 60) rfl rfl (jM_at hl64 2 rfl) ?_
            refine jn_gf (i := 60) (k := 46) rfl rfl hH112 (by decide) (hH112.2 60 _ rfl).1 rfl rfl (fun z125 (ez125 : z125.toInt = ja h112 60 46) (bz125 : 0 ≤ z125.toInt ∧ z125.toInt ≤ 16) => ?_)
            replace ez125 : z125.toInt = ja h 60 46 := ez125.trans ((jso hs112 (by decide)).trans ((jso hs108 (by decide)).trans (jso hs54 (by decide))))
            refine jm_iload_n (x := z6) rfl rfl (jM_at hl64 1 rfl) ?_
            refine jn_ias (i := 87) (x := z125) (v := z6) rfl rfl hH112 (by decide) rfl (by omega) (by show _ < ((16 : Nat) : Int); omega) (by show 0 ≤ _; omega) (by show _ ≤ 7; omega) (fun h129 hH129 hs129 t129 u129 => ?_)
            refine jm_aload_n (x := P.1 + 60) rfl rfl (jM_at hl64 2 rfl) ?_
            refine jx_gf (i := 60) rfl rfl hH129 (by decide) (hH129.2 60 _ rfl).1 rfl (jx_rf hH129 rfl rfl) ?_
            refine jm_aload_n (x := P.1 + 60) rfl rfl (jM_at hl64 2 rfl) ?_
            refine jn_gf (i := 60) (k := 46) rfl rfl hH129 (by decide) (hH129.2 60 _ rfl).1 rfl rfl (fun z135 (ez135 : z135.toInt = ja h129 60 46) (bz135 : 0 ≤ z135.toInt ∧ z135.toInt ≤ 16) => ?_)
            replace ez135 : z135.toInt = ja h 60 46 := ez135.trans ((jso hs129 (by decide)).trans ((jso hs112 (by decide)).trans ((jso hs108 (by decide)).trans (jso hs54 (by decide)))))
            refine jm_iload_n (x := z63) rfl rfl (jM_at hl64 0 rfl) ?_
            refine jn_ias (i := 88) (x := z135) (v := z63) rfl rfl hH129 (by decide) rfl (by omega) (by show _ < ((16 : Nat) : Int); omega) (by show 0 ≤ _; omega) (by show _ ≤ 7; omega) (fun h139 hH139 hs139 t139 u139 => ?_)
            refine jm_aload_n (x := P.1 + 60) rfl rfl (jM_at hl64 2 rfl) ?_
            refine jx_gf (i := 60) rfl rfl hH139 (by decide) (hH139.2 60 _ rfl).1 rfl (jx_rf hH139 rfl rfl) ?_
            refine jm_aload_n (x := P.1 + 60) rfl rfl (jM_at hl64 2 rfl) ?_
            refine jn_gf (i := 60) (k := 46) rfl rfl hH139 (by decide) (hH139.2 60 _ rfl).1 rfl rfl (fun z145 (ez145 : z145.toInt = ja h139 60 46) (bz145 : 0 ≤ z145.toInt ∧ z145.toInt ≤ 16) => ?_)
            replace ez145 : z145.toInt = ja h 60 46 := ez145.trans ((jso hs139 (by decide)).trans ((jso hs129 (by decide)).trans ((jso hs112 (by decide)).trans ((jso hs108 (by decide)).trans (jso hs54 (by decide))))))
            refine jm_aload_n (x := P.1 + 60) rfl rfl (jM_at hl64 2 rfl) ?_
            refine jn_gf (i := 60) (k := 20) rfl rfl hH139 (by decide) (hH139.2 60 _ rfl).1 rfl rfl (fun z149 (ez149 : z149.toInt = ja h139 60 20) (bz149 : 0 ≤ z149.toInt ∧ z149.toInt ≤ 99999) => ?_)
            replace ez149 : z149.toInt = ja h112 60 20 := ez149.trans ((jso hs139 (by decide)).trans (jso hs129 (by decide)))
            have b149 : 0 ≤ z149.toInt ∧ z149.toInt ≤ 1439 := by
              obtain ⟨ft, qt, vt, w1, w2⟩ := f112
              rw [r9] at w1
              rcases w2 with ⟨w3, w4, w5, w6⟩ | ⟨-, w4, -⟩
              · subst w3
                have := jTI_q (by omega) w1
                omega
              · exact absurd w4 g115
            refine jn_ias (i := 89) (x := z145) (v := z149) rfl rfl hH139 (by decide) rfl (by omega) (by show _ < ((16 : Nat) : Int); omega) (by show 0 ≤ _; omega) (by show _ ≤ 1439; omega) (fun h152 hH152 hs152 t152 u152 => ?_)
            refine jm_aload_n (x := P.1 + 60) rfl rfl (jM_at hl64 2 rfl) ?_
            refine az_X_step (pc' := 156) (ls' := ls64) (st' := [.int 58, .ref (P.1 + 60)]) (h' := h152) rfl rfl rfl ?_
            refine az_X_call (m' := 243) (as := [.ref (P.1 + 60), .int 58]) (rest := []) rfl rfl rfl rfl rfl ?_ ?_
            · unfold si_call
              dsimp only
              rw [if_pos ⟨rfl, rfl⟩]
              show (match si_ix P h152 (P.1 + 60) with | some i => _ | none => none) = _
              rw [jix hH152 (by decide)]
              dsimp only
              rw [(hH152.2 60 _ rfl).1]
              rfl
            refine (rt_ok hH152 hn (((jso hs152 (by decide)).trans ((jso hs139 (by decide)).trans ((jso hs129 (by decide)).trans ((jso hs112 (by decide)).trans ((jso hs108 (by decide)).trans (jso hs54 (by decide))))))).trans e8) rfl (jBR_so hs152 (by decide) (jBR_so hs139 (by decide) (jBR_so hs129 (by decide) (jBR_so hs112 (by decide) (jBR_so hs108 (by decide) (jBR_so hs54 (by decide) hb)))))) 58 (by decide)).mono ?_
            rintro rv156 h156 ⟨z156, rfl, hH156, hs156, f156⟩
            show az_X P _ 270 159 ls64 [.int z156] _ _
            refine jx_if (t := 170) rfl rfl rfl (fun hc159 => ?_) (fun hc159 => ?_)
            · have g159 := jc1_eq_t hc159
              refine az_X_step (pc' := 171) (ls' := ls64) (st' := [.int 0]) (h' := h156) rfl rfl rfl ?_
              refine jx_retz rfl rfl rfl (by decide) ?_
              have lett2 : (97 ≤ hh (p + 1) ∧ hh (p + 1) ≤ 104) ∧ z63.toInt = hh (p + 1) - 97 := by
                rw [t54, e53] at ez58
                rcases ez69 with ⟨-, a, b⟩ | ⟨a, -⟩
                · exact ⟨by omega, by omega⟩
                · exact absurd a g72
              obtain ⟨ft, qt, vt, w1, w2⟩ := f112
              rw [r9] at w1
              rw [show p + 1 + 1 = p + 1 + 1 from rfl] at w1
              rcases w2 with ⟨w3, w4, w5, w6⟩ | ⟨-, w4, -⟩
              · subst w3
                have p152 : ja h152 60 17 = qt := (jso hs152 (by decide)).trans ((jso hs139 (by decide)).trans ((jso hs129 (by decide)).trans w5))
                rcases f156 with ⟨-, a, -⟩ | ⟨a, -, c⟩
                · exact absurd g159 (by omega)
                · rw [p152] at a c
                  exact ⟨0, rfl, hH156, ((hs54.sub (by decide)).tr ((hs108.sub (by decide)).tr ((hs112.sub (by decide)).tr ((hs129.sub (by decide)).tr ((hs139.sub (by decide)).tr ((hs152.sub (by decide)).tr (hs156.sub (by decide)))))))), Or.inr (Or.inr ⟨lett.1, by omega, -1000 - qt, 0, Or.inr (Or.inr ⟨lett2.1, by omega, 0, qt, vt, w1, Or.inr (Or.inl ⟨rfl, fun e => a (e.trans k58.symm), rfl⟩)⟩), Or.inl ⟨by have := jTI_q (by omega) w1; omega, by decide, c⟩⟩)⟩
              · exact absurd w4 g115
            · have g159 := jc1_eq_f hc159
              refine jm_aload_n (x := P.1 + 60) rfl rfl (jM_at hl64 2 rfl) ?_
              refine az_X_step (pc' := 164) (ls' := ls64) (st' := [.int 2, .ref (P.1 + 60)]) (h' := h156) rfl rfl rfl ?_
              refine az_X_call (m' := 266) (as := [.ref (P.1 + 60), .int 2]) (rest := []) rfl rfl rfl rfl rfl ?_ ?_
              · unfold si_call
                dsimp only
                rw [if_pos ⟨rfl, rfl⟩]
                show (match si_ix P h156 (P.1 + 60) with | some i => _ | none => none) = _
                rw [jix hH156 (by decide)]
                dsimp only
                rw [(hH156.2 60 _ rfl).1]
                rfl
              refine (ra_ok hH156 hn (((jso hs156 (by decide)).trans ((jso hs152 (by decide)).trans ((jso hs139 (by decide)).trans ((jso hs129 (by decide)).trans ((jso hs112 (by decide)).trans ((jso hs108 (by decide)).trans (jso hs54 (by decide)))))))).trans e8) rfl (jBR_so hs156 (by decide) (jBR_so hs152 (by decide) (jBR_so hs139 (by decide) (jBR_so hs129 (by decide) (jBR_so hs112 (by decide) (jBR_so hs108 (by decide) (jBR_so hs54 (by decide) hb))))))) hh1 2 (by decide)).mono ?_
              rintro rv164 h164 ⟨z164, rfl, hH164, hs164, f164⟩
              show az_X P _ 270 167 ls64 [.int z164] _ _
              refine jx_if (t := 172) rfl rfl rfl (fun hc167 => ?_) (fun hc167 => ?_)
              · have g167 := jc1_ne_t hc167
                refine jm_aload_n (x := P.1 + 60) rfl rfl (jM_at hl64 2 rfl) ?_
                refine jx_gf (i := 60) rfl rfl hH164 (by decide) (hH164.2 60 _ rfl).1 rfl (jx_rf hH164 rfl rfl) ?_
                refine jm_aload_n (x := P.1 + 60) rfl rfl (jM_at hl64 2 rfl) ?_
                refine jn_gf (i := 60) (k := 46) rfl rfl hH164 (by decide) (hH164.2 60 _ rfl).1 rfl rfl (fun z177 (ez177 : z177.toInt = ja h164 60 46) (bz177 : 0 ≤ z177.toInt ∧ z177.toInt ≤ 16) => ?_)
                replace ez177 : z177.toInt = ja h 60 46 := ez177.trans ((jso hs164 (by decide)).trans ((jso hs156 (by decide)).trans ((jso hs152 (by decide)).trans ((jso hs139 (by decide)).trans ((jso hs129 (by decide)).trans ((jso hs112 (by decide)).trans ((jso hs108 (by decide)).trans (jso hs54 (by decide)))))))))
                refine jm_aload_n (x := P.1 + 60) rfl rfl (jM_at hl64 2 rfl) ?_
                refine jn_gf (i := 60) (k := 20) rfl rfl hH164 (by decide) (hH164.2 60 _ rfl).1 rfl rfl (fun z181 (ez181 : z181.toInt = ja h164 60 20) (bz181 : 0 ≤ z181.toInt ∧ z181.toInt ≤ 99999) => ?_)
                have b181 : 0 ≤ z181.toInt ∧ z181.toInt ≤ 99 := by
                  have q2 : (2 : Int32).toInt.toNat = 2 := by decide
                  have b156 : 0 ≤ ja h156 60 17 ∧ ja h156 60 17 ≤ 240 := ja_bd hH156 (i := 60) (k := 17) rfl
                  obtain ⟨f, q, v, a1, a2⟩ := f164
                  rw [q2] at a1
                  rcases a2 with ⟨b1, -, -, b4⟩ | ⟨-, b2, -⟩
                  · subst b1
                    have := jAN_v (by omega) (by omega) a1
                    omega
                  · exact absurd b2 g167
                refine jn_ias (i := 90) (x := z177) (v := z181) rfl rfl hH164 (by decide) rfl (by omega) (by show _ < ((16 : Nat) : Int); omega) (by show 0 ≤ _; omega) (by show _ ≤ 99; omega) (fun h184 hH184 hs184 t184 u184 => ?_)
                refine jm_aload_n (x := P.1 + 60) rfl rfl (jM_at hl64 2 rfl) ?_
                refine jm_aload_n (x := P.1 + 60) rfl rfl (jM_at hl64 2 rfl) ?_
                refine jn_gf (i := 60) (k := 46) rfl rfl hH184 (by decide) (hH184.2 60 _ rfl).1 rfl rfl (fun z187 (ez187 : z187.toInt = ja h184 60 46) (bz187 : 0 ≤ z187.toInt ∧ z187.toInt ≤ 16) => ?_)
                replace ez187 : z187.toInt = ja h 60 46 := ez187.trans ((jso hs184 (by decide)).trans ((jso hs164 (by decide)).trans ((jso hs156 (by decide)).trans ((jso hs152 (by decide)).trans ((jso hs139 (by decide)).trans ((jso hs129 (by decide)).trans ((jso hs112 (by decide)).trans ((jso hs108 (by decide)).trans (jso hs54 (by decide))))))))))
                refine az_X_step (pc' := 191) (ls' := ls64) (st' := [.int 1, .int z187, .ref (P.1 + 60)]) (h' := h184) rfl rfl rfl ?_
                refine jn_add (a := z187) (b := 1) rfl rfl (by omega) (by omega) (fun z191 ez191 => ?_)
                rw [show (1 : Int32).toInt = 1 by decide] at ez191
                refine jn_pf (i := 60) (k := 46) (x := z191) rfl rfl hH184 (by decide) rfl (hH184.2 60 _ rfl).1 rfl rfl (by decide) (by decide) (by show 0 ≤ _; omega) (by show _ ≤ 16; omega) (fun h192 hH192 hs192 (t192 : ja h192 60 46 = z191.toInt) => ?_)
                refine az_X_step (pc' := 196) (ls' := ls64) (st' := [.int 1]) (h' := h192) rfl rfl rfl ?_
                refine jx_retz rfl rfl rfl (by decide) ?_
                have lett2 : (97 ≤ hh (p + 1) ∧ hh (p + 1) ≤ 104) ∧ z63.toInt = hh (p + 1) - 97 := by
                  rw [t54, e53] at ez58
                  rcases ez69 with ⟨-, a, b⟩ | ⟨a, -⟩
                  · exact ⟨by omega, by omega⟩
                  · exact absurd a g72
                obtain ⟨ft, qt, vt, w1, w2⟩ := f112
                rw [r9] at w1
                rw [show p + 1 + 1 = p + 1 + 1 from rfl] at w1
                rcases w2 with ⟨w3, w4, w5, w6⟩ | ⟨-, w4, -⟩
                · subst w3
                  have p152 : ja h152 60 17 = qt := (jso hs152 (by decide)).trans ((jso hs139 (by decide)).trans ((jso hs129 (by decide)).trans w5))
                  rcases f156 with ⟨x1, -, x3⟩ | ⟨-, a, -⟩
                  · rw [p152] at x1 x3
                    have q2 : (2 : Int32).toInt.toNat = 2 := by decide
                    rw [q2, x3] at f164
                    obtain ⟨f, q, v, a1, a2⟩ := f164
                    rcases a2 with ⟨b1, -, b3, -⟩ | ⟨-, b2, -⟩
                    · exact ⟨1, rfl, hH192, ((hs54.sub (by decide)).tr ((hs108.sub (by decide)).tr ((hs112.sub (by decide)).tr ((hs129.sub (by decide)).tr ((hs139.sub (by decide)).tr ((hs152.sub (by decide)).tr ((hs156.sub (by decide)).tr ((hs164.sub (by decide)).tr ((hs184.sub (by decide)).tr (hs192.sub (by decide))))))))))), Or.inr (Or.inr ⟨lett.1, by omega, f, q, Or.inr (Or.inr ⟨lett2.1, by omega, 0, qt, vt, w1, Or.inr (Or.inr ⟨rfl, x1.trans k58, v, a1⟩)⟩), Or.inr ⟨b1, by decide, (jso hs192 (by decide)).trans ((jso hs184 (by decide)).trans b3), t192.trans (by omega)⟩⟩)⟩
                    · exact absurd b2 g167
                  · exact absurd a g159
                · exact absurd w4 g115
              · have g167 := jc1_ne_f hc167
                refine az_X_step (pc' := 171) (ls' := ls64) (st' := [.int 0]) (h' := h164) rfl rfl rfl ?_
                refine jx_retz rfl rfl rfl (by decide) ?_
                have lett2 : (97 ≤ hh (p + 1) ∧ hh (p + 1) ≤ 104) ∧ z63.toInt = hh (p + 1) - 97 := by
                  rw [t54, e53] at ez58
                  rcases ez69 with ⟨-, a, b⟩ | ⟨a, -⟩
                  · exact ⟨by omega, by omega⟩
                  · exact absurd a g72
                obtain ⟨ft, qt, vt, w1, w2⟩ := f112
                rw [r9] at w1
                rw [show p + 1 + 1 = p + 1 + 1 from rfl] at w1
                rcases w2 with ⟨w3, w4, w5, w6⟩ | ⟨-, w4, -⟩
                · subst w3
                  have p152 : ja h152 60 17 = qt := (jso hs152 (by decide)).trans ((jso hs139 (by decide)).trans ((jso hs129 (by decide)).trans w5))
                  rcases f156 with ⟨x1, -, x3⟩ | ⟨-, a, -⟩
                  · rw [p152] at x1 x3
                    have q2 : (2 : Int32).toInt.toNat = 2 := by decide
                    rw [q2, x3] at f164
                    obtain ⟨f, q, v, a1, a2⟩ := f164
                    rcases a2 with ⟨-, b2, -⟩ | ⟨b1, -, b3⟩
                    · exact absurd g167 (by omega)
                    · exact ⟨0, rfl, hH164, ((hs54.sub (by decide)).tr ((hs108.sub (by decide)).tr ((hs112.sub (by decide)).tr ((hs129.sub (by decide)).tr ((hs139.sub (by decide)).tr ((hs152.sub (by decide)).tr ((hs156.sub (by decide)).tr (hs164.sub (by decide))))))))), Or.inr (Or.inr ⟨lett.1, by omega, f, q, Or.inr (Or.inr ⟨lett2.1, by omega, 0, qt, vt, w1, Or.inr (Or.inr ⟨rfl, x1.trans k58, v, a1⟩)⟩), Or.inl ⟨b1, by decide, b3⟩⟩)⟩
                  · exact absurd a g159
                · exact absurd w4 g115
          · have g115 := jc1_ne_f hc115
            refine az_X_step (pc' := 119) (ls' := ls64) (st' := [.int 0]) (h' := h112) rfl rfl rfl ?_
            refine jx_retz rfl rfl rfl (by decide) ?_
            have lett2 : (97 ≤ hh (p + 1) ∧ hh (p + 1) ≤ 104) ∧ z63.toInt = hh (p + 1) - 97 := by
              rw [t54, e53] at ez58
              rcases ez69 with ⟨-, a, b⟩ | ⟨a, -⟩
              · exact ⟨by omega, by omega⟩
              · exact absurd a g72
            obtain ⟨ft, qt, vt, w1, w2⟩ := f112
            rw [r9] at w1
            rw [show p + 1 + 1 = p + 1 + 1 from rfl] at w1
            rcases w2 with ⟨-, w3, -⟩ | ⟨w3, w4, w5⟩
            · exact absurd g115 (by omega)
            · exact ⟨0, rfl, hH112, ((hs54.sub (by decide)).tr ((hs108.sub (by decide)).tr (hs112.sub (by decide)))), Or.inr (Or.inr ⟨lett.1, by omega, ft, 0, Or.inr (Or.inr ⟨lett2.1, by omega, ft, qt, vt, w1, Or.inl ⟨w3, rfl⟩⟩), Or.inl ⟨w3, by decide, w5⟩⟩)⟩
        · have g87 := jc2_ne_f hc87
          refine jm_aload_n (x := P.1 + 60) rfl rfl (jM_at hl64 2 rfl) ?_
          refine az_X_step (pc' := 93) (ls' := ls64) (st' := [.int 6, .ref (P.1 + 60)]) (h' := h54) rfl rfl rfl ?_
          refine jm_aload_n (x := P.1 + 60) rfl rfl (jM_at hl64 2 rfl) ?_
          refine jn_gf (i := 60) (k := 17) rfl rfl hH54 (by decide) (hH54.2 60 _ rfl).1 rfl rfl (fun z94 (ez94 : z94.toInt = ja h54 60 17) (bz94 : 0 ≤ z94.toInt ∧ z94.toInt ≤ 240) => ?_)
          replace ez94 : z94.toInt = z53.toInt := ez94.trans t54
          refine az_X_call (m' := 242) (as := [.ref (P.1 + 60), .int 6, .int z94]) (rest := []) rfl rfl rfl rfl rfl ?_ ?_
          · unfold si_call
            dsimp only
            rw [if_pos ⟨rfl, rfl⟩]
            show (match si_ix P h54 (P.1 + 60) with | some i => _ | none => none) = _
            rw [jix hH54 (by decide)]
            dsimp only
            rw [(hH54.2 60 _ rfl).1]
            rfl
          refine (rw_ok hH54 6 z94 (by decide) (by omega)).mono ?_
          rintro rv97 h97 ⟨z97, rfl, hH97, hs97, f97⟩
          show az_X P _ 270 100 ls64 [.int z97] _ _
          refine jx_retz rfl rfl rfl (jbz (by omega)) ?_
          have lett2 : (97 ≤ hh (p + 1) ∧ hh (p + 1) ≤ 104) ∧ z63.toInt = hh (p + 1) - 97 := by
            rw [t54, e53] at ez58
            rcases ez69 with ⟨-, a, b⟩ | ⟨a, -⟩
            · exact ⟨by omega, by omega⟩
            · exact absurd a g72
          refine ⟨z97, rfl, hH97, ((hs54.sub (by decide)).tr (hs97.sub (by decide))), Or.inr (Or.inr ⟨lett.1, by omega, -6000 - (p + 1), 0, Or.inr (Or.inl ⟨lett2.1, by omega, rfl⟩), Or.inl ⟨by omega, f97.1, f97.2.trans (by omega)⟩⟩)⟩
      · have g72 := jc1_ne_f hc72
        refine jm_aload_n (x := P.1 + 60) rfl rfl (jM_at hl64 2 rfl) ?_
        refine az_X_step (pc' := 77) (ls' := ls64) (st' := [.int 1, .ref (P.1 + 60)]) (h' := h54) rfl rfl rfl ?_
        refine jm_aload_n (x := P.1 + 60) rfl rfl (jM_at hl64 2 rfl) ?_
        refine jn_gf (i := 60) (k := 17) rfl rfl hH54 (by decide) (hH54.2 60 _ rfl).1 rfl rfl (fun z78 (ez78 : z78.toInt = ja h54 60 17) (bz78 : 0 ≤ z78.toInt ∧ z78.toInt ≤ 240) => ?_)
        replace ez78 : z78.toInt = z53.toInt := ez78.trans t54
        refine az_X_call (m' := 242) (as := [.ref (P.1 + 60), .int 1, .int z78]) (rest := []) rfl rfl rfl rfl rfl ?_ ?_
        · unfold si_call
          dsimp only
          rw [if_pos ⟨rfl, rfl⟩]
          show (match si_ix P h54 (P.1 + 60) with | some i => _ | none => none) = _
          rw [jix hH54 (by decide)]
          dsimp only
          rw [(hH54.2 60 _ rfl).1]
          rfl
        refine (rw_ok hH54 1 z78 (by decide) (by omega)).mono ?_
        rintro rv81 h81 ⟨z81, rfl, hH81, hs81, f81⟩
        show az_X P _ 270 84 ls64 [.int z81] _ _
        refine jx_retz rfl rfl rfl (jbz (by omega)) ?_
        refine ⟨z81, rfl, hH81, ((hs54.sub (by decide)).tr (hs81.sub (by decide))), Or.inr (Or.inr ⟨lett.1, by omega, -1000 - (p + 1), 0, Or.inl ⟨?_, rfl⟩, Or.inl ⟨by omega, f81.1, f81.2.trans (by omega)⟩⟩)⟩
        rcases ez69 with ⟨a, -⟩ | ⟨-, a⟩
        · exact absurd g72 (by omega)
        · rw [t54, e53] at ez58
          omega
    · have g34 := jc2_ne_f hc34
      refine jm_aload_n (x := P.1 + 60) rfl rfl (jM_at hl7 1 rfl) ?_
      refine az_X_step (pc' := 39) (ls' := ls7) (st' := [.int 4, .ref (P.1 + 60)]) (h' := h) rfl rfl rfl ?_
      refine jm_aload_n (x := P.1 + 60) rfl rfl (jM_at hl7 1 rfl) ?_
      refine jn_gf (i := 60) (k := 17) rfl rfl hH (by decide) (hH.2 60 _ rfl).1 rfl rfl (fun z40 (ez40 : z40.toInt = ja h 60 17) (bz40 : 0 ≤ z40.toInt ∧ z40.toInt ≤ 240) => ?_)
      refine az_X_call (m' := 242) (as := [.ref (P.1 + 60), .int 4, .int z40]) (rest := []) rfl rfl rfl rfl rfl ?_ ?_
      · unfold si_call
        dsimp only
        rw [if_pos ⟨rfl, rfl⟩]
        show (match si_ix P h (P.1 + 60) with | some i => _ | none => none) = _
        rw [jix hH (by decide)]
        dsimp only
        rw [(hH.2 60 _ rfl).1]
        rfl
      refine (rw_ok hH 4 z40 (by decide) (by omega)).mono ?_
      rintro rv43 h43 ⟨z43, rfl, hH43, hs43, f43⟩
      show az_X P _ 270 46 ls7 [.int z43] _ _
      refine jx_retz rfl rfl rfl (jbz (by omega)) ?_
      refine ⟨z43, rfl, hH43, (hs43.sub (by decide)), Or.inr (Or.inl ⟨lett.1, by omega, f43.1, f43.2.trans (by omega)⟩)⟩
  · have g15 := jc1_ne_f hc15
    refine jm_aload_n (x := P.1 + 60) rfl rfl (jM_at hl7 1 rfl) ?_
    refine az_X_step (pc' := 20) (ls' := ls7) (st' := [.int 1, .ref (P.1 + 60)]) (h' := h) rfl rfl rfl ?_
    refine jm_aload_n (x := P.1 + 60) rfl rfl (jM_at hl7 1 rfl) ?_
    refine jn_gf (i := 60) (k := 17) rfl rfl hH (by decide) (hH.2 60 _ rfl).1 rfl rfl (fun z21 (ez21 : z21.toInt = ja h 60 17) (bz21 : 0 ≤ z21.toInt ∧ z21.toInt ≤ 240) => ?_)
    refine az_X_call (m' := 242) (as := [.ref (P.1 + 60), .int 1, .int z21]) (rest := []) rfl rfl rfl rfl rfl ?_ ?_
    · unfold si_call
      dsimp only
      rw [if_pos ⟨rfl, rfl⟩]
      show (match si_ix P h (P.1 + 60) with | some i => _ | none => none) = _
      rw [jix hH (by decide)]
      dsimp only
      rw [(hH.2 60 _ rfl).1]
      rfl
    refine (rw_ok hH 1 z21 (by decide) (by omega)).mono ?_
    rintro rv24 h24 ⟨z24, rfl, hH24, hs24, f24⟩
    show az_X P _ 270 27 ls7 [.int z24] _ _
    refine jx_retz rfl rfl rfl (jbz (by omega)) ?_
    refine ⟨z24, rfl, hH24, (hs24.sub (by decide)), Or.inl ⟨?_, f24.1, f24.2.trans (by omega)⟩⟩
    rcases ez12 with ⟨a, -⟩ | ⟨-, a⟩
    · exact absurd g15 (by omega)
    · omega
theorem be_l {P : si_P} (hxa : P.2.1 < P.1) {d : Nat} {h0 : si_H} {m : Int} (hm : 0 ≤ m ∧ m ≤ 16) : ∀ (k j : Nat) (T : Int32) (h : si_H) (ls : si_L), jM [(3, .int T), (0, .ref (P.1 + 60))] ls → az_HI P az_tb h → az_same_out [(60, 11), (60, 16), (64, 1000000), (65, 1000000), (66, 1000000), (67, 1000000)] h0 h → ja h 60 16 = 0 → ja h 60 11 = m → T.toInt = j → (j : Int) + k = m → az_X P d 271 100 ls [] h (fun rv h' => ∃ z : Int32, rv = some (.int z) ∧ az_HI P az_tb h' ∧ az_same_out [(60, 11), (60, 16), (64, 1000000), (65, 1000000), (66, 1000000), (67, 1000000)] h0 h' ∧ ja h' 60 16 = 0 ∧ z.toInt = m) := by
  intro k
  induction k with
  | zero =>
    intro j T h ls hl hH hs e16 e11 eT hj
    refine jm_iload_n (x := T) rfl rfl (jM_at hl 0 rfl) ?_
    refine jm_aload_n (x := P.1 + 60) rfl rfl (jM_at hl 1 rfl) ?_
    refine jn_gf (i := 60) (k := 11) rfl rfl hH (by decide) (hH.2 60 _ rfl).1 rfl rfl (fun z102 (ez102 : z102.toInt = ja h 60 11) (bz102 : 0 ≤ z102.toInt ∧ z102.toInt ≤ 16) => ?_)
    refine jx_ic (t := 162) rfl rfl rfl (fun hc105 => ?_) (fun hc105 => ?_)
    · have g105 := jc2_ge_t hc105
      refine jm_aload_n (x := P.1 + 60) rfl rfl (jM_at hl 1 rfl) ?_
      refine jn_gf (i := 60) (k := 11) rfl rfl hH (by decide) (hH.2 60 _ rfl).1 rfl rfl (fun z163 (ez163 : z163.toInt = ja h 60 11) (bz163 : 0 ≤ z163.toInt ∧ z163.toInt ≤ 16) => ?_)
      refine jx_ret rfl rfl rfl ?_
      exact ⟨z163, rfl, hH, hs, e16, by omega⟩
    · have g105 := jc2_ge_f hc105
      exfalso
      omega
  | succ k ih =>
    intro j T h ls hl hH hs e16 e11 eT hj
    refine jm_iload_n (x := T) rfl rfl (jM_at hl 0 rfl) ?_
    refine jm_aload_n (x := P.1 + 60) rfl rfl (jM_at hl 1 rfl) ?_
    refine jn_gf (i := 60) (k := 11) rfl rfl hH (by decide) (hH.2 60 _ rfl).1 rfl rfl (fun z102 (ez102 : z102.toInt = ja h 60 11) (bz102 : 0 ≤ z102.toInt ∧ z102.toInt ≤ 16) => ?_)
    refine jx_ic (t := 162) rfl rfl rfl (fun hc105 => ?_) (fun hc105 => ?_)
    · have g105 := jc2_ge_t hc105
      refine jm_aload_n (x := P.1 + 60) rfl rfl (jM_at hl 1 rfl) ?_
      refine jn_gf (i := 60) (k := 11) rfl rfl hH (by decide) (hH.2 60 _ rfl).1 rfl rfl (fun z163 (ez163 : z163.toInt = ja h 60 11) (bz163 : 0 ≤ z163.toInt ∧ z163.toInt ≤ 16) => ?_)
      refine jx_ret rfl rfl rfl ?_
      exfalso
      omega
    · have g105 := jc2_ge_f hc105
      refine jm_aload_n (x := P.1 + 60) rfl rfl (jM_at hl 1 rfl) ?_
      refine jx_gf (i := 60) rfl rfl hH (by decide) (hH.2 60 _ rfl).1 rfl (jx_rf hH rfl rfl) ?_
      refine jm_iload_n (x := T) rfl rfl (jM_at hl 0 rfl) ?_
      refine jm_aload_n (x := P.1 + 60) rfl rfl (jM_at hl 1 rfl) ?_
      refine jx_gf (i := 60) rfl rfl hH (by decide) (hH.2 60 _ rfl).1 rfl (jx_rf hH rfl rfl) ?_
      refine jm_iload_n (x := T) rfl rfl (jM_at hl 0 rfl) ?_
      refine jx_ial (i := 87) (x := T) rfl rfl hxa hH (by decide) rfl (by omega) (by show _ < ((16 : Nat) : Int); omega) (fun z118 ez118 bz118 => ?_)
      refine jn_ias (i := 64) (x := T) (v := z118) rfl rfl hH (by decide) rfl (by omega) (by show _ < ((16 : Nat) : Int); omega) (by show 0 ≤ _; omega) (by show _ ≤ 7; omega) (fun h119 hH119 hs119 t119 u119 => ?_)
      refine jm_aload_n (x := P.1 + 60) rfl rfl (jM_at hl 1 rfl) ?_
      refine jx_gf (i := 60) rfl rfl hH119 (by decide) (hH119.2 60 _ rfl).1 rfl (jx_rf hH119 rfl rfl) ?_
      refine jm_iload_n (x := T) rfl rfl (jM_at hl 0 rfl) ?_
      refine jm_aload_n (x := P.1 + 60) rfl rfl (jM_at hl 1 rfl) ?_
      refine jx_gf (i := 60) rfl rfl hH119 (by decide) (hH119.2 60 _ rfl).1 rfl (jx_rf hH119 rfl rfl) ?_
      refine jm_iload_n (x := T) rfl rfl (jM_at hl 0 rfl) ?_
      refine jx_ial (i := 88) (x := T) rfl rfl hxa hH119 (by decide) rfl (by omega) (by show _ < ((16 : Nat) : Int); omega) (fun z130 ez130 bz130 => ?_)
      refine jn_ias (i := 65) (x := T) (v := z130) rfl rfl hH119 (by decide) rfl (by omega) (by show _ < ((16 : Nat) : Int); omega) (by show 0 ≤ _; omega) (by show _ ≤ 7; omega) (fun h131 hH131 hs131 t131 u131 => ?_)
      refine jm_aload_n (x := P.1 + 60) rfl rfl (jM_at hl 1 rfl) ?_
      refine jx_gf (i := 60) rfl rfl hH131 (by decide) (hH131.2 60 _ rfl).1 rfl (jx_rf hH131 rfl rfl) ?_
      refine jm_iload_n (x := T) rfl rfl (jM_at hl 0 rfl) ?_
      refine jm_aload_n (x := P.1 + 60) rfl rfl (jM_at hl 1 rfl) ?_
      refine jx_gf (i := 60) rfl rfl hH131 (by decide) (hH131.2 60 _ rfl).1 rfl (jx_rf hH131 rfl rfl) ?_
      refine jm_iload_n (x := T) rfl rfl (jM_at hl 0 rfl) ?_
      refine jx_ial (i := 89) (x := T) rfl rfl hxa hH131 (by decide) rfl (by omega) (by show _ < ((16 : Nat) : Int); omega) (fun z142 ez142 bz142 => ?_)
      refine jn_ias (i := 66) (x := T) (v := z142) rfl rfl hH131 (by decide) rfl (by omega) (by show _ < ((16 : Nat) : Int); omega) (by show 0 ≤ _; omega) (by show _ ≤ 1439; omega) (fun h143 hH143 hs143 t143 u143 => ?_)
      refine jm_aload_n (x := P.1 + 60) rfl rfl (jM_at hl 1 rfl) ?_
      refine jx_gf (i := 60) rfl rfl hH143 (by decide) (hH143.2 60 _ rfl).1 rfl (jx_rf hH143 rfl rfl) ?_
      refine jm_iload_n (x := T) rfl rfl (jM_at hl 0 rfl) ?_
      refine jm_aload_n (x := P.1 + 60) rfl rfl (jM_at hl 1 rfl) ?_
      refine jx_gf (i := 60) rfl rfl hH143 (by decide) (hH143.2 60 _ rfl).1 rfl (jx_rf hH143 rfl rfl) ?_
      refine jm_iload_n (x := T) rfl rfl (jM_at hl 0 rfl) ?_
      refine jx_ial (i := 90) (x := T) rfl rfl hxa hH143 (by decide) rfl (by omega) (by show _ < ((16 : Nat) : Int); omega) (fun z154 ez154 bz154 => ?_)
      refine jn_ias (i := 67) (x := T) (v := z154) rfl rfl hH143 (by decide) rfl (by omega) (by show _ < ((16 : Nat) : Int); omega) (by show 0 ≤ _; omega) (by show _ ≤ 99; omega) (fun h155 hH155 hs155 t155 u155 => ?_)
      refine jn_iinc (x := T) rfl rfl (by decide) (jM_at hl 0 rfl) hl rfl (by decide) (by omega) (by omega) (fun z156 (ez156 : z156.toInt = T.toInt + 1) ls156 (hl156 : jM [(3, .int z156), (0, .ref (P.1 + 60))] ls156) => ?_)
      refine az_X_step (pc' := 100) (ls' := ls156) (st' := []) (h' := h155) rfl rfl rfl ?_
      exact ih (j + 1) z156 h155 ls156 (jM_pick hl156 [0, 1] rfl) hH155 (hs.tr ((hs119.sub (by decide)).tr ((hs131.sub (by decide)).tr ((hs143.sub (by decide)).tr (hs155.sub (by decide)))))) (((jso hs155 (by decide)).trans ((jso hs143 (by decide)).trans ((jso hs131 (by decide)).trans (jso hs119 (by decide))))).trans e16) (((jso hs155 (by decide)).trans ((jso hs143 (by decide)).trans ((jso hs131 (by decide)).trans (jso hs119 (by decide))))).trans e11) (by omega) (by omega)
theorem be_ok {P : si_P} (hxa : P.2.1 < P.1) {d : Nat} {h : si_H} (hH : az_HI P az_tb h) (hm : 0 ≤ ja h 60 46 ∧ ja h 60 46 ≤ 16) (G : Int32) (ls : si_L) (hl : jM [(2, .int G), (0, .ref (P.1 + 60))] ls) : az_X P d 271 76 ls [] h (fun rv h' => ∃ z : Int32, rv = some (.int z) ∧ az_HI P az_tb h' ∧ az_same_out [(60, 11), (60, 16), (64, 1000000), (65, 1000000), (66, 1000000), (67, 1000000)] h h' ∧ ja h' 60 16 = 0 ∧ ((G.toInt = 0 ∧ z.toInt = ja h 60 19) ∨ (G.toInt ≠ 0 ∧ z.toInt = ja h 60 46))) := by
  have k0 : (0 : Int32).toInt = 0 := by decide
  refine jm_aload_n (x := P.1 + 60) rfl rfl (jM_at hl 1 rfl) ?_
  refine az_X_step (pc' := 78) (ls' := ls) (st' := [.int 0, .ref (P.1 + 60)]) (h' := h) rfl rfl rfl ?_
  refine jn_pf (i := 60) (k := 16) (x := 0) rfl rfl hH (by decide) rfl (hH.2 60 _ rfl).1 rfl rfl (by decide) (by decide) (by show 0 ≤ _; omega) (by show _ ≤ 260; omega) (fun h78 hH78 hs78 (t78 : ja h78 60 16 = (0 : Int32).toInt) => ?_)
  replace t78 : ja h78 60 16 = 0 := t78.trans (by decide)
  refine jm_iload_n (x := G) rfl rfl (jM_at hl 0 rfl) ?_
  refine jx_if (t := 90) rfl rfl rfl (fun hc82 => ?_) (fun hc82 => ?_)
  · have g82 := jc1_ne_t hc82
    refine jm_aload_n (x := P.1 + 60) rfl rfl (jM_at hl 1 rfl) ?_
    refine jm_aload_n (x := P.1 + 60) rfl rfl (jM_at hl 1 rfl) ?_
    refine jn_gf (i := 60) (k := 46) rfl rfl hH78 (by decide) (hH78.2 60 _ rfl).1 rfl rfl (fun z92 (ez92 : z92.toInt = ja h78 60 46) (bz92 : 0 ≤ z92.toInt ∧ z92.toInt ≤ 16) => ?_)
    replace ez92 : z92.toInt = ja h 60 46 := ez92.trans (jso hs78 (by decide))
    refine jn_pf (i := 60) (k := 11) (x := z92) rfl rfl hH78 (by decide) rfl (hH78.2 60 _ rfl).1 rfl rfl (by decide) (by decide) (by show 0 ≤ _; omega) (by show _ ≤ 16; omega) (fun h95 hH95 hs95 (t95 : ja h95 60 11 = z92.toInt) => ?_)
    refine az_X_step (pc' := 99) (ls' := ls) (st' := [.int 0]) (h' := h95) rfl rfl rfl ?_
    refine jm_istore_n (l' := [(3, .int 0), (2, .int G), (0, .ref (P.1 + 60))]) rfl rfl (by decide) hl rfl rfl (fun ls99 hl99 => ?_)
    refine (be_l hxa (h0 := h) (m := ja h 60 46) hm (ja h 60 46).toNat 0 0 h95 ls99 (jM_pick hl99 [0, 2] rfl) hH95 ((hs78.sub (by decide)).tr (hs95.sub (by decide))) ((jso hs95 (by decide)).trans t78) (t95.trans (by omega)) (by decide) (by omega)).mono ?_
    rintro rv h9 ⟨z, q1, q2, q3, q4, q5⟩
    exact ⟨z, q1, q2, q3, q4, Or.inr ⟨by omega, q5⟩⟩
  · have g82 := jc1_ne_f hc82
    refine jm_aload_n (x := P.1 + 60) rfl rfl (jM_at hl 1 rfl) ?_
    refine jn_gf (i := 60) (k := 19) rfl rfl hH78 (by decide) (hH78.2 60 _ rfl).1 rfl rfl (fun z86 (ez86 : z86.toInt = ja h78 60 19) (bz86 : (-2147483648) ≤ z86.toInt ∧ z86.toInt ≤ 2147483647) => ?_)
    replace ez86 : z86.toInt = ja h 60 19 := ez86.trans (jso hs78 (by decide))
    refine jx_ret rfl rfl rfl ?_
    exact ⟨z86, rfl, hH78, (hs78.sub (by decide)), t78, Or.inl ⟨by omega, by omega⟩⟩
theorem bg_ok {P : si_P} (hxa : P.2.1 < P.1) {d : Nat} {h : si_H} (hH : az_HI P az_tb h) (hm : 0 ≤ ja h 60 46 ∧ ja h 60 46 ≤ 16) (G : Int32) (hG : G.toInt = 0) (ls : si_L) (hl : jM [(2, .int G), (0, .ref (P.1 + 60))] ls) : az_X P d 271 36 ls [] h (fun rv h' => ∃ z : Int32, rv = some (.int z) ∧ az_HI P az_tb h' ∧ az_same_out [(60, 11), (60, 16), (64, 1000000), (65, 1000000), (66, 1000000), (67, 1000000)] h h' ∧ ja h' 60 16 = 0 ∧ z.toInt = ja h 60 19) := by
  have k0 : (0 : Int32).toInt = 0 := by decide
  refine jm_iload_n (x := G) rfl rfl (jM_at hl 0 rfl) ?_
  refine jx_if (t := 76) rfl rfl rfl (fun hc37 => ?_) (fun hc37 => ?_)
  · have g37 := jc1_eq_t hc37
    refine (be_ok hxa hH hm G ls (jM_pick hl [0, 1] rfl)).mono ?_
    rintro rv h9 ⟨z, q1, q2, q3, q4, q5⟩
    exact ⟨z, q1, q2, q3, q4, by omega⟩
  · have g37 := jc1_eq_f hc37
    exfalso
    omega
theorem bk_l {P : si_P} (hxa : P.2.1 < P.1) {d : Nat} {h0 : si_H} {n : Int} {hh : Int → Int} (hn : 1 ≤ n ∧ n ≤ 240) (hh1 : ∀ i : Int, hh i ≤ 255) (hy : ja h0 60 9 ≤ 1440) : ∀ (k j : Nat) (q : Int) (G : Int32) (h : si_H) (ls : si_L), jM [(2, .int G), (0, .ref (P.1 + 60))] ls → az_HI P az_tb h → az_same_out [(60, 11), (60, 16), (60, 17), (60, 19), (60, 20), (60, 46), (64, 1000000), (65, 1000000), (66, 1000000), (67, 1000000), (87, 1000000), (88, 1000000), (89, 1000000), (90, 1000000)] h0 h → ja h 60 18 = n → ja h 60 17 = q → jBR h n hh → G.toInt = 1 → ja h 60 46 = j → j + k = 17 → j ≤ 16 → az_X P (d + 5) 271 36 ls [] h (fun rv h' => ∃ z : Int32, rv = some (.int z) ∧ az_HI P az_tb h' ∧ az_same_out [(60, 11), (60, 16), (60, 17), (60, 19), (60, 20), (60, 46), (64, 1000000), (65, 1000000), (66, 1000000), (67, 1000000), (87, 1000000), (88, 1000000), (89, 1000000), (90, 1000000)] h0 h' ∧ ja h' 60 16 = 0 ∧ ((n ≤ q ∧ z.toInt = j) ∨ (q < n ∧ hh q ≠ 59 ∧ z.toInt = -1000 - q) ∨ (q < n ∧ hh q = 59 ∧ jLB hh (ja h0 60 9) n k (q + 1) j z.toInt))) := by
  intro k
  induction k with
  | zero =>
    intro j q G h ls hl hH hs e8 e7 hb eG e46 hj hS
    exfalso
    omega
  | succ k ih =>
    intro j q G h ls hl hH hs e8 e7 hb eG e46 hj hS
    have bp : 0 ≤ ja h 60 17 ∧ ja h 60 17 ≤ 240 := ja_bd hH (i := 60) (k := 17) rfl
    have y9 : ja h 60 9 = ja h0 60 9 := jso hs (by decide)
    have k0 : (0 : Int32).toInt = 0 := by decide
    have k1 : (1 : Int32).toInt = 1 := by decide
    have k59 : (59 : Int32).toInt = 59 := by decide
    refine jm_iload_n (x := G) rfl rfl (jM_at hl 0 rfl) ?_
    refine jx_if (t := 76) rfl rfl rfl (fun hc37 => ?_) (fun hc37 => ?_)
    · have g37 := jc1_eq_t hc37
      exfalso
      omega
    · have g37 := jc1_eq_f hc37
      refine jm_aload_n (x := P.1 + 60) rfl rfl (jM_at hl 1 rfl) ?_
      refine jn_gf (i := 60) (k := 17) rfl rfl hH (by decide) (hH.2 60 _ rfl).1 rfl rfl (fun z41 (ez41 : z41.toInt = ja h 60 17) (bz41 : 0 ≤ z41.toInt ∧ z41.toInt ≤ 240) => ?_)
      refine jm_aload_n (x := P.1 + 60) rfl rfl (jM_at hl 1 rfl) ?_
      refine jn_gf (i := 60) (k := 18) rfl rfl hH (by decide) (hH.2 60 _ rfl).1 rfl rfl (fun z45 (ez45 : z45.toInt = ja h 60 18) (bz45 : 0 ≤ z45.toInt ∧ z45.toInt ≤ 240) => ?_)
      refine jx_ic (t := 76) rfl rfl rfl (fun hc48 => ?_) (fun hc48 => ?_)
      · have g48 := jc2_ge_t hc48
        refine (be_ok hxa hH (by omega) G ls (jM_pick hl [0, 1] rfl)).mono ?_
        rintro rv h9 ⟨z, q1, q2, q3, q4, q5⟩
        exact ⟨z, q1, q2, hs.tr (q3.sub (by decide)), q4, Or.inl ⟨by omega, by omega⟩⟩
      · have g48 := jc2_ge_f hc48
        refine jm_aload_n (x := P.1 + 60) rfl rfl (jM_at hl 1 rfl) ?_
        refine az_X_step (pc' := 54) (ls' := ls) (st' := [.int 59, .ref (P.1 + 60)]) (h' := h) rfl rfl rfl ?_
        refine az_X_call (m' := 243) (as := [.ref (P.1 + 60), .int 59]) (rest := []) rfl rfl rfl rfl rfl ?_ ?_
        · unfold si_call
          dsimp only
          rw [if_pos ⟨rfl, rfl⟩]
          show (match si_ix P h (P.1 + 60) with | some i => _ | none => none) = _
          rw [jix hH (by decide)]
          dsimp only
          rw [(hH.2 60 _ rfl).1]
          rfl
        refine (rt_ok hH hn e8 e7 hb 59 (by decide)).mono ?_
        rintro rv54 h54 ⟨z54, rfl, hH54, hs54, f54⟩
        show az_X P _ 271 57 ls [.int z54] _ _
        refine jx_if (t := 71) rfl rfl rfl (fun hc57 => ?_) (fun hc57 => ?_)
        · have g57 := jc1_eq_t hc57
          refine az_X_step (pc' := 72) (ls' := ls) (st' := [.int 0]) (h' := h54) rfl rfl rfl ?_
          refine jm_istore_n (l' := [(2, .int 0), (0, .ref (P.1 + 60))]) rfl rfl (by decide) hl rfl rfl (fun ls72 hl72 => ?_)
          refine az_X_step (pc' := 36) (ls' := ls72) (st' := []) (h' := h54) rfl rfl rfl ?_
          have m61 : 0 ≤ ja h54 60 46 ∧ ja h54 60 46 ≤ 16 := ja_bd hH54 (i := 60) (k := 46) rfl
          refine (bg_ok hxa hH54 m61 0 (by decide) ls72 (jM_pick hl72 [0, 1] rfl)).mono ?_
          rintro rv h9 ⟨z, q1, q2, q3, q4, q5⟩
          refine ⟨z, q1, q2, (hs.tr (hs54.sub (by decide))).tr (q3.sub (by decide)), q4, ?_⟩
          rcases f54 with ⟨-, a, -⟩ | ⟨a, -, c⟩
          · exact absurd g57 (by omega)
          · exact Or.inr (Or.inl ⟨by omega, fun e => a (e.trans k59.symm), by omega⟩)
        · have g57 := jc1_eq_f hc57
          refine jm_aload_n (x := P.1 + 60) rfl rfl (jM_at hl 1 rfl) ?_
          refine az_X_call (m' := 270) (as := [.ref (P.1 + 60)]) (rest := []) rfl rfl rfl rfl rfl ?_ ?_
          · unfold si_call
            dsimp only
            rw [if_pos ⟨rfl, rfl⟩]
            show (match si_ix P h54 (P.1 + 60) with | some i => _ | none => none) = _
            rw [jix hH54 (by decide)]
            dsimp only
            rw [(hH54.2 60 _ rfl).1]
            rfl
          refine (rp_ok hH54 hn ((jso hs54 (by decide)).trans e8) rfl (jBR_so hs54 (by decide) hb) hh1 (by rw [jso hs54 (by decide)]; omega) (by rw [jso hs54 (by decide)]; omega)).mono ?_
          rintro rv61 h61 ⟨z61, rfl, hH61, hs61, f61⟩
          show az_X P _ 271 64 ls [.int z61] _ _
          refine jx_if (t := 71) rfl rfl rfl (fun hc64 => ?_) (fun hc64 => ?_)
          · have g64 := jc1_eq_t hc64
            refine az_X_step (pc' := 72) (ls' := ls) (st' := [.int 0]) (h' := h61) rfl rfl rfl ?_
            refine jm_istore_n (l' := [(2, .int 0), (0, .ref (P.1 + 60))]) rfl rfl (by decide) hl rfl rfl (fun ls72 hl72 => ?_)
            refine az_X_step (pc' := 36) (ls' := ls72) (st' := []) (h' := h61) rfl rfl rfl ?_
            have x54 : hh q = 59 ∧ ja h54 60 17 = q + 1 := by
              rcases f54 with ⟨a, -, c⟩ | ⟨-, a, -⟩
              · exact ⟨a.trans k59, c⟩
              · exact absurd a g57
            have y54 : ja h54 60 9 = ja h0 60 9 := (jso hs54 (by decide)).trans y9
            have m54 : ja h54 60 46 = j := (jso hs54 (by decide)).trans e46
            rw [x54.2, y54, m54] at f61
            have m61 : 0 ≤ ja h61 60 46 ∧ ja h61 60 46 ≤ 16 := ja_bd hH61 (i := 60) (k := 46) rfl
            refine (bg_ok hxa hH61 m61 0 (by decide) ls72 (jM_pick hl72 [0, 1] rfl)).mono ?_
            rintro rv h9 ⟨z, q1, q2, q3, q4, q5⟩
            refine ⟨z, q1, q2, (hs.tr ((hs54.sub (by decide)).tr (hs61.sub (by decide)))).tr (q3.sub (by decide)), q4, ?_⟩
            refine Or.inr (Or.inr ⟨by omega, x54.1, ?_⟩)
            rcases f61 with ⟨a, -, c⟩ | ⟨a, b, -, c⟩ | ⟨a, b, f, r, c, e⟩
            · exact Or.inl ⟨a, by omega⟩
            · exact Or.inr (Or.inl ⟨a, b, by omega⟩)
            · rcases e with ⟨e1, -, e3⟩ | ⟨-, e2, -⟩
              · exact Or.inr (Or.inr ⟨a, b, f, r, c, Or.inl ⟨e1, by omega⟩⟩)
              · exact absurd g64 (by omega)
          · have g64 := jc1_eq_f hc64
            refine az_X_step (pc' := 68) (ls' := ls) (st' := [.int 1]) (h' := h61) rfl rfl rfl ?_
            refine az_X_step (pc' := 72) (ls' := ls) (st' := [.int 1]) (h' := h61) rfl rfl rfl ?_
            refine jm_istore_n (l' := [(2, .int 1), (0, .ref (P.1 + 60))]) rfl rfl (by decide) hl rfl rfl (fun ls72 hl72 => ?_)
            refine az_X_step (pc' := 36) (ls' := ls72) (st' := []) (h' := h61) rfl rfl rfl ?_
            have x54 : hh q = 59 ∧ ja h54 60 17 = q + 1 := by
              rcases f54 with ⟨a, -, c⟩ | ⟨-, a, -⟩
              · exact ⟨a.trans k59, c⟩
              · exact absurd a g57
            have y54 : ja h54 60 9 = ja h0 60 9 := (jso hs54 (by decide)).trans y9
            have m54 : ja h54 60 46 = j := (jso hs54 (by decide)).trans e46
            rw [x54.2, y54, m54] at f61
            rcases f61 with ⟨-, a, -⟩ | ⟨-, -, a, -⟩ | ⟨a, b, f, r, c, e⟩
            · exact absurd a g64
            · exact absurd a g64
            · rcases e with ⟨-, e2, -⟩ | ⟨e1, -, e3, e4⟩
              · exact absurd e2 g64
              · refine (ih (j + 1) r 1 h61 ls72 (jM_pick hl72 [0, 1] rfl) hH61 (hs.tr ((hs54.sub (by decide)).tr (hs61.sub (by decide)))) (((jso hs61 (by decide)).trans (jso hs54 (by decide))).trans e8) e3 (jBR_so hs61 (by decide) (jBR_so hs54 (by decide) hb)) (by decide) (by omega) (by omega) (by omega)).mono ?_
                rintro rv h9 ⟨z, q1, q2, q3, q4, q5⟩
                refine ⟨z, q1, q2, q3, q4, Or.inr (Or.inr ⟨by omega, x54.1, Or.inr (Or.inr ⟨a, b, f, r, c, ?_⟩)⟩)⟩
                rcases q5 with ⟨u1, u2⟩ | ⟨u1, u2, u3⟩ | ⟨u1, u2, u3⟩
                · exact Or.inr (Or.inl ⟨e1, u1, by omega⟩)
                · exact Or.inr (Or.inr (Or.inl ⟨e1, u1, u2, u3⟩))
                · exact Or.inr (Or.inr (Or.inr ⟨e1, u1, u2, by rw [show (j : Int) + 1 = ((j + 1 : Nat) : Int) by omega]; exact u3⟩))
theorem book1_ok {P : si_P} (hxa : P.2.1 < P.1) {d : Nat} {h : si_H} (hH : az_HI P az_tb h) (hy : ja h 60 9 ≤ 1440) (a : Int32) : az_X P (d + 5) 271 0 (lv_args 0 [.ref (P.1 + 60), .int a]) [] h (fun rv h' => ∃ z : Int32, rv = some (.int z) ∧ az_HI P az_tb h' ∧ az_same_out [(60, 11), (60, 16), (60, 17), (60, 18), (60, 19), (60, 20), (60, 22), (60, 24), (60, 46), (64, 1000000), (65, 1000000), (66, 1000000), (67, 1000000), (87, 1000000), (88, 1000000), (89, 1000000), (90, 1000000)] h h' ∧ (((1 ≤ a.toInt ∧ a.toInt ≤ 160 ∧ a.toInt ≤ ja h 60 16) ∧ ja h' 60 16 = 0 ∧ jLB (fun i : Int => if 0 ≤ i ∧ i < a.toInt then ja h 71 i % 256 else -1) (ja h 60 9) a.toInt 17 0 0 z.toInt) ∨ (¬ (1 ≤ a.toInt ∧ a.toInt ≤ 160 ∧ a.toInt ≤ ja h 60 16) ∧ ja h' 60 16 = ja h 60 16 ∧ z.toInt = -1))) := by
  have hh1 : ∀ i : Int, ((fun i : Int => if 0 ≤ i ∧ i < a.toInt then ja h 71 i % 256 else -1)) i ≤ 255 := fun i => by
    show (if 0 ≤ i ∧ i < a.toInt then ja h 71 i % 256 else -1) ≤ 255
    split <;> omega
  have hb : ∀ n : Int, n = a.toInt → jBR h n (fun i : Int => if 0 ≤ i ∧ i < a.toInt then ja h 71 i % 256 else -1) := fun n e => by
    subst e
    exact ⟨fun i i0 i1 => by show _ = if 0 ≤ i ∧ i < a.toInt then ja h 71 i % 256 else -1; rw [if_pos ⟨i0, i1⟩], fun i i1 => by show (if 0 ≤ i ∧ i < a.toInt then ja h 71 i % 256 else -1) = -1; rw [if_neg (by omega)]⟩
  replace hb := hb a.toInt rfl
  have hl : jM [(0, .ref (P.1 + 60)), (1, .int a)] (lv_args 0 [.ref (P.1 + 60), .int a]) := jM_args [0, 1] rfl (by decide)
  generalize lv_args 0 [.ref (P.1 + 60), .int a] = ls at hl
  have km1 : ((-1) : Int32).toInt = (-1) := by decide
  have k0 : (0 : Int32).toInt = 0 := by decide
  have k1 : (1 : Int32).toInt = 1 := by decide
  have k160 : (160 : Int32).toInt = 160 := by decide
  refine jm_iload_n (x := a) rfl rfl (jM_at hl 1 rfl) ?_
  refine az_X_step (pc' := 2) (ls' := ls) (st' := [.int 1, .int a]) (h' := h) rfl rfl rfl ?_
  refine az_X_step (pc' := 5) (ls' := ls) (st' := [.int 160, .int 1, .int a]) (h' := h) rfl rfl rfl ?_
  refine az_X_call (m' := 202) (as := [.int a, .int 1, .int 160]) (rest := []) rfl rfl rfl rfl rfl rfl ?_
  refine (rin_ok a 1 160).mono ?_
  rintro rv5 h5 ⟨q5, z5, rfl, ez5⟩
  subst h5
  show az_X P _ 271 8 ls [.int z5] _ _
  refine jx_if (t := 19) rfl rfl rfl (fun hc8 => ?_) (fun hc8 => ?_)
  · have g8 := jc1_eq_t hc8
    refine az_X_step (pc' := 20) (ls' := ls) (st' := [.int (-1)]) (h' := h) rfl rfl rfl ?_
    refine jx_ret rfl rfl rfl ?_
    exact ⟨(-1), rfl, hH, az_same_out.rf, Or.inr ⟨by omega, rfl, by decide⟩⟩
  · have g8 := jc1_eq_f hc8
    refine jm_iload_n (x := a) rfl rfl (jM_at hl 1 rfl) ?_
    refine jm_aload_n (x := P.1 + 60) rfl rfl (jM_at hl 0 rfl) ?_
    refine jn_gf (i := 60) (k := 16) rfl rfl hH (by decide) (hH.2 60 _ rfl).1 rfl rfl (fun z13 (ez13 : z13.toInt = ja h 60 16) (bz13 : 0 ≤ z13.toInt ∧ z13.toInt ≤ 260) => ?_)
    refine jx_ic (t := 21) rfl rfl rfl (fun hc16 => ?_) (fun hc16 => ?_)
    · have g16 := jc2_le_t hc16
      refine jm_aload_n (x := P.1 + 60) rfl rfl (jM_at hl 0 rfl) ?_
      refine jm_iload_n (x := a) rfl rfl (jM_at hl 1 rfl) ?_
      refine az_X_call (m' := 260) (as := [.ref (P.1 + 60), .int a]) (rest := []) rfl rfl rfl rfl rfl ?_ ?_
      · unfold si_call
        dsimp only
        rw [if_pos ⟨rfl, rfl⟩]
        show (match si_ix P h (P.1 + 60) with | some i => _ | none => none) = _
        rw [jix hH (by decide)]
        dsimp only
        rw [(hH.2 60 _ rfl).1]
        rfl
      refine (bt_ok hH a (by omega)).mono ?_
      rintro rv23 h23 ⟨rfl, hH23, hs23, f23⟩
      show az_X P _ 271 26 ls [] _ _
      refine jm_aload_n (x := P.1 + 60) rfl rfl (jM_at hl 0 rfl) ?_
      refine az_X_step (pc' := 28) (ls' := ls) (st' := [.int 0, .ref (P.1 + 60)]) (h' := h23) rfl rfl rfl ?_
      refine jn_pf (i := 60) (k := 46) (x := 0) rfl rfl hH23 (by decide) rfl (hH23.2 60 _ rfl).1 rfl rfl (by decide) (by decide) (by show 0 ≤ _; omega) (by show _ ≤ 16; omega) (fun h28 hH28 hs28 (t28 : ja h28 60 46 = (0 : Int32).toInt) => ?_)
      replace t28 : ja h28 60 46 = 0 := t28.trans (by decide)
      refine jm_aload_n (x := P.1 + 60) rfl rfl (jM_at hl 0 rfl) ?_
      refine az_X_call (m' := 270) (as := [.ref (P.1 + 60)]) (rest := []) rfl rfl rfl rfl rfl ?_ ?_
      · unfold si_call
        dsimp only
        rw [if_pos ⟨rfl, rfl⟩]
        show (match si_ix P h28 (P.1 + 60) with | some i => _ | none => none) = _
        rw [jix hH28 (by decide)]
        dsimp only
        rw [(hH28.2 60 _ rfl).1]
        rfl
      refine (rp_ok (d := d) hH28 (n := a.toInt) (by omega) ((jso hs28 (by decide)).trans f23.2) rfl (jBR_so hs28 (by decide) (jBR_so hs23 (by decide) hb)) hh1 (by rw [t28]; omega) (by rw [(jso hs28 (by decide) : ja h28 60 9 = ja h23 60 9), (jso hs23 (by decide) : ja h23 60 9 = ja h 60 9)]; exact hy)).mono ?_
      rintro rv32 h32 ⟨z32, rfl, hH32, hs32, f32⟩
      show az_X P _ 271 35 ls [.int z32] _ _
      refine jm_istore_n (l' := [(2, .int z32), (0, .ref (P.1 + 60)), (1, .int a)]) rfl rfl (by decide) hl rfl rfl (fun ls35 hl35 => ?_)
      have y28 : ja h28 60 9 = ja h 60 9 := (jso hs28 (by decide)).trans (jso hs23 (by decide))
      have p28 : ja h28 60 17 = 0 := (jso hs28 (by decide)).trans f23.1
      have l28 : ja h28 60 46 = 0 := t28
      rw [p28, y28, l28] at f32
      have m32 : 0 ≤ ja h32 60 46 ∧ ja h32 60 46 ≤ 16 := ja_bd hH32 (i := 60) (k := 46) rfl
      have OUT : az_same_out [(60, 11), (60, 16), (60, 17), (60, 18), (60, 19), (60, 20), (60, 22), (60, 24), (60, 46), (64, 1000000), (65, 1000000), (66, 1000000), (67, 1000000), (87, 1000000), (88, 1000000), (89, 1000000), (90, 1000000)] h h32 := ((hs23.sub (by decide)).tr ((hs28.sub (by decide)).tr (hs32.sub (by decide))))
      rcases (by omega : z32.toInt = 0 ∨ z32.toInt ≠ 0) with g | g
      · refine (bg_ok hxa hH32 m32 z32 g ls35 (jM_pick hl35 [0, 1] rfl)).mono ?_
        rintro rv h9 ⟨z, q1, q2, q3, q4, q5⟩
        refine ⟨z, q1, q2, OUT.tr (q3.sub (by decide)), Or.inl ⟨by omega, q4, ?_⟩⟩
        rcases f32 with ⟨la, -, c⟩ | ⟨la, b, -, c⟩ | ⟨la, b, f, r, c, e⟩
        · exact Or.inl ⟨la, by omega⟩
        · exact Or.inr (Or.inl ⟨la, b, by omega⟩)
        · rcases e with ⟨e1, -, e3⟩ | ⟨-, e2, -⟩
          · exact Or.inr (Or.inr ⟨la, b, f, r, c, Or.inl ⟨e1, by omega⟩⟩)
          · omega
      · rcases f32 with ⟨-, la, -⟩ | ⟨-, -, la, -⟩ | ⟨la, b, f, r, c, e⟩
        · exact absurd la g
        · exact absurd la g
        · rcases e with ⟨-, e2, -⟩ | ⟨e1, e2, e3, e4⟩
          · exact absurd e2 g
          · refine (bk_l (d := d) hxa (h0 := h32) (n := a.toInt) (hh := (fun i : Int => if 0 ≤ i ∧ i < a.toInt then ja h 71 i % 256 else -1)) (by omega) hh1 (by rw [jso hs32 (by decide), y28]; exact hy) 16 1 r z32 h32 ls35 (jM_pick hl35 [0, 1] rfl) hH32 az_same_out.rf (((jso hs32 (by decide)).trans (jso hs28 (by decide))).trans f23.2) e3 (jBR_so hs32 (by decide) (jBR_so hs28 (by decide) (jBR_so hs23 (by decide) hb))) e2 (by omega) (by omega) (by omega)).mono ?_
            rintro rv h9 ⟨z, q1, q2, q3, q4, q5⟩
            rw [jso hs32 (by decide), y28] at q5
            refine ⟨z, q1, q2, OUT.tr (q3.sub (by decide)), Or.inl ⟨by omega, q4, Or.inr (Or.inr ⟨la, b, f, r, c, ?_⟩)⟩⟩
            rcases q5 with ⟨u1, u2⟩ | ⟨u1, u2, u3⟩ | ⟨u1, u2, u3⟩
            · exact Or.inr (Or.inl ⟨e1, u1, by omega⟩)
            · exact Or.inr (Or.inr (Or.inl ⟨e1, u1, u2, u3⟩))
            · exact Or.inr (Or.inr (Or.inr ⟨e1, u1, u2, by rw [show (0 : Int) + 1 = ((1 : Nat) : Int) by omega]; exact u3⟩))
    · have g16 := jc2_le_f hc16
      refine az_X_step (pc' := 20) (ls' := ls) (st' := [.int (-1)]) (h' := h) rfl rfl rfl ?_
      refine jx_ret rfl rfl rfl ?_
      exact ⟨(-1), rfl, hH, az_same_out.rf, Or.inr ⟨by omega, rfl, by decide⟩⟩
