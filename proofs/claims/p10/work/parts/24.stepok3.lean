section AzStepMain
variable {P : si_P} {tb : List az_B} {md : List (Nat × Nat)} {ρ : Nat → Int} {h : si_H} {C : az_C} {pc : Nat} {aL : az_Ls} {aS : List az_V} {ls : si_L} {st : List Value} {L : List az_K}
set_option maxHeartbeats 4000000 in
theorem az_step_ok {sp : Bool} {y : si_M} {e : si_E} (ht : az_tbk tb = true) (hH : az_HI P tb h) (hxa : P.2.1 < P.1) (hg : az_g P ρ h C) (hL : az_gL P ρ C.1.length aL ls) (hS : az_gS P ρ C.1.length aS st) (hs : az_step tb md sp y.2.2.2.1 pc e C aL aS = some L) : az_post P tb md ρ h C.1.length L (si_step P y pc e ls st h) := by
  obtain ⟨i, n, a, b, q⟩ := e
  unfold az_step at hs
  dsimp only at hs
  split at hs
  case h_1 =>
    split at hs
    · rename_i k hc
      obtain ⟨rfl, hc⟩ := hc
      unfold az_i32 at hc
      rw [Bool.and_eq_true, decide_eq_true_eq, decide_eq_true_eq] at hc
      exact az_pone (z := Int32.ofInt k) hH hL hS (az_out_id hg (az_wf_c _ _) (by rw [az_c_ev, nm_ofInt hc.1 hc.2])) rfl hs
    · cases hs
  case h_2 =>
    split at hs
    · rename_i k hc
      obtain ⟨rfl, hc1, hc2⟩ := hc
      refine az_pone (z := (Int8.ofInt k).toInt32) hH hL hS (az_out_id hg (az_wf_c _ _) ?_) rfl hs
      rw [az_c_ev, Int8.toInt_toInt32, Int8.toInt_ofInt_of_le (by omega) (by omega)]
    · cases hs
  case h_3 =>
    split at hs
    · rename_i k hc
      obtain ⟨rfl, hc1, hc2⟩ := hc
      refine az_pone (z := (Int16.ofInt k).toInt32) hH hL hS (az_out_id hg (az_wf_c _ _) ?_) rfl hs
      rw [az_c_ev, Int16.toInt_toInt32, Int16.toInt_ofInt_of_le (by omega) (by omega)]
    · cases hs
  case h_4 =>
    split at hs
    · rename_i hc
      subst hc
      exact az_psame hH hg rfl hs hL ⟨trivial, trivial, hS⟩
    · cases hs
  case h_5 =>
    split at hs
    · rename_i hc
      subst hc
      split at hs
      · rename_i hb
        subst hb
        split at hs
        · rename_i ha
          refine az_pone (z := Int32.ofNat a) hH hL hS (az_out_id hg (az_wf_c _ _) ?_) rfl hs
          rw [az_c_ev, Int32.toInt_ofNat_of_lt (by omega)]
        · cases hs
      · rename_i hb
        split at hs
        · rename_i ha
          refine az_psame hH hg (st' := .ref (P.2.2.2.2 a) :: st) (ls' := ls) (pc' := pc + 2) ?_ hs hL ⟨trivial, ?_, hS⟩
          · show (match (if b = 0 then some (Value.int (Int32.ofNat a)) else some (Value.ref (P.2.2.2.2 a))) with
              | some v => some (pc + 2, ls, v :: st, h)
              | none => none) = _
            rw [if_neg hb]
          · show P.2.2.2.2 a = (if a = 0 then P.2.1 else P.2.2.2.2 a)
            rw [if_neg ha]
        · cases hs
    · cases hs
  case h_6 =>
    split at hs
    · rename_i hc
      obtain ⟨rfl, hb, ha⟩ := hc
      subst hb
      refine az_pone (z := Int32.ofNat a) hH hL hS (az_out_id hg (az_wf_c _ _) ?_) rfl hs
      rw [az_c_ev, Int32.toInt_ofNat_of_lt (by omega)]
    · cases hs
  case h_7 =>
    split at hs
    · rename_i hc
      subst hc
      exact az_psame hH hg rfl hs hL ⟨trivial, trivial, hS⟩
    · cases hs
  case h_20 =>
    split at hs
    · rename_i k m hc
      obtain ⟨rfl, hk, hm⟩ := hc
      unfold az_i32 at hm
      rw [Bool.and_eq_true, decide_eq_true_eq, decide_eq_true_eq] at hm
      split at hs
      · rename_i c hv
        obtain ⟨w1, w, w2, w3⟩ := hL k _ hv
        obtain ⟨x, rfl, hx⟩ := az_gV_int w3
        have ho := az_val_out (z := (x + Int32.ofInt m).toInt) hg (az_wf_plus (k := m) w1) (by rw [az_plus_ev, Int32.toInt_add, hx, nm_ofInt hm.1 hm.2]) (nm_lo _) (nm_hi _)
        obtain ⟨σ, h1, h2, h3, h4, h5⟩ := ho
        cases hs
        refine ⟨pc + 3, si_st1 ls k (.int (x + Int32.ofInt m)), st, h, ?_, hH, az_same_out.rf, _, List.mem_singleton.mpr rfl, σ, h1, h3, h2, rfl, az_st1_ok (hL.ext h1 h3) h4 h5, hS.ext h1 h3⟩
        show (if 3 = 3 ∧ k < y.2.2.2.1 then (match si_ld k ls with
          | some (.int x) => some (pc + 3, si_st1 ls k (.int (x + Int32.ofInt m)), st, h)
          | _ => none) else none) = _
        rw [if_pos ⟨rfl, hk⟩, w2]
      · cases hs
    · cases hs
  case h_32 =>
    split at hs
    · rename_i hc
      subst hc
      split at hs
      · obtain ⟨w, s1, rfl, -, g1, hS1⟩ := az_gS_cons hS
        obtain ⟨w2, s2, rfl, -, g2, hS2⟩ := az_gS_cons hS1
        obtain ⟨x1, rfl⟩ := az_gV_long g1
        obtain ⟨x2, rfl⟩ := az_gV_long g2
        exact az_psame hH hg rfl hs hL ⟨trivial, trivial, hS2⟩
      · cases hs
    · cases hs
  case h_33 =>
    split at hs
    · rename_i hc
      subst hc
      split at hs
      · obtain ⟨w, s1, rfl, -, g1, hS1⟩ := az_gS_cons hS
        obtain ⟨w2, s2, rfl, -, g2, hS2⟩ := az_gS_cons hS1
        obtain ⟨x1, rfl⟩ := az_gV_long g1
        obtain ⟨x2, rfl⟩ := az_gV_long g2
        exact az_pone (z := lg_cmp x2 x1) hH hL hS2 (az_fr_out hg (nm_lcmp _ _).1 (nm_lcmp _ _).2) rfl hs
      · cases hs
    · cases hs
  case h_34 =>
    split at hs
    · rename_i hc
      subst hc
      split at hs
      · obtain ⟨w, s1, rfl, wf1, g1, hS1⟩ := az_gS_cons hS
        obtain ⟨x1, rfl, e1⟩ := az_gV_int g1
        exact az_pone (z := -x1) hH hL hS1 (az_val_out hg (az_wf_neg wf1) (by rw [az_neg_ev, Int32.toInt_neg, e1]) (nm_lo _) (nm_hi _)) rfl hs
      · cases hs
    · cases hs
  case h_35 =>
    split at hs
    · rename_i hc
      subst hc
      split at hs
      · obtain ⟨w, s1, rfl, wf1, g1, hS1⟩ := az_gS_cons hS
        obtain ⟨x1, rfl, e1⟩ := az_gV_int g1
        refine az_pone (z := x1.toInt8.toInt32) hH hL hS1 ?_ rfl hs
        split
        · rename_i hc
          rw [Bool.and_eq_true] at hc
          have b1 := az_ge_ok hg.1 hc.1
          have b2 := az_ge_ok hg.1 hc.2
          rw [az_plus_ev] at b1 b2
          rw [az_neg_ev] at b2
          exact az_out_id hg wf1 (by rw [nm_i2b_id (by omega) (by omega)]; exact e1)
        · exact az_fr_out hg (nm_i2b _).1 (nm_i2b _).2
      · cases hs
    · cases hs
  case h_36 =>
    split at hs
    · rename_i hc
      subst hc
      split at hs
      · obtain ⟨w, s1, rfl, wf1, g1, hS1⟩ := az_gS_cons hS
        obtain ⟨x1, rfl, e1⟩ := az_gV_int g1
        refine az_pone (z := (x1.toUInt32 % 65536).toInt32) hH hL hS1 ?_ rfl hs
        split
        · rename_i hc
          rw [Bool.and_eq_true] at hc
          have b1 := az_ge_ok hg.1 hc.1
          have b2 := az_ge_ok hg.1 hc.2
          rw [az_plus_ev] at b2
          rw [az_neg_ev] at b2
          exact az_out_id hg wf1 (by rw [nm_i2c_id (by omega) (by omega)]; exact e1)
        · exact az_fr_out hg (nm_i2c _).1 (nm_i2c _).2
      · cases hs
    · cases hs
  case h_37 =>
    split at hs
    · rename_i hc
      subst hc
      split at hs
      · obtain ⟨w, s1, rfl, wf1, g1, hS1⟩ := az_gS_cons hS
        obtain ⟨x1, rfl, e1⟩ := az_gV_int g1
        exact az_psame hH hg rfl hs hL ⟨trivial, trivial, hS1⟩
      · cases hs
    · cases hs
  case h_38 =>
    split at hs
    · rename_i hc
      subst hc
      split at hs
      · obtain ⟨w, s1, rfl, wf1, g1, hS1⟩ := az_gS_cons hS
        obtain ⟨x1, rfl⟩ := az_gV_long g1
        exact az_pone (z := x1.toInt32) hH hL hS1 (az_top_out _ hg) rfl hs
      · cases hs
    · cases hs
  case h_39 =>
    split at hs
    · rename_i hc
      subst hc
      split at hs
      · rename_i v r
        split at hs
        · rename_i hk
          obtain ⟨w, s1, rfl, wf1, g1, hS1⟩ := az_gS_cons hS
          refine az_psame hH hg (pc' := pc + 1) (ls' := ls) (st' := s1) ?_ hs hL hS1
          show (if (1 : Nat) = 1 then (if w.category = 1 then some (pc + 1, ls, s1, h) else none) else none) = _
          rw [if_pos rfl, if_pos ((az_cat_ok g1).trans hk)]
        · cases hs
      · cases hs
    · cases hs
  case h_40 =>
    split at hs
    · rename_i hc
      subst hc
      split at hs
      · rename_i v r
        split at hs
        · rename_i hk
          obtain ⟨w, s1, rfl, wf1, g1, hS1⟩ := az_gS_cons hS
          refine az_psame hH hg (pc' := pc + 1) (ls' := ls) (st' := w :: w :: s1) ?_ hs hL ⟨wf1, g1, wf1, g1, hS1⟩
          show (if (1 : Nat) = 1 then (if w.category = 1 then some (pc + 1, ls, w :: w :: s1, h) else none) else none) = _
          rw [if_pos rfl, if_pos ((az_cat_ok g1).trans hk)]
        · cases hs
      · cases hs
    · cases hs
  case h_41 =>
    split at hs
    · rename_i k off hc
      subst hc
      split at hs
      · rename_i x r t htg
        obtain ⟨w, s1, rfl, wf1, g1, hS1⟩ := az_gS_cons hS
        obtain ⟨x1, rfl, e1⟩ := az_gV_int g1
        refine az_pbr hH hg hL hS1 wf1 (b := si_c1 k x1) (by rw [az_c1, e1]) ?_ hs
        show (if (3 : Nat) = 3 then (match (Value.int x1 :: s1 : List Value), si_tgt pc off with
          | .int x :: r, some t => some (if si_c1 k x = true then t else pc + 3, ls, r, h)
          | _, _ => none) else none) = _
        rw [if_pos rfl, htg]
      · cases hs
    · cases hs
  case h_42 =>
    split at hs
    · rename_i k off hc
      subst hc
      split at hs
      · rename_i y2 x2 r t htg
        obtain ⟨w, s1, rfl, wf1, g1, hS1⟩ := az_gS_cons hS
        obtain ⟨w', s2, rfl, wf2, g2, hS2⟩ := az_gS_cons hS1
        obtain ⟨x1, rfl, e1⟩ := az_gV_int g1
        obtain ⟨x3, rfl, e3⟩ := az_gV_int g2
        refine az_pbr hH hg hL hS2 (az_wf_sub wf2 wf1) (b := si_c2 k x3 x1) (by rw [az_c2, az_sub_ev, e1, e3]) ?_ hs
        show (if (3 : Nat) = 3 then (match (Value.int x1 :: Value.int x3 :: s2 : List Value), si_tgt pc off with
          | .int y :: .int x :: r, some t => some (if si_c2 k x y = true then t else pc + 3, ls, r, h)
          | _, _ => none) else none) = _
        rw [if_pos rfl, htg]
      · cases hs
    · cases hs
  case h_43 =>
    split at hs
    · rename_i off hc
      subst hc
      split at hs
      · rename_i t htg
        refine az_psame hH hg (pc' := t) (ls' := ls) (st' := st) ?_ hs hL hS
        show (if (3 : Nat) = 3 then (match si_tgt pc off with
          | some t => some (t, ls, st, h)
          | none => none) else none) = _
        rw [if_pos rfl, htg]
      · cases hs
    · cases hs
  case h_8 | h_9 | h_10 | h_11 | h_12 | h_13 =>
    split at hs
    · rename_i k t hr
      split at hs
      · rename_i v hv
        split at hs
        · rename_i hk
          obtain ⟨w1, w, w2, w3⟩ := hL k v hv
          refine az_psame hH hg (pc' := pc + n) (ls' := ls) (st' := w :: st) ?_ hs hL ⟨w1, w3, hS⟩
          have hkd : si_kd w t = true := (az_kd_ok w3).trans hk
          unfold si_step
          dsimp only
          rw [hr]
          dsimp only
          rw [w2]
          dsimp only
          rw [if_pos hkd]
        · cases hs
      · cases hs
    · cases hs
  case h_14 | h_15 | h_16 | h_17 | h_18 | h_19 =>
    split at hs
    · rename_i k t v r hr
      split at hs
      · rename_i hk
        obtain ⟨w, s1, rfl, wf1, g1, hS1⟩ := az_gS_cons hS
        have hkd : si_kd w t = true := (az_kd_ok g1).trans hk.1
        have hcat := az_cat_ok g1
        refine az_psame hH hg (pc' := pc + n) (ls' := if w.category = 2 then si_st2 ls k w else si_st1 ls k w) (st' := s1) ?_ hs ?_ hS1
        · unfold si_step
          dsimp only
          rw [hr]
          dsimp only
          rw [if_pos ⟨hkd, by rw [hcat]; exact hk.2⟩]
        · rw [hcat]
          split
          · exact az_st2_ok hL wf1 g1
          · exact az_st1_ok hL wf1 g1
      · cases hs
    · cases hs
  case h_21 | h_22 | h_23 | h_24 | h_25 | h_26 | h_27 | h_28 | h_29 | h_30 | h_31 =>
    split at hs
    · rename_i hc
      subst hc
      split at hs
      · rename_i y2 x2 r
        obtain ⟨w, s1, rfl, wf1, g1, hS1⟩ := az_gS_cons hS
        obtain ⟨w', s2, rfl, wf2, g2, hS2⟩ := az_gS_cons hS1
        obtain ⟨x1, rfl, e1⟩ := az_gV_int g1
        obtain ⟨x3, rfl, e3⟩ := az_gV_int g2
        split at hs
        · rename_i hsp
          first
            | (exfalso; revert hsp; cases sp <;> decide)
            | (cases hs
               refine az_sp2_ok (z := x3 - x1) hH hg (az_wf_sub wf2 wf1) hL hS2 (by rw [az_sub_ev, Int32.toInt_sub, e1, e3]) ?_ ?_ rfl
               · have := nm_lo x3; have := nm_hi x1
                 rw [az_sub_ev]; omega
               · have := nm_hi x3; have := nm_lo x1
                 rw [az_sub_ev]; omega)
        · split at hs
          · rename_i qq hq
            obtain ⟨z, hz, ho⟩ := az_bin_ok hg wf2 wf1 e3 e1 hq
            refine az_pone (z := z) hH hL hS2 ho ?_ hs
            unfold si_step
            dsimp only
            rw [if_pos rfl, hz]
          · cases hs
      · cases hs
    · cases hs
  case h_44 =>
    rename_i d lo hi offs
    split at hs
    · rename_i x r t htg
      obtain ⟨w, s1, rfl, wf1, g1, hS1⟩ := az_gS_cons hS
      obtain ⟨x1, rfl, e1⟩ := az_gV_int g1
      split at hs
      · rename_i hsz
        split at hs
        · rename_i l hl
          cases hs
          by_cases ho : x1.toInt < lo ∨ hi < x1.toInt
          · obtain ⟨D, d1, d2, d3⟩ := az_alt_mem (aL := aL) (aS := r) (pc' := t) (fs := [[az_plus (az_neg x) (lo - 1)], [az_plus x (-hi - 1)]]) hg (by
              rcases ho with ho | ho
              · exact ⟨_, List.mem_cons_self, fun a ha => by
                  rcases List.mem_singleton.mp ha with rfl
                  exact ⟨by rw [az_plus_ev, az_neg_ev]; omega, az_wf_plus (az_wf_neg wf1)⟩⟩
              · exact ⟨_, List.mem_cons_of_mem _ (List.mem_singleton.mpr rfl), fun a ha => by
                  rcases List.mem_singleton.mp ha with rfl
                  exact ⟨by rw [az_plus_ev]; omega, az_wf_plus wf1⟩⟩)
            refine az_palt hH hL hS1 d2 d3 (List.mem_append_left _ d1) ?_
            show (if x1.toInt < lo ∨ hi < x1.toInt then (match si_tgt pc d with
              | some t => some (t, ls, s1, h)
              | none => none) else _) = _
            rw [if_pos ho, htg]
          · have hk : (x1.toInt - lo).toNat < offs.size := by omega
            have hget : offs.toList[(x1.toInt - lo).toNat]? = some offs[(x1.toInt - lo).toNat] := by simp [hk]
            obtain ⟨t', D, f1, f2, f3, f4⟩ := az_tsw_ok (z := x1.toInt) hg wf1 e1 offs.toList 0 l hl _ _ hget (by omega)
            refine az_palt hH hL hS1 f3 f4 (List.mem_append_right _ f2) ?_
            show (if x1.toInt < lo ∨ hi < x1.toInt then _ else (match offs[(x1.toInt - lo).toNat]? with
              | some off => (match si_tgt pc off with
                | some t => some (t, ls, s1, h)
                | none => none)
              | none => none)) = _
            rw [if_neg ho, Array.getElem?_eq_getElem hk]
            dsimp only
            rw [f1]
        · cases hs
      · cases hs
    · cases hs
  case h_45 =>
    rename_i d ps
    split at hs
    · rename_i hp
      split at hs
      · rename_i x r t htg
        obtain ⟨w, s1, rfl, wf1, g1, hS1⟩ := az_gS_cons hS
        obtain ⟨x1, rfl, e1⟩ := az_gV_int g1
        split at hs
        · rename_i l hl
          cases hs
          have hstep : si_step P y pc (.lookupswitch d ps, n, a, b, q) ls (.int x1 :: s1) h = (match si_tgt pc (Op.lookupswitch.offset ps.toList d x1.toInt) with
              | some t => some (t, ls, s1, h)
              | none => none) := if_pos hp
          rcases az_lsw_ok (d := d) (z := x1.toInt) hg wf1 e1 ps.toList l hl with e | ⟨t', D, f1, f2, f3, f4⟩
          · rw [e.1, htg] at hstep
            obtain ⟨D, d1, d2, d3⟩ := az_lsd_ok e1 ps.toList C hg wf1 e.2
            rw [d1]
            exact az_palt hH hL hS1 d2 d3 (List.mem_append_left _ (List.mem_map.mpr ⟨D, List.mem_singleton.mpr rfl, rfl⟩)) hstep
          · rw [f1] at hstep
            exact az_palt hH hL hS1 f3 f4 (List.mem_append_right _ f2) hstep
        · cases hs
      · cases hs
    · cases hs
  case h_46 =>
    rename_i idx
    split at hs
    · rename_i hc
      subst hc
      split at hs
      · rename_i j r
        obtain ⟨w, s1, rfl, wf1, g1, hS1⟩ := az_gS_cons hS
        cases az_gV_cell g1
        split at hs
        · rename_i o htb
          obtain ⟨hne, hte⟩ := az_tb_i ht htb
          obtain ⟨hix, hlt⟩ := az_ix_ok hH htb
          obtain ⟨hsh, hfl⟩ := hH.2 j _ htb
          split at hs
          · rename_i ho
            subst ho
            unfold az_tbe at hte
            rw [Bool.and_eq_true, decide_eq_true_eq] at hte
            have hstep : si_step P y pc (.getfield idx, 3, o.1, b, q) ls (.ref (P.1 + j) :: s1) h = some (pc + 3, ls, h.2.2 j b :: s1, h) := by
              show (if (3 : Nat) = 3 then (match si_ix P h (P.1 + j) with
                | some i => if h.2.1 i = .inl (o.1, ((si_cl[o.1]?).map (fun q => q.2.2)).getD 0) then some (pc + 3, ls, h.2.2 i b :: s1, h) else none
                | none => none) else none) = _
              rw [if_pos rfl, hix]
              dsimp only
              rw [if_pos (by rw [hsh, hte.1])]
            split at hs
            · rename_i bb hq
              obtain ⟨x, hx1, hx2, hx3⟩ := hfl b _ hq
              have hx1 : h.2.2 j b = .int x := hx1
              refine az_pone (z := x) hH hL hS1 (az_rd_out hg hne (az_wf_c _ _) (by rw [az_c_ev]; omega) (by rw [az_c_ev, Int.toNat_natCast]; exact hx1) hx2 hx3) ?_ hs
              rw [hstep, hx1]
            · rename_i cs hq
              obtain ⟨k, hk1, hk2⟩ := hfl b _ hq
              cases hs
              refine ⟨pc + 3, ls, h.2.2 j b :: s1, h, hstep, hH, az_same_out.rf, _, List.mem_map.mpr ⟨k, hk1, rfl⟩, ρ, az_ext.rf, Nat.le_refl _, hg, rfl, hL, trivial, ?_, hS1⟩
              rw [hk2]
              exact rfl
            · cases hs
          · cases hs
        · cases hs
      · cases hs
    · cases hs
  case h_47 =>
    rename_i idx
    split at hs
    · rename_i hc
      subst hc
      split at hs
      · rename_i v j r
        obtain ⟨w, s0, rfl, wfv, gv, hS0⟩ := az_gS_cons hS
        obtain ⟨w2, s1, rfl, -, g1, hS1⟩ := az_gS_cons hS0
        cases az_gV_cell g1
        split at hs
        · rename_i o htb
          obtain ⟨hne, hte⟩ := az_tb_i ht htb
          obtain ⟨hix, hlt⟩ := az_ix_ok hH htb
          obtain ⟨hsh, hfl⟩ := hH.2 j _ htb
          split at hs
          · rename_i hcond
            obtain ⟨ho, hfin, hmd⟩ := hcond
            subst ho
            unfold az_tbe at hte
            rw [Bool.and_eq_true, decide_eq_true_eq] at hte
            have hmi : az_in md j b = true := by unfold az_in; rw [hmd]; rfl
            have hstep : ∀ w : Value, narrow (si_fty o.1 b) w = w → fits (si_fty o.1 b) w = true → si_step P y pc (.putfield idx, 3, o.1, b, q) ls (w :: .ref (P.1 + j) :: s1) h = some (pc + 3, ls, s1, (h.1, h.2.1, si_set h.2.2 j b w)) := by
              intro w hn hf
              show (if (3 : Nat) = 3 then (match si_ix P h (P.1 + j) with
                | some i => if h.2.1 i = .inl (o.1, ((si_cl[o.1]?).map (fun q => q.2.2)).getD 0) ∧ narrow (si_fty o.1 b) w = w ∧ fits (si_fty o.1 b) w = true ∧ (si_fin o.1 b = false ∨ (y.2.2.2.2.2.1 = 2 ∧ y.1 = o.1)) then some (pc + 3, ls, s1, (h.1, h.2.1, si_set h.2.2 i b w)) else none
                | none => none) else none) = _
              rw [if_pos rfl, hix]
              dsimp only
              rw [if_pos ⟨by rw [hsh, hte.1], hn, hf, Or.inl hfin⟩]
            split at hs
            · rename_i bb c hq
              have htq := az_tqs_ok hte.2 b _ hq
              rw [Nat.zero_add] at htq
              unfold az_tq at htq
              rw [Bool.and_eq_true, decide_eq_true_eq] at htq
              obtain ⟨x, rfl, hx⟩ := az_gV_int gv
              split at hs
              · rename_i hbt
                obtain ⟨b1, b2⟩ := az_btw_ok hg hbt
                cases hs
                have hnf : narrow (si_fty o.1 b) (.int x) = .int x ∧ fits (si_fty o.1 b) (.int x) = true := by
                  rw [htq.1]
                  split
                  · exact ⟨vp_nar_int x, rfl⟩
                  · rename_i hb0
                    have h2 := htq.2
                    simp only [Bool.or_eq_true, Bool.and_eq_true, decide_eq_true_eq] at h2
                    rcases h2 with h2 | h2
                    · exact absurd h2 hb0
                    · rcases az_bool01 (x := x) (by omega) (by omega) with rfl | rfl
                      · exact ⟨rfl, rfl⟩
                      · exact ⟨rfl, rfl⟩
                refine ⟨_, _, _, _, hstep _ hnf.1 hnf.2, az_HI_set hH htb (fun q2 hq2 => ?_), az_out_set hmi, _, List.mem_singleton.mpr rfl, ρ, az_ext.rf, Nat.le_refl _, ?_, rfl, hL, hS1⟩
                · cases hq.symm.trans hq2
                  exact ⟨x, rfl, by omega, by omega⟩
                · have := az_tset_g (w := .int x) (v := some c) (I := az_c b) hg hne (az_wf_c _ _) (by rw [az_c_ev]; omega) (fun a ha => by cases ha; exact ⟨wfv, x, rfl, hx⟩)
                  rw [az_c_ev, Int.toNat_natCast] at this
                  exact this
              · cases hs
            · rename_i cs k hq
              have htq := az_tqs_ok hte.2 b _ hq
              rw [Nat.zero_add] at htq
              unfold az_tq at htq
              cases az_gV_cell gv
              split at hs
              · rename_i hbt
                cases hs
                have hnf : narrow (si_fty o.1 b) (.ref (P.1 + k)) = .ref (P.1 + k) ∧ fits (si_fty o.1 b) (.ref (P.1 + k)) = true := by
                  dsimp only at htq
                  split at htq
                  · rename_i hty
                    rw [hty]
                    exact ⟨rfl, rfl⟩
                  · rename_i hty
                    rw [hty]
                    exact ⟨rfl, rfl⟩
                  · cases htq
                refine ⟨_, _, _, _, hstep _ hnf.1 hnf.2, az_HI_set hH htb (fun q2 hq2 => ?_), az_out_set hmi, _, List.mem_singleton.mpr rfl, ρ, az_ext.rf, Nat.le_refl _, ?_, rfl, hL, hS1⟩
                · cases hq.symm.trans hq2
                  exact ⟨k, by simpa using hbt, rfl⟩
                · have := az_tset_g (w := .ref (P.1 + k)) (v := none) (I := az_c b) hg hne (az_wf_c _ _) (by rw [az_c_ev]; omega) (fun a ha => by cases ha)
                  rw [az_c_ev, Int.toNat_natCast] at this
                  exact this
              · cases hs
            · cases hs
          · cases hs
        · cases hs
      · cases hs
    · cases hs
  case h_48 =>
    split at hs
    · rename_i hc
      subst hc
      split at hs
      · rename_i I j r
        obtain ⟨w, s0, rfl, wfI, gI, hS0⟩ := az_gS_cons hS
        obtain ⟨w2, s1, rfl, -, g1, hS1⟩ := az_gS_cons hS0
        cases az_gV_cell g1
        obtain ⟨xi, rfl, exi⟩ := az_gV_int gI
        split at hs
        · rename_i bb htb
          obtain ⟨hne, hte⟩ := az_tb_i ht htb
          obtain ⟨hix, hlt⟩ := az_ix_ok hH htb
          obtain ⟨hsh, hfl⟩ := hH.2 j _ htb
          split at hs
          · rename_i hcond
            obtain ⟨hty, hidx⟩ := hcond
            obtain ⟨i0, i1, i2, i3⟩ := az_idx_ok hg exi hidx
            have hv := hfl _ i3
            unfold az_aok at hv
            rw [if_neg (by rw [hty]; decide)] at hv
            obtain ⟨x, hx1, hx2, hx3⟩ := hv
            refine az_pone (z := x) hH hL hS1 (az_rd_out hg hne wfI i0 hx1 hx2 hx3) ?_ hs
            show (if (1 : Nat) = 1 then (if P.1 + j = P.2.1 then _ else (match si_ald P h [.int] (P.1 + j) xi with
              | some v => some (pc + 1, ls, v :: s1, h)
              | none => none)) else none) = _
            rw [if_pos rfl, if_neg (by omega)]
            have : si_ald P h [.int] (P.1 + j) xi = some (.int x) := by
              unfold si_ald
              rw [hix]
              dsimp only
              rw [hsh]
              dsimp only
              rw [if_pos ⟨i1, by rw [hty]; exact List.mem_singleton.mpr rfl⟩, i2, hx1]
            rw [this]
          · cases hs
        · cases hs
      · rename_i I k r
        obtain ⟨w, s0, rfl, wfI, gI, hS0⟩ := az_gS_cons hS
        obtain ⟨w2, s1, rfl, -, g1, hS1⟩ := az_gS_cons hS0
        cases az_gV_ext g1
        obtain ⟨xi, rfl, exi⟩ := az_gV_int gI
        split at hs
        · rename_i hcond
          obtain ⟨rfl, hp⟩ := hcond
          have p0 := az_p2_g hg hp
          split at hs
          · rename_i qq hqq
            have hm := List.mem_of_find?_eq_some hqq
            have hp2 := List.find?_some hqq
            have hkey := (hg.2.2.2 qq hm).1.1 (of_decide_eq_true hp2)
            split at hs
            · rename_i hp3
              have p3 := az_p2_g hg hp3
              rw [az_plus_ev, az_sub_ev] at p3
              refine az_pone (z := P.2.2.2.1 xi.toNatClampNeg) hH hL hS1 (az_top_out _ hg) ?_ hs
              show (if (1 : Nat) = 1 then (if (if 0 = 0 then P.2.1 else P.2.2.2.2 0) = P.2.1 then (if si_in xi P.2.2.1 = true then some (pc + 1, ls, .int (P.2.2.2.1 xi.toNatClampNeg) :: s1, h) else none) else _) else none) = _
              rw [if_pos rfl, if_pos (if_pos rfl), if_pos]
              unfold si_in
              rw [Bool.and_eq_true, decide_eq_true_eq, decide_eq_true_eq, nm_leI]
              refine ⟨by show (0 : Int) ≤ xi.toInt; omega, ?_⟩
              show xi.toInt.toNat < _
              omega
            · cases hs
          · cases hs
        · cases hs
      · cases hs
    · cases hs
  case h_49 =>
    split at hs
    · rename_i hc
      subst hc
      split at hs
      · rename_i I j r
        obtain ⟨w, s0, rfl, wfI, gI, hS0⟩ := az_gS_cons hS
        obtain ⟨w2, s1, rfl, -, g1, hS1⟩ := az_gS_cons hS0
        cases az_gV_cell g1
        obtain ⟨xi, rfl, exi⟩ := az_gV_int gI
        split at hs
        · rename_i bb htb
          obtain ⟨hne, hte⟩ := az_tb_i ht htb
          obtain ⟨hix, hlt⟩ := az_ix_ok hH htb
          obtain ⟨hsh, hfl⟩ := hH.2 j _ htb
          split at hs
          · rename_i hcond
            obtain ⟨hty, hidx⟩ := hcond
            obtain ⟨i0, i1, i2, i3⟩ := az_idx_ok hg exi hidx
            have hv := hfl _ i3
            unfold az_aok at hv
            rw [if_neg (by rcases hty with z | z <;> (rw [z]; decide))] at hv
            obtain ⟨x, hx1, hx2, hx3⟩ := hv
            refine az_pone (z := x) hH hL hS1 (az_rd_out hg hne wfI i0 hx1 hx2 hx3) ?_ hs
            show (if (1 : Nat) = 1 then (match si_ald P h [.byte, .boolean] (P.1 + j) xi with
              | some v => some (pc + 1, ls, v :: s1, h)
              | none => none) else none) = _
            rw [if_pos rfl]
            have : si_ald P h [.byte, .boolean] (P.1 + j) xi = some (.int x) := by
              unfold si_ald
              rw [hix]
              dsimp only
              rw [hsh]
              dsimp only
              rw [if_pos ⟨i1, by rcases hty with z | z <;> (rw [z]; decide)⟩, i2, hx1]
            rw [this]
          · cases hs
        · cases hs
      · cases hs
    · cases hs
  case h_50 =>
    split at hs
    · rename_i hc
      subst hc
      split at hs
      · rename_i I j r
        obtain ⟨w, s0, rfl, wfI, gI, hS0⟩ := az_gS_cons hS
        obtain ⟨w2, s1, rfl, -, g1, hS1⟩ := az_gS_cons hS0
        cases az_gV_cell g1
        obtain ⟨xi, rfl, exi⟩ := az_gV_int gI
        split at hs
        · rename_i bb htb
          obtain ⟨hne, hte⟩ := az_tb_i ht htb
          obtain ⟨hix, hlt⟩ := az_ix_ok hH htb
          obtain ⟨hsh, hfl⟩ := hH.2 j _ htb
          split at hs
          · rename_i hcond
            obtain ⟨hty, hidx⟩ := hcond
            obtain ⟨i0, i1, i2, i3⟩ := az_idx_ok hg exi hidx
            have hv := hfl _ i3
            unfold az_aok at hv
            rw [if_pos hty] at hv
            obtain ⟨x, hx1⟩ := hv
            refine az_psame hH hg (pc' := pc + 1) (ls' := ls) (st' := .long x :: s1) ?_ hs hL ⟨trivial, trivial, hS1⟩
            show (if (1 : Nat) = 1 then (match si_ald P h [.long] (P.1 + j) xi with
              | some v => some (pc + 1, ls, v :: s1, h)
              | none => none) else none) = _
            rw [if_pos rfl]
            have : si_ald P h [.long] (P.1 + j) xi = some (.long x) := by
              unfold si_ald
              rw [hix]
              dsimp only
              rw [hsh]
              dsimp only
              rw [if_pos ⟨i1, by rw [hty]; exact List.mem_singleton.mpr rfl⟩, i2, hx1]
            rw [this]
          · cases hs
        · cases hs
      · cases hs
    · cases hs
  case h_51 =>
    split at hs
    · rename_i hc
      subst hc
      split at hs
      · rename_i vv I j r
        obtain ⟨w0, s0, rfl, wfa, ga, hSa⟩ := az_gS_cons hS
        obtain ⟨w, s2, rfl, wfI, gI, hS0⟩ := az_gS_cons hSa
        obtain ⟨w2, s1, rfl, -, g1, hS1⟩ := az_gS_cons hS0
        cases az_gV_cell g1
        obtain ⟨xi, rfl, exi⟩ := az_gV_int gI
        obtain ⟨xv, rfl, exv⟩ := az_gV_int ga
        split at hs
        · rename_i bb htb
          obtain ⟨hne, hte⟩ := az_tb_i ht htb
          obtain ⟨hix, hlt⟩ := az_ix_ok hH htb
          obtain ⟨hsh, hfl⟩ := hH.2 j _ htb
          unfold az_tbe at hte
          simp only [Bool.and_eq_true, Bool.or_eq_true, decide_eq_true_eq] at hte
          split at hs
          · rename_i hcond
            obtain ⟨hty, hidx, hbt, hmd⟩ := hcond
            obtain ⟨b1, b2⟩ := az_btw_ok hg hbt
            obtain ⟨i0, i1, i2, i3⟩ := az_idx_ok hg exi hidx
            have hmi : az_in md j (az_ev ρ I).toNat = true := by unfold az_in; rw [hmd, Bool.or_true]
            cases hs
            have hast : si_ast P h [.int] (P.1 + j) xi (.int xv) = some (h.1, h.2.1, si_set h.2.2 j (az_ev ρ I).toNat (.int xv)) := by
              unfold si_ast
              rw [hix]
              dsimp only
              rw [hsh]
              dsimp only
              rw [if_pos ⟨i1, by rw [hty]; exact List.mem_singleton.mpr rfl⟩, i2]
              rw [hty]; rfl
            refine ⟨pc + 1, ls, s1, (h.1, h.2.1, si_set h.2.2 j (az_ev ρ I).toNat (.int xv)), ?_, az_HI_set hH htb (fun _ => ?_), az_out_set hmi, _, List.mem_singleton.mpr rfl, ρ, az_ext.rf, Nat.le_refl _, ?_, rfl, hL, hS1⟩
            · show (if (1 : Nat) = 1 then (match si_ast P h [.int] (P.1 + j) xi (.int xv) with
                | some h' => some (pc + 1, ls, s1, h')
                | none => none) else none) = _
              rw [if_pos rfl, hast]
            · unfold az_aok
              rw [if_neg (by rw [hty]; decide)]
              exact ⟨xv, rfl, by omega, by omega⟩
            · exact az_tset_g (v := some vv) hg hne wfI i0 (fun a ha => by cases ha; exact ⟨wfa, xv, rfl, exv⟩)
          · cases hs
        · cases hs
      · cases hs
    · cases hs
  case h_52 =>
    split at hs
    · rename_i hc
      subst hc
      split at hs
      · rename_i vv I j r
        obtain ⟨w0, s0, rfl, wfa, ga, hSa⟩ := az_gS_cons hS
        obtain ⟨w, s2, rfl, wfI, gI, hS0⟩ := az_gS_cons hSa
        obtain ⟨w2, s1, rfl, -, g1, hS1⟩ := az_gS_cons hS0
        cases az_gV_cell g1
        obtain ⟨xi, rfl, exi⟩ := az_gV_int gI
        obtain ⟨xv, rfl, exv⟩ := az_gV_int ga
        split at hs
        · rename_i bb htb
          obtain ⟨hne, hte⟩ := az_tb_i ht htb
          obtain ⟨hix, hlt⟩ := az_ix_ok hH htb
          obtain ⟨hsh, hfl⟩ := hH.2 j _ htb
          unfold az_tbe at hte
          simp only [Bool.and_eq_true, Bool.or_eq_true, decide_eq_true_eq] at hte
          split at hs
          · rename_i hcond
            obtain ⟨hty, hidx, hmd⟩ := hcond
            obtain ⟨i0, i1, i2, i3⟩ := az_idx_ok hg exi hidx
            have hmi : az_in md j (az_ev ρ I).toNat = true := by unfold az_in; rw [hmd, Bool.or_true]
            cases hs
            have hast : si_ast P h [.byte, .boolean] (P.1 + j) xi (.int xv) = some (h.1, h.2.1, si_set h.2.2 j (az_ev ρ I).toNat (si_nar bb.1 (.int xv))) := by
              unfold si_ast
              rw [hix]
              dsimp only
              rw [hsh]
              dsimp only
              rw [if_pos ⟨i1, by rcases hty with z | z <;> (rw [z]; decide)⟩, i2]
            refine ⟨pc + 1, ls, s1, (h.1, h.2.1, si_set h.2.2 j (az_ev ρ I).toNat (si_nar bb.1 (.int xv))), ?_, az_HI_set hH htb (fun _ => ?_), az_out_set hmi, _, List.mem_singleton.mpr rfl, ρ, az_ext.rf, Nat.le_refl _, ?_, rfl, hL, hS1⟩
            · show (if (1 : Nat) = 1 then (match si_ast P h [.byte, .boolean] (P.1 + j) xi (.int xv) with
                | some h' => some (pc + 1, ls, s1, h')
                | none => none) else none) = _
              rw [if_pos rfl, hast]
            · unfold az_aok
              rw [if_neg (by rcases hty with z | z <;> (rw [z]; decide))]
              rcases hty with z | z
              · rw [z]
                have hb := hte.1.2
                rcases hb with hb | hb
                · exact absurd z hb
                · have := nm_i2b xv
                  exact ⟨xv.toInt8.toInt32, rfl, by omega, by omega⟩
              · rw [z]
                have hb := hte.2
                rcases hb with hb | hb
                · exact absurd z hb
                · have hn1 : 0 ≤ (xv &&& 1).toInt ∧ (xv &&& 1).toInt ≤ 1 := nm_and (x := xv) (y := 1) (by decide)
                  exact ⟨xv &&& 1, rfl, by omega, by omega⟩
            · exact az_tset_g (v := none) hg hne wfI i0 (fun a ha => by cases ha)
          · cases hs
        · cases hs
      · cases hs
    · cases hs
  case h_53 =>
    split at hs
    · rename_i hc
      subst hc
      split at hs
      · rename_i vv I j r
        obtain ⟨w0, s0, rfl, wfa, ga, hSa⟩ := az_gS_cons hS
        obtain ⟨w, s2, rfl, wfI, gI, hS0⟩ := az_gS_cons hSa
        obtain ⟨w2, s1, rfl, -, g1, hS1⟩ := az_gS_cons hS0
        cases az_gV_cell g1
        obtain ⟨xi, rfl, exi⟩ := az_gV_int gI
        obtain ⟨xv, rfl⟩ := az_gV_long ga
        split at hs
        · rename_i bb htb
          obtain ⟨hne, hte⟩ := az_tb_i ht htb
          obtain ⟨hix, hlt⟩ := az_ix_ok hH htb
          obtain ⟨hsh, hfl⟩ := hH.2 j _ htb
          unfold az_tbe at hte
          simp only [Bool.and_eq_true, Bool.or_eq_true, decide_eq_true_eq] at hte
          split at hs
          · rename_i hcond
            obtain ⟨hty, hidx, hmd⟩ := hcond
            obtain ⟨i0, i1, i2, i3⟩ := az_idx_ok hg exi hidx
            have hmi : az_in md j (az_ev ρ I).toNat = true := by unfold az_in; rw [hmd, Bool.or_true]
            cases hs
            have hast : si_ast P h [.long] (P.1 + j) xi (.long xv) = some (h.1, h.2.1, si_set h.2.2 j (az_ev ρ I).toNat (.long xv)) := by
              unfold si_ast
              rw [hix]
              dsimp only
              rw [hsh]
              dsimp only
              rw [if_pos ⟨i1, by rw [hty]; exact List.mem_singleton.mpr rfl⟩, i2]
              rw [hty]; rfl
            refine ⟨pc + 1, ls, s1, (h.1, h.2.1, si_set h.2.2 j (az_ev ρ I).toNat (.long xv)), ?_, az_HI_set hH htb (fun _ => ?_), az_out_set hmi, _, List.mem_singleton.mpr rfl, ρ, az_ext.rf, Nat.le_refl _, ?_, rfl, hL, hS1⟩
            · show (if (1 : Nat) = 1 then (match si_ast P h [.long] (P.1 + j) xi (.long xv) with
                | some h' => some (pc + 1, ls, s1, h')
                | none => none) else none) = _
              rw [if_pos rfl, hast]
            · unfold az_aok
              rw [if_pos hty]
              exact ⟨xv, rfl⟩
            · exact az_tset_g (v := none) hg hne wfI i0 (fun a ha => by cases ha)
          · cases hs
        · cases hs
      · cases hs
    · cases hs
  case h_54 =>
    split at hs
    · rename_i hc
      subst hc
      split at hs
      · rename_i j r
        obtain ⟨w, s1, rfl, -, g1, hS1⟩ := az_gS_cons hS
        cases az_gV_cell g1
        split at hs
        · rename_i bb htb
          obtain ⟨hix, hlt⟩ := az_ix_ok hH htb
          obtain ⟨hsh, hfl⟩ := hH.2 j _ htb
          split at hs
          · rename_i h65
            refine az_pone (z := Int32.ofNat bb.2.1) hH hL hS1 (az_out_id hg (az_wf_c _ _) (by rw [az_c_ev, Int32.toInt_ofNat_of_lt (by omega)])) ?_ hs
            show (if (1 : Nat) = 1 then (if P.1 + j = P.2.1 then _ else (match si_ix P h (P.1 + j) with
              | some i => (match h.2.1 i with
                | .inr (_, n) => some (pc + 1, ls, .int (Int32.ofNat n) :: s1, h)
                | _ => none)
              | none => none)) else none) = _
            rw [if_pos rfl, if_neg (by omega), hix]
            dsimp only
            rw [hsh]
          · cases hs
        · cases hs
      · rename_i k r
        obtain ⟨w, s1, rfl, -, g1, hS1⟩ := az_gS_cons hS
        cases az_gV_ext g1
        split at hs
        · rename_i hk
          subst hk
          split at hs
          · rename_i qq hqq
            have hm := List.mem_of_find?_eq_some hqq
            have hp2 := List.find?_some hqq
            obtain ⟨k1, k2⟩ := hg.2.2.2 qq hm
            have hkey := k1.1 (of_decide_eq_true hp2)
            split at hs
            · rename_i hp3
              have p3 := az_p2_g hg hp3
              rw [az_plus_ev, az_neg_ev] at p3
              refine az_pone (z := Int32.ofNat P.2.2.1) hH hL hS1 (az_out_id hg k2.2 (by rw [Int32.toInt_ofNat_of_lt (by omega)]; exact hkey)) ?_ hs
              show (if (1 : Nat) = 1 then (if (if 0 = 0 then P.2.1 else P.2.2.2.2 0) = P.2.1 then some (pc + 1, ls, .int (Int32.ofNat P.2.2.1) :: s1, h) else _) else none) = _
              rw [if_pos rfl, if_pos (if_pos rfl)]
            · cases hs
          · cases hs
        · cases hs
      · cases hs
    · cases hs
  case h_55 => cases hs
end AzStepMain
