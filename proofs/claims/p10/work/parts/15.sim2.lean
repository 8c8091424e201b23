theorem si_call_W {l : Launch} {D : va_G} {ca : FieldType → ClassId} {P : si_P} {d m' : Nat} {as rest : List Value} {h h1 : si_H} {rv : Option Value} {p : Program} {e : Env} {R : Room} {s : State} {m : MethodId} {args : Array Value} {below : List Frame} {meth : Method} {c : Code} {O : String} {H : Heap} {locs : List Loc} {cells slots nL : Nat} {Q : State → Prop} {pc : Nat} {LS : Array Slot} {st : List Value} {r : si_E}
    (hG : si_G l D ca P d m' 0 (lv_args 0 as) [] h rv h1) (hx : p.tables.exec = Jvm.exec) (hml : c.maxLocals = nL) (hls : LS.size = nL) (hown : s.vm.findClass O = some m.cls) (hts : ∀ w ∈ si_gw, w.before args s = true) (hK : si_K D ca s) (hX : si_X P s) (hW : si_W D ca P h H) (hS : va_S (si_A P) s.heap H locs) (hRf : d + 1 ≤ R.frames) (hRl : 60 * (d + 1) ≤ R.locals) (hc1 : cells + (h1.1 - h.1) ≤ R.cells) (hc2 : slots + (si_sz h1 - si_sz h) ≤ R.slots)
    (hd : decode c.code pc = .ok (r.1, r.2.1)) (hl : lk_e O r = true) (hc : si_call P r st h = some (m', as, rest))
    (kk : ∀ (H1 : Heap) (locs1 : List Loc), si_W D ca P h1 H1 → va_S (si_A P) s.heap H1 locs1 → W p l e R s m args below meth c H1 locs1 (cells + (h1.1 - h.1)) (slots + (si_sz h1 - si_sz h)) Q (F0 m (pc + 3) LS (rv.toList ++ rest))) : W p l e R s m args below meth c H locs cells slots Q (F0 m pc LS st) := by
  obtain ⟨i, n, a, b, q⟩ := r
  have hn0 : ∀ k : Nat, 8 + (k + 11) + 60 * d ≤ 60 * (d + 1) ↔ k ≤ 41 := fun k => by omega
  unfold si_call at hc
  dsimp only at hc hd
  split at hc
  · rename_i idx
    split at hc
    · rename_i hn
      obtain ⟨rfl, rfl⟩ := hn
      split at hc
      · rename_i y hy
        split at hc
        · rename_i o rs hdr
          split at hc
          · rename_i j hj
            obtain ⟨rfl, hlt⟩ := si_ix_spec hj
            split at hc
            · rename_i ci nf hsh
              split at hc
              · rename_i hcc
                obtain ⟨rfl, hk0, hnf, hwd, hlen⟩ := hcc
                cases hc
                have hcell := hW.2 j hlt
                rw [hsh] at hcell
                obtain ⟨w, g1, g2, cell, q1, q2, q3, q4⟩ := hcell
                obtain ⟨C, T, N⟩ := w
                obtain ⟨-, -, -, -, -, hoC, -⟩ := si_cls g1
                have h12 : y.1 ≠ 12 := by
                  have := (List.getElem?_eq_some_iff.mp g1).1
                  have h2 : y.1 < 12 := this
                  omega
                obtain ⟨hcw, hini, hoy, hpl, hno, hpd, hmL, hst, hsp, hvi⟩ := si_mw hy h12
                have hlink : lw_tbl[q]? = some (.methodLink O idx y.2.1) := by
                  unfold lk_e at hl
                  dsimp only at hl
                  rw [hy] at hl
                  exact of_decide_eq_true hl
                have hCy : C = y.2.1.cls := Option.some.inj (hoC.symm.trans hoy)
                have hM := si_met hG hy h12 hlen
                refine si_callG (va_runV (n := y.2.2.2.2.2.2.1) (C := y.2.1.cls) (As := (st.take y.2.2.2.2.2.2.1).reverse) (rest := rest) (index := idx) (own := O) ⟨hx, rfl, hml, hown, hts⟩ hM ⟨callB_of _ hts (si_good hcw) rfl rfl rfl (hts _ (si_gw_in hini rfl)) (hts _ (si_gw_in (si_at hlink) rfl)) ⟨hno.1, hno.2, hpd⟩ ⟨hRf, Nat.le_trans ((hn0 _).mpr (by omega)) hRl⟩, hts _ (si_gw_in (hvi hk0).1 rfl), hts _ (si_gw_in (hvi hk0).2 rfl)⟩ ⟨si_blind, ⟨cell, q1, by rw [q3]; rfl, ?_⟩, si_pre hK hX hW hS⟩ rfl ?_ hls ?_ (lv_room (of_decide_eq_true hwd)) hd ⟨hc1, hc2⟩) hS kk
                · rw [← hCy, q2]
                  exact (hK.1.1 y.1 _ g1).2.1
                · rw [List.length_reverse, List.length_take]
                  have : (st.drop y.2.2.2.2.2.2.1).length = (Value.ref (P.1 + j) :: rest).length := by rw [hdr]
                  rw [List.length_drop, List.length_cons] at this
                  omega
                · show st = _
                  rw [List.reverse_reverse, ← hdr, List.take_append_drop]
              · cases hc
            · cases hc
          · cases hc
        · cases hc
      · cases hc
    · cases hc
  · rename_i idx
    split at hc
    · rename_i hn
      subst hn
      split at hc
      · rename_i y hy
        split at hc
        · rename_i hcc
          obtain ⟨hle, hk1, h12, hwd, hlen⟩ := hcc
          cases hc
          obtain ⟨hcw, hini, hoy, hpl, hno, hpd, hmL, hst, hsp, hvi⟩ := si_mw hy h12
          have hM := si_met hG hy h12 hlen
          have hAl : (st.take y.2.2.2.2.2.2.1).reverse.length = y.2.2.2.2.2.2.1 := by
            rw [List.length_reverse, List.length_take]
            omega
          have hstk : st = (st.take y.2.2.2.2.2.2.1).reverse.reverse ++ st.drop y.2.2.2.2.2.2.1 := by rw [List.reverse_reverse, List.take_append_drop]
          have hlink : lw_tbl[q]? = some (.methodLink O idx y.2.1) ∨ lw_tbl[q]? = some (.methodLinkNest O idx y.2.1 "HandsAlike") := by
            unfold lk_e at hl
            dsimp only at hl
            rw [hy] at hl
            dsimp only at hl
            split at hl
            · exact Or.inl (of_decide_eq_true hl)
            · exact Or.inr (of_decide_eq_true hl)
            · cases hl
          rcases hlink with hlink | hlink
          · exact si_callG (va_runS (n := y.2.2.2.2.2.2.1) (As := (st.take y.2.2.2.2.2.2.1).reverse) (rest := st.drop y.2.2.2.2.2.2.1) (index := idx) (own := O) ⟨hx, rfl, hml, hown, hts⟩ hM ⟨callB_of _ hts (si_good hcw) rfl rfl rfl (hts _ (si_gw_in hini rfl)) (hts _ (si_gw_in (si_at hlink) rfl)) ⟨hno.1, hno.2, hpd⟩ ⟨hRf, Nat.le_trans ((hn0 _).mpr (by omega)) hRl⟩, hts _ (si_gw_in (hst hk1) rfl)⟩ ⟨si_blind, si_pre hK hX hW hS⟩ rfl hAl hls hstk (lv_room (of_decide_eq_true hwd)) hd ⟨hc1, hc2⟩) hS kk
          · exact si_callG (va_runSN (n := y.2.2.2.2.2.2.1) (As := (st.take y.2.2.2.2.2.2.1).reverse) (rest := st.drop y.2.2.2.2.2.2.1) (index := idx) (own := O) ⟨hx, rfl, hml, hown, hts⟩ hM ⟨va_cnB _ hts (si_good hcw) rfl rfl rfl (hK.2 _ (si_at hlink) rfl) (hts _ (si_gw_in hini rfl)) ⟨hno.1, hno.2, hpd⟩ ⟨hRf, Nat.le_trans ((hn0 _).mpr (by omega)) hRl⟩, hts _ (si_gw_in (hst hk1) rfl), trivial⟩ ⟨si_blind, si_pre hK hX hW hS⟩ rfl hAl hls hstk (lv_room (of_decide_eq_true hwd)) hd ⟨hc1, hc2⟩) hS kk
        · cases hc
      · cases hc
    · cases hc
  · rename_i idx
    split at hc
    · rename_i hn
      obtain ⟨rfl, hb1⟩ := hn
      split at hc
      · rename_i y hy
        split at hc
        · rename_i o rs hdr
          split at hc
          · rename_i hcc
            obtain ⟨hk2, h12, hwd, hlen⟩ := hcc
            cases hc
            obtain ⟨hcw, hini, hoy, hpl, hno, hpd, hmL, hst, hsp, hvi⟩ := si_mw hy h12
            obtain ⟨hs1, hs2, hs3⟩ := hsp hk2
            have hM := si_met hG hy h12 hlen
            have hAl : (st.take y.2.2.2.2.2.2.1).reverse.length = y.2.2.2.2.2.2.1 := by
              rw [List.length_reverse, List.length_take]
              have : (st.drop y.2.2.2.2.2.2.1).length = (Value.ref o :: rest).length := by rw [hdr]
              rw [List.length_drop, List.length_cons] at this
              omega
            have hstk : st = (st.take y.2.2.2.2.2.2.1).reverse.reverse ++ Value.ref o :: rest := by rw [List.reverse_reverse, ← hdr, List.take_append_drop]
            have hlink : lw_tbl[q]? = some (.methodLink O idx y.2.1) ∨ lw_tbl[q]? = some (.methodLinkNest O idx y.2.1 "HandsAlike") := by
              unfold lk_e at hl
              dsimp only at hl
              split at hl
              · omega
              · rw [hy] at hl
                exact Or.inl (of_decide_eq_true hl)
              · rw [hy] at hl
                exact Or.inr (of_decide_eq_true hl)
              · cases hl
            have hG2 := si_good hcw
            rcases hlink with hlink | hlink
            · refine si_callG (va_runI (n := y.2.2.2.2.2.2.1) (As := (st.take y.2.2.2.2.2.2.1).reverse) (rest := rest) (index := idx) (own := O) (bytes := y.2.2.1) (maxL := y.2.2.2.1) ⟨hx, rfl, hml, hown, hts⟩ hM ⟨?_, hs2, hts _ (si_gw_in hs1 rfl)⟩ ⟨si_blind, si_pre hK hX hW hS⟩ rfl hAl hls hstk (lv_room (of_decide_eq_true hwd)) hd ⟨hc1, hc2⟩) hS kk
              rw [← hs3]
              exact callB_of _ hts hG2 rfl rfl rfl (hts _ (si_gw_in hini rfl)) (hts _ (si_gw_in (si_at hlink) rfl)) ⟨hno.1, hno.2, hpd⟩ ⟨hRf, Nat.le_trans ((hn0 _).mpr (by omega)) hRl⟩
            · refine si_callG (va_runIN (host := "HandsAlike") (n := y.2.2.2.2.2.2.1) (As := (st.take y.2.2.2.2.2.2.1).reverse) (rest := rest) (index := idx) (own := O) (bytes := y.2.2.1) (maxL := y.2.2.2.1) ⟨hx, rfl, hml, hown, hts⟩ hM ⟨?_, hs2, hts _ (si_gw_in hs1 rfl)⟩ ⟨si_blind, si_pre hK hX hW hS⟩ rfl hAl hls hstk (lv_room (of_decide_eq_true hwd)) hd ⟨hc1, hc2⟩) hS kk
              rw [← hs3]
              exact va_cnB _ hts hG2 rfl rfl rfl (hK.2 _ (si_at hlink) rfl) (hts _ (si_gw_in hini rfl)) ⟨hno.1, hno.2, hpd⟩ ⟨hRf, Nat.le_trans ((hn0 _).mpr (by omega)) hRl⟩
          · cases hc
        · cases hc
      · cases hc
    · cases hc
  · cases hc
/-- THE SMALL MACHINE'S RUN IS THE MACHINE'S -/
theorem si_main {l : Launch} {D : va_G} {ca : FieldType → ClassId} {P : si_P} (hJ : si_J l D ca P) : ∀ (n d mi pc : Nat) (ls : si_L) (st : List Value) (h : si_H) (rv : Option Value) (h' : si_H), si_run P n d mi pc ls st h = some (rv, h') → si_gr h h' ∧ si_G l D ca P d mi pc ls st h rv h' := by
  intro n
  induction n with
  | zero =>
    intro d mi pc ls st h rv h' hr
    cases hr
  | succ n ih =>
    intro d mi pc ls st h rv h' hr
    unfold si_run at hr
    split at hr
    · rename_i y r hy hf
      split at hr
      · rename_i pc1 ls1 st1 h1 hstep
        obtain ⟨e1, e2⟩ := si_step_gr hstep
        obtain ⟨i1, i2⟩ := ih d mi pc1 ls1 st1 h1 rv h' hr
        have hsz : si_sz h1 = si_sz h := by unfold si_sz; rw [e1, e2]
        refine ⟨⟨by rw [← e1]; exact i1.1, fun i hi => (i1.2 i (by rw [e1]; exact hi)).trans (by rw [e2])⟩, ?_⟩
        intro y' O p e R s m args below meth c hy' hO hx hb hml hown hin hts hK hX hRf hRl H locs cells slots LS Q hW hS hL hc1 hc2 kk
        cases hy.symm.trans hy'
        obtain ⟨hd, hl⟩ := si_link hy hf hO
        refine si_step_W hx hb hown hO hin hts hK hX hd hl hW hS hL hstep (fun H1 locs1 LS1 hW1 hS1 hL1 => ?_)
        refine i2 y O p e R s m args below meth c hy hO hx hb hml hown hin hts hK hX hRf hRl H1 locs1 cells slots LS1 Q hW1 hS1 hL1 (by rw [e1]; exact hc1) (by rw [hsz]; exact hc2) ?_
        rw [e1, hsz]
        exact kk
      · split at hr
        · rename_i rr hret
          cases hr
          refine ⟨si_gr.rf, ?_⟩
          intro y' O p e R s m args below meth c hy' hO hx hb hml hown hin hts hK hX hRf hRl H locs cells slots LS Q hW hS hL hc1 hc2 kk
          cases hy.symm.trans hy'
          obtain ⟨hd, hl⟩ := si_link hy hf hO
          have := kk pc r st H locs LS hd hret hW hS
          rwa [Nat.sub_self, Nat.sub_self, Nat.add_zero, Nat.add_zero] at this
        · split at hr
          · rename_i st1 h1 hmk
            obtain ⟨g1, g2⟩ := si_make_gr hmk
            obtain ⟨i1, i2⟩ := ih d mi (pc + r.2.1) ls st1 h1 rv h' hr
            refine ⟨g1.tr i1, ?_⟩
            intro y' O p e R s m args below meth c hy' hO hx hb hml hown hin hts hK hX hRf hRl H locs cells slots LS Q hW hS hL hc1 hc2 kk
            cases hy.symm.trans hy'
            obtain ⟨hd, hl⟩ := si_link hy hf hO
            have z1 := g1.sz
            have z2 := i1.sz
            have z3 := i1.1
            have n1 : cells + (h'.1 - h.1) = cells + 1 + (h'.1 - h1.1) := by omega
            have n2 : slots + (si_sz h' - si_sz h) = slots + (si_sz h1 - si_sz h) + (si_sz h' - si_sz h1) := by omega
            refine si_make_W hx hb hown hts hK hd hl hW hS hmk (by omega) (by omega) (fun H1 hW1 hS1 => ?_)
            refine i2 y O p e R s m args below meth c hy hO hx hb hml hown hin hts hK hX hRf hRl H1 locs (cells + 1) (slots + (si_sz h1 - si_sz h)) LS Q hW1 hS1 hL (by omega) (by omega) ?_
            rw [← n1, ← n2]
            exact kk
          · split at hr
            · cases hr
            · rename_i d'
              split at hr
              · rename_i m' as rest hcall
                have fin : ∀ (r1 : Option Value) (h1 : si_H), si_run P n d' m' 0 (lv_args 0 as) [] h = some (r1, h1) → si_run P n (d' + 1) mi (pc + 3) ls (r1.toList ++ rest) h1 = some (rv, h') → si_gr h h' ∧ si_G l D ca P (d' + 1) mi pc ls st h rv h' := by
                  intro r1 h1 hr1 hr2
                  obtain ⟨j1, j2⟩ := ih d' m' 0 (lv_args 0 as) [] h r1 h1 hr1
                  obtain ⟨i1, i2⟩ := ih (d' + 1) mi (pc + 3) ls (r1.toList ++ rest) h1 rv h' hr2
                  refine ⟨j1.tr i1, ?_⟩
                  intro y' O p e R s m args below meth c hy' hO hx hb hml hown hin hts hK hX hRf hRl H locs cells slots LS Q hW hS hL hc1 hc2 kk
                  cases hy.symm.trans hy'
                  obtain ⟨hd, hl⟩ := si_link hy hf hO
                  rw [← hb] at hd
                  have z1 := j1.sz
                  have z2 := i1.sz
                  have z3 := i1.1
                  have z4 := j1.1
                  have n1 : cells + (h'.1 - h.1) = cells + (h1.1 - h.1) + (h'.1 - h1.1) := by omega
                  have n2 : slots + (si_sz h' - si_sz h) = slots + (si_sz h1 - si_sz h) + (si_sz h' - si_sz h1) := by omega
                  refine si_call_W j2 hx hml hL.1 hown hts hK hX hW hS hRf hRl (by omega) (by omega) hd hl hcall (fun H1 locs1 hW1 hS1 => ?_)
                  refine i2 y O p e R s m args below meth c hy hO hx hb hml hown hin hts hK hX hRf hRl H1 locs1 _ _ LS Q hW1 hS1 hL (by omega) (by omega) ?_
                  rw [← n1, ← n2]
                  exact kk
                split at hr
                · rename_i v h1 hr1
                  exact fin (some v) h1 hr1 hr
                · rename_i h1 hr1
                  exact fin none h1 hr1 hr
                · cases hr
              · split at hr
                · rename_i st1 hprim
                  split at hr
                  · rename_i h8
                    obtain ⟨i1, i2⟩ := ih (d' + 1) mi (pc + 3) ls st1 h rv h' hr
                    refine ⟨i1, ?_⟩
                    intro y' O p e R s m args below meth c hy' hO hx hb hml hown hin hts hK hX hRf hRl H locs cells slots LS Q hW hS hL hc1 hc2 kk
                    cases hy.symm.trans hy'
                    obtain ⟨hd, hl⟩ := si_link hy hf hO
                    rw [← hb] at hd
                    refine si_prim_W hJ hx (hml.trans hL.1.symm) hown hts hX hS (by omega) (by omega) (by omega) (by omega) hd hl hprim (fun locs1 hS1 => ?_)
                    exact i2 y O p e R s m args below meth c hy hO hx hb hml hown hin hts hK hX hRf hRl H locs1 cells slots LS Q hW hS1 hL hc1 hc2 kk
                  · cases hr
                · cases hr
    · cases hr
