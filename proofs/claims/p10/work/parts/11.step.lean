section SiStep
variable {p : Program} {l : Launch} {e : Env} {R : Room} {s : State} {m : MethodId} {args : Array Value} {below : List Frame} {meth : Method} {c : Code} {H : Heap} {locs : List Loc} {cells slots : Nat} {Q : State → Prop}
variable {cc : ByteArray} {pc : Nat} {LS : Array Slot} {st : List Value} {D : va_G} {ca : FieldType → ClassId} {P : si_P} {O : String} {r : si_E} {ls : si_L} {h : si_H}
set_option maxHeartbeats 4000000 in
theorem si_step_W {y : si_M} {pc' : Nat} {ls' : si_L} {st' : List Value} {h' : si_H} (hx : p.tables.exec = Jvm.exec) (hb : c.code = cc) (hown : s.vm.findClass O = some m.cls) (hoy : si_own[y.1]? = some O) (hin : y.2.2.2.2.2.1 = 2 → meth.name = "<init>") (hts : ∀ w ∈ si_gw, w.before args s = true) (hK : si_K D ca s) (hX : si_X P s) (hd : decode cc pc = .ok (r.1, r.2.1)) (hl : lk_e O r = true)
    (hW : si_W D ca P h H) (hS : va_S (si_A P) s.heap H locs) (hL : lv_has LS y.2.2.2.1 ls) (hstep : si_step P y pc r ls st h = some (pc', ls', st', h'))
    (kk : ∀ (H1 : Heap) (locs1 : List Loc) (LS1 : Array Slot), si_W D ca P h' H1 → va_S (si_A P) s.heap H1 locs1 → lv_has LS1 y.2.2.2.1 ls' → W p l e R s m args below meth c H1 locs1 cells slots Q (F0 m pc' LS1 st')) : W p l e R s m args below meth c H locs cells slots Q (F0 m pc LS st) := by
  have hXl : P.2.1 < s.heap.size := Nat.lt_of_lt_of_le hX.2.1 hX.2.2.1
  have hXA : ¬ si_A P P.2.1 := Nat.not_le.mpr hX.2.1
  obtain ⟨i, n, a, b, q⟩ := r
  unfold si_step at hstep
  dsimp only at hstep hd
  split at hstep
  all_goals first
    | (split at hstep
       · rename_i v hv
         cases hstep
         exact si_con_W hx hb hown hts hX hd hl hv (kk _ _ _ hW hS hL)
       · cases hstep
       done)
    | (split at hstep
       · rename_i k t hr
         split at hstep
         · rename_i v hv
           split at hstep
           · rename_i ht
             cases hstep
             exact si_lod_W hx hb hL hd hr hv ht (kk _ _ _ hW hS hL)
           · cases hstep
         · cases hstep
       · cases hstep
       done)
    | (split at hstep
       · rename_i k t v rs hr
         split at hstep
         · rename_i ht
           cases hstep
           exact si_sto_W hx hb hL hd hr ht.1 ht.2 (fun LS' hl' => kk _ _ _ hW hS hl')
         · cases hstep
       · cases hstep
       done)
    | (split at hstep
       · rename_i hn
         subst hn
         split at hstep
         · rename_i v w rs
           split at hstep
           · rename_i z hz
             cases hstep
             exact si_bin_W hx hb hd hz (kk _ _ _ hW hS hL)
           · cases hstep
         · cases hstep
       · cases hstep
       done)
    | (split at hstep
       · rename_i hn
         subst hn
         split at hstep
         · rename_i v rs
           split at hstep
           · rename_i z hz
             cases hstep
             exact si_un_W hx hb hd hz (kk _ _ _ hW hS hL)
           · cases hstep
         · cases hstep
       · cases hstep
       done)
    | (split at hstep
       · rename_i hn
         subst hn
         split at hstep
         · split at hstep
           · rename_i hc
             cases hstep
             first | exact lv_pop hx hb hd hc (kk _ _ _ hW hS hL) | exact lv_dup hx hb hd hc (kk _ _ _ hW hS hL)
           · cases hstep
         · cases hstep
       · cases hstep
       done)
    | (split at hstep
       · rename_i hn
         subst hn
         split at hstep
         · rename_i ht
           cases hstep
           first | exact si_if_W hx hb hd ht (kk _ _ _ hW hS hL) | exact si_icmp_W hx hb hd ht (kk _ _ _ hW hS hL) | exact lv_goto hx hb hd (si_tgt_spec ht) (kk _ _ _ hW hS hL)
         · cases hstep
       · cases hstep
       done)
    | skip
  case h_20 =>
    split at hstep
    · rename_i hn
      obtain ⟨rfl, hk⟩ := hn
      split at hstep
      · rename_i x hv
        cases hstep
        obtain ⟨j, hj⟩ := List.getElem?_of_mem (si_ld_mem hv)
        exact lv_iinc hx hb hd hL hj rfl hk rfl (fun LS' hl' => kk _ _ _ hW hS hl')
      · cases hstep
    · cases hstep
  case h_44 =>
    split at hstep
    · split at hstep
      · rename_i ho
        split at hstep
        · rename_i ht
          cases hstep
          exact lv_tableOut hx hb hd ho (si_tgt_spec ht) (kk _ _ _ hW hS hL)
        · cases hstep
      · rename_i ho
        split at hstep
        · rename_i off hoff
          split at hstep
          · rename_i ht
            cases hstep
            exact lv_tableIn hx hb hd (fun z => ho (Or.inl z)) (fun z => ho (Or.inr z)) hoff (si_tgt_spec ht) (kk _ _ _ hW hS hL)
          · cases hstep
        · cases hstep
    · cases hstep
  case h_45 =>
    split at hstep
    · rename_i hp
      split at hstep
      · split at hstep
        · rename_i ht
          cases hstep
          exact lv_lookup hx hb hd hp rfl (si_tgt_spec ht) (kk _ _ _ hW hS hL)
        · cases hstep
      · cases hstep
    · cases hstep
  case h_46 =>
    split at hstep
    · rename_i hn
      subst hn
      split at hstep
      · split at hstep
        · rename_i j hj
          split at hstep
          · rename_i hsh
            cases hstep
            obtain ⟨rfl, hlt⟩ := si_ix_spec hj
            exact si_get_W hx hb hown hts hK hW hd hl hlt hsh (kk _ _ _ hW hS hL)
          · cases hstep
        · cases hstep
      · cases hstep
    · cases hstep
  case h_47 =>
    split at hstep
    · rename_i hn
      subst hn
      split at hstep
      · split at hstep
        · rename_i j hj
          split at hstep
          · rename_i hsh
            obtain ⟨hsh, hnar, hfit, hfin⟩ := hsh
            cases hstep
            obtain ⟨rfl, hlt⟩ := si_ix_spec hj
            exact si_put_W hx hb hown hts hK hW hS hd hl hlt hsh hnar hfit (hfin.imp id (fun z => ⟨hin z.1, by rw [← z.2]; exact hoy⟩)) (fun H1 locs1 h1 h2 => kk _ _ _ h1 h2 hL)
          · cases hstep
        · cases hstep
      · cases hstep
    · cases hstep
  case h_48 =>
    split at hstep
    · rename_i hn
      subst hn
      split at hstep
      · split at hstep
        · rename_i ha
          subst ha
          split at hstep
          · rename_i hi
            cases hstep
            exact va_sld hx hb hX.1 hXl hXA hS (si_in_spec hi) hd (kk _ _ _ hW hS hL)
          · cases hstep
        · split at hstep
          · rename_i hv
            cases hstep
            exact si_iald_W hx hb hK hW hd hv (kk _ _ _ hW hS hL)
          · cases hstep
      · cases hstep
    · cases hstep
  case h_49 =>
    split at hstep
    · rename_i hn
      subst hn
      split at hstep
      · split at hstep
        · rename_i hv
          cases hstep
          exact si_bald_W hx hb hK hW hd hv (kk _ _ _ hW hS hL)
        · cases hstep
      · cases hstep
    · cases hstep
  case h_50 =>
    split at hstep
    · rename_i hn
      subst hn
      split at hstep
      · split at hstep
        · rename_i hv
          cases hstep
          exact si_lald_W hx hb hK hW hd hv (kk _ _ _ hW hS hL)
        · cases hstep
      · cases hstep
    · cases hstep
  case h_51 =>
    split at hstep
    · rename_i hn
      subst hn
      split at hstep
      · split at hstep
        · rename_i hv
          cases hstep
          exact si_iast_W hx hb hK hW hS hd hv (fun H1 locs1 h1 h2 => kk _ _ _ h1 h2 hL)
        · cases hstep
      · cases hstep
    · cases hstep
  case h_52 =>
    split at hstep
    · rename_i hn
      subst hn
      split at hstep
      · split at hstep
        · rename_i hv
          cases hstep
          exact si_bast_W hx hb hK hW hS hd hv (fun H1 locs1 h1 h2 => kk _ _ _ h1 h2 hL)
        · cases hstep
      · cases hstep
    · cases hstep
  case h_53 =>
    split at hstep
    · rename_i hn
      subst hn
      split at hstep
      · split at hstep
        · rename_i hv
          cases hstep
          exact si_last_W hx hb hK hW hS hd hv (fun H1 locs1 h1 h2 => kk _ _ _ h1 h2 hL)
        · cases hstep
      · cases hstep
    · cases hstep
  case h_54 =>
    split at hstep
    · rename_i hn
      subst hn
      split at hstep
      · split at hstep
        · rename_i ha
          subst ha
          cases hstep
          exact va_slen hx hb hX.1 hXl hXA hS hd (kk _ _ _ hW hS hL)
        · split at hstep
          · rename_i j hj
            obtain ⟨rfl, hlt⟩ := si_ix_spec hj
            split at hstep
            · rename_i ty nn hs
              cases hstep
              obtain ⟨g1, g2⟩ := si_arrcell hK hW hlt hs
              exact W.alen hx hb g1 g2 (by rw [arrV_size] <;> rfl) rfl rfl hd (kk _ _ _ hW hS hL)
            · cases hstep
          · cases hstep
      · cases hstep
    · cases hstep
  case h_55 => cases hstep
end SiStep
