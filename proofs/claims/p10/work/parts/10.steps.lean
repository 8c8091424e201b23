section SiSteps
variable {p : Program} {l : Launch} {e : Env} {R : Room} {s : State} {m : MethodId} {args : Array Value} {below : List Frame} {meth : Method} {c : Code} {H : Heap} {locs : List Loc} {cells slots : Nat} {Q : State → Prop}
variable {cc : ByteArray} {pc : Nat} {LS : Array Slot} {st : List Value} {D : va_G} {ca : FieldType → ClassId} {P : si_P} {O : String} {r : si_E} {ls : si_L} {nL : Nat} {h : si_H}
theorem si_con_W {v : Value} (hx : p.tables.exec = Jvm.exec) (hb : c.code = cc) (hown : s.vm.findClass O = some m.cls) (hts : ∀ w ∈ si_gw, w.before args s = true) (hX : si_X P s) (hd : decode cc pc = .ok (r.1, r.2.1)) (hl : lk_e O r = true) (hv : si_con P r = some v)
    (k : W p l e R s m args below meth c H locs cells slots Q (F0 m (pc + r.2.1) LS (v :: st))) : W p l e R s m args below meth c H locs cells slots Q (F0 m pc LS st) := by
  obtain ⟨i, n, a, b, q⟩ := r
  unfold si_con at hv
  split at hv
  all_goals try (rename_i heq; cases heq)
  · cases hv; exact lv_iconst hx hb hd rfl k
  · cases hv; exact lv_bipush hx hb hd rfl k
  · cases hv; exact lv_sipush hx hb hd rfl k
  · cases hv; exact lv_lconst hx hb hd rfl k
  · split at hv
    · rename_i h0
      subst h0
      cases hv
      have hw : lw_tbl[q]? = some (.constant O _ (Int32.ofNat a)) := of_decide_eq_true hl
      exact lv_ldc hx hb hown (hts _ (si_gw_in (si_at hw) rfl)) hd k
    · rename_i ix h0
      cases hv
      have hstr := hX.2.2.2.1
      have h31 := hX.2.2.2.2.1
      have key : ∃ t, lw_tbl[q]? = some (.stringRef O ix t) ∧ P.2.2.2.2 a = P.2.2.2.2 (if t = "glsx" then 2 else 1) := by
        unfold lk_e at hl
        cases b with
        | zero => exact absurd rfl h0
        | succ b =>
          dsimp only at hl
          split at hl
          · rename_i hz
            cases hz
          · split at hl
            · exact ⟨_, of_decide_eq_true hl, rfl⟩
            · exact ⟨_, of_decide_eq_true hl, rfl⟩
            · exact ⟨_, of_decide_eq_true hl, h31⟩
            · cases hl
      obtain ⟨t, hw, ha⟩ := key
      dsimp only at k ⊢
      rw [ha] at k
      exact va_ldcS hx hb hown (hstr _ _ _ (si_at hw)) hd k
  · split at hv
    · rename_i h0
      subst h0
      cases hv
      have hw : lw_tbl[q]? = some (.constant O _ (Int32.ofNat a)) := of_decide_eq_true hl
      exact lv_ldcw hx hb hown (hts _ (si_gw_in (si_at hw) rfl)) hd k
    · cases hv
  · cases hv
    have hw : lw_tbl[q]? = some (.constantLong O _ (Int64.ofNat a)) := of_decide_eq_true hl
    exact lv_ldc2 hx hb hown (hts _ (si_gw_in (si_at hw) rfl)) hd k
  · cases hv
theorem si_ld_mem {k : Nat} {v : Value} {ls : si_L} (h : si_ld k ls = some v) : (k, v) ∈ ls := by
  induction ls with
  | nil => cases h
  | cons q r ih =>
    unfold si_ld at h
    split at h
    · rename_i hq
      cases h
      rw [← hq]
      exact List.mem_cons_self
    · exact List.mem_cons_of_mem _ (ih h)
theorem si_lod_W {v : Value} {k t : Nat} (hx : p.tables.exec = Jvm.exec) (hb : c.code = cc) (hL : lv_has LS nL ls) (hd : decode cc pc = .ok (r.1, r.2.1)) (hr : si_lod r = some (k, t)) (hv : si_ld k ls = some v) (ht : si_kd v t = true)
    (kk : W p l e R s m args below meth c H locs cells slots Q (F0 m (pc + r.2.1) LS (v :: st))) : W p l e R s m args below meth c H locs cells slots Q (F0 m pc LS st) := by
  obtain ⟨i, n, a, b, q⟩ := r
  have hm := hL.2.2 _ (si_ld_mem hv)
  dsimp only at hm
  unfold si_lod at hr
  split at hr
  all_goals try (rename_i heq; cases heq)
  all_goals first
    | (cases hr; done)
    | (cases hr; cases v <;> first | (exact (Bool.false_ne_true ht).elim) | exact lv_iload_n hx hb hd rfl hm kk | exact lv_iload hx hb hd hm kk | exact lv_lload_n hx hb hd rfl hm kk | exact lv_lload hx hb hd hm kk | exact lv_aload_n hx hb hd rfl hm kk | exact lv_aload hx hb hd hm kk)
theorem si_sto_W {v : Value} {k t : Nat} (hx : p.tables.exec = Jvm.exec) (hb : c.code = cc) (hL : lv_has LS nL ls) (hd : decode cc pc = .ok (r.1, r.2.1)) (hr : si_sto r = some (k, t)) (ht : si_kd v t = true) (hk : k + v.category ≤ nL)
    (kk : ∀ LS' : Array Slot, lv_has LS' nL (if v.category = 2 then si_st2 ls k v else si_st1 ls k v) → W p l e R s m args below meth c H locs cells slots Q (F0 m (pc + r.2.1) LS' st)) : W p l e R s m args below meth c H locs cells slots Q (F0 m pc LS (v :: st)) := by
  obtain ⟨i, n, a, b, q⟩ := r
  unfold si_sto at hr
  split at hr
  all_goals try (rename_i heq; cases heq)
  all_goals first
    | (cases hr; done)
    | (cases hr; cases v <;> first
        | (exact (Bool.false_ne_true ht).elim)
        | exact lv_istore_n hx hb hd rfl hL hk rfl (fun ls' hl => kk ls' hl)
        | exact lv_istore hx hb hd hL hk rfl (fun ls' hl => kk ls' hl)
        | exact lv_lstore_n hx hb hd rfl hL hk rfl (fun ls' hl => kk ls' hl)
        | exact lv_lstore hx hb hd hL hk rfl (fun ls' hl => kk ls' hl)
        | exact lv_astore_n hx hb hd rfl hL hk rfl (fun ls' hl => kk ls' hl)
        | exact lv_astore hx hb hd hL hk rfl (fun ls' hl => kk ls' hl))
theorem si_bin_W {i : Instr} {v w z : Value} (hx : p.tables.exec = Jvm.exec) (hb : c.code = cc) (hd : decode cc pc = .ok (i, 1)) (hz : si_bin i v w = some z)
    (k : W p l e R s m args below meth c H locs cells slots Q (F0 m (pc + 1) LS (z :: st))) : W p l e R s m args below meth c H locs cells slots Q (F0 m pc LS (v :: w :: st)) := by
  unfold si_bin at hz
  split at hz
  · cases hz; exact lv_iadd hx hb hd k
  · cases hz; exact lv_isub hx hb hd k
  · cases hz; exact lv_imul hx hb hd k
  · cases hz; exact lv_iand hx hb hd k
  · cases hz; exact lv_ior hx hb hd k
  · cases hz; exact lv_ixor hx hb hd k
  · cases hz; exact lv_ishl hx hb hd k
  · cases hz; exact lv_ishr hx hb hd k
  · cases hz; exact lv_iushr hx hb hd rfl k
  · split at hz
    · cases hz
    · rename_i h0; cases hz; exact lv_idiv hx hb hd h0 k
  · split at hz
    · cases hz
    · rename_i h0; cases hz; exact lv_irem hx hb hd h0 k
  · cases hz; exact lv_ladd hx hb hd k
  · cases hz; exact W.lcmp hx hb hd k
  · cases hz
theorem si_un_W {i : Instr} {v z : Value} (hx : p.tables.exec = Jvm.exec) (hb : c.code = cc) (hd : decode cc pc = .ok (i, 1)) (hz : si_un i v = some z)
    (k : W p l e R s m args below meth c H locs cells slots Q (F0 m (pc + 1) LS (z :: st))) : W p l e R s m args below meth c H locs cells slots Q (F0 m pc LS (v :: st)) := by
  unfold si_un at hz
  split at hz
  · cases hz; exact lv_ineg hx hb hd k
  · cases hz; exact lv_i2b hx hb hd rfl k
  · cases hz; exact lv_i2c hx hb hd rfl k
  · cases hz; exact lv_i2l hx hb hd rfl k
  · cases hz; exact lv_l2i hx hb hd rfl k
  · cases hz
theorem si_tgt_spec {pc t : Nat} {off : Int} (h : si_tgt pc off = some t) : (pc : Int) + off = (t : Int) := by
  unfold si_tgt at h
  split at h
  · rename_i h0
    cases h
    exact (Int.toNat_of_nonneg h0).symm
  · cases h
theorem si_if_W {kd : ClassFile.Cond} {off : Int} {x : Int32} {t : Nat} (hx : p.tables.exec = Jvm.exec) (hb : c.code = cc) (hd : decode cc pc = .ok (.ifCond kd off, 3)) (ht : si_tgt pc off = some t)
    (k : W p l e R s m args below meth c H locs cells slots Q (F0 m (if si_c1 kd x = true then t else pc + 3) LS st)) : W p l e R s m args below meth c H locs cells slots Q (F0 m pc LS (.int x :: st)) := by
  have ht := si_tgt_spec ht
  cases kd
  · exact lv_if_eq hx hb hd ht (fun hc => by have e0 : si_c1 .eq x = true := decide_eq_true hc; rw [if_pos e0] at k; exact k) (fun hc => by have e0 : ¬ si_c1 .eq x = true := fun q => hc (of_decide_eq_true q); rw [if_neg e0] at k; exact k)
  · exact lv_if_ne hx hb hd ht (fun hc => by have e0 : si_c1 .ne x = true := decide_eq_true hc; rw [if_pos e0] at k; exact k) (fun hc => by have e0 : ¬ si_c1 .ne x = true := fun q => (of_decide_eq_true q) hc; rw [if_neg e0] at k; exact k)
  · exact lv_if_lt hx hb hd ht (fun hc => by have e0 : si_c1 .lt x = true := decide_eq_true hc; rw [if_pos e0] at k; exact k) (fun hc => by have e0 : ¬ si_c1 .lt x = true := fun q => hc (of_decide_eq_true q); rw [if_neg e0] at k; exact k)
  · exact lv_if_ge hx hb hd ht (fun hc => by have e0 : si_c1 .ge x = true := decide_eq_true hc; rw [if_pos e0] at k; exact k) (fun hc => by have e0 : ¬ si_c1 .ge x = true := fun q => hc (of_decide_eq_true q); rw [if_neg e0] at k; exact k)
  · exact lv_if_gt hx hb hd ht (fun hc => by have e0 : si_c1 .gt x = true := decide_eq_true hc; rw [if_pos e0] at k; exact k) (fun hc => by have e0 : ¬ si_c1 .gt x = true := fun q => hc (of_decide_eq_true q); rw [if_neg e0] at k; exact k)
  · exact lv_if_le hx hb hd ht (fun hc => by have e0 : si_c1 .le x = true := decide_eq_true hc; rw [if_pos e0] at k; exact k) (fun hc => by have e0 : ¬ si_c1 .le x = true := fun q => hc (of_decide_eq_true q); rw [if_neg e0] at k; exact k)
theorem si_icmp_W {kd : ClassFile.Cond} {off : Int} {x y : Int32} {t : Nat} (hx : p.tables.exec = Jvm.exec) (hb : c.code = cc) (hd : decode cc pc = .ok (.if_icmp kd off, 3)) (ht : si_tgt pc off = some t)
    (k : W p l e R s m args below meth c H locs cells slots Q (F0 m (if si_c2 kd x y = true then t else pc + 3) LS st)) : W p l e R s m args below meth c H locs cells slots Q (F0 m pc LS (.int y :: .int x :: st)) := by
  have ht := si_tgt_spec ht
  cases kd
  · exact lv_icmp_eq hx hb hd ht (fun hc => by have e0 : si_c2 .eq x y = true := decide_eq_true hc; rw [if_pos e0] at k; exact k) (fun hc => by have e0 : ¬ si_c2 .eq x y = true := fun q => hc (of_decide_eq_true q); rw [if_neg e0] at k; exact k)
  · exact lv_icmp_ne hx hb hd ht (fun hc => by have e0 : si_c2 .ne x y = true := decide_eq_true hc; rw [if_pos e0] at k; exact k) (fun hc => by have e0 : ¬ si_c2 .ne x y = true := fun q => (of_decide_eq_true q) hc; rw [if_neg e0] at k; exact k)
  · exact lv_icmp_lt hx hb hd ht (fun hc => by have e0 : si_c2 .lt x y = true := decide_eq_true hc; rw [if_pos e0] at k; exact k) (fun hc => by have e0 : ¬ si_c2 .lt x y = true := fun q => hc (of_decide_eq_true q); rw [if_neg e0] at k; exact k)
  · exact lv_icmp_ge hx hb hd ht (fun hc => by have e0 : si_c2 .ge x y = true := decide_eq_true hc; rw [if_pos e0] at k; exact k) (fun hc => by have e0 : ¬ si_c2 .ge x y = true := fun q => hc (of_decide_eq_true q); rw [if_neg e0] at k; exact k)
  · exact lv_icmp_gt hx hb hd ht (fun hc => by have e0 : si_c2 .gt x y = true := decide_eq_true hc; rw [if_pos e0] at k; exact k) (fun hc => by have e0 : ¬ si_c2 .gt x y = true := fun q => hc (of_decide_eq_true q); rw [if_neg e0] at k; exact k)
  · exact lv_icmp_le hx hb hd ht (fun hc => by have e0 : si_c2 .le x y = true := decide_eq_true hc; rw [if_pos e0] at k; exact k) (fun hc => by have e0 : ¬ si_c2 .le x y = true := fun q => hc (of_decide_eq_true q); rw [if_neg e0] at k; exact k)
theorem si_get_W {idx ci k q i n : Nat} (hx : p.tables.exec = Jvm.exec) (hb : c.code = cc) (hown : s.vm.findClass O = some m.cls) (hts : ∀ w ∈ si_gw, w.before args s = true) (hK : si_K D ca s) (hW : si_W D ca P h H) (hd : decode cc pc = .ok (.getfield idx, 3)) (hl : lk_e O (.getfield idx, 3, ci, k, q) = true) (hi : i < h.1) (hsh : h.2.1 i = .inl (ci, n))
    (kk : W p l e R s m args below meth c H locs cells slots Q (F0 m (pc + 3) LS (h.2.2 i k :: st))) : W p l e R s m args below meth c H locs cells slots Q (F0 m pc LS (.ref (P.1 + i) :: st)) := by
  have hc := hW.2 i hi
  rw [hsh] at hc
  obtain ⟨w, h1, h2, cell, q1, q2, q3, q4⟩ := hc
  obtain ⟨C, T, N⟩ := w
  dsimp only at h1 h2 q2 q4
  subst h2
  obtain ⟨hin, -⟩ := si_cls h1
  obtain ⟨hS, hfc, kC, hkC, hkind⟩ := hK.1.1 ci _ h1
  unfold lk_e at hl
  dsimp only at hl
  rw [h1] at hl
  simp only [Bool.and_eq_true, Bool.or_eq_true, decide_eq_true_eq] at hl
  obtain ⟨⟨hk, hTC⟩, hlink⟩ := hl
  obtain ⟨cf, kf, fi, f, hif, hsl⟩ := hS k hk
  have hst := (u_facts hfc hkC (u_lays hts hin hk) hif).1
  have hslot : cell.slots[f.slot]? = some (h.2.2 i k) := by rw [hsl]; exact q4 k hk
  rcases hlink with hlink | hlink
  · exact W.getf hx hb hown (hts _ (si_gw_in (si_at hlink) rfl)) (by rw [← hTC]; exact hif) hst q1 (by rw [q3]; exact fun z => by cases z) hslot rfl rfl hd kk
  · exact va_Wgetf hx hb hown (va_Nw.use rfl (hK.2 _ (si_at hlink) rfl)) (by rw [← hTC]; exact hif) hst q1 (by rw [q3]; exact fun z => by cases z) hslot rfl rfl hd kk
theorem si_put_W {idx ci k q i n : Nat} {v : Value} (hx : p.tables.exec = Jvm.exec) (hb : c.code = cc) (hown : s.vm.findClass O = some m.cls) (hts : ∀ w ∈ si_gw, w.before args s = true) (hK : si_K D ca s) (hW : si_W D ca P h H) (hS0 : va_S (si_A P) s.heap H locs) (hd : decode cc pc = .ok (.putfield idx, 3)) (hl : lk_e O (.putfield idx, 3, ci, k, q) = true) (hi : i < h.1) (hsh : h.2.1 i = .inl (ci, n))
    (hn : narrow (si_fty ci k) v = v) (hfit : fits (si_fty ci k) v = true) (hfin : si_fin ci k = false ∨ (meth.name = "<init>" ∧ si_own[ci]? = some O))
    (kk : ∀ (H1 : Heap) (locs1 : List Loc), si_W D ca P (h.1, h.2.1, si_set h.2.2 i k v) H1 → va_S (si_A P) s.heap H1 locs1 → W p l e R s m args below meth c H1 locs1 cells slots Q (F0 m (pc + 3) LS st)) : W p l e R s m args below meth c H locs cells slots Q (F0 m pc LS (v :: .ref (P.1 + i) :: st)) := by
  have hc := hW.2 i hi
  rw [hsh] at hc
  obtain ⟨w, h1, h2, cell, q1, q2, q3, q4⟩ := hc
  obtain ⟨C, T, N⟩ := w
  dsimp only at h1 h2 q2 q4
  subst h2
  obtain ⟨hin, hty, hnm, -, -, hoC, -⟩ := si_cls h1
  have hap := va_apart (own := O) hts hin (si_fty ci) hty hnm hK.1 h1
  obtain ⟨hS, hfc, kC, hkC, hkind⟩ := hK.1.1 ci _ h1
  unfold lk_e at hl
  dsimp only at hl
  rw [h1] at hl
  simp only [Bool.and_eq_true, Bool.or_eq_true, decide_eq_true_eq] at hl
  obtain ⟨⟨hk, hTC⟩, hlink⟩ := hl
  obtain ⟨cf, kf, fi, f, hif, hsl⟩ := hS k hk
  have hla := u_lays hts hin hk
  have hst := (u_facts hfc hkC hla hif).1
  have h6 := u_fits hfc hkC hkind hla hif (hty k hk) hn hfit
  have hf2 : hasFlag f.accessFlags Acc.final = false ∨ (m.cls = cf ∧ meth.name = "<init>") := by
    have hlay := hts _ (hin _ (u_in_lay hk))
    unfold u_lay at hlay
    by_cases hff : (T k).2.2.2 = true
    · rcases hfin with hfin | ⟨hfi, hfo⟩
      · unfold si_fin at hfin
        rw [h1] at hfin
        dsimp only at hfin
        rw [hff] at hfin
        cases hfin
      · rw [if_pos hff] at hlay
        obtain ⟨_, _, c', _, _, _, -, -, hf', -, -, -, hown2, -⟩ := Cond.laysFinal_spec hlay
        have e1 : c' = cf := by have := hif.symm.trans hf'; simp at this; exact this.1.symm
        rw [hTC, ← Option.some.inj (hfo.symm.trans hoC)] at hown2
        exact Or.inr ⟨by rw [← e1]; exact Option.some.inj (hown.symm.trans hown2), hfi⟩
    · rw [if_neg hff] at hlay
      exact Or.inl (u_store hfc hkC hkind hlay hif (hty k hk) hn hfit).1
  have ha : P.1 + i < H.size := (Array.getElem?_eq_some_iff.mp q1).1
  have hlt : f.slot < cell.slots.size := by rw [hsl]; exact k2_hasslot (q4 k hk)
  have key : W p l e R s m args below meth c (H.setIfInBounds (P.1 + i) (cell.setSlot f.slot v)) (locs ++ [⟨P.1 + i, f.slot⟩]) cells slots Q (F0 m (pc + 3) LS st) := by
    have e1 : (H.setIfInBounds (P.1 + i) (cell.setSlot f.slot v))[P.1 + i]? = some (cell.setSlot f.slot v) := by simp [Array.getElem?_setIfInBounds, ha]
    have e2 : (H.setIfInBounds (P.1 + i) (cell.setSlot f.slot v)).size = H.size := by simp
    have e3 : ∀ z : Nat, z ≠ P.1 + i → (H.setIfInBounds (P.1 + i) (cell.setSlot f.slot v))[z]? = H[z]? := fun z hz => by simp [Array.getElem?_setIfInBounds, Ne.symm hz]
    refine kk _ _ (hW.put e2 ?_ e3) (hS0.put e2 e3 (show P.1 ≤ P.1 + i by omega))
    rw [hsh]
    rw [hsl] at e1 ⊢
    exact ⟨(C, T, N), h1, rfl, _, e1, q2, q3, t_set q4 hap hk v⟩
  rcases hlink with hlink | hlink
  · exact W.putf hx hb hown (hts _ (si_gw_in (si_at hlink) rfl)) (by rw [← hTC]; exact hif) hst hf2 q1 (by rw [q3]; exact fun z => by cases z) hlt h6.1 (by rw [q3, q2]; exact h6.2) rfl rfl hd key
  · exact va_Wputf hx hb hown (va_Nw.use rfl (hK.2 _ (si_at hlink) rfl)) (by rw [← hTC]; exact hif) hst hf2 q1 (by rw [q3]; exact fun z => by cases z) hlt h6.1 (by rw [q3, q2]; exact h6.2) rfl rfl hd key
theorem si_ald_spec {tys : List FieldType} {a : Nat} {x : Int32} {v : Value} (h1 : si_ald P h tys a x = some v) : ∃ i ty n, a = P.1 + i ∧ i < h.1 ∧ h.2.1 i = .inr (ty, n) ∧ vp_in x n ∧ ty ∈ tys ∧ v = h.2.2 i x.toNatClampNeg := by
  unfold si_ald at h1
  split at h1
  · rename_i i hi
    obtain ⟨ha, hl⟩ := si_ix_spec hi
    split at h1
    · rename_i ty n hs
      split at h1
      · rename_i hc
        cases h1
        exact ⟨i, ty, n, ha, hl, hs, si_in_spec hc.1, hc.2, rfl⟩
      · cases h1
    · cases h1
  · cases h1
theorem si_ast_spec {tys : List FieldType} {a : Nat} {x : Int32} {v : Value} {h' : si_H} (h1 : si_ast P h tys a x v = some h') : ∃ i ty n, a = P.1 + i ∧ i < h.1 ∧ h.2.1 i = .inr (ty, n) ∧ vp_in x n ∧ ty ∈ tys ∧ h' = (h.1, h.2.1, si_set h.2.2 i x.toNatClampNeg (si_nar ty v)) := by
  unfold si_ast at h1
  split at h1
  · rename_i i hi
    obtain ⟨ha, hl⟩ := si_ix_spec hi
    split at h1
    · rename_i ty n hs
      split at h1
      · rename_i hc
        cases h1
        exact ⟨i, ty, n, ha, hl, hs, si_in_spec hc.1, hc.2, rfl⟩
      · cases h1
    · cases h1
  · cases h1
theorem si_arrcell {i n : Nat} {ty : FieldType} (hK : si_K D ca s) (hW : si_W D ca P h H) (hi : i < h.1) (hs : h.2.1 i = .inr (ty, n)) : H[P.1 + i]? = some (arrV (ca ty) n (h.2.2 i)) ∧ s.isArrayOf (arrV (ca ty) n (h.2.2 i)) ty := by
  have hc := hW.2 i hi
  rw [hs] at hc
  exact ⟨hc.2, (si_arr hK hc.1).1 _ _⟩
theorem si_astored {i n : Nat} {ty : FieldType} {x : Int32} {v : Value} {H1 : Heap} (hW : si_W D ca P h H) (hi : i < h.1) (hs : h.2.1 i = .inr (ty, n)) (e1 : H1[P.1 + i]? = some ((arrV (ca ty) n (h.2.2 i)).setSlot x.toNatClampNeg v)) (e2 : H1.size = H.size) (e3 : ∀ q : Nat, q ≠ P.1 + i → H1[q]? = H[q]?) : si_W D ca P (h.1, h.2.1, si_set h.2.2 i x.toNatClampNeg v) H1 := by
  have hc := hW.2 i hi
  rw [hs] at hc
  refine hW.put e2 ?_ e3
  rw [hs]
  exact ⟨hc.1, by rw [e1, arrV_store]⟩
theorem si_iald_W {a : Nat} {x : Int32} {v : Value} (hx : p.tables.exec = Jvm.exec) (hb : c.code = cc) (hK : si_K D ca s) (hW : si_W D ca P h H) (hd : decode cc pc = .ok (.iaload, 1)) (h1 : si_ald P h [.int] a x = some v)
    (kk : W p l e R s m args below meth c H locs cells slots Q (F0 m (pc + 1) LS (v :: st))) : W p l e R s m args below meth c H locs cells slots Q (F0 m pc LS (.int x :: .ref a :: st)) := by
  obtain ⟨i, ty, n, rfl, hi, hs, hin, hty, rfl⟩ := si_ald_spec h1
  cases List.mem_singleton.mp hty
  obtain ⟨g1, g2⟩ := si_arrcell hK hW hi hs
  exact W.iald hx hb g1 g2 (fun z => by cases z) (by rw [arrV_size]; exact hin) (arrV_read _ _ (Nat.not_le.mp fun z => hin (Or.inr z))) rfl rfl hd kk
theorem si_lald_W {a : Nat} {x : Int32} {v : Value} (hx : p.tables.exec = Jvm.exec) (hb : c.code = cc) (hK : si_K D ca s) (hW : si_W D ca P h H) (hd : decode cc pc = .ok (.laload, 1)) (h1 : si_ald P h [.long] a x = some v)
    (kk : W p l e R s m args below meth c H locs cells slots Q (F0 m (pc + 1) LS (v :: st))) : W p l e R s m args below meth c H locs cells slots Q (F0 m pc LS (.int x :: .ref a :: st)) := by
  obtain ⟨i, ty, n, rfl, hi, hs, hin, hty, rfl⟩ := si_ald_spec h1
  cases List.mem_singleton.mp hty
  obtain ⟨g1, g2⟩ := si_arrcell hK hW hi hs
  exact W.lald hx hb g1 g2 (fun z => by cases z) (by rw [arrV_size]; exact hin) (arrV_read _ _ (Nat.not_le.mp fun z => hin (Or.inr z))) rfl rfl hd kk
theorem si_bald_W {a : Nat} {x : Int32} {v : Value} (hx : p.tables.exec = Jvm.exec) (hb : c.code = cc) (hK : si_K D ca s) (hW : si_W D ca P h H) (hd : decode cc pc = .ok (.baload, 1)) (h1 : si_ald P h [.byte, .boolean] a x = some v)
    (kk : W p l e R s m args below meth c H locs cells slots Q (F0 m (pc + 1) LS (v :: st))) : W p l e R s m args below meth c H locs cells slots Q (F0 m pc LS (.int x :: .ref a :: st)) := by
  obtain ⟨i, ty, n, rfl, hi, hs, hin, hty, rfl⟩ := si_ald_spec h1
  obtain ⟨g1, g2⟩ := si_arrcell hK hW hi hs
  simp only [List.mem_cons, List.not_mem_nil, or_false] at hty
  rcases hty with rfl | rfl
  · exact W.bald hx hb g1 g2 (fun z => by cases z) (by rw [arrV_size]; exact hin) (arrV_read _ _ (Nat.not_le.mp fun z => hin (Or.inr z))) rfl rfl hd kk
  · exact W.zald hx hb g1 g2 (fun z => by cases z) (by rw [arrV_size]; exact hin) (arrV_read _ _ (Nat.not_le.mp fun z => hin (Or.inr z))) rfl rfl hd kk
theorem si_iast_W {a : Nat} {x v : Int32} {h' : si_H} (hx : p.tables.exec = Jvm.exec) (hb : c.code = cc) (hK : si_K D ca s) (hW : si_W D ca P h H) (hS0 : va_S (si_A P) s.heap H locs) (hd : decode cc pc = .ok (.iastore, 1)) (h1 : si_ast P h [.int] a x (.int v) = some h')
    (kk : ∀ (H1 : Heap) (locs1 : List Loc), si_W D ca P h' H1 → va_S (si_A P) s.heap H1 locs1 → W p l e R s m args below meth c H1 locs1 cells slots Q (F0 m (pc + 1) LS st)) : W p l e R s m args below meth c H locs cells slots Q (F0 m pc LS (.int v :: .int x :: .ref a :: st)) := by
  obtain ⟨i, ty, n, rfl, hi, hs, hin, hty, rfl⟩ := si_ast_spec h1
  cases List.mem_singleton.mp hty
  obtain ⟨g1, g2⟩ := si_arrcell hK hW hi hs
  exact W.iast hx hb g1 g2 (fun z => by cases z) (by rw [arrV_size]; exact hin) rfl rfl hd (fun H1 e1 e2 e3 => kk H1 _ (si_astored hW hi hs e1 e2 e3) (hS0.put e2 e3 (show P.1 ≤ P.1 + i by omega)))
theorem si_last_W {a : Nat} {x : Int32} {v : Int64} {h' : si_H} (hx : p.tables.exec = Jvm.exec) (hb : c.code = cc) (hK : si_K D ca s) (hW : si_W D ca P h H) (hS0 : va_S (si_A P) s.heap H locs) (hd : decode cc pc = .ok (.lastore, 1)) (h1 : si_ast P h [.long] a x (.long v) = some h')
    (kk : ∀ (H1 : Heap) (locs1 : List Loc), si_W D ca P h' H1 → va_S (si_A P) s.heap H1 locs1 → W p l e R s m args below meth c H1 locs1 cells slots Q (F0 m (pc + 1) LS st)) : W p l e R s m args below meth c H locs cells slots Q (F0 m pc LS (.long v :: .int x :: .ref a :: st)) := by
  obtain ⟨i, ty, n, rfl, hi, hs, hin, hty, rfl⟩ := si_ast_spec h1
  cases List.mem_singleton.mp hty
  obtain ⟨g1, g2⟩ := si_arrcell hK hW hi hs
  exact W.last hx hb g1 g2 (fun z => by cases z) (by rw [arrV_size]; exact hin) rfl rfl hd (fun H1 e1 e2 e3 => kk H1 _ (si_astored hW hi hs e1 e2 e3) (hS0.put e2 e3 (show P.1 ≤ P.1 + i by omega)))
theorem si_bast_W {a : Nat} {x v : Int32} {h' : si_H} (hx : p.tables.exec = Jvm.exec) (hb : c.code = cc) (hK : si_K D ca s) (hW : si_W D ca P h H) (hS0 : va_S (si_A P) s.heap H locs) (hd : decode cc pc = .ok (.bastore, 1)) (h1 : si_ast P h [.byte, .boolean] a x (.int v) = some h')
    (kk : ∀ (H1 : Heap) (locs1 : List Loc), si_W D ca P h' H1 → va_S (si_A P) s.heap H1 locs1 → W p l e R s m args below meth c H1 locs1 cells slots Q (F0 m (pc + 1) LS st)) : W p l e R s m args below meth c H locs cells slots Q (F0 m pc LS (.int v :: .int x :: .ref a :: st)) := by
  obtain ⟨i, ty, n, rfl, hi, hs, hin, hty, rfl⟩ := si_ast_spec h1
  obtain ⟨g1, g2⟩ := si_arrcell hK hW hi hs
  simp only [List.mem_cons, List.not_mem_nil, or_false] at hty
  rcases hty with rfl | rfl
  · exact W.bast hx hb g1 g2 (fun z => by cases z) (by rw [arrV_size]; exact hin) rfl rfl hd (fun H1 e1 e2 e3 => kk H1 _ (si_astored hW hi hs e1 e2 e3) (hS0.put e2 e3 (show P.1 ≤ P.1 + i by omega)))
  · exact W.zast hx hb g1 g2 (fun z => by cases z) (by rw [arrV_size]; exact hin) rfl rfl hd (fun H1 e1 e2 e3 => kk H1 _ (si_astored hW hi hs e1 e2 e3) (hS0.put e2 e3 (show P.1 ≤ P.1 + i by omega)))
end SiSteps
