section SiSim
variable {p : Program} {l : Launch} {e : Env} {R : Room} {s : State} {m : MethodId} {args : Array Value} {below : List Frame} {meth : Method} {c : Code} {H : Heap} {locs : List Loc} {cells slots : Nat} {Q : State → Prop}
variable {cc : ByteArray} {pc : Nat} {LS : Array Slot} {st : List Value} {D : va_G} {ca : FieldType → ClassId} {P : si_P} {O : String} {r : si_E} {ls : si_L} {h : si_H}
theorem si_make_gr {st' : List Value} {h' : si_H} (hm : si_make P r st h = some (st', h')) : si_gr h h' ∧ h'.1 = h.1 + 1 := by
  unfold si_make at hm
  split at hm
  · split at hm
    · split at hm
      · cases hm
        exact ⟨⟨Nat.le_succ _, fun i hi => if_neg (by omega)⟩, rfl⟩
      · cases hm
    · cases hm
  · split at hm
    · split at hm
      · split at hm
        · cases hm
          exact ⟨⟨Nat.le_succ _, fun i hi => if_neg (by omega)⟩, rfl⟩
        · cases hm
      · cases hm
    · cases hm
  · cases hm
theorem si_W.push {h' : si_H} {H1 : Heap} (hW : si_W D ca P h H) (h1 : h'.1 = h.1 + 1) (hs : ∀ i, i < h.1 → h'.2.1 i = h.2.1 i) (hc : ∀ i, i < h.1 → h'.2.2 i = h.2.2 i) (hn : si_cell D ca (P.1 + h.1) (h'.2.1 h.1) (h'.2.2 h.1) H1) (hz : H1.size = H.size + 1) (ho : ∀ q : Nat, q < H.size → H1[q]? = H[q]?) : si_W D ca P h' H1 := by
  refine ⟨by rw [hz, hW.1, h1]; omega, fun i hi => ?_⟩
  rcases Nat.lt_or_ge i h.1 with q | q
  · rw [hs i q, hc i q]
    exact (hW.2 i q).kept (ho _ (by rw [hW.1]; omega))
  · rw [show i = h.1 by omega]
    exact hn
theorem si_make_W {st' : List Value} {h' : si_H} (hx : p.tables.exec = Jvm.exec) (hb : c.code = cc) (hown : s.vm.findClass O = some m.cls) (hts : ∀ w ∈ si_gw, w.before args s = true) (hK : si_K D ca s) (hd : decode cc pc = .ok (r.1, r.2.1)) (hl : lk_e O r = true)
    (hW : si_W D ca P h H) (hS : va_S (si_A P) s.heap H locs) (hm : si_make P r st h = some (st', h')) (hcells : cells + 1 ≤ R.cells) (hslots : slots + (si_sz h' - si_sz h) ≤ R.slots)
    (kk : ∀ H1 : Heap, si_W D ca P h' H1 → va_S (si_A P) s.heap H1 locs → W p l e R s m args below meth c H1 locs (cells + 1) (slots + (si_sz h' - si_sz h)) Q (F0 m (pc + r.2.1) LS st')) : W p l e R s m args below meth c H locs cells slots Q (F0 m pc LS st) := by
  obtain ⟨hgr, hN⟩ := si_make_gr hm
  have hsz : si_sz h' - si_sz h = si_size (h'.2.1 h.1) := by
    have e1 : si_sz h' = si_sz h + si_size (h'.2.1 h.1) := by
      unfold si_sz
      rw [hN]
      show si_szN h'.2.1 h.1 + _ = _
      rw [si_szN_eq hgr.2]
    omega
  rw [hsz] at hslots kk
  have hSp : ∀ H1 : Heap, H1.size = H.size + 1 → (∀ q : Nat, q < H.size → H1[q]? = H[q]?) → va_S (si_A P) s.heap H1 locs := fun H1 z o => ⟨Nat.le_trans hS.1 (by omega), fun q h1 h2 => (o q (Nat.lt_of_lt_of_le h1 hS.1)).trans (hS.2.1 q h1 h2), hS.2.2⟩
  obtain ⟨i, n, a, b, q⟩ := r
  unfold si_make at hm
  dsimp only at hm hd
  split at hm
  · rename_i idx
    split at hm
    · rename_i hn
      subst hn
      split at hm
      · rename_i w hw
        cases hm
        obtain ⟨C, T, N⟩ := w
        obtain ⟨hin, hty, -, hinst, hini, -, hdv⟩ := si_cls hw
        have hKn := hK.1.1 a _ hw
        unfold lk_e at hl
        dsimp only at hl
        rw [hw] at hl
        have hcl : lw_tbl[q]? = some (.classLink O idx C) := of_decide_eq_true hl
        have hsN : si_size (if h.1 = h.1 then (.inl (a, N) : si_S) else h.2.1 h.1) = N := by rw [if_pos rfl]; rfl
        dsimp only at hslots kk
        rw [hsN] at hslots kk
        refine W.newcK hx hb hown (hts _ (si_gw_in (si_at hcl) rfl)) (hts _ (si_gw_in hinst rfl)) (hts _ (si_gw_in hini rfl)) rfl hd hcells hslots hKn.2.1 hW.1 fun H1 kC hkC e1 z1 o1 => ?_
        have z2 : H1.size = H.size + 1 := by rw [hW.1]; exact z1
        have o2 : ∀ q : Nat, q < H.size → H1[q]? = H[q]? := fun q hq => o1 q (by rw [← hW.1]; exact hq)
        refine kk H1 (hW.push rfl (fun i hi => if_neg (by omega)) (fun i hi => if_neg (by omega)) ?_ z2 o2) (hSp H1 z2 o2)
        show si_cell D ca (P.1 + h.1) (if h.1 = h.1 then _ else _) (if h.1 = h.1 then _ else _) H1
        rw [if_pos rfl, if_pos rfl]
        exact ⟨_, hw, rfl, (u_born (si_fty a) hts hin hKn hkC e1 hty).to (fun k hk => (hdv k hk).symm)⟩
      · cases hm
    · cases hm
  · rename_i t
    split at hm
    · rename_i hn
      subst hn
      split at hm
      · rename_i x rs
        split at hm
        · rename_i hc
          obtain ⟨hc1, hc2, hc3⟩ := hc
          cases hm
          have har : lw_tbl[q]? = some (.arrayClass (newarray.typeOf t)) := of_decide_eq_true hl
          have hsN : si_size (if h.1 = h.1 then (.inr (newarray.typeOf t, x.toNatClampNeg) : si_S) else h.2.1 h.1) = x.toNatClampNeg := by rw [if_pos rfl]; rfl
          dsimp only at hslots kk
          rw [hsN] at hslots kk
          have hby : x.toNatClampNeg * componentBytes (newarray.typeOf t) ≤ 536870912 := by
            have : componentBytes (newarray.typeOf t) ≤ 8 := by cases t <;> decide
            exact Nat.le_trans (Nat.mul_le_mul hc2 this) (by decide)
          refine va_newaK hx hb (hts _ (si_gw_in (si_at har) rfl)) rfl hd rfl hc1 rfl hby hcells hslots hW.1 fun H1 cA e1 z1 o1 hAr hNm => ?_
          have z2 : H1.size = H.size + 1 := by rw [hW.1]; exact z1
          have o2 : ∀ q : Nat, q < H.size → H1[q]? = H[q]? := fun q hq => o1 q (by rw [← hW.1]; exact hq)
          have hcA : cA = ca (newarray.typeOf t) := by
            have hra := (si_arr hK hc3).2
            have : s.vm.findClass ("[" ++ (newarray.typeOf t).toString) = some (ca (newarray.typeOf t)) := by cases t <;> exact hra
            exact Option.some.inj (hNm.symm.trans this)
          subst hcA
          refine kk H1 (hW.push rfl (fun i hi => if_neg (by omega)) (fun i hi => if_neg (by omega)) ?_ z2 o2) (hSp H1 z2 o2)
          show si_cell D ca (P.1 + h.1) (if h.1 = h.1 then _ else _) (if h.1 = h.1 then _ else _) H1
          rw [if_pos rfl, if_pos rfl]
          refine ⟨hc3, ?_⟩
          have hdv : si_dv (newarray.typeOf t) = defaultValue (newarray.typeOf t) := by
            simp only [List.mem_cons, List.not_mem_nil, or_false] at hc3
            rcases hc3 with z | z | z | z <;> (rw [z]; rfl)
          rw [hdv]
          exact e1
        · cases hm
      · cases hm
    · cases hm
  · cases hm
theorem si_ret_W {y : si_M} {rv : Option Value} {Qc : Array Value → State → Outcome → State → Prop} {free : Addr → Prop} (hx : p.tables.exec = Jvm.exec) (hb : c.code = cc) (hr : meth.sig.returnType = y.2.2.2.2.1) (hlocks : meth.locks = false) (hd : decode cc pc = .ok (r.1, r.2.1)) (h1 : si_ret y r st = some rv)
    (hq : ∀ t : State, t.heap = H → s.WarmedH t.vm → Qc args s (.returned rv) t) (hf : ∀ q ∈ locs, free q.base) : W p l e R s m args below meth c H locs cells slots (MQ below Qc args s cells slots free) (F0 m pc LS st) := by
  obtain ⟨i, n, a⟩ := r
  unfold si_ret at h1
  dsimp only at h1 hd
  split at h1
  · split at h1
    · rename_i ty hty
      split at h1
      · rename_i hc
        obtain ⟨rfl, hn⟩ := hc
        cases h1
        exact W.zret hx hb (hr.trans hty) hn hq hf hd hlocks
      · cases h1
    · cases h1
  · split at h1
    · rename_i hc
      obtain ⟨rfl, hn⟩ := hc
      cases h1
      exact W.lret hx hb (hr.trans hn) hq hf hd hlocks
    · cases h1
  · split at h1
    · rename_i hc
      obtain ⟨rfl, hn⟩ := hc
      cases h1
      exact W.vret hx hb (hr.trans hn) hq hf hd hlocks
    · cases h1
  · cases h1
/-- what a call leaves -/
def si_Q (D : va_G) (ca : FieldType → ClassId) (P : si_P) (rv : Option Value) (h' : si_H) : Array Value → State → Outcome → State → Prop := fun _ st oc t => oc = .returned rv ∧ si_W D ca P h' t.heap ∧ va_F (si_A P) st t
def si_Pc (D : va_G) (ca : FieldType → ClassId) (P : si_P) (as : List Value) (h : si_H) : Array Value → State → Prop := va_Pc as (fun U => si_W D ca P h U.heap ∧ si_K D ca U ∧ si_X P U)
theorem si_callG {rv : Option Value} {h' : si_H} {mc ms : Nat} {st0 rest : List Value} {a : Array Value} (hr : va_Run p l e R s m args below meth c H locs cells slots mc ms (F0 m pc LS st0) rest (si_Q D ca P rv h' a) (si_A P)) (hS : va_S (si_A P) s.heap H locs)
    (kk : ∀ (H1 : Heap) (locs1 : List Loc), si_W D ca P h' H1 → va_S (si_A P) s.heap H1 locs1 → W p l e R s m args below meth c H1 locs1 (cells + mc) (slots + ms) Q (F0 m (pc + 3) LS (rv.toList ++ rest))) : W p l e R s m args below meth c H locs cells slots Q (F0 m pc LS st0) := by
  intro T hT X
  obtain ⟨v, st₀, t, T', L, h0, X', hL, e1, e2, ⟨hv, hw, hz, hk⟩, st⟩ := hr T hT X
  cases hv
  rw [h0] at hz hk
  obtain ⟨t2, a1, b1⟩ := kk T'.heap (locs ++ L) (by rw [e1]; exact hw)
    ⟨Nat.le_trans hS.1 (by rw [e1]; exact hz), fun q h1 h2 => by rw [e1, hk q (Nat.lt_of_lt_of_le h1 hS.1) h2]; exact hS.2.1 q h1 h2, fun q hq => by
      rcases List.mem_append.mp hq with h | h
      · exact hS.2.2 q h
      · exact hL q h⟩ T' rfl X'
  exact ⟨t2, st t2 a1, b1⟩
theorem si_blind {as : List Value} : FrameBlind (si_Pc D ca P as h) := fun a U g mk q => ⟨q.1, q.2.1, si_K.same (s := U) (U := U.calling g mk a) rfl q.2.2.1, si_X.same (s := U) (U := U.calling g mk a) rfl rfl q.2.2.2⟩
theorem si_pre {as : List Value} (hK : si_K D ca s) (hX : si_X P s) (hW : si_W D ca P h H) (hS : va_S (si_A P) s.heap H locs) : ∀ U : State, U.heap = H → s.WarmedH U.vm → si_Pc D ca P as h as.toArray U := fun U hU hW' => ⟨rfl, by rw [hU]; exact hW, hK.warm hW', hX.step hW' (by rw [hU]; exact hS.1) (fun q h1 h2 => by rw [hU]; exact hS.2.1 q h1 h2)⟩
end SiSim
/-- a stretch of a method, over the machine: from where it stands to its return -/
def si_G (l : Launch) (D : va_G) (ca : FieldType → ClassId) (P : si_P) (d mi pc : Nat) (ls : si_L) (st : List Value) (h : si_H) (rv : Option Value) (h' : si_H) : Prop :=
  ∀ (y : si_M) (O : String) (p : Program) (e : Env) (R : Room) (s : State) (m : MethodId) (args : Array Value) (below : List Frame) (meth : Method) (c : Code), si_m mi = some y → si_own[y.1]? = some O → p.tables.exec = Jvm.exec → c.code = y.2.2.1 → c.maxLocals = y.2.2.2.1 → s.vm.findClass O = some m.cls → (y.2.2.2.2.2.1 = 2 → meth.name = "<init>") → (∀ w ∈ si_gw, w.before args s = true) → si_K D ca s → si_X P s → d ≤ R.frames → 60 * d ≤ R.locals →
  ∀ (H : Heap) (locs : List Loc) (cells slots : Nat) (LS : Array Slot) (Q : State → Prop), si_W D ca P h H → va_S (si_A P) s.heap H locs → lv_has LS y.2.2.2.1 ls → cells + (h'.1 - h.1) ≤ R.cells → slots + (si_sz h' - si_sz h) ≤ R.slots →
  (∀ (pc' : Nat) (r' : si_E) (st' : List Value) (H' : Heap) (locs' : List Loc) (LS' : Array Slot), decode y.2.2.1 pc' = .ok (r'.1, r'.2.1) → si_ret y r' st' = some rv → si_W D ca P h' H' → va_S (si_A P) s.heap H' locs' → W p l e R s m args below meth c H' locs' (cells + (h'.1 - h.1)) (slots + (si_sz h' - si_sz h)) Q (F0 m pc' LS' st')) →
  W p l e R s m args below meth c H locs cells slots Q (F0 m pc LS st)
theorem si_met {l : Launch} {D : va_G} {ca : FieldType → ClassId} {P : si_P} {d mi : Nat} {as : List Value} {h h' : si_H} {rv : Option Value} {y : si_M} (hG : si_G l D ca P d mi 0 (lv_args 0 as) [] h rv h') (hy : si_m mi = some y) (h12 : y.1 ≠ 12) (hlen : (lg_sl as).length ≤ y.2.2.2.1) :
    Met l y.2.1 (si_ws y) { frames := d, cells := h'.1 - h.1, slots := si_sz h' - si_sz h, locals := 60 * d } (si_Pc D ca P as h) (si_Q D ca P rv h') (h'.1 - h.1) (si_sz h' - si_sz h) (si_A P) := by
  obtain ⟨hcw, hini, hoy, hpl, hno, hpd, hmL, hst, hsp, hvi⟩ := si_mw hy h12
  refine va_MetF (cc := y.2.2.1) (maxL := y.2.2.2.1) (ret := y.2.2.2.2.1) hpl rfl ?_
  intro p e s m args below meth c s₁ B hml hv
  obtain ⟨rfl, hW, hK, hX⟩ := hv
  have hts0 := atoms_spec (ws := si_ws y) B.pre
  rw [lg_entry_eq]
  refine hG y y.2.1.cls p e _ s m _ below meth c hy hoy B.exec B.bytes hml (findClass_of_methodNamed B.named) (fun hk => ((name_of_methodNamed B.named B.method).1).trans (hsp hk).2.1) (fun w hw => hts0 w (List.mem_cons_of_mem _ hw)) hK hX (Nat.le_refl _) (Nat.le_refl _) s.heap [] 0 0 _ _ hW va_S.rf (lv_entry as hlen) (by rw [Nat.zero_add]; exact Nat.le_refl _) (by rw [Nat.zero_add]; exact Nat.le_refl _) ?_
  intro pc' r' st' H' locs' LS' hd hr hW' hS'
  rw [Nat.zero_add, Nat.zero_add]
  exact si_ret_W B.exec B.bytes B.returns B.notSynchronized hd hr (fun t ht _ => ⟨rfl, by rw [ht]; exact hW', hS'.F ht⟩) hS'.2.2
