theorem si_oi1 : Cond.instanceMethod objectInit ∈ lw_tbl := List.mem_of_getElem? (i := 141) (by decide +kernel)
theorem si_oi2 : Cond.code objectInit ⟨#[0xb1]⟩ 1 none ∈ lw_tbl := List.mem_of_getElem? (i := 142) (by decide +kernel)
theorem si_step_gr {P : si_P} {y : si_M} {pc pc' : Nat} {r : si_E} {ls ls' : si_L} {st st' : List Value} {h h' : si_H} (hs : si_step P y pc r ls st h = some (pc', ls', st', h')) : h'.1 = h.1 ∧ h'.2.1 = h.2.1 := by
  unfold si_step at hs
  split at hs
  all_goals
    repeat' split at hs
  all_goals first
    | (cases hs; done)
    | (cases hs; exact ⟨rfl, rfl⟩)
    | (rename_i hv; cases hs; obtain ⟨_, _, _, _, _, _, _, _, rfl⟩ := si_ast_spec hv; exact ⟨rfl, rfl⟩)
/-- the JDK's own: String.indexOf of the two constants, the length of one -/
def si_J (l : Launch) (D : va_G) (ca : FieldType → ClassId) (P : si_P) : Prop :=
  ∀ (p : Program) (e : Env) (R : Room) (s : State) (m : MethodId) (args : Array Value) (below : List Frame) (meth : Method) (c : Code) (O : String) (H : Heap) (locs : List Loc) (cells slots : Nat) (Q : State → Prop) (pc : Nat) (LS : Array Slot) (rest : List Value) (idx : Nat),
  p.tables.exec = Jvm.exec → c.maxLocals = LS.size → s.vm.findClass O = some m.cls → (∀ w ∈ si_gw, w.before args s = true) → si_X P s → va_S (si_A P) s.heap H locs → 8 ≤ R.frames → 480 ≤ R.locals → cells ≤ R.cells → slots ≤ R.slots → (rest.map fun v => v.category).sum ≤ 8 → decode c.code pc = .ok (.invokevirtual idx, 3) →
  (∀ (ch : Int32) (k : Nat), Cond.methodLink O idx yJ0_indexOf_0f7a4 ∈ lw_tbl → k = 1 ∨ k = 2 → (∀ locs1 : List Loc, va_S (si_A P) s.heap H locs1 → W p l e R s m args below meth c H locs1 cells slots Q (F0 m (pc + 3) LS (.int (si_find ch (si_text k) 0) :: rest))) → W p l e R s m args below meth c H locs cells slots Q (F0 m pc LS (.int ch :: .ref (P.2.2.2.2 k) :: rest))) ∧
  (Cond.methodLink O idx yJ0_length_8abf5 ∈ lw_tbl → (∀ locs1 : List Loc, va_S (si_A P) s.heap H locs1 → W p l e R s m args below meth c H locs1 cells slots Q (F0 m (pc + 3) LS (.int 8 :: rest))) → W p l e R s m args below meth c H locs cells slots Q (F0 m pc LS (.ref (P.2.2.2.2 3) :: rest)))
theorem si_prim_W {l : Launch} {D : va_G} {ca : FieldType → ClassId} {P : si_P} (hJ : si_J l D ca P) {p : Program} {e : Env} {R : Room} {s : State} {m : MethodId} {args : Array Value} {below : List Frame} {meth : Method} {c : Code} {O : String} {H : Heap} {locs : List Loc} {cells slots : Nat} {Q : State → Prop} {pc : Nat} {LS : Array Slot} {st st' : List Value} {r : si_E}
    (hx : p.tables.exec = Jvm.exec) (hml : c.maxLocals = LS.size) (hown : s.vm.findClass O = some m.cls) (hts : ∀ w ∈ si_gw, w.before args s = true) (hX : si_X P s) (hS : va_S (si_A P) s.heap H locs) (hRf : 8 ≤ R.frames) (hRl : 480 ≤ R.locals) (hc1 : cells ≤ R.cells) (hc2 : slots ≤ R.slots) (hd : decode c.code pc = .ok (r.1, r.2.1)) (hl : lk_e O r = true) (h1 : si_prim P r st = some st')
    (kk : ∀ locs1 : List Loc, va_S (si_A P) s.heap H locs1 → W p l e R s m args below meth c H locs1 cells slots Q (F0 m (pc + 3) LS st')) : W p l e R s m args below meth c H locs cells slots Q (F0 m pc LS st) := by
  obtain ⟨i, n, a, b, q⟩ := r
  unfold si_prim at h1
  dsimp only at h1 hd
  split at h1
  · rename_i idx
    split at h1
    · rename_i hn
      subst hn
      split at h1
      · split at h1
        · rename_i hw
          have hw := of_decide_eq_true hw
          have hlk : lw_tbl[q]? = some (.methodLink O idx yJ0_indexOf_0f7a4) := of_decide_eq_true hl
          split at h1
          · rename_i ha
            subst ha
            cases h1
            exact (hJ p e R s m args below meth c O H locs cells slots Q pc LS _ idx hx hml hown hts hX hS hRf hRl hc1 hc2 hw hd).1 _ 1 (si_at hlk) (Or.inl rfl) kk
          · split at h1
            · rename_i ha
              subst ha
              cases h1
              exact (hJ p e R s m args below meth c O H locs cells slots Q pc LS _ idx hx hml hown hts hX hS hRf hRl hc1 hc2 hw hd).1 _ 2 (si_at hlk) (Or.inr rfl) kk
            · cases h1
        · cases h1
      · split at h1
        · rename_i hw
          obtain ⟨ha, hw⟩ := hw
          subst ha
          have hw := of_decide_eq_true hw
          have hlk : lw_tbl[q]? = some (.methodLink O idx yJ0_length_8abf5) := of_decide_eq_true hl
          cases h1
          exact (hJ p e R s m args below meth c O H locs cells slots Q pc LS _ idx hx hml hown hts hX hS hRf hRl hc1 hc2 hw hd).2 (si_at hlk) kk
        · cases h1
      · cases h1
    · cases h1
  · rename_i idx
    split at h1
    · rename_i hn
      obtain ⟨rfl, rfl⟩ := hn
      split at h1
      · split at h1
        · rename_i hw
          have hw := of_decide_eq_true hw
          cases h1
          have hlk : lw_tbl[q]? = some (.methodLink O idx objectInit) := of_decide_eq_true hl
          refine W.objInit hx rfl hown (hts _ (si_gw_in (si_at hlk) rfl)) (hts _ (si_gw_in si_oi1 rfl)) (hts _ (si_gw_in si_oi2 rfl)) rfl hml.symm rfl hd (by omega) (by show 2 * 0 + _ + 12 ≤ _; omega) (kk locs hS)
        · cases h1
      · cases h1
    · cases h1
  · cases h1
