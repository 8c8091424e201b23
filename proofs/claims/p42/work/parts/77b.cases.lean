set_option maxRecDepth 100000
theorem lw_case_dial {P : si_P} {d : Nat} {h : si_H} {ls : si_L} {Q : Option Value → si_H → Prop} {x : Int32} (h0 : si_ld 0 ls = some (.ref P.2.1)) (h1 : si_ld 1 ls = some (.ref (P.1 + 0))) (h2 : si_ld 2 ls = some (.ref (P.1 + 60))) (h3 : si_ld 3 ls = some (.int x)) (hin1 : si_in (x + 1) P.2.2.1 = true) (hin2 : si_in (x + 2) P.2.2.1 = true) (hH : az_HI P az_tb h) {K1 : Int32 → si_H → Prop} {K2 : Int32 → Int32 → si_H → Prop}
    (k0 : az_X P d 144 0 (lv_args 0 [.ref (P.1 + 0), .int (jsv P x 1), .int (jsv P x 2)]) [] h (fun rv h1 => ∃ w1 : Int32, rv = some (.int w1) ∧ az_HI P az_tb h1 ∧ K1 w1 h1))
    (k1 : ∀ (w1 : Int32) (h1 : si_H), az_HI P az_tb h1 → K1 w1 h1 → az_X P d 218 0 (lv_args 0 [.ref (P.1 + 60), .int (jsv P x 1), .int (jsv P x 2)]) [] h1 (fun rv h2 => ∃ w2 : Int32, rv = some (.int w2) ∧ K2 w1 w2 h2))
    (k2 : ∀ (w1 w2 : Int32) (h2 : si_H), K2 w1 w2 h2 → az_X P (d + 1) 346 254 ls [] h2 Q) : az_X P (d + 1) 346 224 ls [] h Q := by
  have f0 : si_ld ((0 : Fin 4) : Nat) ls = some (.ref (P.2.1)) := h0
  have f1 : si_ld ((1 : Fin 4) : Nat) ls = some (.ref (P.1 + 0)) := h1
  have f2 : si_ld ((2 : Fin 4) : Nat) ls = some (.ref (P.1 + 60)) := h2
  have f3 : si_ld ((3 : Fin 4) : Nat) ls = some (.int x) := h3
  refine az_X_step (pc' := 225) (ls' := ls) (st' := [.ref (P.1 + 0)]) (h' := h) rfl rfl (by unfold si_step; simp only [si_lod, f1]; rfl) ?_
  refine az_X_step (pc' := 226) (ls' := ls) (st' := [.ref P.2.1, .ref (P.1 + 0)]) (h' := h) rfl rfl (by unfold si_step; simp only [si_lod, f0]; rfl) ?_
  refine az_X_step (pc' := 227) (ls' := ls) (st' := [.int x, .ref P.2.1, .ref (P.1 + 0)]) (h' := h) rfl rfl (by unfold si_step; simp only [si_lod, f3]; rfl) ?_
  refine az_X_step (pc' := 228) (ls' := ls) (st' := [.int 1, .int x, .ref P.2.1, .ref (P.1 + 0)]) (h' := h) rfl rfl (rfl) ?_
  refine az_X_step (pc' := 229) (ls' := ls) (st' := [.int (x + 1), .ref P.2.1, .ref (P.1 + 0)]) (h' := h) rfl rfl (rfl) ?_
  refine az_X_step (pc' := 230) (ls' := ls) (st' := [.int (jsv P x 1), .ref (P.1 + 0)]) (h' := h) rfl rfl (by unfold si_step; simp only [if_true, hin1]; rfl) ?_
  refine az_X_step (pc' := 231) (ls' := ls) (st' := [.ref P.2.1, .int (jsv P x 1), .ref (P.1 + 0)]) (h' := h) rfl rfl (by unfold si_step; simp only [si_lod, f0]; rfl) ?_
  refine az_X_step (pc' := 232) (ls' := ls) (st' := [.int x, .ref P.2.1, .int (jsv P x 1), .ref (P.1 + 0)]) (h' := h) rfl rfl (by unfold si_step; simp only [si_lod, f3]; rfl) ?_
  refine az_X_step (pc' := 233) (ls' := ls) (st' := [.int 2, .int x, .ref P.2.1, .int (jsv P x 1), .ref (P.1 + 0)]) (h' := h) rfl rfl (rfl) ?_
  refine az_X_step (pc' := 234) (ls' := ls) (st' := [.int (x + 2), .ref P.2.1, .int (jsv P x 1), .ref (P.1 + 0)]) (h' := h) rfl rfl (rfl) ?_
  refine az_X_step (pc' := 235) (ls' := ls) (st' := [.int (jsv P x 2), .int (jsv P x 1), .ref (P.1 + 0)]) (h' := h) rfl rfl (by unfold si_step; simp only [if_true, hin2]; rfl) ?_
  refine az_X_call (m' := 144) (as := [.ref (P.1 + 0), .int (jsv P x 1), .int (jsv P x 2)]) (rest := []) rfl rfl rfl rfl rfl ?_ ?_
  · unfold si_call
    dsimp only
    rw [if_pos ⟨rfl, rfl⟩]
    show (match si_ix P h (P.1 + 0) with | some i => _ | none => none) = _
    rw [jix hH (by decide)]
    dsimp only
    rw [jsh0 hH]
    rfl
  refine k0.mono ?_
  rintro rv1 ha ⟨w1, rfl, hH1, hk1⟩
  show az_X P (d + 1) 346 238 ls [.int w1] ha Q
  refine az_X_step (pc' := 239) (ls' := ls) (st' := []) (h' := ha) rfl rfl rfl ?_
  refine az_X_step (pc' := 240) (ls' := ls) (st' := [.ref (P.1 + 60)]) (h' := ha) rfl rfl (by unfold si_step; simp only [si_lod, f2]; rfl) ?_
  refine az_X_step (pc' := 241) (ls' := ls) (st' := [.ref P.2.1, .ref (P.1 + 60)]) (h' := ha) rfl rfl (by unfold si_step; simp only [si_lod, f0]; rfl) ?_
  refine az_X_step (pc' := 242) (ls' := ls) (st' := [.int x, .ref P.2.1, .ref (P.1 + 60)]) (h' := ha) rfl rfl (by unfold si_step; simp only [si_lod, f3]; rfl) ?_
  refine az_X_step (pc' := 243) (ls' := ls) (st' := [.int 1, .int x, .ref P.2.1, .ref (P.1 + 60)]) (h' := ha) rfl rfl (rfl) ?_
  refine az_X_step (pc' := 244) (ls' := ls) (st' := [.int (x + 1), .ref P.2.1, .ref (P.1 + 60)]) (h' := ha) rfl rfl (rfl) ?_
  refine az_X_step (pc' := 245) (ls' := ls) (st' := [.int (jsv P x 1), .ref (P.1 + 60)]) (h' := ha) rfl rfl (by unfold si_step; simp only [if_true, hin1]; rfl) ?_
  refine az_X_step (pc' := 246) (ls' := ls) (st' := [.ref P.2.1, .int (jsv P x 1), .ref (P.1 + 60)]) (h' := ha) rfl rfl (by unfold si_step; simp only [si_lod, f0]; rfl) ?_
  refine az_X_step (pc' := 247) (ls' := ls) (st' := [.int x, .ref P.2.1, .int (jsv P x 1), .ref (P.1 + 60)]) (h' := ha) rfl rfl (by unfold si_step; simp only [si_lod, f3]; rfl) ?_
  refine az_X_step (pc' := 248) (ls' := ls) (st' := [.int 2, .int x, .ref P.2.1, .int (jsv P x 1), .ref (P.1 + 60)]) (h' := ha) rfl rfl (rfl) ?_
  refine az_X_step (pc' := 249) (ls' := ls) (st' := [.int (x + 2), .ref P.2.1, .int (jsv P x 1), .ref (P.1 + 60)]) (h' := ha) rfl rfl (rfl) ?_
  refine az_X_step (pc' := 250) (ls' := ls) (st' := [.int (jsv P x 2), .int (jsv P x 1), .ref (P.1 + 60)]) (h' := ha) rfl rfl (by unfold si_step; simp only [if_true, hin2]; rfl) ?_
  refine az_X_call (m' := 218) (as := [.ref (P.1 + 60), .int (jsv P x 1), .int (jsv P x 2)]) (rest := []) rfl rfl rfl rfl rfl ?_ ?_
  · unfold si_call
    dsimp only
    rw [if_pos ⟨rfl, rfl⟩]
    show (match si_ix P ha (P.1 + 60) with | some i => _ | none => none) = _
    rw [jix hH1 (by decide)]
    dsimp only
    rw [jsh60 hH1]
    rfl
  refine (k1 w1 ha hH1 hk1).mono ?_
  rintro rv2 hb ⟨w2, rfl, hk2⟩
  show az_X P (d + 1) 346 253 ls [.int w2] hb Q
  exact az_X_step (pc' := 254) (ls' := ls) (st' := []) (h' := hb) rfl rfl rfl (k2 w1 w2 hb hk2)
theorem lw_case_clocks {P : si_P} {d : Nat} {h : si_H} {ls : si_L} {Q : Option Value → si_H → Prop} {x : Int32} (h0 : si_ld 0 ls = some (.ref P.2.1)) (h1 : si_ld 1 ls = some (.ref (P.1 + 0))) (h2 : si_ld 2 ls = some (.ref (P.1 + 60))) (h3 : si_ld 3 ls = some (.int x)) (hin1 : si_in (x + 1) P.2.2.1 = true) (hH : az_HI P az_tb h) {K1 : Int32 → si_H → Prop} {K2 : Int32 → Int32 → si_H → Prop}
    (k0 : az_X P d 147 0 (lv_args 0 [.ref (P.1 + 0), .int (jsv P x 1)]) [] h (fun rv h1 => ∃ w1 : Int32, rv = some (.int w1) ∧ az_HI P az_tb h1 ∧ K1 w1 h1))
    (k1 : ∀ (w1 : Int32) (h1 : si_H), az_HI P az_tb h1 → K1 w1 h1 → az_X P d 269 0 (lv_args 0 [.ref (P.1 + 60), .int (jsv P x 1)]) [] h1 (fun rv h2 => ∃ w2 : Int32, rv = some (.int w2) ∧ K2 w1 w2 h2))
    (k2 : ∀ (w1 w2 : Int32) (h2 : si_H), K2 w1 w2 h2 → az_X P (d + 1) 346 363 ls [] h2 Q) : az_X P (d + 1) 346 343 ls [] h Q := by
  have f0 : si_ld ((0 : Fin 4) : Nat) ls = some (.ref (P.2.1)) := h0
  have f1 : si_ld ((1 : Fin 4) : Nat) ls = some (.ref (P.1 + 0)) := h1
  have f2 : si_ld ((2 : Fin 4) : Nat) ls = some (.ref (P.1 + 60)) := h2
  have f3 : si_ld ((3 : Fin 4) : Nat) ls = some (.int x) := h3
  refine az_X_step (pc' := 344) (ls' := ls) (st' := [.ref (P.1 + 0)]) (h' := h) rfl rfl (by unfold si_step; simp only [si_lod, f1]; rfl) ?_
  refine az_X_step (pc' := 345) (ls' := ls) (st' := [.ref P.2.1, .ref (P.1 + 0)]) (h' := h) rfl rfl (by unfold si_step; simp only [si_lod, f0]; rfl) ?_
  refine az_X_step (pc' := 346) (ls' := ls) (st' := [.int x, .ref P.2.1, .ref (P.1 + 0)]) (h' := h) rfl rfl (by unfold si_step; simp only [si_lod, f3]; rfl) ?_
  refine az_X_step (pc' := 347) (ls' := ls) (st' := [.int 1, .int x, .ref P.2.1, .ref (P.1 + 0)]) (h' := h) rfl rfl (rfl) ?_
  refine az_X_step (pc' := 348) (ls' := ls) (st' := [.int (x + 1), .ref P.2.1, .ref (P.1 + 0)]) (h' := h) rfl rfl (rfl) ?_
  refine az_X_step (pc' := 349) (ls' := ls) (st' := [.int (jsv P x 1), .ref (P.1 + 0)]) (h' := h) rfl rfl (by unfold si_step; simp only [if_true, hin1]; rfl) ?_
  refine az_X_call (m' := 147) (as := [.ref (P.1 + 0), .int (jsv P x 1)]) (rest := []) rfl rfl rfl rfl rfl ?_ ?_
  · unfold si_call
    dsimp only
    rw [if_pos ⟨rfl, rfl⟩]
    show (match si_ix P h (P.1 + 0) with | some i => _ | none => none) = _
    rw [jix hH (by decide)]
    dsimp only
    rw [jsh0 hH]
    rfl
  refine k0.mono ?_
  rintro rv1 ha ⟨w1, rfl, hH1, hk1⟩
  show az_X P (d + 1) 346 352 ls [.int w1] ha Q
  refine az_X_step (pc' := 353) (ls' := ls) (st' := []) (h' := ha) rfl rfl rfl ?_
  refine az_X_step (pc' := 354) (ls' := ls) (st' := [.ref (P.1 + 60)]) (h' := ha) rfl rfl (by unfold si_step; simp only [si_lod, f2]; rfl) ?_
  refine az_X_step (pc' := 355) (ls' := ls) (st' := [.ref P.2.1, .ref (P.1 + 60)]) (h' := ha) rfl rfl (by unfold si_step; simp only [si_lod, f0]; rfl) ?_
  refine az_X_step (pc' := 356) (ls' := ls) (st' := [.int x, .ref P.2.1, .ref (P.1 + 60)]) (h' := ha) rfl rfl (by unfold si_step; simp only [si_lod, f3]; rfl) ?_
  refine az_X_step (pc' := 357) (ls' := ls) (st' := [.int 1, .int x, .ref P.2.1, .ref (P.1 + 60)]) (h' := ha) rfl rfl (rfl) ?_
  refine az_X_step (pc' := 358) (ls' := ls) (st' := [.int (x + 1), .ref P.2.1, .ref (P.1 + 60)]) (h' := ha) rfl rfl (rfl) ?_
  refine az_X_step (pc' := 359) (ls' := ls) (st' := [.int (jsv P x 1), .ref (P.1 + 60)]) (h' := ha) rfl rfl (by unfold si_step; simp only [if_true, hin1]; rfl) ?_
  refine az_X_call (m' := 269) (as := [.ref (P.1 + 60), .int (jsv P x 1)]) (rest := []) rfl rfl rfl rfl rfl ?_ ?_
  · unfold si_call
    dsimp only
    rw [if_pos ⟨rfl, rfl⟩]
    show (match si_ix P ha (P.1 + 60) with | some i => _ | none => none) = _
    rw [jix hH1 (by decide)]
    dsimp only
    rw [jsh60 hH1]
    rfl
  refine (k1 w1 ha hH1 hk1).mono ?_
  rintro rv2 hb ⟨w2, rfl, hk2⟩
  show az_X P (d + 1) 346 362 ls [.int w2] hb Q
  exact az_X_step (pc' := 363) (ls' := ls) (st' := []) (h' := hb) rfl rfl rfl (k2 w1 w2 hb hk2)
theorem lw_case_setBy {P : si_P} {d : Nat} {h : si_H} {ls : si_L} {Q : Option Value → si_H → Prop} {x : Int32} (h0 : si_ld 0 ls = some (.ref P.2.1)) (h1 : si_ld 1 ls = some (.ref (P.1 + 0))) (h2 : si_ld 2 ls = some (.ref (P.1 + 60))) (h3 : si_ld 3 ls = some (.int x)) (hin1 : si_in (x + 1) P.2.2.1 = true) (hin2 : si_in (x + 2) P.2.2.1 = true) (hH : az_HI P az_tb h) {K1 : Int32 → si_H → Prop} {K2 : Int32 → Int32 → si_H → Prop}
    (k0 : az_X P d 177 0 (lv_args 0 [.ref (P.1 + 0), .int (jsv P x 1), .int (jsv P x 2)]) [] h (fun rv h1 => ∃ w1 : Int32, rv = some (.int w1) ∧ az_HI P az_tb h1 ∧ K1 w1 h1))
    (k1 : ∀ (w1 : Int32) (h1 : si_H), az_HI P az_tb h1 → K1 w1 h1 → az_X P d 325 0 (lv_args 0 [.ref (P.1 + 60), .int (jsv P x 1), .int (jsv P x 2)]) [] h1 (fun rv h2 => ∃ w2 : Int32, rv = some (.int w2) ∧ K2 w1 w2 h2))
    (k2 : ∀ (w1 w2 : Int32) (h2 : si_H), K2 w1 w2 h2 → az_X P (d + 1) 346 1475 ls [] h2 Q) : az_X P (d + 1) 346 1445 ls [] h Q := by
  have f0 : si_ld ((0 : Fin 4) : Nat) ls = some (.ref (P.2.1)) := h0
  have f1 : si_ld ((1 : Fin 4) : Nat) ls = some (.ref (P.1 + 0)) := h1
  have f2 : si_ld ((2 : Fin 4) : Nat) ls = some (.ref (P.1 + 60)) := h2
  have f3 : si_ld ((3 : Fin 4) : Nat) ls = some (.int x) := h3
  refine az_X_step (pc' := 1446) (ls' := ls) (st' := [.ref (P.1 + 0)]) (h' := h) rfl rfl (by unfold si_step; simp only [si_lod, f1]; rfl) ?_
  refine az_X_step (pc' := 1447) (ls' := ls) (st' := [.ref P.2.1, .ref (P.1 + 0)]) (h' := h) rfl rfl (by unfold si_step; simp only [si_lod, f0]; rfl) ?_
  refine az_X_step (pc' := 1448) (ls' := ls) (st' := [.int x, .ref P.2.1, .ref (P.1 + 0)]) (h' := h) rfl rfl (by unfold si_step; simp only [si_lod, f3]; rfl) ?_
  refine az_X_step (pc' := 1449) (ls' := ls) (st' := [.int 1, .int x, .ref P.2.1, .ref (P.1 + 0)]) (h' := h) rfl rfl (rfl) ?_
  refine az_X_step (pc' := 1450) (ls' := ls) (st' := [.int (x + 1), .ref P.2.1, .ref (P.1 + 0)]) (h' := h) rfl rfl (rfl) ?_
  refine az_X_step (pc' := 1451) (ls' := ls) (st' := [.int (jsv P x 1), .ref (P.1 + 0)]) (h' := h) rfl rfl (by unfold si_step; simp only [if_true, hin1]; rfl) ?_
  refine az_X_step (pc' := 1452) (ls' := ls) (st' := [.ref P.2.1, .int (jsv P x 1), .ref (P.1 + 0)]) (h' := h) rfl rfl (by unfold si_step; simp only [si_lod, f0]; rfl) ?_
  refine az_X_step (pc' := 1453) (ls' := ls) (st' := [.int x, .ref P.2.1, .int (jsv P x 1), .ref (P.1 + 0)]) (h' := h) rfl rfl (by unfold si_step; simp only [si_lod, f3]; rfl) ?_
  refine az_X_step (pc' := 1454) (ls' := ls) (st' := [.int 2, .int x, .ref P.2.1, .int (jsv P x 1), .ref (P.1 + 0)]) (h' := h) rfl rfl (rfl) ?_
  refine az_X_step (pc' := 1455) (ls' := ls) (st' := [.int (x + 2), .ref P.2.1, .int (jsv P x 1), .ref (P.1 + 0)]) (h' := h) rfl rfl (rfl) ?_
  refine az_X_step (pc' := 1456) (ls' := ls) (st' := [.int (jsv P x 2), .int (jsv P x 1), .ref (P.1 + 0)]) (h' := h) rfl rfl (by unfold si_step; simp only [if_true, hin2]; rfl) ?_
  refine az_X_call (m' := 177) (as := [.ref (P.1 + 0), .int (jsv P x 1), .int (jsv P x 2)]) (rest := []) rfl rfl rfl rfl rfl ?_ ?_
  · unfold si_call
    dsimp only
    rw [if_pos ⟨rfl, rfl⟩]
    show (match si_ix P h (P.1 + 0) with | some i => _ | none => none) = _
    rw [jix hH (by decide)]
    dsimp only
    rw [jsh0 hH]
    rfl
  refine k0.mono ?_
  rintro rv1 ha ⟨w1, rfl, hH1, hk1⟩
  show az_X P (d + 1) 346 1459 ls [.int w1] ha Q
  refine az_X_step (pc' := 1460) (ls' := ls) (st' := []) (h' := ha) rfl rfl rfl ?_
  refine az_X_step (pc' := 1461) (ls' := ls) (st' := [.ref (P.1 + 60)]) (h' := ha) rfl rfl (by unfold si_step; simp only [si_lod, f2]; rfl) ?_
  refine az_X_step (pc' := 1462) (ls' := ls) (st' := [.ref P.2.1, .ref (P.1 + 60)]) (h' := ha) rfl rfl (by unfold si_step; simp only [si_lod, f0]; rfl) ?_
  refine az_X_step (pc' := 1463) (ls' := ls) (st' := [.int x, .ref P.2.1, .ref (P.1 + 60)]) (h' := ha) rfl rfl (by unfold si_step; simp only [si_lod, f3]; rfl) ?_
  refine az_X_step (pc' := 1464) (ls' := ls) (st' := [.int 1, .int x, .ref P.2.1, .ref (P.1 + 60)]) (h' := ha) rfl rfl (rfl) ?_
  refine az_X_step (pc' := 1465) (ls' := ls) (st' := [.int (x + 1), .ref P.2.1, .ref (P.1 + 60)]) (h' := ha) rfl rfl (rfl) ?_
  refine az_X_step (pc' := 1466) (ls' := ls) (st' := [.int (jsv P x 1), .ref (P.1 + 60)]) (h' := ha) rfl rfl (by unfold si_step; simp only [if_true, hin1]; rfl) ?_
  refine az_X_step (pc' := 1467) (ls' := ls) (st' := [.ref P.2.1, .int (jsv P x 1), .ref (P.1 + 60)]) (h' := ha) rfl rfl (by unfold si_step; simp only [si_lod, f0]; rfl) ?_
  refine az_X_step (pc' := 1468) (ls' := ls) (st' := [.int x, .ref P.2.1, .int (jsv P x 1), .ref (P.1 + 60)]) (h' := ha) rfl rfl (by unfold si_step; simp only [si_lod, f3]; rfl) ?_
  refine az_X_step (pc' := 1469) (ls' := ls) (st' := [.int 2, .int x, .ref P.2.1, .int (jsv P x 1), .ref (P.1 + 60)]) (h' := ha) rfl rfl (rfl) ?_
  refine az_X_step (pc' := 1470) (ls' := ls) (st' := [.int (x + 2), .ref P.2.1, .int (jsv P x 1), .ref (P.1 + 60)]) (h' := ha) rfl rfl (rfl) ?_
  refine az_X_step (pc' := 1471) (ls' := ls) (st' := [.int (jsv P x 2), .int (jsv P x 1), .ref (P.1 + 60)]) (h' := ha) rfl rfl (by unfold si_step; simp only [if_true, hin2]; rfl) ?_
  refine az_X_call (m' := 325) (as := [.ref (P.1 + 60), .int (jsv P x 1), .int (jsv P x 2)]) (rest := []) rfl rfl rfl rfl rfl ?_ ?_
  · unfold si_call
    dsimp only
    rw [if_pos ⟨rfl, rfl⟩]
    show (match si_ix P ha (P.1 + 60) with | some i => _ | none => none) = _
    rw [jix hH1 (by decide)]
    dsimp only
    rw [jsh60 hH1]
    rfl
  refine (k1 w1 ha hH1 hk1).mono ?_
  rintro rv2 hb ⟨w2, rfl, hk2⟩
  show az_X P (d + 1) 346 1474 ls [.int w2] hb Q
  exact az_X_step (pc' := 1475) (ls' := ls) (st' := []) (h' := hb) rfl rfl rfl (k2 w1 w2 hb hk2)
theorem lw_case_days {P : si_P} {d : Nat} {h : si_H} {ls : si_L} {Q : Option Value → si_H → Prop} {x : Int32} (h0 : si_ld 0 ls = some (.ref P.2.1)) (h1 : si_ld 1 ls = some (.ref (P.1 + 0))) (h2 : si_ld 2 ls = some (.ref (P.1 + 60))) (h3 : si_ld 3 ls = some (.int x)) (hin1 : si_in (x + 1) P.2.2.1 = true) (hH : az_HI P az_tb h) {K1 : Int32 → si_H → Prop} {K2 : Int32 → Int32 → si_H → Prop}
    (k0 : az_X P d 180 0 (lv_args 0 [.ref (P.1 + 0), .int (jsv P x 1)]) [] h (fun rv h1 => ∃ w1 : Int32, rv = some (.int w1) ∧ az_HI P az_tb h1 ∧ K1 w1 h1))
    (k1 : ∀ (w1 : Int32) (h1 : si_H), az_HI P az_tb h1 → K1 w1 h1 → az_X P d 332 0 (lv_args 0 [.ref (P.1 + 60), .int (jsv P x 1)]) [] h1 (fun rv h2 => ∃ w2 : Int32, rv = some (.int w2) ∧ K2 w1 w2 h2))
    (k2 : ∀ (w1 w2 : Int32) (h2 : si_H), K2 w1 w2 h2 → az_X P (d + 1) 346 1554 ls [] h2 Q) : az_X P (d + 1) 346 1534 ls [] h Q := by
  have f0 : si_ld ((0 : Fin 4) : Nat) ls = some (.ref (P.2.1)) := h0
  have f1 : si_ld ((1 : Fin 4) : Nat) ls = some (.ref (P.1 + 0)) := h1
  have f2 : si_ld ((2 : Fin 4) : Nat) ls = some (.ref (P.1 + 60)) := h2
  have f3 : si_ld ((3 : Fin 4) : Nat) ls = some (.int x) := h3
  refine az_X_step (pc' := 1535) (ls' := ls) (st' := [.ref (P.1 + 0)]) (h' := h) rfl rfl (by unfold si_step; simp only [si_lod, f1]; rfl) ?_
  refine az_X_step (pc' := 1536) (ls' := ls) (st' := [.ref P.2.1, .ref (P.1 + 0)]) (h' := h) rfl rfl (by unfold si_step; simp only [si_lod, f0]; rfl) ?_
  refine az_X_step (pc' := 1537) (ls' := ls) (st' := [.int x, .ref P.2.1, .ref (P.1 + 0)]) (h' := h) rfl rfl (by unfold si_step; simp only [si_lod, f3]; rfl) ?_
  refine az_X_step (pc' := 1538) (ls' := ls) (st' := [.int 1, .int x, .ref P.2.1, .ref (P.1 + 0)]) (h' := h) rfl rfl (rfl) ?_
  refine az_X_step (pc' := 1539) (ls' := ls) (st' := [.int (x + 1), .ref P.2.1, .ref (P.1 + 0)]) (h' := h) rfl rfl (rfl) ?_
  refine az_X_step (pc' := 1540) (ls' := ls) (st' := [.int (jsv P x 1), .ref (P.1 + 0)]) (h' := h) rfl rfl (by unfold si_step; simp only [if_true, hin1]; rfl) ?_
  refine az_X_call (m' := 180) (as := [.ref (P.1 + 0), .int (jsv P x 1)]) (rest := []) rfl rfl rfl rfl rfl ?_ ?_
  · unfold si_call
    dsimp only
    rw [if_pos ⟨rfl, rfl⟩]
    show (match si_ix P h (P.1 + 0) with | some i => _ | none => none) = _
    rw [jix hH (by decide)]
    dsimp only
    rw [jsh0 hH]
    rfl
  refine k0.mono ?_
  rintro rv1 ha ⟨w1, rfl, hH1, hk1⟩
  show az_X P (d + 1) 346 1543 ls [.int w1] ha Q
  refine az_X_step (pc' := 1544) (ls' := ls) (st' := []) (h' := ha) rfl rfl rfl ?_
  refine az_X_step (pc' := 1545) (ls' := ls) (st' := [.ref (P.1 + 60)]) (h' := ha) rfl rfl (by unfold si_step; simp only [si_lod, f2]; rfl) ?_
  refine az_X_step (pc' := 1546) (ls' := ls) (st' := [.ref P.2.1, .ref (P.1 + 60)]) (h' := ha) rfl rfl (by unfold si_step; simp only [si_lod, f0]; rfl) ?_
  refine az_X_step (pc' := 1547) (ls' := ls) (st' := [.int x, .ref P.2.1, .ref (P.1 + 60)]) (h' := ha) rfl rfl (by unfold si_step; simp only [si_lod, f3]; rfl) ?_
  refine az_X_step (pc' := 1548) (ls' := ls) (st' := [.int 1, .int x, .ref P.2.1, .ref (P.1 + 60)]) (h' := ha) rfl rfl (rfl) ?_
  refine az_X_step (pc' := 1549) (ls' := ls) (st' := [.int (x + 1), .ref P.2.1, .ref (P.1 + 60)]) (h' := ha) rfl rfl (rfl) ?_
  refine az_X_step (pc' := 1550) (ls' := ls) (st' := [.int (jsv P x 1), .ref (P.1 + 60)]) (h' := ha) rfl rfl (by unfold si_step; simp only [if_true, hin1]; rfl) ?_
  refine az_X_call (m' := 332) (as := [.ref (P.1 + 60), .int (jsv P x 1)]) (rest := []) rfl rfl rfl rfl rfl ?_ ?_
  · unfold si_call
    dsimp only
    rw [if_pos ⟨rfl, rfl⟩]
    show (match si_ix P ha (P.1 + 60) with | some i => _ | none => none) = _
    rw [jix hH1 (by decide)]
    dsimp only
    rw [jsh60 hH1]
    rfl
  refine (k1 w1 ha hH1 hk1).mono ?_
  rintro rv2 hb ⟨w2, rfl, hk2⟩
  show az_X P (d + 1) 346 1553 ls [.int w2] hb Q
  exact az_X_step (pc' := 1554) (ls' := ls) (st' := []) (h' := hb) rfl rfl rfl (k2 w1 w2 hb hk2)
theorem lw_case_tried {P : si_P} {d : Nat} {h : si_H} {ls : si_L} {Q : Option Value → si_H → Prop} {x : Int32} (h0 : si_ld 0 ls = some (.ref P.2.1)) (h1 : si_ld 1 ls = some (.ref (P.1 + 0))) (h2 : si_ld 2 ls = some (.ref (P.1 + 60))) (h3 : si_ld 3 ls = some (.int x)) (hin1 : si_in (x + 1) P.2.2.1 = true) (hin2 : si_in (x + 2) P.2.2.1 = true) (hH : az_HI P az_tb h) {K1 : Int32 → si_H → Prop} {K2 : Int32 → Int32 → si_H → Prop}
    (k0 : az_X P d 181 0 (lv_args 0 [.ref (P.1 + 0), .int (jsv P x 1), .int (jsv P x 2)]) [] h (fun rv h1 => ∃ w1 : Int32, rv = some (.int w1) ∧ az_HI P az_tb h1 ∧ K1 w1 h1))
    (k1 : ∀ (w1 : Int32) (h1 : si_H), az_HI P az_tb h1 → K1 w1 h1 → az_X P d 333 0 (lv_args 0 [.ref (P.1 + 60), .int (jsv P x 1), .int (jsv P x 2)]) [] h1 (fun rv h2 => ∃ w2 : Int32, rv = some (.int w2) ∧ K2 w1 w2 h2))
    (k2 : ∀ (w1 w2 : Int32) (h2 : si_H), K2 w1 w2 h2 → az_X P (d + 1) 346 1587 ls [] h2 Q) : az_X P (d + 1) 346 1557 ls [] h Q := by
  have f0 : si_ld ((0 : Fin 4) : Nat) ls = some (.ref (P.2.1)) := h0
  have f1 : si_ld ((1 : Fin 4) : Nat) ls = some (.ref (P.1 + 0)) := h1
  have f2 : si_ld ((2 : Fin 4) : Nat) ls = some (.ref (P.1 + 60)) := h2
  have f3 : si_ld ((3 : Fin 4) : Nat) ls = some (.int x) := h3
  refine az_X_step (pc' := 1558) (ls' := ls) (st' := [.ref (P.1 + 0)]) (h' := h) rfl rfl (by unfold si_step; simp only [si_lod, f1]; rfl) ?_
  refine az_X_step (pc' := 1559) (ls' := ls) (st' := [.ref P.2.1, .ref (P.1 + 0)]) (h' := h) rfl rfl (by unfold si_step; simp only [si_lod, f0]; rfl) ?_
  refine az_X_step (pc' := 1560) (ls' := ls) (st' := [.int x, .ref P.2.1, .ref (P.1 + 0)]) (h' := h) rfl rfl (by unfold si_step; simp only [si_lod, f3]; rfl) ?_
  refine az_X_step (pc' := 1561) (ls' := ls) (st' := [.int 1, .int x, .ref P.2.1, .ref (P.1 + 0)]) (h' := h) rfl rfl (rfl) ?_
  refine az_X_step (pc' := 1562) (ls' := ls) (st' := [.int (x + 1), .ref P.2.1, .ref (P.1 + 0)]) (h' := h) rfl rfl (rfl) ?_
  refine az_X_step (pc' := 1563) (ls' := ls) (st' := [.int (jsv P x 1), .ref (P.1 + 0)]) (h' := h) rfl rfl (by unfold si_step; simp only [if_true, hin1]; rfl) ?_
  refine az_X_step (pc' := 1564) (ls' := ls) (st' := [.ref P.2.1, .int (jsv P x 1), .ref (P.1 + 0)]) (h' := h) rfl rfl (by unfold si_step; simp only [si_lod, f0]; rfl) ?_
  refine az_X_step (pc' := 1565) (ls' := ls) (st' := [.int x, .ref P.2.1, .int (jsv P x 1), .ref (P.1 + 0)]) (h' := h) rfl rfl (by unfold si_step; simp only [si_lod, f3]; rfl) ?_
  refine az_X_step (pc' := 1566) (ls' := ls) (st' := [.int 2, .int x, .ref P.2.1, .int (jsv P x 1), .ref (P.1 + 0)]) (h' := h) rfl rfl (rfl) ?_
  refine az_X_step (pc' := 1567) (ls' := ls) (st' := [.int (x + 2), .ref P.2.1, .int (jsv P x 1), .ref (P.1 + 0)]) (h' := h) rfl rfl (rfl) ?_
  refine az_X_step (pc' := 1568) (ls' := ls) (st' := [.int (jsv P x 2), .int (jsv P x 1), .ref (P.1 + 0)]) (h' := h) rfl rfl (by unfold si_step; simp only [if_true, hin2]; rfl) ?_
  refine az_X_call (m' := 181) (as := [.ref (P.1 + 0), .int (jsv P x 1), .int (jsv P x 2)]) (rest := []) rfl rfl rfl rfl rfl ?_ ?_
  · unfold si_call
    dsimp only
    rw [if_pos ⟨rfl, rfl⟩]
    show (match si_ix P h (P.1 + 0) with | some i => _ | none => none) = _
    rw [jix hH (by decide)]
    dsimp only
    rw [jsh0 hH]
    rfl
  refine k0.mono ?_
  rintro rv1 ha ⟨w1, rfl, hH1, hk1⟩
  show az_X P (d + 1) 346 1571 ls [.int w1] ha Q
  refine az_X_step (pc' := 1572) (ls' := ls) (st' := []) (h' := ha) rfl rfl rfl ?_
  refine az_X_step (pc' := 1573) (ls' := ls) (st' := [.ref (P.1 + 60)]) (h' := ha) rfl rfl (by unfold si_step; simp only [si_lod, f2]; rfl) ?_
  refine az_X_step (pc' := 1574) (ls' := ls) (st' := [.ref P.2.1, .ref (P.1 + 60)]) (h' := ha) rfl rfl (by unfold si_step; simp only [si_lod, f0]; rfl) ?_
  refine az_X_step (pc' := 1575) (ls' := ls) (st' := [.int x, .ref P.2.1, .ref (P.1 + 60)]) (h' := ha) rfl rfl (by unfold si_step; simp only [si_lod, f3]; rfl) ?_
  refine az_X_step (pc' := 1576) (ls' := ls) (st' := [.int 1, .int x, .ref P.2.1, .ref (P.1 + 60)]) (h' := ha) rfl rfl (rfl) ?_
  refine az_X_step (pc' := 1577) (ls' := ls) (st' := [.int (x + 1), .ref P.2.1, .ref (P.1 + 60)]) (h' := ha) rfl rfl (rfl) ?_
  refine az_X_step (pc' := 1578) (ls' := ls) (st' := [.int (jsv P x 1), .ref (P.1 + 60)]) (h' := ha) rfl rfl (by unfold si_step; simp only [if_true, hin1]; rfl) ?_
  refine az_X_step (pc' := 1579) (ls' := ls) (st' := [.ref P.2.1, .int (jsv P x 1), .ref (P.1 + 60)]) (h' := ha) rfl rfl (by unfold si_step; simp only [si_lod, f0]; rfl) ?_
  refine az_X_step (pc' := 1580) (ls' := ls) (st' := [.int x, .ref P.2.1, .int (jsv P x 1), .ref (P.1 + 60)]) (h' := ha) rfl rfl (by unfold si_step; simp only [si_lod, f3]; rfl) ?_
  refine az_X_step (pc' := 1581) (ls' := ls) (st' := [.int 2, .int x, .ref P.2.1, .int (jsv P x 1), .ref (P.1 + 60)]) (h' := ha) rfl rfl (rfl) ?_
  refine az_X_step (pc' := 1582) (ls' := ls) (st' := [.int (x + 2), .ref P.2.1, .int (jsv P x 1), .ref (P.1 + 60)]) (h' := ha) rfl rfl (rfl) ?_
  refine az_X_step (pc' := 1583) (ls' := ls) (st' := [.int (jsv P x 2), .int (jsv P x 1), .ref (P.1 + 60)]) (h' := ha) rfl rfl (by unfold si_step; simp only [if_true, hin2]; rfl) ?_
  refine az_X_call (m' := 333) (as := [.ref (P.1 + 60), .int (jsv P x 1), .int (jsv P x 2)]) (rest := []) rfl rfl rfl rfl rfl ?_ ?_
  · unfold si_call
    dsimp only
    rw [if_pos ⟨rfl, rfl⟩]
    show (match si_ix P ha (P.1 + 60) with | some i => _ | none => none) = _
    rw [jix hH1 (by decide)]
    dsimp only
    rw [jsh60 hH1]
    rfl
  refine (k1 w1 ha hH1 hk1).mono ?_
  rintro rv2 hb ⟨w2, rfl, hk2⟩
  show az_X P (d + 1) 346 1586 ls [.int w2] hb Q
  exact az_X_step (pc' := 1587) (ls' := ls) (st' := []) (h' := hb) rfl rfl rfl (k2 w1 w2 hb hk2)
theorem lw_case_together {P : si_P} {d : Nat} {h : si_H} {ls : si_L} {Q : Option Value → si_H → Prop} {x : Int32} (h0 : si_ld 0 ls = some (.ref P.2.1)) (h1 : si_ld 1 ls = some (.ref (P.1 + 0))) (h2 : si_ld 2 ls = some (.ref (P.1 + 60))) (h3 : si_ld 3 ls = some (.int x)) (hin1 : si_in (x + 1) P.2.2.1 = true) (hin2 : si_in (x + 2) P.2.2.1 = true) (hin3 : si_in (x + 3) P.2.2.1 = true) (hH : az_HI P az_tb h) {K1 : Int32 → si_H → Prop} {K2 : Int32 → Int32 → si_H → Prop}
    (k0 : az_X P d 182 0 (lv_args 0 [.ref (P.1 + 0), .int (jsv P x 1), .int (jsv P x 2), .int (jsv P x 3)]) [] h (fun rv h1 => ∃ w1 : Int32, rv = some (.int w1) ∧ az_HI P az_tb h1 ∧ K1 w1 h1))
    (k1 : ∀ (w1 : Int32) (h1 : si_H), az_HI P az_tb h1 → K1 w1 h1 → az_X P d 334 0 (lv_args 0 [.ref (P.1 + 60), .int (jsv P x 1), .int (jsv P x 2), .int (jsv P x 3)]) [] h1 (fun rv h2 => ∃ w2 : Int32, rv = some (.int w2) ∧ K2 w1 w2 h2))
    (k2 : ∀ (w1 w2 : Int32) (h2 : si_H), K2 w1 w2 h2 → az_X P (d + 1) 346 1630 ls [] h2 Q) : az_X P (d + 1) 346 1590 ls [] h Q := by
  have f0 : si_ld ((0 : Fin 4) : Nat) ls = some (.ref (P.2.1)) := h0
  have f1 : si_ld ((1 : Fin 4) : Nat) ls = some (.ref (P.1 + 0)) := h1
  have f2 : si_ld ((2 : Fin 4) : Nat) ls = some (.ref (P.1 + 60)) := h2
  have f3 : si_ld ((3 : Fin 4) : Nat) ls = some (.int x) := h3
  refine az_X_step (pc' := 1591) (ls' := ls) (st' := [.ref (P.1 + 0)]) (h' := h) rfl rfl (by unfold si_step; simp only [si_lod, f1]; rfl) ?_
  refine az_X_step (pc' := 1592) (ls' := ls) (st' := [.ref P.2.1, .ref (P.1 + 0)]) (h' := h) rfl rfl (by unfold si_step; simp only [si_lod, f0]; rfl) ?_
  refine az_X_step (pc' := 1593) (ls' := ls) (st' := [.int x, .ref P.2.1, .ref (P.1 + 0)]) (h' := h) rfl rfl (by unfold si_step; simp only [si_lod, f3]; rfl) ?_
  refine az_X_step (pc' := 1594) (ls' := ls) (st' := [.int 1, .int x, .ref P.2.1, .ref (P.1 + 0)]) (h' := h) rfl rfl (rfl) ?_
  refine az_X_step (pc' := 1595) (ls' := ls) (st' := [.int (x + 1), .ref P.2.1, .ref (P.1 + 0)]) (h' := h) rfl rfl (rfl) ?_
  refine az_X_step (pc' := 1596) (ls' := ls) (st' := [.int (jsv P x 1), .ref (P.1 + 0)]) (h' := h) rfl rfl (by unfold si_step; simp only [if_true, hin1]; rfl) ?_
  refine az_X_step (pc' := 1597) (ls' := ls) (st' := [.ref P.2.1, .int (jsv P x 1), .ref (P.1 + 0)]) (h' := h) rfl rfl (by unfold si_step; simp only [si_lod, f0]; rfl) ?_
  refine az_X_step (pc' := 1598) (ls' := ls) (st' := [.int x, .ref P.2.1, .int (jsv P x 1), .ref (P.1 + 0)]) (h' := h) rfl rfl (by unfold si_step; simp only [si_lod, f3]; rfl) ?_
  refine az_X_step (pc' := 1599) (ls' := ls) (st' := [.int 2, .int x, .ref P.2.1, .int (jsv P x 1), .ref (P.1 + 0)]) (h' := h) rfl rfl (rfl) ?_
  refine az_X_step (pc' := 1600) (ls' := ls) (st' := [.int (x + 2), .ref P.2.1, .int (jsv P x 1), .ref (P.1 + 0)]) (h' := h) rfl rfl (rfl) ?_
  refine az_X_step (pc' := 1601) (ls' := ls) (st' := [.int (jsv P x 2), .int (jsv P x 1), .ref (P.1 + 0)]) (h' := h) rfl rfl (by unfold si_step; simp only [if_true, hin2]; rfl) ?_
  refine az_X_step (pc' := 1602) (ls' := ls) (st' := [.ref P.2.1, .int (jsv P x 2), .int (jsv P x 1), .ref (P.1 + 0)]) (h' := h) rfl rfl (by unfold si_step; simp only [si_lod, f0]; rfl) ?_
  refine az_X_step (pc' := 1603) (ls' := ls) (st' := [.int x, .ref P.2.1, .int (jsv P x 2), .int (jsv P x 1), .ref (P.1 + 0)]) (h' := h) rfl rfl (by unfold si_step; simp only [si_lod, f3]; rfl) ?_
  refine az_X_step (pc' := 1604) (ls' := ls) (st' := [.int 3, .int x, .ref P.2.1, .int (jsv P x 2), .int (jsv P x 1), .ref (P.1 + 0)]) (h' := h) rfl rfl (rfl) ?_
  refine az_X_step (pc' := 1605) (ls' := ls) (st' := [.int (x + 3), .ref P.2.1, .int (jsv P x 2), .int (jsv P x 1), .ref (P.1 + 0)]) (h' := h) rfl rfl (rfl) ?_
  refine az_X_step (pc' := 1606) (ls' := ls) (st' := [.int (jsv P x 3), .int (jsv P x 2), .int (jsv P x 1), .ref (P.1 + 0)]) (h' := h) rfl rfl (by unfold si_step; simp only [if_true, hin3]; rfl) ?_
  refine az_X_call (m' := 182) (as := [.ref (P.1 + 0), .int (jsv P x 1), .int (jsv P x 2), .int (jsv P x 3)]) (rest := []) rfl rfl rfl rfl rfl ?_ ?_
  · unfold si_call
    dsimp only
    rw [if_pos ⟨rfl, rfl⟩]
    show (match si_ix P h (P.1 + 0) with | some i => _ | none => none) = _
    rw [jix hH (by decide)]
    dsimp only
    rw [jsh0 hH]
    rfl
  refine k0.mono ?_
  rintro rv1 ha ⟨w1, rfl, hH1, hk1⟩
  show az_X P (d + 1) 346 1609 ls [.int w1] ha Q
  refine az_X_step (pc' := 1610) (ls' := ls) (st' := []) (h' := ha) rfl rfl rfl ?_
  refine az_X_step (pc' := 1611) (ls' := ls) (st' := [.ref (P.1 + 60)]) (h' := ha) rfl rfl (by unfold si_step; simp only [si_lod, f2]; rfl) ?_
  refine az_X_step (pc' := 1612) (ls' := ls) (st' := [.ref P.2.1, .ref (P.1 + 60)]) (h' := ha) rfl rfl (by unfold si_step; simp only [si_lod, f0]; rfl) ?_
  refine az_X_step (pc' := 1613) (ls' := ls) (st' := [.int x, .ref P.2.1, .ref (P.1 + 60)]) (h' := ha) rfl rfl (by unfold si_step; simp only [si_lod, f3]; rfl) ?_
  refine az_X_step (pc' := 1614) (ls' := ls) (st' := [.int 1, .int x, .ref P.2.1, .ref (P.1 + 60)]) (h' := ha) rfl rfl (rfl) ?_
  refine az_X_step (pc' := 1615) (ls' := ls) (st' := [.int (x + 1), .ref P.2.1, .ref (P.1 + 60)]) (h' := ha) rfl rfl (rfl) ?_
  refine az_X_step (pc' := 1616) (ls' := ls) (st' := [.int (jsv P x 1), .ref (P.1 + 60)]) (h' := ha) rfl rfl (by unfold si_step; simp only [if_true, hin1]; rfl) ?_
  refine az_X_step (pc' := 1617) (ls' := ls) (st' := [.ref P.2.1, .int (jsv P x 1), .ref (P.1 + 60)]) (h' := ha) rfl rfl (by unfold si_step; simp only [si_lod, f0]; rfl) ?_
  refine az_X_step (pc' := 1618) (ls' := ls) (st' := [.int x, .ref P.2.1, .int (jsv P x 1), .ref (P.1 + 60)]) (h' := ha) rfl rfl (by unfold si_step; simp only [si_lod, f3]; rfl) ?_
  refine az_X_step (pc' := 1619) (ls' := ls) (st' := [.int 2, .int x, .ref P.2.1, .int (jsv P x 1), .ref (P.1 + 60)]) (h' := ha) rfl rfl (rfl) ?_
  refine az_X_step (pc' := 1620) (ls' := ls) (st' := [.int (x + 2), .ref P.2.1, .int (jsv P x 1), .ref (P.1 + 60)]) (h' := ha) rfl rfl (rfl) ?_
  refine az_X_step (pc' := 1621) (ls' := ls) (st' := [.int (jsv P x 2), .int (jsv P x 1), .ref (P.1 + 60)]) (h' := ha) rfl rfl (by unfold si_step; simp only [if_true, hin2]; rfl) ?_
  refine az_X_step (pc' := 1622) (ls' := ls) (st' := [.ref P.2.1, .int (jsv P x 2), .int (jsv P x 1), .ref (P.1 + 60)]) (h' := ha) rfl rfl (by unfold si_step; simp only [si_lod, f0]; rfl) ?_
  refine az_X_step (pc' := 1623) (ls' := ls) (st' := [.int x, .ref P.2.1, .int (jsv P x 2), .int (jsv P x 1), .ref (P.1 + 60)]) (h' := ha) rfl rfl (by unfold si_step; simp only [si_lod, f3]; rfl) ?_
  refine az_X_step (pc' := 1624) (ls' := ls) (st' := [.int 3, .int x, .ref P.2.1, .int (jsv P x 2), .int (jsv P x 1), .ref (P.1 + 60)]) (h' := ha) rfl rfl (rfl) ?_
  refine az_X_step (pc' := 1625) (ls' := ls) (st' := [.int (x + 3), .ref P.2.1, .int (jsv P x 2), .int (jsv P x 1), .ref (P.1 + 60)]) (h' := ha) rfl rfl (rfl) ?_
  refine az_X_step (pc' := 1626) (ls' := ls) (st' := [.int (jsv P x 3), .int (jsv P x 2), .int (jsv P x 1), .ref (P.1 + 60)]) (h' := ha) rfl rfl (by unfold si_step; simp only [if_true, hin3]; rfl) ?_
  refine az_X_call (m' := 334) (as := [.ref (P.1 + 60), .int (jsv P x 1), .int (jsv P x 2), .int (jsv P x 3)]) (rest := []) rfl rfl rfl rfl rfl ?_ ?_
  · unfold si_call
    dsimp only
    rw [if_pos ⟨rfl, rfl⟩]
    show (match si_ix P ha (P.1 + 60) with | some i => _ | none => none) = _
    rw [jix hH1 (by decide)]
    dsimp only
    rw [jsh60 hH1]
    rfl
  refine (k1 w1 ha hH1 hk1).mono ?_
  rintro rv2 hb ⟨w2, rfl, hk2⟩
  show az_X P (d + 1) 346 1629 ls [.int w2] hb Q
  exact az_X_step (pc' := 1630) (ls' := ls) (st' := []) (h' := hb) rfl rfl rfl (k2 w1 w2 hb hk2)
theorem lw_case_seed {P : si_P} {d : Nat} {h : si_H} {ls : si_L} {Q : Option Value → si_H → Prop} {x : Int32} (h0 : si_ld 0 ls = some (.ref P.2.1)) (h1 : si_ld 1 ls = some (.ref (P.1 + 0))) (h2 : si_ld 2 ls = some (.ref (P.1 + 60))) (h3 : si_ld 3 ls = some (.int x)) (hin1 : si_in (x + 1) P.2.2.1 = true) (hH : az_HI P az_tb h) {K1 : Int32 → si_H → Prop} {K2 : Int32 → Int32 → si_H → Prop}
    (k0 : az_X P d 183 0 (lv_args 0 [.ref (P.1 + 0), .int (jsv P x 1)]) [] h (fun rv h1 => ∃ w1 : Int32, rv = some (.int w1) ∧ az_HI P az_tb h1 ∧ K1 w1 h1))
    (k1 : ∀ (w1 : Int32) (h1 : si_H), az_HI P az_tb h1 → K1 w1 h1 → az_X P d 335 0 (lv_args 0 [.ref (P.1 + 60), .int (jsv P x 1)]) [] h1 (fun rv h2 => ∃ w2 : Int32, rv = some (.int w2) ∧ K2 w1 w2 h2))
    (k2 : ∀ (w1 w2 : Int32) (h2 : si_H), K2 w1 w2 h2 → az_X P (d + 1) 346 1653 ls [] h2 Q) : az_X P (d + 1) 346 1633 ls [] h Q := by
  have f0 : si_ld ((0 : Fin 4) : Nat) ls = some (.ref (P.2.1)) := h0
  have f1 : si_ld ((1 : Fin 4) : Nat) ls = some (.ref (P.1 + 0)) := h1
  have f2 : si_ld ((2 : Fin 4) : Nat) ls = some (.ref (P.1 + 60)) := h2
  have f3 : si_ld ((3 : Fin 4) : Nat) ls = some (.int x) := h3
  refine az_X_step (pc' := 1634) (ls' := ls) (st' := [.ref (P.1 + 0)]) (h' := h) rfl rfl (by unfold si_step; simp only [si_lod, f1]; rfl) ?_
  refine az_X_step (pc' := 1635) (ls' := ls) (st' := [.ref P.2.1, .ref (P.1 + 0)]) (h' := h) rfl rfl (by unfold si_step; simp only [si_lod, f0]; rfl) ?_
  refine az_X_step (pc' := 1636) (ls' := ls) (st' := [.int x, .ref P.2.1, .ref (P.1 + 0)]) (h' := h) rfl rfl (by unfold si_step; simp only [si_lod, f3]; rfl) ?_
  refine az_X_step (pc' := 1637) (ls' := ls) (st' := [.int 1, .int x, .ref P.2.1, .ref (P.1 + 0)]) (h' := h) rfl rfl (rfl) ?_
  refine az_X_step (pc' := 1638) (ls' := ls) (st' := [.int (x + 1), .ref P.2.1, .ref (P.1 + 0)]) (h' := h) rfl rfl (rfl) ?_
  refine az_X_step (pc' := 1639) (ls' := ls) (st' := [.int (jsv P x 1), .ref (P.1 + 0)]) (h' := h) rfl rfl (by unfold si_step; simp only [if_true, hin1]; rfl) ?_
  refine az_X_call (m' := 183) (as := [.ref (P.1 + 0), .int (jsv P x 1)]) (rest := []) rfl rfl rfl rfl rfl ?_ ?_
  · unfold si_call
    dsimp only
    rw [if_pos ⟨rfl, rfl⟩]
    show (match si_ix P h (P.1 + 0) with | some i => _ | none => none) = _
    rw [jix hH (by decide)]
    dsimp only
    rw [jsh0 hH]
    rfl
  refine k0.mono ?_
  rintro rv1 ha ⟨w1, rfl, hH1, hk1⟩
  show az_X P (d + 1) 346 1642 ls [.int w1] ha Q
  refine az_X_step (pc' := 1643) (ls' := ls) (st' := []) (h' := ha) rfl rfl rfl ?_
  refine az_X_step (pc' := 1644) (ls' := ls) (st' := [.ref (P.1 + 60)]) (h' := ha) rfl rfl (by unfold si_step; simp only [si_lod, f2]; rfl) ?_
  refine az_X_step (pc' := 1645) (ls' := ls) (st' := [.ref P.2.1, .ref (P.1 + 60)]) (h' := ha) rfl rfl (by unfold si_step; simp only [si_lod, f0]; rfl) ?_
  refine az_X_step (pc' := 1646) (ls' := ls) (st' := [.int x, .ref P.2.1, .ref (P.1 + 60)]) (h' := ha) rfl rfl (by unfold si_step; simp only [si_lod, f3]; rfl) ?_
  refine az_X_step (pc' := 1647) (ls' := ls) (st' := [.int 1, .int x, .ref P.2.1, .ref (P.1 + 60)]) (h' := ha) rfl rfl (rfl) ?_
  refine az_X_step (pc' := 1648) (ls' := ls) (st' := [.int (x + 1), .ref P.2.1, .ref (P.1 + 60)]) (h' := ha) rfl rfl (rfl) ?_
  refine az_X_step (pc' := 1649) (ls' := ls) (st' := [.int (jsv P x 1), .ref (P.1 + 60)]) (h' := ha) rfl rfl (by unfold si_step; simp only [if_true, hin1]; rfl) ?_
  refine az_X_call (m' := 335) (as := [.ref (P.1 + 60), .int (jsv P x 1)]) (rest := []) rfl rfl rfl rfl rfl ?_ ?_
  · unfold si_call
    dsimp only
    rw [if_pos ⟨rfl, rfl⟩]
    show (match si_ix P ha (P.1 + 60) with | some i => _ | none => none) = _
    rw [jix hH1 (by decide)]
    dsimp only
    rw [jsh60 hH1]
    rfl
  refine (k1 w1 ha hH1 hk1).mono ?_
  rintro rv2 hb ⟨w2, rfl, hk2⟩
  show az_X P (d + 1) 346 1652 ls [.int w2] hb Q
  exact az_X_step (pc' := 1653) (ls' := ls) (st' := []) (h' := hb) rfl rfl rfl (k2 w1 w2 hb hk2)
theorem lw_case_keep {P : si_P} {d : Nat} {h : si_H} {ls : si_L} {Q : Option Value → si_H → Prop} {x : Int32} (h0 : si_ld 0 ls = some (.ref P.2.1)) (h1 : si_ld 1 ls = some (.ref (P.1 + 0))) (h2 : si_ld 2 ls = some (.ref (P.1 + 60))) (h3 : si_ld 3 ls = some (.int x)) (hH : az_HI P az_tb h) {K1 : Int32 → si_H → Prop} {K2 : Int32 → Int32 → si_H → Prop}
    (k0 : az_X P d 184 0 (lv_args 0 [.ref (P.1 + 0)]) [] h (fun rv h1 => ∃ w1 : Int32, rv = some (.int w1) ∧ az_HI P az_tb h1 ∧ K1 w1 h1))
    (k1 : ∀ (w1 : Int32) (h1 : si_H), az_HI P az_tb h1 → K1 w1 h1 → az_X P d 336 0 (lv_args 0 [.ref (P.1 + 60)]) [] h1 (fun rv h2 => ∃ w2 : Int32, rv = some (.int w2) ∧ K2 w1 w2 h2))
    (k2 : ∀ (w1 w2 : Int32) (h2 : si_H), K2 w1 w2 h2 → w2 = w1 ∧ az_X P (d + 1) 346 1728 ls [] h2 Q) : az_X P (d + 1) 346 1656 ls [] h Q := by
  have f0 : si_ld ((0 : Fin 4) : Nat) ls = some (.ref (P.2.1)) := h0
  have f1 : si_ld ((1 : Fin 4) : Nat) ls = some (.ref (P.1 + 0)) := h1
  have f2 : si_ld ((2 : Fin 4) : Nat) ls = some (.ref (P.1 + 60)) := h2
  have f3 : si_ld ((3 : Fin 4) : Nat) ls = some (.int x) := h3
  refine az_X_step (pc' := 1657) (ls' := ls) (st' := [.ref (P.1 + 0)]) (h' := h) rfl rfl (by unfold si_step; simp only [si_lod, f1]; rfl) ?_
  refine az_X_call (m' := 184) (as := [.ref (P.1 + 0)]) (rest := []) rfl rfl rfl rfl rfl ?_ ?_
  · unfold si_call
    dsimp only
    rw [if_pos ⟨rfl, rfl⟩]
    show (match si_ix P h (P.1 + 0) with | some i => _ | none => none) = _
    rw [jix hH (by decide)]
    dsimp only
    rw [jsh0 hH]
    rfl
  refine k0.mono ?_
  rintro rv1 ha ⟨w1, rfl, hH1, hk1⟩
  show az_X P (d + 1) 346 1660 ls [.int w1] ha Q
  refine az_X_step (pc' := 1661) (ls' := ls) (st' := [.ref (P.1 + 60), .int w1]) (h' := ha) rfl rfl (by unfold si_step; simp only [si_lod, f2]; rfl) ?_
  refine az_X_call (m' := 336) (as := [.ref (P.1 + 60)]) (rest := [.int w1]) rfl rfl rfl rfl rfl ?_ ?_
  · unfold si_call
    dsimp only
    rw [if_pos ⟨rfl, rfl⟩]
    show (match si_ix P ha (P.1 + 60) with | some i => _ | none => none) = _
    rw [jix hH1 (by decide)]
    dsimp only
    rw [jsh60 hH1]
    rfl
  refine (k1 w1 ha hH1 hk1).mono ?_
  rintro rv2 hb ⟨w2, rfl, hk2⟩
  obtain ⟨he, kk⟩ := k2 w1 w2 hb hk2
  show az_X P (d + 1) 346 1664 ls [.int w2, .int w1] hb Q
  refine az_X_step (pc' := 1728) (ls' := ls) (st' := []) (h' := hb) rfl rfl (by
    subst he
    unfold si_step
    simp [si_c2, si_tgt]) kk
theorem lw_case_undo {P : si_P} {d : Nat} {h : si_H} {ls : si_L} {Q : Option Value → si_H → Prop} {x : Int32} (h0 : si_ld 0 ls = some (.ref P.2.1)) (h1 : si_ld 1 ls = some (.ref (P.1 + 0))) (h2 : si_ld 2 ls = some (.ref (P.1 + 60))) (h3 : si_ld 3 ls = some (.int x)) (hH : az_HI P az_tb h) {K1 : Int32 → si_H → Prop} {K2 : Int32 → Int32 → si_H → Prop}
    (k0 : az_X P d 185 0 (lv_args 0 [.ref (P.1 + 0)]) [] h (fun rv h1 => ∃ w1 : Int32, rv = some (.int w1) ∧ az_HI P az_tb h1 ∧ K1 w1 h1))
    (k1 : ∀ (w1 : Int32) (h1 : si_H), az_HI P az_tb h1 → K1 w1 h1 → az_X P d 337 0 (lv_args 0 [.ref (P.1 + 60)]) [] h1 (fun rv h2 => ∃ w2 : Int32, rv = some (.int w2) ∧ K2 w1 w2 h2))
    (k2 : ∀ (w1 w2 : Int32) (h2 : si_H), K2 w1 w2 h2 → az_X P (d + 1) 346 1679 ls [] h2 Q) : az_X P (d + 1) 346 1669 ls [] h Q := by
  have f0 : si_ld ((0 : Fin 4) : Nat) ls = some (.ref (P.2.1)) := h0
  have f1 : si_ld ((1 : Fin 4) : Nat) ls = some (.ref (P.1 + 0)) := h1
  have f2 : si_ld ((2 : Fin 4) : Nat) ls = some (.ref (P.1 + 60)) := h2
  have f3 : si_ld ((3 : Fin 4) : Nat) ls = some (.int x) := h3
  refine az_X_step (pc' := 1670) (ls' := ls) (st' := [.ref (P.1 + 0)]) (h' := h) rfl rfl (by unfold si_step; simp only [si_lod, f1]; rfl) ?_
  refine az_X_call (m' := 185) (as := [.ref (P.1 + 0)]) (rest := []) rfl rfl rfl rfl rfl ?_ ?_
  · unfold si_call
    dsimp only
    rw [if_pos ⟨rfl, rfl⟩]
    show (match si_ix P h (P.1 + 0) with | some i => _ | none => none) = _
    rw [jix hH (by decide)]
    dsimp only
    rw [jsh0 hH]
    rfl
  refine k0.mono ?_
  rintro rv1 ha ⟨w1, rfl, hH1, hk1⟩
  show az_X P (d + 1) 346 1673 ls [.int w1] ha Q
  refine az_X_step (pc' := 1674) (ls' := ls) (st' := []) (h' := ha) rfl rfl rfl ?_
  refine az_X_step (pc' := 1675) (ls' := ls) (st' := [.ref (P.1 + 60)]) (h' := ha) rfl rfl (by unfold si_step; simp only [si_lod, f2]; rfl) ?_
  refine az_X_call (m' := 337) (as := [.ref (P.1 + 60)]) (rest := []) rfl rfl rfl rfl rfl ?_ ?_
  · unfold si_call
    dsimp only
    rw [if_pos ⟨rfl, rfl⟩]
    show (match si_ix P ha (P.1 + 60) with | some i => _ | none => none) = _
    rw [jix hH1 (by decide)]
    dsimp only
    rw [jsh60 hH1]
    rfl
  refine (k1 w1 ha hH1 hk1).mono ?_
  rintro rv2 hb ⟨w2, rfl, hk2⟩
  show az_X P (d + 1) 346 1678 ls [.int w2] hb Q
  exact az_X_step (pc' := 1679) (ls' := ls) (st' := []) (h' := hb) rfl rfl rfl (k2 w1 w2 hb hk2)
