set_option maxRecDepth 100000
theorem lw_case_dial {P : si_P} {d : Nat} {h : si_H} {ls : si_L} {Q : Option Value → si_H → Prop} {x : Int32} (h0 : si_ld 0 ls = some (.ref P.2.1)) (h1 : si_ld 1 ls = some (.ref (P.1 + 0))) (h2 : si_ld 2 ls = some (.ref (P.1 + 60))) (h3 : si_ld 3 ls = some (.int x)) (hin1 : si_in (x + 1) P.2.2.1 = true) (hin2 : si_in (x + 2) P.2.2.1 = true) (hH : az_HI P az_tb h) {K1 : Int32 → si_H → Prop} {K2 : Int32 → Int32 → si_H → Prop}
    (k0 : az_X P d 144 0 (lv_args 0 [.ref (P.1 + 0), .int (jsv P x 1), .int (jsv P x 2)]) [] h (fun rv h1 => ∃ w1 : Int32, rv = some (.int w1) ∧ az_HI P az_tb h1 ∧ K1 w1 h1))
    (k1 : ∀ (w1 : Int32) (h1 : si_H), az_HI P az_tb h1 → K1 w1 h1 → az_X P d 218 0 (lv_args 0 [.ref (P.1 + 60), .int (jsv P x 1), .int (jsv P x 2)]) [] h1 (fun rv h2 => ∃ w2 : Int32, rv = some (.int w2) ∧ K2 w1 w2 h2))
    (k2 : ∀ (w1 w2 : Int32) (h2 : si_H), K2 w1 w2 h2 → az_X P (d + 1) 346 254 ls [] h2 Q) : az_X P (d + 1) 346 224 ls [] h Q := by
  have f0 : si_ld ((0 : Fin 4) : Nat) ls = some (.ref (P.2.1)) := h0
  have f1 : si_ld ((1 : Fin 4) : Nat) ls = some (.ref (P.1 + 0)) := h1
  have f2 : si_ld ((2 : Fin 4) : Nat) ls = some (.ref (P.1 + 60)) := h2
  have f3 : si_ld ((3 : Fin 4) : Nat) ls = some (.int x) := h3
  refine az_X_step (pc' := 225) (ls' := ls) (st' := [.ref (P.1 + 0)]) (h' := h) rfl rfl (by unfold si_step; simp only [si_lod, f1]; rfl) ?_
  refine az_X_step (pc' := 226) (ls' := ls) (st' := [.ref P.2.1, .ref (P.1 + 0)]) (h' := h) rfl rfl (by unfold si_step; simp only [si_lod, f0]; rfl) ?_
  refine az_X_step (pc' := 227) (ls' := ls) (st' := [.int x, .ref P.2.1, .ref (P.1 + 0)]) (h' := h) rfl rfl (by unfold si_step; simp only [si_lod, f3]; rfl) ?_
  refine az_X_step (pc' := 228) (ls' := ls) (st' := [.int 1, .int x, .ref P.2.1, .ref (P.1 + 0)]) (h' := h) rfl rfl (rfl) ?_
  refine az_X_step (pc' := 229) (ls' := ls) (st' := [.int (x + 1), .ref P.2.1, .ref (P.1 + 0)]) (h' := h) rfl rfl (rfl) ?_
  refine az_X_step (pc' := 230) (ls' := ls) (st' := [.int (jsv P x 1), .ref (P.1 + 0)]) (h' := h) rfl rfl (by unfold si_step; simp only [if_true, hin1]; rfl) ?_
  refine az_X_step (pc' := 231) (ls' := ls) (st' := [.ref P.2.1, .int (jsv P x 1), .ref (P.1 + 0)]) (h' := h) rfl rfl (by unfold si_step; simp only [si_lod, f0]; rfl) ?_
  refine az_X_step (pc' := 232) (ls' := ls) (st' := [.int x, .ref P.2.1, .int (jsv P x 1), .ref (P.1 + 0)]) (h' := h) rfl rfl (by unfold si_step; simp only [si_lod, f3]; rfl) ?_
  refine az_X_step (pc' := 233) (ls' := ls) (st' := [.int 2, .int x, .ref P.2.1, .int (jsv P x 1), .ref (P.1 + 0)]) (h' := h) rfl rfl (rfl) ?_
  refine az_X_step (pc' := 234) (ls' := ls) (st' := [.int (x + 2), .ref P.2.1, .int (jsv P x 1), .ref (P.1 + 0)]) (h' := h) rfl rfl (rfl) ?_
  refine az_X_step (pc' := 235) (ls' := ls) (st' := [.int (jsv P x 2), .int (jsv P x 1), .ref (P.1 + 0)]) (h' := h) rfl rfl (by unfold si_step; simp only [if_true, hin2]; rfl) ?_
  refine az_X_call (m' := 144) (as := [.ref (P.1 + 0), .int (jsv P x 1), .int (jsv P x 2)]) (rest := []) rfl rfl rfl rfl rfl ?_ ?_
  · unfold si_call
    dsimp only
    rw [if_pos ⟨rfl, rfl⟩]
    show (match si_ix P h (P.1 + 0) with | some i => _ | none => none) = _
    rw [jix hH (by decide)]
    dsimp only
    rw [jsh0 hH]
    rfl
  refine k0.mono ?_
  rintro rv1 ha ⟨w1, rfl, hH1, hk1⟩
  show az_X P (d + 1) 346 238 ls [.int w1] ha Q
  refine az_X_step (pc' := 239) (ls' := ls) (st' := []) (h' := ha) rfl rfl rfl ?_
  refine az_X_step (pc' := 240) (ls' := ls) (st' := [.ref (P.1 + 60)]) (h' := ha) rfl rfl (by unfold si_step; simp only [si_lod, f2]; rfl) ?_
  refine az_X_step (pc' := 241) (ls' := ls) (st' := [.ref P.2.1, .ref (P.1 + 60)]) (h' := ha) rfl rfl (by unfold si_step; simp only [si_lod, f0]; rfl) ?_
  refine az_X_step (pc' := 242) (ls' := ls) (st' := [.int x, .ref P.2.1, .ref (P.1 + 60)]) (h' := ha) rfl rfl (by unfold si_step; simp only [si_lod, f3]; rfl) ?_
  refine az_X_step (pc' := 243) (ls' := ls) (st' := [.int 1, .int x, .ref P.2.1, .ref (P.1 + 60)]) (h' := ha) rfl rfl (rfl) ?_
  refine az_X_step (pc' := 244) (ls' := ls) (st' := [.int (x + 1), .ref P.2.1, .ref (P.1 + 60)]) (h' := ha) rfl rfl (rfl) ?_
  refine az_X_step (pc' := 245) (ls' := ls) (st' := [.int (jsv P x 1), .ref (P.1 + 60)]) (h' := ha) rfl rfl (by unfold si_step; simp only [if_true, hin1]; rfl) ?_
  refine az_X_step (pc' := 246) (ls' := ls) (st' := [.ref P.2.1, .int (jsv P x 1), .ref (P.1 + 60)]) (h' := ha) rfl rfl (by unfold si_step; simp only [si_lod, f0]; rfl) ?_
  refine az_X_step (pc' := 247) (ls' := ls) (st' := [.int x, .ref P.2.1, .int (jsv P x 1), .ref (P.1 + 60)]) (h' := ha) rfl rfl (by unfold si_step; simp only [si_lod, f3]; rfl) ?_
  refine az_X_step (pc' := 248) (ls' := ls) (st' := [.int 2, .int x, .ref P.2.1, .int (jsv P x 1), .ref (P.1 + 60)]) (h' := ha) rfl rfl (rfl) ?_
  refine az_X_step (pc' := 249) (ls' := ls) (st' := [.int (x + 2), .ref P.2.1, .int (jsv P x 1), .ref (P.1 + 60)]) (h' := ha) rfl rfl (rfl) ?_
  refine az_X_step (pc' := 250) (ls' := ls) (st' := [.int (jsv P x 2), .int (jsv P x 1), .ref (P.1 + 60)]) (h' := ha) rfl rfl (by unfold si_step; simp only [if_true, hin2]; rfl) ?_
  refine az_X_call (m' := 218) (as := [.ref (P.1 + 60), .int (jsv P x 1), .int (jsv P x 2)]) (rest := []) rfl rfl rfl rfl rfl ?_ ?_
  · unfold si_call
    dsimp only
    rw [if_pos ⟨rfl, rfl⟩]
    show (match si_ix P ha (P.1 + 60) with | some i => _ | none => none) = _
    rw [jix hH1 (by decide)]
    dsimp only
    rw [jsh60 hH1]
    rfl
  refine (k1 w1 ha hH1 hk1).mono ?_
  rintro rv2 hb ⟨w2, rfl, hk2⟩
  show az_X P (d + 1) 346 253 ls [.int w2] hb Q
  exact az_X_step (pc' := 254) (ls' := ls) (st' := []) (h' := hb) rfl rfl rfl (k2 w1 w2 hb hk2)
theorem lw_case_bestDial {P : si_P} {d : Nat} {h : si_H} {ls : si_L} {Q : Option Value → si_H → Prop} {x : Int32} (h0 : si_ld 0 ls = some (.ref P.2.1)) (h1 : si_ld 1 ls = some (.ref (P.1 + 0))) (h2 : si_ld 2 ls = some (.ref (P.1 + 60))) (h3 : si_ld 3 ls = some (.int x)) (hin1 : si_in (x + 1) P.2.2.1 = true) (hin2 : si_in (x + 2) P.2.2.1 = true) (hH : az_HI P az_tb h) {K1 : Int32 → si_H → Prop} {K2 : Int32 → Int32 → si_H → Prop}
    (k0 : az_X P d 152 0 (lv_args 0 [.ref (P.1 + 0), .int (jsv P x 1), .int (jsv P x 2)]) [] h (fun rv h1 => ∃ w1 : Int32, rv = some (.int w1) ∧ az_HI P az_tb h1 ∧ K1 w1 h1))
    (k1 : ∀ (w1 : Int32) (h1 : si_H), az_HI P az_tb h1 → K1 w1 h1 → az_X P d 228 0 (lv_args 0 [.ref (P.1 + 60), .int (jsv P x 1), .int (jsv P x 2)]) [] h1 (fun rv h2 => ∃ w2 : Int32, rv = some (.int w2) ∧ K2 w1 w2 h2))
    (k2 : ∀ (w1 w2 : Int32) (h2 : si_H), K2 w1 w2 h2 → w2 = w1 ∧ az_X P (d + 1) 346 1728 ls [] h2 Q) : az_X P (d + 1) 346 468 ls [] h Q := by
  have f0 : si_ld ((0 : Fin 4) : Nat) ls = some (.ref (P.2.1)) := h0
  have f1 : si_ld ((1 : Fin 4) : Nat) ls = some (.ref (P.1 + 0)) := h1
  have f2 : si_ld ((2 : Fin 4) : Nat) ls = some (.ref (P.1 + 60)) := h2
  have f3 : si_ld ((3 : Fin 4) : Nat) ls = some (.int x) := h3
  refine az_X_step (pc' := 469) (ls' := ls) (st' := [.ref (P.1 + 0)]) (h' := h) rfl rfl (by unfold si_step; simp only [si_lod, f1]; rfl) ?_
  refine az_X_step (pc' := 470) (ls' := ls) (st' := [.ref P.2.1, .ref (P.1 + 0)]) (h' := h) rfl rfl (by unfold si_step; simp only [si_lod, f0]; rfl) ?_
  refine az_X_step (pc' := 471) (ls' := ls) (st' := [.int x, .ref P.2.1, .ref (P.1 + 0)]) (h' := h) rfl rfl (by unfold si_step; simp only [si_lod, f3]; rfl) ?_
  refine az_X_step (pc' := 472) (ls' := ls) (st' := [.int 1, .int x, .ref P.2.1, .ref (P.1 + 0)]) (h' := h) rfl rfl (rfl) ?_
  refine az_X_step (pc' := 473) (ls' := ls) (st' := [.int (x + 1), .ref P.2.1, .ref (P.1 + 0)]) (h' := h) rfl rfl (rfl) ?_
  refine az_X_step (pc' := 474) (ls' := ls) (st' := [.int (jsv P x 1), .ref (P.1 + 0)]) (h' := h) rfl rfl (by unfold si_step; simp only [if_true, hin1]; rfl) ?_
  refine az_X_step (pc' := 475) (ls' := ls) (st' := [.ref P.2.1, .int (jsv P x 1), .ref (P.1 + 0)]) (h' := h) rfl rfl (by unfold si_step; simp only [si_lod, f0]; rfl) ?_
  refine az_X_step (pc' := 476) (ls' := ls) (st' := [.int x, .ref P.2.1, .int (jsv P x 1), .ref (P.1 + 0)]) (h' := h) rfl rfl (by unfold si_step; simp only [si_lod, f3]; rfl) ?_
  refine az_X_step (pc' := 477) (ls' := ls) (st' := [.int 2, .int x, .ref P.2.1, .int (jsv P x 1), .ref (P.1 + 0)]) (h' := h) rfl rfl (rfl) ?_
  refine az_X_step (pc' := 478) (ls' := ls) (st' := [.int (x + 2), .ref P.2.1, .int (jsv P x 1), .ref (P.1 + 0)]) (h' := h) rfl rfl (rfl) ?_
  refine az_X_step (pc' := 479) (ls' := ls) (st' := [.int (jsv P x 2), .int (jsv P x 1), .ref (P.1 + 0)]) (h' := h) rfl rfl (by unfold si_step; simp only [if_true, hin2]; rfl) ?_
  refine az_X_call (m' := 152) (as := [.ref (P.1 + 0), .int (jsv P x 1), .int (jsv P x 2)]) (rest := []) rfl rfl rfl rfl rfl ?_ ?_
  · unfold si_call
    dsimp only
    rw [if_pos ⟨rfl, rfl⟩]
    show (match si_ix P h (P.1 + 0) with | some i => _ | none => none) = _
    rw [jix hH (by decide)]
    dsimp only
    rw [jsh0 hH]
    rfl
  refine k0.mono ?_
  rintro rv1 ha ⟨w1, rfl, hH1, hk1⟩
  show az_X P (d + 1) 346 482 ls [.int w1] ha Q
  refine az_X_step (pc' := 483) (ls' := ls) (st' := [.ref (P.1 + 60), .int w1]) (h' := ha) rfl rfl (by unfold si_step; simp only [si_lod, f2]; rfl) ?_
  refine az_X_step (pc' := 484) (ls' := ls) (st' := [.ref P.2.1, .ref (P.1 + 60), .int w1]) (h' := ha) rfl rfl (by unfold si_step; simp only [si_lod, f0]; rfl) ?_
  refine az_X_step (pc' := 485) (ls' := ls) (st' := [.int x, .ref P.2.1, .ref (P.1 + 60), .int w1]) (h' := ha) rfl rfl (by unfold si_step; simp only [si_lod, f3]; rfl) ?_
  refine az_X_step (pc' := 486) (ls' := ls) (st' := [.int 1, .int x, .ref P.2.1, .ref (P.1 + 60), .int w1]) (h' := ha) rfl rfl (rfl) ?_
  refine az_X_step (pc' := 487) (ls' := ls) (st' := [.int (x + 1), .ref P.2.1, .ref (P.1 + 60), .int w1]) (h' := ha) rfl rfl (rfl) ?_
  refine az_X_step (pc' := 488) (ls' := ls) (st' := [.int (jsv P x 1), .ref (P.1 + 60), .int w1]) (h' := ha) rfl rfl (by unfold si_step; simp only [if_true, hin1]; rfl) ?_
  refine az_X_step (pc' := 489) (ls' := ls) (st' := [.ref P.2.1, .int (jsv P x 1), .ref (P.1 + 60), .int w1]) (h' := ha) rfl rfl (by unfold si_step; simp only [si_lod, f0]; rfl) ?_
  refine az_X_step (pc' := 490) (ls' := ls) (st' := [.int x, .ref P.2.1, .int (jsv P x 1), .ref (P.1 + 60), .int w1]) (h' := ha) rfl rfl (by unfold si_step; simp only [si_lod, f3]; rfl) ?_
  refine az_X_step (pc' := 491) (ls' := ls) (st' := [.int 2, .int x, .ref P.2.1, .int (jsv P x 1), .ref (P.1 + 60), .int w1]) (h' := ha) rfl rfl (rfl) ?_
  refine az_X_step (pc' := 492) (ls' := ls) (st' := [.int (x + 2), .ref P.2.1, .int (jsv P x 1), .ref (P.1 + 60), .int w1]) (h' := ha) rfl rfl (rfl) ?_
  refine az_X_step (pc' := 493) (ls' := ls) (st' := [.int (jsv P x 2), .int (jsv P x 1), .ref (P.1 + 60), .int w1]) (h' := ha) rfl rfl (by unfold si_step; simp only [if_true, hin2]; rfl) ?_
  refine az_X_call (m' := 228) (as := [.ref (P.1 + 60), .int (jsv P x 1), .int (jsv P x 2)]) (rest := [.int w1]) rfl rfl rfl rfl rfl ?_ ?_
  · unfold si_call
    dsimp only
    rw [if_pos ⟨rfl, rfl⟩]
    show (match si_ix P ha (P.1 + 60) with | some i => _ | none => none) = _
    rw [jix hH1 (by decide)]
    dsimp only
    rw [jsh60 hH1]
    rfl
  refine (k1 w1 ha hH1 hk1).mono ?_
  rintro rv2 hb ⟨w2, rfl, hk2⟩
  obtain ⟨he, kk⟩ := k2 w1 w2 hb hk2
  show az_X P (d + 1) 346 496 ls [.int w2, .int w1] hb Q
  refine az_X_step (pc' := 1728) (ls' := ls) (st' := []) (h' := hb) rfl rfl (by
    subst he
    unfold si_step
    simp [si_c2, si_tgt]) kk
