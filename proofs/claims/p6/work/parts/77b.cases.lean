set_option maxRecDepth 100000
theorem lw_case_dial {P : si_P} {d : Nat} {h : si_H} {ls : si_L} {Q : Option Value → si_H → Prop} {x : Int32} (h0 : si_ld 0 ls = some (.ref P.2.1)) (h1 : si_ld 1 ls = some (.ref (P.1 + 0))) (h2 : si_ld 2 ls = some (.ref (P.1 + 60))) (h3 : si_ld 3 ls = some (.int x)) (hin1 : si_in (x + 1) P.2.2.1 = true) (hin2 : si_in (x + 2) P.2.2.1 = true) (hH : az_HI P az_tb h) {K1 : Int32 → si_H → Prop} {K2 : Int32 → Int32 → si_H → Prop}
    (k0 : az_X P d 144 0 (lv_args 0 [.ref (P.1 + 0), .int (jsv P x 1), .int (jsv P x 2)]) [] h (fun rv h1 => ∃ w1 : Int32, rv = some (.int w1) ∧ az_HI P az_tb h1 ∧ K1 w1 h1))
    (k1 : ∀ (w1 : Int32) (h1 : si_H), az_HI P az_tb h1 → K1 w1 h1 → az_X P d 218 0 (lv_args 0 [.ref (P.1 + 60), .int (jsv P x 1), .int (jsv P x 2)]) [] h1 (fun rv h2 => ∃ w2 : Int32, rv = some (.int w2) ∧ K2 w1 w2 h2))
    (k2 : ∀ (w1 w2 : Int32) (h2 : si_H), K2 w1 w2 h2 → az_X P (d + 1) 346 254 ls [] h2 Q) : az_X P (d + 1) 346 224 ls [] h Q := by
  have f0 : si_ld ((0 : Fin 4) : Nat) ls = some (.ref (P.2.1)) := h0
  have f1 : si_ld ((1 : Fin 4) : Nat) ls = some (.ref (P.1 + 0)) := h1
  have f2 : si_ld ((2 : Fin 4) : Nat) ls = some (.ref (P.1 + 60)) := h2
  have f3 : si_ld ((3 : Fin 4) : Nat) ls = some (.int x) := h3
  refine az_X_step (pc' := 225) (ls' := ls) (st' := [.ref (P.1 + 0)]) (h' := h) rfl rfl (by unfold si_step; simp only [si_lod, f1]; rfl) ?_
  refine az_X_step (pc' := 226) (ls' := ls) (st' := [.ref P.2.1, .ref (P.1 + 0)]) (h' := h) rfl rfl (by unfold si_step; simp only [si_lod, f0]; rfl) ?_
  refine az_X_step (pc' := 227) (ls' := ls) (st' := [.int x, .ref P.2.1, .ref (P.1 + 0)]) (h' := h) rfl rfl (by unfold si_step; simp only [si_lod, f3]; rfl) ?_
  refine az_X_step (pc' := 228) (ls' := ls) (st' := [.int 1, .int x, .ref P.2.1, .ref (P.1 + 0)]) (h' := h) rfl rfl (rfl) ?_
  refine az_X_step (pc' := 229) (ls' := ls) (st' := [.int (x + 1), .ref P.2.1, .ref (P.1 + 0)]) (h' := h) rfl rfl (rfl) ?_
  refine az_X_step (pc' := 230) (ls' := ls) (st' := [.int (jsv P x 1), .ref (P.1 + 0)]) (h' := h) rfl rfl (by unfold si_step; simp only [if_true, hin1]; rfl) ?_
  refine az_X_step (pc' := 231) (ls' := ls) (st' := [.ref P.2.1, .int (jsv P x 1), .ref (P.1 + 0)]) (h' := h) rfl rfl (by unfold si_step; simp only [si_lod, f0]; rfl) ?_
  refine az_X_step (pc' := 232) (ls' := ls) (st' := [.int x, .ref P.2.1, .int (jsv P x 1), .ref (P.1 + 0)]) (h' := h) rfl rfl (by unfold si_step; simp only [si_lod, f3]; rfl) ?_
  refine az_X_step (pc' := 233) (ls' := ls) (st' := [.int 2, .int x, .ref P.2.1, .int (jsv P x 1), .ref (P.1 + 0)]) (h' := h) rfl rfl (rfl) ?_
  refine az_X_step (pc' := 234) (ls' := ls) (st' := [.int (x + 2), .ref P.2.1, .int (jsv P x 1), .ref (P.1 + 0)]) (h' := h) rfl rfl (rfl) ?_
  refine az_X_step (pc' := 235) (ls' := ls) (st' := [.int (jsv P x 2), .int (jsv P x 1), .ref (P.1 + 0)]) (h' := h) rfl rfl (by unfold si_step; simp only [if_true, hin2]; rfl) ?_
  refine az_X_call (m' := 144) (as := [.ref (P.1 + 0), .int (jsv P x 1), .int (jsv P x 2)]) (rest := []) rfl rfl rfl rfl rfl ?_ ?_
  · unfold si_call
    dsimp only
    rw [if_pos ⟨rfl, rfl⟩]
    show (match si_ix P h (P.1 + 0) with | some i => _ | none => none) = _
    rw [jix hH (by decide)]
    dsimp only
    rw [jsh0 hH]
    rfl
  refine k0.mono ?_
  rintro rv1 ha ⟨w1, rfl, hH1, hk1⟩
  show az_X P (d + 1) 346 238 ls [.int w1] ha Q
  refine az_X_step (pc' := 239) (ls' := ls) (st' := []) (h' := ha) rfl rfl rfl ?_
  refine az_X_step (pc' := 240) (ls' := ls) (st' := [.ref (P.1 + 60)]) (h' := ha) rfl rfl (by unfold si_step; simp only [si_lod, f2]; rfl) ?_
  refine az_X_step (pc' := 241) (ls' := ls) (st' := [.ref P.2.1, .ref (P.1 + 60)]) (h' := ha) rfl rfl (by unfold si_step; simp only [si_lod, f0]; rfl) ?_
  refine az_X_step (pc' := 242) (ls' := ls) (st' := [.int x, .ref P.2.1, .ref (P.1 + 60)]) (h' := ha) rfl rfl (by unfold si_step; simp only [si_lod, f3]; rfl) ?_
  refine az_X_step (pc' := 243) (ls' := ls) (st' := [.int 1, .int x, .ref P.2.1, .ref (P.1 + 60)]) (h' := ha) rfl rfl (rfl) ?_
  refine az_X_step (pc' := 244) (ls' := ls) (st' := [.int (x + 1), .ref P.2.1, .ref (P.1 + 60)]) (h' := ha) rfl rfl (rfl) ?_
  refine az_X_step (pc' := 245) (ls' := ls) (st' := [.int (jsv P x 1), .ref (P.1 + 60)]) (h' := ha) rfl rfl (by unfold si_step; simp only [if_true, hin1]; rfl) ?_
  refine az_X_step (pc' := 246) (ls' := ls) (st' := [.ref P.2.1, .int (jsv P x 1), .ref (P.1 + 60)]) (h' := ha) rfl rfl (by unfold si_step; simp only [si_lod, f0]; rfl) ?_
  refine az_X_step (pc' := 247) (ls' := ls) (st' := [.int x, .ref P.2.1, .int (jsv P x 1), .ref (P.1 + 60)]) (h' := ha) rfl rfl (by unfold si_step; simp only [si_lod, f3]; rfl) ?_
  refine az_X_step (pc' := 248) (ls' := ls) (st' := [.int 2, .int x, .ref P.2.1, .int (jsv P x 1), .ref (P.1 + 60)]) (h' := ha) rfl rfl (rfl) ?_
  refine az_X_step (pc' := 249) (ls' := ls) (st' := [.int (x + 2), .ref P.2.1, .int (jsv P x 1), .ref (P.1 + 60)]) (h' := ha) rfl rfl (rfl) ?_
  refine az_X_step (pc' := 250) (ls' := ls) (st' := [.int (jsv P x 2), .int (jsv P x 1), .ref (P.1 + 60)]) (h' := ha) rfl rfl (by unfold si_step; simp only [if_true, hin2]; rfl) ?_
  refine az_X_call (m' := 218) (as := [.ref (P.1 + 60), .int (jsv P x 1), .int (jsv P x 2)]) (rest := []) rfl rfl rfl rfl rfl ?_ ?_
  · unfold si_call
    dsimp only
    rw [if_pos ⟨rfl, rfl⟩]
    show (match si_ix P ha (P.1 + 60) with | some i => _ | none => none) = _
    rw [jix hH1 (by decide)]
    dsimp only
    rw [jsh60 hH1]
    rfl
  refine (k1 w1 ha hH1 hk1).mono ?_
  rintro rv2 hb ⟨w2, rfl, hk2⟩
  show az_X P (d + 1) 346 253 ls [.int w2] hb Q
  exact az_X_step (pc' := 254) (ls' := ls) (st' := []) (h' := hb) rfl rfl rfl (k2 w1 w2 hb hk2)
theorem lw_case_feed {P : si_P} {d : Nat} {h : si_H} {ls : si_L} {Q : Option Value → si_H → Prop} {x : Int32} (h0 : si_ld 0 ls = some (.ref P.2.1)) (h1 : si_ld 1 ls = some (.ref (P.1 + 0))) (h2 : si_ld 2 ls = some (.ref (P.1 + 60))) (h3 : si_ld 3 ls = some (.int x)) (hin1 : si_in (x + 1) P.2.2.1 = true) (hin2 : si_in (x + 2) P.2.2.1 = true) (hin3 : si_in (x + 3) P.2.2.1 = true) (hin4 : si_in (x + 4) P.2.2.1 = true) (hin5 : si_in (x + 5) P.2.2.1 = true) (hH : az_HI P az_tb h) {K1 : Int32 → si_H → Prop} {K2 : Int32 → Int32 → si_H → Prop}
    (k0 : az_X P d 145 0 (lv_args 0 [.ref (P.1 + 0), .int (jsv P x 1), .int (jsv P x 2), .int (jsv P x 3), .int (jsv P x 4), .int (jsv P x 5)]) [] h (fun rv h1 => ∃ w1 : Int32, rv = some (.int w1) ∧ az_HI P az_tb h1 ∧ K1 w1 h1))
    (k1 : ∀ (w1 : Int32) (h1 : si_H), az_HI P az_tb h1 → K1 w1 h1 → az_X P d 238 0 (lv_args 0 [.ref (P.1 + 60), .int (jsv P x 1), .int (jsv P x 2), .int (jsv P x 3), .int (jsv P x 4), .int (jsv P x 5)]) [] h1 (fun rv h2 => ∃ w2 : Int32, rv = some (.int w2) ∧ K2 w1 w2 h2))
    (k2 : ∀ (w1 w2 : Int32) (h2 : si_H), K2 w1 w2 h2 → az_X P (d + 1) 346 317 ls [] h2 Q) : az_X P (d + 1) 346 257 ls [] h Q := by
  have f0 : si_ld ((0 : Fin 4) : Nat) ls = some (.ref (P.2.1)) := h0
  have f1 : si_ld ((1 : Fin 4) : Nat) ls = some (.ref (P.1 + 0)) := h1
  have f2 : si_ld ((2 : Fin 4) : Nat) ls = some (.ref (P.1 + 60)) := h2
  have f3 : si_ld ((3 : Fin 4) : Nat) ls = some (.int x) := h3
  refine az_X_step (pc' := 258) (ls' := ls) (st' := [.ref (P.1 + 0)]) (h' := h) rfl rfl (by unfold si_step; simp only [si_lod, f1]; rfl) ?_
  refine az_X_step (pc' := 259) (ls' := ls) (st' := [.ref P.2.1, .ref (P.1 + 0)]) (h' := h) rfl rfl (by unfold si_step; simp only [si_lod, f0]; rfl) ?_
  refine az_X_step (pc' := 260) (ls' := ls) (st' := [.int x, .ref P.2.1, .ref (P.1 + 0)]) (h' := h) rfl rfl (by unfold si_step; simp only [si_lod, f3]; rfl) ?_
  refine az_X_step (pc' := 261) (ls' := ls) (st' := [.int 1, .int x, .ref P.2.1, .ref (P.1 + 0)]) (h' := h) rfl rfl (rfl) ?_
  refine az_X_step (pc' := 262) (ls' := ls) (st' := [.int (x + 1), .ref P.2.1, .ref (P.1 + 0)]) (h' := h) rfl rfl (rfl) ?_
  refine az_X_step (pc' := 263) (ls' := ls) (st' := [.int (jsv P x 1), .ref (P.1 + 0)]) (h' := h) rfl rfl (by unfold si_step; simp only [if_true, hin1]; rfl) ?_
  refine az_X_step (pc' := 264) (ls' := ls) (st' := [.ref P.2.1, .int (jsv P x 1), .ref (P.1 + 0)]) (h' := h) rfl rfl (by unfold si_step; simp only [si_lod, f0]; rfl) ?_
  refine az_X_step (pc' := 265) (ls' := ls) (st' := [.int x, .ref P.2.1, .int (jsv P x 1), .ref (P.1 + 0)]) (h' := h) rfl rfl (by unfold si_step; simp only [si_lod, f3]; rfl) ?_
  refine az_X_step (pc' := 266) (ls' := ls) (st' := [.int 2, .int x, .ref P.2.1, .int (jsv P x 1), .ref (P.1 + 0)]) (h' := h) rfl rfl (rfl) ?_
  refine az_X_step (pc' := 267) (ls' := ls) (st' := [.int (x + 2), .ref P.2.1, .int (jsv P x 1), .ref (P.1 + 0)]) (h' := h) rfl rfl (rfl) ?_
  refine az_X_step (pc' := 268) (ls' := ls) (st' := [.int (jsv P x 2), .int (jsv P x 1), .ref (P.1 + 0)]) (h' := h) rfl rfl (by unfold si_step; simp only [if_true, hin2]; rfl) ?_
  refine az_X_step (pc' := 269) (ls' := ls) (st' := [.ref P.2.1, .int (jsv P x 2), .int (jsv P x 1), .ref (P.1 + 0)]) (h' := h) rfl rfl (by unfold si_step; simp only [si_lod, f0]; rfl) ?_
  refine az_X_step (pc' := 270) (ls' := ls) (st' := [.int x, .ref P.2.1, .int (jsv P x 2), .int (jsv P x 1), .ref (P.1 + 0)]) (h' := h) rfl rfl (by unfold si_step; simp only [si_lod, f3]; rfl) ?_
  refine az_X_step (pc' := 271) (ls' := ls) (st' := [.int 3, .int x, .ref P.2.1, .int (jsv P x 2), .int (jsv P x 1), .ref (P.1 + 0)]) (h' := h) rfl rfl (rfl) ?_
  refine az_X_step (pc' := 272) (ls' := ls) (st' := [.int (x + 3), .ref P.2.1, .int (jsv P x 2), .int (jsv P x 1), .ref (P.1 + 0)]) (h' := h) rfl rfl (rfl) ?_
  refine az_X_step (pc' := 273) (ls' := ls) (st' := [.int (jsv P x 3), .int (jsv P x 2), .int (jsv P x 1), .ref (P.1 + 0)]) (h' := h) rfl rfl (by unfold si_step; simp only [if_true, hin3]; rfl) ?_
  refine az_X_step (pc' := 274) (ls' := ls) (st' := [.ref P.2.1, .int (jsv P x 3), .int (jsv P x 2), .int (jsv P x 1), .ref (P.1 + 0)]) (h' := h) rfl rfl (by unfold si_step; simp only [si_lod, f0]; rfl) ?_
  refine az_X_step (pc' := 275) (ls' := ls) (st' := [.int x, .ref P.2.1, .int (jsv P x 3), .int (jsv P x 2), .int (jsv P x 1), .ref (P.1 + 0)]) (h' := h) rfl rfl (by unfold si_step; simp only [si_lod, f3]; rfl) ?_
  refine az_X_step (pc' := 276) (ls' := ls) (st' := [.int 4, .int x, .ref P.2.1, .int (jsv P x 3), .int (jsv P x 2), .int (jsv P x 1), .ref (P.1 + 0)]) (h' := h) rfl rfl (rfl) ?_
  refine az_X_step (pc' := 277) (ls' := ls) (st' := [.int (x + 4), .ref P.2.1, .int (jsv P x 3), .int (jsv P x 2), .int (jsv P x 1), .ref (P.1 + 0)]) (h' := h) rfl rfl (rfl) ?_
  refine az_X_step (pc' := 278) (ls' := ls) (st' := [.int (jsv P x 4), .int (jsv P x 3), .int (jsv P x 2), .int (jsv P x 1), .ref (P.1 + 0)]) (h' := h) rfl rfl (by unfold si_step; simp only [if_true, hin4]; rfl) ?_
  refine az_X_step (pc' := 279) (ls' := ls) (st' := [.ref P.2.1, .int (jsv P x 4), .int (jsv P x 3), .int (jsv P x 2), .int (jsv P x 1), .ref (P.1 + 0)]) (h' := h) rfl rfl (by unfold si_step; simp only [si_lod, f0]; rfl) ?_
  refine az_X_step (pc' := 280) (ls' := ls) (st' := [.int x, .ref P.2.1, .int (jsv P x 4), .int (jsv P x 3), .int (jsv P x 2), .int (jsv P x 1), .ref (P.1 + 0)]) (h' := h) rfl rfl (by unfold si_step; simp only [si_lod, f3]; rfl) ?_
  refine az_X_step (pc' := 281) (ls' := ls) (st' := [.int 5, .int x, .ref P.2.1, .int (jsv P x 4), .int (jsv P x 3), .int (jsv P x 2), .int (jsv P x 1), .ref (P.1 + 0)]) (h' := h) rfl rfl (rfl) ?_
  refine az_X_step (pc' := 282) (ls' := ls) (st' := [.int (x + 5), .ref P.2.1, .int (jsv P x 4), .int (jsv P x 3), .int (jsv P x 2), .int (jsv P x 1), .ref (P.1 + 0)]) (h' := h) rfl rfl (rfl) ?_
  refine az_X_step (pc' := 283) (ls' := ls) (st' := [.int (jsv P x 5), .int (jsv P x 4), .int (jsv P x 3), .int (jsv P x 2), .int (jsv P x 1), .ref (P.1 + 0)]) (h' := h) rfl rfl (by unfold si_step; simp only [if_true, hin5]; rfl) ?_
  refine az_X_call (m' := 145) (as := [.ref (P.1 + 0), .int (jsv P x 1), .int (jsv P x 2), .int (jsv P x 3), .int (jsv P x 4), .int (jsv P x 5)]) (rest := []) rfl rfl rfl rfl rfl ?_ ?_
  · unfold si_call
    dsimp only
    rw [if_pos ⟨rfl, rfl⟩]
    show (match si_ix P h (P.1 + 0) with | some i => _ | none => none) = _
    rw [jix hH (by decide)]
    dsimp only
    rw [jsh0 hH]
    rfl
  refine k0.mono ?_
  rintro rv1 ha ⟨w1, rfl, hH1, hk1⟩
  show az_X P (d + 1) 346 286 ls [.int w1] ha Q
  refine az_X_step (pc' := 287) (ls' := ls) (st' := []) (h' := ha) rfl rfl rfl ?_
  refine az_X_step (pc' := 288) (ls' := ls) (st' := [.ref (P.1 + 60)]) (h' := ha) rfl rfl (by unfold si_step; simp only [si_lod, f2]; rfl) ?_
  refine az_X_step (pc' := 289) (ls' := ls) (st' := [.ref P.2.1, .ref (P.1 + 60)]) (h' := ha) rfl rfl (by unfold si_step; simp only [si_lod, f0]; rfl) ?_
  refine az_X_step (pc' := 290) (ls' := ls) (st' := [.int x, .ref P.2.1, .ref (P.1 + 60)]) (h' := ha) rfl rfl (by unfold si_step; simp only [si_lod, f3]; rfl) ?_
  refine az_X_step (pc' := 291) (ls' := ls) (st' := [.int 1, .int x, .ref P.2.1, .ref (P.1 + 60)]) (h' := ha) rfl rfl (rfl) ?_
  refine az_X_step (pc' := 292) (ls' := ls) (st' := [.int (x + 1), .ref P.2.1, .ref (P.1 + 60)]) (h' := ha) rfl rfl (rfl) ?_
  refine az_X_step (pc' := 293) (ls' := ls) (st' := [.int (jsv P x 1), .ref (P.1 + 60)]) (h' := ha) rfl rfl (by unfold si_step; simp only [if_true, hin1]; rfl) ?_
  refine az_X_step (pc' := 294) (ls' := ls) (st' := [.ref P.2.1, .int (jsv P x 1), .ref (P.1 + 60)]) (h' := ha) rfl rfl (by unfold si_step; simp only [si_lod, f0]; rfl) ?_
  refine az_X_step (pc' := 295) (ls' := ls) (st' := [.int x, .ref P.2.1, .int (jsv P x 1), .ref (P.1 + 60)]) (h' := ha) rfl rfl (by unfold si_step; simp only [si_lod, f3]; rfl) ?_
  refine az_X_step (pc' := 296) (ls' := ls) (st' := [.int 2, .int x, .ref P.2.1, .int (jsv P x 1), .ref (P.1 + 60)]) (h' := ha) rfl rfl (rfl) ?_
  refine az_X_step (pc' := 297) (ls' := ls) (st' := [.int (x + 2), .ref P.2.1, .int (jsv P x 1), .ref (P.1 + 60)]) (h' := ha) rfl rfl (rfl) ?_
  refine az_X_step (pc' := 298) (ls' := ls) (st' := [.int (jsv P x 2), .int (jsv P x 1), .ref (P.1 + 60)]) (h' := ha) rfl rfl (by unfold si_step; simp only [if_true, hin2]; rfl) ?_
  refine az_X_step (pc' := 299) (ls' := ls) (st' := [.ref P.2.1, .int (jsv P x 2), .int (jsv P x 1), .ref (P.1 + 60)]) (h' := ha) rfl rfl (by unfold si_step; simp only [si_lod, f0]; rfl) ?_
  refine az_X_step (pc' := 300) (ls' := ls) (st' := [.int x, .ref P.2.1, .int (jsv P x 2), .int (jsv P x 1), .ref (P.1 + 60)]) (h' := ha) rfl rfl (by unfold si_step; simp only [si_lod, f3]; rfl) ?_
  refine az_X_step (pc' := 301) (ls' := ls) (st' := [.int 3, .int x, .ref P.2.1, .int (jsv P x 2), .int (jsv P x 1), .ref (P.1 + 60)]) (h' := ha) rfl rfl (rfl) ?_
  refine az_X_step (pc' := 302) (ls' := ls) (st' := [.int (x + 3), .ref P.2.1, .int (jsv P x 2), .int (jsv P x 1), .ref (P.1 + 60)]) (h' := ha) rfl rfl (rfl) ?_
  refine az_X_step (pc' := 303) (ls' := ls) (st' := [.int (jsv P x 3), .int (jsv P x 2), .int (jsv P x 1), .ref (P.1 + 60)]) (h' := ha) rfl rfl (by unfold si_step; simp only [if_true, hin3]; rfl) ?_
  refine az_X_step (pc' := 304) (ls' := ls) (st' := [.ref P.2.1, .int (jsv P x 3), .int (jsv P x 2), .int (jsv P x 1), .ref (P.1 + 60)]) (h' := ha) rfl rfl (by unfold si_step; simp only [si_lod, f0]; rfl) ?_
  refine az_X_step (pc' := 305) (ls' := ls) (st' := [.int x, .ref P.2.1, .int (jsv P x 3), .int (jsv P x 2), .int (jsv P x 1), .ref (P.1 + 60)]) (h' := ha) rfl rfl (by unfold si_step; simp only [si_lod, f3]; rfl) ?_
  refine az_X_step (pc' := 306) (ls' := ls) (st' := [.int 4, .int x, .ref P.2.1, .int (jsv P x 3), .int (jsv P x 2), .int (jsv P x 1), .ref (P.1 + 60)]) (h' := ha) rfl rfl (rfl) ?_
  refine az_X_step (pc' := 307) (ls' := ls) (st' := [.int (x + 4), .ref P.2.1, .int (jsv P x 3), .int (jsv P x 2), .int (jsv P x 1), .ref (P.1 + 60)]) (h' := ha) rfl rfl (rfl) ?_
  refine az_X_step (pc' := 308) (ls' := ls) (st' := [.int (jsv P x 4), .int (jsv P x 3), .int (jsv P x 2), .int (jsv P x 1), .ref (P.1 + 60)]) (h' := ha) rfl rfl (by unfold si_step; simp only [if_true, hin4]; rfl) ?_
  refine az_X_step (pc' := 309) (ls' := ls) (st' := [.ref P.2.1, .int (jsv P x 4), .int (jsv P x 3), .int (jsv P x 2), .int (jsv P x 1), .ref (P.1 + 60)]) (h' := ha) rfl rfl (by unfold si_step; simp only [si_lod, f0]; rfl) ?_
  refine az_X_step (pc' := 310) (ls' := ls) (st' := [.int x, .ref P.2.1, .int (jsv P x 4), .int (jsv P x 3), .int (jsv P x 2), .int (jsv P x 1), .ref (P.1 + 60)]) (h' := ha) rfl rfl (by unfold si_step; simp only [si_lod, f3]; rfl) ?_
  refine az_X_step (pc' := 311) (ls' := ls) (st' := [.int 5, .int x, .ref P.2.1, .int (jsv P x 4), .int (jsv P x 3), .int (jsv P x 2), .int (jsv P x 1), .ref (P.1 + 60)]) (h' := ha) rfl rfl (rfl) ?_
  refine az_X_step (pc' := 312) (ls' := ls) (st' := [.int (x + 5), .ref P.2.1, .int (jsv P x 4), .int (jsv P x 3), .int (jsv P x 2), .int (jsv P x 1), .ref (P.1 + 60)]) (h' := ha) rfl rfl (rfl) ?_
  refine az_X_step (pc' := 313) (ls' := ls) (st' := [.int (jsv P x 5), .int (jsv P x 4), .int (jsv P x 3), .int (jsv P x 2), .int (jsv P x 1), .ref (P.1 + 60)]) (h' := ha) rfl rfl (by unfold si_step; simp only [if_true, hin5]; rfl) ?_
  refine az_X_call (m' := 238) (as := [.ref (P.1 + 60), .int (jsv P x 1), .int (jsv P x 2), .int (jsv P x 3), .int (jsv P x 4), .int (jsv P x 5)]) (rest := []) rfl rfl rfl rfl rfl ?_ ?_
  · unfold si_call
    dsimp only
    rw [if_pos ⟨rfl, rfl⟩]
    show (match si_ix P ha (P.1 + 60) with | some i => _ | none => none) = _
    rw [jix hH1 (by decide)]
    dsimp only
    rw [jsh60 hH1]
    rfl
  refine (k1 w1 ha hH1 hk1).mono ?_
  rintro rv2 hb ⟨w2, rfl, hk2⟩
  show az_X P (d + 1) 346 316 ls [.int w2] hb Q
  exact az_X_step (pc' := 317) (ls' := ls) (st' := []) (h' := hb) rfl rfl rfl (k2 w1 w2 hb hk2)
theorem lw_case_law {P : si_P} {d : Nat} {h : si_H} {ls : si_L} {Q : Option Value → si_H → Prop} {x : Int32} (h0 : si_ld 0 ls = some (.ref P.2.1)) (h1 : si_ld 1 ls = some (.ref (P.1 + 0))) (h2 : si_ld 2 ls = some (.ref (P.1 + 60))) (h3 : si_ld 3 ls = some (.int x)) (hin1 : si_in (x + 1) P.2.2.1 = true) (hH : az_HI P az_tb h) {K1 : Int32 → si_H → Prop} {K2 : Int32 → Int32 → si_H → Prop}
    (k0 : az_X P d 146 0 (lv_args 0 [.ref (P.1 + 0), .int (jsv P x 1)]) [] h (fun rv h1 => ∃ w1 : Int32, rv = some (.int w1) ∧ az_HI P az_tb h1 ∧ K1 w1 h1))
    (k1 : ∀ (w1 : Int32) (h1 : si_H), az_HI P az_tb h1 → K1 w1 h1 → az_X P d 261 0 (lv_args 0 [.ref (P.1 + 60), .int (jsv P x 1)]) [] h1 (fun rv h2 => ∃ w2 : Int32, rv = some (.int w2) ∧ K2 w1 w2 h2))
    (k2 : ∀ (w1 w2 : Int32) (h2 : si_H), K2 w1 w2 h2 → az_X P (d + 1) 346 340 ls [] h2 Q) : az_X P (d + 1) 346 320 ls [] h Q := by
  have f0 : si_ld ((0 : Fin 4) : Nat) ls = some (.ref (P.2.1)) := h0
  have f1 : si_ld ((1 : Fin 4) : Nat) ls = some (.ref (P.1 + 0)) := h1
  have f2 : si_ld ((2 : Fin 4) : Nat) ls = some (.ref (P.1 + 60)) := h2
  have f3 : si_ld ((3 : Fin 4) : Nat) ls = some (.int x) := h3
  refine az_X_step (pc' := 321) (ls' := ls) (st' := [.ref (P.1 + 0)]) (h' := h) rfl rfl (by unfold si_step; simp only [si_lod, f1]; rfl) ?_
  refine az_X_step (pc' := 322) (ls' := ls) (st' := [.ref P.2.1, .ref (P.1 + 0)]) (h' := h) rfl rfl (by unfold si_step; simp only [si_lod, f0]; rfl) ?_
  refine az_X_step (pc' := 323) (ls' := ls) (st' := [.int x, .ref P.2.1, .ref (P.1 + 0)]) (h' := h) rfl rfl (by unfold si_step; simp only [si_lod, f3]; rfl) ?_
  refine az_X_step (pc' := 324) (ls' := ls) (st' := [.int 1, .int x, .ref P.2.1, .ref (P.1 + 0)]) (h' := h) rfl rfl (rfl) ?_
  refine az_X_step (pc' := 325) (ls' := ls) (st' := [.int (x + 1), .ref P.2.1, .ref (P.1 + 0)]) (h' := h) rfl rfl (rfl) ?_
  refine az_X_step (pc' := 326) (ls' := ls) (st' := [.int (jsv P x 1), .ref (P.1 + 0)]) (h' := h) rfl rfl (by unfold si_step; simp only [if_true, hin1]; rfl) ?_
  refine az_X_call (m' := 146) (as := [.ref (P.1 + 0), .int (jsv P x 1)]) (rest := []) rfl rfl rfl rfl rfl ?_ ?_
  · unfold si_call
    dsimp only
    rw [if_pos ⟨rfl, rfl⟩]
    show (match si_ix P h (P.1 + 0) with | some i => _ | none => none) = _
    rw [jix hH (by decide)]
    dsimp only
    rw [jsh0 hH]
    rfl
  refine k0.mono ?_
  rintro rv1 ha ⟨w1, rfl, hH1, hk1⟩
  show az_X P (d + 1) 346 329 ls [.int w1] ha Q
  refine az_X_step (pc' := 330) (ls' := ls) (st' := []) (h' := ha) rfl rfl rfl ?_
  refine az_X_step (pc' := 331) (ls' := ls) (st' := [.ref (P.1 + 60)]) (h' := ha) rfl rfl (by unfold si_step; simp only [si_lod, f2]; rfl) ?_
  refine az_X_step (pc' := 332) (ls' := ls) (st' := [.ref P.2.1, .ref (P.1 + 60)]) (h' := ha) rfl rfl (by unfold si_step; simp only [si_lod, f0]; rfl) ?_
  refine az_X_step (pc' := 333) (ls' := ls) (st' := [.int x, .ref P.2.1, .ref (P.1 + 60)]) (h' := ha) rfl rfl (by unfold si_step; simp only [si_lod, f3]; rfl) ?_
  refine az_X_step (pc' := 334) (ls' := ls) (st' := [.int 1, .int x, .ref P.2.1, .ref (P.1 + 60)]) (h' := ha) rfl rfl (rfl) ?_
  refine az_X_step (pc' := 335) (ls' := ls) (st' := [.int (x + 1), .ref P.2.1, .ref (P.1 + 60)]) (h' := ha) rfl rfl (rfl) ?_
  refine az_X_step (pc' := 336) (ls' := ls) (st' := [.int (jsv P x 1), .ref (P.1 + 60)]) (h' := ha) rfl rfl (by unfold si_step; simp only [if_true, hin1]; rfl) ?_
  refine az_X_call (m' := 261) (as := [.ref (P.1 + 60), .int (jsv P x 1)]) (rest := []) rfl rfl rfl rfl rfl ?_ ?_
  · unfold si_call
    dsimp only
    rw [if_pos ⟨rfl, rfl⟩]
    show (match si_ix P ha (P.1 + 60) with | some i => _ | none => none) = _
    rw [jix hH1 (by decide)]
    dsimp only
    rw [jsh60 hH1]
    rfl
  refine (k1 w1 ha hH1 hk1).mono ?_
  rintro rv2 hb ⟨w2, rfl, hk2⟩
  show az_X P (d + 1) 346 339 ls [.int w2] hb Q
  exact az_X_step (pc' := 340) (ls' := ls) (st' := []) (h' := hb) rfl rfl rfl (k2 w1 w2 hb hk2)
theorem lw_case_clocks {P : si_P} {d : Nat} {h : si_H} {ls : si_L} {Q : Option Value → si_H → Prop} {x : Int32} (h0 : si_ld 0 ls = some (.ref P.2.1)) (h1 : si_ld 1 ls = some (.ref (P.1 + 0))) (h2 : si_ld 2 ls = some (.ref (P.1 + 60))) (h3 : si_ld 3 ls = some (.int x)) (hin1 : si_in (x + 1) P.2.2.1 = true) (hH : az_HI P az_tb h) {K1 : Int32 → si_H → Prop} {K2 : Int32 → Int32 → si_H → Prop}
    (k0 : az_X P d 147 0 (lv_args 0 [.ref (P.1 + 0), .int (jsv P x 1)]) [] h (fun rv h1 => ∃ w1 : Int32, rv = some (.int w1) ∧ az_HI P az_tb h1 ∧ K1 w1 h1))
    (k1 : ∀ (w1 : Int32) (h1 : si_H), az_HI P az_tb h1 → K1 w1 h1 → az_X P d 269 0 (lv_args 0 [.ref (P.1 + 60), .int (jsv P x 1)]) [] h1 (fun rv h2 => ∃ w2 : Int32, rv = some (.int w2) ∧ K2 w1 w2 h2))
    (k2 : ∀ (w1 w2 : Int32) (h2 : si_H), K2 w1 w2 h2 → az_X P (d + 1) 346 363 ls [] h2 Q) : az_X P (d + 1) 346 343 ls [] h Q := by
  have f0 : si_ld ((0 : Fin 4) : Nat) ls = some (.ref (P.2.1)) := h0
  have f1 : si_ld ((1 : Fin 4) : Nat) ls = some (.ref (P.1 + 0)) := h1
  have f2 : si_ld ((2 : Fin 4) : Nat) ls = some (.ref (P.1 + 60)) := h2
  have f3 : si_ld ((3 : Fin 4) : Nat) ls = some (.int x) := h3
  refine az_X_step (pc' := 344) (ls' := ls) (st' := [.ref (P.1 + 0)]) (h' := h) rfl rfl (by unfold si_step; simp only [si_lod, f1]; rfl) ?_
  refine az_X_step (pc' := 345) (ls' := ls) (st' := [.ref P.2.1, .ref (P.1 + 0)]) (h' := h) rfl rfl (by unfold si_step; simp only [si_lod, f0]; rfl) ?_
  refine az_X_step (pc' := 346) (ls' := ls) (st' := [.int x, .ref P.2.1, .ref (P.1 + 0)]) (h' := h) rfl rfl (by unfold si_step; simp only [si_lod, f3]; rfl) ?_
  refine az_X_step (pc' := 347) (ls' := ls) (st' := [.int 1, .int x, .ref P.2.1, .ref (P.1 + 0)]) (h' := h) rfl rfl (rfl) ?_
  refine az_X_step (pc' := 348) (ls' := ls) (st' := [.int (x + 1), .ref P.2.1, .ref (P.1 + 0)]) (h' := h) rfl rfl (rfl) ?_
  refine az_X_step (pc' := 349) (ls' := ls) (st' := [.int (jsv P x 1), .ref (P.1 + 0)]) (h' := h) rfl rfl (by unfold si_step; simp only [if_true, hin1]; rfl) ?_
  refine az_X_call (m' := 147) (as := [.ref (P.1 + 0), .int (jsv P x 1)]) (rest := []) rfl rfl rfl rfl rfl ?_ ?_
  · unfold si_call
    dsimp only
    rw [if_pos ⟨rfl, rfl⟩]
    show (match si_ix P h (P.1 + 0) with | some i => _ | none => none) = _
    rw [jix hH (by decide)]
    dsimp only
    rw [jsh0 hH]
    rfl
  refine k0.mono ?_
  rintro rv1 ha ⟨w1, rfl, hH1, hk1⟩
  show az_X P (d + 1) 346 352 ls [.int w1] ha Q
  refine az_X_step (pc' := 353) (ls' := ls) (st' := []) (h' := ha) rfl rfl rfl ?_
  refine az_X_step (pc' := 354) (ls' := ls) (st' := [.ref (P.1 + 60)]) (h' := ha) rfl rfl (by unfold si_step; simp only [si_lod, f2]; rfl) ?_
  refine az_X_step (pc' := 355) (ls' := ls) (st' := [.ref P.2.1, .ref (P.1 + 60)]) (h' := ha) rfl rfl (by unfold si_step; simp only [si_lod, f0]; rfl) ?_
  refine az_X_step (pc' := 356) (ls' := ls) (st' := [.int x, .ref P.2.1, .ref (P.1 + 60)]) (h' := ha) rfl rfl (by unfold si_step; simp only [si_lod, f3]; rfl) ?_
  refine az_X_step (pc' := 357) (ls' := ls) (st' := [.int 1, .int x, .ref P.2.1, .ref (P.1 + 60)]) (h' := ha) rfl rfl (rfl) ?_
  refine az_X_step (pc' := 358) (ls' := ls) (st' := [.int (x + 1), .ref P.2.1, .ref (P.1 + 60)]) (h' := ha) rfl rfl (rfl) ?_
  refine az_X_step (pc' := 359) (ls' := ls) (st' := [.int (jsv P x 1), .ref (P.1 + 60)]) (h' := ha) rfl rfl (by unfold si_step; simp only [if_true, hin1]; rfl) ?_
  refine az_X_call (m' := 269) (as := [.ref (P.1 + 60), .int (jsv P x 1)]) (rest := []) rfl rfl rfl rfl rfl ?_ ?_
  · unfold si_call
    dsimp only
    rw [if_pos ⟨rfl, rfl⟩]
    show (match si_ix P ha (P.1 + 60) with | some i => _ | none => none) = _
    rw [jix hH1 (by decide)]
    dsimp only
    rw [jsh60 hH1]
    rfl
  refine (k1 w1 ha hH1 hk1).mono ?_
  rintro rv2 hb ⟨w2, rfl, hk2⟩
  show az_X P (d + 1) 346 362 ls [.int w2] hb Q
  exact az_X_step (pc' := 363) (ls' := ls) (st' := []) (h' := hb) rfl rfl rfl (k2 w1 w2 hb hk2)
theorem lw_case_book {P : si_P} {d : Nat} {h : si_H} {ls : si_L} {Q : Option Value → si_H → Prop} {x : Int32} (h0 : si_ld 0 ls = some (.ref P.2.1)) (h1 : si_ld 1 ls = some (.ref (P.1 + 0))) (h2 : si_ld 2 ls = some (.ref (P.1 + 60))) (h3 : si_ld 3 ls = some (.int x)) (hin1 : si_in (x + 1) P.2.2.1 = true) (hH : az_HI P az_tb h) {K1 : Int32 → si_H → Prop} {K2 : Int32 → Int32 → si_H → Prop}
    (k0 : az_X P d 148 0 (lv_args 0 [.ref (P.1 + 0), .int (jsv P x 1)]) [] h (fun rv h1 => ∃ w1 : Int32, rv = some (.int w1) ∧ az_HI P az_tb h1 ∧ K1 w1 h1))
    (k1 : ∀ (w1 : Int32) (h1 : si_H), az_HI P az_tb h1 → K1 w1 h1 → az_X P d 271 0 (lv_args 0 [.ref (P.1 + 60), .int (jsv P x 1)]) [] h1 (fun rv h2 => ∃ w2 : Int32, rv = some (.int w2) ∧ K2 w1 w2 h2))
    (k2 : ∀ (w1 w2 : Int32) (h2 : si_H), K2 w1 w2 h2 → w2 = w1 ∧ az_X P (d + 1) 346 1728 ls [] h2 Q) : az_X P (d + 1) 346 366 ls [] h Q := by
  have f0 : si_ld ((0 : Fin 4) : Nat) ls = some (.ref (P.2.1)) := h0
  have f1 : si_ld ((1 : Fin 4) : Nat) ls = some (.ref (P.1 + 0)) := h1
  have f2 : si_ld ((2 : Fin 4) : Nat) ls = some (.ref (P.1 + 60)) := h2
  have f3 : si_ld ((3 : Fin 4) : Nat) ls = some (.int x) := h3
  refine az_X_step (pc' := 367) (ls' := ls) (st' := [.ref (P.1 + 0)]) (h' := h) rfl rfl (by unfold si_step; simp only [si_lod, f1]; rfl) ?_
  refine az_X_step (pc' := 368) (ls' := ls) (st' := [.ref P.2.1, .ref (P.1 + 0)]) (h' := h) rfl rfl (by unfold si_step; simp only [si_lod, f0]; rfl) ?_
  refine az_X_step (pc' := 369) (ls' := ls) (st' := [.int x, .ref P.2.1, .ref (P.1 + 0)]) (h' := h) rfl rfl (by unfold si_step; simp only [si_lod, f3]; rfl) ?_
  refine az_X_step (pc' := 370) (ls' := ls) (st' := [.int 1, .int x, .ref P.2.1, .ref (P.1 + 0)]) (h' := h) rfl rfl (rfl) ?_
  refine az_X_step (pc' := 371) (ls' := ls) (st' := [.int (x + 1), .ref P.2.1, .ref (P.1 + 0)]) (h' := h) rfl rfl (rfl) ?_
  refine az_X_step (pc' := 372) (ls' := ls) (st' := [.int (jsv P x 1), .ref (P.1 + 0)]) (h' := h) rfl rfl (by unfold si_step; simp only [if_true, hin1]; rfl) ?_
  refine az_X_call (m' := 148) (as := [.ref (P.1 + 0), .int (jsv P x 1)]) (rest := []) rfl rfl rfl rfl rfl ?_ ?_
  · unfold si_call
    dsimp only
    rw [if_pos ⟨rfl, rfl⟩]
    show (match si_ix P h (P.1 + 0) with | some i => _ | none => none) = _
    rw [jix hH (by decide)]
    dsimp only
    rw [jsh0 hH]
    rfl
  refine k0.mono ?_
  rintro rv1 ha ⟨w1, rfl, hH1, hk1⟩
  show az_X P (d + 1) 346 375 ls [.int w1] ha Q
  refine az_X_step (pc' := 376) (ls' := ls) (st' := [.ref (P.1 + 60), .int w1]) (h' := ha) rfl rfl (by unfold si_step; simp only [si_lod, f2]; rfl) ?_
  refine az_X_step (pc' := 377) (ls' := ls) (st' := [.ref P.2.1, .ref (P.1 + 60), .int w1]) (h' := ha) rfl rfl (by unfold si_step; simp only [si_lod, f0]; rfl) ?_
  refine az_X_step (pc' := 378) (ls' := ls) (st' := [.int x, .ref P.2.1, .ref (P.1 + 60), .int w1]) (h' := ha) rfl rfl (by unfold si_step; simp only [si_lod, f3]; rfl) ?_
  refine az_X_step (pc' := 379) (ls' := ls) (st' := [.int 1, .int x, .ref P.2.1, .ref (P.1 + 60), .int w1]) (h' := ha) rfl rfl (rfl) ?_
  refine az_X_step (pc' := 380) (ls' := ls) (st' := [.int (x + 1), .ref P.2.1, .ref (P.1 + 60), .int w1]) (h' := ha) rfl rfl (rfl) ?_
  refine az_X_step (pc' := 381) (ls' := ls) (st' := [.int (jsv P x 1), .ref (P.1 + 60), .int w1]) (h' := ha) rfl rfl (by unfold si_step; simp only [if_true, hin1]; rfl) ?_
  refine az_X_call (m' := 271) (as := [.ref (P.1 + 60), .int (jsv P x 1)]) (rest := [.int w1]) rfl rfl rfl rfl rfl ?_ ?_
  · unfold si_call
    dsimp only
    rw [if_pos ⟨rfl, rfl⟩]
    show (match si_ix P ha (P.1 + 60) with | some i => _ | none => none) = _
    rw [jix hH1 (by decide)]
    dsimp only
    rw [jsh60 hH1]
    rfl
  refine (k1 w1 ha hH1 hk1).mono ?_
  rintro rv2 hb ⟨w2, rfl, hk2⟩
  obtain ⟨he, kk⟩ := k2 w1 w2 hb hk2
  show az_X P (d + 1) 346 384 ls [.int w2, .int w1] hb Q
  refine az_X_step (pc' := 1728) (ls' := ls) (st' := []) (h' := hb) rfl rfl (by
    subst he
    unfold si_step
    simp [si_c2, si_tgt]) kk
theorem lw_case_photographs {P : si_P} {d : Nat} {h : si_H} {ls : si_L} {Q : Option Value → si_H → Prop} {x : Int32} (h0 : si_ld 0 ls = some (.ref P.2.1)) (h1 : si_ld 1 ls = some (.ref (P.1 + 0))) (h2 : si_ld 2 ls = some (.ref (P.1 + 60))) (h3 : si_ld 3 ls = some (.int x)) (hin1 : si_in (x + 1) P.2.2.1 = true) (hin2 : si_in (x + 2) P.2.2.1 = true) (hin3 : si_in (x + 3) P.2.2.1 = true) (hin4 : si_in (x + 4) P.2.2.1 = true) (hH : az_HI P az_tb h) {K1 : Int32 → si_H → Prop} {K2 : Int32 → Int32 → si_H → Prop}
    (k0 : az_X P d 158 0 (lv_args 0 [.ref (P.1 + 0), .int (jsv P x 1), .int (jsv P x 2), .int (jsv P x 3), .int (jsv P x 4)]) [] h (fun rv h1 => ∃ w1 : Int32, rv = some (.int w1) ∧ az_HI P az_tb h1 ∧ K1 w1 h1))
    (k1 : ∀ (w1 : Int32) (h1 : si_H), az_HI P az_tb h1 → K1 w1 h1 → az_X P d 281 0 (lv_args 0 [.ref (P.1 + 60), .int (jsv P x 1), .int (jsv P x 2), .int (jsv P x 3), .int (jsv P x 4)]) [] h1 (fun rv h2 => ∃ w2 : Int32, rv = some (.int w2) ∧ K2 w1 w2 h2))
    (k2 : ∀ (w1 w2 : Int32) (h2 : si_H), K2 w1 w2 h2 → az_X P (d + 1) 346 666 ls [] h2 Q) : az_X P (d + 1) 346 616 ls [] h Q := by
  have f0 : si_ld ((0 : Fin 4) : Nat) ls = some (.ref (P.2.1)) := h0
  have f1 : si_ld ((1 : Fin 4) : Nat) ls = some (.ref (P.1 + 0)) := h1
  have f2 : si_ld ((2 : Fin 4) : Nat) ls = some (.ref (P.1 + 60)) := h2
  have f3 : si_ld ((3 : Fin 4) : Nat) ls = some (.int x) := h3
  refine az_X_step (pc' := 617) (ls' := ls) (st' := [.ref (P.1 + 0)]) (h' := h) rfl rfl (by unfold si_step; simp only [si_lod, f1]; rfl) ?_
  refine az_X_step (pc' := 618) (ls' := ls) (st' := [.ref P.2.1, .ref (P.1 + 0)]) (h' := h) rfl rfl (by unfold si_step; simp only [si_lod, f0]; rfl) ?_
  refine az_X_step (pc' := 619) (ls' := ls) (st' := [.int x, .ref P.2.1, .ref (P.1 + 0)]) (h' := h) rfl rfl (by unfold si_step; simp only [si_lod, f3]; rfl) ?_
  refine az_X_step (pc' := 620) (ls' := ls) (st' := [.int 1, .int x, .ref P.2.1, .ref (P.1 + 0)]) (h' := h) rfl rfl (rfl) ?_
  refine az_X_step (pc' := 621) (ls' := ls) (st' := [.int (x + 1), .ref P.2.1, .ref (P.1 + 0)]) (h' := h) rfl rfl (rfl) ?_
  refine az_X_step (pc' := 622) (ls' := ls) (st' := [.int (jsv P x 1), .ref (P.1 + 0)]) (h' := h) rfl rfl (by unfold si_step; simp only [if_true, hin1]; rfl) ?_
  refine az_X_step (pc' := 623) (ls' := ls) (st' := [.ref P.2.1, .int (jsv P x 1), .ref (P.1 + 0)]) (h' := h) rfl rfl (by unfold si_step; simp only [si_lod, f0]; rfl) ?_
  refine az_X_step (pc' := 624) (ls' := ls) (st' := [.int x, .ref P.2.1, .int (jsv P x 1), .ref (P.1 + 0)]) (h' := h) rfl rfl (by unfold si_step; simp only [si_lod, f3]; rfl) ?_
  refine az_X_step (pc' := 625) (ls' := ls) (st' := [.int 2, .int x, .ref P.2.1, .int (jsv P x 1), .ref (P.1 + 0)]) (h' := h) rfl rfl (rfl) ?_
  refine az_X_step (pc' := 626) (ls' := ls) (st' := [.int (x + 2), .ref P.2.1, .int (jsv P x 1), .ref (P.1 + 0)]) (h' := h) rfl rfl (rfl) ?_
  refine az_X_step (pc' := 627) (ls' := ls) (st' := [.int (jsv P x 2), .int (jsv P x 1), .ref (P.1 + 0)]) (h' := h) rfl rfl (by unfold si_step; simp only [if_true, hin2]; rfl) ?_
  refine az_X_step (pc' := 628) (ls' := ls) (st' := [.ref P.2.1, .int (jsv P x 2), .int (jsv P x 1), .ref (P.1 + 0)]) (h' := h) rfl rfl (by unfold si_step; simp only [si_lod, f0]; rfl) ?_
  refine az_X_step (pc' := 629) (ls' := ls) (st' := [.int x, .ref P.2.1, .int (jsv P x 2), .int (jsv P x 1), .ref (P.1 + 0)]) (h' := h) rfl rfl (by unfold si_step; simp only [si_lod, f3]; rfl) ?_
  refine az_X_step (pc' := 630) (ls' := ls) (st' := [.int 3, .int x, .ref P.2.1, .int (jsv P x 2), .int (jsv P x 1), .ref (P.1 + 0)]) (h' := h) rfl rfl (rfl) ?_
  refine az_X_step (pc' := 631) (ls' := ls) (st' := [.int (x + 3), .ref P.2.1, .int (jsv P x 2), .int (jsv P x 1), .ref (P.1 + 0)]) (h' := h) rfl rfl (rfl) ?_
  refine az_X_step (pc' := 632) (ls' := ls) (st' := [.int (jsv P x 3), .int (jsv P x 2), .int (jsv P x 1), .ref (P.1 + 0)]) (h' := h) rfl rfl (by unfold si_step; simp only [if_true, hin3]; rfl) ?_
  refine az_X_step (pc' := 633) (ls' := ls) (st' := [.ref P.2.1, .int (jsv P x 3), .int (jsv P x 2), .int (jsv P x 1), .ref (P.1 + 0)]) (h' := h) rfl rfl (by unfold si_step; simp only [si_lod, f0]; rfl) ?_
  refine az_X_step (pc' := 634) (ls' := ls) (st' := [.int x, .ref P.2.1, .int (jsv P x 3), .int (jsv P x 2), .int (jsv P x 1), .ref (P.1 + 0)]) (h' := h) rfl rfl (by unfold si_step; simp only [si_lod, f3]; rfl) ?_
  refine az_X_step (pc' := 635) (ls' := ls) (st' := [.int 4, .int x, .ref P.2.1, .int (jsv P x 3), .int (jsv P x 2), .int (jsv P x 1), .ref (P.1 + 0)]) (h' := h) rfl rfl (rfl) ?_
  refine az_X_step (pc' := 636) (ls' := ls) (st' := [.int (x + 4), .ref P.2.1, .int (jsv P x 3), .int (jsv P x 2), .int (jsv P x 1), .ref (P.1 + 0)]) (h' := h) rfl rfl (rfl) ?_
  refine az_X_step (pc' := 637) (ls' := ls) (st' := [.int (jsv P x 4), .int (jsv P x 3), .int (jsv P x 2), .int (jsv P x 1), .ref (P.1 + 0)]) (h' := h) rfl rfl (by unfold si_step; simp only [if_true, hin4]; rfl) ?_
  refine az_X_call (m' := 158) (as := [.ref (P.1 + 0), .int (jsv P x 1), .int (jsv P x 2), .int (jsv P x 3), .int (jsv P x 4)]) (rest := []) rfl rfl rfl rfl rfl ?_ ?_
  · unfold si_call
    dsimp only
    rw [if_pos ⟨rfl, rfl⟩]
    show (match si_ix P h (P.1 + 0) with | some i => _ | none => none) = _
    rw [jix hH (by decide)]
    dsimp only
    rw [jsh0 hH]
    rfl
  refine k0.mono ?_
  rintro rv1 ha ⟨w1, rfl, hH1, hk1⟩
  show az_X P (d + 1) 346 640 ls [.int w1] ha Q
  refine az_X_step (pc' := 641) (ls' := ls) (st' := []) (h' := ha) rfl rfl rfl ?_
  refine az_X_step (pc' := 642) (ls' := ls) (st' := [.ref (P.1 + 60)]) (h' := ha) rfl rfl (by unfold si_step; simp only [si_lod, f2]; rfl) ?_
  refine az_X_step (pc' := 643) (ls' := ls) (st' := [.ref P.2.1, .ref (P.1 + 60)]) (h' := ha) rfl rfl (by unfold si_step; simp only [si_lod, f0]; rfl) ?_
  refine az_X_step (pc' := 644) (ls' := ls) (st' := [.int x, .ref P.2.1, .ref (P.1 + 60)]) (h' := ha) rfl rfl (by unfold si_step; simp only [si_lod, f3]; rfl) ?_
  refine az_X_step (pc' := 645) (ls' := ls) (st' := [.int 1, .int x, .ref P.2.1, .ref (P.1 + 60)]) (h' := ha) rfl rfl (rfl) ?_
  refine az_X_step (pc' := 646) (ls' := ls) (st' := [.int (x + 1), .ref P.2.1, .ref (P.1 + 60)]) (h' := ha) rfl rfl (rfl) ?_
  refine az_X_step (pc' := 647) (ls' := ls) (st' := [.int (jsv P x 1), .ref (P.1 + 60)]) (h' := ha) rfl rfl (by unfold si_step; simp only [if_true, hin1]; rfl) ?_
  refine az_X_step (pc' := 648) (ls' := ls) (st' := [.ref P.2.1, .int (jsv P x 1), .ref (P.1 + 60)]) (h' := ha) rfl rfl (by unfold si_step; simp only [si_lod, f0]; rfl) ?_
  refine az_X_step (pc' := 649) (ls' := ls) (st' := [.int x, .ref P.2.1, .int (jsv P x 1), .ref (P.1 + 60)]) (h' := ha) rfl rfl (by unfold si_step; simp only [si_lod, f3]; rfl) ?_
  refine az_X_step (pc' := 650) (ls' := ls) (st' := [.int 2, .int x, .ref P.2.1, .int (jsv P x 1), .ref (P.1 + 60)]) (h' := ha) rfl rfl (rfl) ?_
  refine az_X_step (pc' := 651) (ls' := ls) (st' := [.int (x + 2), .ref P.2.1, .int (jsv P x 1), .ref (P.1 + 60)]) (h' := ha) rfl rfl (rfl) ?_
  refine az_X_step (pc' := 652) (ls' := ls) (st' := [.int (jsv P x 2), .int (jsv P x 1), .ref (P.1 + 60)]) (h' := ha) rfl rfl (by unfold si_step; simp only [if_true, hin2]; rfl) ?_
  refine az_X_step (pc' := 653) (ls' := ls) (st' := [.ref P.2.1, .int (jsv P x 2), .int (jsv P x 1), .ref (P.1 + 60)]) (h' := ha) rfl rfl (by unfold si_step; simp only [si_lod, f0]; rfl) ?_
  refine az_X_step (pc' := 654) (ls' := ls) (st' := [.int x, .ref P.2.1, .int (jsv P x 2), .int (jsv P x 1), .ref (P.1 + 60)]) (h' := ha) rfl rfl (by unfold si_step; simp only [si_lod, f3]; rfl) ?_
  refine az_X_step (pc' := 655) (ls' := ls) (st' := [.int 3, .int x, .ref P.2.1, .int (jsv P x 2), .int (jsv P x 1), .ref (P.1 + 60)]) (h' := ha) rfl rfl (rfl) ?_
  refine az_X_step (pc' := 656) (ls' := ls) (st' := [.int (x + 3), .ref P.2.1, .int (jsv P x 2), .int (jsv P x 1), .ref (P.1 + 60)]) (h' := ha) rfl rfl (rfl) ?_
  refine az_X_step (pc' := 657) (ls' := ls) (st' := [.int (jsv P x 3), .int (jsv P x 2), .int (jsv P x 1), .ref (P.1 + 60)]) (h' := ha) rfl rfl (by unfold si_step; simp only [if_true, hin3]; rfl) ?_
  refine az_X_step (pc' := 658) (ls' := ls) (st' := [.ref P.2.1, .int (jsv P x 3), .int (jsv P x 2), .int (jsv P x 1), .ref (P.1 + 60)]) (h' := ha) rfl rfl (by unfold si_step; simp only [si_lod, f0]; rfl) ?_
  refine az_X_step (pc' := 659) (ls' := ls) (st' := [.int x, .ref P.2.1, .int (jsv P x 3), .int (jsv P x 2), .int (jsv P x 1), .ref (P.1 + 60)]) (h' := ha) rfl rfl (by unfold si_step; simp only [si_lod, f3]; rfl) ?_
  refine az_X_step (pc' := 660) (ls' := ls) (st' := [.int 4, .int x, .ref P.2.1, .int (jsv P x 3), .int (jsv P x 2), .int (jsv P x 1), .ref (P.1 + 60)]) (h' := ha) rfl rfl (rfl) ?_
  refine az_X_step (pc' := 661) (ls' := ls) (st' := [.int (x + 4), .ref P.2.1, .int (jsv P x 3), .int (jsv P x 2), .int (jsv P x 1), .ref (P.1 + 60)]) (h' := ha) rfl rfl (rfl) ?_
  refine az_X_step (pc' := 662) (ls' := ls) (st' := [.int (jsv P x 4), .int (jsv P x 3), .int (jsv P x 2), .int (jsv P x 1), .ref (P.1 + 60)]) (h' := ha) rfl rfl (by unfold si_step; simp only [if_true, hin4]; rfl) ?_
  refine az_X_call (m' := 281) (as := [.ref (P.1 + 60), .int (jsv P x 1), .int (jsv P x 2), .int (jsv P x 3), .int (jsv P x 4)]) (rest := []) rfl rfl rfl rfl rfl ?_ ?_
  · unfold si_call
    dsimp only
    rw [if_pos ⟨rfl, rfl⟩]
    show (match si_ix P ha (P.1 + 60) with | some i => _ | none => none) = _
    rw [jix hH1 (by decide)]
    dsimp only
    rw [jsh60 hH1]
    rfl
  refine (k1 w1 ha hH1 hk1).mono ?_
  rintro rv2 hb ⟨w2, rfl, hk2⟩
  show az_X P (d + 1) 346 665 ls [.int w2] hb Q
  exact az_X_step (pc' := 666) (ls' := ls) (st' := []) (h' := hb) rfl rfl rfl (k2 w1 w2 hb hk2)
theorem lw_case_anyOrder {P : si_P} {d : Nat} {h : si_H} {ls : si_L} {Q : Option Value → si_H → Prop} {x : Int32} (h0 : si_ld 0 ls = some (.ref P.2.1)) (h1 : si_ld 1 ls = some (.ref (P.1 + 0))) (h2 : si_ld 2 ls = some (.ref (P.1 + 60))) (h3 : si_ld 3 ls = some (.int x)) (hin1 : si_in (x + 1) P.2.2.1 = true) (hin2 : si_in (x + 2) P.2.2.1 = true) (hin3 : si_in (x + 3) P.2.2.1 = true) (hin4 : si_in (x + 4) P.2.2.1 = true) (hH : az_HI P az_tb h) {K1 : Int32 → si_H → Prop} {K2 : Int32 → Int32 → si_H → Prop}
    (k0 : az_X P d 159 0 (lv_args 0 [.ref (P.1 + 0), .int (jsv P x 1), .int (jsv P x 2), .int (jsv P x 3), .int (jsv P x 4)]) [] h (fun rv h1 => ∃ w1 : Int32, rv = some (.int w1) ∧ az_HI P az_tb h1 ∧ K1 w1 h1))
    (k1 : ∀ (w1 : Int32) (h1 : si_H), az_HI P az_tb h1 → K1 w1 h1 → az_X P d 286 0 (lv_args 0 [.ref (P.1 + 60), .int (jsv P x 1), .int (jsv P x 2), .int (jsv P x 3), .int (jsv P x 4)]) [] h1 (fun rv h2 => ∃ w2 : Int32, rv = some (.int w2) ∧ K2 w1 w2 h2))
    (k2 : ∀ (w1 w2 : Int32) (h2 : si_H), K2 w1 w2 h2 → az_X P (d + 1) 346 719 ls [] h2 Q) : az_X P (d + 1) 346 669 ls [] h Q := by
  have f0 : si_ld ((0 : Fin 4) : Nat) ls = some (.ref (P.2.1)) := h0
  have f1 : si_ld ((1 : Fin 4) : Nat) ls = some (.ref (P.1 + 0)) := h1
  have f2 : si_ld ((2 : Fin 4) : Nat) ls = some (.ref (P.1 + 60)) := h2
  have f3 : si_ld ((3 : Fin 4) : Nat) ls = some (.int x) := h3
  refine az_X_step (pc' := 670) (ls' := ls) (st' := [.ref (P.1 + 0)]) (h' := h) rfl rfl (by unfold si_step; simp only [si_lod, f1]; rfl) ?_
  refine az_X_step (pc' := 671) (ls' := ls) (st' := [.ref P.2.1, .ref (P.1 + 0)]) (h' := h) rfl rfl (by unfold si_step; simp only [si_lod, f0]; rfl) ?_
  refine az_X_step (pc' := 672) (ls' := ls) (st' := [.int x, .ref P.2.1, .ref (P.1 + 0)]) (h' := h) rfl rfl (by unfold si_step; simp only [si_lod, f3]; rfl) ?_
  refine az_X_step (pc' := 673) (ls' := ls) (st' := [.int 1, .int x, .ref P.2.1, .ref (P.1 + 0)]) (h' := h) rfl rfl (rfl) ?_
  refine az_X_step (pc' := 674) (ls' := ls) (st' := [.int (x + 1), .ref P.2.1, .ref (P.1 + 0)]) (h' := h) rfl rfl (rfl) ?_
  refine az_X_step (pc' := 675) (ls' := ls) (st' := [.int (jsv P x 1), .ref (P.1 + 0)]) (h' := h) rfl rfl (by unfold si_step; simp only [if_true, hin1]; rfl) ?_
  refine az_X_step (pc' := 676) (ls' := ls) (st' := [.ref P.2.1, .int (jsv P x 1), .ref (P.1 + 0)]) (h' := h) rfl rfl (by unfold si_step; simp only [si_lod, f0]; rfl) ?_
  refine az_X_step (pc' := 677) (ls' := ls) (st' := [.int x, .ref P.2.1, .int (jsv P x 1), .ref (P.1 + 0)]) (h' := h) rfl rfl (by unfold si_step; simp only [si_lod, f3]; rfl) ?_
  refine az_X_step (pc' := 678) (ls' := ls) (st' := [.int 2, .int x, .ref P.2.1, .int (jsv P x 1), .ref (P.1 + 0)]) (h' := h) rfl rfl (rfl) ?_
  refine az_X_step (pc' := 679) (ls' := ls) (st' := [.int (x + 2), .ref P.2.1, .int (jsv P x 1), .ref (P.1 + 0)]) (h' := h) rfl rfl (rfl) ?_
  refine az_X_step (pc' := 680) (ls' := ls) (st' := [.int (jsv P x 2), .int (jsv P x 1), .ref (P.1 + 0)]) (h' := h) rfl rfl (by unfold si_step; simp only [if_true, hin2]; rfl) ?_
  refine az_X_step (pc' := 681) (ls' := ls) (st' := [.ref P.2.1, .int (jsv P x 2), .int (jsv P x 1), .ref (P.1 + 0)]) (h' := h) rfl rfl (by unfold si_step; simp only [si_lod, f0]; rfl) ?_
  refine az_X_step (pc' := 682) (ls' := ls) (st' := [.int x, .ref P.2.1, .int (jsv P x 2), .int (jsv P x 1), .ref (P.1 + 0)]) (h' := h) rfl rfl (by unfold si_step; simp only [si_lod, f3]; rfl) ?_
  refine az_X_step (pc' := 683) (ls' := ls) (st' := [.int 3, .int x, .ref P.2.1, .int (jsv P x 2), .int (jsv P x 1), .ref (P.1 + 0)]) (h' := h) rfl rfl (rfl) ?_
  refine az_X_step (pc' := 684) (ls' := ls) (st' := [.int (x + 3), .ref P.2.1, .int (jsv P x 2), .int (jsv P x 1), .ref (P.1 + 0)]) (h' := h) rfl rfl (rfl) ?_
  refine az_X_step (pc' := 685) (ls' := ls) (st' := [.int (jsv P x 3), .int (jsv P x 2), .int (jsv P x 1), .ref (P.1 + 0)]) (h' := h) rfl rfl (by unfold si_step; simp only [if_true, hin3]; rfl) ?_
  refine az_X_step (pc' := 686) (ls' := ls) (st' := [.ref P.2.1, .int (jsv P x 3), .int (jsv P x 2), .int (jsv P x 1), .ref (P.1 + 0)]) (h' := h) rfl rfl (by unfold si_step; simp only [si_lod, f0]; rfl) ?_
  refine az_X_step (pc' := 687) (ls' := ls) (st' := [.int x, .ref P.2.1, .int (jsv P x 3), .int (jsv P x 2), .int (jsv P x 1), .ref (P.1 + 0)]) (h' := h) rfl rfl (by unfold si_step; simp only [si_lod, f3]; rfl) ?_
  refine az_X_step (pc' := 688) (ls' := ls) (st' := [.int 4, .int x, .ref P.2.1, .int (jsv P x 3), .int (jsv P x 2), .int (jsv P x 1), .ref (P.1 + 0)]) (h' := h) rfl rfl (rfl) ?_
  refine az_X_step (pc' := 689) (ls' := ls) (st' := [.int (x + 4), .ref P.2.1, .int (jsv P x 3), .int (jsv P x 2), .int (jsv P x 1), .ref (P.1 + 0)]) (h' := h) rfl rfl (rfl) ?_
  refine az_X_step (pc' := 690) (ls' := ls) (st' := [.int (jsv P x 4), .int (jsv P x 3), .int (jsv P x 2), .int (jsv P x 1), .ref (P.1 + 0)]) (h' := h) rfl rfl (by unfold si_step; simp only [if_true, hin4]; rfl) ?_
  refine az_X_call (m' := 159) (as := [.ref (P.1 + 0), .int (jsv P x 1), .int (jsv P x 2), .int (jsv P x 3), .int (jsv P x 4)]) (rest := []) rfl rfl rfl rfl rfl ?_ ?_
  · unfold si_call
    dsimp only
    rw [if_pos ⟨rfl, rfl⟩]
    show (match si_ix P h (P.1 + 0) with | some i => _ | none => none) = _
    rw [jix hH (by decide)]
    dsimp only
    rw [jsh0 hH]
    rfl
  refine k0.mono ?_
  rintro rv1 ha ⟨w1, rfl, hH1, hk1⟩
  show az_X P (d + 1) 346 693 ls [.int w1] ha Q
  refine az_X_step (pc' := 694) (ls' := ls) (st' := []) (h' := ha) rfl rfl rfl ?_
  refine az_X_step (pc' := 695) (ls' := ls) (st' := [.ref (P.1 + 60)]) (h' := ha) rfl rfl (by unfold si_step; simp only [si_lod, f2]; rfl) ?_
  refine az_X_step (pc' := 696) (ls' := ls) (st' := [.ref P.2.1, .ref (P.1 + 60)]) (h' := ha) rfl rfl (by unfold si_step; simp only [si_lod, f0]; rfl) ?_
  refine az_X_step (pc' := 697) (ls' := ls) (st' := [.int x, .ref P.2.1, .ref (P.1 + 60)]) (h' := ha) rfl rfl (by unfold si_step; simp only [si_lod, f3]; rfl) ?_
  refine az_X_step (pc' := 698) (ls' := ls) (st' := [.int 1, .int x, .ref P.2.1, .ref (P.1 + 60)]) (h' := ha) rfl rfl (rfl) ?_
  refine az_X_step (pc' := 699) (ls' := ls) (st' := [.int (x + 1), .ref P.2.1, .ref (P.1 + 60)]) (h' := ha) rfl rfl (rfl) ?_
  refine az_X_step (pc' := 700) (ls' := ls) (st' := [.int (jsv P x 1), .ref (P.1 + 60)]) (h' := ha) rfl rfl (by unfold si_step; simp only [if_true, hin1]; rfl) ?_
  refine az_X_step (pc' := 701) (ls' := ls) (st' := [.ref P.2.1, .int (jsv P x 1), .ref (P.1 + 60)]) (h' := ha) rfl rfl (by unfold si_step; simp only [si_lod, f0]; rfl) ?_
  refine az_X_step (pc' := 702) (ls' := ls) (st' := [.int x, .ref P.2.1, .int (jsv P x 1), .ref (P.1 + 60)]) (h' := ha) rfl rfl (by unfold si_step; simp only [si_lod, f3]; rfl) ?_
  refine az_X_step (pc' := 703) (ls' := ls) (st' := [.int 2, .int x, .ref P.2.1, .int (jsv P x 1), .ref (P.1 + 60)]) (h' := ha) rfl rfl (rfl) ?_
  refine az_X_step (pc' := 704) (ls' := ls) (st' := [.int (x + 2), .ref P.2.1, .int (jsv P x 1), .ref (P.1 + 60)]) (h' := ha) rfl rfl (rfl) ?_
  refine az_X_step (pc' := 705) (ls' := ls) (st' := [.int (jsv P x 2), .int (jsv P x 1), .ref (P.1 + 60)]) (h' := ha) rfl rfl (by unfold si_step; simp only [if_true, hin2]; rfl) ?_
  refine az_X_step (pc' := 706) (ls' := ls) (st' := [.ref P.2.1, .int (jsv P x 2), .int (jsv P x 1), .ref (P.1 + 60)]) (h' := ha) rfl rfl (by unfold si_step; simp only [si_lod, f0]; rfl) ?_
  refine az_X_step (pc' := 707) (ls' := ls) (st' := [.int x, .ref P.2.1, .int (jsv P x 2), .int (jsv P x 1), .ref (P.1 + 60)]) (h' := ha) rfl rfl (by unfold si_step; simp only [si_lod, f3]; rfl) ?_
  refine az_X_step (pc' := 708) (ls' := ls) (st' := [.int 3, .int x, .ref P.2.1, .int (jsv P x 2), .int (jsv P x 1), .ref (P.1 + 60)]) (h' := ha) rfl rfl (rfl) ?_
  refine az_X_step (pc' := 709) (ls' := ls) (st' := [.int (x + 3), .ref P.2.1, .int (jsv P x 2), .int (jsv P x 1), .ref (P.1 + 60)]) (h' := ha) rfl rfl (rfl) ?_
  refine az_X_step (pc' := 710) (ls' := ls) (st' := [.int (jsv P x 3), .int (jsv P x 2), .int (jsv P x 1), .ref (P.1 + 60)]) (h' := ha) rfl rfl (by unfold si_step; simp only [if_true, hin3]; rfl) ?_
  refine az_X_step (pc' := 711) (ls' := ls) (st' := [.ref P.2.1, .int (jsv P x 3), .int (jsv P x 2), .int (jsv P x 1), .ref (P.1 + 60)]) (h' := ha) rfl rfl (by unfold si_step; simp only [si_lod, f0]; rfl) ?_
  refine az_X_step (pc' := 712) (ls' := ls) (st' := [.int x, .ref P.2.1, .int (jsv P x 3), .int (jsv P x 2), .int (jsv P x 1), .ref (P.1 + 60)]) (h' := ha) rfl rfl (by unfold si_step; simp only [si_lod, f3]; rfl) ?_
  refine az_X_step (pc' := 713) (ls' := ls) (st' := [.int 4, .int x, .ref P.2.1, .int (jsv P x 3), .int (jsv P x 2), .int (jsv P x 1), .ref (P.1 + 60)]) (h' := ha) rfl rfl (rfl) ?_
  refine az_X_step (pc' := 714) (ls' := ls) (st' := [.int (x + 4), .ref P.2.1, .int (jsv P x 3), .int (jsv P x 2), .int (jsv P x 1), .ref (P.1 + 60)]) (h' := ha) rfl rfl (rfl) ?_
  refine az_X_step (pc' := 715) (ls' := ls) (st' := [.int (jsv P x 4), .int (jsv P x 3), .int (jsv P x 2), .int (jsv P x 1), .ref (P.1 + 60)]) (h' := ha) rfl rfl (by unfold si_step; simp only [if_true, hin4]; rfl) ?_
  refine az_X_call (m' := 286) (as := [.ref (P.1 + 60), .int (jsv P x 1), .int (jsv P x 2), .int (jsv P x 3), .int (jsv P x 4)]) (rest := []) rfl rfl rfl rfl rfl ?_ ?_
  · unfold si_call
    dsimp only
    rw [if_pos ⟨rfl, rfl⟩]
    show (match si_ix P ha (P.1 + 60) with | some i => _ | none => none) = _
    rw [jix hH1 (by decide)]
    dsimp only
    rw [jsh60 hH1]
    rfl
  refine (k1 w1 ha hH1 hk1).mono ?_
  rintro rv2 hb ⟨w2, rfl, hk2⟩
  show az_X P (d + 1) 346 718 ls [.int w2] hb Q
  exact az_X_step (pc' := 719) (ls' := ls) (st' := []) (h' := hb) rfl rfl rfl (k2 w1 w2 hb hk2)
theorem lw_case_heard {P : si_P} {d : Nat} {h : si_H} {ls : si_L} {Q : Option Value → si_H → Prop} {x : Int32} (h0 : si_ld 0 ls = some (.ref P.2.1)) (h1 : si_ld 1 ls = some (.ref (P.1 + 0))) (h2 : si_ld 2 ls = some (.ref (P.1 + 60))) (h3 : si_ld 3 ls = some (.int x)) (hin1 : si_in (x + 1) P.2.2.1 = true) (hin2 : si_in (x + 2) P.2.2.1 = true) (hin3 : si_in (x + 3) P.2.2.1 = true) (hH : az_HI P az_tb h) {K1 : Int32 → si_H → Prop} {K2 : Int32 → Int32 → si_H → Prop}
    (k0 : az_X P d 163 0 (lv_args 0 [.ref (P.1 + 0), .int (jsv P x 1), .int (jsb P x 2), .int (jsv P x 3)]) [] h (fun rv h1 => ∃ w1 : Int32, rv = some (.int w1) ∧ az_HI P az_tb h1 ∧ K1 w1 h1))
    (k1 : ∀ (w1 : Int32) (h1 : si_H), az_HI P az_tb h1 → K1 w1 h1 → az_X P d 293 0 (lv_args 0 [.ref (P.1 + 60), .int (jsv P x 1), .int (jsb P x 2), .int (jsv P x 3)]) [] h1 (fun rv h2 => ∃ w2 : Int32, rv = some (.int w2) ∧ K2 w1 w2 h2))
    (k2 : ∀ (w1 w2 : Int32) (h2 : si_H), K2 w1 w2 h2 → az_X P (d + 1) 346 935 ls [] h2 Q) : az_X P (d + 1) 346 879 ls [] h Q := by
  have f0 : si_ld ((0 : Fin 4) : Nat) ls = some (.ref (P.2.1)) := h0
  have f1 : si_ld ((1 : Fin 4) : Nat) ls = some (.ref (P.1 + 0)) := h1
  have f2 : si_ld ((2 : Fin 4) : Nat) ls = some (.ref (P.1 + 60)) := h2
  have f3 : si_ld ((3 : Fin 4) : Nat) ls = some (.int x) := h3
  refine az_X_step (pc' := 880) (ls' := ls) (st' := [.ref (P.1 + 0)]) (h' := h) rfl rfl (by unfold si_step; simp only [si_lod, f1]; rfl) ?_
  refine az_X_step (pc' := 881) (ls' := ls) (st' := [.ref P.2.1, .ref (P.1 + 0)]) (h' := h) rfl rfl (by unfold si_step; simp only [si_lod, f0]; rfl) ?_
  refine az_X_step (pc' := 882) (ls' := ls) (st' := [.int x, .ref P.2.1, .ref (P.1 + 0)]) (h' := h) rfl rfl (by unfold si_step; simp only [si_lod, f3]; rfl) ?_
  refine az_X_step (pc' := 883) (ls' := ls) (st' := [.int 1, .int x, .ref P.2.1, .ref (P.1 + 0)]) (h' := h) rfl rfl (rfl) ?_
  refine az_X_step (pc' := 884) (ls' := ls) (st' := [.int (x + 1), .ref P.2.1, .ref (P.1 + 0)]) (h' := h) rfl rfl (rfl) ?_
  refine az_X_step (pc' := 885) (ls' := ls) (st' := [.int (jsv P x 1), .ref (P.1 + 0)]) (h' := h) rfl rfl (by unfold si_step; simp only [if_true, hin1]; rfl) ?_
  refine az_X_step (pc' := 886) (ls' := ls) (st' := [.ref P.2.1, .int (jsv P x 1), .ref (P.1 + 0)]) (h' := h) rfl rfl (by unfold si_step; simp only [si_lod, f0]; rfl) ?_
  refine az_X_step (pc' := 887) (ls' := ls) (st' := [.int x, .ref P.2.1, .int (jsv P x 1), .ref (P.1 + 0)]) (h' := h) rfl rfl (by unfold si_step; simp only [si_lod, f3]; rfl) ?_
  refine az_X_step (pc' := 888) (ls' := ls) (st' := [.int 2, .int x, .ref P.2.1, .int (jsv P x 1), .ref (P.1 + 0)]) (h' := h) rfl rfl (rfl) ?_
  refine az_X_step (pc' := 889) (ls' := ls) (st' := [.int (x + 2), .ref P.2.1, .int (jsv P x 1), .ref (P.1 + 0)]) (h' := h) rfl rfl (rfl) ?_
  refine az_X_step (pc' := 890) (ls' := ls) (st' := [.int (jsv P x 2), .int (jsv P x 1), .ref (P.1 + 0)]) (h' := h) rfl rfl (by unfold si_step; simp only [if_true, hin2]; rfl) ?_
  suffices hs890 : az_X P (d + 1) 346 898 ls [.int (jsb P x 2), .int (jsv P x 1), .ref (P.1 + 0)] h Q from by
    refine jx_if (t := 897) rfl rfl rfl (fun hz => ?_) (fun hz => ?_)
    · have e : jsb P x 2 = 0 := if_pos (of_decide_eq_true hz)
      rw [e] at hs890
      exact az_X_step (pc' := 898) (ls' := ls) (st' := [.int 0, .int (jsv P x 1), .ref (P.1 + 0)]) (h' := h) rfl rfl rfl hs890
    · have e : jsb P x 2 = 1 := if_neg (of_decide_eq_false hz)
      rw [e] at hs890
      exact az_X_step (pc' := 894) (ls' := ls) (st' := [.int 1, .int (jsv P x 1), .ref (P.1 + 0)]) (h' := h) rfl rfl rfl (az_X_step (pc' := 898) (ls' := ls) (st' := [.int 1, .int (jsv P x 1), .ref (P.1 + 0)]) (h' := h) rfl rfl rfl hs890)
  refine az_X_step (pc' := 899) (ls' := ls) (st' := [.ref P.2.1, .int (jsb P x 2), .int (jsv P x 1), .ref (P.1 + 0)]) (h' := h) rfl rfl (by unfold si_step; simp only [si_lod, f0]; rfl) ?_
  refine az_X_step (pc' := 900) (ls' := ls) (st' := [.int x, .ref P.2.1, .int (jsb P x 2), .int (jsv P x 1), .ref (P.1 + 0)]) (h' := h) rfl rfl (by unfold si_step; simp only [si_lod, f3]; rfl) ?_
  refine az_X_step (pc' := 901) (ls' := ls) (st' := [.int 3, .int x, .ref P.2.1, .int (jsb P x 2), .int (jsv P x 1), .ref (P.1 + 0)]) (h' := h) rfl rfl (rfl) ?_
  refine az_X_step (pc' := 902) (ls' := ls) (st' := [.int (x + 3), .ref P.2.1, .int (jsb P x 2), .int (jsv P x 1), .ref (P.1 + 0)]) (h' := h) rfl rfl (rfl) ?_
  refine az_X_step (pc' := 903) (ls' := ls) (st' := [.int (jsv P x 3), .int (jsb P x 2), .int (jsv P x 1), .ref (P.1 + 0)]) (h' := h) rfl rfl (by unfold si_step; simp only [if_true, hin3]; rfl) ?_
  refine az_X_call (m' := 163) (as := [.ref (P.1 + 0), .int (jsv P x 1), .int (jsb P x 2), .int (jsv P x 3)]) (rest := []) rfl rfl rfl rfl rfl ?_ ?_
  · unfold si_call
    dsimp only
    rw [if_pos ⟨rfl, rfl⟩]
    show (match si_ix P h (P.1 + 0) with | some i => _ | none => none) = _
    rw [jix hH (by decide)]
    dsimp only
    rw [jsh0 hH]
    rfl
  refine k0.mono ?_
  rintro rv1 ha ⟨w1, rfl, hH1, hk1⟩
  show az_X P (d + 1) 346 906 ls [.int w1] ha Q
  refine az_X_step (pc' := 907) (ls' := ls) (st' := []) (h' := ha) rfl rfl rfl ?_
  refine az_X_step (pc' := 908) (ls' := ls) (st' := [.ref (P.1 + 60)]) (h' := ha) rfl rfl (by unfold si_step; simp only [si_lod, f2]; rfl) ?_
  refine az_X_step (pc' := 909) (ls' := ls) (st' := [.ref P.2.1, .ref (P.1 + 60)]) (h' := ha) rfl rfl (by unfold si_step; simp only [si_lod, f0]; rfl) ?_
  refine az_X_step (pc' := 910) (ls' := ls) (st' := [.int x, .ref P.2.1, .ref (P.1 + 60)]) (h' := ha) rfl rfl (by unfold si_step; simp only [si_lod, f3]; rfl) ?_
  refine az_X_step (pc' := 911) (ls' := ls) (st' := [.int 1, .int x, .ref P.2.1, .ref (P.1 + 60)]) (h' := ha) rfl rfl (rfl) ?_
  refine az_X_step (pc' := 912) (ls' := ls) (st' := [.int (x + 1), .ref P.2.1, .ref (P.1 + 60)]) (h' := ha) rfl rfl (rfl) ?_
  refine az_X_step (pc' := 913) (ls' := ls) (st' := [.int (jsv P x 1), .ref (P.1 + 60)]) (h' := ha) rfl rfl (by unfold si_step; simp only [if_true, hin1]; rfl) ?_
  refine az_X_step (pc' := 914) (ls' := ls) (st' := [.ref P.2.1, .int (jsv P x 1), .ref (P.1 + 60)]) (h' := ha) rfl rfl (by unfold si_step; simp only [si_lod, f0]; rfl) ?_
  refine az_X_step (pc' := 915) (ls' := ls) (st' := [.int x, .ref P.2.1, .int (jsv P x 1), .ref (P.1 + 60)]) (h' := ha) rfl rfl (by unfold si_step; simp only [si_lod, f3]; rfl) ?_
  refine az_X_step (pc' := 916) (ls' := ls) (st' := [.int 2, .int x, .ref P.2.1, .int (jsv P x 1), .ref (P.1 + 60)]) (h' := ha) rfl rfl (rfl) ?_
  refine az_X_step (pc' := 917) (ls' := ls) (st' := [.int (x + 2), .ref P.2.1, .int (jsv P x 1), .ref (P.1 + 60)]) (h' := ha) rfl rfl (rfl) ?_
  refine az_X_step (pc' := 918) (ls' := ls) (st' := [.int (jsv P x 2), .int (jsv P x 1), .ref (P.1 + 60)]) (h' := ha) rfl rfl (by unfold si_step; simp only [if_true, hin2]; rfl) ?_
  suffices hs918 : az_X P (d + 1) 346 926 ls [.int (jsb P x 2), .int (jsv P x 1), .ref (P.1 + 60)] ha Q from by
    refine jx_if (t := 925) rfl rfl rfl (fun hz => ?_) (fun hz => ?_)
    · have e : jsb P x 2 = 0 := if_pos (of_decide_eq_true hz)
      rw [e] at hs918
      exact az_X_step (pc' := 926) (ls' := ls) (st' := [.int 0, .int (jsv P x 1), .ref (P.1 + 60)]) (h' := ha) rfl rfl rfl hs918
    · have e : jsb P x 2 = 1 := if_neg (of_decide_eq_false hz)
      rw [e] at hs918
      exact az_X_step (pc' := 922) (ls' := ls) (st' := [.int 1, .int (jsv P x 1), .ref (P.1 + 60)]) (h' := ha) rfl rfl rfl (az_X_step (pc' := 926) (ls' := ls) (st' := [.int 1, .int (jsv P x 1), .ref (P.1 + 60)]) (h' := ha) rfl rfl rfl hs918)
  refine az_X_step (pc' := 927) (ls' := ls) (st' := [.ref P.2.1, .int (jsb P x 2), .int (jsv P x 1), .ref (P.1 + 60)]) (h' := ha) rfl rfl (by unfold si_step; simp only [si_lod, f0]; rfl) ?_
  refine az_X_step (pc' := 928) (ls' := ls) (st' := [.int x, .ref P.2.1, .int (jsb P x 2), .int (jsv P x 1), .ref (P.1 + 60)]) (h' := ha) rfl rfl (by unfold si_step; simp only [si_lod, f3]; rfl) ?_
  refine az_X_step (pc' := 929) (ls' := ls) (st' := [.int 3, .int x, .ref P.2.1, .int (jsb P x 2), .int (jsv P x 1), .ref (P.1 + 60)]) (h' := ha) rfl rfl (rfl) ?_
  refine az_X_step (pc' := 930) (ls' := ls) (st' := [.int (x + 3), .ref P.2.1, .int (jsb P x 2), .int (jsv P x 1), .ref (P.1 + 60)]) (h' := ha) rfl rfl (rfl) ?_
  refine az_X_step (pc' := 931) (ls' := ls) (st' := [.int (jsv P x 3), .int (jsb P x 2), .int (jsv P x 1), .ref (P.1 + 60)]) (h' := ha) rfl rfl (by unfold si_step; simp only [if_true, hin3]; rfl) ?_
  refine az_X_call (m' := 293) (as := [.ref (P.1 + 60), .int (jsv P x 1), .int (jsb P x 2), .int (jsv P x 3)]) (rest := []) rfl rfl rfl rfl rfl ?_ ?_
  · unfold si_call
    dsimp only
    rw [if_pos ⟨rfl, rfl⟩]
    show (match si_ix P ha (P.1 + 60) with | some i => _ | none => none) = _
    rw [jix hH1 (by decide)]
    dsimp only
    rw [jsh60 hH1]
    rfl
  refine (k1 w1 ha hH1 hk1).mono ?_
  rintro rv2 hb ⟨w2, rfl, hk2⟩
  show az_X P (d + 1) 346 934 ls [.int w2] hb Q
  exact az_X_step (pc' := 935) (ls' := ls) (st' := []) (h' := hb) rfl rfl rfl (k2 w1 w2 hb hk2)
theorem lw_case_check {P : si_P} {d : Nat} {h : si_H} {ls : si_L} {Q : Option Value → si_H → Prop} {x : Int32} (h0 : si_ld 0 ls = some (.ref P.2.1)) (h1 : si_ld 1 ls = some (.ref (P.1 + 0))) (h2 : si_ld 2 ls = some (.ref (P.1 + 60))) (h3 : si_ld 3 ls = some (.int x)) (hin1 : si_in (x + 1) P.2.2.1 = true) (hH : az_HI P az_tb h) {K1 : Int32 → si_H → Prop} {K2 : Int32 → Int32 → si_H → Prop}
    (k0 : az_X P d 186 0 (lv_args 0 [.ref (P.1 + 0), .int (jsv P x 1)]) [] h (fun rv h1 => ∃ w1 : Int32, rv = some (.int w1) ∧ az_HI P az_tb h1 ∧ K1 w1 h1))
    (k1 : ∀ (w1 : Int32) (h1 : si_H), az_HI P az_tb h1 → K1 w1 h1 → az_X P d 338 0 (lv_args 0 [.ref (P.1 + 60), .int (jsv P x 1)]) [] h1 (fun rv h2 => ∃ w2 : Int32, rv = some (.int w2) ∧ K2 w1 w2 h2))
    (k2 : ∀ (w1 w2 : Int32) (h2 : si_H), K2 w1 w2 h2 → az_X P (d + 1) 346 1702 ls [] h2 Q) : az_X P (d + 1) 346 1682 ls [] h Q := by
  have f0 : si_ld ((0 : Fin 4) : Nat) ls = some (.ref (P.2.1)) := h0
  have f1 : si_ld ((1 : Fin 4) : Nat) ls = some (.ref (P.1 + 0)) := h1
  have f2 : si_ld ((2 : Fin 4) : Nat) ls = some (.ref (P.1 + 60)) := h2
  have f3 : si_ld ((3 : Fin 4) : Nat) ls = some (.int x) := h3
  refine az_X_step (pc' := 1683) (ls' := ls) (st' := [.ref (P.1 + 0)]) (h' := h) rfl rfl (by unfold si_step; simp only [si_lod, f1]; rfl) ?_
  refine az_X_step (pc' := 1684) (ls' := ls) (st' := [.ref P.2.1, .ref (P.1 + 0)]) (h' := h) rfl rfl (by unfold si_step; simp only [si_lod, f0]; rfl) ?_
  refine az_X_step (pc' := 1685) (ls' := ls) (st' := [.int x, .ref P.2.1, .ref (P.1 + 0)]) (h' := h) rfl rfl (by unfold si_step; simp only [si_lod, f3]; rfl) ?_
  refine az_X_step (pc' := 1686) (ls' := ls) (st' := [.int 1, .int x, .ref P.2.1, .ref (P.1 + 0)]) (h' := h) rfl rfl (rfl) ?_
  refine az_X_step (pc' := 1687) (ls' := ls) (st' := [.int (x + 1), .ref P.2.1, .ref (P.1 + 0)]) (h' := h) rfl rfl (rfl) ?_
  refine az_X_step (pc' := 1688) (ls' := ls) (st' := [.int (jsv P x 1), .ref (P.1 + 0)]) (h' := h) rfl rfl (by unfold si_step; simp only [if_true, hin1]; rfl) ?_
  refine az_X_call (m' := 186) (as := [.ref (P.1 + 0), .int (jsv P x 1)]) (rest := []) rfl rfl rfl rfl rfl ?_ ?_
  · unfold si_call
    dsimp only
    rw [if_pos ⟨rfl, rfl⟩]
    show (match si_ix P h (P.1 + 0) with | some i => _ | none => none) = _
    rw [jix hH (by decide)]
    dsimp only
    rw [jsh0 hH]
    rfl
  refine k0.mono ?_
  rintro rv1 ha ⟨w1, rfl, hH1, hk1⟩
  show az_X P (d + 1) 346 1691 ls [.int w1] ha Q
  refine az_X_step (pc' := 1692) (ls' := ls) (st' := []) (h' := ha) rfl rfl rfl ?_
  refine az_X_step (pc' := 1693) (ls' := ls) (st' := [.ref (P.1 + 60)]) (h' := ha) rfl rfl (by unfold si_step; simp only [si_lod, f2]; rfl) ?_
  refine az_X_step (pc' := 1694) (ls' := ls) (st' := [.ref P.2.1, .ref (P.1 + 60)]) (h' := ha) rfl rfl (by unfold si_step; simp only [si_lod, f0]; rfl) ?_
  refine az_X_step (pc' := 1695) (ls' := ls) (st' := [.int x, .ref P.2.1, .ref (P.1 + 60)]) (h' := ha) rfl rfl (by unfold si_step; simp only [si_lod, f3]; rfl) ?_
  refine az_X_step (pc' := 1696) (ls' := ls) (st' := [.int 1, .int x, .ref P.2.1, .ref (P.1 + 60)]) (h' := ha) rfl rfl (rfl) ?_
  refine az_X_step (pc' := 1697) (ls' := ls) (st' := [.int (x + 1), .ref P.2.1, .ref (P.1 + 60)]) (h' := ha) rfl rfl (rfl) ?_
  refine az_X_step (pc' := 1698) (ls' := ls) (st' := [.int (jsv P x 1), .ref (P.1 + 60)]) (h' := ha) rfl rfl (by unfold si_step; simp only [if_true, hin1]; rfl) ?_
  refine az_X_call (m' := 338) (as := [.ref (P.1 + 60), .int (jsv P x 1)]) (rest := []) rfl rfl rfl rfl rfl ?_ ?_
  · unfold si_call
    dsimp only
    rw [if_pos ⟨rfl, rfl⟩]
    show (match si_ix P ha (P.1 + 60) with | some i => _ | none => none) = _
    rw [jix hH1 (by decide)]
    dsimp only
    rw [jsh60 hH1]
    rfl
  refine (k1 w1 ha hH1 hk1).mono ?_
  rintro rv2 hb ⟨w2, rfl, hk2⟩
  show az_X P (d + 1) 346 1701 ls [.int w2] hb Q
  exact az_X_step (pc' := 1702) (ls' := ls) (st' := []) (h' := hb) rfl rfl rfl (k2 w1 w2 hb hk2)
