set_option maxRecDepth 100000
theorem op_ok {P : si_P} {d : Nat} {h : si_H} (x y w : Int32) (hx : 0 ≤ x.toInt ∧ x.toInt ≤ 63) (hy : 0 ≤ y.toInt ∧ y.toInt ≤ 5) (hw : 0 ≤ w.toInt ∧ w.toInt ≤ 12) : az_X P d 7 0 (lv_args 0 [.int x, .int y, .int w]) [] h (fun rv h' => h' = h ∧ jV rv (72 * x.toInt + 12 * y.toInt + w.toInt)) := by
  have hl : jM [(0, .int x), (1, .int y), (2, .int w)] (lv_args 0 [.int x, .int y, .int w]) := jM_args [0, 1, 2] rfl (by decide)
  generalize lv_args 0 [.int x, .int y, .int w] = ls at hl
  have k6 : (6 : Int32).toInt = 6 := by decide
  have k12 : (12 : Int32).toInt = 12 := by decide
  refine jm_iload_n (x := x) rfl rfl (jM_at hl 0 rfl) ?_
  refine az_X_step (pc' := 3) (ls' := ls) (st' := [.int 6, .int x]) (h' := h) rfl rfl rfl ?_
  refine jn_mul (a := x) (b := 6) rfl rfl (by rw [show (6 : Int32).toInt = 6 by decide]; omega) (by rw [show (6 : Int32).toInt = 6 by decide]; omega) (fun z3 ez3 => ?_)
  rw [show (6 : Int32).toInt = 6 by decide] at ez3
  refine jm_iload_n (x := y) rfl rfl (jM_at hl 1 rfl) ?_
  refine jn_add (a := z3) (b := y) rfl rfl (by omega) (by omega) (fun z5 ez5 => ?_)
  refine az_X_step (pc' := 8) (ls' := ls) (st' := [.int 12, .int z5]) (h' := h) rfl rfl rfl ?_
  refine jn_mul (a := z5) (b := 12) rfl rfl (by rw [show (12 : Int32).toInt = 12 by decide]; omega) (by rw [show (12 : Int32).toInt = 12 by decide]; omega) (fun z8 ez8 => ?_)
  rw [show (12 : Int32).toInt = 12 by decide] at ez8
  refine jm_iload_n (x := w) rfl rfl (jM_at hl 2 rfl) ?_
  refine jn_add (a := z8) (b := w) rfl rfl (by omega) (by omega) (fun z10 ez10 => ?_)
  refine jx_ret rfl rfl rfl ?_
  exact ⟨rfl, z10, rfl, by omega⟩
theorem ob_l {P : si_P} (hxa : P.2.1 < P.1) {d : Nat} {h : si_H} (hH : az_HI P az_tb h) {m r : Int} {Y n : Nat} {B : Nat → Int} {a b : Int} (cx0 : jCX h m r Y n B a b) (hn6 : n ≤ 6) (s X F : Int32) {u M f : Nat} (es : s.toInt = u) (hu : u < Y) (eX : X.toInt = M) (hM : M < 64) (eF : F.toInt = f) (hf : f < n) {V : Nat → Int} (hV : ∀ t : Nat, 0 ≤ V t ∧ V t ≤ 1934917632) (hrow : ∀ e : Nat, (e : Int) < ja h 8 f → jl h 11 (72 * (M : Int) + 12 * (f : Int) + e) = V (jtm h f e)) : ∀ (k j : Nat) (T : Int32) (W : Int64) (ls : si_L), jM [(6, .int T), (4, .long W), (0, .ref (P.1 + 6)), (1, .int s), (2, .int X), (3, .int F)] ls → T.toInt = j → (j : Int) + k = ja h 8 f → W.toInt = jsu (fun e => if (jst2 a b Y) u (jtm h f e) = true then V (jtm h f e) else 0) j → az_X P (d + 3) 10 6 ls [] h (fun rv h' => h' = h ∧ ∃ z : Int64, rv = some (.long z) ∧ (0 ≤ z.toInt ∧ z.toInt ≤ 23219011584) ∧ z.toInt = jsu (fun t => if jpA m r n B f t = true then (if (jst2 a b Y) u t = true then V t else 0) else 0) Y) := by
  have cx := cx0
  obtain ⟨c1, c2, c3, c4, c5, c6, c7, c8, c9, c10, c11⟩ := cx
  have li := c11 f hf
  have li1 := li.1
  have li2 := li.2.1
  intro k
  induction k with
  | zero =>
    intro j T W ls hl eT hj eW
    have bW : 0 ≤ W.toInt ∧ W.toInt ≤ 1934917632 * (j : Int) := by
      rw [eW]
      exact jsu_cap (fun e _ => by
        have := hV (jtm h f e)
        split <;> omega)
    refine jm_iload (x := T) rfl rfl (jM_at hl 0 rfl) ?_
    refine jm_aload_n (x := P.1 + 6) rfl rfl (jM_at hl 2 rfl) ?_
    refine jx_gf (i := 6) rfl rfl hH (by decide) (hH.2 6 _ rfl).1 rfl (jx_rf hH rfl rfl) ?_
    refine jm_iload_n (x := F) rfl rfl (jM_at hl 5 rfl) ?_
    refine jx_ial (i := 8) (x := F) rfl rfl hxa hH (by decide) rfl (by omega) (by show _ < ((8 : Nat) : Int); omega) (fun z13 ez13 bz13 => ?_)
    have e8 : ja h 8 F.toInt = ja h 8 f := by rw [eF]
    refine jx_ic (t := 60) rfl rfl rfl (fun hc14 => ?_) (fun hc14 => ?_)
    · have g14 := jc2_ge_t hc14
      refine jm_lload (x := W) rfl rfl (jM_at hl 1 rfl) ?_
      refine jn_retl rfl rfl rfl ?_
      exact ⟨rfl, W, rfl, by omega, by rw [eW, show j = (ja h 8 f).toNat by omega]; exact jtm_sum cx0 hf (by omega) (fun t => if (jst2 a b Y) u t = true then V t else 0)⟩
    · have g14 := jc2_ge_f hc14
      exfalso
      omega
  | succ k ih =>
    intro j T W ls hl eT hj eW
    have bW : 0 ≤ W.toInt ∧ W.toInt ≤ 1934917632 * (j : Int) := by
      rw [eW]
      exact jsu_cap (fun e _ => by
        have := hV (jtm h f e)
        split <;> omega)
    have tj := jtm_ok cx0 hf (c := j) (by omega)
    have k0 : (0 : Int32).toInt = 0 := by decide
    have k12 : (12 : Int32).toInt = 12 := by decide
    refine jm_iload (x := T) rfl rfl (jM_at hl 0 rfl) ?_
    refine jm_aload_n (x := P.1 + 6) rfl rfl (jM_at hl 2 rfl) ?_
    refine jx_gf (i := 6) rfl rfl hH (by decide) (hH.2 6 _ rfl).1 rfl (jx_rf hH rfl rfl) ?_
    refine jm_iload_n (x := F) rfl rfl (jM_at hl 5 rfl) ?_
    refine jx_ial (i := 8) (x := F) rfl rfl hxa hH (by decide) rfl (by omega) (by show _ < ((8 : Nat) : Int); omega) (fun z13 ez13 bz13 => ?_)
    have e8 : ja h 8 F.toInt = ja h 8 f := by rw [eF]
    refine jx_ic (t := 60) rfl rfl rfl (fun hc14 => ?_) (fun hc14 => ?_)
    · have g14 := jc2_ge_t hc14
      refine jm_lload (x := W) rfl rfl (jM_at hl 1 rfl) ?_
      refine jn_retl rfl rfl rfl ?_
      exfalso
      omega
    · have g14 := jc2_ge_f hc14
      refine jm_aload_n (x := P.1 + 6) rfl rfl (jM_at hl 2 rfl) ?_
      refine jm_iload_n (x := s) rfl rfl (jM_at hl 3 rfl) ?_
      refine jm_aload_n (x := P.1 + 6) rfl rfl (jM_at hl 2 rfl) ?_
      refine jx_gf (i := 6) rfl rfl hH (by decide) (hH.2 6 _ rfl).1 rfl (jx_rf hH rfl rfl) ?_
      refine jm_iload_n (x := F) rfl rfl (jM_at hl 5 rfl) ?_
      refine az_X_step (pc' := 26) (ls' := ls) (st' := [.int 12, .int F, .ref (P.1 + 7), .int s, .ref (P.1 + 6)]) (h' := h) rfl rfl rfl ?_
      refine jn_mul (a := F) (b := 12) rfl rfl (by rw [show (12 : Int32).toInt = 12 by decide]; omega) (by rw [show (12 : Int32).toInt = 12 by decide]; omega) (fun z26 ez26 => ?_)
      rw [show (12 : Int32).toInt = 12 by decide] at ez26
      refine jm_iload (x := T) rfl rfl (jM_at hl 0 rfl) ?_
      refine jn_add (a := z26) (b := T) rfl rfl (by omega) (by omega) (fun z29 ez29 => ?_)
      refine jx_ial (i := 7) (x := z29) rfl rfl hxa hH (by decide) rfl (by omega) (by show _ < ((96 : Nat) : Int); omega) (fun z30 ez30 bz30 => ?_)
      refine az_X_call (m' := 2) (as := [.ref (P.1 + 6), .int s, .int z30]) (rest := []) rfl rfl rfl rfl rfl ?_ ?_
      · unfold si_call
        dsimp only
        rw [if_pos ⟨rfl, rfl⟩]
        show (match si_ix P h (P.1 + 6) with | some i => _ | none => none) = _
        rw [jix hH (by decide)]
        dsimp only
        rw [(hH.2 6 _ rfl).1]
        rfl
      refine (fo_ok hH cx0 s z30 (u := u) (v := jtm h f j) es (by rw [ez30, show z29.toInt = 12 * (f : Int) + j by omega]; exact tj.1) hu tj.2.1).mono ?_
      rintro rv31 h31 ⟨q31, z31, rfl, ez31⟩
      subst h31
      show az_X P _ 10 34 ls [.int z31] _ _
      refine jx_if (t := 54) rfl rfl rfl (fun hc34 => ?_) (fun hc34 => ?_)
      · have g34 := jc1_eq_t hc34
        refine jn_iincg (x := T) rfl rfl (by decide) (jM_at hl 0 rfl) hl (by decide) (by omega) (by omega) (fun z54 (ez54 : z54.toInt = T.toInt + 1) ls54 (hl54 : jM [(6, .int z54), (4, .long W), (0, .ref (P.1 + 6)), (1, .int s), (2, .int X), (3, .int F)] ls54) => ?_)
        refine az_X_step (pc' := 6) (ls' := ls54) (st' := []) (h' := h) rfl rfl rfl ?_
        have ps : jsu (fun e => if (jst2 a b Y) u (jtm h f e) = true then V (jtm h f e) else 0) (j + 1) = jsu (fun e => if (jst2 a b Y) u (jtm h f e) = true then V (jtm h f e) else 0) j + (if (jst2 a b Y) u (jtm h f j) = true then V (jtm h f j) else 0) := rfl
        rw [ez31] at g34
        unfold jb at g34
        have nf : ¬ (jst2 a b Y) u (jtm h f j) = true := fun e => by
          rw [e] at g34
          exact absurd g34 (by decide)
        exact ih (j + 1) z54 W ls54 (jM_pick hl54 [0, 1, 2, 3, 4, 5] rfl) (by omega) (by omega) (by rw [ps, if_neg nf, Int.add_zero]; exact eW)
      · have g34 := jc1_eq_f hc34
        refine jm_lload (x := W) rfl rfl (jM_at hl 1 rfl) ?_
        refine jm_aload_n (x := P.1 + 6) rfl rfl (jM_at hl 2 rfl) ?_
        refine jx_gf (i := 6) rfl rfl hH (by decide) (hH.2 6 _ rfl).1 rfl (jx_rf hH rfl rfl) ?_
        refine jm_iload_n (x := X) rfl rfl (jM_at hl 4 rfl) ?_
        refine jm_iload_n (x := F) rfl rfl (jM_at hl 5 rfl) ?_
        refine jm_iload (x := T) rfl rfl (jM_at hl 0 rfl) ?_
        refine az_X_call (m' := 7) (as := [.int X, .int F, .int T]) (rest := [.ref (P.1 + 11), .long W]) rfl rfl rfl rfl rfl rfl ?_
        refine (op_ok X F T (by omega) (by omega) (by omega)).mono ?_
        rintro rv47 h47 ⟨q47, z47, rfl, ez47⟩
        subst h47
        show az_X P _ 10 50 ls [.int z47, .ref (P.1 + 11), .long W] _ _
        refine jn_lal (i := 11) (x := z47) rfl rfl hH (by decide) rfl (by omega) (by show _ < ((4608 : Nat) : Int); omega) (fun z50 ez50 => ?_)
        have vj := hV (jtm h f j)
        have el : z50.toInt = V (jtm h f j) := by
          rw [ez50, show z47.toInt = 72 * (M : Int) + 12 * (f : Int) + j by omega]
          exact hrow j (by omega)
        refine jn_ladd (a := W) (b := z50) rfl rfl (by omega) (by omega) (fun z51 ez51 => ?_)
        refine jm_lstore (l' := [(4, .long z51), (6, .int T), (0, .ref (P.1 + 6)), (1, .int s), (2, .int X), (3, .int F)]) rfl rfl (by decide) hl rfl (fun ls52 hl52 => ?_)
        refine jn_iincg (x := T) rfl rfl (by decide) (jM_at hl52 1 rfl) hl52 (by decide) (by omega) (by omega) (fun z54 (ez54 : z54.toInt = T.toInt + 1) ls54 (hl54 : jM [(6, .int z54), (4, .long z51), (0, .ref (P.1 + 6)), (1, .int s), (2, .int X), (3, .int F)] ls54) => ?_)
        refine az_X_step (pc' := 6) (ls' := ls54) (st' := []) (h' := h) rfl rfl rfl ?_
        have ps : jsu (fun e => if (jst2 a b Y) u (jtm h f e) = true then V (jtm h f e) else 0) (j + 1) = jsu (fun e => if (jst2 a b Y) u (jtm h f e) = true then V (jtm h f e) else 0) j + (if (jst2 a b Y) u (jtm h f j) = true then V (jtm h f j) else 0) := rfl
        rw [ez31] at g34
        unfold jb at g34
        have yf : (jst2 a b Y) u (jtm h f j) = true := by
          by_cases e : (jst2 a b Y) u (jtm h f j) = true
          · exact e
          · rw [if_neg e] at g34
            exact absurd rfl g34
        exact ih (j + 1) z54 z51 ls54 (jM_pick hl54 [0, 1, 2, 3, 4, 5] rfl) (by omega) (by omega) (by rw [ps, if_pos yf]; omega)
theorem ob_ok {P : si_P} (hxa : P.2.1 < P.1) {d : Nat} {h : si_H} (hH : az_HI P az_tb h) {m r : Int} {Y n : Nat} {B : Nat → Int} {a b : Int} (cx0 : jCX h m r Y n B a b) (hn6 : n ≤ 6) (s X F : Int32) {u M f : Nat} (es : s.toInt = u) (hu : u < Y) (eX : X.toInt = M) (hM : M < 64) (eF : F.toInt = f) (hf : f < n) {V : Nat → Int} (hV : ∀ t : Nat, 0 ≤ V t ∧ V t ≤ 1934917632) (hrow : ∀ e : Nat, (e : Int) < ja h 8 f → jl h 11 (72 * (M : Int) + 12 * (f : Int) + e) = V (jtm h f e)) : az_X P (d + 3) 10 0 (lv_args 0 [.ref (P.1 + 6), .int s, .int X, .int F]) [] h (fun rv h' => h' = h ∧ ∃ z : Int64, rv = some (.long z) ∧ (0 ≤ z.toInt ∧ z.toInt ≤ 23219011584) ∧ z.toInt = jsu (fun t => if jpA m r n B f t = true then (if (jst2 a b Y) u t = true then V t else 0) else 0) Y) := by
  have cx := cx0
  obtain ⟨c1, c2, c3, c4, c5, c6, c7, c8, c9, c10, c11⟩ := cx
  have li1 := (c11 f hf).1
  have hl : jM [(0, .ref (P.1 + 6)), (1, .int s), (2, .int X), (3, .int F)] (lv_args 0 [.ref (P.1 + 6), .int s, .int X, .int F]) := jM_args [0, 1, 2, 3] rfl (by decide)
  generalize lv_args 0 [.ref (P.1 + 6), .int s, .int X, .int F] = ls at hl
  have k0 : (0 : Int32).toInt = 0 := by decide
  have kl0 : (0 : Int64).toInt = 0 := by decide
  refine az_X_step (pc' := 1) (ls' := ls) (st' := [.long 0]) (h' := h) rfl rfl rfl ?_
  refine jm_lstore (l' := [(4, .long 0), (0, .ref (P.1 + 6)), (1, .int s), (2, .int X), (3, .int F)]) rfl rfl (by decide) hl rfl (fun ls1 hl1 => ?_)
  refine az_X_step (pc' := 4) (ls' := ls1) (st' := [.int 0]) (h' := h) rfl rfl rfl ?_
  refine jm_istoreg (l' := [(6, .int 0), (4, .long 0), (0, .ref (P.1 + 6)), (1, .int s), (2, .int X), (3, .int F)]) rfl rfl (by decide) hl1 rfl (fun ls4 hl4 => ?_)
  exact ob_l hxa hH cx0 hn6 s X F es hu eX hM eF hf hV hrow (ja h 8 f).toNat 0 0 0 ls4 (jM_pick hl4 [0, 1, 2, 3, 4, 5] rfl) (by decide) (by omega) (by show (0 : Int64).toInt = 0; decide)
theorem cf_i {P : si_P} (hxa : P.2.1 < P.1) {d : Nat} {h : si_H} (hH : az_HI P az_tb h) {m r : Int} {Y n : Nat} {B : Nat → Int} {a b : Int} (cx0 : jCX h m r Y n B a b) (hn6 : n ≤ 6) (s C O F X : Int32) {u M : Nat} (es : s.toInt = u) (hu : u < Y) (eO : O.toInt = M) (hM : M < 64) {V : Nat → Nat → Int} (hV : ∀ i t : Nat, 0 ≤ V i t ∧ V i t ≤ 1934917632) (hrow : ∀ i : Nat, i < n → jbt M i = true → ∀ e : Nat, (e : Int) < ja h 8 i → jl h 11 (72 * (M : Int) + 12 * (i : Int) + e) = V i (jtm h i e)) (w0 : Int) (hw : 0 ≤ w0 ∧ w0 ≤ 1) {Q : Option Value → si_H → Prop} (cont : ∀ (W : Int64) (ls : si_L), jM [(6, .long W), (5, .int s), (4, .int C), (3, .int O), (2, .int F), (1, .int X), (0, .ref (P.1 + 6))] ls → W.toInt = w0 + js2 n Y (jbt M) (jpA m r n B) (fun i t => if (jst2 a b Y) u t = true then V i t else 0) → az_X P (d + 4) 9 87 ls [] h Q) : ∀ (k j : Nat) (T : Int32) (W : Int64) (ls : si_L), jM [(8, .int T), (6, .long W), (5, .int s), (4, .int C), (3, .int O), (2, .int F), (1, .int X), (0, .ref (P.1 + 6))] ls → T.toInt = j → j + k = n → W.toInt = w0 + jsu (fun i => jsu (fun t => if (jbt M i && jpA m r n B i t) = true then (if (jst2 a b Y) u t = true then V i t else 0) else 0) Y) j → 0 ≤ W.toInt ∧ W.toInt ≤ 1 + 23219011584 * (j : Int) → az_X P (d + 4) 9 48 ls [] h (Q) := by
  have cx := cx0
  obtain ⟨c1, c2, c3, c4, c5, c6, c7, c8, c9, c10, c11⟩ := cx
  intro k
  induction k with
  | zero =>
    intro j T W ls hl eT hj eW bW
    refine jm_iload (x := T) rfl rfl (jM_at hl 0 rfl) ?_
    refine jm_aload_n (x := P.1 + 6) rfl rfl (jM_at hl 7 rfl) ?_
    refine jn_gf (i := 6) (k := 6) rfl rfl hH (by decide) (hH.2 6 _ rfl).1 rfl rfl (fun z51 (ez51 : z51.toInt = ja h 6 6) (bz51 : 0 ≤ z51.toInt ∧ z51.toInt ≤ 8) => ?_)
    refine jx_ic (t := 87) rfl rfl rfl (fun hc54 => ?_) (fun hc54 => ?_)
    · have g54 := jc2_ge_t hc54
      exact cont W ls (jM_pick hl [1, 2, 3, 4, 5, 6, 7] rfl) (by rw [eW, show j = n by omega]; rfl)
    · have g54 := jc2_ge_f hc54
      exfalso
      omega
  | succ k ih =>
    intro j T W ls hl eT hj eW bW
    have k1 : (1 : Int32).toInt = 1 := by decide
    refine jm_iload (x := T) rfl rfl (jM_at hl 0 rfl) ?_
    refine jm_aload_n (x := P.1 + 6) rfl rfl (jM_at hl 7 rfl) ?_
    refine jn_gf (i := 6) (k := 6) rfl rfl hH (by decide) (hH.2 6 _ rfl).1 rfl rfl (fun z51 (ez51 : z51.toInt = ja h 6 6) (bz51 : 0 ≤ z51.toInt ∧ z51.toInt ≤ 8) => ?_)
    refine jx_ic (t := 87) rfl rfl rfl (fun hc54 => ?_) (fun hc54 => ?_)
    · have g54 := jc2_ge_t hc54
      exfalso
      omega
    · have g54 := jc2_ge_f hc54
      refine jm_iload_n (x := O) rfl rfl (jM_at hl 4 rfl) ?_
      refine jm_iload (x := T) rfl rfl (jM_at hl 0 rfl) ?_
      refine az_X_step (pc' := 61) (ls' := ls) (st' := [.int (O >>> (T &&& 31))]) (h' := h) rfl rfl rfl ?_
      refine az_X_step (pc' := 62) (ls' := ls) (st' := [.int 1, .int (O >>> (T &&& 31))]) (h' := h) rfl rfl rfl ?_
      refine az_X_step (pc' := 63) (ls' := ls) (st' := [.int ((O >>> (T &&& 31)) &&& 1)]) (h' := h) rfl rfl rfl ?_
      refine az_X_step (pc' := 64) (ls' := ls) (st' := [.int 1, .int ((O >>> (T &&& 31)) &&& 1)]) (h' := h) rfl rfl rfl ?_
      have bt := bt_sh (x := O) (c := T) (M := M) (F := j) eO hM eT (by omega)
      refine jx_ic (t := 81) rfl rfl rfl (fun hc64 => ?_) (fun hc64 => ?_)
      · have g64 := jc2_ne_t hc64
        refine jn_iincg (x := T) rfl rfl (by decide) (jM_at hl 0 rfl) hl (by decide) (by omega) (by omega) (fun z81 (ez81 : z81.toInt = T.toInt + 1) ls81 (hl81 : jM [(8, .int z81), (6, .long W), (5, .int s), (4, .int C), (3, .int O), (2, .int F), (1, .int X), (0, .ref (P.1 + 6))] ls81) => ?_)
        refine az_X_step (pc' := 48) (ls' := ls81) (st' := []) (h' := h) rfl rfl rfl ?_
        have ps : jsu (fun i => jsu (fun t => if (jbt M i && jpA m r n B i t) = true then (if (jst2 a b Y) u t = true then V i t else 0) else 0) Y) (j + 1) = jsu (fun i => jsu (fun t => if (jbt M i && jpA m r n B i t) = true then (if (jst2 a b Y) u t = true then V i t else 0) else 0) Y) j + jsu (fun t => if (jbt M j && jpA m r n B j t) = true then (if (jst2 a b Y) u t = true then V j t else 0) else 0) Y := rfl
        have nb : ¬ jbt M j = true := fun e => by
          rw [if_pos e] at bt
          omega
        exact ih (j + 1) z81 W ls81 (jM_pick hl81 [0, 1, 2, 3, 4, 5, 6, 7] rfl) (by omega) (by omega) (by rw [ps, js_no nb, Int.add_zero]; exact eW) (by omega)
      · have g64 := jc2_ne_f hc64
        have yb : jbt M j = true := by
          by_cases e : jbt M j = true
          · exact e
          · rw [if_neg e] at bt
            omega
        refine jm_lload (x := W) rfl rfl (jM_at hl 1 rfl) ?_
        refine jm_aload_n (x := P.1 + 6) rfl rfl (jM_at hl 7 rfl) ?_
        refine jm_iload (x := s) rfl rfl (jM_at hl 2 rfl) ?_
        refine jm_iload_n (x := O) rfl rfl (jM_at hl 4 rfl) ?_
        refine jm_iload (x := T) rfl rfl (jM_at hl 0 rfl) ?_
        refine az_X_call (m' := 10) (as := [.ref (P.1 + 6), .int s, .int O, .int T]) (rest := [.long W]) rfl rfl rfl rfl rfl ?_ ?_
        · unfold si_call
          dsimp only
          rw [if_pos ⟨rfl, rfl⟩]
          show (match si_ix P h (P.1 + 6) with | some i => _ | none => none) = _
          rw [jix hH (by decide)]
          dsimp only
          rw [(hH.2 6 _ rfl).1]
          rfl
        refine (ob_ok (d := d) hxa hH cx0 hn6 s O T (u := u) (M := M) (f := j) es hu eO hM eT (by omega) (V := V j) (hV j) (hrow j (by omega) yb)).mono ?_
        rintro rv75 h75 ⟨q75, z75, rfl, ez75⟩
        subst h75
        show az_X P _ 9 78 ls [.long z75, .long W] _ _
        refine jn_ladd (a := W) (b := z75) rfl rfl (by omega) (by omega) (fun z78 ez78 => ?_)
        refine jm_lstore (l' := [(6, .long z78), (8, .int T), (5, .int s), (4, .int C), (3, .int O), (2, .int F), (1, .int X), (0, .ref (P.1 + 6))]) rfl rfl (by decide) hl rfl (fun ls79 hl79 => ?_)
        refine jn_iincg (x := T) rfl rfl (by decide) (jM_at hl79 1 rfl) hl79 (by decide) (by omega) (by omega) (fun z81 (ez81 : z81.toInt = T.toInt + 1) ls81 (hl81 : jM [(8, .int z81), (6, .long z78), (5, .int s), (4, .int C), (3, .int O), (2, .int F), (1, .int X), (0, .ref (P.1 + 6))] ls81) => ?_)
        refine az_X_step (pc' := 48) (ls' := ls81) (st' := []) (h' := h) rfl rfl rfl ?_
        have ps : jsu (fun i => jsu (fun t => if (jbt M i && jpA m r n B i t) = true then (if (jst2 a b Y) u t = true then V i t else 0) else 0) Y) (j + 1) = jsu (fun i => jsu (fun t => if (jbt M i && jpA m r n B i t) = true then (if (jst2 a b Y) u t = true then V i t else 0) else 0) Y) j + jsu (fun t => if (jbt M j && jpA m r n B j t) = true then (if (jst2 a b Y) u t = true then V j t else 0) else 0) Y := rfl
        exact ih (j + 1) z81 z78 ls81 (jM_pick hl81 [0, 1, 2, 3, 4, 5, 6, 7] rfl) (by omega) (by omega) (by rw [ps, js_yes yb]; omega) (by omega)
theorem cf_c {P : si_P} (hxa : P.2.1 < P.1) {d : Nat} {h0 : si_H} {m r : Int} {Y n : Nat} {B : Nat → Int} {a b : Int} (cx0 : jCX h0 m r Y n B a b) (hn6 : n ≤ 6) (X F O : Int32) {M f N : Nat} (eX : X.toInt = M) (hM : M < 64) (eF : F.toInt = f) (hf : f < n) (hN : jLE M f N) (eO : O.toInt = N) (hrow : ∀ i : Nat, i < n → jbt N i = true → ∀ e : Nat, (e : Int) < ja h0 8 i → jl h0 11 (72 * (N : Int) + 12 * (i : Int) + e) = jGo n Y (jpA m r n B) (jst2 a b Y) (jpc N - 1) (jbt N) i (jtm h0 i e)) : ∀ (k j : Nat) (C : Int32) (h : si_H) (ls : si_L), jM [(4, .int C), (3, .int O), (2, .int F), (1, .int X), (0, .ref (P.1 + 6))] ls → az_HI P az_tb h → az_same_out [(11, 1000000)] h0 h → C.toInt = j → (j : Int) + k = ja h0 8 f → (∀ e : Nat, (e : Int) < j → jl h 11 (72 * (M : Int) + 12 * (f : Int) + e) = jGo n Y (jpA m r n B) (jst2 a b Y) (jpc M - 1) (jbt M) f (jtm h0 f e)) → (∀ x : Int, 0 ≤ x → (x < 72 * (M : Int) + 12 * (f : Int) ∨ 72 * (M : Int) + 12 * (f : Int) + 12 ≤ x) → jl h 11 x = jl h0 11 x) → az_X P (d + 5) 9 9 ls [] h (fun rv h' => rv = none ∧ az_HI P az_tb h' ∧ az_same_out [(11, 1000000)] h0 h' ∧ (∀ e : Nat, (e : Int) < ja h0 8 f → jl h' 11 (72 * (M : Int) + 12 * (f : Int) + e) = jGo n Y (jpA m r n B) (jst2 a b Y) (jpc M - 1) (jbt M) f (jtm h0 f e)) ∧ (∀ x : Int, 0 ≤ x → (x < 72 * (M : Int) + 12 * (f : Int) ∨ 72 * (M : Int) + 12 * (f : Int) + 12 ≤ x) → jl h' 11 x = jl h0 11 x)) := by
  have cx := cx0
  obtain ⟨c1, c2, c3, c4, c5, c6, c7, c8, c9, c10, c11⟩ := cx
  have li := c11 f hf
  have li1 := li.1
  have li2 := li.2.1
  have hN1 := hN.1
  intro k
  induction k with
  | zero =>
    intro j C h ls hl hH hs eC hj hd ho
    have cxh : jCX h m r Y n B a b := jCX_so hs (by decide) (by decide) (by decide) (by decide) cx0
    have r8 : ∀ x : Int, ja h 8 x = ja h0 8 x := fun x => jso_row hs (by decide) x
    have jt : ∀ u v : Nat, jtm h u v = jtm h0 u v := fun u v => jtm_cg hs (by decide) u v
    refine jm_iload (x := C) rfl rfl (jM_at hl 0 rfl) ?_
    refine jm_aload_n (x := P.1 + 6) rfl rfl (jM_at hl 4 rfl) ?_
    refine jx_gf (i := 6) rfl rfl hH (by decide) (hH.2 6 _ rfl).1 rfl (jx_rf hH rfl rfl) ?_
    refine jm_iload_n (x := F) rfl rfl (jM_at hl 2 rfl) ?_
    refine jx_ial (i := 8) (x := F) rfl rfl hxa hH (by decide) rfl (by omega) (by show _ < ((8 : Nat) : Int); omega) (fun z16 ez16 bz16 => ?_)
    have e8 : ja h 8 F.toInt = ja h0 8 f := by rw [r8, eF]
    refine jx_ic (t := 107) rfl rfl rfl (fun hc17 => ?_) (fun hc17 => ?_)
    · have g17 := jc2_ge_t hc17
      refine jn_retv rfl rfl rfl ?_
      exact ⟨rfl, hH, hs, fun e he => hd e (by omega), ho⟩
    · have g17 := jc2_ge_f hc17
      exfalso
      omega
  | succ k ih =>
    intro j C h ls hl hH hs eC hj hd ho
    have cxh : jCX h m r Y n B a b := jCX_so hs (by decide) (by decide) (by decide) (by decide) cx0
    have r8 : ∀ x : Int, ja h 8 x = ja h0 8 x := fun x => jso_row hs (by decide) x
    have jt : ∀ u v : Nat, jtm h u v = jtm h0 u v := fun u v => jtm_cg hs (by decide) u v
    have tc := jtm_ok cx0 hf (c := j) (by omega)
    have k0 : (0 : Int32).toInt = 0 := by decide
    have k12 : (12 : Int32).toInt = 12 := by decide
    have kl0 : (0 : Int64).toInt = 0 := by decide
    have kl1 : (1 : Int64).toInt = 1 := by decide
    refine jm_iload (x := C) rfl rfl (jM_at hl 0 rfl) ?_
    refine jm_aload_n (x := P.1 + 6) rfl rfl (jM_at hl 4 rfl) ?_
    refine jx_gf (i := 6) rfl rfl hH (by decide) (hH.2 6 _ rfl).1 rfl (jx_rf hH rfl rfl) ?_
    refine jm_iload_n (x := F) rfl rfl (jM_at hl 2 rfl) ?_
    refine jx_ial (i := 8) (x := F) rfl rfl hxa hH (by decide) rfl (by omega) (by show _ < ((8 : Nat) : Int); omega) (fun z16 ez16 bz16 => ?_)
    have e8 : ja h 8 F.toInt = ja h0 8 f := by rw [r8, eF]
    refine jx_ic (t := 107) rfl rfl rfl (fun hc17 => ?_) (fun hc17 => ?_)
    · have g17 := jc2_ge_t hc17
      refine jn_retv rfl rfl rfl ?_
      exfalso
      omega
    · have g17 := jc2_ge_f hc17
      refine jm_aload_n (x := P.1 + 6) rfl rfl (jM_at hl 4 rfl) ?_
      refine jx_gf (i := 6) rfl rfl hH (by decide) (hH.2 6 _ rfl).1 rfl (jx_rf hH rfl rfl) ?_
      refine jm_iload_n (x := F) rfl rfl (jM_at hl 2 rfl) ?_
      refine az_X_step (pc' := 27) (ls' := ls) (st' := [.int 12, .int F, .ref (P.1 + 7)]) (h' := h) rfl rfl rfl ?_
      refine jn_mul (a := F) (b := 12) rfl rfl (by rw [show (12 : Int32).toInt = 12 by decide]; omega) (by rw [show (12 : Int32).toInt = 12 by decide]; omega) (fun z27 ez27 => ?_)
      rw [show (12 : Int32).toInt = 12 by decide] at ez27
      refine jm_iload (x := C) rfl rfl (jM_at hl 0 rfl) ?_
      refine jn_add (a := z27) (b := C) rfl rfl (by omega) (by omega) (fun z30 ez30 => ?_)
      refine jx_ial (i := 7) (x := z30) rfl rfl hxa hH (by decide) rfl (by omega) (by show _ < ((96 : Nat) : Int); omega) (fun z31 ez31 bz31 => ?_)
      refine jm_istore (l' := [(5, .int z31), (4, .int C), (3, .int O), (2, .int F), (1, .int X), (0, .ref (P.1 + 6))]) rfl rfl (by decide) hl rfl rfl (fun ls32 hl32 => ?_)
      refine jm_iload_n (x := O) rfl rfl (jM_at hl32 2 rfl) ?_
      refine jx_if (t := 42) rfl rfl rfl (fun hc35 => ?_) (fun hc35 => ?_)
      · have g35 := jc1_ne_t hc35
        refine az_X_step (pc' := 43) (ls' := ls32) (st' := [.long 0]) (h' := h) rfl rfl rfl ?_
        refine jm_lstore (l' := [(6, .long 0), (5, .int z31), (4, .int C), (3, .int O), (2, .int F), (1, .int X), (0, .ref (P.1 + 6))]) rfl rfl (by decide) hl32 rfl (fun ls43 hl43 => ?_)
        refine az_X_step (pc' := 46) (ls' := ls43) (st' := [.int 0]) (h' := h) rfl rfl rfl ?_
        refine jm_istoreg (l' := [(8, .int 0), (6, .long 0), (5, .int z31), (4, .int C), (3, .int O), (2, .int F), (1, .int X), (0, .ref (P.1 + 6))]) rfl rfl (by decide) hl43 rfl (fun ls46 hl46 => ?_)
        have e31 : z31.toInt = (jtm h0 f j : Nat) := by
          rw [ez31, show z30.toInt = 12 * (f : Int) + j by omega, jso_row (i := 7) hs (by decide)]
          exact tc.1
        refine cf_i (d := d + 1) hxa hH cxh hn6 z31 C O F X (u := jtm h0 f j) (M := N) e31 tc.2.1 eO (by omega) (V := fun i t => jGo n Y (jpA m r n B) (jst2 a b Y) (jpc N - 1) (jbt N) i t) (fun i t => jGo_cap hn6 (jpA_12 cx0) (by omega) _ i t) (fun i hi hb e he => ?_) 0 (by omega) (fun W ls1 hl1 eW => ?_) n 0 0 0 ls46 (jM_pick hl46 [0, 1, 2, 3, 4, 5, 6, 7] rfl) (by decide) (by omega) (by show (0 : Int64).toInt = 0 + 0; decide) (by omega)
        · rw [r8] at he
          have l2 := (c11 i hi).2.1
          rw [ho _ (by omega) (by omega), jt]
          exact hrow i hi hb e he
        · have eW2 : W.toInt = jGo n Y (jpA m r n B) (jst2 a b Y) (jpc M - 1) (jbt M) f (jtm h0 f j) := eW.trans (jGo_N hN (by omega) (jtm h0 f j)).symm
          refine jm_aload_n (x := P.1 + 6) rfl rfl (jM_at hl1 6 rfl) ?_
          refine jx_gf (i := 6) rfl rfl hH (by decide) (hH.2 6 _ rfl).1 rfl (jx_rf hH rfl rfl) ?_
          refine jm_iload_n (x := X) rfl rfl (jM_at hl1 5 rfl) ?_
          refine jm_iload_n (x := F) rfl rfl (jM_at hl1 4 rfl) ?_
          refine jm_iload (x := C) rfl rfl (jM_at hl1 2 rfl) ?_
          refine az_X_call (m' := 7) (as := [.int X, .int F, .int C]) (rest := [.ref (P.1 + 11)]) rfl rfl rfl rfl rfl rfl ?_
          refine (op_ok X F C (by omega) (by omega) (by omega)).mono ?_
          rintro rv95 h95 ⟨q95, z95, rfl, ez95⟩
          subst h95
          show az_X P _ 9 98 ls1 [.int z95, .ref (P.1 + 11)] _ _
          refine jm_lload (x := W) rfl rfl (jM_at hl1 0 rfl) ?_
          refine jn_las (i := 11) (x := z95) (v := W) rfl rfl hH (by decide) rfl (by omega) (by show _ < ((4608 : Nat) : Int); omega) (fun h100 hH100 hs100 t100 u100 => ?_)
          refine jn_iincg (x := C) rfl rfl (by decide) (jM_at hl1 2 rfl) hl1 (by decide) (by omega) (by omega) (fun z101 (ez101 : z101.toInt = C.toInt + 1) ls101 (hl101 : jM [(4, .int z101), (6, .long W), (5, .int z31), (3, .int O), (2, .int F), (1, .int X), (0, .ref (P.1 + 6))] ls101) => ?_)
          refine az_X_step (pc' := 9) (ls' := ls101) (st' := []) (h' := h100) rfl rfl rfl ?_
          refine ih (j + 1) z101 h100 ls101 (jM_pick hl101 [0, 3, 4, 5, 6] rfl) hH100 (hs.tr hs100) (by omega) (by omega) (fun e he => ?_) (fun x x0 x1 => ?_)
          · rcases Nat.lt_or_ge e j with q | q
            · rw [u100 _ (by omega) (by omega)]
              exact hd e (by omega)
            · have ee : e = j := by omega
              subst ee
              rw [show 72 * (M : Int) + 12 * (f : Int) + (e : Int) = z95.toInt by omega, t100]
              exact eW2
          · rw [u100 x x0 (by omega)]
            exact ho x x0 x1
      · have g35 := jc1_ne_f hc35
        refine az_X_step (pc' := 39) (ls' := ls32) (st' := [.long 1]) (h' := h) rfl rfl rfl ?_
        refine az_X_step (pc' := 43) (ls' := ls32) (st' := [.long 1]) (h' := h) rfl rfl rfl ?_
        refine jm_lstore (l' := [(6, .long 1), (5, .int z31), (4, .int C), (3, .int O), (2, .int F), (1, .int X), (0, .ref (P.1 + 6))]) rfl rfl (by decide) hl32 rfl (fun ls43 hl43 => ?_)
        refine az_X_step (pc' := 46) (ls' := ls43) (st' := [.int 0]) (h' := h) rfl rfl rfl ?_
        refine jm_istoreg (l' := [(8, .int 0), (6, .long 1), (5, .int z31), (4, .int C), (3, .int O), (2, .int F), (1, .int X), (0, .ref (P.1 + 6))]) rfl rfl (by decide) hl43 rfl (fun ls46 hl46 => ?_)
        have e31 : z31.toInt = (jtm h0 f j : Nat) := by
          rw [ez31, show z30.toInt = 12 * (f : Int) + j by omega, jso_row (i := 7) hs (by decide)]
          exact tc.1
        refine cf_i (d := d + 1) hxa hH cxh hn6 z31 C O F X (u := jtm h0 f j) (M := N) e31 tc.2.1 eO (by omega) (V := fun i t => jGo n Y (jpA m r n B) (jst2 a b Y) (jpc N - 1) (jbt N) i t) (fun i t => jGo_cap hn6 (jpA_12 cx0) (by omega) _ i t) (fun i hi hb e he => ?_) 1 (by omega) (fun W ls1 hl1 eW => ?_) n 0 0 1 ls46 (jM_pick hl46 [0, 1, 2, 3, 4, 5, 6, 7] rfl) (by decide) (by omega) (by show (1 : Int64).toInt = 1 + 0; decide) (by omega)
        · rw [r8] at he
          have l2 := (c11 i hi).2.1
          rw [ho _ (by omega) (by omega), jt]
          exact hrow i hi hb e he
        · have eW2 : W.toInt = jGo n Y (jpA m r n B) (jst2 a b Y) (jpc M - 1) (jbt M) f (jtm h0 f j) := eW.trans (jGo_Z hN (by omega) (fun i t => if (jst2 a b Y) (jtm h0 f j) t = true then jGo n Y (jpA m r n B) (jst2 a b Y) (jpc N - 1) (jbt N) i t else 0) (jtm h0 f j)).symm
          refine jm_aload_n (x := P.1 + 6) rfl rfl (jM_at hl1 6 rfl) ?_
          refine jx_gf (i := 6) rfl rfl hH (by decide) (hH.2 6 _ rfl).1 rfl (jx_rf hH rfl rfl) ?_
          refine jm_iload_n (x := X) rfl rfl (jM_at hl1 5 rfl) ?_
          refine jm_iload_n (x := F) rfl rfl (jM_at hl1 4 rfl) ?_
          refine jm_iload (x := C) rfl rfl (jM_at hl1 2 rfl) ?_
          refine az_X_call (m' := 7) (as := [.int X, .int F, .int C]) (rest := [.ref (P.1 + 11)]) rfl rfl rfl rfl rfl rfl ?_
          refine (op_ok X F C (by omega) (by omega) (by omega)).mono ?_
          rintro rv95 h95 ⟨q95, z95, rfl, ez95⟩
          subst h95
          show az_X P _ 9 98 ls1 [.int z95, .ref (P.1 + 11)] _ _
          refine jm_lload (x := W) rfl rfl (jM_at hl1 0 rfl) ?_
          refine jn_las (i := 11) (x := z95) (v := W) rfl rfl hH (by decide) rfl (by omega) (by show _ < ((4608 : Nat) : Int); omega) (fun h100 hH100 hs100 t100 u100 => ?_)
          refine jn_iincg (x := C) rfl rfl (by decide) (jM_at hl1 2 rfl) hl1 (by decide) (by omega) (by omega) (fun z101 (ez101 : z101.toInt = C.toInt + 1) ls101 (hl101 : jM [(4, .int z101), (6, .long W), (5, .int z31), (3, .int O), (2, .int F), (1, .int X), (0, .ref (P.1 + 6))] ls101) => ?_)
          refine az_X_step (pc' := 9) (ls' := ls101) (st' := []) (h' := h100) rfl rfl rfl ?_
          refine ih (j + 1) z101 h100 ls101 (jM_pick hl101 [0, 3, 4, 5, 6] rfl) hH100 (hs.tr hs100) (by omega) (by omega) (fun e he => ?_) (fun x x0 x1 => ?_)
          · rcases Nat.lt_or_ge e j with q | q
            · rw [u100 _ (by omega) (by omega)]
              exact hd e (by omega)
            · have ee : e = j := by omega
              subst ee
              rw [show 72 * (M : Int) + 12 * (f : Int) + (e : Int) = z95.toInt by omega, t100]
              exact eW2
          · rw [u100 x x0 (by omega)]
            exact ho x x0 x1
theorem cof_ok {P : si_P} (hxa : P.2.1 < P.1) {d : Nat} {h : si_H} (hH : az_HI P az_tb h) {m r : Int} {Y n : Nat} {B : Nat → Int} {a b : Int} (cx0 : jCX h m r Y n B a b) (hn6 : n ≤ 6) (X F : Int32) {M f N : Nat} (eX : X.toInt = M) (hM : M < 64) (eF : F.toInt = f) (hf : f < n) (hb : jbt M f = true) (eN : N = M - 2 ^ f) (hrow : ∀ i : Nat, i < n → jbt N i = true → ∀ e : Nat, (e : Int) < ja h 8 i → jl h 11 (72 * (N : Int) + 12 * (i : Int) + e) = jGo n Y (jpA m r n B) (jst2 a b Y) (jpc N - 1) (jbt N) i (jtm h i e)) : az_X P (d + 5) 9 0 (lv_args 0 [.ref (P.1 + 6), .int X, .int F]) [] h (fun rv h' => rv = none ∧ az_HI P az_tb h' ∧ az_same_out [(11, 1000000)] h h' ∧ (∀ e : Nat, (e : Int) < ja h 8 f → jl h' 11 (72 * (M : Int) + 12 * (f : Int) + e) = jGo n Y (jpA m r n B) (jst2 a b Y) (jpc M - 1) (jbt M) f (jtm h f e)) ∧ (∀ x : Int, 0 ≤ x → (x < 72 * (M : Int) + 12 * (f : Int) ∨ 72 * (M : Int) + 12 * (f : Int) + 12 ≤ x) → jl h' 11 x = jl h 11 x)) := by
  have cx := cx0
  obtain ⟨c1, c2, c3, c4, c5, c6, c7, c8, c9, c10, c11⟩ := cx
  have li1 := (c11 f hf).1
  have hN : jLE M f N := by
    rw [eN]
    exact jLE_mk hM (by omega) hb
  have hl : jM [(0, .ref (P.1 + 6)), (1, .int X), (2, .int F)] (lv_args 0 [.ref (P.1 + 6), .int X, .int F]) := jM_args [0, 1, 2] rfl (by decide)
  generalize lv_args 0 [.ref (P.1 + 6), .int X, .int F] = ls at hl
  have k0 : (0 : Int32).toInt = 0 := by decide
  have k1 : (1 : Int32).toInt = 1 := by decide
  refine jm_iload_n (x := X) rfl rfl (jM_at hl 1 rfl) ?_
  refine az_X_step (pc' := 2) (ls' := ls) (st' := [.int 1, .int X]) (h' := h) rfl rfl rfl ?_
  refine jm_iload_n (x := F) rfl rfl (jM_at hl 2 rfl) ?_
  refine az_X_step (pc' := 4) (ls' := ls) (st' := [.int (1 <<< (F &&& 31)), .int X]) (h' := h) rfl rfl rfl ?_
  refine az_X_step (pc' := 5) (ls' := ls) (st' := [.int (X ^^^ (1 <<< (F &&& 31)))]) (h' := h) rfl rfl rfl ?_
  refine jm_istore_n (l' := [(3, .int (X ^^^ (1 <<< (F &&& 31)))), (0, .ref (P.1 + 6)), (1, .int X), (2, .int F)]) rfl rfl (by decide) hl rfl rfl (fun ls5 hl5 => ?_)
  refine az_X_step (pc' := 7) (ls' := ls5) (st' := [.int 0]) (h' := h) rfl rfl rfl ?_
  refine jm_istore (l' := [(4, .int 0), (3, .int (X ^^^ (1 <<< (F &&& 31)))), (0, .ref (P.1 + 6)), (1, .int X), (2, .int F)]) rfl rfl (by decide) hl5 rfl rfl (fun ls7 hl7 => ?_)
  exact cf_c (d := d) hxa (h0 := h) cx0 hn6 X F (X ^^^ (1 <<< (F &&& 31))) eX hM eF hf hN (by rw [eN]; exact bt_xor eX hM eF (by omega) hb) hrow (ja h 8 f).toNat 0 0 h ls7 (jM_pick hl7 [0, 1, 4, 3, 2] rfl) hH az_same_out.rf (by decide) (by omega) (fun e he => absurd he (by omega)) (fun _ _ _ => rfl)
theorem co_f {P : si_P} (hxa : P.2.1 < P.1) {d : Nat} {h0 : si_H} {m r : Int} {Y n : Nat} {B : Nat → Int} {a b : Int} (cx0 : jCX h0 m r Y n B a b) (hn6 : n ≤ 6) (X : Int32) {K : Nat} (eX : X.toInt = K) (hK1 : 1 ≤ K) (hK : K < 64) {Q : Option Value → si_H → Prop} (cont : ∀ (h : si_H) (ls : si_L), jM [(1, .int X), (0, .ref (P.1 + 6))] ls → az_HI P az_tb h → az_same_out [(11, 1000000)] h0 h → (∀ M i : Nat, 1 ≤ M → i < n → jbt M i = true → M < K + 1 → ∀ e : Nat, (e : Int) < ja h0 8 i → jl h 11 (72 * (M : Int) + 12 * (i : Int) + e) = jGo n Y (jpA m r n B) (jst2 a b Y) (jpc M - 1) (jbt M) i (jtm h0 i e)) → az_X P (d + 6) 8 56 ls [] h Q) : ∀ (k j : Nat) (T : Int32) (h : si_H) (ls : si_L), jM [(2, .int T), (1, .int X), (0, .ref (P.1 + 6))] ls → az_HI P az_tb h → az_same_out [(11, 1000000)] h0 h → T.toInt = j → j + k = n → (∀ M i : Nat, 1 ≤ M → i < n → jbt M i = true → (M < K ∨ (M = K ∧ i < j)) → ∀ e : Nat, (e : Int) < ja h0 8 i → jl h 11 (72 * (M : Int) + 12 * (i : Int) + e) = jGo n Y (jpA m r n B) (jst2 a b Y) (jpc M - 1) (jbt M) i (jtm h0 i e)) → az_X P (d + 6) 8 27 ls [] h (Q) := by
  have cx := cx0
  obtain ⟨c1, c2, c3, c4, c5, c6, c7, c8, c9, c10, c11⟩ := cx
  intro k
  induction k with
  | zero =>
    intro j T h ls hl hH hs eT hj hd
    have cxh : jCX h m r Y n B a b := jCX_so hs (by decide) (by decide) (by decide) (by decide) cx0
    have r8 : ∀ x : Int, ja h 8 x = ja h0 8 x := fun x => jso_row hs (by decide) x
    have jt : ∀ u v : Nat, jtm h u v = jtm h0 u v := fun u v => jtm_cg hs (by decide) u v
    have r66 : ja h 6 6 = n := cxh.2.2.2.2.2.1
    refine jm_iload_n (x := T) rfl rfl (jM_at hl 0 rfl) ?_
    refine jm_aload_n (x := P.1 + 6) rfl rfl (jM_at hl 2 rfl) ?_
    refine jn_gf (i := 6) (k := 6) rfl rfl hH (by decide) (hH.2 6 _ rfl).1 rfl rfl (fun z29 (ez29 : z29.toInt = ja h 6 6) (bz29 : 0 ≤ z29.toInt ∧ z29.toInt ≤ 8) => ?_)
    refine jx_ic (t := 56) rfl rfl rfl (fun hc32 => ?_) (fun hc32 => ?_)
    · have g32 := jc2_ge_t hc32
      exact cont h ls (jM_pick hl [1, 2] rfl) hH hs (fun M i m1 i1 b1 c1 e he => hd M i m1 i1 b1 (by omega) e he)
    · have g32 := jc2_ge_f hc32
      exfalso
      omega
  | succ k ih =>
    intro j T h ls hl hH hs eT hj hd
    have cxh : jCX h m r Y n B a b := jCX_so hs (by decide) (by decide) (by decide) (by decide) cx0
    have r8 : ∀ x : Int, ja h 8 x = ja h0 8 x := fun x => jso_row hs (by decide) x
    have jt : ∀ u v : Nat, jtm h u v = jtm h0 u v := fun u v => jtm_cg hs (by decide) u v
    have r66 : ja h 6 6 = n := cxh.2.2.2.2.2.1
    have k1 : (1 : Int32).toInt = 1 := by decide
    refine jm_iload_n (x := T) rfl rfl (jM_at hl 0 rfl) ?_
    refine jm_aload_n (x := P.1 + 6) rfl rfl (jM_at hl 2 rfl) ?_
    refine jn_gf (i := 6) (k := 6) rfl rfl hH (by decide) (hH.2 6 _ rfl).1 rfl rfl (fun z29 (ez29 : z29.toInt = ja h 6 6) (bz29 : 0 ≤ z29.toInt ∧ z29.toInt ≤ 8) => ?_)
    refine jx_ic (t := 56) rfl rfl rfl (fun hc32 => ?_) (fun hc32 => ?_)
    · have g32 := jc2_ge_t hc32
      exfalso
      omega
    · have g32 := jc2_ge_f hc32
      refine jm_iload_n (x := X) rfl rfl (jM_at hl 1 rfl) ?_
      refine jm_iload_n (x := T) rfl rfl (jM_at hl 0 rfl) ?_
      refine az_X_step (pc' := 38) (ls' := ls) (st' := [.int (X >>> (T &&& 31))]) (h' := h) rfl rfl rfl ?_
      refine az_X_step (pc' := 39) (ls' := ls) (st' := [.int 1, .int (X >>> (T &&& 31))]) (h' := h) rfl rfl rfl ?_
      refine az_X_step (pc' := 40) (ls' := ls) (st' := [.int ((X >>> (T &&& 31)) &&& 1)]) (h' := h) rfl rfl rfl ?_
      refine az_X_step (pc' := 41) (ls' := ls) (st' := [.int 1, .int ((X >>> (T &&& 31)) &&& 1)]) (h' := h) rfl rfl rfl ?_
      have bt := bt_sh (x := X) (c := T) (M := K) (F := j) eX hK eT (by omega)
      refine jx_ic (t := 50) rfl rfl rfl (fun hc41 => ?_) (fun hc41 => ?_)
      · have g41 := jc2_ne_t hc41
        refine jn_iinc (x := T) rfl rfl (by decide) (jM_at hl 0 rfl) hl rfl (by decide) (by omega) (by omega) (fun z50 (ez50 : z50.toInt = T.toInt + 1) ls50 (hl50 : jM [(2, .int z50), (1, .int X), (0, .ref (P.1 + 6))] ls50) => ?_)
        refine az_X_step (pc' := 27) (ls' := ls50) (st' := []) (h' := h) rfl rfl rfl ?_
        have nb : ¬ jbt K j = true := fun e => by
          rw [if_pos e] at bt
          omega
        refine ih (j + 1) z50 h ls50 (jM_pick hl50 [0, 1, 2] rfl) hH hs (by omega) (by omega) (fun M i m1 i1 b1 c1 e he => hd M i m1 i1 b1 ?_ e he)
        rcases c1 with c | ⟨c, c2⟩
        · exact Or.inl c
        · refine Or.inr ⟨c, ?_⟩
          by_cases e2 : i = j
          · subst e2
            subst c
            exact absurd b1 nb
          · omega
      · have g41 := jc2_ne_f hc41
        have yb : jbt K j = true := by
          by_cases e : jbt K j = true
          · exact e
          · rw [if_neg e] at bt
            omega
        refine jm_aload_n (x := P.1 + 6) rfl rfl (jM_at hl 2 rfl) ?_
        refine jm_iload_n (x := X) rfl rfl (jM_at hl 1 rfl) ?_
        refine jm_iload_n (x := T) rfl rfl (jM_at hl 0 rfl) ?_
        refine az_X_call (m' := 9) (as := [.ref (P.1 + 6), .int X, .int T]) (rest := []) rfl rfl rfl rfl rfl ?_ ?_
        · unfold si_call
          dsimp only
          rw [if_pos ⟨rfl, rfl⟩]
          show (match si_ix P h (P.1 + 6) with | some i => _ | none => none) = _
          rw [jix hH (by decide)]
          dsimp only
          rw [(hH.2 6 _ rfl).1]
          rfl
        refine (cof_ok (d := d) hxa hH cxh hn6 X T (M := K) (f := j) (N := K - 2 ^ j) eX hK eT (by omega) yb rfl (fun i hi hb e he => by
          have l := jLE_mk hK (by omega) yb
          have l1 := l.1
          have nz : K - 2 ^ j ≠ 0 := fun e => by
            rw [e] at hb
            exact jbt_0 i hb
          rw [r8] at he
          rw [jt]
          exact hd (K - 2 ^ j) i (by omega) hi hb (Or.inl (by omega)) e he)).mono ?_
        rintro rv47 h47 ⟨rfl, hH47, hs47, f47⟩
        show az_X P _ 8 50 ls [] _ _
        refine jn_iinc (x := T) rfl rfl (by decide) (jM_at hl 0 rfl) hl rfl (by decide) (by omega) (by omega) (fun z50 (ez50 : z50.toInt = T.toInt + 1) ls50 (hl50 : jM [(2, .int z50), (1, .int X), (0, .ref (P.1 + 6))] ls50) => ?_)
        refine az_X_step (pc' := 27) (ls' := ls50) (st' := []) (h' := h47) rfl rfl rfl ?_
        refine ih (j + 1) z50 h47 ls50 (jM_pick hl50 [0, 1, 2] rfl) hH47 (hs.tr hs47) (by omega) (by omega) (fun M i m1 i1 b1 c1 e he => ?_)
        have l2 := (c11 i i1).2.1
        by_cases q : M = K ∧ i = j
        · obtain ⟨q1, q2⟩ := q
          subst q1
          subst q2
          have f := f47.1 e (by rw [r8]; exact he)
          rw [jt] at f
          exact f
        · rw [f47.2 _ (by omega) (by omega)]
          exact hd M i m1 i1 b1 (by omega) e he
theorem co_x {P : si_P} (hxa : P.2.1 < P.1) {d : Nat} {h0 : si_H} {m r : Int} {Y n : Nat} {B : Nat → Int} {a b : Int} (cx0 : jCX h0 m r Y n B a b) (hn6 : n ≤ 6) {Z : Nat} (eZ : Z = 2 ^ n) : ∀ (k j : Nat) (X : Int32) (h : si_H) (ls : si_L), jM [(1, .int X), (0, .ref (P.1 + 6))] ls → az_HI P az_tb h → az_same_out [(11, 1000000)] h0 h → X.toInt = j → 1 ≤ j → j + k = Z → (∀ M i : Nat, 1 ≤ M → i < n → jbt M i = true → M < j → ∀ e : Nat, (e : Int) < ja h0 8 i → jl h 11 (72 * (M : Int) + 12 * (i : Int) + e) = jGo n Y (jpA m r n B) (jst2 a b Y) (jpc M - 1) (jbt M) i (jtm h0 i e)) → az_X P (d + 6) 8 15 ls [] h (fun rv h' => rv = none ∧ az_HI P az_tb h' ∧ az_same_out [(11, 1000000)] h0 h' ∧ (∀ M i : Nat, 1 ≤ M → i < n → jbt M i = true → M < Z → ∀ e : Nat, (e : Int) < ja h0 8 i → jl h' 11 (72 * (M : Int) + 12 * (i : Int) + e) = jGo n Y (jpA m r n B) (jst2 a b Y) (jpc M - 1) (jbt M) i (jtm h0 i e))) := by
  have cx := cx0
  obtain ⟨c1, c2, c3, c4, c5, c6, c7, c8, c9, c10, c11⟩ := cx
  obtain ⟨zf1, zf2, -, -⟩ := jfl (n := n) (by omega) hn6 eZ
  intro k
  induction k with
  | zero =>
    intro j X h ls hl hH hs eX j1 hj hd
    have r66 : ja h 6 6 = n := (jso hs (by decide)).trans c6
    have k1 : (1 : Int32).toInt = 1 := by decide
    refine jm_iload_n (x := X) rfl rfl (jM_at hl 0 rfl) ?_
    refine az_X_step (pc' := 17) (ls' := ls) (st' := [.int 1, .int X]) (h' := h) rfl rfl rfl ?_
    refine jm_aload_n (x := P.1 + 6) rfl rfl (jM_at hl 1 rfl) ?_
    refine jn_gf (i := 6) (k := 6) rfl rfl hH (by decide) (hH.2 6 _ rfl).1 rfl rfl (fun z18 (ez18 : z18.toInt = ja h 6 6) (bz18 : 0 ≤ z18.toInt ∧ z18.toInt ≤ 8) => ?_)
    refine az_X_step (pc' := 22) (ls' := ls) (st' := [.int (1 <<< (z18 &&& 31)), .int X]) (h' := h) rfl rfl rfl ?_
    have sh := bt_sl (c := z18) (N := n) (Z := Z) (by omega) (by omega) eZ
    refine jx_ic (t := 62) rfl rfl rfl (fun hc22 => ?_) (fun hc22 => ?_)
    · have g22 := jc2_ge_t hc22
      refine jn_retv rfl rfl rfl ?_
      exact ⟨rfl, hH, hs, fun M i m1 i1 b1 c1 e he => hd M i m1 i1 b1 (by omega) e he⟩
    · have g22 := jc2_ge_f hc22
      exfalso
      omega
  | succ k ih =>
    intro j X h ls hl hH hs eX j1 hj hd
    have r66 : ja h 6 6 = n := (jso hs (by decide)).trans c6
    have k0 : (0 : Int32).toInt = 0 := by decide
    have k1 : (1 : Int32).toInt = 1 := by decide
    refine jm_iload_n (x := X) rfl rfl (jM_at hl 0 rfl) ?_
    refine az_X_step (pc' := 17) (ls' := ls) (st' := [.int 1, .int X]) (h' := h) rfl rfl rfl ?_
    refine jm_aload_n (x := P.1 + 6) rfl rfl (jM_at hl 1 rfl) ?_
    refine jn_gf (i := 6) (k := 6) rfl rfl hH (by decide) (hH.2 6 _ rfl).1 rfl rfl (fun z18 (ez18 : z18.toInt = ja h 6 6) (bz18 : 0 ≤ z18.toInt ∧ z18.toInt ≤ 8) => ?_)
    refine az_X_step (pc' := 22) (ls' := ls) (st' := [.int (1 <<< (z18 &&& 31)), .int X]) (h' := h) rfl rfl rfl ?_
    have sh := bt_sl (c := z18) (N := n) (Z := Z) (by omega) (by omega) eZ
    refine jx_ic (t := 62) rfl rfl rfl (fun hc22 => ?_) (fun hc22 => ?_)
    · have g22 := jc2_ge_t hc22
      refine jn_retv rfl rfl rfl ?_
      exfalso
      omega
    · have g22 := jc2_ge_f hc22
      refine az_X_step (pc' := 26) (ls' := ls) (st' := [.int 0]) (h' := h) rfl rfl rfl ?_
      refine jm_istore_n (l' := [(2, .int 0), (1, .int X), (0, .ref (P.1 + 6))]) rfl rfl (by decide) hl rfl rfl (fun ls26 hl26 => ?_)
      refine co_f (d := d) hxa (h0 := h0) cx0 hn6 X (K := j) eX j1 (by omega) (fun h1 ls1 hl1 hH1 hs1 d1 => ?_) n 0 0 h ls26 (jM_pick hl26 [0, 1, 2] rfl) hH hs (by decide) (by omega) (fun M i m1 i1 b1 c1 e he => hd M i m1 i1 b1 (by omega) e he)
      refine jn_iinc (x := X) rfl rfl (by decide) (jM_at hl1 0 rfl) hl1 rfl (by decide) (by omega) (by omega) (fun z56 (ez56 : z56.toInt = X.toInt + 1) ls56 (hl56 : jM [(1, .int z56), (0, .ref (P.1 + 6))] ls56) => ?_)
      refine az_X_step (pc' := 15) (ls' := ls56) (st' := []) (h' := h1) rfl rfl rfl ?_
      exact ih (j + 1) z56 h1 ls56 (jM_pick hl56 [0, 1] rfl) hH1 hs1 (by omega) (by omega) (by omega) (fun M i m1 i1 b1 c1 e he => d1 M i m1 i1 b1 (by omega) e he)
theorem co_ok {P : si_P} (hxa : P.2.1 < P.1) {d : Nat} {h : si_H} (hH : az_HI P az_tb h) {m r : Int} {Y n : Nat} {B : Nat → Int} {a b : Int} (cx0 : jCX h m r Y n B a b) (hn6 : n ≤ 6) {Z : Nat} (eZ : Z = 2 ^ n) : az_X P (d + 6) 8 0 (lv_args 0 [.ref (P.1 + 6)]) [] h (fun rv h' => rv = none ∧ az_HI P az_tb h' ∧ az_same_out [(6, 6), (11, 1000000)] h h' ∧ jCX h' m r Y n B a b ∧ (∀ i : Nat, i < n → ∀ e : Nat, (e : Int) < ja h' 8 i → jl h' 11 (72 * ((Z - 1 : Nat) : Int) + 12 * (i : Int) + e) = jGo n Y (jpA m r n B) (jst2 a b Y) (n - 1) (jbt (Z - 1)) i (jtm h' i e))) := by
  have cx := cx0
  obtain ⟨c1, c2, c3, c4, c5, c6, c7, c8, c9, c10, c11⟩ := cx
  have hl : jM [(0, .ref (P.1 + 6))] (lv_args 0 [.ref (P.1 + 6)]) := jM_args [0] rfl (by decide)
  generalize lv_args 0 [.ref (P.1 + 6)] = ls at hl
  have k1 : (1 : Int32).toInt = 1 := by decide
  have k6 : (6 : Int32).toInt = 6 := by decide
  refine jm_aload_n (x := P.1 + 6) rfl rfl (jM_at hl 0 rfl) ?_
  refine jm_aload_n (x := P.1 + 6) rfl rfl (jM_at hl 0 rfl) ?_
  refine jn_gf (i := 6) (k := 6) rfl rfl hH (by decide) (hH.2 6 _ rfl).1 rfl rfl (fun z2 (ez2 : z2.toInt = ja h 6 6) (bz2 : 0 ≤ z2.toInt ∧ z2.toInt ≤ 8) => ?_)
  refine az_X_step (pc' := 7) (ls' := ls) (st' := [.int 6, .int z2, .ref (P.1 + 6)]) (h' := h) rfl rfl rfl ?_
  refine az_X_call (m' := 344) (as := [.int z2, .int 6]) (rest := [.ref (P.1 + 6)]) rfl rfl rfl rfl rfl rfl ?_
  refine (cmin2_ok z2 6).mono ?_
  rintro rv7 h7 ⟨q7, z7, rfl, ez7⟩
  subst h7
  show az_X P _ 8 10 ls [.int z7, .ref (P.1 + 6)] _ _
  refine jn_pf (i := 6) (k := 6) (x := z7) rfl rfl hH (by decide) rfl (hH.2 6 _ rfl).1 rfl rfl (by decide) (by decide) (by show 0 ≤ _; omega) (by show _ ≤ 8; omega) (fun h10 hH10 hs10 (t10 : ja h10 6 6 = z7.toInt) => ?_)
  refine az_X_step (pc' := 14) (ls' := ls) (st' := [.int 1]) (h' := h10) rfl rfl rfl ?_
  refine jm_istore_n (l' := [(1, .int 1), (0, .ref (P.1 + 6))]) rfl rfl (by decide) hl rfl rfl (fun ls14 hl14 => ?_)
  obtain ⟨zf1, zf2, zf3, zf4⟩ := jfl (n := n) (by omega) hn6 eZ
  have cx1 : jCX h10 m r Y n B a b := by
    refine ⟨(jso_row (i := 1) hs10 (by decide) 0).trans c1, (jso_row (i := 1) hs10 (by decide) 1).trans c2, c3, c4, c5, by rw [t10]; omega, c7, (jso hs10 (by decide)).trans c8, (jso hs10 (by decide)).trans c9, c10, fun i hi => ?_⟩
    rw [jso_row (i := 8) hs10 (by decide)]
    exact jLS_cg (by omega) (fun j _ _ => jso_row (i := 7) hs10 (by decide) j) (c11 i hi)
  refine (co_x (d := d) hxa (h0 := h10) cx1 hn6 eZ (Z - 1) 1 1 h10 ls14 (jM_pick hl14 [0, 1] rfl) hH10 az_same_out.rf (by decide) (by omega) (by omega) (fun M i m1 i1 b1 c1 e he => absurd c1 (by omega))).mono ?_
  rintro rv h9 ⟨q1, q2, q3, q4⟩
  refine ⟨q1, q2, (hs10.sub (by decide)).tr (q3.sub (by decide)), jCX_so q3 (by decide) (by decide) (by decide) (by decide) cx1, fun i hi e he => ?_⟩
  rw [jso_row (i := 8) q3 (by decide)] at he
  rw [q4 (Z - 1) i (by omega) hi (zf4 i hi) (by omega) e he, zf3, jtm_cg q3 (by decide)]
theorem of_l {P : si_P} (hxa : P.2.1 < P.1) {d : Nat} {h : si_H} (hH : az_HI P az_tb h) {m r : Int} {Y n : Nat} {B : Nat → Int} {a b : Int} (cx0 : jCX h m r Y n B a b) (hn6 : n ≤ 6) {Z : Nat} (eZ : Z = 2 ^ n) (F : Int32) {f : Nat} (eF : F.toInt = f) (hf : f < n) {V : Nat → Int} (hV : ∀ t : Nat, 0 ≤ V t ∧ V t ≤ 1934917632) (hrow : ∀ e : Nat, (e : Int) < ja h 8 f → jl h 11 (72 * ((Z - 1 : Nat) : Int) + 12 * (f : Int) + e) = V (jtm h f e)) : ∀ (k j : Nat) (T : Int32) (W : Int64) (ls : si_L), jM [(4, .int T), (2, .long W), (0, .ref (P.1 + 6)), (1, .int F)] ls → T.toInt = j → (j : Int) + k = ja h 8 f → W.toInt = jsu (fun e => V (jtm h f e)) j → az_X P (d + 1) 11 5 ls [] h (fun rv h' => h' = h ∧ ∃ z : Int64, rv = some (.long z) ∧ (0 ≤ z.toInt ∧ z.toInt ≤ 23219011584) ∧ z.toInt = jsu (fun t => if jpA m r n B f t = true then V t else 0) Y) := by
  have cx := cx0
  obtain ⟨c1, c2, c3, c4, c5, c6, c7, c8, c9, c10, c11⟩ := cx
  have li := c11 f hf
  have li1 := li.1
  have li2 := li.2.1
  obtain ⟨zf1, zf2, -, -⟩ := jfl (n := n) (by omega) hn6 eZ
  intro k
  induction k with
  | zero =>
    intro j T W ls hl eT hj eW
    have bW : 0 ≤ W.toInt ∧ W.toInt ≤ 1934917632 * (j : Int) := by
      rw [eW]
      exact jsu_cap (fun e _ => hV (jtm h f e))
    refine jm_iload (x := T) rfl rfl (jM_at hl 0 rfl) ?_
    refine jm_aload_n (x := P.1 + 6) rfl rfl (jM_at hl 2 rfl) ?_
    refine jx_gf (i := 6) rfl rfl hH (by decide) (hH.2 6 _ rfl).1 rfl (jx_rf hH rfl rfl) ?_
    refine jm_iload_n (x := F) rfl rfl (jM_at hl 3 rfl) ?_
    refine jx_ial (i := 8) (x := F) rfl rfl hxa hH (by decide) rfl (by omega) (by show _ < ((8 : Nat) : Int); omega) (fun z12 ez12 bz12 => ?_)
    have e8 : ja h 8 F.toInt = ja h 8 f := by rw [eF]
    refine jx_ic (t := 44) rfl rfl rfl (fun hc13 => ?_) (fun hc13 => ?_)
    · have g13 := jc2_ge_t hc13
      refine jm_lload_n (x := W) rfl rfl (jM_at hl 1 rfl) ?_
      refine jn_retl rfl rfl rfl ?_
      exact ⟨rfl, W, rfl, by omega, by rw [eW, show j = (ja h 8 f).toNat by omega]; exact jtm_sum cx0 hf (by omega) V⟩
    · have g13 := jc2_ge_f hc13
      exfalso
      omega
  | succ k ih =>
    intro j T W ls hl eT hj eW
    have bW : 0 ≤ W.toInt ∧ W.toInt ≤ 1934917632 * (j : Int) := by
      rw [eW]
      exact jsu_cap (fun e _ => hV (jtm h f e))
    have k1 : (1 : Int32).toInt = 1 := by decide
    refine jm_iload (x := T) rfl rfl (jM_at hl 0 rfl) ?_
    refine jm_aload_n (x := P.1 + 6) rfl rfl (jM_at hl 2 rfl) ?_
    refine jx_gf (i := 6) rfl rfl hH (by decide) (hH.2 6 _ rfl).1 rfl (jx_rf hH rfl rfl) ?_
    refine jm_iload_n (x := F) rfl rfl (jM_at hl 3 rfl) ?_
    refine jx_ial (i := 8) (x := F) rfl rfl hxa hH (by decide) rfl (by omega) (by show _ < ((8 : Nat) : Int); omega) (fun z12 ez12 bz12 => ?_)
    have e8 : ja h 8 F.toInt = ja h 8 f := by rw [eF]
    refine jx_ic (t := 44) rfl rfl rfl (fun hc13 => ?_) (fun hc13 => ?_)
    · have g13 := jc2_ge_t hc13
      refine jm_lload_n (x := W) rfl rfl (jM_at hl 1 rfl) ?_
      refine jn_retl rfl rfl rfl ?_
      exfalso
      omega
    · have g13 := jc2_ge_f hc13
      refine jm_lload_n (x := W) rfl rfl (jM_at hl 1 rfl) ?_
      refine jm_aload_n (x := P.1 + 6) rfl rfl (jM_at hl 2 rfl) ?_
      refine jx_gf (i := 6) rfl rfl hH (by decide) (hH.2 6 _ rfl).1 rfl (jx_rf hH rfl rfl) ?_
      refine az_X_step (pc' := 22) (ls' := ls) (st' := [.int 1, .ref (P.1 + 11), .long W]) (h' := h) rfl rfl rfl ?_
      refine jm_aload_n (x := P.1 + 6) rfl rfl (jM_at hl 2 rfl) ?_
      refine jn_gf (i := 6) (k := 6) rfl rfl hH (by decide) (hH.2 6 _ rfl).1 rfl rfl (fun z23 (ez23 : z23.toInt = ja h 6 6) (bz23 : 0 ≤ z23.toInt ∧ z23.toInt ≤ 8) => ?_)
      refine az_X_step (pc' := 27) (ls' := ls) (st' := [.int (1 <<< (z23 &&& 31)), .ref (P.1 + 11), .long W]) (h' := h) rfl rfl rfl ?_
      refine az_X_step (pc' := 28) (ls' := ls) (st' := [.int 1, .int (1 <<< (z23 &&& 31)), .ref (P.1 + 11), .long W]) (h' := h) rfl rfl rfl ?_
      have sh := bt_sl (c := z23) (N := n) (Z := Z) (by omega) (by omega) eZ
      refine jn_sub (a := (1 <<< (z23 &&& 31))) (b := 1) rfl rfl (by omega) (by omega) (fun z28 ez28 => ?_)
      rw [show (1 : Int32).toInt = 1 by decide] at ez28
      refine jm_iload_n (x := F) rfl rfl (jM_at hl 3 rfl) ?_
      refine jm_iload (x := T) rfl rfl (jM_at hl 0 rfl) ?_
      refine az_X_call (m' := 7) (as := [.int z28, .int F, .int T]) (rest := [.ref (P.1 + 11), .long W]) rfl rfl rfl rfl rfl rfl ?_
      refine (op_ok z28 F T (by omega) (by omega) (by omega)).mono ?_
      rintro rv32 h32 ⟨q32, z32, rfl, ez32⟩
      subst h32
      show az_X P _ 11 35 ls [.int z32, .ref (P.1 + 11), .long W] _ _
      refine jn_lal (i := 11) (x := z32) rfl rfl hH (by decide) rfl (by omega) (by show _ < ((4608 : Nat) : Int); omega) (fun z35 ez35 => ?_)
      have vj := hV (jtm h f j)
      have el : z35.toInt = V (jtm h f j) := by
        rw [ez35, show z32.toInt = 72 * ((Z - 1 : Nat) : Int) + 12 * (f : Int) + j by omega]
        exact hrow j (by omega)
      refine jn_ladd (a := W) (b := z35) rfl rfl (by omega) (by omega) (fun z36 ez36 => ?_)
      refine jm_lstore_n (l' := [(2, .long z36), (4, .int T), (0, .ref (P.1 + 6)), (1, .int F)]) rfl rfl (by decide) hl rfl (fun ls37 hl37 => ?_)
      refine jn_iincg (x := T) rfl rfl (by decide) (jM_at hl37 1 rfl) hl37 (by decide) (by omega) (by omega) (fun z38 (ez38 : z38.toInt = T.toInt + 1) ls38 (hl38 : jM [(4, .int z38), (2, .long z36), (0, .ref (P.1 + 6)), (1, .int F)] ls38) => ?_)
      refine az_X_step (pc' := 5) (ls' := ls38) (st' := []) (h' := h) rfl rfl rfl ?_
      exact ih (j + 1) z38 z36 ls38 (jM_pick hl38 [0, 1, 2, 3] rfl) (by omega) (by omega) (by rw [jsu_s]; omega)
theorem of_ok {P : si_P} (hxa : P.2.1 < P.1) {d : Nat} {h : si_H} (hH : az_HI P az_tb h) {m r : Int} {Y n : Nat} {B : Nat → Int} {a b : Int} (cx0 : jCX h m r Y n B a b) (hn6 : n ≤ 6) {Z : Nat} (eZ : Z = 2 ^ n) (F : Int32) {f : Nat} (eF : F.toInt = f) (hf : f < n) {V : Nat → Int} (hV : ∀ t : Nat, 0 ≤ V t ∧ V t ≤ 1934917632) (hrow : ∀ e : Nat, (e : Int) < ja h 8 f → jl h 11 (72 * ((Z - 1 : Nat) : Int) + 12 * (f : Int) + e) = V (jtm h f e)) : az_X P (d + 1) 11 0 (lv_args 0 [.ref (P.1 + 6), .int F]) [] h (fun rv h' => h' = h ∧ ∃ z : Int64, rv = some (.long z) ∧ (0 ≤ z.toInt ∧ z.toInt ≤ 23219011584) ∧ z.toInt = jsu (fun t => if jpA m r n B f t = true then V t else 0) Y) := by
  have cx := cx0
  obtain ⟨c1, c2, c3, c4, c5, c6, c7, c8, c9, c10, c11⟩ := cx
  have li1 := (c11 f hf).1
  have hl : jM [(0, .ref (P.1 + 6)), (1, .int F)] (lv_args 0 [.ref (P.1 + 6), .int F]) := jM_args [0, 1] rfl (by decide)
  generalize lv_args 0 [.ref (P.1 + 6), .int F] = ls at hl
  have k0 : (0 : Int32).toInt = 0 := by decide
  have kl0 : (0 : Int64).toInt = 0 := by decide
  refine az_X_step (pc' := 1) (ls' := ls) (st' := [.long 0]) (h' := h) rfl rfl rfl ?_
  refine jm_lstore_n (l' := [(2, .long 0), (0, .ref (P.1 + 6)), (1, .int F)]) rfl rfl (by decide) hl rfl (fun ls1 hl1 => ?_)
  refine az_X_step (pc' := 3) (ls' := ls1) (st' := [.int 0]) (h' := h) rfl rfl rfl ?_
  refine jm_istoreg (l' := [(4, .int 0), (2, .long 0), (0, .ref (P.1 + 6)), (1, .int F)]) rfl rfl (by decide) hl1 rfl (fun ls3 hl3 => ?_)
  exact of_l hxa hH cx0 hn6 eZ F eF hf hV hrow (ja h 8 f).toNat 0 0 0 ls3 (jM_pick hl3 [0, 1, 2, 3] rfl) (by decide) (by omega) (by show (0 : Int64).toInt = 0; decide)
theorem om_l {P : si_P} (hxa : P.2.1 < P.1) {d : Nat} {h : si_H} (hH : az_HI P az_tb h) {m r : Int} {Y n : Nat} {B : Nat → Int} {a b : Int} (cx0 : jCX h m r Y n B a b) (hn6 : n ≤ 6) {Z : Nat} (eZ : Z = 2 ^ n) (hr : (∀ i : Nat, i < n → ∀ e : Nat, (e : Int) < ja h 8 i → jl h 11 (72 * ((Z - 1 : Nat) : Int) + 12 * (i : Int) + e) = jGo n Y (jpA m r n B) (jst2 a b Y) (n - 1) (jbt (Z - 1)) i (jtm h i e))) : ∀ (k j : Nat) (T : Int32) (W : Int64) (ls : si_L), jM [(3, .int T), (1, .long W), (0, .ref (P.1 + 6))] ls → T.toInt = j → j + k = n → W.toInt = jsu (fun i => jsu (fun t => if (jbt (Z - 1) i && jpA m r n B i t) = true then jGo n Y (jpA m r n B) (jst2 a b Y) (n - 1) (jbt (Z - 1)) i t else 0) Y) j → 0 ≤ W.toInt ∧ W.toInt ≤ 23219011584 * (j : Int) → az_X P (d + 2) 12 4 ls [] h (fun rv h' => h' = h ∧ jV rv (min 1000000000 (jTOT m r Y n B a b))) := by
  have cx := cx0
  obtain ⟨c1, c2, c3, c4, c5, c6, c7, c8, c9, c10, c11⟩ := cx
  obtain ⟨zf1, zf2, zf3, zf4⟩ := jfl (n := n) (by omega) hn6 eZ
  have hV : ∀ i t : Nat, 0 ≤ jGo n Y (jpA m r n B) (jst2 a b Y) (n - 1) (jbt (Z - 1)) i t ∧ jGo n Y (jpA m r n B) (jst2 a b Y) (n - 1) (jbt (Z - 1)) i t ≤ 1934917632 := fun i t => by
    have q := jGo_cap (S := (jst2 a b Y)) hn6 (jpA_12 cx0) (M := Z - 1) (by omega) (jbt (Z - 1)) i t
    rw [zf3] at q
    exact q
  intro k
  induction k with
  | zero =>
    intro j T W ls hl eT hj eW bW
    refine jm_iload_n (x := T) rfl rfl (jM_at hl 0 rfl) ?_
    refine jm_aload_n (x := P.1 + 6) rfl rfl (jM_at hl 2 rfl) ?_
    refine jn_gf (i := 6) (k := 6) rfl rfl hH (by decide) (hH.2 6 _ rfl).1 rfl rfl (fun z6 (ez6 : z6.toInt = ja h 6 6) (bz6 : 0 ≤ z6.toInt ∧ z6.toInt ≤ 8) => ?_)
    refine jx_ic (t := 26) rfl rfl rfl (fun hc9 => ?_) (fun hc9 => ?_)
    · have g9 := jc2_ge_t hc9
      have hl1 : jM [(1, .long W), (0, .ref (P.1 + 6))] ls := jM_pick hl [1, 2] rfl
      have kl1000000000 : (1000000000 : Int64).toInt = 1000000000 := by decide
      refine jm_lload_n (x := W) rfl rfl (jM_at hl1 0 rfl) ?_
      refine az_X_step (pc' := 30) (ls' := ls) (st' := [.long 1000000000, .long W]) (h' := h) rfl rfl rfl ?_
      refine az_X_call (m' := 345) (as := [.long W, .long 1000000000]) (rest := []) rfl rfl rfl rfl rfl rfl ?_
      refine (lmin_ok W 1000000000).mono ?_
      rintro rv30 h30 ⟨q30, z30, rfl, ez30⟩
      subst h30
      show az_X P _ 12 33 ls [.long z30] _ _
      refine jn_l2i (a := z30) rfl rfl (by omega) (by omega) (fun z33 ez33 => ?_)
      refine jx_ret rfl rfl rfl ?_
      exact ⟨rfl, z33, rfl, by rw [show jTOT m r Y n B a b = W.toInt from by rw [eW, show j = n by omega]; unfold jTOT; rw [← eZ]; rfl]; omega⟩
    · have g9 := jc2_ge_f hc9
      exfalso
      omega
  | succ k ih =>
    intro j T W ls hl eT hj eW bW
    refine jm_iload_n (x := T) rfl rfl (jM_at hl 0 rfl) ?_
    refine jm_aload_n (x := P.1 + 6) rfl rfl (jM_at hl 2 rfl) ?_
    refine jn_gf (i := 6) (k := 6) rfl rfl hH (by decide) (hH.2 6 _ rfl).1 rfl rfl (fun z6 (ez6 : z6.toInt = ja h 6 6) (bz6 : 0 ≤ z6.toInt ∧ z6.toInt ≤ 8) => ?_)
    refine jx_ic (t := 26) rfl rfl rfl (fun hc9 => ?_) (fun hc9 => ?_)
    · have g9 := jc2_ge_t hc9
      exfalso
      omega
    · have g9 := jc2_ge_f hc9
      refine jm_lload_n (x := W) rfl rfl (jM_at hl 1 rfl) ?_
      refine jm_aload_n (x := P.1 + 6) rfl rfl (jM_at hl 2 rfl) ?_
      refine jm_iload_n (x := T) rfl rfl (jM_at hl 0 rfl) ?_
      refine az_X_call (m' := 11) (as := [.ref (P.1 + 6), .int T]) (rest := [.long W]) rfl rfl rfl rfl rfl ?_ ?_
      · unfold si_call
        dsimp only
        rw [if_pos ⟨rfl, rfl⟩]
        show (match si_ix P h (P.1 + 6) with | some i => _ | none => none) = _
        rw [jix hH (by decide)]
        dsimp only
        rw [(hH.2 6 _ rfl).1]
        rfl
      refine (of_ok (d := d) hxa hH cx0 hn6 eZ T (f := j) eT (by omega) (V := jGo n Y (jpA m r n B) (jst2 a b Y) (n - 1) (jbt (Z - 1)) j) (hV j) (hr j (by omega))).mono ?_
      rintro rv15 h15 ⟨q15, z15, rfl, ez15⟩
      subst h15
      show az_X P _ 12 18 ls [.long z15, .long W] _ _
      refine jn_ladd (a := W) (b := z15) rfl rfl (by omega) (by omega) (fun z18 ez18 => ?_)
      refine jm_lstore_n (l' := [(1, .long z18), (3, .int T), (0, .ref (P.1 + 6))]) rfl rfl (by decide) hl rfl (fun ls19 hl19 => ?_)
      refine jn_iincg (x := T) rfl rfl (by decide) (jM_at hl19 1 rfl) hl19 (by decide) (by omega) (by omega) (fun z20 (ez20 : z20.toInt = T.toInt + 1) ls20 (hl20 : jM [(3, .int z20), (1, .long z18), (0, .ref (P.1 + 6))] ls20) => ?_)
      refine az_X_step (pc' := 4) (ls' := ls20) (st' := []) (h' := h) rfl rfl rfl ?_
      have ps : jsu (fun i => jsu (fun t => if (jbt (Z - 1) i && jpA m r n B i t) = true then jGo n Y (jpA m r n B) (jst2 a b Y) (n - 1) (jbt (Z - 1)) i t else 0) Y) (j + 1) = jsu (fun i => jsu (fun t => if (jbt (Z - 1) i && jpA m r n B i t) = true then jGo n Y (jpA m r n B) (jst2 a b Y) (n - 1) (jbt (Z - 1)) i t else 0) Y) j + jsu (fun t => if (jbt (Z - 1) j && jpA m r n B j t) = true then jGo n Y (jpA m r n B) (jst2 a b Y) (n - 1) (jbt (Z - 1)) j t else 0) Y := rfl
      exact ih (j + 1) z20 z18 ls20 (jM_pick hl20 [0, 1, 2] rfl) (by omega) (by omega) (by rw [ps, js_yes (zf4 j (by omega))]; omega) (by omega)
theorem om_ok {P : si_P} (hxa : P.2.1 < P.1) {d : Nat} {h : si_H} (hH : az_HI P az_tb h) {m r : Int} {Y n : Nat} {B : Nat → Int} {a b : Int} (cx0 : jCX h m r Y n B a b) (hn6 : n ≤ 6) {Z : Nat} (eZ : Z = 2 ^ n) (hr : (∀ i : Nat, i < n → ∀ e : Nat, (e : Int) < ja h 8 i → jl h 11 (72 * ((Z - 1 : Nat) : Int) + 12 * (i : Int) + e) = jGo n Y (jpA m r n B) (jst2 a b Y) (n - 1) (jbt (Z - 1)) i (jtm h i e))) : az_X P (d + 2) 12 0 (lv_args 0 [.ref (P.1 + 6)]) [] h (fun rv h' => h' = h ∧ jV rv (min 1000000000 (jTOT m r Y n B a b))) := by
  have hl : jM [(0, .ref (P.1 + 6))] (lv_args 0 [.ref (P.1 + 6)]) := jM_args [0] rfl (by decide)
  generalize lv_args 0 [.ref (P.1 + 6)] = ls at hl
  have k0 : (0 : Int32).toInt = 0 := by decide
  have kl0 : (0 : Int64).toInt = 0 := by decide
  refine az_X_step (pc' := 1) (ls' := ls) (st' := [.long 0]) (h' := h) rfl rfl rfl ?_
  refine jm_lstore_n (l' := [(1, .long 0), (0, .ref (P.1 + 6))]) rfl rfl (by decide) hl rfl (fun ls1 hl1 => ?_)
  refine az_X_step (pc' := 3) (ls' := ls1) (st' := [.int 0]) (h' := h) rfl rfl rfl ?_
  refine jm_istore_ng (l' := [(3, .int 0), (1, .long 0), (0, .ref (P.1 + 6))]) rfl rfl (by decide) hl1 rfl (fun ls3 hl3 => ?_)
  exact om_l hxa hH cx0 hn6 eZ hr n 0 0 0 ls3 (jM_pick hl3 [0, 1, 2] rfl) (by decide) (by omega) (by show (0 : Int64).toInt = 0; decide) (by show 0 ≤ (0 : Int64).toInt ∧ (0 : Int64).toInt ≤ 23219011584 * ((0 : Nat) : Int); decide)
theorem bf_l {P : si_P} (hxa : P.2.1 < P.1) {d : Nat} {h : si_H} (hH : az_HI P az_tb h) {m r : Int} {Y n : Nat} {B : Nat → Int} {a b : Int} (cx0 : jCX h m r Y n B a b) (hn6 : n ≤ 6) {Z : Nat} (eZ : Z = 2 ^ n) (hr : (∀ i : Nat, i < n → ∀ e : Nat, (e : Int) < ja h 8 i → jl h 11 (72 * ((Z - 1 : Nat) : Int) + 12 * (i : Int) + e) = jGo n Y (jpA m r n B) (jst2 a b Y) (n - 1) (jbt (Z - 1)) i (jtm h i e))) : ∀ (k j : Nat) (T U : Int32) (ls : si_L), jM [(2, .int T), (1, .int U), (0, .ref (P.1 + 6))] ls → T.toInt = j → j + k = n → U = jOr (fun i => decide (0 < jSUM m r Y n B a b i)) j → az_X P (d + 2) 13 4 ls [] h (fun rv h' => h' = h ∧ jV rv (jOr (fun i => decide (0 < jSUM m r Y n B a b i)) n).toInt) := by
  have cx := cx0
  obtain ⟨c1, c2, c3, c4, c5, c6, c7, c8, c9, c10, c11⟩ := cx
  obtain ⟨zf1, zf2, zf3, zf4⟩ := jfl (n := n) (by omega) hn6 eZ
  have hV : ∀ i t : Nat, 0 ≤ jGo n Y (jpA m r n B) (jst2 a b Y) (n - 1) (jbt (Z - 1)) i t ∧ jGo n Y (jpA m r n B) (jst2 a b Y) (n - 1) (jbt (Z - 1)) i t ≤ 1934917632 := fun i t => by
    have q := jGo_cap (S := (jst2 a b Y)) hn6 (jpA_12 cx0) (M := Z - 1) (by omega) (jbt (Z - 1)) i t
    rw [zf3] at q
    exact q
  intro k
  induction k with
  | zero =>
    intro j T U ls hl eT hj eU
    refine jm_iload_n (x := T) rfl rfl (jM_at hl 0 rfl) ?_
    refine jm_aload_n (x := P.1 + 6) rfl rfl (jM_at hl 2 rfl) ?_
    refine jn_gf (i := 6) (k := 6) rfl rfl hH (by decide) (hH.2 6 _ rfl).1 rfl rfl (fun z6 (ez6 : z6.toInt = ja h 6 6) (bz6 : 0 ≤ z6.toInt ∧ z6.toInt ≤ 8) => ?_)
    refine jx_ic (t := 34) rfl rfl rfl (fun hc9 => ?_) (fun hc9 => ?_)
    · have g9 := jc2_ge_t hc9
      refine jm_iload_n (x := U) rfl rfl (jM_at hl 1 rfl) ?_
      refine jx_ret rfl rfl rfl ?_
      exact ⟨rfl, U, rfl, by rw [eU, show j = n by omega]⟩
    · have g9 := jc2_ge_f hc9
      exfalso
      omega
  | succ k ih =>
    intro j T U ls hl eT hj eU
    have k0 : (0 : Int32).toInt = 0 := by decide
    have k1 : (1 : Int32).toInt = 1 := by decide
    have kl0 : (0 : Int64).toInt = 0 := by decide
    refine jm_iload_n (x := T) rfl rfl (jM_at hl 0 rfl) ?_
    refine jm_aload_n (x := P.1 + 6) rfl rfl (jM_at hl 2 rfl) ?_
    refine jn_gf (i := 6) (k := 6) rfl rfl hH (by decide) (hH.2 6 _ rfl).1 rfl rfl (fun z6 (ez6 : z6.toInt = ja h 6 6) (bz6 : 0 ≤ z6.toInt ∧ z6.toInt ≤ 8) => ?_)
    refine jx_ic (t := 34) rfl rfl rfl (fun hc9 => ?_) (fun hc9 => ?_)
    · have g9 := jc2_ge_t hc9
      refine jm_iload_n (x := U) rfl rfl (jM_at hl 1 rfl) ?_
      refine jx_ret rfl rfl rfl ?_
      exfalso
      omega
    · have g9 := jc2_ge_f hc9
      refine jm_aload_n (x := P.1 + 6) rfl rfl (jM_at hl 2 rfl) ?_
      refine jm_iload_n (x := T) rfl rfl (jM_at hl 0 rfl) ?_
      refine az_X_call (m' := 11) (as := [.ref (P.1 + 6), .int T]) (rest := []) rfl rfl rfl rfl rfl ?_ ?_
      · unfold si_call
        dsimp only
        rw [if_pos ⟨rfl, rfl⟩]
        show (match si_ix P h (P.1 + 6) with | some i => _ | none => none) = _
        rw [jix hH (by decide)]
        dsimp only
        rw [(hH.2 6 _ rfl).1]
        rfl
      refine (of_ok (d := d) hxa hH cx0 hn6 eZ T (f := j) eT (by omega) (V := jGo n Y (jpA m r n B) (jst2 a b Y) (n - 1) (jbt (Z - 1)) j) (hV j) (hr j (by omega))).mono ?_
      rintro rv14 h14 ⟨q14, z14, rfl, ez14⟩
      subst h14
      show az_X P _ 13 17 ls [.long z14] _ _
      refine az_X_step (pc' := 18) (ls' := ls) (st' := [.long 0, .long z14]) (h' := h) rfl rfl rfl ?_
      refine jn_lcmp (a := z14) (b := 0) rfl rfl (fun z18 ez18 => ?_)
      refine jx_if (t := 28) rfl rfl rfl (fun hc19 => ?_) (fun hc19 => ?_)
      · have g19 := jc1_le_t hc19
        refine jn_iinc (x := T) rfl rfl (by decide) (jM_at hl 0 rfl) hl rfl (by decide) (by omega) (by omega) (fun z28 (ez28 : z28.toInt = T.toInt + 1) ls28 (hl28 : jM [(2, .int z28), (1, .int U), (0, .ref (P.1 + 6))] ls28) => ?_)
        refine az_X_step (pc' := 4) (ls' := ls28) (st' := []) (h' := h) rfl rfl rfl ?_
        have sj : jSUM m r Y n B a b j = z14.toInt := by
          rw [ez14.2]
          unfold jSUM
          rw [← eZ]
        have tj : T = Int32.ofInt (j : Int) := jof eT (by omega)
        exact ih (j + 1) z28 U ls28 (jM_pick hl28 [0, 1, 2] rfl) (by omega) (by omega) (by rw [jOr_f (q := (fun i => decide (0 < jSUM m r Y n B a b i))) (fun e => by have := of_decide_eq_true e; omega)]; exact eU)
      · have g19 := jc1_le_f hc19
        refine jm_iload_n (x := U) rfl rfl (jM_at hl 1 rfl) ?_
        refine az_X_step (pc' := 24) (ls' := ls) (st' := [.int 1, .int U]) (h' := h) rfl rfl rfl ?_
        refine jm_iload_n (x := T) rfl rfl (jM_at hl 0 rfl) ?_
        refine az_X_step (pc' := 26) (ls' := ls) (st' := [.int (1 <<< (T &&& 31)), .int U]) (h' := h) rfl rfl rfl ?_
        refine az_X_step (pc' := 27) (ls' := ls) (st' := [.int (U ||| (1 <<< (T &&& 31)))]) (h' := h) rfl rfl rfl ?_
        refine jm_istore_n (l' := [(1, .int (U ||| (1 <<< (T &&& 31)))), (2, .int T), (0, .ref (P.1 + 6))]) rfl rfl (by decide) hl rfl rfl (fun ls27 hl27 => ?_)
        refine jn_iinc (x := T) rfl rfl (by decide) (jM_at hl27 1 rfl) hl27 rfl (by decide) (by omega) (by omega) (fun z28 (ez28 : z28.toInt = T.toInt + 1) ls28 (hl28 : jM [(2, .int z28), (1, .int (U ||| (1 <<< (T &&& 31)))), (0, .ref (P.1 + 6))] ls28) => ?_)
        refine az_X_step (pc' := 4) (ls' := ls28) (st' := []) (h' := h) rfl rfl rfl ?_
        have sj : jSUM m r Y n B a b j = z14.toInt := by
          rw [ez14.2]
          unfold jSUM
          rw [← eZ]
        have tj : T = Int32.ofInt (j : Int) := jof eT (by omega)
        exact ih (j + 1) z28 (U ||| (1 <<< (T &&& 31))) ls28 (jM_pick hl28 [0, 1, 2] rfl) (by omega) (by omega) (by rw [jOr_t (q := (fun i => decide (0 < jSUM m r Y n B a b i))) (decide_eq_true (by omega)), ← tj, eU])
theorem bf_ok {P : si_P} (hxa : P.2.1 < P.1) {d : Nat} {h : si_H} (hH : az_HI P az_tb h) {m r : Int} {Y n : Nat} {B : Nat → Int} {a b : Int} (cx0 : jCX h m r Y n B a b) (hn6 : n ≤ 6) {Z : Nat} (eZ : Z = 2 ^ n) (hr : (∀ i : Nat, i < n → ∀ e : Nat, (e : Int) < ja h 8 i → jl h 11 (72 * ((Z - 1 : Nat) : Int) + 12 * (i : Int) + e) = jGo n Y (jpA m r n B) (jst2 a b Y) (n - 1) (jbt (Z - 1)) i (jtm h i e))) : az_X P (d + 2) 13 0 (lv_args 0 [.ref (P.1 + 6)]) [] h (fun rv h' => h' = h ∧ jV rv (jOr (fun i => decide (0 < jSUM m r Y n B a b i)) n).toInt) := by
  have hl : jM [(0, .ref (P.1 + 6))] (lv_args 0 [.ref (P.1 + 6)]) := jM_args [0] rfl (by decide)
  generalize lv_args 0 [.ref (P.1 + 6)] = ls at hl
  have k0 : (0 : Int32).toInt = 0 := by decide
  refine az_X_step (pc' := 1) (ls' := ls) (st' := [.int 0]) (h' := h) rfl rfl rfl ?_
  refine jm_istore_n (l' := [(1, .int 0), (0, .ref (P.1 + 6))]) rfl rfl (by decide) hl rfl rfl (fun ls1 hl1 => ?_)
  refine az_X_step (pc' := 3) (ls' := ls1) (st' := [.int 0]) (h' := h) rfl rfl rfl ?_
  refine jm_istore_n (l' := [(2, .int 0), (1, .int 0), (0, .ref (P.1 + 6))]) rfl rfl (by decide) hl1 rfl rfl (fun ls3 hl3 => ?_)
  exact bf_l hxa hH cx0 hn6 eZ hr n 0 0 0 ls3 (jM_pick hl3 [0, 1, 2] rfl) (by decide) (by omega) rfl
theorem ctwo_ok {P : si_P} {d : Nat} {h : si_H} (i : Int32) : az_X P d 188 0 (lv_args 0 [.int i]) [] h (fun rv h' => h' = h ∧ ∃ z : Int32, rv = some (.int z) ∧ ((z.toInt = 1 ∧ 0 ≤ i.toInt ∧ i.toInt ≤ 1) ∨ (z.toInt = 0 ∧ ¬ (0 ≤ i.toInt ∧ i.toInt ≤ 1)))) := by
  have hl : jM [(0, .int i)] (lv_args 0 [.int i]) := jM_args [0] rfl (by decide)
  generalize lv_args 0 [.int i] = ls at hl
  have k0 : (0 : Int32).toInt = 0 := by decide
  have k1 : (1 : Int32).toInt = 1 := by decide
  refine jm_iload_n (x := i) rfl rfl (jM_at hl 0 rfl) ?_
  refine jx_if (t := 9) rfl rfl rfl (fun hc1 => ?_) (fun hc1 => ?_)
  · have g1 := jc1_eq_t hc1
    refine az_X_step (pc' := 10) (ls' := ls) (st' := [.int 1]) (h' := h) rfl rfl rfl ?_
    refine az_X_step (pc' := 14) (ls' := ls) (st' := [.int 1]) (h' := h) rfl rfl rfl ?_
    refine jx_retz rfl rfl rfl (by decide) ?_
    exact ⟨rfl, 1, rfl, by omega⟩
  · have g1 := jc1_eq_f hc1
    refine jm_iload_n (x := i) rfl rfl (jM_at hl 0 rfl) ?_
    refine az_X_step (pc' := 6) (ls' := ls) (st' := [.int 1, .int i]) (h' := h) rfl rfl rfl ?_
    refine jx_ic (t := 13) rfl rfl rfl (fun hc6 => ?_) (fun hc6 => ?_)
    · have g6 := jc2_ne_t hc6
      refine az_X_step (pc' := 14) (ls' := ls) (st' := [.int 0]) (h' := h) rfl rfl rfl ?_
      refine jx_retz rfl rfl rfl (by decide) ?_
      exact ⟨rfl, 0, rfl, by omega⟩
    · have g6 := jc2_ne_f hc6
      refine az_X_step (pc' := 10) (ls' := ls) (st' := [.int 1]) (h' := h) rfl rfl rfl ?_
      refine az_X_step (pc' := 14) (ls' := ls) (st' := [.int 1]) (h' := h) rfl rfl rfl ?_
      refine jx_retz rfl rfl rfl (by decide) ?_
      exact ⟨rfl, 1, rfl, by omega⟩
theorem anyOrder0_ok {P : si_P} (hxa : P.2.1 < P.1) {d : Nat} {h : si_H} (hH : az_HI P az_tb h) (N D E W : Int32) : az_X P (d + 7) 159 0 (lv_args 0 [.ref (P.1 + 0), .int N, .int D, .int E, .int W]) [] h (fun rv h' => ∃ z : Int32, rv = some (.int z) ∧ az_HI P az_tb h' ∧ az_same_out [(6, 6), (6, 7), (6, 8), (7, 1000000), (8, 1000000), (11, 1000000), (12, 1)] h h' ∧ ((((1 ≤ N.toInt ∧ N.toInt ≤ 6) ∧ (0 ≤ D.toInt ∧ D.toInt ≤ E.toInt ∧ E.toInt ≤ 99) ∧ (0 ≤ W.toInt ∧ W.toInt ≤ 1) ∧ 2 * N.toInt ≤ ja h 12 1) ∧ ja h' 12 1 = 0 ∧ jAO (ja h 1 0) (ja h 1 1) (ja h 1 0 * ja h 1 1).toNat N.toInt.toNat (fun i => ja h 13 i) D.toInt E.toInt W.toInt z.toInt) ∨ (¬ ((1 ≤ N.toInt ∧ N.toInt ≤ 6) ∧ (0 ≤ D.toInt ∧ D.toInt ≤ E.toInt ∧ E.toInt ≤ 99) ∧ (0 ≤ W.toInt ∧ W.toInt ≤ 1) ∧ 2 * N.toInt ≤ ja h 12 1) ∧ ja h' 12 1 = ja h 12 1 ∧ z.toInt = -1))) := by
  have hl : jM [(0, .ref (P.1 + 0)), (1, .int N), (2, .int D), (3, .int E), (4, .int W)] (lv_args 0 [.ref (P.1 + 0), .int N, .int D, .int E, .int W]) := jM_args [0, 1, 2, 3, 4] rfl (by decide)
  generalize lv_args 0 [.ref (P.1 + 0), .int N, .int D, .int E, .int W] = ls at hl
  have km3 : ((-3) : Int32).toInt = (-3) := by decide
  have km1 : ((-1) : Int32).toInt = (-1) := by decide
  have k0 : (0 : Int32).toInt = 0 := by decide
  have k1 : (1 : Int32).toInt = 1 := by decide
  have k2 : (2 : Int32).toInt = 2 := by decide
  have k6 : (6 : Int32).toInt = 6 := by decide
  refine jm_iload (x := W) rfl rfl (jM_at hl 4 rfl) ?_
  refine az_X_call (m' := 188) (as := [.int W]) (rest := []) rfl rfl rfl rfl rfl rfl ?_
  refine (ctwo_ok W).mono ?_
  rintro rv2 h2 ⟨q2, z2, rfl, ez2⟩
  subst h2
  show az_X P _ 159 5 ls [.int z2] _ _
  refine jx_if (t := 20) rfl rfl rfl (fun hc5 => ?_) (fun hc5 => ?_)
  · have g5 := jc1_eq_t hc5
    refine az_X_step (pc' := 21) (ls' := ls) (st' := [.int 0]) (h' := h) rfl rfl rfl ?_
    refine jm_istore (l' := [(5, .int 0), (0, .ref (P.1 + 0)), (1, .int N), (2, .int D), (3, .int E), (4, .int W)]) rfl rfl (by decide) hl rfl rfl (fun ls21 hl21 => ?_)
    refine jm_iload_n (x := N) rfl rfl (jM_at hl21 2 rfl) ?_
    refine az_X_step (pc' := 25) (ls' := ls21) (st' := [.int 1, .int N]) (h' := h) rfl rfl rfl ?_
    refine jx_ic (t := 52) rfl rfl rfl (fun hc25 => ?_) (fun hc25 => ?_)
    · have g25 := jc2_lt_t hc25
      refine az_X_step (pc' := 53) (ls' := ls21) (st' := [.int (-1)]) (h' := h) rfl rfl rfl ?_
      refine jx_ret rfl rfl rfl ?_
      exact ⟨(-1), rfl, hH, az_same_out.rf, Or.inr ⟨by omega, rfl, by decide⟩⟩
    · have g25 := jc2_lt_f hc25
      refine jm_iload_n (x := N) rfl rfl (jM_at hl21 2 rfl) ?_
      refine az_X_step (pc' := 31) (ls' := ls21) (st' := [.int 6, .int N]) (h' := h) rfl rfl rfl ?_
      refine jx_ic (t := 52) rfl rfl rfl (fun hc31 => ?_) (fun hc31 => ?_)
      · have g31 := jc2_gt_t hc31
        refine az_X_step (pc' := 53) (ls' := ls21) (st' := [.int (-1)]) (h' := h) rfl rfl rfl ?_
        refine jx_ret rfl rfl rfl ?_
        exact ⟨(-1), rfl, hH, az_same_out.rf, Or.inr ⟨by omega, rfl, by decide⟩⟩
      · have g31 := jc2_gt_f hc31
        refine jm_iload (x := 0) rfl rfl (jM_at hl21 0 rfl) ?_
        refine jn_ifd (t := 52) (c := true) rfl rfl rfl (by decide) ?_
        show az_X P _ 159 52 ls21 [] _ _
        refine az_X_step (pc' := 53) (ls' := ls21) (st' := [.int (-1)]) (h' := h) rfl rfl rfl ?_
        refine jx_ret rfl rfl rfl ?_
        exact ⟨(-1), rfl, hH, az_same_out.rf, Or.inr ⟨by omega, rfl, by decide⟩⟩
  · have g5 := jc1_eq_f hc5
    refine jm_iload_n (x := D) rfl rfl (jM_at hl 2 rfl) ?_
    refine jm_iload_n (x := E) rfl rfl (jM_at hl 3 rfl) ?_
    refine az_X_call (m' := 191) (as := [.int D, .int E]) (rest := []) rfl rfl rfl rfl rfl rfl ?_
    refine (cbet_ok D E).mono ?_
    rintro rv10 h10 ⟨q10, z10, rfl, ez10⟩
    subst h10
    show az_X P _ 159 13 ls [.int z10] _ _
    refine jx_if (t := 20) rfl rfl rfl (fun hc13 => ?_) (fun hc13 => ?_)
    · have g13 := jc1_eq_t hc13
      refine az_X_step (pc' := 21) (ls' := ls) (st' := [.int 0]) (h' := h) rfl rfl rfl ?_
      refine jm_istore (l' := [(5, .int 0), (0, .ref (P.1 + 0)), (1, .int N), (2, .int D), (3, .int E), (4, .int W)]) rfl rfl (by decide) hl rfl rfl (fun ls21 hl21 => ?_)
      refine jm_iload_n (x := N) rfl rfl (jM_at hl21 2 rfl) ?_
      refine az_X_step (pc' := 25) (ls' := ls21) (st' := [.int 1, .int N]) (h' := h) rfl rfl rfl ?_
      refine jx_ic (t := 52) rfl rfl rfl (fun hc25 => ?_) (fun hc25 => ?_)
      · have g25 := jc2_lt_t hc25
        refine az_X_step (pc' := 53) (ls' := ls21) (st' := [.int (-1)]) (h' := h) rfl rfl rfl ?_
        refine jx_ret rfl rfl rfl ?_
        exact ⟨(-1), rfl, hH, az_same_out.rf, Or.inr ⟨by omega, rfl, by decide⟩⟩
      · have g25 := jc2_lt_f hc25
        refine jm_iload_n (x := N) rfl rfl (jM_at hl21 2 rfl) ?_
        refine az_X_step (pc' := 31) (ls' := ls21) (st' := [.int 6, .int N]) (h' := h) rfl rfl rfl ?_
        refine jx_ic (t := 52) rfl rfl rfl (fun hc31 => ?_) (fun hc31 => ?_)
        · have g31 := jc2_gt_t hc31
          refine az_X_step (pc' := 53) (ls' := ls21) (st' := [.int (-1)]) (h' := h) rfl rfl rfl ?_
          refine jx_ret rfl rfl rfl ?_
          exact ⟨(-1), rfl, hH, az_same_out.rf, Or.inr ⟨by omega, rfl, by decide⟩⟩
        · have g31 := jc2_gt_f hc31
          refine jm_iload (x := 0) rfl rfl (jM_at hl21 0 rfl) ?_
          refine jn_ifd (t := 52) (c := true) rfl rfl rfl (by decide) ?_
          show az_X P _ 159 52 ls21 [] _ _
          refine az_X_step (pc' := 53) (ls' := ls21) (st' := [.int (-1)]) (h' := h) rfl rfl rfl ?_
          refine jx_ret rfl rfl rfl ?_
          exact ⟨(-1), rfl, hH, az_same_out.rf, Or.inr ⟨by omega, rfl, by decide⟩⟩
    · have g13 := jc1_eq_f hc13
      refine az_X_step (pc' := 17) (ls' := ls) (st' := [.int 1]) (h' := h) rfl rfl rfl ?_
      refine az_X_step (pc' := 21) (ls' := ls) (st' := [.int 1]) (h' := h) rfl rfl rfl ?_
      refine jm_istore (l' := [(5, .int 1), (0, .ref (P.1 + 0)), (1, .int N), (2, .int D), (3, .int E), (4, .int W)]) rfl rfl (by decide) hl rfl rfl (fun ls21 hl21 => ?_)
      refine jm_iload_n (x := N) rfl rfl (jM_at hl21 2 rfl) ?_
      refine az_X_step (pc' := 25) (ls' := ls21) (st' := [.int 1, .int N]) (h' := h) rfl rfl rfl ?_
      refine jx_ic (t := 52) rfl rfl rfl (fun hc25 => ?_) (fun hc25 => ?_)
      · have g25 := jc2_lt_t hc25
        refine az_X_step (pc' := 53) (ls' := ls21) (st' := [.int (-1)]) (h' := h) rfl rfl rfl ?_
        refine jx_ret rfl rfl rfl ?_
        exact ⟨(-1), rfl, hH, az_same_out.rf, Or.inr ⟨by omega, rfl, by decide⟩⟩
      · have g25 := jc2_lt_f hc25
        refine jm_iload_n (x := N) rfl rfl (jM_at hl21 2 rfl) ?_
        refine az_X_step (pc' := 31) (ls' := ls21) (st' := [.int 6, .int N]) (h' := h) rfl rfl rfl ?_
        refine jx_ic (t := 52) rfl rfl rfl (fun hc31 => ?_) (fun hc31 => ?_)
        · have g31 := jc2_gt_t hc31
          refine az_X_step (pc' := 53) (ls' := ls21) (st' := [.int (-1)]) (h' := h) rfl rfl rfl ?_
          refine jx_ret rfl rfl rfl ?_
          exact ⟨(-1), rfl, hH, az_same_out.rf, Or.inr ⟨by omega, rfl, by decide⟩⟩
        · have g31 := jc2_gt_f hc31
          refine jm_iload (x := 1) rfl rfl (jM_at hl21 0 rfl) ?_
          refine jn_ifd (t := 52) (c := false) rfl rfl rfl (by decide) ?_
          show az_X P _ 159 39 ls21 [] _ _
          refine jm_aload_n (x := P.1 + 0) rfl rfl (jM_at hl21 1 rfl) ?_
          refine jx_gf (i := 0) rfl rfl hH (by decide) (hH.2 0 _ rfl).1 rfl (jx_rf hH rfl rfl) ?_
          refine az_X_step (pc' := 44) (ls' := ls21) (st' := [.int 2, .ref (P.1 + 12)]) (h' := h) rfl rfl rfl ?_
          refine jm_iload_n (x := N) rfl rfl (jM_at hl21 2 rfl) ?_
          refine jn_mul (a := 2) (b := N) rfl rfl (by rw [show (2 : Int32).toInt = 2 by decide]; omega) (by rw [show (2 : Int32).toInt = 2 by decide]; omega) (fun z45 ez45 => ?_)
          rw [show (2 : Int32).toInt = 2 by decide] at ez45
          refine az_X_call (m' := 138) (as := [.ref (P.1 + 12), .int z45]) (rest := []) rfl rfl rfl rfl rfl ?_ ?_
          · unfold si_call
            dsimp only
            rw [if_pos ⟨rfl, rfl⟩]
            show (match si_ix P h (P.1 + 12) with | some i => _ | none => none) = _
            rw [jix hH (by decide)]
            dsimp only
            rw [(hH.2 12 _ rfl).1]
            rfl
          refine (thas_ok hH z45).mono ?_
          rintro rv46 h46 ⟨q46, z46, rfl, ez46⟩
          subst h46
          show az_X P _ 159 49 ls21 [.int z46] _ _
          refine jx_if (t := 54) rfl rfl rfl (fun hc49 => ?_) (fun hc49 => ?_)
          · have g49 := jc1_ne_t hc49
            refine jm_aload_n (x := P.1 + 0) rfl rfl (jM_at hl21 1 rfl) ?_
            refine jx_gf (i := 0) rfl rfl hH (by decide) (hH.2 0 _ rfl).1 rfl (jx_rf hH rfl rfl) ?_
            refine jm_aload_n (x := P.1 + 0) rfl rfl (jM_at hl21 1 rfl) ?_
            refine jx_gf (i := 0) rfl rfl hH (by decide) (hH.2 0 _ rfl).1 rfl (jx_rf hH rfl rfl) ?_
            refine jm_iload_n (x := N) rfl rfl (jM_at hl21 2 rfl) ?_
            refine jm_iload_n (x := D) rfl rfl (jM_at hl21 3 rfl) ?_
            refine jm_iload_n (x := E) rfl rfl (jM_at hl21 4 rfl) ?_
            refine az_X_call (m' := 1) (as := [.ref (P.1 + 6), .ref (P.1 + 12), .int N, .int D, .int E]) (rest := []) rfl rfl rfl rfl rfl ?_ ?_
            · unfold si_call
              dsimp only
              rw [if_pos ⟨rfl, rfl⟩]
              show (match si_ix P h (P.1 + 6) with | some i => _ | none => none) = _
              rw [jix hH (by decide)]
              dsimp only
              rw [(hH.2 6 _ rfl).1]
              rfl
            refine (take_ok (d := d + 2) hxa hH N D E (by omega) (by omega) (by omega)).mono ?_
            rintro rv65 h65 ⟨z65, rfl, hH65, hs65, f65⟩
            show az_X P _ 159 68 ls21 [.int z65] _ _
            refine jm_istore (l' := [(6, .int z65), (5, .int 1), (0, .ref (P.1 + 0)), (1, .int N), (2, .int D), (3, .int E), (4, .int W)]) rfl rfl (by decide) hl21 rfl rfl (fun ls68 hl68 => ?_)
            refine jm_aload_n (x := P.1 + 0) rfl rfl (jM_at hl68 2 rfl) ?_
            refine jx_gf (i := 0) rfl rfl hH65 (by decide) (hH65.2 0 _ rfl).1 rfl (jx_rf hH65 rfl rfl) ?_
            refine az_X_call (m' := 142) (as := [.ref (P.1 + 12)]) (rest := []) rfl rfl rfl rfl rfl ?_ ?_
            · unfold si_call
              dsimp only
              rw [if_pos ⟨rfl, rfl⟩]
              show (match si_ix P h65 (P.1 + 12) with | some i => _ | none => none) = _
              rw [jix hH65 (by decide)]
              dsimp only
              rw [(hH65.2 12 _ rfl).1]
              rfl
            refine (tempty_ok hH65).mono ?_
            rintro rv74 h74 ⟨rfl, hH74, hs74, f74⟩
            show az_X P _ 159 77 ls68 [] _ _
            refine jm_iload (x := z65) rfl rfl (jM_at hl68 0 rfl) ?_
            refine jx_if (t := 85) rfl rfl rfl (fun hc79 => ?_) (fun hc79 => ?_)
            · have g79 := jc1_ne_t hc79
              refine jm_aload_n (x := P.1 + 0) rfl rfl (jM_at hl68 2 rfl) ?_
              refine jx_gf (i := 0) rfl rfl hH74 (by decide) (hH74.2 0 _ rfl).1 rfl (jx_rf hH74 rfl rfl) ?_
              refine az_X_call (m' := 8) (as := [.ref (P.1 + 6)]) (rest := []) rfl rfl rfl rfl rfl ?_ ?_
              · unfold si_call
                dsimp only
                rw [if_pos ⟨rfl, rfl⟩]
                show (match si_ix P h74 (P.1 + 6) with | some i => _ | none => none) = _
                rw [jix hH74 (by decide)]
                dsimp only
                rw [(hH74.2 6 _ rfl).1]
                rfl
              refine (co_ok (d := d) hxa hH74 (by
                have q : jCX h65 (ja h 1 0) (ja h 1 1) (ja h 1 0 * ja h 1 1).toNat N.toInt.toNat (fun i => ja h 13 i) D.toInt E.toInt := by
                  rcases f65 with ⟨-, -, a⟩ | ⟨a, -⟩
                  · exact a
                  · exact absurd a g79
                exact jCX_so hs74 (by decide) (by decide) (by decide) (by decide) q) (by omega) rfl).mono ?_
              rintro rv89 h89 ⟨rfl, hH89, hs89, f89⟩
              show az_X P _ 159 92 ls68 [] _ _
              refine jm_iload (x := W) rfl rfl (jM_at hl68 6 rfl) ?_
              refine jx_if (t := 107) rfl rfl rfl (fun hc94 => ?_) (fun hc94 => ?_)
              · have g94 := jc1_ne_t hc94
                refine jm_aload_n (x := P.1 + 0) rfl rfl (jM_at hl68 2 rfl) ?_
                refine jx_gf (i := 0) rfl rfl hH89 (by decide) (hH89.2 0 _ rfl).1 rfl (jx_rf hH89 rfl rfl) ?_
                refine az_X_call (m' := 13) (as := [.ref (P.1 + 6)]) (rest := []) rfl rfl rfl rfl rfl ?_ ?_
                · unfold si_call
                  dsimp only
                  rw [if_pos ⟨rfl, rfl⟩]
                  show (match si_ix P h89 (P.1 + 6) with | some i => _ | none => none) = _
                  rw [jix hH89 (by decide)]
                  dsimp only
                  rw [(hH89.2 6 _ rfl).1]
                  rfl
                refine (bf_ok (d := d + 4) hxa hH89 f89.1 (by omega) rfl f89.2).mono ?_
                rintro rv111 h111 ⟨q111, z111, rfl, ez111⟩
                subst h111
                show az_X P _ 159 114 ls68 [.int z111] _ _
                refine jx_ret rfl rfl rfl ?_
                have mk : ∀ i : Nat, i < 2 * N.toInt.toNat → ja h 13 i < ja h 1 0 := fun i hi => by
                  rcases f65 with ⟨-, a, -⟩ | ⟨a, -⟩
                  · exact a i (by omega)
                  · exact absurd a g79
                exact ⟨z111, rfl, hH89, ((hs65.sub (by decide)).tr ((hs74.sub (by decide)).tr (hs89.sub (by decide)))), Or.inl ⟨⟨by omega, by omega, by omega, by omega⟩, ((jso hs89 (by decide)).trans f74), Or.inr ⟨mk, Or.inr ⟨by omega, ez111⟩⟩⟩⟩
              · have g94 := jc1_ne_f hc94
                refine jm_aload_n (x := P.1 + 0) rfl rfl (jM_at hl68 2 rfl) ?_
                refine jx_gf (i := 0) rfl rfl hH89 (by decide) (hH89.2 0 _ rfl).1 rfl (jx_rf hH89 rfl rfl) ?_
                refine az_X_call (m' := 12) (as := [.ref (P.1 + 6)]) (rest := []) rfl rfl rfl rfl rfl ?_ ?_
                · unfold si_call
                  dsimp only
                  rw [if_pos ⟨rfl, rfl⟩]
                  show (match si_ix P h89 (P.1 + 6) with | some i => _ | none => none) = _
                  rw [jix hH89 (by decide)]
                  dsimp only
                  rw [(hH89.2 6 _ rfl).1]
                  rfl
                refine (om_ok (d := d + 4) hxa hH89 f89.1 (by omega) rfl f89.2).mono ?_
                rintro rv101 h101 ⟨q101, z101, rfl, ez101⟩
                subst h101
                show az_X P _ 159 104 ls68 [.int z101] _ _
                refine az_X_step (pc' := 114) (ls' := ls68) (st' := [.int z101]) (h' := h89) rfl rfl rfl ?_
                refine jx_ret rfl rfl rfl ?_
                have mk : ∀ i : Nat, i < 2 * N.toInt.toNat → ja h 13 i < ja h 1 0 := fun i hi => by
                  rcases f65 with ⟨-, a, -⟩ | ⟨a, -⟩
                  · exact a i (by omega)
                  · exact absurd a g79
                exact ⟨z101, rfl, hH89, ((hs65.sub (by decide)).tr ((hs74.sub (by decide)).tr (hs89.sub (by decide)))), Or.inl ⟨⟨by omega, by omega, by omega, by omega⟩, ((jso hs89 (by decide)).trans f74), Or.inr ⟨mk, Or.inl ⟨by omega, ez101⟩⟩⟩⟩
            · have g79 := jc1_ne_f hc79
              refine az_X_step (pc' := 84) (ls' := ls68) (st' := [.int (-3)]) (h' := h74) rfl rfl rfl ?_
              refine jx_ret rfl rfl rfl ?_
              rcases f65 with ⟨a, -⟩ | ⟨-, i, i1, i2⟩
              · omega
              · exact ⟨(-3), rfl, hH74, ((hs65.sub (by decide)).tr (hs74.sub (by decide))), Or.inl ⟨⟨by omega, by omega, by omega, by omega⟩, f74, Or.inl ⟨⟨i, by omega, i2⟩, by decide⟩⟩⟩
          · have g49 := jc1_ne_f hc49
            refine az_X_step (pc' := 53) (ls' := ls21) (st' := [.int (-1)]) (h' := h) rfl rfl rfl ?_
            refine jx_ret rfl rfl rfl ?_
            exact ⟨(-1), rfl, hH, az_same_out.rf, Or.inr ⟨by omega, rfl, by decide⟩⟩
