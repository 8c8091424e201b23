set_option maxRecDepth 100000
/-! MIRRORS -/
theorem jb_01 (b : Bool) : jb b = 0 ∨ jb b = 1 := by
  unfold jb
  cases b
  · exact Or.inl rfl
  · exact Or.inr rfl
/-- the lowest time with the hands there, whichever at which -/
def jlA (m r a b : Int) : Int := if jlw m r a b < 0 ∨ jlw m r b a < 0 then max (jlw m r a b) (jlw m r b a) else min (jlw m r a b) (jlw m r b a)
/-- how a time looks in a mirror -/
def jmL (m r t : Int) : Int := 64 * min ((m - t % m) % m) ((m - t / r) % m) + max ((m - t % m) % m) ((m - t / r) % m)
theorem jmdd {m x : Int} (hm : 4 ≤ m) : 0 ≤ (m - x) % m ∧ (m - x) % m < m := ⟨Int.emod_nonneg _ (by omega), Int.emod_lt_of_pos _ (by omega)⟩
theorem jmq_p {m r s l : Int} (hm : 4 ≤ m ∧ m ≤ 60) (hr : 2 ≤ r ∧ r ≤ 24) (hs : 0 ≤ s ∧ s < m) (hl : 0 ≤ l ∧ l < m) : (jlw m r s l < 0 ∧ jmq m r s l = 0) ∨ (0 ≤ jlw m r s l ∧ 1 ≤ jmq m r s l) := by
  have b := nm_mulnn (a := 0) (b := 60) (c := 2) (d := 24) (x := s) (y := r) (by decide) (by decide) hs.1 (by omega) hr.1 hr.2
  have e := jmq_eq (m := m) (r := r) (s := s) (l := l) (by omega) (by omega) (by omega) hl
  rcases Int.lt_or_le (jlw m r s l) 0 with c | c
  · exact Or.inl ⟨c, e.1 c⟩
  · obtain ⟨e1, e2, e3⟩ := e.2 c
    refine Or.inr ⟨c, ?_⟩
    rw [e3]
    have := Int.ediv_nonneg (a := s * r + r - 1 - jlw m r s l) (b := m) (by omega) (by omega)
    omega
theorem jmir {m r t : Int} {y : Nat} (hm : 4 ≤ m ∧ m ≤ 60) (hr : 2 ≤ r ∧ r ≤ 24) (hy : m * r = y) : 0 ≤ jlA m r ((m - t / r) % m) ((m - t % m) % m) ↔ 0 < jam m r y (jmL m r t) := by
  have d1 := jmdd (x := t / r) hm.1
  have d2 := jmdd (x := t % m) hm.1
  unfold jmL
  rw [jam_at hm hr hy d1 d2]
  unfold jlA
  have p1 := jmq_p hm hr d1 d2
  have p2 := jmq_p hm hr d2 d1
  by_cases c : (m - t / r) % m = (m - t % m) % m
  · rw [if_pos c, c]
    rw [c] at p1
    split <;> omega
  · rw [if_neg c]
    split <;> omega
theorem jmir1 {m r t : Int} (hm : 4 ≤ m ∧ m ≤ 60) (ht : (0 ≤ t % m ∧ t % m < m) ∧ (0 ≤ t / r ∧ t / r < m)) : ((t / r = (m - t / r) % m ∧ t % m = (m - t % m) % m) ∨ (t / r = (m - t % m) % m ∧ t % m = (m - t / r) % m)) ↔ jmL m r t = jlk m r t := by
  have d1 := jmdd (x := t / r) hm.1
  have d2 := jmdd (x := t % m) hm.1
  unfold jmL jlk
  rw [jlk_iff (a := (m - t % m) % m) (b := (m - t / r) % m) (s := t / r) (l := t % m) (by omega) (by omega) (by omega) (by omega)]
  omega
def jmp (m r : Int) (y : Nat) (w : Int) (t : Nat) : Bool := if w = 1 then decide (jmL m r t = jlk m r t) else decide (0 < jam m r y (jmL m r t))
/-- what mirrors answers -/
def jmi (m r : Int) (y : Nat) (w z : Int) : Prop := (0 ≤ w ∧ w ≤ 1 ∧ z = jct (jmp m r y w) y) ∨ (¬ (0 ≤ w ∧ w ≤ 1) ∧ z = -1)
theorem jmi_un {m r : Int} {y : Nat} {w z u : Int} (h1 : jmi m r y w z) (h2 : jmi m r y w u) : z = u := by
  rcases h1 with ⟨a1, a2, b⟩ | ⟨a1, b⟩ <;> rcases h2 with ⟨c1, c2, e⟩ | ⟨c1, e⟩
  · rw [b, e]
  · exact absurd ⟨a1, a2⟩ c1
  · exact absurd ⟨c1, c2⟩ a1
  · rw [b, e]
theorem ctwo_ok {P : si_P} {d : Nat} {h : si_H} (i : Int32) : az_X P d 188 0 (lv_args 0 [.int i]) [] h (fun rv h' => h' = h ∧ ∃ z : Int32, rv = some (.int z) ∧ ((z.toInt = 1 ∧ 0 ≤ i.toInt ∧ i.toInt ≤ 1) ∨ (z.toInt = 0 ∧ ¬ (0 ≤ i.toInt ∧ i.toInt ≤ 1)))) := by
  have hl : jM [(0, .int i)] (lv_args 0 [.int i]) := jM_args [0] rfl (by decide)
  generalize lv_args 0 [.int i] = ls at hl
  have k0 : (0 : Int32).toInt = 0 := by decide
  have k1 : (1 : Int32).toInt = 1 := by decide
  refine jm_iload_n (x := i) rfl rfl (jM_at hl 0 rfl) ?_
  refine jx_if (t := 9) rfl rfl rfl (fun hc1 => ?_) (fun hc1 => ?_)
  · have g1 := jc1_eq_t hc1
    refine az_X_step (pc' := 10) (ls' := ls) (st' := [.int 1]) (h' := h) rfl rfl rfl ?_
    refine az_X_step (pc' := 14) (ls' := ls) (st' := [.int 1]) (h' := h) rfl rfl rfl ?_
    refine jx_retz rfl rfl rfl (by decide) ?_
    exact ⟨rfl, 1, rfl, by omega⟩
  · have g1 := jc1_eq_f hc1
    refine jm_iload_n (x := i) rfl rfl (jM_at hl 0 rfl) ?_
    refine az_X_step (pc' := 6) (ls' := ls) (st' := [.int 1, .int i]) (h' := h) rfl rfl rfl ?_
    refine jx_ic (t := 13) rfl rfl rfl (fun hc6 => ?_) (fun hc6 => ?_)
    · have g6 := jc2_ne_t hc6
      refine az_X_step (pc' := 14) (ls' := ls) (st' := [.int 0]) (h' := h) rfl rfl rfl ?_
      refine jx_retz rfl rfl rfl (by decide) ?_
      exact ⟨rfl, 0, rfl, by omega⟩
    · have g6 := jc2_ne_f hc6
      refine az_X_step (pc' := 10) (ls' := ls) (st' := [.int 1]) (h' := h) rfl rfl rfl ?_
      refine az_X_step (pc' := 14) (ls' := ls) (st' := [.int 1]) (h' := h) rfl rfl rfl ?_
      refine jx_retz rfl rfl rfl (by decide) ?_
      exact ⟨rfl, 1, rfl, by omega⟩
theorem cisat_ok {P : si_P} {d : Nat} {h : si_H} (hH : az_HI P az_tb h) (t a b : Int32) (ht : 0 ≤ t.toInt) : az_X P (d + 2) 82 0 (lv_args 0 [.ref (P.1 + 1), .int t, .int a, .int b]) [] h (fun rv h' => h' = h ∧ jV rv (jb (decide ((t.toInt / ja h 1 1 = a.toInt ∧ t.toInt % ja h 1 0 = b.toInt) ∨ (t.toInt / ja h 1 1 = b.toInt ∧ t.toInt % ja h 1 0 = a.toInt))))) := by
  have bm : 4 ≤ ja h 1 0 ∧ ja h 1 0 ≤ 60 := ja_bd hH (i := 1) (k := 0) rfl
  have br : 2 ≤ ja h 1 1 ∧ ja h 1 1 ≤ 24 := ja_bd hH (i := 1) (k := 1) rfl
  have bp := nm_mulnn (a := 4) (b := 60) (c := 2) (d := 24) (x := ja h 1 0) (y := ja h 1 1) (by decide) (by decide) bm.1 bm.2 br.1 br.2
  have hl : jM [(0, .ref (P.1 + 1)), (1, .int t), (2, .int a), (3, .int b)] (lv_args 0 [.ref (P.1 + 1), .int t, .int a, .int b]) := jM_args [0, 1, 2, 3] rfl (by decide)
  generalize lv_args 0 [.ref (P.1 + 1), .int t, .int a, .int b] = ls at hl
  have k0 : (0 : Int32).toInt = 0 := by decide
  have k1 : (1 : Int32).toInt = 1 := by decide
  refine jm_aload_n (x := P.1 + 1) rfl rfl (jM_at hl 0 rfl) ?_
  refine jm_iload_n (x := t) rfl rfl (jM_at hl 1 rfl) ?_
  refine az_X_call (m' := 76) (as := [.ref (P.1 + 1), .int t]) (rest := []) rfl rfl rfl rfl rfl ?_ ?_
  · unfold si_call
    dsimp only
    rw [if_pos ⟨rfl, rfl⟩]
    show (match si_ix P h (P.1 + 1) with | some i => _ | none => none) = _
    rw [jix hH (by decide)]
    dsimp only
    rw [(hH.2 1 _ rfl).1]
    rfl
  refine (cshort_ok hH t ht).mono ?_
  rintro rv2 h2 ⟨q2, z2, rfl, ez2⟩
  subst h2
  show az_X P _ 82 5 ls [.int z2] _ _
  refine jm_istore (l' := [(4, .int z2), (0, .ref (P.1 + 1)), (1, .int t), (2, .int a), (3, .int b)]) rfl rfl (by decide) hl rfl rfl (fun ls5 hl5 => ?_)
  refine jm_aload_n (x := P.1 + 1) rfl rfl (jM_at hl5 1 rfl) ?_
  refine jm_iload_n (x := t) rfl rfl (jM_at hl5 2 rfl) ?_
  refine az_X_call (m' := 77) (as := [.ref (P.1 + 1), .int t]) (rest := []) rfl rfl rfl rfl rfl ?_ ?_
  · unfold si_call
    dsimp only
    rw [if_pos ⟨rfl, rfl⟩]
    show (match si_ix P h (P.1 + 1) with | some i => _ | none => none) = _
    rw [jix hH (by decide)]
    dsimp only
    rw [(hH.2 1 _ rfl).1]
    rfl
  refine (clong_ok hH t).mono ?_
  rintro rv9 h9 ⟨q9, z9, rfl, ez9⟩
  subst h9
  show az_X P _ 82 12 ls5 [.int z9] _ _
  refine jm_istore (l' := [(5, .int z9), (4, .int z2), (0, .ref (P.1 + 1)), (1, .int t), (2, .int a), (3, .int b)]) rfl rfl (by decide) hl5 rfl rfl (fun ls12 hl12 => ?_)
  refine jm_iload (x := z2) rfl rfl (jM_at hl12 1 rfl) ?_
  refine jm_iload_n (x := a) rfl rfl (jM_at hl12 4 rfl) ?_
  refine jx_ic (t := 26) rfl rfl rfl (fun hc17 => ?_) (fun hc17 => ?_)
  · have g17 := jc2_ne_t hc17
    refine jm_iload (x := z2) rfl rfl (jM_at hl12 1 rfl) ?_
    refine jm_iload_n (x := b) rfl rfl (jM_at hl12 5 rfl) ?_
    refine jx_ic (t := 42) rfl rfl rfl (fun hc29 => ?_) (fun hc29 => ?_)
    · have g29 := jc2_ne_t hc29
      refine az_X_step (pc' := 43) (ls' := ls12) (st' := [.int 0]) (h' := h) rfl rfl rfl ?_
      refine jx_retz rfl rfl rfl (by decide) ?_
      exact ⟨rfl, 0, rfl, by unfold jb; rw [decide_eq_false (by omega), if_neg (by decide)]; decide⟩
    · have g29 := jc2_ne_f hc29
      refine jm_iload (x := z9) rfl rfl (jM_at hl12 0 rfl) ?_
      refine jm_iload_n (x := a) rfl rfl (jM_at hl12 4 rfl) ?_
      refine jx_ic (t := 42) rfl rfl rfl (fun hc35 => ?_) (fun hc35 => ?_)
      · have g35 := jc2_ne_t hc35
        refine az_X_step (pc' := 43) (ls' := ls12) (st' := [.int 0]) (h' := h) rfl rfl rfl ?_
        refine jx_retz rfl rfl rfl (by decide) ?_
        exact ⟨rfl, 0, rfl, by unfold jb; rw [decide_eq_false (by omega), if_neg (by decide)]; decide⟩
      · have g35 := jc2_ne_f hc35
        refine az_X_step (pc' := 39) (ls' := ls12) (st' := [.int 1]) (h' := h) rfl rfl rfl ?_
        refine az_X_step (pc' := 43) (ls' := ls12) (st' := [.int 1]) (h' := h) rfl rfl rfl ?_
        refine jx_retz rfl rfl rfl (by decide) ?_
        exact ⟨rfl, 1, rfl, by unfold jb; rw [decide_eq_true (by omega), if_pos rfl]; decide⟩
  · have g17 := jc2_ne_f hc17
    refine jm_iload (x := z9) rfl rfl (jM_at hl12 0 rfl) ?_
    refine jm_iload_n (x := b) rfl rfl (jM_at hl12 5 rfl) ?_
    refine jx_ic (t := 38) rfl rfl rfl (fun hc23 => ?_) (fun hc23 => ?_)
    · have g23 := jc2_eq_t hc23
      refine az_X_step (pc' := 39) (ls' := ls12) (st' := [.int 1]) (h' := h) rfl rfl rfl ?_
      refine az_X_step (pc' := 43) (ls' := ls12) (st' := [.int 1]) (h' := h) rfl rfl rfl ?_
      refine jx_retz rfl rfl rfl (by decide) ?_
      exact ⟨rfl, 1, rfl, by unfold jb; rw [decide_eq_true (by omega), if_pos rfl]; decide⟩
    · have g23 := jc2_eq_f hc23
      refine jm_iload (x := z2) rfl rfl (jM_at hl12 1 rfl) ?_
      refine jm_iload_n (x := b) rfl rfl (jM_at hl12 5 rfl) ?_
      refine jx_ic (t := 42) rfl rfl rfl (fun hc29 => ?_) (fun hc29 => ?_)
      · have g29 := jc2_ne_t hc29
        refine az_X_step (pc' := 43) (ls' := ls12) (st' := [.int 0]) (h' := h) rfl rfl rfl ?_
        refine jx_retz rfl rfl rfl (by decide) ?_
        exact ⟨rfl, 0, rfl, by unfold jb; rw [decide_eq_false (by omega), if_neg (by decide)]; decide⟩
      · have g29 := jc2_ne_f hc29
        refine jm_iload (x := z9) rfl rfl (jM_at hl12 0 rfl) ?_
        refine jm_iload_n (x := a) rfl rfl (jM_at hl12 4 rfl) ?_
        refine jx_ic (t := 42) rfl rfl rfl (fun hc35 => ?_) (fun hc35 => ?_)
        · have g35 := jc2_ne_t hc35
          refine az_X_step (pc' := 43) (ls' := ls12) (st' := [.int 0]) (h' := h) rfl rfl rfl ?_
          refine jx_retz rfl rfl rfl (by decide) ?_
          exact ⟨rfl, 0, rfl, by unfold jb; rw [decide_eq_false (by omega), if_neg (by decide)]; decide⟩
        · have g35 := jc2_ne_f hc35
          refine az_X_step (pc' := 39) (ls' := ls12) (st' := [.int 1]) (h' := h) rfl rfl rfl ?_
          refine az_X_step (pc' := 43) (ls' := ls12) (st' := [.int 1]) (h' := h) rfl rfl rfl ?_
          refine jx_retz rfl rfl rfl (by decide) ?_
          exact ⟨rfl, 1, rfl, by unfold jb; rw [decide_eq_true (by omega), if_pos rfl]; decide⟩
theorem cmirr_ok {P : si_P} {d : Nat} {h : si_H} (hH : az_HI P az_tb h) (k : Int32) (hk : 0 ≤ k.toInt ∧ k.toInt < ja h 1 0) : az_X P d 78 0 (lv_args 0 [.ref (P.1 + 1), .int k]) [] h (fun rv h' => h' = h ∧ jV rv ((ja h 1 0 - k.toInt) % ja h 1 0)) := by
  have bm : 4 ≤ ja h 1 0 ∧ ja h 1 0 ≤ 60 := ja_bd hH (i := 1) (k := 0) rfl
  have br : 2 ≤ ja h 1 1 ∧ ja h 1 1 ≤ 24 := ja_bd hH (i := 1) (k := 1) rfl
  have bp := nm_mulnn (a := 4) (b := 60) (c := 2) (d := 24) (x := ja h 1 0) (y := ja h 1 1) (by decide) (by decide) bm.1 bm.2 br.1 br.2
  have hl : jM [(0, .ref (P.1 + 1)), (1, .int k)] (lv_args 0 [.ref (P.1 + 1), .int k]) := jM_args [0, 1] rfl (by decide)
  generalize lv_args 0 [.ref (P.1 + 1), .int k] = ls at hl
  have k0 : (0 : Int32).toInt = 0 := by decide
  refine jm_iload_n (x := k) rfl rfl (jM_at hl 1 rfl) ?_
  refine jx_if (t := 8) rfl rfl rfl (fun hc1 => ?_) (fun hc1 => ?_)
  · have g1 := jc1_ne_t hc1
    refine jm_aload_n (x := P.1 + 1) rfl rfl (jM_at hl 0 rfl) ?_
    refine jn_gf (i := 1) (k := 0) rfl rfl hH (by decide) (hH.2 1 _ rfl).1 rfl rfl (fun z9 (ez9 : z9.toInt = ja h 1 0) (bz9 : 4 ≤ z9.toInt ∧ z9.toInt ≤ 60) => ?_)
    refine jm_iload_n (x := k) rfl rfl (jM_at hl 1 rfl) ?_
    refine jn_sub (a := z9) (b := k) rfl rfl (by omega) (by omega) (fun z13 ez13 => ?_)
    refine jx_ret rfl rfl rfl ?_
    exact ⟨rfl, z13, rfl, by rw [Int.emod_eq_of_lt (by omega) (by omega)]; omega⟩
  · have g1 := jc1_ne_f hc1
    refine az_X_step (pc' := 5) (ls' := ls) (st' := [.int 0]) (h' := h) rfl rfl rfl ?_
    refine az_X_step (pc' := 14) (ls' := ls) (st' := [.int 0]) (h' := h) rfl rfl rfl ?_
    refine jx_ret rfl rfl rfl ?_
    exact ⟨rfl, 0, rfl, by rw [show k.toInt = 0 by omega, Int.sub_zero, Int.emod_self]; decide⟩
theorem clowat_ok {P : si_P} {d : Nat} {h : si_H} (hH : az_HI P az_tb h) (a b : Int32) (ha : 0 ≤ a.toInt ∧ a.toInt < ja h 1 0) (hb : 0 ≤ b.toInt ∧ b.toInt < ja h 1 0) : az_X P (d + 2) 84 0 (lv_args 0 [.ref (P.1 + 1), .int a, .int b]) [] h (fun rv h' => h' = h ∧ jV rv (jlA (ja h 1 0) (ja h 1 1) a.toInt b.toInt)) := by
  have bm : 4 ≤ ja h 1 0 ∧ ja h 1 0 ≤ 60 := ja_bd hH (i := 1) (k := 0) rfl
  have br : 2 ≤ ja h 1 1 ∧ ja h 1 1 ≤ 24 := ja_bd hH (i := 1) (k := 1) rfl
  have bp := nm_mulnn (a := 4) (b := 60) (c := 2) (d := 24) (x := ja h 1 0) (y := ja h 1 1) (by decide) (by decide) bm.1 bm.2 br.1 br.2
  have hl : jM [(0, .ref (P.1 + 1)), (1, .int a), (2, .int b)] (lv_args 0 [.ref (P.1 + 1), .int a, .int b]) := jM_args [0, 1, 2] rfl (by decide)
  generalize lv_args 0 [.ref (P.1 + 1), .int a, .int b] = ls at hl
  have k0 : (0 : Int32).toInt = 0 := by decide
  refine jm_aload_n (x := P.1 + 1) rfl rfl (jM_at hl 0 rfl) ?_
  refine jm_iload_n (x := a) rfl rfl (jM_at hl 1 rfl) ?_
  refine jm_iload_n (x := b) rfl rfl (jM_at hl 2 rfl) ?_
  refine az_X_call (m' := 83) (as := [.ref (P.1 + 1), .int a, .int b]) (rest := []) rfl rfl rfl rfl rfl ?_ ?_
  · unfold si_call
    dsimp only
    rw [if_pos ⟨rfl, rfl⟩]
    show (match si_ix P h (P.1 + 1) with | some i => _ | none => none) = _
    rw [jix hH (by decide)]
    dsimp only
    rw [(hH.2 1 _ rfl).1]
    rfl
  refine (lowest_ok hH a b (by omega) (by omega)).mono ?_
  rintro rv3 h3 ⟨q3, z3, rfl, ez3⟩
  subst h3
  show az_X P _ 84 6 ls [.int z3] _ _
  refine jm_istore_n (l' := [(3, .int z3), (0, .ref (P.1 + 1)), (1, .int a), (2, .int b)]) rfl rfl (by decide) hl rfl rfl (fun ls6 hl6 => ?_)
  refine jm_aload_n (x := P.1 + 1) rfl rfl (jM_at hl6 1 rfl) ?_
  refine jm_iload_n (x := b) rfl rfl (jM_at hl6 3 rfl) ?_
  refine jm_iload_n (x := a) rfl rfl (jM_at hl6 2 rfl) ?_
  refine az_X_call (m' := 83) (as := [.ref (P.1 + 1), .int b, .int a]) (rest := []) rfl rfl rfl rfl rfl ?_ ?_
  · unfold si_call
    dsimp only
    rw [if_pos ⟨rfl, rfl⟩]
    show (match si_ix P h (P.1 + 1) with | some i => _ | none => none) = _
    rw [jix hH (by decide)]
    dsimp only
    rw [(hH.2 1 _ rfl).1]
    rfl
  refine (lowest_ok hH b a (by omega) (by omega)).mono ?_
  rintro rv10 h10 ⟨q10, z10, rfl, ez10⟩
  subst h10
  show az_X P _ 84 13 ls6 [.int z10] _ _
  refine jm_istore (l' := [(4, .int z10), (3, .int z3), (0, .ref (P.1 + 1)), (1, .int a), (2, .int b)]) rfl rfl (by decide) hl6 rfl rfl (fun ls13 hl13 => ?_)
  refine jm_iload_n (x := z3) rfl rfl (jM_at hl13 1 rfl) ?_
  refine jx_if (t := 24) rfl rfl rfl (fun hc16 => ?_) (fun hc16 => ?_)
  · have g16 := jc1_lt_t hc16
    refine jm_iload_n (x := z3) rfl rfl (jM_at hl13 1 rfl) ?_
    refine jm_iload (x := z10) rfl rfl (jM_at hl13 0 rfl) ?_
    refine az_X_call (m' := 343) (as := [.int z3, .int z10]) (rest := []) rfl rfl rfl rfl rfl rfl ?_
    refine (cmax2_ok z3 z10).mono ?_
    rintro rv27 h27 ⟨q27, z27, rfl, ez27⟩
    subst h27
    show az_X P _ 84 30 ls13 [.int z27] _ _
    refine az_X_step (pc' := 39) (ls' := ls13) (st' := [.int z27]) (h' := h) rfl rfl rfl ?_
    refine jx_ret rfl rfl rfl ?_
    refine ⟨rfl, z27, rfl, ?_⟩
    rw [ez3, ez10] at *
    unfold jlA
    rw [if_pos (by omega), ez27]
  · have g16 := jc1_lt_f hc16
    refine jm_iload (x := z10) rfl rfl (jM_at hl13 0 rfl) ?_
    refine jx_if (t := 33) rfl rfl rfl (fun hc21 => ?_) (fun hc21 => ?_)
    · have g21 := jc1_ge_t hc21
      refine jm_iload_n (x := z3) rfl rfl (jM_at hl13 1 rfl) ?_
      refine jm_iload (x := z10) rfl rfl (jM_at hl13 0 rfl) ?_
      refine az_X_call (m' := 344) (as := [.int z3, .int z10]) (rest := []) rfl rfl rfl rfl rfl rfl ?_
      refine (cmin2_ok z3 z10).mono ?_
      rintro rv36 h36 ⟨q36, z36, rfl, ez36⟩
      subst h36
      show az_X P _ 84 39 ls13 [.int z36] _ _
      refine jx_ret rfl rfl rfl ?_
      refine ⟨rfl, z36, rfl, ?_⟩
      rw [ez3, ez10] at *
      unfold jlA
      rw [if_neg (by omega), ez36]
    · have g21 := jc1_ge_f hc21
      refine jm_iload_n (x := z3) rfl rfl (jM_at hl13 1 rfl) ?_
      refine jm_iload (x := z10) rfl rfl (jM_at hl13 0 rfl) ?_
      refine az_X_call (m' := 343) (as := [.int z3, .int z10]) (rest := []) rfl rfl rfl rfl rfl rfl ?_
      refine (cmax2_ok z3 z10).mono ?_
      rintro rv27 h27 ⟨q27, z27, rfl, ez27⟩
      subst h27
      show az_X P _ 84 30 ls13 [.int z27] _ _
      refine az_X_step (pc' := 39) (ls' := ls13) (st' := [.int z27]) (h' := h) rfl rfl rfl ?_
      refine jx_ret rfl rfl rfl ?_
      refine ⟨rfl, z27, rfl, ?_⟩
      rw [ez3, ez10] at *
      unfold jlA
      rw [if_pos (by omega), ez27]
theorem cmirof_ok {P : si_P} {d : Nat} {h : si_H} (hH : az_HI P az_tb h) (t : Int32) (ht : 0 ≤ t.toInt ∧ t.toInt < ja h 1 0 * ja h 1 1) : az_X P (d + 3) 108 0 (lv_args 0 [.ref (P.1 + 3), .int t]) [] h (fun rv h' => h' = h ∧ jV rv (jlA (ja h 1 0) (ja h 1 1) ((ja h 1 0 - t.toInt / ja h 1 1) % ja h 1 0) ((ja h 1 0 - t.toInt % ja h 1 0) % ja h 1 0))) := by
  have bm : 4 ≤ ja h 1 0 ∧ ja h 1 0 ≤ 60 := ja_bd hH (i := 1) (k := 0) rfl
  have br : 2 ≤ ja h 1 1 ∧ ja h 1 1 ≤ 24 := ja_bd hH (i := 1) (k := 1) rfl
  have bp := nm_mulnn (a := 4) (b := 60) (c := 2) (d := 24) (x := ja h 1 0) (y := ja h 1 1) (by decide) (by decide) bm.1 bm.2 br.1 br.2
  have dm := jdm (m := ja h 1 0) (r := ja h 1 1) (a := t.toInt) bm br ht.1 ht.2
  have hl : jM [(0, .ref (P.1 + 3)), (1, .int t)] (lv_args 0 [.ref (P.1 + 3), .int t]) := jM_args [0, 1] rfl (by decide)
  generalize lv_args 0 [.ref (P.1 + 3), .int t] = ls at hl
  refine jm_aload_n (x := P.1 + 3) rfl rfl (jM_at hl 0 rfl) ?_
  refine jx_gf (i := 3) rfl rfl hH (by decide) (hH.2 3 _ rfl).1 rfl (jx_rf hH rfl rfl) ?_
  refine jm_aload_n (x := P.1 + 3) rfl rfl (jM_at hl 0 rfl) ?_
  refine jx_gf (i := 3) rfl rfl hH (by decide) (hH.2 3 _ rfl).1 rfl (jx_rf hH rfl rfl) ?_
  refine jm_aload_n (x := P.1 + 3) rfl rfl (jM_at hl 0 rfl) ?_
  refine jx_gf (i := 3) rfl rfl hH (by decide) (hH.2 3 _ rfl).1 rfl (jx_rf hH rfl rfl) ?_
  refine jm_iload_n (x := t) rfl rfl (jM_at hl 1 rfl) ?_
  refine az_X_call (m' := 76) (as := [.ref (P.1 + 1), .int t]) (rest := [.ref (P.1 + 1), .ref (P.1 + 1)]) rfl rfl rfl rfl rfl ?_ ?_
  · unfold si_call
    dsimp only
    rw [if_pos ⟨rfl, rfl⟩]
    show (match si_ix P h (P.1 + 1) with | some i => _ | none => none) = _
    rw [jix hH (by decide)]
    dsimp only
    rw [(hH.2 1 _ rfl).1]
    rfl
  refine (cshort_ok hH t ht.1).mono ?_
  rintro rv13 h13 ⟨q13, z13, rfl, ez13⟩
  subst h13
  show az_X P _ 108 16 ls [.int z13, .ref (P.1 + 1), .ref (P.1 + 1)] _ _
  refine az_X_call (m' := 78) (as := [.ref (P.1 + 1), .int z13]) (rest := [.ref (P.1 + 1)]) rfl rfl rfl rfl rfl ?_ ?_
  · unfold si_call
    dsimp only
    rw [if_pos ⟨rfl, rfl⟩]
    show (match si_ix P h (P.1 + 1) with | some i => _ | none => none) = _
    rw [jix hH (by decide)]
    dsimp only
    rw [(hH.2 1 _ rfl).1]
    rfl
  refine (cmirr_ok hH z13 (by omega)).mono ?_
  rintro rv16 h16 ⟨q16, z16, rfl, ez16⟩
  subst h16
  have bz16 : 0 ≤ z16.toInt ∧ z16.toInt < ja h 1 0 := by
    rw [ez16]
    exact jmdd bm.1
  show az_X P _ 108 19 ls [.int z16, .ref (P.1 + 1)] _ _
  refine jm_aload_n (x := P.1 + 3) rfl rfl (jM_at hl 0 rfl) ?_
  refine jx_gf (i := 3) rfl rfl hH (by decide) (hH.2 3 _ rfl).1 rfl (jx_rf hH rfl rfl) ?_
  refine jm_aload_n (x := P.1 + 3) rfl rfl (jM_at hl 0 rfl) ?_
  refine jx_gf (i := 3) rfl rfl hH (by decide) (hH.2 3 _ rfl).1 rfl (jx_rf hH rfl rfl) ?_
  refine jm_iload_n (x := t) rfl rfl (jM_at hl 1 rfl) ?_
  refine az_X_call (m' := 77) (as := [.ref (P.1 + 1), .int t]) (rest := [.ref (P.1 + 1), .int z16, .ref (P.1 + 1)]) rfl rfl rfl rfl rfl ?_ ?_
  · unfold si_call
    dsimp only
    rw [if_pos ⟨rfl, rfl⟩]
    show (match si_ix P h (P.1 + 1) with | some i => _ | none => none) = _
    rw [jix hH (by decide)]
    dsimp only
    rw [(hH.2 1 _ rfl).1]
    rfl
  refine (clong_ok hH t).mono ?_
  rintro rv28 h28 ⟨q28, z28, rfl, ez28⟩
  subst h28
  show az_X P _ 108 31 ls [.int z28, .ref (P.1 + 1), .int z16, .ref (P.1 + 1)] _ _
  refine az_X_call (m' := 78) (as := [.ref (P.1 + 1), .int z28]) (rest := [.int z16, .ref (P.1 + 1)]) rfl rfl rfl rfl rfl ?_ ?_
  · unfold si_call
    dsimp only
    rw [if_pos ⟨rfl, rfl⟩]
    show (match si_ix P h (P.1 + 1) with | some i => _ | none => none) = _
    rw [jix hH (by decide)]
    dsimp only
    rw [(hH.2 1 _ rfl).1]
    rfl
  refine (cmirr_ok hH z28 (by omega)).mono ?_
  rintro rv31 h31 ⟨q31, z31, rfl, ez31⟩
  subst h31
  have bz31 : 0 ≤ z31.toInt ∧ z31.toInt < ja h 1 0 := by
    rw [ez31]
    exact jmdd bm.1
  show az_X P _ 108 34 ls [.int z31, .int z16, .ref (P.1 + 1)] _ _
  refine az_X_call (m' := 84) (as := [.ref (P.1 + 1), .int z16, .int z31]) (rest := []) rfl rfl rfl rfl rfl ?_ ?_
  · unfold si_call
    dsimp only
    rw [if_pos ⟨rfl, rfl⟩]
    show (match si_ix P h (P.1 + 1) with | some i => _ | none => none) = _
    rw [jix hH (by decide)]
    dsimp only
    rw [(hH.2 1 _ rfl).1]
    rfl
  refine (clowat_ok hH z16 z31 bz16 bz31).mono ?_
  rintro rv34 h34 ⟨q34, z34, rfl, ez34⟩
  subst h34
  show az_X P _ 108 37 ls [.int z34] _ _
  refine jx_ret rfl rfl rfl ?_
  exact ⟨rfl, z34, rfl, by rw [ez34, ez16, ez31, ez13, ez28]⟩
theorem cown_ok {P : si_P} {d : Nat} {h : si_H} (hH : az_HI P az_tb h) (t : Int32) (ht : 0 ≤ t.toInt ∧ t.toInt < ja h 1 0 * ja h 1 1) : az_X P (d + 3) 110 0 (lv_args 0 [.ref (P.1 + 3), .int t]) [] h (fun rv h' => h' = h ∧ jV rv (jb (decide ((t.toInt / ja h 1 1 = ((ja h 1 0 - t.toInt / ja h 1 1) % ja h 1 0) ∧ t.toInt % ja h 1 0 = ((ja h 1 0 - t.toInt % ja h 1 0) % ja h 1 0)) ∨ (t.toInt / ja h 1 1 = ((ja h 1 0 - t.toInt % ja h 1 0) % ja h 1 0) ∧ t.toInt % ja h 1 0 = ((ja h 1 0 - t.toInt / ja h 1 1) % ja h 1 0)))))) := by
  have bm : 4 ≤ ja h 1 0 ∧ ja h 1 0 ≤ 60 := ja_bd hH (i := 1) (k := 0) rfl
  have br : 2 ≤ ja h 1 1 ∧ ja h 1 1 ≤ 24 := ja_bd hH (i := 1) (k := 1) rfl
  have bp := nm_mulnn (a := 4) (b := 60) (c := 2) (d := 24) (x := ja h 1 0) (y := ja h 1 1) (by decide) (by decide) bm.1 bm.2 br.1 br.2
  have dm := jdm (m := ja h 1 0) (r := ja h 1 1) (a := t.toInt) bm br ht.1 ht.2
  have hl : jM [(0, .ref (P.1 + 3)), (1, .int t)] (lv_args 0 [.ref (P.1 + 3), .int t]) := jM_args [0, 1] rfl (by decide)
  generalize lv_args 0 [.ref (P.1 + 3), .int t] = ls at hl
  refine jm_aload_n (x := P.1 + 3) rfl rfl (jM_at hl 0 rfl) ?_
  refine jx_gf (i := 3) rfl rfl hH (by decide) (hH.2 3 _ rfl).1 rfl (jx_rf hH rfl rfl) ?_
  refine jm_iload_n (x := t) rfl rfl (jM_at hl 1 rfl) ?_
  refine jm_aload_n (x := P.1 + 3) rfl rfl (jM_at hl 0 rfl) ?_
  refine jx_gf (i := 3) rfl rfl hH (by decide) (hH.2 3 _ rfl).1 rfl (jx_rf hH rfl rfl) ?_
  refine jm_aload_n (x := P.1 + 3) rfl rfl (jM_at hl 0 rfl) ?_
  refine jx_gf (i := 3) rfl rfl hH (by decide) (hH.2 3 _ rfl).1 rfl (jx_rf hH rfl rfl) ?_
  refine jm_iload_n (x := t) rfl rfl (jM_at hl 1 rfl) ?_
  refine az_X_call (m' := 76) (as := [.ref (P.1 + 1), .int t]) (rest := [.ref (P.1 + 1), .int t, .ref (P.1 + 1)]) rfl rfl rfl rfl rfl ?_ ?_
  · unfold si_call
    dsimp only
    rw [if_pos ⟨rfl, rfl⟩]
    show (match si_ix P h (P.1 + 1) with | some i => _ | none => none) = _
    rw [jix hH (by decide)]
    dsimp only
    rw [(hH.2 1 _ rfl).1]
    rfl
  refine (cshort_ok hH t ht.1).mono ?_
  rintro rv14 h14 ⟨q14, z14, rfl, ez14⟩
  subst h14
  show az_X P _ 110 17 ls [.int z14, .ref (P.1 + 1), .int t, .ref (P.1 + 1)] _ _
  refine az_X_call (m' := 78) (as := [.ref (P.1 + 1), .int z14]) (rest := [.int t, .ref (P.1 + 1)]) rfl rfl rfl rfl rfl ?_ ?_
  · unfold si_call
    dsimp only
    rw [if_pos ⟨rfl, rfl⟩]
    show (match si_ix P h (P.1 + 1) with | some i => _ | none => none) = _
    rw [jix hH (by decide)]
    dsimp only
    rw [(hH.2 1 _ rfl).1]
    rfl
  refine (cmirr_ok hH z14 (by omega)).mono ?_
  rintro rv17 h17 ⟨q17, z17, rfl, ez17⟩
  subst h17
  have bz17 : 0 ≤ z17.toInt ∧ z17.toInt < ja h 1 0 := by
    rw [ez17]
    exact jmdd bm.1
  show az_X P _ 110 20 ls [.int z17, .int t, .ref (P.1 + 1)] _ _
  refine jm_aload_n (x := P.1 + 3) rfl rfl (jM_at hl 0 rfl) ?_
  refine jx_gf (i := 3) rfl rfl hH (by decide) (hH.2 3 _ rfl).1 rfl (jx_rf hH rfl rfl) ?_
  refine jm_aload_n (x := P.1 + 3) rfl rfl (jM_at hl 0 rfl) ?_
  refine jx_gf (i := 3) rfl rfl hH (by decide) (hH.2 3 _ rfl).1 rfl (jx_rf hH rfl rfl) ?_
  refine jm_iload_n (x := t) rfl rfl (jM_at hl 1 rfl) ?_
  refine az_X_call (m' := 77) (as := [.ref (P.1 + 1), .int t]) (rest := [.ref (P.1 + 1), .int z17, .int t, .ref (P.1 + 1)]) rfl rfl rfl rfl rfl ?_ ?_
  · unfold si_call
    dsimp only
    rw [if_pos ⟨rfl, rfl⟩]
    show (match si_ix P h (P.1 + 1) with | some i => _ | none => none) = _
    rw [jix hH (by decide)]
    dsimp only
    rw [(hH.2 1 _ rfl).1]
    rfl
  refine (clong_ok hH t).mono ?_
  rintro rv29 h29 ⟨q29, z29, rfl, ez29⟩
  subst h29
  show az_X P _ 110 32 ls [.int z29, .ref (P.1 + 1), .int z17, .int t, .ref (P.1 + 1)] _ _
  refine az_X_call (m' := 78) (as := [.ref (P.1 + 1), .int z29]) (rest := [.int z17, .int t, .ref (P.1 + 1)]) rfl rfl rfl rfl rfl ?_ ?_
  · unfold si_call
    dsimp only
    rw [if_pos ⟨rfl, rfl⟩]
    show (match si_ix P h (P.1 + 1) with | some i => _ | none => none) = _
    rw [jix hH (by decide)]
    dsimp only
    rw [(hH.2 1 _ rfl).1]
    rfl
  refine (cmirr_ok hH z29 (by omega)).mono ?_
  rintro rv32 h32 ⟨q32, z32, rfl, ez32⟩
  subst h32
  have bz32 : 0 ≤ z32.toInt ∧ z32.toInt < ja h 1 0 := by
    rw [ez32]
    exact jmdd bm.1
  show az_X P _ 110 35 ls [.int z32, .int z17, .int t, .ref (P.1 + 1)] _ _
  refine az_X_call (m' := 82) (as := [.ref (P.1 + 1), .int t, .int z17, .int z32]) (rest := []) rfl rfl rfl rfl rfl ?_ ?_
  · unfold si_call
    dsimp only
    rw [if_pos ⟨rfl, rfl⟩]
    show (match si_ix P h (P.1 + 1) with | some i => _ | none => none) = _
    rw [jix hH (by decide)]
    dsimp only
    rw [(hH.2 1 _ rfl).1]
    rfl
  refine (cisat_ok hH t z17 z32 ht.1).mono ?_
  rintro rv35 h35 ⟨q35, z35, rfl, ez35⟩
  subst h35
  show az_X P _ 110 38 ls [.int z35] _ _
  refine jx_retz rfl rfl rfl (jbz (by rw [ez35]; exact jb_01 _)) ?_
  exact ⟨rfl, z35, rfl, by rw [ez35, ez17, ez32, ez14, ez29]⟩
theorem cmirs_l {P : si_P} {d : Nat} {h : si_H} (hH : az_HI P az_tb h) (K w : Int32) (hw : w.toInt = 0 ∨ w.toInt = 1) (hK : K.toInt = ja h 1 0 * ja h 1 1) : ∀ (k j : Nat) (T A : Int32) (ls : si_L), jM [(4, .int T), (3, .int K), (2, .int A), (0, .ref (P.1 + 3)), (1, .int w)] ls → T.toInt = j → (j : Int) + k = K.toInt → A.toInt = jct (jmp (ja h 1 0) (ja h 1 1) (ja h 1 0 * ja h 1 1).toNat w.toInt) j → az_X P (d + 4) 109 13 ls [] h (fun rv h' => h' = h ∧ jV rv (jct (jmp (ja h 1 0) (ja h 1 1) (ja h 1 0 * ja h 1 1).toNat w.toInt) (ja h 1 0 * ja h 1 1).toNat)) := by
  have bm : 4 ≤ ja h 1 0 ∧ ja h 1 0 ≤ 60 := ja_bd hH (i := 1) (k := 0) rfl
  have br : 2 ≤ ja h 1 1 ∧ ja h 1 1 ≤ 24 := ja_bd hH (i := 1) (k := 1) rfl
  have bp := nm_mulnn (a := 4) (b := 60) (c := 2) (d := 24) (x := ja h 1 0) (y := ja h 1 1) (by decide) (by decide) bm.1 bm.2 br.1 br.2
  intro k
  induction k with
  | zero =>
    intro j T A ls hl eT hj eA
    refine jm_iload (x := T) rfl rfl (jM_at hl 0 rfl) ?_
    refine jm_iload_n (x := K) rfl rfl (jM_at hl 1 rfl) ?_
    refine jx_ic (t := 53) rfl rfl rfl (fun hc16 => ?_) (fun hc16 => ?_)
    · have g16 := jc2_ge_t hc16
      refine jm_iload_n (x := A) rfl rfl (jM_at hl 2 rfl) ?_
      refine jx_ret rfl rfl rfl ?_
      exact ⟨rfl, A, rfl, by rw [eA, show j = (ja h 1 0 * ja h 1 1).toNat by omega]⟩
    · have g16 := jc2_ge_f hc16
      exfalso
      omega
  | succ k ih =>
    intro j T A ls hl eT hj eA
    have bA := jct_bd (jmp (ja h 1 0) (ja h 1 1) (ja h 1 0 * ja h 1 1).toNat w.toInt) j
    have ps := jct_s (jmp (ja h 1 0) (ja h 1 1) (ja h 1 0 * ja h 1 1).toNat w.toInt) j
    have dm := jdm (m := ja h 1 0) (r := ja h 1 1) (a := (j : Int)) bm br (by omega) (by omega)
    have my := jmir (m := ja h 1 0) (r := ja h 1 1) (t := (j : Int)) (y := (ja h 1 0 * ja h 1 1).toNat) bm br (by omega)
    have m1 := jmir1 (m := ja h 1 0) (r := ja h 1 1) (t := (j : Int)) bm dm
    have k0 : (0 : Int32).toInt = 0 := by decide
    refine jm_iload (x := T) rfl rfl (jM_at hl 0 rfl) ?_
    refine jm_iload_n (x := K) rfl rfl (jM_at hl 1 rfl) ?_
    refine jx_ic (t := 53) rfl rfl rfl (fun hc16 => ?_) (fun hc16 => ?_)
    · have g16 := jc2_ge_t hc16
      refine jm_iload_n (x := A) rfl rfl (jM_at hl 2 rfl) ?_
      refine jx_ret rfl rfl rfl ?_
      exfalso
      omega
    · have g16 := jc2_ge_f hc16
      refine jm_iload_n (x := w) rfl rfl (jM_at hl 4 rfl) ?_
      refine jx_if (t := 35) rfl rfl rfl (fun hc20 => ?_) (fun hc20 => ?_)
      · have g20 := jc1_eq_t hc20
        refine jm_aload_n (x := P.1 + 3) rfl rfl (jM_at hl 3 rfl) ?_
        refine jm_iload (x := T) rfl rfl (jM_at hl 0 rfl) ?_
        refine az_X_call (m' := 108) (as := [.ref (P.1 + 3), .int T]) (rest := []) rfl rfl rfl rfl rfl ?_ ?_
        · unfold si_call
          dsimp only
          rw [if_pos ⟨rfl, rfl⟩]
          show (match si_ix P h (P.1 + 3) with | some i => _ | none => none) = _
          rw [jix hH (by decide)]
          dsimp only
          rw [(hH.2 3 _ rfl).1]
          rfl
        refine (cmirof_ok hH T (by omega)).mono ?_
        rintro rv38 h38 ⟨q38, z38, rfl, ez38⟩
        subst h38
        show az_X P _ 109 41 ls [.int z38] _ _
        refine jx_if (t := 47) rfl rfl rfl (fun hc41 => ?_) (fun hc41 => ?_)
        · have g41 := jc1_lt_t hc41
          refine jn_iinc (x := T) rfl rfl (by decide) (jM_at hl 0 rfl) hl rfl (by decide) (by omega) (by omega) (fun z47 (ez47 : z47.toInt = T.toInt + 1) ls47 (hl47 : jM [(4, .int z47), (3, .int K), (2, .int A), (0, .ref (P.1 + 3)), (1, .int w)] ls47) => ?_)
          refine az_X_step (pc' := 13) (ls' := ls47) (st' := []) (h' := h) rfl rfl rfl ?_
          rw [ez38, eT] at g41
          have np : (jmp (ja h 1 0) (ja h 1 1) (ja h 1 0 * ja h 1 1).toNat w.toInt) j = false := by
            unfold jmp
            rw [if_neg (by omega)]
            exact decide_eq_false (fun q2 => absurd (my.mpr q2) (by omega))
          rw [np] at ps
          rw [if_neg (by decide)] at ps
          exact ih (j + 1) z47 A ls47 (jM_pick hl47 [0, 1, 2, 3, 4] rfl) (by omega) (by omega) (by rw [ps]; omega)
        · have g41 := jc1_lt_f hc41
          refine jn_iinc (x := A) rfl rfl (by decide) (jM_at hl 2 rfl) hl rfl (by decide) (by omega) (by omega) (fun z44 (ez44 : z44.toInt = A.toInt + 1) ls44 (hl44 : jM [(2, .int z44), (4, .int T), (3, .int K), (0, .ref (P.1 + 3)), (1, .int w)] ls44) => ?_)
          refine jn_iinc (x := T) rfl rfl (by decide) (jM_at hl44 1 rfl) hl44 rfl (by decide) (by omega) (by omega) (fun z47 (ez47 : z47.toInt = T.toInt + 1) ls47 (hl47 : jM [(4, .int z47), (2, .int z44), (3, .int K), (0, .ref (P.1 + 3)), (1, .int w)] ls47) => ?_)
          refine az_X_step (pc' := 13) (ls' := ls47) (st' := []) (h' := h) rfl rfl rfl ?_
          rw [ez38, eT] at g41
          have np : (jmp (ja h 1 0) (ja h 1 1) (ja h 1 0 * ja h 1 1).toNat w.toInt) j = true := by
            unfold jmp
            rw [if_neg (by omega)]
            exact decide_eq_true (my.mp g41)
          rw [np] at ps
          rw [if_pos rfl] at ps
          exact ih (j + 1) z47 z44 ls47 (jM_pick hl47 [0, 2, 1, 3, 4] rfl) (by omega) (by omega) (by rw [ps]; omega)
      · have g20 := jc1_eq_f hc20
        refine jm_aload_n (x := P.1 + 3) rfl rfl (jM_at hl 3 rfl) ?_
        refine jm_iload (x := T) rfl rfl (jM_at hl 0 rfl) ?_
        refine az_X_call (m' := 110) (as := [.ref (P.1 + 3), .int T]) (rest := []) rfl rfl rfl rfl rfl ?_ ?_
        · unfold si_call
          dsimp only
          rw [if_pos ⟨rfl, rfl⟩]
          show (match si_ix P h (P.1 + 3) with | some i => _ | none => none) = _
          rw [jix hH (by decide)]
          dsimp only
          rw [(hH.2 3 _ rfl).1]
          rfl
        refine (cown_ok hH T (by omega)).mono ?_
        rintro rv26 h26 ⟨q26, z26, rfl, ez26⟩
        subst h26
        show az_X P _ 109 29 ls [.int z26] _ _
        refine jx_if (t := 47) rfl rfl rfl (fun hc29 => ?_) (fun hc29 => ?_)
        · have g29 := jc1_eq_t hc29
          refine jn_iinc (x := T) rfl rfl (by decide) (jM_at hl 0 rfl) hl rfl (by decide) (by omega) (by omega) (fun z47 (ez47 : z47.toInt = T.toInt + 1) ls47 (hl47 : jM [(4, .int z47), (3, .int K), (2, .int A), (0, .ref (P.1 + 3)), (1, .int w)] ls47) => ?_)
          refine az_X_step (pc' := 13) (ls' := ls47) (st' := []) (h' := h) rfl rfl rfl ?_
          rw [ez26, eT] at g29
          unfold jb at g29
          have np : (jmp (ja h 1 0) (ja h 1 1) (ja h 1 0 * ja h 1 1).toNat w.toInt) j = false := by
            unfold jmp
            rw [if_pos (by omega)]
            refine decide_eq_false (fun q2 => ?_)
            rw [decide_eq_true (m1.mpr q2)] at g29
            exact absurd g29 (by decide)
          rw [np] at ps
          rw [if_neg (by decide)] at ps
          exact ih (j + 1) z47 A ls47 (jM_pick hl47 [0, 1, 2, 3, 4] rfl) (by omega) (by omega) (by rw [ps]; omega)
        · have g29 := jc1_eq_f hc29
          refine az_X_step (pc' := 44) (ls' := ls) (st' := []) (h' := h) rfl rfl rfl ?_
          refine jn_iinc (x := A) rfl rfl (by decide) (jM_at hl 2 rfl) hl rfl (by decide) (by omega) (by omega) (fun z44 (ez44 : z44.toInt = A.toInt + 1) ls44 (hl44 : jM [(2, .int z44), (4, .int T), (3, .int K), (0, .ref (P.1 + 3)), (1, .int w)] ls44) => ?_)
          refine jn_iinc (x := T) rfl rfl (by decide) (jM_at hl44 1 rfl) hl44 rfl (by decide) (by omega) (by omega) (fun z47 (ez47 : z47.toInt = T.toInt + 1) ls47 (hl47 : jM [(4, .int z47), (2, .int z44), (3, .int K), (0, .ref (P.1 + 3)), (1, .int w)] ls47) => ?_)
          refine az_X_step (pc' := 13) (ls' := ls47) (st' := []) (h' := h) rfl rfl rfl ?_
          rw [ez26, eT] at g29
          unfold jb at g29
          have np : (jmp (ja h 1 0) (ja h 1 1) (ja h 1 0 * ja h 1 1).toNat w.toInt) j = true := by
            unfold jmp
            rw [if_pos (by omega)]
            refine decide_eq_true (m1.mp (Decidable.byContradiction (fun q => ?_)))
            rw [decide_eq_false q] at g29
            exact absurd rfl g29
          rw [np] at ps
          rw [if_pos rfl] at ps
          exact ih (j + 1) z47 z44 ls47 (jM_pick hl47 [0, 2, 1, 3, 4] rfl) (by omega) (by omega) (by rw [ps]; omega)
theorem cmirs_ok {P : si_P} {d : Nat} {h : si_H} (hH : az_HI P az_tb h) (w : Int32) (hw : w.toInt = 0 ∨ w.toInt = 1) : az_X P (d + 4) 109 0 (lv_args 0 [.ref (P.1 + 3), .int w]) [] h (fun rv h' => h' = h ∧ jV rv (jct (jmp (ja h 1 0) (ja h 1 1) (ja h 1 0 * ja h 1 1).toNat w.toInt) (ja h 1 0 * ja h 1 1).toNat)) := by
  have bm : 4 ≤ ja h 1 0 ∧ ja h 1 0 ≤ 60 := ja_bd hH (i := 1) (k := 0) rfl
  have br : 2 ≤ ja h 1 1 ∧ ja h 1 1 ≤ 24 := ja_bd hH (i := 1) (k := 1) rfl
  have bp := nm_mulnn (a := 4) (b := 60) (c := 2) (d := 24) (x := ja h 1 0) (y := ja h 1 1) (by decide) (by decide) bm.1 bm.2 br.1 br.2
  have hl : jM [(0, .ref (P.1 + 3)), (1, .int w)] (lv_args 0 [.ref (P.1 + 3), .int w]) := jM_args [0, 1] rfl (by decide)
  generalize lv_args 0 [.ref (P.1 + 3), .int w] = ls at hl
  have k0 : (0 : Int32).toInt = 0 := by decide
  refine az_X_step (pc' := 1) (ls' := ls) (st' := [.int 0]) (h' := h) rfl rfl rfl ?_
  refine jm_istore_n (l' := [(2, .int 0), (0, .ref (P.1 + 3)), (1, .int w)]) rfl rfl (by decide) hl rfl rfl (fun ls1 hl1 => ?_)
  refine jm_aload_n (x := P.1 + 3) rfl rfl (jM_at hl1 1 rfl) ?_
  refine jx_gf (i := 3) rfl rfl hH (by decide) (hH.2 3 _ rfl).1 rfl (jx_rf hH rfl rfl) ?_
  refine az_X_call (m' := 73) (as := [.ref (P.1 + 1)]) (rest := []) rfl rfl rfl rfl rfl ?_ ?_
  · unfold si_call
    dsimp only
    rw [if_pos ⟨rfl, rfl⟩]
    show (match si_ix P h (P.1 + 1) with | some i => _ | none => none) = _
    rw [jix hH (by decide)]
    dsimp only
    rw [(hH.2 1 _ rfl).1]
    rfl
  refine (tround_ok hH).mono ?_
  rintro rv6 h6 ⟨q6, z6, rfl, ez6⟩
  subst h6
  show az_X P _ 109 9 ls1 [.int z6] _ _
  refine jm_istore_n (l' := [(3, .int z6), (2, .int 0), (0, .ref (P.1 + 3)), (1, .int w)]) rfl rfl (by decide) hl1 rfl rfl (fun ls9 hl9 => ?_)
  refine az_X_step (pc' := 11) (ls' := ls9) (st' := [.int 0]) (h' := h) rfl rfl rfl ?_
  refine jm_istore (l' := [(4, .int 0), (3, .int z6), (2, .int 0), (0, .ref (P.1 + 3)), (1, .int w)]) rfl rfl (by decide) hl9 rfl rfl (fun ls11 hl11 => ?_)
  exact cmirs_l hH z6 w hw ez6 (ja h 1 0 * ja h 1 1).toNat 0 0 0 ls11 (jM_pick hl11 [0, 1, 2, 3, 4] rfl) (by decide) (by omega) (by show (0 : Int32).toInt = 0; decide)
theorem mirrors0_ok {P : si_P} {d : Nat} {h : si_H} (hH : az_HI P az_tb h) (a : Int32) : az_X P (d + 5) 151 0 (lv_args 0 [.ref (P.1 + 0), .int a]) [] h (fun rv h' => h' = h ∧ ∃ z : Int32, rv = some (.int z) ∧ jmi (ja h 1 0) (ja h 1 1) (ja h 1 0 * ja h 1 1).toNat a.toInt z.toInt) := by
  have hl : jM [(0, .ref (P.1 + 0)), (1, .int a)] (lv_args 0 [.ref (P.1 + 0), .int a]) := jM_args [0, 1] rfl (by decide)
  generalize lv_args 0 [.ref (P.1 + 0), .int a] = ls at hl
  have km1 : ((-1) : Int32).toInt = (-1) := by decide
  have k0 : (0 : Int32).toInt = 0 := by decide
  have k1 : (1 : Int32).toInt = 1 := by decide
  refine jm_iload_n (x := a) rfl rfl (jM_at hl 1 rfl) ?_
  refine az_X_call (m' := 188) (as := [.int a]) (rest := []) rfl rfl rfl rfl rfl rfl ?_
  refine (ctwo_ok a).mono ?_
  rintro rv1 h1 ⟨q1, z1, rfl, ez1⟩
  subst h1
  show az_X P _ 151 4 ls [.int z1] _ _
  refine jx_if (t := 9) rfl rfl rfl (fun hc4 => ?_) (fun hc4 => ?_)
  · have g4 := jc1_ne_t hc4
    refine jm_aload_n (x := P.1 + 0) rfl rfl (jM_at hl 0 rfl) ?_
    refine jx_gf (i := 0) rfl rfl hH (by decide) (hH.2 0 _ rfl).1 rfl (jx_rf hH rfl rfl) ?_
    refine jm_iload_n (x := a) rfl rfl (jM_at hl 1 rfl) ?_
    refine az_X_step (pc' := 15) (ls' := ls) (st' := [.int 1, .int a, .ref (P.1 + 3)]) (h' := h) rfl rfl rfl ?_
    refine jx_ic (t := 22) rfl rfl rfl (fun hc15 => ?_) (fun hc15 => ?_)
    · have g15 := jc2_ne_t hc15
      refine az_X_step (pc' := 23) (ls' := ls) (st' := [.int 0, .ref (P.1 + 3)]) (h' := h) rfl rfl rfl ?_
      refine az_X_call (m' := 109) (as := [.ref (P.1 + 3), .int 0]) (rest := []) rfl rfl rfl rfl rfl ?_ ?_
      · unfold si_call
        dsimp only
        rw [if_pos ⟨rfl, rfl⟩]
        show (match si_ix P h (P.1 + 3) with | some i => _ | none => none) = _
        rw [jix hH (by decide)]
        dsimp only
        rw [(hH.2 3 _ rfl).1]
        rfl
      refine (cmirs_ok hH 0 (by decide)).mono ?_
      rintro rv23 h23 ⟨q23, z23, rfl, ez23⟩
      subst h23
      show az_X P _ 151 26 ls [.int z23] _ _
      refine jx_ret rfl rfl rfl ?_
      rw [show (0 : Int32).toInt = 0 by decide] at ez23
      exact ⟨rfl, z23, rfl, Or.inl ⟨by omega, by omega, by rw [show a.toInt = 0 by omega]; exact ez23⟩⟩
    · have g15 := jc2_ne_f hc15
      refine az_X_step (pc' := 19) (ls' := ls) (st' := [.int 1, .ref (P.1 + 3)]) (h' := h) rfl rfl rfl ?_
      refine az_X_step (pc' := 23) (ls' := ls) (st' := [.int 1, .ref (P.1 + 3)]) (h' := h) rfl rfl rfl ?_
      refine az_X_call (m' := 109) (as := [.ref (P.1 + 3), .int 1]) (rest := []) rfl rfl rfl rfl rfl ?_ ?_
      · unfold si_call
        dsimp only
        rw [if_pos ⟨rfl, rfl⟩]
        show (match si_ix P h (P.1 + 3) with | some i => _ | none => none) = _
        rw [jix hH (by decide)]
        dsimp only
        rw [(hH.2 3 _ rfl).1]
        rfl
      refine (cmirs_ok hH 1 (by decide)).mono ?_
      rintro rv23 h23 ⟨q23, z23, rfl, ez23⟩
      subst h23
      show az_X P _ 151 26 ls [.int z23] _ _
      refine jx_ret rfl rfl rfl ?_
      rw [show (1 : Int32).toInt = 1 by decide] at ez23
      exact ⟨rfl, z23, rfl, Or.inl ⟨by omega, by omega, by rw [show a.toInt = 1 by omega]; exact ez23⟩⟩
  · have g4 := jc1_ne_f hc4
    refine az_X_step (pc' := 8) (ls' := ls) (st' := [.int (-1)]) (h' := h) rfl rfl rfl ?_
    refine jx_ret rfl rfl rfl ?_
    exact ⟨rfl, (-1), rfl, Or.inr ⟨by omega, by decide⟩⟩
theorem rinm_ok {P : si_P} {d : Nat} {h : si_H} (hH : az_HI P az_tb h) {m r : Int} {y : Nat} (hm : 4 ≤ m ∧ m ≤ 60) (hr : 2 ≤ r ∧ r ≤ 24) (hy : 8 ≤ y ∧ y ≤ 1440) (hp : m * r = y) (hK : jLK h m r y) (t : Int32) (ht : 0 ≤ t.toInt ∧ t.toInt < y) : az_X P (d + 2) 220 0 (lv_args 0 [.ref (P.1 + 60), .int t]) [] h (fun rv h' => h' = h ∧ jV rv (jmL m r t.toInt)) := by
  obtain ⟨t7, t8, t9, h68, h69⟩ := hK
  have dm := jdm (m := m) (r := r) (a := t.toInt) hm hr ht.1 (by rw [hp]; exact ht.2)
  have hl : jM [(0, .ref (P.1 + 60)), (1, .int t)] (lv_args 0 [.ref (P.1 + 60), .int t]) := jM_args [0, 1] rfl (by decide)
  generalize lv_args 0 [.ref (P.1 + 60), .int t] = ls at hl
  refine jm_aload_n (x := P.1 + 60) rfl rfl (jM_at hl 0 rfl) ?_
  refine jn_gf (i := 60) (k := 7) rfl rfl hH (by decide) (hH.2 60 _ rfl).1 rfl rfl (fun z1 (ez1 : z1.toInt = ja h 60 7) (bz1 : 4 ≤ z1.toInt ∧ z1.toInt ≤ 60) => ?_)
  refine jm_aload_n (x := P.1 + 60) rfl rfl (jM_at hl 0 rfl) ?_
  refine jm_iload_n (x := t) rfl rfl (jM_at hl 1 rfl) ?_
  refine az_X_call (m' := 215) (as := [.ref (P.1 + 60), .int t]) (rest := [.int z1]) rfl rfl rfl rfl rfl ?_ ?_
  · unfold si_call
    dsimp only
    rw [if_pos ⟨rfl, rfl⟩]
    show (match si_ix P h (P.1 + 60) with | some i => _ | none => none) = _
    rw [jix hH (by decide)]
    dsimp only
    rw [(hH.2 60 _ rfl).1]
    rfl
  refine (rlong_ok hH t ht.1).mono ?_
  rintro rv6 h6 ⟨q6, z6, rfl, ez6⟩
  subst h6
  have bz6 : 0 ≤ z6.toInt ∧ z6.toInt < m := by
    rw [ez6, t7]
    exact dm.1
  show az_X P _ 220 9 ls [.int z6, .int z1] _ _
  refine jn_sub (a := z1) (b := z6) rfl rfl (by omega) (by omega) (fun z9 ez9 => ?_)
  refine jm_aload_n (x := P.1 + 60) rfl rfl (jM_at hl 0 rfl) ?_
  refine jn_gf (i := 60) (k := 7) rfl rfl hH (by decide) (hH.2 60 _ rfl).1 rfl rfl (fun z11 (ez11 : z11.toInt = ja h 60 7) (bz11 : 4 ≤ z11.toInt ∧ z11.toInt ≤ 60) => ?_)
  refine jn_rem (a := z9) (b := z11) rfl rfl (by omega) (by omega) (fun z14 ez14 lz14 uz14 => ?_)
  refine jm_aload_n (x := P.1 + 60) rfl rfl (jM_at hl 0 rfl) ?_
  refine jn_gf (i := 60) (k := 7) rfl rfl hH (by decide) (hH.2 60 _ rfl).1 rfl rfl (fun z16 (ez16 : z16.toInt = ja h 60 7) (bz16 : 4 ≤ z16.toInt ∧ z16.toInt ≤ 60) => ?_)
  refine jm_aload_n (x := P.1 + 60) rfl rfl (jM_at hl 0 rfl) ?_
  refine jm_iload_n (x := t) rfl rfl (jM_at hl 1 rfl) ?_
  refine az_X_call (m' := 216) (as := [.ref (P.1 + 60), .int t]) (rest := [.int z16, .int z14]) rfl rfl rfl rfl rfl ?_ ?_
  · unfold si_call
    dsimp only
    rw [if_pos ⟨rfl, rfl⟩]
    show (match si_ix P h (P.1 + 60) with | some i => _ | none => none) = _
    rw [jix hH (by decide)]
    dsimp only
    rw [(hH.2 60 _ rfl).1]
    rfl
  refine (rshort_ok hH t ht.1).mono ?_
  rintro rv21 h21 ⟨q21, z21, rfl, ez21⟩
  subst h21
  have bz21 : 0 ≤ z21.toInt ∧ z21.toInt < m := by
    rw [ez21, t8]
    exact dm.2
  show az_X P _ 220 24 ls [.int z21, .int z16, .int z14] _ _
  refine jn_sub (a := z16) (b := z21) rfl rfl (by omega) (by omega) (fun z24 ez24 => ?_)
  refine jm_aload_n (x := P.1 + 60) rfl rfl (jM_at hl 0 rfl) ?_
  refine jn_gf (i := 60) (k := 7) rfl rfl hH (by decide) (hH.2 60 _ rfl).1 rfl rfl (fun z26 (ez26 : z26.toInt = ja h 60 7) (bz26 : 4 ≤ z26.toInt ∧ z26.toInt ≤ 60) => ?_)
  refine jn_rem (a := z24) (b := z26) rfl rfl (by omega) (by omega) (fun z29 ez29 lz29 uz29 => ?_)
  refine az_X_call (m' := 214) (as := [.int z14, .int z29]) (rest := []) rfl rfl rfl rfl rfl rfl ?_
  refine (rlook_ok z14 z29 (by omega) (by omega)).mono ?_
  rintro rv30 h30 ⟨q30, z30, rfl, ez30⟩
  subst h30
  show az_X P _ 220 33 ls [.int z30] _ _
  refine jx_ret rfl rfl rfl ?_
  refine ⟨rfl, z30, rfl, ?_⟩
  rw [ez30, ez14, ez29, ez11, ez26, t7, show z9.toInt = m - t.toInt % m by rw [ez9, ez1, ez6, t7], show z24.toInt = m - t.toInt / r by rw [ez24, ez16, ez21, t7, t8]]
  rfl
theorem rmirs_l {P : si_P} (hxa : P.2.1 < P.1) {d : Nat} {h : si_H} (hH : az_HI P az_tb h) {m r : Int} {y : Nat} (hm : 4 ≤ m ∧ m ≤ 60) (hr : 2 ≤ r ∧ r ≤ 24) (hy : 8 ≤ y ∧ y ≤ 1440) (hp : m * r = y) (hK : jLK h m r y) (w : Int32) (hw : 0 ≤ w.toInt ∧ w.toInt ≤ 1) : ∀ (k j : Nat) (T A : Int32) (ls : si_L), jM [(3, .int T), (2, .int A), (0, .ref (P.1 + 60)), (1, .int w)] ls → T.toInt = j → j + k = y → A.toInt = jct (jmp m r y w.toInt) j → az_X P (d + 3) 224 15 ls [] h (fun rv h' => h' = h ∧ jV rv (jct (jmp m r y w.toInt) y)) := by
  have hK' := hK
  obtain ⟨t7, t8, t9, h68, h69⟩ := hK'
  intro k
  induction k with
  | zero =>
    intro j T A ls hl eT hj eA
    refine jm_iload_n (x := T) rfl rfl (jM_at hl 0 rfl) ?_
    refine jm_aload_n (x := P.1 + 60) rfl rfl (jM_at hl 2 rfl) ?_
    refine jn_gf (i := 60) (k := 9) rfl rfl hH (by decide) (hH.2 60 _ rfl).1 rfl rfl (fun z17 (ez17 : z17.toInt = ja h 60 9) (bz17 : 8 ≤ z17.toInt ∧ z17.toInt ≤ 1440) => ?_)
    refine jx_ic (t := 67) rfl rfl rfl (fun hc20 => ?_) (fun hc20 => ?_)
    · have g20 := jc2_ge_t hc20
      refine jm_iload_n (x := A) rfl rfl (jM_at hl 1 rfl) ?_
      refine jx_ret rfl rfl rfl ?_
      exact ⟨rfl, A, rfl, by rw [eA, show j = y by omega]⟩
    · have g20 := jc2_ge_f hc20
      exfalso
      omega
  | succ k ih =>
    intro j T A ls hl eT hj eA
    have bA := jct_bd (jmp m r y w.toInt) j
    have ps := jct_s (jmp m r y w.toInt) j
    have dj1 := jmdd (m := m) (x := (j : Int) / r) hm.1
    have dj2 := jmdd (m := m) (x := (j : Int) % m) hm.1
    have bL : 0 ≤ jmL m r j ∧ jmL m r j < 4096 := by
      unfold jmL
      omega
    have k0 : (0 : Int32).toInt = 0 := by decide
    have k1 : (1 : Int32).toInt = 1 := by decide
    refine jm_iload_n (x := T) rfl rfl (jM_at hl 0 rfl) ?_
    refine jm_aload_n (x := P.1 + 60) rfl rfl (jM_at hl 2 rfl) ?_
    refine jn_gf (i := 60) (k := 9) rfl rfl hH (by decide) (hH.2 60 _ rfl).1 rfl rfl (fun z17 (ez17 : z17.toInt = ja h 60 9) (bz17 : 8 ≤ z17.toInt ∧ z17.toInt ≤ 1440) => ?_)
    refine jx_ic (t := 67) rfl rfl rfl (fun hc20 => ?_) (fun hc20 => ?_)
    · have g20 := jc2_ge_t hc20
      refine jm_iload_n (x := A) rfl rfl (jM_at hl 1 rfl) ?_
      refine jx_ret rfl rfl rfl ?_
      exfalso
      omega
    · have g20 := jc2_ge_f hc20
      refine jm_iload_n (x := w) rfl rfl (jM_at hl 3 rfl) ?_
      refine jx_if (t := 43) rfl rfl rfl (fun hc24 => ?_) (fun hc24 => ?_)
      · have g24 := jc1_ne_t hc24
        refine jm_aload_n (x := P.1 + 60) rfl rfl (jM_at hl 2 rfl) ?_
        refine jm_iload_n (x := T) rfl rfl (jM_at hl 0 rfl) ?_
        refine az_X_call (m' := 220) (as := [.ref (P.1 + 60), .int T]) (rest := []) rfl rfl rfl rfl rfl ?_ ?_
        · unfold si_call
          dsimp only
          rw [if_pos ⟨rfl, rfl⟩]
          show (match si_ix P h (P.1 + 60) with | some i => _ | none => none) = _
          rw [jix hH (by decide)]
          dsimp only
          rw [(hH.2 60 _ rfl).1]
          rfl
        refine (rinm_ok hH hm hr hy hp hK T (by omega)).mono ?_
        rintro rv45 h45 ⟨q45, z45, rfl, ez45⟩
        subst h45
        have bz45 : 0 ≤ z45.toInt ∧ z45.toInt < 4096 := by
          rw [ez45, eT]
          exact bL
        show az_X P _ 224 48 ls [.int z45] _ _
        refine jm_aload_n (x := P.1 + 60) rfl rfl (jM_at hl 2 rfl) ?_
        refine jx_gf (i := 60) rfl rfl hH (by decide) (hH.2 60 _ rfl).1 rfl (jx_rf hH rfl rfl) ?_
        refine jm_iload_n (x := T) rfl rfl (jM_at hl 0 rfl) ?_
        refine jx_ial (i := 68) (x := T) rfl rfl hxa hH (by decide) rfl (by omega) (by show _ < ((1440 : Nat) : Int); omega) (fun z53 ez53 bz53 => ?_)
        refine jx_ic (t := 61) rfl rfl rfl (fun hc54 => ?_) (fun hc54 => ?_)
        · have g54 := jc2_ne_t hc54
          refine jn_iinc (x := T) rfl rfl (by decide) (jM_at hl 0 rfl) hl rfl (by decide) (by omega) (by omega) (fun z61 (ez61 : z61.toInt = T.toInt + 1) ls61 (hl61 : jM [(3, .int z61), (2, .int A), (0, .ref (P.1 + 60)), (1, .int w)] ls61) => ?_)
          refine az_X_step (pc' := 15) (ls' := ls61) (st' := []) (h' := h) rfl rfl rfl ?_
          have q53 := h68 T.toInt.toNat (by omega)
          rw [Int.toNat_of_nonneg (by omega)] at q53
          rw [ez45, ez53, q53, eT] at g54
          have np : (jmp m r y w.toInt) j = false := by
            unfold jmp
            rw [if_pos (by omega)]
            exact decide_eq_false g54
          rw [np] at ps
          rw [if_neg (by decide)] at ps
          exact ih (j + 1) z61 A ls61 (jM_pick hl61 [0, 1, 2, 3] rfl) (by omega) (by omega) (by rw [ps]; omega)
        · have g54 := jc2_ne_f hc54
          refine jm_iload_n (x := A) rfl rfl (jM_at hl 1 rfl) ?_
          refine az_X_step (pc' := 59) (ls' := ls) (st' := [.int 1, .int A]) (h' := h) rfl rfl rfl ?_
          refine jn_add (a := A) (b := 1) rfl rfl (by omega) (by omega) (fun z59 ez59 => ?_)
          rw [show (1 : Int32).toInt = 1 by decide] at ez59
          refine jm_istore_n (l' := [(2, .int z59), (3, .int T), (0, .ref (P.1 + 60)), (1, .int w)]) rfl rfl (by decide) hl rfl rfl (fun ls60 hl60 => ?_)
          refine jn_iinc (x := T) rfl rfl (by decide) (jM_at hl60 1 rfl) hl60 rfl (by decide) (by omega) (by omega) (fun z61 (ez61 : z61.toInt = T.toInt + 1) ls61 (hl61 : jM [(3, .int z61), (2, .int z59), (0, .ref (P.1 + 60)), (1, .int w)] ls61) => ?_)
          refine az_X_step (pc' := 15) (ls' := ls61) (st' := []) (h' := h) rfl rfl rfl ?_
          have q53 := h68 T.toInt.toNat (by omega)
          rw [Int.toNat_of_nonneg (by omega)] at q53
          rw [ez45, ez53, q53, eT] at g54
          have np : (jmp m r y w.toInt) j = true := by
            unfold jmp
            rw [if_pos (by omega)]
            exact decide_eq_true g54
          rw [np] at ps
          rw [if_pos rfl] at ps
          exact ih (j + 1) z61 z59 ls61 (jM_pick hl61 [0, 1, 2, 3] rfl) (by omega) (by omega) (by rw [ps]; omega)
      · have g24 := jc1_ne_f hc24
        refine jm_aload_n (x := P.1 + 60) rfl rfl (jM_at hl 2 rfl) ?_
        refine jx_gf (i := 60) rfl rfl hH (by decide) (hH.2 60 _ rfl).1 rfl (jx_rf hH rfl rfl) ?_
        refine jm_aload_n (x := P.1 + 60) rfl rfl (jM_at hl 2 rfl) ?_
        refine jm_iload_n (x := T) rfl rfl (jM_at hl 0 rfl) ?_
        refine az_X_call (m' := 220) (as := [.ref (P.1 + 60), .int T]) (rest := [.ref (P.1 + 69)]) rfl rfl rfl rfl rfl ?_ ?_
        · unfold si_call
          dsimp only
          rw [if_pos ⟨rfl, rfl⟩]
          show (match si_ix P h (P.1 + 60) with | some i => _ | none => none) = _
          rw [jix hH (by decide)]
          dsimp only
          rw [(hH.2 60 _ rfl).1]
          rfl
        refine (rinm_ok hH hm hr hy hp hK T (by omega)).mono ?_
        rintro rv33 h33 ⟨q33, z33, rfl, ez33⟩
        subst h33
        have bz33 : 0 ≤ z33.toInt ∧ z33.toInt < 4096 := by
          rw [ez33, eT]
          exact bL
        show az_X P _ 224 36 ls [.int z33, .ref (P.1 + 69)] _ _
        refine jx_ial (i := 69) (x := z33) rfl rfl hxa hH (by decide) rfl (by omega) (by show _ < ((4096 : Nat) : Int); omega) (fun z36 ez36 bz36 => ?_)
        refine jx_if (t := 61) rfl rfl rfl (fun hc37 => ?_) (fun hc37 => ?_)
        · have g37 := jc1_le_t hc37
          refine jn_iinc (x := T) rfl rfl (by decide) (jM_at hl 0 rfl) hl rfl (by decide) (by omega) (by omega) (fun z61 (ez61 : z61.toInt = T.toInt + 1) ls61 (hl61 : jM [(3, .int z61), (2, .int A), (0, .ref (P.1 + 60)), (1, .int w)] ls61) => ?_)
          refine az_X_step (pc' := 15) (ls' := ls61) (st' := []) (h' := h) rfl rfl rfl ?_
          have q36 := h69 z33.toInt.toNat (by omega)
          rw [Int.toNat_of_nonneg (by omega)] at q36
          rw [ez36, q36, ez33, eT] at g37
          have np : (jmp m r y w.toInt) j = false := by
            unfold jmp
            rw [if_neg (by omega)]
            exact decide_eq_false (by omega)
          rw [np] at ps
          rw [if_neg (by decide)] at ps
          exact ih (j + 1) z61 A ls61 (jM_pick hl61 [0, 1, 2, 3] rfl) (by omega) (by omega) (by rw [ps]; omega)
        · have g37 := jc1_le_f hc37
          refine az_X_step (pc' := 57) (ls' := ls) (st' := []) (h' := h) rfl rfl rfl ?_
          refine jm_iload_n (x := A) rfl rfl (jM_at hl 1 rfl) ?_
          refine az_X_step (pc' := 59) (ls' := ls) (st' := [.int 1, .int A]) (h' := h) rfl rfl rfl ?_
          refine jn_add (a := A) (b := 1) rfl rfl (by omega) (by omega) (fun z59 ez59 => ?_)
          rw [show (1 : Int32).toInt = 1 by decide] at ez59
          refine jm_istore_n (l' := [(2, .int z59), (3, .int T), (0, .ref (P.1 + 60)), (1, .int w)]) rfl rfl (by decide) hl rfl rfl (fun ls60 hl60 => ?_)
          refine jn_iinc (x := T) rfl rfl (by decide) (jM_at hl60 1 rfl) hl60 rfl (by decide) (by omega) (by omega) (fun z61 (ez61 : z61.toInt = T.toInt + 1) ls61 (hl61 : jM [(3, .int z61), (2, .int z59), (0, .ref (P.1 + 60)), (1, .int w)] ls61) => ?_)
          refine az_X_step (pc' := 15) (ls' := ls61) (st' := []) (h' := h) rfl rfl rfl ?_
          have q36 := h69 z33.toInt.toNat (by omega)
          rw [Int.toNat_of_nonneg (by omega)] at q36
          rw [ez36, q36, ez33, eT] at g37
          have np : (jmp m r y w.toInt) j = true := by
            unfold jmp
            rw [if_neg (by omega)]
            exact decide_eq_true g37
          rw [np] at ps
          rw [if_pos rfl] at ps
          exact ih (j + 1) z61 z59 ls61 (jM_pick hl61 [0, 1, 2, 3] rfl) (by omega) (by omega) (by rw [ps]; omega)
theorem mirrors1_ok {P : si_P} (hxa : P.2.1 < P.1) {d : Nat} {h : si_H} (hH : az_HI P az_tb h) {m r : Int} {y : Nat} (hm : 4 ≤ m ∧ m ≤ 60) (hr : 2 ≤ r ∧ r ≤ 24) (hy : 8 ≤ y ∧ y ≤ 1440) (hp : m * r = y) (hK : jLK h m r y) (a : Int32) : az_X P (d + 3) 224 0 (lv_args 0 [.ref (P.1 + 60), .int a]) [] h (fun rv h' => h' = h ∧ ∃ z : Int32, rv = some (.int z) ∧ jmi m r y a.toInt z.toInt) := by
  have hl : jM [(0, .ref (P.1 + 60)), (1, .int a)] (lv_args 0 [.ref (P.1 + 60), .int a]) := jM_args [0, 1] rfl (by decide)
  generalize lv_args 0 [.ref (P.1 + 60), .int a] = ls at hl
  have km1 : ((-1) : Int32).toInt = (-1) := by decide
  have k0 : (0 : Int32).toInt = 0 := by decide
  have k1 : (1 : Int32).toInt = 1 := by decide
  refine jm_iload_n (x := a) rfl rfl (jM_at hl 1 rfl) ?_
  refine az_X_step (pc' := 2) (ls' := ls) (st' := [.int 0, .int a]) (h' := h) rfl rfl rfl ?_
  refine az_X_step (pc' := 3) (ls' := ls) (st' := [.int 1, .int 0, .int a]) (h' := h) rfl rfl rfl ?_
  refine az_X_call (m' := 202) (as := [.int a, .int 0, .int 1]) (rest := []) rfl rfl rfl rfl rfl rfl ?_
  refine (rin_ok a 0 1).mono ?_
  rintro rv3 h3 ⟨q3, z3, rfl, ez3⟩
  subst h3
  show az_X P _ 224 6 ls [.int z3] _ _
  refine jx_if (t := 11) rfl rfl rfl (fun hc6 => ?_) (fun hc6 => ?_)
  · have g6 := jc1_ne_t hc6
    refine az_X_step (pc' := 12) (ls' := ls) (st' := [.int 0]) (h' := h) rfl rfl rfl ?_
    refine jm_istore_n (l' := [(2, .int 0), (0, .ref (P.1 + 60)), (1, .int a)]) rfl rfl (by decide) hl rfl rfl (fun ls12 hl12 => ?_)
    refine az_X_step (pc' := 14) (ls' := ls12) (st' := [.int 0]) (h' := h) rfl rfl rfl ?_
    refine jm_istore_n (l' := [(3, .int 0), (2, .int 0), (0, .ref (P.1 + 60)), (1, .int a)]) rfl rfl (by decide) hl12 rfl rfl (fun ls14 hl14 => ?_)
    refine (rmirs_l hxa hH hm hr hy hp hK a (by omega) y 0 0 0 ls14 (jM_pick hl14 [0, 1, 2, 3] rfl) (by decide) (by omega) (by show (0 : Int32).toInt = 0; decide)).mono ?_
    rintro rv h9 ⟨q1, z, q2, q3⟩
    exact ⟨q1, z, q2, Or.inl ⟨by omega, by omega, q3⟩⟩
  · have g6 := jc1_ne_f hc6
    refine az_X_step (pc' := 10) (ls' := ls) (st' := [.int (-1)]) (h' := h) rfl rfl rfl ?_
    refine jx_ret rfl rfl rfl ?_
    exact ⟨rfl, (-1), rfl, Or.inr ⟨by omega, by decide⟩⟩
