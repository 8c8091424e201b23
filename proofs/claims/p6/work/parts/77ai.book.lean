set_option maxRecDepth 100000
/-! places that hold one of two objects -/
section Jnr
variable {P : si_P} {d mi pc : Nat} {y : si_M} {ls : si_L} {st : List Value} {h : si_H} {Q : Option Value → si_H → Prop} {q : Nat × Nat × Nat}
theorem jn_rf2 {i k a b ci : Nat} {l : List az_Q} (hH : az_HI P az_tb h) (he : az_tb[i]? = some (.inl (ci, l))) (hq : l[k]? = some (.inr [a, b])) : h.2.2 i k = .ref (P.1 + a) ∨ h.2.2 i k = .ref (P.1 + b) := by
  obtain ⟨-, h2⟩ := hH.2 i _ he
  obtain ⟨j, hj, hv⟩ := h2 k _ hq
  rcases List.mem_cons.mp hj with e | e
  · subst e
    exact Or.inl hv
  · rcases List.mem_singleton.mp e with rfl
    exact Or.inr hv
theorem jn_pfr {i k ci n idx q' c : Nat} {l : List az_Q} {cs : List Nat} (hy : si_m mi = some y) (he : si_fetch mi pc = some (.putfield idx, 3, ci, k, q')) (hH : az_HI P az_tb h) (hi' : i < az_tb.length) (hb : az_tb[i]? = some (.inl (ci, l))) (hs : h.2.1 i = .inl (ci, n)) (hn : ((si_cl[ci]?).map (fun q => q.2.2)).getD 0 = n) (hq : l[k]? = some (.inr cs)) (hc : c ∈ cs) (hty : ∀ v : Nat, narrow (si_fty ci k) (.ref v) = .ref v ∧ fits (si_fty ci k) (.ref v) = true) (hfin : si_fin ci k = false) (kk : ∀ h' : si_H, az_HI P az_tb h' → az_same_out [(i, k)] h h' → az_X P d mi (pc + 3) ls st h' Q) : az_X P d mi pc ls (.ref (P.1 + c) :: .ref (P.1 + i) :: st) h Q := by
  refine az_X_step (pc' := pc + 3) (ls' := ls) (st' := st) (h' := (h.1, h.2.1, si_set h.2.2 i k (.ref (P.1 + c)))) hy he ?_ (kk _ (az_HI_set hH hb (fun q2 hq2 => ?_)) (az_out_set (by unfold az_in; rw [Bool.or_eq_true]; exact Or.inl (by simp))))
  · unfold si_step
    dsimp only
    rw [if_pos rfl, jix hH hi']
    dsimp only
    rw [if_pos ⟨by rw [hs, hn], (hty _).1, (hty _).2, Or.inl hfin⟩]
  · cases hq.symm.trans hq2
    exact ⟨c, hc, rfl⟩
theorem jm_astore_n {k : Fin 4} {x : Nat} {l l' : List (Nat × Value)} (hy : si_m mi = some y) (he : si_fetch mi pc = some (.astore_n k, 1, q)) (hk : (k : Nat) + 1 ≤ y.2.2.2.1) (hl : jM l ls) (h' : l' = ((k : Nat), Value.ref x) :: l.filter (fun q => !(q.1 == (k : Nat)))) (hc : l.all (fun q => q.2.category == 1) = true) (kk : ∀ ls' : si_L, jM l' ls' → az_X P d mi (pc + 1) ls' st h Q) : az_X P d mi pc ls (.ref x :: st) h Q := by
  refine az_X_step (pc' := pc + 1) (ls' := si_st1 ls k (.ref x)) (st' := st) (h' := h) hy he ?_ (kk _ (jM_st hl h' hc))
  unfold si_step
  dsimp only
  show (if si_kd (.ref x) 2 = true ∧ (k : Nat) + (Value.ref x).category ≤ y.2.2.2.1 then some (pc + 1, if (Value.ref x).category = 2 then si_st2 ls k (.ref x) else si_st1 ls k (.ref x), st, h) else none) = _
  rw [if_pos ⟨rfl, hk⟩]
  all_goals rfl
end Jnr
theorem thas_ok {P : si_P} {d : Nat} {h : si_H} (hH : az_HI P az_tb h) (i : Int32) : az_X P d 138 0 (lv_args 0 [.ref (P.1 + 12), .int i]) [] h (fun rv h' => h' = h ∧ ∃ z : Int32, rv = some (.int z) ∧ ((z.toInt = 1 ∧ i.toInt ≤ ja h 12 1) ∨ (z.toInt = 0 ∧ ja h 12 1 < i.toInt))) := by
  have hl : jM [(0, .ref (P.1 + 12)), (1, .int i)] (lv_args 0 [.ref (P.1 + 12), .int i]) := jM_args [0, 1] rfl (by decide)
  generalize lv_args 0 [.ref (P.1 + 12), .int i] = ls at hl
  have k0 : (0 : Int32).toInt = 0 := by decide
  have k1 : (1 : Int32).toInt = 1 := by decide
  refine jm_iload_n (x := i) rfl rfl (jM_at hl 1 rfl) ?_
  refine jm_aload_n (x := P.1 + 12) rfl rfl (jM_at hl 0 rfl) ?_
  refine jn_gf (i := 12) (k := 1) rfl rfl hH (by decide) (hH.2 12 _ rfl).1 rfl rfl (fun z2 (ez2 : z2.toInt = ja h 12 1) (bz2 : 0 ≤ z2.toInt ∧ z2.toInt ≤ 260) => ?_)
  refine jx_ic (t := 12) rfl rfl rfl (fun hc5 => ?_) (fun hc5 => ?_)
  · have g5 := jc2_gt_t hc5
    refine az_X_step (pc' := 13) (ls' := ls) (st' := [.int 0]) (h' := h) rfl rfl rfl ?_
    refine jx_retz rfl rfl rfl (by decide) ?_
    exact ⟨rfl, 0, rfl, by omega⟩
  · have g5 := jc2_gt_f hc5
    refine az_X_step (pc' := 9) (ls' := ls) (st' := [.int 1]) (h' := h) rfl rfl rfl ?_
    refine az_X_step (pc' := 13) (ls' := ls) (st' := [.int 1]) (h' := h) rfl rfl rfl ?_
    refine jx_retz rfl rfl rfl (by decide) ?_
    exact ⟨rfl, 1, rfl, by omega⟩
theorem tempty_ok {P : si_P} {d : Nat} {h : si_H} (hH : az_HI P az_tb h) : az_X P d 142 0 (lv_args 0 [.ref (P.1 + 12)]) [] h (fun rv h' => rv = none ∧ az_HI P az_tb h' ∧ az_same_out [(12, 1)] h h' ∧ ja h' 12 1 = 0) := by
  have hl : jM [(0, .ref (P.1 + 12))] (lv_args 0 [.ref (P.1 + 12)]) := jM_args [0] rfl (by decide)
  generalize lv_args 0 [.ref (P.1 + 12)] = ls at hl
  have k0 : (0 : Int32).toInt = 0 := by decide
  refine jm_aload_n (x := P.1 + 12) rfl rfl (jM_at hl 0 rfl) ?_
  refine az_X_step (pc' := 2) (ls' := ls) (st' := [.int 0, .ref (P.1 + 12)]) (h' := h) rfl rfl rfl ?_
  refine jn_pf (i := 12) (k := 1) (x := 0) rfl rfl hH (by decide) rfl (hH.2 12 _ rfl).1 rfl rfl (by decide) (by decide) (by show 0 ≤ _; omega) (by show _ ≤ 260; omega) (fun h2 hH2 hs2 (t2 : ja h2 12 1 = (0 : Int32).toInt) => ?_)
  replace t2 : ja h2 12 1 = 0 := t2.trans (by decide)
  refine jn_retv rfl rfl rfl ?_
  exact ⟨rfl, hH2, (hs2.sub (by decide)), t2⟩
theorem cr_ok {P : si_P} {d : Nat} {h : si_H} (hH : az_HI P az_tb h) (n m : Int32) : az_X P (d + 1) 192 0 (lv_args 0 [.ref (P.1 + 0), .int n, .int m]) [] h (fun rv h' => h' = h ∧ ∃ z : Int32, rv = some (.int z) ∧ ((z.toInt = 1 ∧ 1 ≤ n.toInt ∧ n.toInt ≤ m.toInt ∧ n.toInt ≤ ja h 12 1) ∨ (z.toInt = 0 ∧ ¬ (1 ≤ n.toInt ∧ n.toInt ≤ m.toInt ∧ n.toInt ≤ ja h 12 1)))) := by
  have hl : jM [(0, .ref (P.1 + 0)), (1, .int n), (2, .int m)] (lv_args 0 [.ref (P.1 + 0), .int n, .int m]) := jM_args [0, 1, 2] rfl (by decide)
  generalize lv_args 0 [.ref (P.1 + 0), .int n, .int m] = ls at hl
  have k0 : (0 : Int32).toInt = 0 := by decide
  have k1 : (1 : Int32).toInt = 1 := by decide
  refine jm_iload_n (x := n) rfl rfl (jM_at hl 1 rfl) ?_
  refine az_X_step (pc' := 2) (ls' := ls) (st' := [.int 1, .int n]) (h' := h) rfl rfl rfl ?_
  refine jx_ic (t := 25) rfl rfl rfl (fun hc2 => ?_) (fun hc2 => ?_)
  · have g2 := jc2_lt_t hc2
    refine az_X_step (pc' := 26) (ls' := ls) (st' := [.int 0]) (h' := h) rfl rfl rfl ?_
    refine jx_retz rfl rfl rfl (by decide) ?_
    exact ⟨rfl, 0, rfl, by omega⟩
  · have g2 := jc2_lt_f hc2
    refine jm_iload_n (x := n) rfl rfl (jM_at hl 1 rfl) ?_
    refine jm_iload_n (x := m) rfl rfl (jM_at hl 2 rfl) ?_
    refine jx_ic (t := 25) rfl rfl rfl (fun hc7 => ?_) (fun hc7 => ?_)
    · have g7 := jc2_gt_t hc7
      refine az_X_step (pc' := 26) (ls' := ls) (st' := [.int 0]) (h' := h) rfl rfl rfl ?_
      refine jx_retz rfl rfl rfl (by decide) ?_
      exact ⟨rfl, 0, rfl, by omega⟩
    · have g7 := jc2_gt_f hc7
      refine jm_aload_n (x := P.1 + 0) rfl rfl (jM_at hl 0 rfl) ?_
      refine jx_gf (i := 0) rfl rfl hH (by decide) (hH.2 0 _ rfl).1 rfl (jx_rf hH rfl rfl) ?_
      refine jm_iload_n (x := n) rfl rfl (jM_at hl 1 rfl) ?_
      refine az_X_call (m' := 138) (as := [.ref (P.1 + 12), .int n]) (rest := []) rfl rfl rfl rfl rfl ?_ ?_
      · unfold si_call
        dsimp only
        rw [if_pos ⟨rfl, rfl⟩]
        show (match si_ix P h (P.1 + 12) with | some i => _ | none => none) = _
        rw [jix hH (by decide)]
        dsimp only
        rw [(hH.2 12 _ rfl).1]
        rfl
      refine (thas_ok hH n).mono ?_
      rintro rv15 h15 ⟨q15, z15, rfl, ez15⟩
      subst h15
      show az_X P _ 192 18 ls [.int z15] _ _
      refine jx_if (t := 25) rfl rfl rfl (fun hc18 => ?_) (fun hc18 => ?_)
      · have g18 := jc1_eq_t hc18
        refine az_X_step (pc' := 26) (ls' := ls) (st' := [.int 0]) (h' := h) rfl rfl rfl ?_
        refine jx_retz rfl rfl rfl (by decide) ?_
        exact ⟨rfl, 0, rfl, by omega⟩
      · have g18 := jc1_eq_f hc18
        refine az_X_step (pc' := 22) (ls' := ls) (st' := [.int 1]) (h' := h) rfl rfl rfl ?_
        refine az_X_step (pc' := 26) (ls' := ls) (st' := [.int 1]) (h' := h) rfl rfl rfl ?_
        refine jx_retz rfl rfl rfl (by decide) ?_
        exact ⟨rfl, 1, rfl, by omega⟩
theorem bt_ok {P : si_P} {d : Nat} {h : si_H} (hH : az_HI P az_tb h) (n : Int32) (hn : 1 ≤ n.toInt ∧ n.toInt ≤ 240) : az_X P d 260 0 (lv_args 0 [.ref (P.1 + 60), .int n]) [] h (fun rv h' => rv = none ∧ az_HI P az_tb h' ∧ az_same_out [(60, 17), (60, 18), (60, 22), (60, 24)] h h' ∧ ja h' 60 17 = 0 ∧ ja h' 60 18 = n.toInt) := by
  have hl : jM [(0, .ref (P.1 + 60)), (1, .int n)] (lv_args 0 [.ref (P.1 + 60), .int n]) := jM_args [0, 1] rfl (by decide)
  generalize lv_args 0 [.ref (P.1 + 60), .int n] = ls at hl
  have k0 : (0 : Int32).toInt = 0 := by decide
  refine jm_aload_n (x := P.1 + 60) rfl rfl (jM_at hl 0 rfl) ?_
  refine az_X_step (pc' := 2) (ls' := ls) (st' := [.int 0, .ref (P.1 + 60)]) (h' := h) rfl rfl rfl ?_
  refine jn_pf (i := 60) (k := 17) (x := 0) rfl rfl hH (by decide) rfl (hH.2 60 _ rfl).1 rfl rfl (by decide) (by decide) (by show 0 ≤ _; omega) (by show _ ≤ 240; omega) (fun h2 hH2 hs2 (t2 : ja h2 60 17 = (0 : Int32).toInt) => ?_)
  replace t2 : ja h2 60 17 = 0 := t2.trans (by decide)
  refine jm_aload_n (x := P.1 + 60) rfl rfl (jM_at hl 0 rfl) ?_
  refine jm_iload_n (x := n) rfl rfl (jM_at hl 1 rfl) ?_
  refine jn_pf (i := 60) (k := 18) (x := n) rfl rfl hH2 (by decide) rfl (hH2.2 60 _ rfl).1 rfl rfl (by decide) (by decide) (by show 0 ≤ _; omega) (by show _ ≤ 240; omega) (fun h7 hH7 hs7 (t7 : ja h7 60 18 = n.toInt) => ?_)
  refine jm_aload_n (x := P.1 + 60) rfl rfl (jM_at hl 0 rfl) ?_
  refine az_X_step (pc' := 12) (ls' := ls) (st' := [.int 0, .ref (P.1 + 60)]) (h' := h7) rfl rfl rfl ?_
  refine jn_pf (i := 60) (k := 22) (x := 0) rfl rfl hH7 (by decide) rfl (hH7.2 60 _ rfl).1 rfl rfl (by decide) (by decide) (by show 0 ≤ _; omega) (by show _ ≤ 240; omega) (fun h12 hH12 hs12 (t12 : ja h12 60 22 = (0 : Int32).toInt) => ?_)
  replace t12 : ja h12 60 22 = 0 := t12.trans (by decide)
  refine jm_aload_n (x := P.1 + 60) rfl rfl (jM_at hl 0 rfl) ?_
  refine az_X_step (pc' := 17) (ls' := ls) (st' := [.int 0, .ref (P.1 + 60)]) (h' := h12) rfl rfl rfl ?_
  refine jn_pf (i := 60) (k := 24) (x := 0) rfl rfl hH12 (by decide) rfl (hH12.2 60 _ rfl).1 rfl rfl (by decide) (by decide) (by show 0 ≤ _; omega) (by show _ ≤ 16; omega) (fun h17 hH17 hs17 (t17 : ja h17 60 24 = (0 : Int32).toInt) => ?_)
  replace t17 : ja h17 60 24 = 0 := t17.trans (by decide)
  refine jn_retv rfl rfl rfl ?_
  exact ⟨rfl, hH17, ((hs2.sub (by decide)).tr ((hs7.sub (by decide)).tr ((hs12.sub (by decide)).tr (hs17.sub (by decide))))), ((jso hs17 (by decide)).trans ((jso hs12 (by decide)).trans ((jso hs7 (by decide)).trans t2))), ((jso hs17 (by decide)).trans ((jso hs12 (by decide)).trans t7))⟩
/-! THE APPOINTMENTS -/
theorem jTI_of {hh : Int → Int} {y p p3 F3 p5 F5 z5 : Int} (hp : 0 ≤ p) (hX : (hh p = 64 ∧ p3 = p + 1 ∧ F3 = 0) ∨ (hh p ≠ 64 ∧ F3 = -1000 - p)) (hT : (F3 = 0 ∧ ∃ f q v : Int, jAN hh p3 4 f q v ∧ ((f = 0 ∧ v < y ∧ z5 = v ∧ p5 = q ∧ F5 = 0) ∨ (f = 0 ∧ y ≤ v ∧ F5 = -3000 - p3) ∨ (f ≠ 0 ∧ F5 = f))) ∨ (F3 ≠ 0 ∧ z5 = 0 ∧ F5 = F3 ∧ p5 = p3)) : ∃ ft qt vt : Int, jTI hh y p ft qt vt ∧ F5 = ft ∧ (ft = 0 → p5 = qt) := by
  rcases hX with ⟨a1, a2, a3⟩ | ⟨a1, a2⟩
  · rcases hT with ⟨-, f, q, v, b1, b2⟩ | ⟨b0, -⟩
    · subst a2
      rcases b2 with ⟨c1, c2, c3, c4, c5⟩ | ⟨c1, c2, c3⟩ | ⟨c1, c2⟩
      · exact ⟨0, q, v, Or.inr ⟨a1, f, b1, Or.inr (Or.inr ⟨c1, c2, rfl⟩)⟩, c5, fun _ => c4⟩
      · exact ⟨-3000 - (p + 1), q, v, Or.inr ⟨a1, f, b1, Or.inr (Or.inl ⟨c1, c2, rfl⟩)⟩, c3, fun e => absurd e (by omega)⟩
      · exact ⟨f, q, v, Or.inr ⟨a1, f, b1, Or.inl ⟨c1, rfl⟩⟩, c2, fun e => absurd e c1⟩
    · exact absurd a3 b0
  · rcases hT with ⟨b0, -⟩ | ⟨b0, -, b2, b3⟩
    · exact absurd b0 (by omega)
    · exact ⟨-1000 - p, 0, 0, Or.inl ⟨a1, rfl⟩, by omega, fun e => absurd e (by omega)⟩
/-- behind the first letter -/
def jAP (hh : Int → Int) (y p o f q : Int) : Prop := (¬ (97 ≤ hh p ∧ hh p ≤ 104) ∧ f = -1000 - p) ∨ ((97 ≤ hh p ∧ hh p ≤ 104) ∧ hh p - 97 = o ∧ f = -6000 - p) ∨ ((97 ≤ hh p ∧ hh p ≤ 104) ∧ hh p - 97 ≠ o ∧ ∃ ft qt vt : Int, jTI hh y (p + 1) ft qt vt ∧ ((ft ≠ 0 ∧ f = ft) ∨ (ft = 0 ∧ hh qt ≠ 58 ∧ f = -1000 - qt) ∨ (ft = 0 ∧ hh qt = 58 ∧ ∃ v : Int, jAN hh (qt + 1) 2 f q v)))
theorem jAP_un {hh : Int → Int} {y p o f q f' q' : Int} (hp : 0 ≤ p) (h1 : jAP hh y p o f q) (h2 : jAP hh y p o f' q') : f = f' ∧ (f = 0 → q = q') := by
  rcases h1 with ⟨a1, a2⟩ | ⟨a1, a2, a3⟩ | ⟨a1, a2, ft, qt, vt, a3, a4⟩ <;> rcases h2 with ⟨b1, b2⟩ | ⟨b1, b2, b3⟩ | ⟨b1, b2, gt, rt, wt, b3, b4⟩
  · exact ⟨by omega, fun e => absurd e (by omega)⟩
  · exact absurd b1 a1
  · exact absurd b1 a1
  · exact absurd a1 b1
  · exact ⟨by omega, fun e => absurd e (by omega)⟩
  · exact absurd a2 b2
  · exact absurd a1 b1
  · exact absurd b2 a2
  · obtain ⟨u1, u2⟩ := jTI_un (by omega) a3 b3
    subst u1
    by_cases e : ft = 0
    · subst e
      obtain ⟨u3, u4⟩ := u2 rfl
      subst u3
      have uq := jTI_q (by omega) a3
      rcases a4 with ⟨c1, c2⟩ | ⟨c1, c2, c3⟩ | ⟨c1, c2, v, c3⟩ <;> rcases b4 with ⟨d1, d2⟩ | ⟨d1, d2, d3⟩ | ⟨d1, d2, w, d3⟩ <;> first
        | exact absurd rfl c1
        | exact absurd rfl d1
        | exact absurd d2 c2
        | exact absurd c2 d2
        | exact ⟨by omega, fun e => absurd e (by omega)⟩
        | (have u5 := jAN_un (by omega) c3 d3
           exact ⟨u5.1, fun e => (u5.2 e).1⟩)
    · rcases a4 with ⟨c1, c2⟩ | ⟨c1, -⟩ | ⟨c1, -⟩
      · rcases b4 with ⟨d1, d2⟩ | ⟨d1, -⟩ | ⟨d1, -⟩
        · exact ⟨c2.trans d2.symm, fun e2 => absurd (c2.symm.trans e2) c1⟩
        · exact absurd d1 e
        · exact absurd d1 e
      · exact absurd c1 e
      · exact absurd c1 e
theorem jAP_q {hh : Int → Int} {y p o q : Int} (hp : 0 ≤ p) (h : jAP hh y p o 0 q) : p + 1 < q := by
  rcases h with ⟨a1, a2⟩ | ⟨a1, a2, a3⟩ | ⟨a1, a2, ft, qt, vt, a3, a4⟩
  · omega
  · omega
  · rcases a4 with ⟨c1, c2⟩ | ⟨c1, c2, c3⟩ | ⟨c1, c2, v, c3⟩
    · exact absurd c2.symm c1
    · subst c1
      have := jTI_q (by omega) a3
      omega
    · subst c1
      have u := jTI_q (by omega) a3
      have := jAN_v (by omega) (by omega) c3
      omega
/-- what the appointments come to, from a place on, so many before -/
def jLB (hh : Int → Int) (y n : Int) : Nat → Int → Int → Int → Prop
  | 0, _, _, _ => False
  | k + 1, p, many, z => (¬ (97 ≤ hh p ∧ hh p ≤ 104) ∧ z = -1000 - p) ∨ ((97 ≤ hh p ∧ hh p ≤ 104) ∧ many = 16 ∧ z = -4000 - p) ∨ ((97 ≤ hh p ∧ hh p ≤ 104) ∧ many ≠ 16 ∧ ∃ f q : Int, jAP hh y (p + 1) (hh p - 97) f q ∧ ((f ≠ 0 ∧ z = f) ∨ (f = 0 ∧ n ≤ q ∧ z = many + 1) ∨ (f = 0 ∧ q < n ∧ hh q ≠ 59 ∧ z = -1000 - q) ∨ (f = 0 ∧ q < n ∧ hh q = 59 ∧ jLB hh y n k (q + 1) (many + 1) z)))
theorem jLB_un {hh : Int → Int} {y n : Int} : ∀ (k : Nat) (p many z w : Int), 0 ≤ p → jLB hh y n k p many z → jLB hh y n k p many w → z = w
  | 0, _, _, _, _, _, h, _ => h.elim
  | k + 1, p, many, z, w, hp, h1, h2 => by
    rcases h1 with ⟨a1, a2⟩ | ⟨a1, a2, a3⟩ | ⟨a1, a2, f, q, a3, a4⟩ <;> rcases h2 with ⟨b1, b2⟩ | ⟨b1, b2, b3⟩ | ⟨b1, b2, f', q', b3, b4⟩
    · omega
    · exact absurd b1 a1
    · exact absurd b1 a1
    · exact absurd a1 b1
    · omega
    · exact absurd a2 b2
    · exact absurd a1 b1
    · exact absurd b2 a2
    · obtain ⟨u1, u2⟩ := jAP_un (by omega) a3 b3
      subst u1
      by_cases e : f = 0
      · subst e
        have u3 := u2 rfl
        subst u3
        have uq := jAP_q (by omega) a3
        rcases a4 with ⟨c1, c2⟩ | ⟨c1, c2, c3⟩ | ⟨c1, c2, c3, c4⟩ | ⟨c1, c2, c3, c4⟩ <;> rcases b4 with ⟨d1, d2⟩ | ⟨d1, d2, d3⟩ | ⟨d1, d2, d3, d4⟩ | ⟨d1, d2, d3, d4⟩ <;> first
          | exact absurd rfl c1
          | exact absurd rfl d1
          | exact jLB_un k _ _ _ _ (by omega) c4 d4
          | exact absurd d3 c3
          | exact absurd c3 d3
          | omega
      · rcases a4 with ⟨c1, c2⟩ | ⟨c1, -⟩ | ⟨c1, -⟩ | ⟨c1, -⟩
        · rcases b4 with ⟨d1, d2⟩ | ⟨d1, -⟩ | ⟨d1, -⟩ | ⟨d1, -⟩
          · exact c2.trans d2.symm
          · exact absurd d1 e
          · exact absurd d1 e
          · exact absurd d1 e
        · exact absurd c1 e
        · exact absurd c1 e
        · exact absurd c1 e
theorem rra_ok {P : si_P} (hxa : P.2.1 < P.1) {d : Nat} {h : si_H} (hH : az_HI P az_tb h) {n p : Int} {hh : Int → Int} (hn : 1 ≤ n ∧ n ≤ 240) (e1 : ja h 14 1 = n) (e2 : ja h 14 2 = p) (e3 : ja h 14 3 = 0) (hb : jBY h n hh) (hh1 : ∀ i : Int, hh i ≤ 255) (hp : p ≤ 240) (i : Int32) (hi : 0 ≤ i.toInt ∧ i.toInt < 16) (ho : 0 ≤ ja h 50 i.toInt ∧ ja h 50 i.toInt ≤ 7) : az_X P (d + 4) 32 0 (lv_args 0 [.ref (P.1 + 49), .ref (P.1 + 14), .int i]) [] h (fun rv h' => rv = none ∧ az_HI P az_tb h' ∧ az_same_out [(14, 2), (14, 3), (51, 1000000), (52, 1000000), (53, 1000000)] h h' ∧ ∃ f q : Int, jAP hh (ja h 1 0 * ja h 1 1) p (ja h 50 i.toInt) f q ∧ ja h' 14 3 = f ∧ (f = 0 → ja h' 14 2 = q)) := by
  have bp : 0 ≤ ja h 14 2 ∧ ja h 14 2 ≤ 241 := ja_bd hH (i := 14) (k := 2) rfl
  have bF : -7000 ≤ ja h 14 3 ∧ ja h 14 3 ≤ 0 := ja_bd hH (i := 14) (k := 3) rfl
  have hl : jM [(0, .ref (P.1 + 49)), (1, .ref (P.1 + 14)), (2, .int i)] (lv_args 0 [.ref (P.1 + 49), .ref (P.1 + 14), .int i]) := jM_args [0, 1, 2] rfl (by decide)
  generalize lv_args 0 [.ref (P.1 + 49), .ref (P.1 + 14), .int i] = ls at hl
  have k2 : (2 : Int32).toInt = 2 := by decide
  have k6 : (6 : Int32).toInt = 6 := by decide
  have k58 : (58 : Int32).toInt = 58 := by decide
  have k64 : (64 : Int32).toInt = 64 := by decide
  refine jm_aload_n (x := P.1 + 49) rfl rfl (jM_at hl 0 rfl) ?_
  refine jx_gf (i := 49) rfl rfl hH (by decide) (hH.2 49 _ rfl).1 rfl (jx_rf hH rfl rfl) ?_
  refine jm_iload_n (x := i) rfl rfl (jM_at hl 2 rfl) ?_
  refine jm_aload_n (x := P.1 + 14) rfl rfl (jM_at hl 1 rfl) ?_
  refine az_X_call (m' := 126) (as := [.ref (P.1 + 14)]) (rest := [.int i, .ref (P.1 + 51)]) rfl rfl rfl rfl rfl ?_ ?_
  · unfold si_call
    dsimp only
    rw [if_pos ⟨rfl, rfl⟩]
    show (match si_ix P h (P.1 + 14) with | some i => _ | none => none) = _
    rw [jix hH (by decide)]
    dsimp only
    rw [(hH.2 14 _ rfl).1]
    rfl
  refine (cl_ok hxa hH hn e1 e2 e3 hb).mono ?_
  rintro rv6 h6 ⟨z6, rfl, hH6, hs6, f6⟩
  show az_X P _ 32 9 ls [.int z6, .int i, .ref (P.1 + 51)] _ _
  refine jn_ias (i := 51) (x := i) (v := z6) rfl rfl hH6 (by decide) rfl (by omega) (by show _ < ((16 : Nat) : Int); omega) (by show -1 ≤ _; rcases f6 with ⟨-, a, b, -⟩ | ⟨-, -, b, -⟩ | ⟨a, b, -⟩ <;> omega) (by show _ ≤ 7; rcases f6 with ⟨-, a, b, -⟩ | ⟨-, -, b, -⟩ | ⟨a, b, -⟩ <;> omega) (fun h9 hH9 hs9 t9 u9 => ?_)
  refine jm_aload_n (x := P.1 + 49) rfl rfl (jM_at hl 0 rfl) ?_
  refine jx_gf (i := 49) rfl rfl hH9 (by decide) (hH9.2 49 _ rfl).1 rfl (jx_rf hH9 rfl rfl) ?_
  refine jm_iload_n (x := i) rfl rfl (jM_at hl 2 rfl) ?_
  refine jx_ial (i := 51) (x := i) rfl rfl hxa hH9 (by decide) rfl (by omega) (by show _ < ((16 : Nat) : Int); omega) (fun z15 ez15 bz15 => ?_)
  refine jm_aload_n (x := P.1 + 49) rfl rfl (jM_at hl 0 rfl) ?_
  refine jx_gf (i := 49) rfl rfl hH9 (by decide) (hH9.2 49 _ rfl).1 rfl (jx_rf hH9 rfl rfl) ?_
  refine jm_iload_n (x := i) rfl rfl (jM_at hl 2 rfl) ?_
  refine jx_ial (i := 50) (x := i) rfl rfl hxa hH9 (by decide) rfl (by omega) (by show _ < ((16 : Nat) : Int); omega) (fun z21 ez21 bz21 => ?_)
  have z15e : z15.toInt = z6.toInt := by rw [ez15]; exact t9
  have z21e : z21.toInt = ja h 50 i.toInt := by rw [ez21, jso_row (i := 50) hs9 (by decide), jso_row (i := 50) hs6 (by decide)]
  refine jx_ic (t := 35) rfl rfl rfl (fun hc22 => ?_) (fun hc22 => ?_)
  · have g22 := jc2_ne_t hc22
    refine jm_aload_n (x := P.1 + 14) rfl rfl (jM_at hl 1 rfl) ?_
    refine az_X_call (m' := 122) (as := [.ref (P.1 + 14)]) (rest := []) rfl rfl rfl rfl rfl ?_ ?_
    · unfold si_call
      dsimp only
      rw [if_pos ⟨rfl, rfl⟩]
      show (match si_ix P h9 (P.1 + 14) with | some i => _ | none => none) = _
      rw [jix hH9 (by decide)]
      dsimp only
      rw [(hH9.2 14 _ rfl).1]
      rfl
    refine (sp_ok hH9 (by rw [((jso hs9 (by decide)).trans (jso hs6 (by decide)))]; omega)).mono ?_
    rintro rv36 h36 ⟨rfl, hH36, hs36, f36⟩
    show az_X P _ 32 39 ls [] _ _
    refine jm_aload_n (x := P.1 + 14) rfl rfl (jM_at hl 1 rfl) ?_
    refine az_X_step (pc' := 42) (ls' := ls) (st' := [.int 64, .ref (P.1 + 14)]) (h' := h36) rfl rfl rfl ?_
    refine az_X_call (m' := 124) (as := [.ref (P.1 + 14), .int 64]) (rest := []) rfl rfl rfl rfl rfl ?_ ?_
    · unfold si_call
      dsimp only
      rw [if_pos ⟨rfl, rfl⟩]
      show (match si_ix P h36 (P.1 + 14) with | some i => _ | none => none) = _
      rw [jix hH36 (by decide)]
      dsimp only
      rw [(hH36.2 14 _ rfl).1]
      rfl
    refine (ex_ok hxa hH36 hn (((jso hs36 (by decide)).trans ((jso hs9 (by decide)).trans (jso hs6 (by decide)))).trans e1) rfl rfl (jBY_so hs36 (by decide) (jBY_so hs9 (by decide) (jBY_so hs6 (by decide) hb))) 64 (by decide)).mono ?_
    rintro rv42 h42 ⟨rfl, hH42, hs42, f42⟩
    show az_X P _ 32 45 ls [] _ _
    refine jm_aload_n (x := P.1 + 49) rfl rfl (jM_at hl 0 rfl) ?_
    refine jx_gf (i := 49) rfl rfl hH42 (by decide) (hH42.2 49 _ rfl).1 rfl (jx_rf hH42 rfl rfl) ?_
    refine jm_iload_n (x := i) rfl rfl (jM_at hl 2 rfl) ?_
    refine jm_aload_n (x := P.1 + 14) rfl rfl (jM_at hl 1 rfl) ?_
    refine jm_aload_n (x := P.1 + 49) rfl rfl (jM_at hl 0 rfl) ?_
    refine jx_gf (i := 49) rfl rfl hH42 (by decide) (hH42.2 49 _ rfl).1 rfl (jx_rf hH42 rfl rfl) ?_
    refine az_X_call (m' := 128) (as := [.ref (P.1 + 14), .ref (P.1 + 1)]) (rest := [.int i, .ref (P.1 + 52)]) rfl rfl rfl rfl rfl ?_ ?_
    · unfold si_call
      dsimp only
      rw [if_pos ⟨rfl, rfl⟩]
      show (match si_ix P h42 (P.1 + 14) with | some i => _ | none => none) = _
      rw [jix hH42 (by decide)]
      dsimp only
      rw [(hH42.2 14 _ rfl).1]
      rfl
    refine (tm_ok hxa hH42 hn (((jso hs42 (by decide)).trans ((jso hs36 (by decide)).trans ((jso hs9 (by decide)).trans (jso hs6 (by decide))))).trans e1) rfl rfl (jBY_so hs42 (by decide) (jBY_so hs36 (by decide) (jBY_so hs9 (by decide) (jBY_so hs6 (by decide) hb)))) hh1 (by
      have b36 : 0 ≤ ja h36 14 2 ∧ ja h36 14 2 ≤ 241 := ja_bd hH36 (i := 14) (k := 2) rfl
      rcases f42 with ⟨-, u, v, -⟩ | ⟨-, -, v⟩ | ⟨u, v⟩
      · have := jBY_lt (jBY_so hs36 (by decide) (jBY_so hs9 (by decide) (jBY_so hs6 (by decide) hb))) (show hh (ja h36 14 2) ≠ -1 by omega)
        omega
      · omega
      · rw [v]
        exact Or.inr u)).mono ?_
    rintro rv55 h55 ⟨z55, rfl, hH55, hs55, f55⟩
    show az_X P _ 32 58 ls [.int z55, .int i, .ref (P.1 + 52)] _ _
    refine jn_ias (i := 52) (x := i) (v := z55) rfl rfl hH55 (by decide) rfl (by omega) (by show _ < ((16 : Nat) : Int); omega) (by show 0 ≤ _; have := f55.1; omega) (by show _ ≤ 9999; have := f55.1; omega) (fun h58 hH58 hs58 t58 u58 => ?_)
    refine jm_aload_n (x := P.1 + 14) rfl rfl (jM_at hl 1 rfl) ?_
    refine az_X_step (pc' := 62) (ls' := ls) (st' := [.int 58, .ref (P.1 + 14)]) (h' := h58) rfl rfl rfl ?_
    refine az_X_call (m' := 124) (as := [.ref (P.1 + 14), .int 58]) (rest := []) rfl rfl rfl rfl rfl ?_ ?_
    · unfold si_call
      dsimp only
      rw [if_pos ⟨rfl, rfl⟩]
      show (match si_ix P h58 (P.1 + 14) with | some i => _ | none => none) = _
      rw [jix hH58 (by decide)]
      dsimp only
      rw [(hH58.2 14 _ rfl).1]
      rfl
    refine (ex_ok hxa hH58 hn (((jso hs58 (by decide)).trans ((jso hs55 (by decide)).trans ((jso hs42 (by decide)).trans ((jso hs36 (by decide)).trans ((jso hs9 (by decide)).trans (jso hs6 (by decide))))))).trans e1) rfl rfl (jBY_so hs58 (by decide) (jBY_so hs55 (by decide) (jBY_so hs42 (by decide) (jBY_so hs36 (by decide) (jBY_so hs9 (by decide) (jBY_so hs6 (by decide) hb)))))) 58 (by decide)).mono ?_
    rintro rv62 h62 ⟨rfl, hH62, hs62, f62⟩
    show az_X P _ 32 65 ls [] _ _
    refine jm_aload_n (x := P.1 + 49) rfl rfl (jM_at hl 0 rfl) ?_
    refine jx_gf (i := 49) rfl rfl hH62 (by decide) (hH62.2 49 _ rfl).1 rfl (jx_rf hH62 rfl rfl) ?_
    refine jm_iload_n (x := i) rfl rfl (jM_at hl 2 rfl) ?_
    refine jm_aload_n (x := P.1 + 14) rfl rfl (jM_at hl 1 rfl) ?_
    refine az_X_step (pc' := 72) (ls' := ls) (st' := [.int 2, .ref (P.1 + 14), .int i, .ref (P.1 + 53)]) (h' := h62) rfl rfl rfl ?_
    refine az_X_call (m' := 127) (as := [.ref (P.1 + 14), .int 2]) (rest := [.int i, .ref (P.1 + 53)]) rfl rfl rfl rfl rfl ?_ ?_
    · unfold si_call
      dsimp only
      rw [if_pos ⟨rfl, rfl⟩]
      show (match si_ix P h62 (P.1 + 14) with | some i => _ | none => none) = _
      rw [jix hH62 (by decide)]
      dsimp only
      rw [(hH62.2 14 _ rfl).1]
      rfl
    refine (nu_ok hxa hH62 hn (((jso hs62 (by decide)).trans ((jso hs58 (by decide)).trans ((jso hs55 (by decide)).trans ((jso hs42 (by decide)).trans ((jso hs36 (by decide)).trans ((jso hs9 (by decide)).trans (jso hs6 (by decide)))))))).trans e1) rfl rfl (jBY_so hs62 (by decide) (jBY_so hs58 (by decide) (jBY_so hs55 (by decide) (jBY_so hs42 (by decide) (jBY_so hs36 (by decide) (jBY_so hs9 (by decide) (jBY_so hs6 (by decide) hb))))))) hh1 (by
      have b58 : 0 ≤ ja h58 14 2 ∧ ja h58 14 2 ≤ 241 := ja_bd hH58 (i := 14) (k := 2) rfl
      rcases f62 with ⟨-, u, v, -⟩ | ⟨-, -, v⟩ | ⟨u, v⟩
      · have := jBY_lt (jBY_so hs58 (by decide) (jBY_so hs55 (by decide) (jBY_so hs42 (by decide) (jBY_so hs36 (by decide) (jBY_so hs9 (by decide) (jBY_so hs6 (by decide) hb)))))) (show hh (ja h58 14 2) ≠ -1 by omega)
        omega
      · omega
      · rw [v]
        exact Or.inr u) 2 (by decide)).mono ?_
    rintro rv72 h72 ⟨z72, rfl, hH72, hs72, f72⟩
    show az_X P _ 32 75 ls [.int z72, .int i, .ref (P.1 + 53)] _ _
    have b72 : 0 ≤ z72.toInt ∧ z72.toInt ≤ 99 := by
      have q2 : (2 : Int32).toInt.toNat = 2 := by decide
      have b62 : 0 ≤ ja h62 14 2 ∧ ja h62 14 2 ≤ 241 := ja_bd hH62 (i := 14) (k := 2) rfl
      rcases f72 with ⟨-, f, q, v, a1, a2⟩ | ⟨-, a2, -⟩
      · rcases a2 with ⟨b1, b2, -⟩ | ⟨-, b2, -⟩
        · subst b1
          rw [q2] at a1
          have := jAN_v (by omega) (by omega) a1
          omega
        · omega
      · omega
    refine jn_ias (i := 53) (x := i) (v := z72) rfl rfl hH72 (by decide) rfl (by omega) (by show _ < ((16 : Nat) : Int); omega) (by show 0 ≤ _; omega) (by show _ ≤ 99; omega) (fun h75 hH75 hs75 t75 u75 => ?_)
    refine jn_retv rfl rfl rfl ?_
    have q2 : (2 : Int32).toInt.toNat = 2 := by decide
    have p36 : ja h36 14 2 = p + 1 := by rw [f36]; rw [jso hs9 (by decide), jso hs6 (by decide)]; omega
    have F36 : ja h36 14 3 = ja h9 14 3 := jso hs36 (by decide)
    have F9 : ja h9 14 3 = ja h6 14 3 := jso hs9 (by decide)
    have r0 : ja h42 1 0 * ja h42 1 1 = ja h 1 0 * ja h 1 1 := by rw [jso hs42 (by decide), jso hs36 (by decide), jso hs9 (by decide), jso hs6 (by decide), jso hs42 (by decide), jso hs36 (by decide), jso hs9 (by decide), jso hs6 (by decide)]
    have s58 : ja h58 14 3 = ja h55 14 3 ∧ ja h58 14 2 = ja h55 14 2 := ⟨jso hs58 (by decide), jso hs58 (by decide)⟩
    have s75 : ja h75 14 3 = ja h72 14 3 ∧ ja h75 14 2 = ja h72 14 2 := ⟨jso hs75 (by decide), jso hs75 (by decide)⟩
    have stay : ja h36 14 3 ≠ 0 → ja h75 14 3 = ja h36 14 3 := by
      intro nz
      have a1 : h42 = h36 := by
        rcases f42 with ⟨q, -⟩ | ⟨q, -⟩ | ⟨-, q⟩
        · exact absurd q nz
        · exact absurd q nz
        · exact q
      have a2 : ja h55 14 3 = ja h36 14 3 := by
        rcases f55.2 with ⟨q, -⟩ | ⟨-, -, q, -⟩
        · rw [a1] at q; exact absurd q nz
        · rw [q, a1]
      have a3 : ja h62 14 3 = ja h36 14 3 := by
        rcases f62 with ⟨q, -⟩ | ⟨q, -⟩ | ⟨-, q⟩
        · exact absurd (by omega) nz
        · exact absurd (by omega) nz
        · rw [q]; omega
      rcases f72 with ⟨q, -⟩ | ⟨-, -, q⟩
      · exact absurd (by omega) nz
      · rw [s75.1, q]; exact a3
    rcases f6 with ⟨-, a, b, c⟩ | ⟨-, a, b, c⟩ | ⟨a, -⟩
    · have F0 : ja h36 14 3 = 0 := by rw [F36, F9, c]; exact e3
      have hne : hh p - 97 ≠ ja h 50 i.toInt := by
        clear stay f72 f62 f55 f42
        omega
      have hX : (hh (p + 1) = 64 ∧ ja h42 14 2 = p + 1 + 1 ∧ ja h42 14 3 = 0) ∨ (hh (p + 1) ≠ 64 ∧ ja h42 14 3 = -1000 - (p + 1)) := by
        rcases f42 with ⟨-, u, v, w⟩ | ⟨-, u, v⟩ | ⟨u, -⟩
        · rw [p36] at u v
          exact Or.inl ⟨u.trans k64, v, w⟩
        · rw [p36] at u v
          exact Or.inr ⟨fun e => u (e.trans k64.symm), v⟩
        · exact absurd F0 u
      have hT := f55.2
      rw [r0] at hT
      obtain ⟨ft, qt, vt, w1, w2, w3⟩ := jTI_of (by omega) hX hT
      by_cases ef : ft = 0
      · have eq := w3 ef
        have w1' := w1
        rw [ef] at w1'
        have wq := jTI_q (by omega) w1'
        rcases f62 with ⟨u0, u1, u2, u3⟩ | ⟨u0, u1, u2⟩ | ⟨u0, -⟩
        · rcases f72 with ⟨-, f, q, v, d1, d2⟩ | ⟨d0, -⟩
          · rw [q2] at d1
            have d3 : jAN hh (qt + 1) 2 f q v := by
              rw [show qt + 1 = ja h62 14 2 by omega]
              exact d1
            refine ⟨rfl, hH75, ((hs6.sub (by decide)).tr ((hs9.sub (by decide)).tr ((hs36.sub (by decide)).tr ((hs42.sub (by decide)).tr ((hs55.sub (by decide)).tr ((hs58.sub (by decide)).tr ((hs62.sub (by decide)).tr ((hs72.sub (by decide)).tr (hs75.sub (by decide)))))))))), f, q, Or.inr (Or.inr ⟨a, hne, ft, qt, vt, w1, Or.inr (Or.inr ⟨ef, ?_, v, d3⟩)⟩), ?_, fun e => ?_⟩
            · rw [show qt = ja h58 14 2 by omega]
              exact u1.trans k58
            · rw [s75.1]
              rcases d2 with ⟨b1, -, -, b4⟩ | ⟨-, -, b3⟩
              · rw [b4, b1]
              · exact b3
            · rw [s75.2]
              rcases d2 with ⟨-, -, b3, -⟩ | ⟨b1, -, -⟩
              · exact b3
              · exact absurd e b1
          · exact absurd u3 d0
        · have l72 : ja h72 14 3 = ja h62 14 3 := by
            rcases f72 with ⟨v0, -⟩ | ⟨-, -, v0⟩
            · have b58 : 0 ≤ ja h58 14 2 ∧ ja h58 14 2 ≤ 241 := ja_bd hH58 (i := 14) (k := 2) rfl
              omega
            · rw [v0]
          refine ⟨rfl, hH75, ((hs6.sub (by decide)).tr ((hs9.sub (by decide)).tr ((hs36.sub (by decide)).tr ((hs42.sub (by decide)).tr ((hs55.sub (by decide)).tr ((hs58.sub (by decide)).tr ((hs62.sub (by decide)).tr ((hs72.sub (by decide)).tr (hs75.sub (by decide)))))))))), -1000 - qt, 0, Or.inr (Or.inr ⟨a, hne, ft, qt, vt, w1, Or.inr (Or.inl ⟨ef, fun e => u1 ?_, rfl⟩)⟩), by omega, fun e => absurd e (by omega)⟩
          rw [show ja h58 14 2 = qt by omega, e]
          exact k58.symm
        · exact absurd (by omega) u0
      · have l62 : ja h62 14 3 = ft := by
          rcases f62 with ⟨q, -⟩ | ⟨q, -⟩ | ⟨-, q⟩
          · exact absurd (by omega) ef
          · exact absurd (by omega) ef
          · rw [q]; omega
        have l72 : ja h72 14 3 = ft := by
          rcases f72 with ⟨q, -⟩ | ⟨-, -, q⟩
          · exact absurd (by omega) ef
          · rw [q]; exact l62
        refine ⟨rfl, hH75, ((hs6.sub (by decide)).tr ((hs9.sub (by decide)).tr ((hs36.sub (by decide)).tr ((hs42.sub (by decide)).tr ((hs55.sub (by decide)).tr ((hs58.sub (by decide)).tr ((hs62.sub (by decide)).tr ((hs72.sub (by decide)).tr (hs75.sub (by decide)))))))))), ft, 0, Or.inr (Or.inr ⟨a, hne, ft, qt, vt, w1, Or.inl ⟨ef, rfl⟩⟩), by omega, fun e => absurd e ef⟩
    · have st := stay (by omega)
      refine ⟨rfl, hH75, ((hs6.sub (by decide)).tr ((hs9.sub (by decide)).tr ((hs36.sub (by decide)).tr ((hs42.sub (by decide)).tr ((hs55.sub (by decide)).tr ((hs58.sub (by decide)).tr ((hs62.sub (by decide)).tr ((hs72.sub (by decide)).tr (hs75.sub (by decide)))))))))), -1000 - p, 0, Or.inl ⟨a, rfl⟩, by omega, fun e => absurd e (by omega)⟩
    · exact absurd rfl a
  · have g22 := jc2_ne_f hc22
    refine jm_aload_n (x := P.1 + 14) rfl rfl (jM_at hl 1 rfl) ?_
    refine az_X_step (pc' := 28) (ls' := ls) (st' := [.int 6, .ref (P.1 + 14)]) (h' := h9) rfl rfl rfl ?_
    refine jm_aload_n (x := P.1 + 14) rfl rfl (jM_at hl 1 rfl) ?_
    refine az_X_call (m' := 120) (as := [.ref (P.1 + 14)]) (rest := [.int 6, .ref (P.1 + 14)]) rfl rfl rfl rfl rfl ?_ ?_
    · unfold si_call
      dsimp only
      rw [if_pos ⟨rfl, rfl⟩]
      show (match si_ix P h9 (P.1 + 14) with | some i => _ | none => none) = _
      rw [jix hH9 (by decide)]
      dsimp only
      rw [(hH9.2 14 _ rfl).1]
      rfl
    refine (pl_ok hH9).mono ?_
    rintro rv29 h29 ⟨q29, z29, rfl, ez29⟩
    subst h29
    show az_X P _ 32 32 ls [.int z29, .int 6, .ref (P.1 + 14)] _ _
    refine az_X_call (m' := 125) (as := [.ref (P.1 + 14), .int 6, .int z29]) (rest := []) rfl rfl rfl rfl rfl ?_ ?_
    · unfold si_call
      dsimp only
      rw [if_pos ⟨rfl, rfl⟩]
      show (match si_ix P h9 (P.1 + 14) with | some i => _ | none => none) = _
      rw [jix hH9 (by decide)]
      dsimp only
      rw [(hH9.2 14 _ rfl).1]
      rfl
    refine (fl_ok hH9 6 z29 (by decide) (by have : 0 ≤ ja h9 14 2 ∧ ja h9 14 2 ≤ 241 := ja_bd hH9 (i := 14) (k := 2) rfl; omega)).mono ?_
    rintro rv32 h32 ⟨rfl, hH32, hs32, f32⟩
    show az_X P _ 32 35 ls [] _ _
    refine jm_aload_n (x := P.1 + 14) rfl rfl (jM_at hl 1 rfl) ?_
    refine az_X_call (m' := 122) (as := [.ref (P.1 + 14)]) (rest := []) rfl rfl rfl rfl rfl ?_ ?_
    · unfold si_call
      dsimp only
      rw [if_pos ⟨rfl, rfl⟩]
      show (match si_ix P h32 (P.1 + 14) with | some i => _ | none => none) = _
      rw [jix hH32 (by decide)]
      dsimp only
      rw [(hH32.2 14 _ rfl).1]
      rfl
    refine (sp_ok hH32 (by rw [((jso hs32 (by decide)).trans ((jso hs9 (by decide)).trans (jso hs6 (by decide))))]; omega)).mono ?_
    rintro rv36 h36 ⟨rfl, hH36, hs36, f36⟩
    show az_X P _ 32 39 ls [] _ _
    refine jm_aload_n (x := P.1 + 14) rfl rfl (jM_at hl 1 rfl) ?_
    refine az_X_step (pc' := 42) (ls' := ls) (st' := [.int 64, .ref (P.1 + 14)]) (h' := h36) rfl rfl rfl ?_
    refine az_X_call (m' := 124) (as := [.ref (P.1 + 14), .int 64]) (rest := []) rfl rfl rfl rfl rfl ?_ ?_
    · unfold si_call
      dsimp only
      rw [if_pos ⟨rfl, rfl⟩]
      show (match si_ix P h36 (P.1 + 14) with | some i => _ | none => none) = _
      rw [jix hH36 (by decide)]
      dsimp only
      rw [(hH36.2 14 _ rfl).1]
      rfl
    refine (ex_ok hxa hH36 hn (((jso hs36 (by decide)).trans ((jso hs32 (by decide)).trans ((jso hs9 (by decide)).trans (jso hs6 (by decide))))).trans e1) rfl rfl (jBY_so hs36 (by decide) (jBY_so hs32 (by decide) (jBY_so hs9 (by decide) (jBY_so hs6 (by decide) hb)))) 64 (by decide)).mono ?_
    rintro rv42 h42 ⟨rfl, hH42, hs42, f42⟩
    show az_X P _ 32 45 ls [] _ _
    refine jm_aload_n (x := P.1 + 49) rfl rfl (jM_at hl 0 rfl) ?_
    refine jx_gf (i := 49) rfl rfl hH42 (by decide) (hH42.2 49 _ rfl).1 rfl (jx_rf hH42 rfl rfl) ?_
    refine jm_iload_n (x := i) rfl rfl (jM_at hl 2 rfl) ?_
    refine jm_aload_n (x := P.1 + 14) rfl rfl (jM_at hl 1 rfl) ?_
    refine jm_aload_n (x := P.1 + 49) rfl rfl (jM_at hl 0 rfl) ?_
    refine jx_gf (i := 49) rfl rfl hH42 (by decide) (hH42.2 49 _ rfl).1 rfl (jx_rf hH42 rfl rfl) ?_
    refine az_X_call (m' := 128) (as := [.ref (P.1 + 14), .ref (P.1 + 1)]) (rest := [.int i, .ref (P.1 + 52)]) rfl rfl rfl rfl rfl ?_ ?_
    · unfold si_call
      dsimp only
      rw [if_pos ⟨rfl, rfl⟩]
      show (match si_ix P h42 (P.1 + 14) with | some i => _ | none => none) = _
      rw [jix hH42 (by decide)]
      dsimp only
      rw [(hH42.2 14 _ rfl).1]
      rfl
    refine (tm_ok hxa hH42 hn (((jso hs42 (by decide)).trans ((jso hs36 (by decide)).trans ((jso hs32 (by decide)).trans ((jso hs9 (by decide)).trans (jso hs6 (by decide)))))).trans e1) rfl rfl (jBY_so hs42 (by decide) (jBY_so hs36 (by decide) (jBY_so hs32 (by decide) (jBY_so hs9 (by decide) (jBY_so hs6 (by decide) hb))))) hh1 (by
      have b36 : 0 ≤ ja h36 14 2 ∧ ja h36 14 2 ≤ 241 := ja_bd hH36 (i := 14) (k := 2) rfl
      rcases f42 with ⟨-, u, v, -⟩ | ⟨-, -, v⟩ | ⟨u, v⟩
      · have := jBY_lt (jBY_so hs36 (by decide) (jBY_so hs32 (by decide) (jBY_so hs9 (by decide) (jBY_so hs6 (by decide) hb)))) (show hh (ja h36 14 2) ≠ -1 by omega)
        omega
      · omega
      · rw [v]
        exact Or.inr u)).mono ?_
    rintro rv55 h55 ⟨z55, rfl, hH55, hs55, f55⟩
    show az_X P _ 32 58 ls [.int z55, .int i, .ref (P.1 + 52)] _ _
    refine jn_ias (i := 52) (x := i) (v := z55) rfl rfl hH55 (by decide) rfl (by omega) (by show _ < ((16 : Nat) : Int); omega) (by show 0 ≤ _; have := f55.1; omega) (by show _ ≤ 9999; have := f55.1; omega) (fun h58 hH58 hs58 t58 u58 => ?_)
    refine jm_aload_n (x := P.1 + 14) rfl rfl (jM_at hl 1 rfl) ?_
    refine az_X_step (pc' := 62) (ls' := ls) (st' := [.int 58, .ref (P.1 + 14)]) (h' := h58) rfl rfl rfl ?_
    refine az_X_call (m' := 124) (as := [.ref (P.1 + 14), .int 58]) (rest := []) rfl rfl rfl rfl rfl ?_ ?_
    · unfold si_call
      dsimp only
      rw [if_pos ⟨rfl, rfl⟩]
      show (match si_ix P h58 (P.1 + 14) with | some i => _ | none => none) = _
      rw [jix hH58 (by decide)]
      dsimp only
      rw [(hH58.2 14 _ rfl).1]
      rfl
    refine (ex_ok hxa hH58 hn (((jso hs58 (by decide)).trans ((jso hs55 (by decide)).trans ((jso hs42 (by decide)).trans ((jso hs36 (by decide)).trans ((jso hs32 (by decide)).trans ((jso hs9 (by decide)).trans (jso hs6 (by decide)))))))).trans e1) rfl rfl (jBY_so hs58 (by decide) (jBY_so hs55 (by decide) (jBY_so hs42 (by decide) (jBY_so hs36 (by decide) (jBY_so hs32 (by decide) (jBY_so hs9 (by decide) (jBY_so hs6 (by decide) hb))))))) 58 (by decide)).mono ?_
    rintro rv62 h62 ⟨rfl, hH62, hs62, f62⟩
    show az_X P _ 32 65 ls [] _ _
    refine jm_aload_n (x := P.1 + 49) rfl rfl (jM_at hl 0 rfl) ?_
    refine jx_gf (i := 49) rfl rfl hH62 (by decide) (hH62.2 49 _ rfl).1 rfl (jx_rf hH62 rfl rfl) ?_
    refine jm_iload_n (x := i) rfl rfl (jM_at hl 2 rfl) ?_
    refine jm_aload_n (x := P.1 + 14) rfl rfl (jM_at hl 1 rfl) ?_
    refine az_X_step (pc' := 72) (ls' := ls) (st' := [.int 2, .ref (P.1 + 14), .int i, .ref (P.1 + 53)]) (h' := h62) rfl rfl rfl ?_
    refine az_X_call (m' := 127) (as := [.ref (P.1 + 14), .int 2]) (rest := [.int i, .ref (P.1 + 53)]) rfl rfl rfl rfl rfl ?_ ?_
    · unfold si_call
      dsimp only
      rw [if_pos ⟨rfl, rfl⟩]
      show (match si_ix P h62 (P.1 + 14) with | some i => _ | none => none) = _
      rw [jix hH62 (by decide)]
      dsimp only
      rw [(hH62.2 14 _ rfl).1]
      rfl
    refine (nu_ok hxa hH62 hn (((jso hs62 (by decide)).trans ((jso hs58 (by decide)).trans ((jso hs55 (by decide)).trans ((jso hs42 (by decide)).trans ((jso hs36 (by decide)).trans ((jso hs32 (by decide)).trans ((jso hs9 (by decide)).trans (jso hs6 (by decide))))))))).trans e1) rfl rfl (jBY_so hs62 (by decide) (jBY_so hs58 (by decide) (jBY_so hs55 (by decide) (jBY_so hs42 (by decide) (jBY_so hs36 (by decide) (jBY_so hs32 (by decide) (jBY_so hs9 (by decide) (jBY_so hs6 (by decide) hb)))))))) hh1 (by
      have b58 : 0 ≤ ja h58 14 2 ∧ ja h58 14 2 ≤ 241 := ja_bd hH58 (i := 14) (k := 2) rfl
      rcases f62 with ⟨-, u, v, -⟩ | ⟨-, -, v⟩ | ⟨u, v⟩
      · have := jBY_lt (jBY_so hs58 (by decide) (jBY_so hs55 (by decide) (jBY_so hs42 (by decide) (jBY_so hs36 (by decide) (jBY_so hs32 (by decide) (jBY_so hs9 (by decide) (jBY_so hs6 (by decide) hb))))))) (show hh (ja h58 14 2) ≠ -1 by omega)
        omega
      · omega
      · rw [v]
        exact Or.inr u) 2 (by decide)).mono ?_
    rintro rv72 h72 ⟨z72, rfl, hH72, hs72, f72⟩
    show az_X P _ 32 75 ls [.int z72, .int i, .ref (P.1 + 53)] _ _
    have b72 : 0 ≤ z72.toInt ∧ z72.toInt ≤ 99 := by
      have q2 : (2 : Int32).toInt.toNat = 2 := by decide
      have b62 : 0 ≤ ja h62 14 2 ∧ ja h62 14 2 ≤ 241 := ja_bd hH62 (i := 14) (k := 2) rfl
      rcases f72 with ⟨-, f, q, v, a1, a2⟩ | ⟨-, a2, -⟩
      · rcases a2 with ⟨b1, b2, -⟩ | ⟨-, b2, -⟩
        · subst b1
          rw [q2] at a1
          have := jAN_v (by omega) (by omega) a1
          omega
        · omega
      · omega
    refine jn_ias (i := 53) (x := i) (v := z72) rfl rfl hH72 (by decide) rfl (by omega) (by show _ < ((16 : Nat) : Int); omega) (by show 0 ≤ _; omega) (by show _ ≤ 99; omega) (fun h75 hH75 hs75 t75 u75 => ?_)
    refine jn_retv rfl rfl rfl ?_
    have q2 : (2 : Int32).toInt.toNat = 2 := by decide
    have p36 : ja h36 14 2 = p + 1 := by rw [f36]; rw [jso hs32 (by decide), jso hs9 (by decide), jso hs6 (by decide)]; omega
    have F36 : ja h36 14 3 = ja h32 14 3 := jso hs36 (by decide)
    have F9 : ja h9 14 3 = ja h6 14 3 := jso hs9 (by decide)
    have r0 : ja h42 1 0 * ja h42 1 1 = ja h 1 0 * ja h 1 1 := by rw [jso hs42 (by decide), jso hs36 (by decide), jso hs32 (by decide), jso hs9 (by decide), jso hs6 (by decide), jso hs42 (by decide), jso hs36 (by decide), jso hs32 (by decide), jso hs9 (by decide), jso hs6 (by decide)]
    have s58 : ja h58 14 3 = ja h55 14 3 ∧ ja h58 14 2 = ja h55 14 2 := ⟨jso hs58 (by decide), jso hs58 (by decide)⟩
    have s75 : ja h75 14 3 = ja h72 14 3 ∧ ja h75 14 2 = ja h72 14 2 := ⟨jso hs75 (by decide), jso hs75 (by decide)⟩
    have stay : ja h36 14 3 ≠ 0 → ja h75 14 3 = ja h36 14 3 := by
      intro nz
      have a1 : h42 = h36 := by
        rcases f42 with ⟨q, -⟩ | ⟨q, -⟩ | ⟨-, q⟩
        · exact absurd q nz
        · exact absurd q nz
        · exact q
      have a2 : ja h55 14 3 = ja h36 14 3 := by
        rcases f55.2 with ⟨q, -⟩ | ⟨-, -, q, -⟩
        · rw [a1] at q; exact absurd q nz
        · rw [q, a1]
      have a3 : ja h62 14 3 = ja h36 14 3 := by
        rcases f62 with ⟨q, -⟩ | ⟨q, -⟩ | ⟨-, q⟩
        · exact absurd (by omega) nz
        · exact absurd (by omega) nz
        · rw [q]; omega
      rcases f72 with ⟨q, -⟩ | ⟨-, -, q⟩
      · exact absurd (by omega) nz
      · rw [s75.1, q]; exact a3
    have x6 : (97 ≤ hh p ∧ hh p ≤ 104) ∧ z6.toInt = hh p - 97 ∧ h6 = h := by
      rcases f6 with ⟨-, a, b, c⟩ | ⟨-, -, b, -⟩ | ⟨a, -⟩
      · exact ⟨a, b, c⟩
      · omega
      · exact absurd rfl a
    have g3 : ja h32 14 3 = -6000 - p := by
      have q := f32.1 (by rw [F9, x6.2.2]; exact e3)
      have z29e : z29.toInt = p := by rw [ez29, jso hs9 (by decide), x6.2.2]; exact e2
      omega
    have st := stay (by omega)
    refine ⟨rfl, hH75, ((hs6.sub (by decide)).tr ((hs9.sub (by decide)).tr ((hs32.sub (by decide)).tr ((hs36.sub (by decide)).tr ((hs42.sub (by decide)).tr ((hs55.sub (by decide)).tr ((hs58.sub (by decide)).tr ((hs62.sub (by decide)).tr ((hs72.sub (by decide)).tr (hs75.sub (by decide))))))))))), -6000 - p, 0, Or.inr (Or.inl ⟨x6.1, by omega, rfl⟩), by omega, fun e => absurd e (by omega)⟩
theorem rxa_ok {P : si_P} {d : Nat} {h : si_H} (hH : az_HI P az_tb h) {n p F : Int} (e1 : ja h 14 1 = n) (e2 : ja h 14 2 = p) (e3 : ja h 14 3 = F) (T U : Int32) (hU : U.toInt = 0) (ls : si_L) (hl : jM [(3, .int T), (2, .int U), (0, .ref (P.1 + 49)), (1, .ref (P.1 + 14))] ls) : az_X P (d + 2) 31 9 ls [] h (fun rv h' => ∃ z : Int32, rv = some (.int z) ∧ az_HI P az_tb h' ∧ az_same_out [(14, 3)] h h' ∧ ((F ≠ 0 ∧ z.toInt = F) ∨ (F = 0 ∧ p < n ∧ z.toInt = -1000 - p) ∨ (F = 0 ∧ n ≤ p ∧ z.toInt = ja h 49 5))) := by
  have k0 : (0 : Int32).toInt = 0 := by decide
  have k16 : (16 : Int32).toInt = 16 := by decide
  refine jm_iload_n (x := T) rfl rfl (jM_at hl 0 rfl) ?_
  refine az_X_step (pc' := 12) (ls' := ls) (st' := [.int 16, .int T]) (h' := h) rfl rfl rfl ?_
  refine jx_ic (t := 94) rfl rfl rfl (fun hc12 => ?_) (fun hc12 => ?_)
  · have g12 := jc2_gt_t hc12
    refine jm_aload_n (x := P.1 + 14) rfl rfl (jM_at hl 3 rfl) ?_
    refine jm_aload_n (x := P.1 + 49) rfl rfl (jM_at hl 2 rfl) ?_
    refine jn_gf (i := 49) (k := 5) rfl rfl hH (by decide) (hH.2 49 _ rfl).1 rfl rfl (fun z96 (ez96 : z96.toInt = ja h 49 5) (bz96 : 0 ≤ z96.toInt ∧ z96.toInt ≤ 16) => ?_)
    refine az_X_call (m' := 129) (as := [.ref (P.1 + 14), .int z96]) (rest := []) rfl rfl rfl rfl rfl ?_ ?_
    · unfold si_call
      dsimp only
      rw [if_pos ⟨rfl, rfl⟩]
      show (match si_ix P h (P.1 + 14) with | some i => _ | none => none) = _
      rw [jix hH (by decide)]
      dsimp only
      rw [(hH.2 14 _ rfl).1]
      rfl
    refine (aw_ok hH e1 e2 e3 z96).mono ?_
    rintro rv99 h99 ⟨z99, rfl, hH99, hs99, f99⟩
    show az_X P _ 31 102 ls [.int z99] _ _
    refine jx_ret rfl rfl rfl ?_
    rw [ez96] at f99
    exact ⟨z99, rfl, hH99, hs99, f99⟩
  · have g12 := jc2_gt_f hc12
    refine jm_iload_n (x := U) rfl rfl (jM_at hl 1 rfl) ?_
    refine jx_if (t := 94) rfl rfl rfl (fun hc16 => ?_) (fun hc16 => ?_)
    · have g16 := jc1_eq_t hc16
      refine jm_aload_n (x := P.1 + 14) rfl rfl (jM_at hl 3 rfl) ?_
      refine jm_aload_n (x := P.1 + 49) rfl rfl (jM_at hl 2 rfl) ?_
      refine jn_gf (i := 49) (k := 5) rfl rfl hH (by decide) (hH.2 49 _ rfl).1 rfl rfl (fun z96 (ez96 : z96.toInt = ja h 49 5) (bz96 : 0 ≤ z96.toInt ∧ z96.toInt ≤ 16) => ?_)
      refine az_X_call (m' := 129) (as := [.ref (P.1 + 14), .int z96]) (rest := []) rfl rfl rfl rfl rfl ?_ ?_
      · unfold si_call
        dsimp only
        rw [if_pos ⟨rfl, rfl⟩]
        show (match si_ix P h (P.1 + 14) with | some i => _ | none => none) = _
        rw [jix hH (by decide)]
        dsimp only
        rw [(hH.2 14 _ rfl).1]
        rfl
      refine (aw_ok hH e1 e2 e3 z96).mono ?_
      rintro rv99 h99 ⟨z99, rfl, hH99, hs99, f99⟩
      show az_X P _ 31 102 ls [.int z99] _ _
      refine jx_ret rfl rfl rfl ?_
      rw [ez96] at f99
      exact ⟨z99, rfl, hH99, hs99, f99⟩
    · have g16 := jc1_eq_f hc16
      exfalso
      omega
theorem rda_l {P : si_P} (hxa : P.2.1 < P.1) {d : Nat} {h0 : si_H} {n : Int} {hh : Int → Int} (hn : 1 ≤ n ∧ n ≤ 240) (hh1 : ∀ i : Int, hh i ≤ 255) : ∀ (k j : Nat) (p : Int) (T U : Int32) (h : si_H) (ls : si_L), jM [(3, .int T), (2, .int U), (0, .ref (P.1 + 49)), (1, .ref (P.1 + 14))] ls → az_HI P az_tb h → az_same_out [(14, 2), (14, 3), (49, 5), (50, 1000000), (51, 1000000), (52, 1000000), (53, 1000000)] h0 h → ja h 14 1 = n → ja h 14 2 = p → ja h 14 3 = 0 → jBY h n hh → T.toInt = j → U.toInt = 1 → ja h 49 5 = j → j + k = 17 → j ≤ 16 → 0 ≤ p ∧ p ≤ 240 → az_X P (d + 5) 31 9 ls [] h (fun rv h' => ∃ z : Int32, rv = some (.int z) ∧ az_HI P az_tb h' ∧ az_same_out [(14, 2), (14, 3), (49, 5), (50, 1000000), (51, 1000000), (52, 1000000), (53, 1000000)] h0 h' ∧ jLB hh (ja h0 1 0 * ja h0 1 1) n k p j z.toInt) := by
  intro k
  induction k with
  | zero =>
    intro j p T U h ls hl hH hs e1 e2 e3 hb eT eU eC hj hS hp
    exfalso
    omega
  | succ k ih =>
    intro j p T U h ls hl hH hs e1 e2 e3 hb eT eU eC hj hS hp
    have y0 : ja h 1 0 * ja h 1 1 = ja h0 1 0 * ja h0 1 1 := by rw [jso hs (by decide), jso hs (by decide)]
    have k0 : (0 : Int32).toInt = 0 := by decide
    have k1 : (1 : Int32).toInt = 1 := by decide
    have k4 : (4 : Int32).toInt = 4 := by decide
    have k16 : (16 : Int32).toInt = 16 := by decide
    have k59 : (59 : Int32).toInt = 59 := by decide
    refine jm_iload_n (x := T) rfl rfl (jM_at hl 0 rfl) ?_
    refine az_X_step (pc' := 12) (ls' := ls) (st' := [.int 16, .int T]) (h' := h) rfl rfl rfl ?_
    refine jx_ic (t := 94) rfl rfl rfl (fun hc12 => ?_) (fun hc12 => ?_)
    · have g12 := jc2_gt_t hc12
      exfalso
      omega
    · have g12 := jc2_gt_f hc12
      refine jm_iload_n (x := U) rfl rfl (jM_at hl 1 rfl) ?_
      refine jx_if (t := 94) rfl rfl rfl (fun hc16 => ?_) (fun hc16 => ?_)
      · have g16 := jc1_eq_t hc16
        exfalso
        omega
      · have g16 := jc1_eq_f hc16
        refine jm_aload_n (x := P.1 + 14) rfl rfl (jM_at hl 3 rfl) ?_
        refine az_X_call (m' := 126) (as := [.ref (P.1 + 14)]) (rest := []) rfl rfl rfl rfl rfl ?_ ?_
        · unfold si_call
          dsimp only
          rw [if_pos ⟨rfl, rfl⟩]
          show (match si_ix P h (P.1 + 14) with | some i => _ | none => none) = _
          rw [jix hH (by decide)]
          dsimp only
          rw [(hH.2 14 _ rfl).1]
          rfl
        refine (cl_ok hxa hH hn e1 e2 e3 hb).mono ?_
        rintro rv20 h20 ⟨z20, rfl, hH20, hs20, f20⟩
        show az_X P _ 31 23 ls [.int z20] _ _
        refine jm_istore (l' := [(4, .int z20), (3, .int T), (2, .int U), (0, .ref (P.1 + 49)), (1, .ref (P.1 + 14))]) rfl rfl (by decide) hl rfl rfl (fun ls23 hl23 => ?_)
        refine jm_iload (x := z20) rfl rfl (jM_at hl23 0 rfl) ?_
        refine jx_if (t := 48) rfl rfl rfl (fun hc27 => ?_) (fun hc27 => ?_)
        · have g27 := jc1_lt_t hc27
          refine jm_iload (x := z20) rfl rfl (jM_at hl23 0 rfl) ?_
          refine jx_if (t := 81) rfl rfl rfl (fun hc50 => ?_) (fun hc50 => ?_)
          · have g50 := jc1_lt_t hc50
            refine jm_aload_n (x := P.1 + 14) rfl rfl (jM_at hl23 4 rfl) ?_
            refine az_X_step (pc' := 84) (ls' := ls23) (st' := [.int 59, .ref (P.1 + 14)]) (h' := h20) rfl rfl rfl ?_
            refine az_X_call (m' := 123) (as := [.ref (P.1 + 14), .int 59]) (rest := []) rfl rfl rfl rfl rfl ?_ ?_
            · unfold si_call
              dsimp only
              rw [if_pos ⟨rfl, rfl⟩]
              show (match si_ix P h20 (P.1 + 14) with | some i => _ | none => none) = _
              rw [jix hH20 (by decide)]
              dsimp only
              rw [(hH20.2 14 _ rfl).1]
              rfl
            refine (tk_ok hxa hH20 hn ((jso hs20 (by decide)).trans e1) rfl rfl (jBY_so hs20 (by decide) hb) 59 (by decide)).mono ?_
            rintro rv84 h84 ⟨z84, rfl, hH84, hs84, f84⟩
            show az_X P _ 31 87 ls23 [.int z84] _ _
            refine jm_istore_n (l' := [(2, .int z84), (4, .int z20), (3, .int T), (0, .ref (P.1 + 49)), (1, .ref (P.1 + 14))]) rfl rfl (by decide) hl23 rfl rfl (fun ls87 hl87 => ?_)
            refine jn_iinc (x := T) rfl rfl (by decide) (jM_at hl87 2 rfl) hl87 rfl (by decide) (by omega) (by omega) (fun z88 (ez88 : z88.toInt = T.toInt + 1) ls88 (hl88 : jM [(3, .int z88), (2, .int z84), (4, .int z20), (0, .ref (P.1 + 49)), (1, .ref (P.1 + 14))] ls88) => ?_)
            refine az_X_step (pc' := 9) (ls' := ls88) (st' := []) (h' := h84) rfl rfl rfl ?_
            have x20 : ¬ (97 ≤ hh p ∧ hh p ≤ 104) ∧ ja h20 14 3 = -1000 - p := by
              rcases f20 with ⟨-, a, b, c⟩ | ⟨-, a, -, b⟩ | ⟨a, -⟩
              · omega
              · exact ⟨a, b⟩
              · exact absurd rfl a
            have x84 : z84.toInt = 0 ∧ h84 = h20 := by
              rcases f84 with ⟨a, -⟩ | ⟨-, a, b⟩
              · omega
              · exact ⟨a, b⟩
            have i84 : ja h84 14 3 = -1000 - p := by rw [x84.2]; exact x20.2
            refine (rxa_ok (d := d + 3) hH84 (((jso hs84 (by decide)).trans (jso hs20 (by decide))).trans e1) rfl rfl z88 z84 (by omega) ls88 (jM_pick hl88 [0, 1, 3, 4] rfl)).mono ?_
            rintro rv h9 ⟨z, q1, q2, q3, q4⟩
            refine ⟨z, q1, q2, (hs.tr ((hs20.sub (by decide)).tr (hs84.sub (by decide)))).tr (q3.sub (by decide)), ?_⟩
            exact Or.inl ⟨x20.1, by omega⟩
          · have g50 := jc1_lt_f hc50
            refine jm_aload_n (x := P.1 + 14) rfl rfl (jM_at hl23 4 rfl) ?_
            refine az_X_call (m' := 122) (as := [.ref (P.1 + 14)]) (rest := []) rfl rfl rfl rfl rfl ?_ ?_
            · unfold si_call
              dsimp only
              rw [if_pos ⟨rfl, rfl⟩]
              show (match si_ix P h20 (P.1 + 14) with | some i => _ | none => none) = _
              rw [jix hH20 (by decide)]
              dsimp only
              rw [(hH20.2 14 _ rfl).1]
              rfl
            refine (sp_ok hH20 (by
              rcases f20 with ⟨-, a, b, c⟩ | ⟨-, -, b, -⟩ | ⟨a, -⟩
              · have := jBY_lt hb (show hh p ≠ -1 by omega)
                rw [c]
                omega
              · omega
              · exact absurd rfl a)).mono ?_
            rintro rv54 h54 ⟨rfl, hH54, hs54, f54⟩
            show az_X P _ 31 57 ls23 [] _ _
            refine jm_aload_n (x := P.1 + 49) rfl rfl (jM_at hl23 3 rfl) ?_
            refine jx_gf (i := 49) rfl rfl hH54 (by decide) (hH54.2 49 _ rfl).1 rfl (jx_rf hH54 rfl rfl) ?_
            refine jm_iload_n (x := T) rfl rfl (jM_at hl23 1 rfl) ?_
            refine jm_iload (x := z20) rfl rfl (jM_at hl23 0 rfl) ?_
            refine jn_ias (i := 50) (x := T) (v := z20) rfl rfl hH54 (by decide) rfl (by omega) (by show _ < ((16 : Nat) : Int); omega) (by show 0 ≤ _; omega) (by show _ ≤ 7; rcases f20 with ⟨-, a, b, -⟩ | ⟨-, -, b, -⟩ | ⟨a, -⟩ <;> first | omega | exact absurd rfl a) (fun h64 hH64 hs64 t64 u64 => ?_)
            refine jm_aload_n (x := P.1 + 49) rfl rfl (jM_at hl23 3 rfl) ?_
            refine jm_aload_n (x := P.1 + 14) rfl rfl (jM_at hl23 4 rfl) ?_
            refine jm_iload_n (x := T) rfl rfl (jM_at hl23 1 rfl) ?_
            refine az_X_call (m' := 32) (as := [.ref (P.1 + 49), .ref (P.1 + 14), .int T]) (rest := []) rfl rfl rfl rfl rfl ?_ ?_
            · unfold si_call
              dsimp only
              rw [if_pos ⟨rfl, rfl⟩]
              show (match si_ix P h64 (P.1 + 49) with | some i => _ | none => none) = _
              rw [jix hH64 (by decide)]
              dsimp only
              rw [(hH64.2 49 _ rfl).1]
              rfl
            refine (rra_ok hxa hH64 hn (((jso hs64 (by decide)).trans ((jso hs54 (by decide)).trans (jso hs20 (by decide)))).trans e1) rfl (by
              rcases f20 with ⟨-, a, b, c⟩ | ⟨-, -, b, -⟩ | ⟨a, -⟩
              · rw [jso hs64 (by decide), jso hs54 (by decide), c]
                exact e3
              · omega
              · exact absurd rfl a) (jBY_so hs64 (by decide) (jBY_so hs54 (by decide) (jBY_so hs20 (by decide) hb))) hh1 (by
              rcases f20 with ⟨-, a, b, c⟩ | ⟨-, -, b, -⟩ | ⟨a, -⟩
              · have := jBY_lt hb (show hh p ≠ -1 by omega)
                rw [jso hs64 (by decide), f54, c]
                omega
              · omega
              · exact absurd rfl a) T (by omega) (by rw [t64]; exact ⟨by
              rcases f20 with ⟨-, a, b, c⟩ | ⟨-, -, b, -⟩ | ⟨a, -⟩
              · omega
              · omega
              · exact absurd rfl a, by
              rcases f20 with ⟨-, a, b, c⟩ | ⟨-, -, b, -⟩ | ⟨a, -⟩
              · omega
              · omega
              · exact absurd rfl a⟩)).mono ?_
            rintro rv68 h68 ⟨rfl, hH68, hs68, f68⟩
            show az_X P _ 31 71 ls23 [] _ _
            refine jm_aload_n (x := P.1 + 49) rfl rfl (jM_at hl23 3 rfl) ?_
            refine az_X_step (pc' := 73) (ls' := ls23) (st' := [.ref (P.1 + 49), .ref (P.1 + 49)]) (h' := h68) rfl rfl rfl ?_
            refine jn_gf (i := 49) (k := 5) rfl rfl hH68 (by decide) (hH68.2 49 _ rfl).1 rfl rfl (fun z73 (ez73 : z73.toInt = ja h68 49 5) (bz73 : 0 ≤ z73.toInt ∧ z73.toInt ≤ 16) => ?_)
            replace ez73 : z73.toInt = ja h 49 5 := ez73.trans ((jso hs68 (by decide)).trans ((jso hs64 (by decide)).trans ((jso hs54 (by decide)).trans (jso hs20 (by decide)))))
            have b73 : ja h20 49 5 = j := by
              rcases f20 with ⟨-, a, b, c⟩ | ⟨-, -, b, -⟩ | ⟨a, -⟩
              · rw [c]; exact eC
              · omega
              · exact absurd rfl a
            refine az_X_step (pc' := 77) (ls' := ls23) (st' := [.int 1, .int z73, .ref (P.1 + 49)]) (h' := h68) rfl rfl rfl ?_
            have b73 : ja h20 49 5 = j := by
              rcases f20 with ⟨-, a, b, c⟩ | ⟨-, -, b, -⟩ | ⟨a, -⟩
              · rw [c]; exact eC
              · omega
              · exact absurd rfl a
            refine jn_add (a := z73) (b := 1) rfl rfl (by omega) (by omega) (fun z77 ez77 => ?_)
            rw [show (1 : Int32).toInt = 1 by decide] at ez77
            refine jn_pf (i := 49) (k := 5) (x := z77) rfl rfl hH68 (by decide) rfl (hH68.2 49 _ rfl).1 rfl rfl (by decide) (by decide) (by show 0 ≤ _; omega) (by show _ ≤ 16; omega) (fun h78 hH78 hs78 (t78 : ja h78 49 5 = z77.toInt) => ?_)
            refine jm_aload_n (x := P.1 + 14) rfl rfl (jM_at hl23 4 rfl) ?_
            refine az_X_step (pc' := 84) (ls' := ls23) (st' := [.int 59, .ref (P.1 + 14)]) (h' := h78) rfl rfl rfl ?_
            refine az_X_call (m' := 123) (as := [.ref (P.1 + 14), .int 59]) (rest := []) rfl rfl rfl rfl rfl ?_ ?_
            · unfold si_call
              dsimp only
              rw [if_pos ⟨rfl, rfl⟩]
              show (match si_ix P h78 (P.1 + 14) with | some i => _ | none => none) = _
              rw [jix hH78 (by decide)]
              dsimp only
              rw [(hH78.2 14 _ rfl).1]
              rfl
            refine (tk_ok hxa hH78 hn (((jso hs78 (by decide)).trans ((jso hs68 (by decide)).trans ((jso hs64 (by decide)).trans ((jso hs54 (by decide)).trans (jso hs20 (by decide)))))).trans e1) rfl rfl (jBY_so hs78 (by decide) (jBY_so hs68 (by decide) (jBY_so hs64 (by decide) (jBY_so hs54 (by decide) (jBY_so hs20 (by decide) hb))))) 59 (by decide)).mono ?_
            rintro rv84 h84 ⟨z84, rfl, hH84, hs84, f84⟩
            show az_X P _ 31 87 ls23 [.int z84] _ _
            refine jm_istore_n (l' := [(2, .int z84), (4, .int z20), (3, .int T), (0, .ref (P.1 + 49)), (1, .ref (P.1 + 14))]) rfl rfl (by decide) hl23 rfl rfl (fun ls87 hl87 => ?_)
            refine jn_iinc (x := T) rfl rfl (by decide) (jM_at hl87 2 rfl) hl87 rfl (by decide) (by omega) (by omega) (fun z88 (ez88 : z88.toInt = T.toInt + 1) ls88 (hl88 : jM [(3, .int z88), (2, .int z84), (4, .int z20), (0, .ref (P.1 + 49)), (1, .ref (P.1 + 14))] ls88) => ?_)
            refine az_X_step (pc' := 9) (ls' := ls88) (st' := []) (h' := h84) rfl rfl rfl ?_
            have x20 : (97 ≤ hh p ∧ hh p ≤ 104) ∧ z20.toInt = hh p - 97 ∧ h20 = h := by
              rcases f20 with ⟨-, a, b, c⟩ | ⟨-, -, b, -⟩ | ⟨a, -⟩
              · exact ⟨a, b, c⟩
              · omega
              · exact absurd rfl a
            obtain ⟨f, q, l3, l4, l5⟩ := f68
            have p64 : ja h64 14 2 = p + 1 := by rw [jso hs64 (by decide), f54, x20.2.2]; omega
            have o64 : ja h64 50 T.toInt = hh p - 97 := t64.trans x20.2.1
            have yy : ja h64 1 0 * ja h64 1 1 = ja h0 1 0 * ja h0 1 1 := by rw [← y0, jso hs64 (by decide), jso hs64 (by decide), jso hs54 (by decide), jso hs54 (by decide), x20.2.2]
            rw [p64, yy, o64] at l3
            have lq : f = 0 → p + 1 + 1 < q := fun e => by
              subst e
              exact jAP_q (by omega) l3
            have l4b : ja h78 14 3 = f := (jso hs78 (by decide)).trans l4
            have l5b : f = 0 → ja h78 14 2 = q := fun e => (jso hs78 (by decide)).trans (l5 e)
            have n16 : (j : Int) ≠ 16 := by omega
            have s78 : ja h78 49 5 = (j : Int) + 1 := t78.trans (by
              have : ja h20 49 5 = j := by rw [x20.2.2]; exact eC
              omega)
            rcases f84 with ⟨a1, a2, a3, a4⟩ | ⟨a1, a2, a3⟩
            · have ef : f = 0 := l4b.symm.trans a1
              have eq := l5b ef
              have i59 : hh q = 59 := by rw [← eq]; exact a2.trans k59
              have qn : q < n := jBY_lt hb (by omega)
              refine (ih (j + 1) (q + 1) z88 z84 h84 ls88 (jM_pick hl88 [0, 1, 3, 4] rfl) hH84 (hs.tr ((hs20.sub (by decide)).tr ((hs54.sub (by decide)).tr ((hs64.sub (by decide)).tr ((hs68.sub (by decide)).tr ((hs78.sub (by decide)).tr (hs84.sub (by decide)))))))) (((jso hs84 (by decide)).trans ((jso hs78 (by decide)).trans ((jso hs68 (by decide)).trans ((jso hs64 (by decide)).trans ((jso hs54 (by decide)).trans (jso hs20 (by decide))))))).trans e1) (by omega) ((jso hs84 (by decide)).trans a1) (jBY_so hs84 (by decide) (jBY_so hs78 (by decide) (jBY_so hs68 (by decide) (jBY_so hs64 (by decide) (jBY_so hs54 (by decide) (jBY_so hs20 (by decide) hb)))))) (by omega) a3 ((jso hs84 (by decide)).trans (by omega)) (by omega) (by omega) (by have := lq ef; omega)).mono ?_
              rintro rv h9 ⟨z, q1, q2, q3, q4⟩
              refine ⟨z, q1, q2, q3, Or.inr (Or.inr ⟨x20.1, n16, f, q, l3, Or.inr (Or.inr (Or.inr ⟨ef, qn, i59, ?_⟩))⟩)⟩
              rw [show (j : Int) + 1 = ((j + 1 : Nat) : Int) by omega]
              exact q4
            · have i2 : ja h84 14 2 = ja h78 14 2 := by rw [a3]
              have i3 : ja h84 14 3 = f := by rw [a3]; exact l4b
              have i5 : ja h84 49 5 = (j : Int) + 1 := by rw [a3]; exact s78
              refine (rxa_ok (d := d + 3) hH84 (((jso hs84 (by decide)).trans ((jso hs78 (by decide)).trans ((jso hs68 (by decide)).trans ((jso hs64 (by decide)).trans ((jso hs54 (by decide)).trans (jso hs20 (by decide))))))).trans e1) rfl rfl z88 z84 (by omega) ls88 (jM_pick hl88 [0, 1, 3, 4] rfl)).mono ?_
              rintro rv h9 ⟨z, q1, q2, q3, q4⟩
              refine ⟨z, q1, q2, (hs.tr ((hs20.sub (by decide)).tr ((hs54.sub (by decide)).tr ((hs64.sub (by decide)).tr ((hs68.sub (by decide)).tr ((hs78.sub (by decide)).tr (hs84.sub (by decide)))))))).tr (q3.sub (by decide)), ?_⟩
              refine Or.inr (Or.inr ⟨x20.1, n16, f, q, l3, ?_⟩)
              rcases q4 with ⟨c1, c2⟩ | ⟨c1, c2, c3⟩ | ⟨c1, c2, c3⟩
              · exact Or.inl ⟨by omega, by omega⟩
              · have ef : f = 0 := by omega
                have eq := l5b ef
                refine Or.inr (Or.inr (Or.inl ⟨ef, by omega, fun e => a1 ⟨by omega, ?_⟩, by omega⟩))
                rw [eq, k59]
                exact e
              · have ef : f = 0 := by omega
                have eq := l5b ef
                exact Or.inr (Or.inl ⟨ef, by omega, by omega⟩)
        · have g27 := jc1_lt_f hc27
          refine jm_iload_n (x := T) rfl rfl (jM_at hl23 1 rfl) ?_
          refine az_X_step (pc' := 33) (ls' := ls23) (st' := [.int 16, .int T]) (h' := h20) rfl rfl rfl ?_
          refine jx_ic (t := 48) rfl rfl rfl (fun hc33 => ?_) (fun hc33 => ?_)
          · have g33 := jc2_ne_t hc33
            refine jm_iload (x := z20) rfl rfl (jM_at hl23 0 rfl) ?_
            refine jx_if (t := 81) rfl rfl rfl (fun hc50 => ?_) (fun hc50 => ?_)
            · have g50 := jc1_lt_t hc50
              refine jm_aload_n (x := P.1 + 14) rfl rfl (jM_at hl23 4 rfl) ?_
              refine az_X_step (pc' := 84) (ls' := ls23) (st' := [.int 59, .ref (P.1 + 14)]) (h' := h20) rfl rfl rfl ?_
              refine az_X_call (m' := 123) (as := [.ref (P.1 + 14), .int 59]) (rest := []) rfl rfl rfl rfl rfl ?_ ?_
              · unfold si_call
                dsimp only
                rw [if_pos ⟨rfl, rfl⟩]
                show (match si_ix P h20 (P.1 + 14) with | some i => _ | none => none) = _
                rw [jix hH20 (by decide)]
                dsimp only
                rw [(hH20.2 14 _ rfl).1]
                rfl
              refine (tk_ok hxa hH20 hn ((jso hs20 (by decide)).trans e1) rfl rfl (jBY_so hs20 (by decide) hb) 59 (by decide)).mono ?_
              rintro rv84 h84 ⟨z84, rfl, hH84, hs84, f84⟩
              show az_X P _ 31 87 ls23 [.int z84] _ _
              refine jm_istore_n (l' := [(2, .int z84), (4, .int z20), (3, .int T), (0, .ref (P.1 + 49)), (1, .ref (P.1 + 14))]) rfl rfl (by decide) hl23 rfl rfl (fun ls87 hl87 => ?_)
              refine jn_iinc (x := T) rfl rfl (by decide) (jM_at hl87 2 rfl) hl87 rfl (by decide) (by omega) (by omega) (fun z88 (ez88 : z88.toInt = T.toInt + 1) ls88 (hl88 : jM [(3, .int z88), (2, .int z84), (4, .int z20), (0, .ref (P.1 + 49)), (1, .ref (P.1 + 14))] ls88) => ?_)
              refine az_X_step (pc' := 9) (ls' := ls88) (st' := []) (h' := h84) rfl rfl rfl ?_
              have x20 : ¬ (97 ≤ hh p ∧ hh p ≤ 104) ∧ ja h20 14 3 = -1000 - p := by
                rcases f20 with ⟨-, a, b, c⟩ | ⟨-, a, -, b⟩ | ⟨a, -⟩
                · omega
                · exact ⟨a, b⟩
                · exact absurd rfl a
              have x84 : z84.toInt = 0 ∧ h84 = h20 := by
                rcases f84 with ⟨a, -⟩ | ⟨-, a, b⟩
                · omega
                · exact ⟨a, b⟩
              have i84 : ja h84 14 3 = -1000 - p := by rw [x84.2]; exact x20.2
              refine (rxa_ok (d := d + 3) hH84 (((jso hs84 (by decide)).trans (jso hs20 (by decide))).trans e1) rfl rfl z88 z84 (by omega) ls88 (jM_pick hl88 [0, 1, 3, 4] rfl)).mono ?_
              rintro rv h9 ⟨z, q1, q2, q3, q4⟩
              refine ⟨z, q1, q2, (hs.tr ((hs20.sub (by decide)).tr (hs84.sub (by decide)))).tr (q3.sub (by decide)), ?_⟩
              exact Or.inl ⟨x20.1, by omega⟩
            · have g50 := jc1_lt_f hc50
              refine jm_aload_n (x := P.1 + 14) rfl rfl (jM_at hl23 4 rfl) ?_
              refine az_X_call (m' := 122) (as := [.ref (P.1 + 14)]) (rest := []) rfl rfl rfl rfl rfl ?_ ?_
              · unfold si_call
                dsimp only
                rw [if_pos ⟨rfl, rfl⟩]
                show (match si_ix P h20 (P.1 + 14) with | some i => _ | none => none) = _
                rw [jix hH20 (by decide)]
                dsimp only
                rw [(hH20.2 14 _ rfl).1]
                rfl
              refine (sp_ok hH20 (by
                rcases f20 with ⟨-, a, b, c⟩ | ⟨-, -, b, -⟩ | ⟨a, -⟩
                · have := jBY_lt hb (show hh p ≠ -1 by omega)
                  rw [c]
                  omega
                · omega
                · exact absurd rfl a)).mono ?_
              rintro rv54 h54 ⟨rfl, hH54, hs54, f54⟩
              show az_X P _ 31 57 ls23 [] _ _
              refine jm_aload_n (x := P.1 + 49) rfl rfl (jM_at hl23 3 rfl) ?_
              refine jx_gf (i := 49) rfl rfl hH54 (by decide) (hH54.2 49 _ rfl).1 rfl (jx_rf hH54 rfl rfl) ?_
              refine jm_iload_n (x := T) rfl rfl (jM_at hl23 1 rfl) ?_
              refine jm_iload (x := z20) rfl rfl (jM_at hl23 0 rfl) ?_
              refine jn_ias (i := 50) (x := T) (v := z20) rfl rfl hH54 (by decide) rfl (by omega) (by show _ < ((16 : Nat) : Int); omega) (by show 0 ≤ _; omega) (by show _ ≤ 7; rcases f20 with ⟨-, a, b, -⟩ | ⟨-, -, b, -⟩ | ⟨a, -⟩ <;> first | omega | exact absurd rfl a) (fun h64 hH64 hs64 t64 u64 => ?_)
              refine jm_aload_n (x := P.1 + 49) rfl rfl (jM_at hl23 3 rfl) ?_
              refine jm_aload_n (x := P.1 + 14) rfl rfl (jM_at hl23 4 rfl) ?_
              refine jm_iload_n (x := T) rfl rfl (jM_at hl23 1 rfl) ?_
              refine az_X_call (m' := 32) (as := [.ref (P.1 + 49), .ref (P.1 + 14), .int T]) (rest := []) rfl rfl rfl rfl rfl ?_ ?_
              · unfold si_call
                dsimp only
                rw [if_pos ⟨rfl, rfl⟩]
                show (match si_ix P h64 (P.1 + 49) with | some i => _ | none => none) = _
                rw [jix hH64 (by decide)]
                dsimp only
                rw [(hH64.2 49 _ rfl).1]
                rfl
              refine (rra_ok hxa hH64 hn (((jso hs64 (by decide)).trans ((jso hs54 (by decide)).trans (jso hs20 (by decide)))).trans e1) rfl (by
                rcases f20 with ⟨-, a, b, c⟩ | ⟨-, -, b, -⟩ | ⟨a, -⟩
                · rw [jso hs64 (by decide), jso hs54 (by decide), c]
                  exact e3
                · omega
                · exact absurd rfl a) (jBY_so hs64 (by decide) (jBY_so hs54 (by decide) (jBY_so hs20 (by decide) hb))) hh1 (by
                rcases f20 with ⟨-, a, b, c⟩ | ⟨-, -, b, -⟩ | ⟨a, -⟩
                · have := jBY_lt hb (show hh p ≠ -1 by omega)
                  rw [jso hs64 (by decide), f54, c]
                  omega
                · omega
                · exact absurd rfl a) T (by omega) (by rw [t64]; exact ⟨by
                rcases f20 with ⟨-, a, b, c⟩ | ⟨-, -, b, -⟩ | ⟨a, -⟩
                · omega
                · omega
                · exact absurd rfl a, by
                rcases f20 with ⟨-, a, b, c⟩ | ⟨-, -, b, -⟩ | ⟨a, -⟩
                · omega
                · omega
                · exact absurd rfl a⟩)).mono ?_
              rintro rv68 h68 ⟨rfl, hH68, hs68, f68⟩
              show az_X P _ 31 71 ls23 [] _ _
              refine jm_aload_n (x := P.1 + 49) rfl rfl (jM_at hl23 3 rfl) ?_
              refine az_X_step (pc' := 73) (ls' := ls23) (st' := [.ref (P.1 + 49), .ref (P.1 + 49)]) (h' := h68) rfl rfl rfl ?_
              refine jn_gf (i := 49) (k := 5) rfl rfl hH68 (by decide) (hH68.2 49 _ rfl).1 rfl rfl (fun z73 (ez73 : z73.toInt = ja h68 49 5) (bz73 : 0 ≤ z73.toInt ∧ z73.toInt ≤ 16) => ?_)
              replace ez73 : z73.toInt = ja h 49 5 := ez73.trans ((jso hs68 (by decide)).trans ((jso hs64 (by decide)).trans ((jso hs54 (by decide)).trans (jso hs20 (by decide)))))
              have b73 : ja h20 49 5 = j := by
                rcases f20 with ⟨-, a, b, c⟩ | ⟨-, -, b, -⟩ | ⟨a, -⟩
                · rw [c]; exact eC
                · omega
                · exact absurd rfl a
              refine az_X_step (pc' := 77) (ls' := ls23) (st' := [.int 1, .int z73, .ref (P.1 + 49)]) (h' := h68) rfl rfl rfl ?_
              have b73 : ja h20 49 5 = j := by
                rcases f20 with ⟨-, a, b, c⟩ | ⟨-, -, b, -⟩ | ⟨a, -⟩
                · rw [c]; exact eC
                · omega
                · exact absurd rfl a
              refine jn_add (a := z73) (b := 1) rfl rfl (by omega) (by omega) (fun z77 ez77 => ?_)
              rw [show (1 : Int32).toInt = 1 by decide] at ez77
              refine jn_pf (i := 49) (k := 5) (x := z77) rfl rfl hH68 (by decide) rfl (hH68.2 49 _ rfl).1 rfl rfl (by decide) (by decide) (by show 0 ≤ _; omega) (by show _ ≤ 16; omega) (fun h78 hH78 hs78 (t78 : ja h78 49 5 = z77.toInt) => ?_)
              refine jm_aload_n (x := P.1 + 14) rfl rfl (jM_at hl23 4 rfl) ?_
              refine az_X_step (pc' := 84) (ls' := ls23) (st' := [.int 59, .ref (P.1 + 14)]) (h' := h78) rfl rfl rfl ?_
              refine az_X_call (m' := 123) (as := [.ref (P.1 + 14), .int 59]) (rest := []) rfl rfl rfl rfl rfl ?_ ?_
              · unfold si_call
                dsimp only
                rw [if_pos ⟨rfl, rfl⟩]
                show (match si_ix P h78 (P.1 + 14) with | some i => _ | none => none) = _
                rw [jix hH78 (by decide)]
                dsimp only
                rw [(hH78.2 14 _ rfl).1]
                rfl
              refine (tk_ok hxa hH78 hn (((jso hs78 (by decide)).trans ((jso hs68 (by decide)).trans ((jso hs64 (by decide)).trans ((jso hs54 (by decide)).trans (jso hs20 (by decide)))))).trans e1) rfl rfl (jBY_so hs78 (by decide) (jBY_so hs68 (by decide) (jBY_so hs64 (by decide) (jBY_so hs54 (by decide) (jBY_so hs20 (by decide) hb))))) 59 (by decide)).mono ?_
              rintro rv84 h84 ⟨z84, rfl, hH84, hs84, f84⟩
              show az_X P _ 31 87 ls23 [.int z84] _ _
              refine jm_istore_n (l' := [(2, .int z84), (4, .int z20), (3, .int T), (0, .ref (P.1 + 49)), (1, .ref (P.1 + 14))]) rfl rfl (by decide) hl23 rfl rfl (fun ls87 hl87 => ?_)
              refine jn_iinc (x := T) rfl rfl (by decide) (jM_at hl87 2 rfl) hl87 rfl (by decide) (by omega) (by omega) (fun z88 (ez88 : z88.toInt = T.toInt + 1) ls88 (hl88 : jM [(3, .int z88), (2, .int z84), (4, .int z20), (0, .ref (P.1 + 49)), (1, .ref (P.1 + 14))] ls88) => ?_)
              refine az_X_step (pc' := 9) (ls' := ls88) (st' := []) (h' := h84) rfl rfl rfl ?_
              have x20 : (97 ≤ hh p ∧ hh p ≤ 104) ∧ z20.toInt = hh p - 97 ∧ h20 = h := by
                rcases f20 with ⟨-, a, b, c⟩ | ⟨-, -, b, -⟩ | ⟨a, -⟩
                · exact ⟨a, b, c⟩
                · omega
                · exact absurd rfl a
              obtain ⟨f, q, l3, l4, l5⟩ := f68
              have p64 : ja h64 14 2 = p + 1 := by rw [jso hs64 (by decide), f54, x20.2.2]; omega
              have o64 : ja h64 50 T.toInt = hh p - 97 := t64.trans x20.2.1
              have yy : ja h64 1 0 * ja h64 1 1 = ja h0 1 0 * ja h0 1 1 := by rw [← y0, jso hs64 (by decide), jso hs64 (by decide), jso hs54 (by decide), jso hs54 (by decide), x20.2.2]
              rw [p64, yy, o64] at l3
              have lq : f = 0 → p + 1 + 1 < q := fun e => by
                subst e
                exact jAP_q (by omega) l3
              have l4b : ja h78 14 3 = f := (jso hs78 (by decide)).trans l4
              have l5b : f = 0 → ja h78 14 2 = q := fun e => (jso hs78 (by decide)).trans (l5 e)
              have n16 : (j : Int) ≠ 16 := by omega
              have s78 : ja h78 49 5 = (j : Int) + 1 := t78.trans (by
                have : ja h20 49 5 = j := by rw [x20.2.2]; exact eC
                omega)
              rcases f84 with ⟨a1, a2, a3, a4⟩ | ⟨a1, a2, a3⟩
              · have ef : f = 0 := l4b.symm.trans a1
                have eq := l5b ef
                have i59 : hh q = 59 := by rw [← eq]; exact a2.trans k59
                have qn : q < n := jBY_lt hb (by omega)
                refine (ih (j + 1) (q + 1) z88 z84 h84 ls88 (jM_pick hl88 [0, 1, 3, 4] rfl) hH84 (hs.tr ((hs20.sub (by decide)).tr ((hs54.sub (by decide)).tr ((hs64.sub (by decide)).tr ((hs68.sub (by decide)).tr ((hs78.sub (by decide)).tr (hs84.sub (by decide)))))))) (((jso hs84 (by decide)).trans ((jso hs78 (by decide)).trans ((jso hs68 (by decide)).trans ((jso hs64 (by decide)).trans ((jso hs54 (by decide)).trans (jso hs20 (by decide))))))).trans e1) (by omega) ((jso hs84 (by decide)).trans a1) (jBY_so hs84 (by decide) (jBY_so hs78 (by decide) (jBY_so hs68 (by decide) (jBY_so hs64 (by decide) (jBY_so hs54 (by decide) (jBY_so hs20 (by decide) hb)))))) (by omega) a3 ((jso hs84 (by decide)).trans (by omega)) (by omega) (by omega) (by have := lq ef; omega)).mono ?_
                rintro rv h9 ⟨z, q1, q2, q3, q4⟩
                refine ⟨z, q1, q2, q3, Or.inr (Or.inr ⟨x20.1, n16, f, q, l3, Or.inr (Or.inr (Or.inr ⟨ef, qn, i59, ?_⟩))⟩)⟩
                rw [show (j : Int) + 1 = ((j + 1 : Nat) : Int) by omega]
                exact q4
              · have i2 : ja h84 14 2 = ja h78 14 2 := by rw [a3]
                have i3 : ja h84 14 3 = f := by rw [a3]; exact l4b
                have i5 : ja h84 49 5 = (j : Int) + 1 := by rw [a3]; exact s78
                refine (rxa_ok (d := d + 3) hH84 (((jso hs84 (by decide)).trans ((jso hs78 (by decide)).trans ((jso hs68 (by decide)).trans ((jso hs64 (by decide)).trans ((jso hs54 (by decide)).trans (jso hs20 (by decide))))))).trans e1) rfl rfl z88 z84 (by omega) ls88 (jM_pick hl88 [0, 1, 3, 4] rfl)).mono ?_
                rintro rv h9 ⟨z, q1, q2, q3, q4⟩
                refine ⟨z, q1, q2, (hs.tr ((hs20.sub (by decide)).tr ((hs54.sub (by decide)).tr ((hs64.sub (by decide)).tr ((hs68.sub (by decide)).tr ((hs78.sub (by decide)).tr (hs84.sub (by decide)))))))).tr (q3.sub (by decide)), ?_⟩
                refine Or.inr (Or.inr ⟨x20.1, n16, f, q, l3, ?_⟩)
                rcases q4 with ⟨c1, c2⟩ | ⟨c1, c2, c3⟩ | ⟨c1, c2, c3⟩
                · exact Or.inl ⟨by omega, by omega⟩
                · have ef : f = 0 := by omega
                  have eq := l5b ef
                  refine Or.inr (Or.inr (Or.inl ⟨ef, by omega, fun e => a1 ⟨by omega, ?_⟩, by omega⟩))
                  rw [eq, k59]
                  exact e
                · have ef : f = 0 := by omega
                  have eq := l5b ef
                  exact Or.inr (Or.inl ⟨ef, by omega, by omega⟩)
          · have g33 := jc2_ne_f hc33
            refine jm_aload_n (x := P.1 + 14) rfl rfl (jM_at hl23 4 rfl) ?_
            refine az_X_step (pc' := 38) (ls' := ls23) (st' := [.int 4, .ref (P.1 + 14)]) (h' := h20) rfl rfl rfl ?_
            refine jm_aload_n (x := P.1 + 14) rfl rfl (jM_at hl23 4 rfl) ?_
            refine az_X_call (m' := 120) (as := [.ref (P.1 + 14)]) (rest := [.int 4, .ref (P.1 + 14)]) rfl rfl rfl rfl rfl ?_ ?_
            · unfold si_call
              dsimp only
              rw [if_pos ⟨rfl, rfl⟩]
              show (match si_ix P h20 (P.1 + 14) with | some i => _ | none => none) = _
              rw [jix hH20 (by decide)]
              dsimp only
              rw [(hH20.2 14 _ rfl).1]
              rfl
            refine (pl_ok hH20).mono ?_
            rintro rv39 h39 ⟨q39, z39, rfl, ez39⟩
            subst h39
            show az_X P _ 31 42 ls23 [.int z39, .int 4, .ref (P.1 + 14)] _ _
            refine az_X_call (m' := 125) (as := [.ref (P.1 + 14), .int 4, .int z39]) (rest := []) rfl rfl rfl rfl rfl ?_ ?_
            · unfold si_call
              dsimp only
              rw [if_pos ⟨rfl, rfl⟩]
              show (match si_ix P h20 (P.1 + 14) with | some i => _ | none => none) = _
              rw [jix hH20 (by decide)]
              dsimp only
              rw [(hH20.2 14 _ rfl).1]
              rfl
            refine (fl_ok hH20 4 z39 (by decide) (by have : 0 ≤ ja h20 14 2 ∧ ja h20 14 2 ≤ 241 := ja_bd hH20 (i := 14) (k := 2) rfl; omega)).mono ?_
            rintro rv42 h42 ⟨rfl, hH42, hs42, f42⟩
            show az_X P _ 31 45 ls23 [] _ _
            refine az_X_step (pc' := 81) (ls' := ls23) (st' := []) (h' := h42) rfl rfl rfl ?_
            refine jm_aload_n (x := P.1 + 14) rfl rfl (jM_at hl23 4 rfl) ?_
            refine az_X_step (pc' := 84) (ls' := ls23) (st' := [.int 59, .ref (P.1 + 14)]) (h' := h42) rfl rfl rfl ?_
            refine az_X_call (m' := 123) (as := [.ref (P.1 + 14), .int 59]) (rest := []) rfl rfl rfl rfl rfl ?_ ?_
            · unfold si_call
              dsimp only
              rw [if_pos ⟨rfl, rfl⟩]
              show (match si_ix P h42 (P.1 + 14) with | some i => _ | none => none) = _
              rw [jix hH42 (by decide)]
              dsimp only
              rw [(hH42.2 14 _ rfl).1]
              rfl
            refine (tk_ok hxa hH42 hn (((jso hs42 (by decide)).trans (jso hs20 (by decide))).trans e1) rfl rfl (jBY_so hs42 (by decide) (jBY_so hs20 (by decide) hb)) 59 (by decide)).mono ?_
            rintro rv84 h84 ⟨z84, rfl, hH84, hs84, f84⟩
            show az_X P _ 31 87 ls23 [.int z84] _ _
            refine jm_istore_n (l' := [(2, .int z84), (4, .int z20), (3, .int T), (0, .ref (P.1 + 49)), (1, .ref (P.1 + 14))]) rfl rfl (by decide) hl23 rfl rfl (fun ls87 hl87 => ?_)
            refine jn_iinc (x := T) rfl rfl (by decide) (jM_at hl87 2 rfl) hl87 rfl (by decide) (by omega) (by omega) (fun z88 (ez88 : z88.toInt = T.toInt + 1) ls88 (hl88 : jM [(3, .int z88), (2, .int z84), (4, .int z20), (0, .ref (P.1 + 49)), (1, .ref (P.1 + 14))] ls88) => ?_)
            refine az_X_step (pc' := 9) (ls' := ls88) (st' := []) (h' := h84) rfl rfl rfl ?_
            have x20 : (97 ≤ hh p ∧ hh p ≤ 104) ∧ z20.toInt = hh p - 97 ∧ h20 = h := by
              rcases f20 with ⟨-, a, b, c⟩ | ⟨-, -, b, -⟩ | ⟨a, -⟩
              · exact ⟨a, b, c⟩
              · omega
              · exact absurd rfl a
            have g2 : z39.toInt = p := by rw [ez39, x20.2.2]; exact e2
            have f4 : ja h42 14 3 = -4000 - p := (f42.1 (by rw [x20.2.2]; exact e3)).trans (by omega)
            have x84 : z84.toInt = 0 ∧ h84 = h42 := by
              rcases f84 with ⟨a, -⟩ | ⟨-, a, b⟩
              · omega
              · exact ⟨a, b⟩
            have i84 : ja h84 14 3 = -4000 - p := by rw [x84.2]; exact f4
            refine (rxa_ok (d := d + 3) hH84 (((jso hs84 (by decide)).trans ((jso hs42 (by decide)).trans (jso hs20 (by decide)))).trans e1) rfl rfl z88 z84 (by omega) ls88 (jM_pick hl88 [0, 1, 3, 4] rfl)).mono ?_
            rintro rv h9 ⟨z, q1, q2, q3, q4⟩
            refine ⟨z, q1, q2, (hs.tr ((hs20.sub (by decide)).tr ((hs42.sub (by decide)).tr (hs84.sub (by decide))))).tr (q3.sub (by decide)), ?_⟩
            exact Or.inr (Or.inl ⟨x20.1, by omega, by omega⟩)
theorem rda_ok {P : si_P} (hxa : P.2.1 < P.1) {d : Nat} {h : si_H} (hH : az_HI P az_tb h) {n : Int} {hh : Int → Int} (hn : 1 ≤ n ∧ n ≤ 240) (hh1 : ∀ i : Int, hh i ≤ 255) (e1 : ja h 14 1 = n) (e2 : ja h 14 2 = 0) (e3 : ja h 14 3 = 0) (hb : jBY h n hh) : az_X P (d + 5) 31 0 (lv_args 0 [.ref (P.1 + 49), .ref (P.1 + 14)]) [] h (fun rv h' => ∃ z : Int32, rv = some (.int z) ∧ az_HI P az_tb h' ∧ az_same_out [(14, 2), (14, 3), (49, 5), (50, 1000000), (51, 1000000), (52, 1000000), (53, 1000000)] h h' ∧ jLB hh (ja h 1 0 * ja h 1 1) n 17 0 0 z.toInt) := by
  have hl : jM [(0, .ref (P.1 + 49)), (1, .ref (P.1 + 14))] (lv_args 0 [.ref (P.1 + 49), .ref (P.1 + 14)]) := jM_args [0, 1] rfl (by decide)
  generalize lv_args 0 [.ref (P.1 + 49), .ref (P.1 + 14)] = ls at hl
  have k0 : (0 : Int32).toInt = 0 := by decide
  have k1 : (1 : Int32).toInt = 1 := by decide
  refine jm_aload_n (x := P.1 + 49) rfl rfl (jM_at hl 0 rfl) ?_
  refine az_X_step (pc' := 2) (ls' := ls) (st' := [.int 0, .ref (P.1 + 49)]) (h' := h) rfl rfl rfl ?_
  refine jn_pf (i := 49) (k := 5) (x := 0) rfl rfl hH (by decide) rfl (hH.2 49 _ rfl).1 rfl rfl (by decide) (by decide) (by show 0 ≤ _; omega) (by show _ ≤ 16; omega) (fun h2 hH2 hs2 (t2 : ja h2 49 5 = (0 : Int32).toInt) => ?_)
  replace t2 : ja h2 49 5 = 0 := t2.trans (by decide)
  refine az_X_step (pc' := 6) (ls' := ls) (st' := [.int 1]) (h' := h2) rfl rfl rfl ?_
  refine jm_istore_n (l' := [(2, .int 1), (0, .ref (P.1 + 49)), (1, .ref (P.1 + 14))]) rfl rfl (by decide) hl rfl rfl (fun ls6 hl6 => ?_)
  refine az_X_step (pc' := 8) (ls' := ls6) (st' := [.int 0]) (h' := h2) rfl rfl rfl ?_
  refine jm_istore_n (l' := [(3, .int 0), (2, .int 1), (0, .ref (P.1 + 49)), (1, .ref (P.1 + 14))]) rfl rfl (by decide) hl6 rfl rfl (fun ls8 hl8 => ?_)
  have y0 : ja h2 1 0 * ja h2 1 1 = ja h 1 0 * ja h 1 1 := by rw [jso hs2 (by decide), jso hs2 (by decide)]
  refine (rda_l (d := d) hxa (h0 := h2) hn hh1 17 0 0 0 1 h2 ls8 (jM_pick hl8 [0, 1, 2, 3] rfl) hH2 az_same_out.rf ((jso hs2 (by decide)).trans e1) ((jso hs2 (by decide)).trans e2) ((jso hs2 (by decide)).trans e3) (jBY_so hs2 (by decide) hb) (by decide) (by decide) t2 (by omega) (by omega) (by omega)).mono ?_
  rintro rv h9 ⟨z, q1, q2, q3, q4⟩
  rw [y0] at q4
  exact ⟨z, q1, q2, (hs2.sub (by decide)).tr q3, q4⟩
theorem rrb_ok {P : si_P} (hxa : P.2.1 < P.1) {d : Nat} {h : si_H} (hH : az_HI P az_tb h) {n p : Int} {hh : Int → Int} (hn : 1 ≤ n ∧ n ≤ 240) (e1 : ja h 14 1 = n) (e2 : ja h 14 2 = p) (e3 : ja h 14 3 = 0) (hb : jBY h n hh) (hh1 : ∀ i : Int, hh i ≤ 255) (hp : p ≤ 240) (i : Int32) (hi : 0 ≤ i.toInt ∧ i.toInt < 16) (ho : 0 ≤ ja h 55 i.toInt ∧ ja h 55 i.toInt ≤ 7) : az_X P (d + 4) 32 0 (lv_args 0 [.ref (P.1 + 54), .ref (P.1 + 14), .int i]) [] h (fun rv h' => rv = none ∧ az_HI P az_tb h' ∧ az_same_out [(14, 2), (14, 3), (56, 1000000), (57, 1000000), (58, 1000000)] h h' ∧ ∃ f q : Int, jAP hh (ja h 1 0 * ja h 1 1) p (ja h 55 i.toInt) f q ∧ ja h' 14 3 = f ∧ (f = 0 → ja h' 14 2 = q)) := by
  have bp : 0 ≤ ja h 14 2 ∧ ja h 14 2 ≤ 241 := ja_bd hH (i := 14) (k := 2) rfl
  have bF : -7000 ≤ ja h 14 3 ∧ ja h 14 3 ≤ 0 := ja_bd hH (i := 14) (k := 3) rfl
  have hl : jM [(0, .ref (P.1 + 54)), (1, .ref (P.1 + 14)), (2, .int i)] (lv_args 0 [.ref (P.1 + 54), .ref (P.1 + 14), .int i]) := jM_args [0, 1, 2] rfl (by decide)
  generalize lv_args 0 [.ref (P.1 + 54), .ref (P.1 + 14), .int i] = ls at hl
  have k2 : (2 : Int32).toInt = 2 := by decide
  have k6 : (6 : Int32).toInt = 6 := by decide
  have k58 : (58 : Int32).toInt = 58 := by decide
  have k64 : (64 : Int32).toInt = 64 := by decide
  refine jm_aload_n (x := P.1 + 54) rfl rfl (jM_at hl 0 rfl) ?_
  refine jx_gf (i := 54) rfl rfl hH (by decide) (hH.2 54 _ rfl).1 rfl (jx_rf hH rfl rfl) ?_
  refine jm_iload_n (x := i) rfl rfl (jM_at hl 2 rfl) ?_
  refine jm_aload_n (x := P.1 + 14) rfl rfl (jM_at hl 1 rfl) ?_
  refine az_X_call (m' := 126) (as := [.ref (P.1 + 14)]) (rest := [.int i, .ref (P.1 + 56)]) rfl rfl rfl rfl rfl ?_ ?_
  · unfold si_call
    dsimp only
    rw [if_pos ⟨rfl, rfl⟩]
    show (match si_ix P h (P.1 + 14) with | some i => _ | none => none) = _
    rw [jix hH (by decide)]
    dsimp only
    rw [(hH.2 14 _ rfl).1]
    rfl
  refine (cl_ok hxa hH hn e1 e2 e3 hb).mono ?_
  rintro rv6 h6 ⟨z6, rfl, hH6, hs6, f6⟩
  show az_X P _ 32 9 ls [.int z6, .int i, .ref (P.1 + 56)] _ _
  refine jn_ias (i := 56) (x := i) (v := z6) rfl rfl hH6 (by decide) rfl (by omega) (by show _ < ((16 : Nat) : Int); omega) (by show -1 ≤ _; rcases f6 with ⟨-, a, b, -⟩ | ⟨-, -, b, -⟩ | ⟨a, b, -⟩ <;> omega) (by show _ ≤ 7; rcases f6 with ⟨-, a, b, -⟩ | ⟨-, -, b, -⟩ | ⟨a, b, -⟩ <;> omega) (fun h9 hH9 hs9 t9 u9 => ?_)
  refine jm_aload_n (x := P.1 + 54) rfl rfl (jM_at hl 0 rfl) ?_
  refine jx_gf (i := 54) rfl rfl hH9 (by decide) (hH9.2 54 _ rfl).1 rfl (jx_rf hH9 rfl rfl) ?_
  refine jm_iload_n (x := i) rfl rfl (jM_at hl 2 rfl) ?_
  refine jx_ial (i := 56) (x := i) rfl rfl hxa hH9 (by decide) rfl (by omega) (by show _ < ((16 : Nat) : Int); omega) (fun z15 ez15 bz15 => ?_)
  refine jm_aload_n (x := P.1 + 54) rfl rfl (jM_at hl 0 rfl) ?_
  refine jx_gf (i := 54) rfl rfl hH9 (by decide) (hH9.2 54 _ rfl).1 rfl (jx_rf hH9 rfl rfl) ?_
  refine jm_iload_n (x := i) rfl rfl (jM_at hl 2 rfl) ?_
  refine jx_ial (i := 55) (x := i) rfl rfl hxa hH9 (by decide) rfl (by omega) (by show _ < ((16 : Nat) : Int); omega) (fun z21 ez21 bz21 => ?_)
  have z15e : z15.toInt = z6.toInt := by rw [ez15]; exact t9
  have z21e : z21.toInt = ja h 55 i.toInt := by rw [ez21, jso_row (i := 55) hs9 (by decide), jso_row (i := 55) hs6 (by decide)]
  refine jx_ic (t := 35) rfl rfl rfl (fun hc22 => ?_) (fun hc22 => ?_)
  · have g22 := jc2_ne_t hc22
    refine jm_aload_n (x := P.1 + 14) rfl rfl (jM_at hl 1 rfl) ?_
    refine az_X_call (m' := 122) (as := [.ref (P.1 + 14)]) (rest := []) rfl rfl rfl rfl rfl ?_ ?_
    · unfold si_call
      dsimp only
      rw [if_pos ⟨rfl, rfl⟩]
      show (match si_ix P h9 (P.1 + 14) with | some i => _ | none => none) = _
      rw [jix hH9 (by decide)]
      dsimp only
      rw [(hH9.2 14 _ rfl).1]
      rfl
    refine (sp_ok hH9 (by rw [((jso hs9 (by decide)).trans (jso hs6 (by decide)))]; omega)).mono ?_
    rintro rv36 h36 ⟨rfl, hH36, hs36, f36⟩
    show az_X P _ 32 39 ls [] _ _
    refine jm_aload_n (x := P.1 + 14) rfl rfl (jM_at hl 1 rfl) ?_
    refine az_X_step (pc' := 42) (ls' := ls) (st' := [.int 64, .ref (P.1 + 14)]) (h' := h36) rfl rfl rfl ?_
    refine az_X_call (m' := 124) (as := [.ref (P.1 + 14), .int 64]) (rest := []) rfl rfl rfl rfl rfl ?_ ?_
    · unfold si_call
      dsimp only
      rw [if_pos ⟨rfl, rfl⟩]
      show (match si_ix P h36 (P.1 + 14) with | some i => _ | none => none) = _
      rw [jix hH36 (by decide)]
      dsimp only
      rw [(hH36.2 14 _ rfl).1]
      rfl
    refine (ex_ok hxa hH36 hn (((jso hs36 (by decide)).trans ((jso hs9 (by decide)).trans (jso hs6 (by decide)))).trans e1) rfl rfl (jBY_so hs36 (by decide) (jBY_so hs9 (by decide) (jBY_so hs6 (by decide) hb))) 64 (by decide)).mono ?_
    rintro rv42 h42 ⟨rfl, hH42, hs42, f42⟩
    show az_X P _ 32 45 ls [] _ _
    refine jm_aload_n (x := P.1 + 54) rfl rfl (jM_at hl 0 rfl) ?_
    refine jx_gf (i := 54) rfl rfl hH42 (by decide) (hH42.2 54 _ rfl).1 rfl (jx_rf hH42 rfl rfl) ?_
    refine jm_iload_n (x := i) rfl rfl (jM_at hl 2 rfl) ?_
    refine jm_aload_n (x := P.1 + 14) rfl rfl (jM_at hl 1 rfl) ?_
    refine jm_aload_n (x := P.1 + 54) rfl rfl (jM_at hl 0 rfl) ?_
    refine jx_gf (i := 54) rfl rfl hH42 (by decide) (hH42.2 54 _ rfl).1 rfl (jx_rf hH42 rfl rfl) ?_
    refine az_X_call (m' := 128) (as := [.ref (P.1 + 14), .ref (P.1 + 1)]) (rest := [.int i, .ref (P.1 + 57)]) rfl rfl rfl rfl rfl ?_ ?_
    · unfold si_call
      dsimp only
      rw [if_pos ⟨rfl, rfl⟩]
      show (match si_ix P h42 (P.1 + 14) with | some i => _ | none => none) = _
      rw [jix hH42 (by decide)]
      dsimp only
      rw [(hH42.2 14 _ rfl).1]
      rfl
    refine (tm_ok hxa hH42 hn (((jso hs42 (by decide)).trans ((jso hs36 (by decide)).trans ((jso hs9 (by decide)).trans (jso hs6 (by decide))))).trans e1) rfl rfl (jBY_so hs42 (by decide) (jBY_so hs36 (by decide) (jBY_so hs9 (by decide) (jBY_so hs6 (by decide) hb)))) hh1 (by
      have b36 : 0 ≤ ja h36 14 2 ∧ ja h36 14 2 ≤ 241 := ja_bd hH36 (i := 14) (k := 2) rfl
      rcases f42 with ⟨-, u, v, -⟩ | ⟨-, -, v⟩ | ⟨u, v⟩
      · have := jBY_lt (jBY_so hs36 (by decide) (jBY_so hs9 (by decide) (jBY_so hs6 (by decide) hb))) (show hh (ja h36 14 2) ≠ -1 by omega)
        omega
      · omega
      · rw [v]
        exact Or.inr u)).mono ?_
    rintro rv55 h55 ⟨z55, rfl, hH55, hs55, f55⟩
    show az_X P _ 32 58 ls [.int z55, .int i, .ref (P.1 + 57)] _ _
    refine jn_ias (i := 57) (x := i) (v := z55) rfl rfl hH55 (by decide) rfl (by omega) (by show _ < ((16 : Nat) : Int); omega) (by show 0 ≤ _; have := f55.1; omega) (by show _ ≤ 9999; have := f55.1; omega) (fun h58 hH58 hs58 t58 u58 => ?_)
    refine jm_aload_n (x := P.1 + 14) rfl rfl (jM_at hl 1 rfl) ?_
    refine az_X_step (pc' := 62) (ls' := ls) (st' := [.int 58, .ref (P.1 + 14)]) (h' := h58) rfl rfl rfl ?_
    refine az_X_call (m' := 124) (as := [.ref (P.1 + 14), .int 58]) (rest := []) rfl rfl rfl rfl rfl ?_ ?_
    · unfold si_call
      dsimp only
      rw [if_pos ⟨rfl, rfl⟩]
      show (match si_ix P h58 (P.1 + 14) with | some i => _ | none => none) = _
      rw [jix hH58 (by decide)]
      dsimp only
      rw [(hH58.2 14 _ rfl).1]
      rfl
    refine (ex_ok hxa hH58 hn (((jso hs58 (by decide)).trans ((jso hs55 (by decide)).trans ((jso hs42 (by decide)).trans ((jso hs36 (by decide)).trans ((jso hs9 (by decide)).trans (jso hs6 (by decide))))))).trans e1) rfl rfl (jBY_so hs58 (by decide) (jBY_so hs55 (by decide) (jBY_so hs42 (by decide) (jBY_so hs36 (by decide) (jBY_so hs9 (by decide) (jBY_so hs6 (by decide) hb)))))) 58 (by decide)).mono ?_
    rintro rv62 h62 ⟨rfl, hH62, hs62, f62⟩
    show az_X P _ 32 65 ls [] _ _
    refine jm_aload_n (x := P.1 + 54) rfl rfl (jM_at hl 0 rfl) ?_
    refine jx_gf (i := 54) rfl rfl hH62 (by decide) (hH62.2 54 _ rfl).1 rfl (jx_rf hH62 rfl rfl) ?_
    refine jm_iload_n (x := i) rfl rfl (jM_at hl 2 rfl) ?_
    refine jm_aload_n (x := P.1 + 14) rfl rfl (jM_at hl 1 rfl) ?_
    refine az_X_step (pc' := 72) (ls' := ls) (st' := [.int 2, .ref (P.1 + 14), .int i, .ref (P.1 + 58)]) (h' := h62) rfl rfl rfl ?_
    refine az_X_call (m' := 127) (as := [.ref (P.1 + 14), .int 2]) (rest := [.int i, .ref (P.1 + 58)]) rfl rfl rfl rfl rfl ?_ ?_
    · unfold si_call
      dsimp only
      rw [if_pos ⟨rfl, rfl⟩]
      show (match si_ix P h62 (P.1 + 14) with | some i => _ | none => none) = _
      rw [jix hH62 (by decide)]
      dsimp only
      rw [(hH62.2 14 _ rfl).1]
      rfl
    refine (nu_ok hxa hH62 hn (((jso hs62 (by decide)).trans ((jso hs58 (by decide)).trans ((jso hs55 (by decide)).trans ((jso hs42 (by decide)).trans ((jso hs36 (by decide)).trans ((jso hs9 (by decide)).trans (jso hs6 (by decide)))))))).trans e1) rfl rfl (jBY_so hs62 (by decide) (jBY_so hs58 (by decide) (jBY_so hs55 (by decide) (jBY_so hs42 (by decide) (jBY_so hs36 (by decide) (jBY_so hs9 (by decide) (jBY_so hs6 (by decide) hb))))))) hh1 (by
      have b58 : 0 ≤ ja h58 14 2 ∧ ja h58 14 2 ≤ 241 := ja_bd hH58 (i := 14) (k := 2) rfl
      rcases f62 with ⟨-, u, v, -⟩ | ⟨-, -, v⟩ | ⟨u, v⟩
      · have := jBY_lt (jBY_so hs58 (by decide) (jBY_so hs55 (by decide) (jBY_so hs42 (by decide) (jBY_so hs36 (by decide) (jBY_so hs9 (by decide) (jBY_so hs6 (by decide) hb)))))) (show hh (ja h58 14 2) ≠ -1 by omega)
        omega
      · omega
      · rw [v]
        exact Or.inr u) 2 (by decide)).mono ?_
    rintro rv72 h72 ⟨z72, rfl, hH72, hs72, f72⟩
    show az_X P _ 32 75 ls [.int z72, .int i, .ref (P.1 + 58)] _ _
    have b72 : 0 ≤ z72.toInt ∧ z72.toInt ≤ 99 := by
      have q2 : (2 : Int32).toInt.toNat = 2 := by decide
      have b62 : 0 ≤ ja h62 14 2 ∧ ja h62 14 2 ≤ 241 := ja_bd hH62 (i := 14) (k := 2) rfl
      rcases f72 with ⟨-, f, q, v, a1, a2⟩ | ⟨-, a2, -⟩
      · rcases a2 with ⟨b1, b2, -⟩ | ⟨-, b2, -⟩
        · subst b1
          rw [q2] at a1
          have := jAN_v (by omega) (by omega) a1
          omega
        · omega
      · omega
    refine jn_ias (i := 58) (x := i) (v := z72) rfl rfl hH72 (by decide) rfl (by omega) (by show _ < ((16 : Nat) : Int); omega) (by show 0 ≤ _; omega) (by show _ ≤ 99; omega) (fun h75 hH75 hs75 t75 u75 => ?_)
    refine jn_retv rfl rfl rfl ?_
    have q2 : (2 : Int32).toInt.toNat = 2 := by decide
    have p36 : ja h36 14 2 = p + 1 := by rw [f36]; rw [jso hs9 (by decide), jso hs6 (by decide)]; omega
    have F36 : ja h36 14 3 = ja h9 14 3 := jso hs36 (by decide)
    have F9 : ja h9 14 3 = ja h6 14 3 := jso hs9 (by decide)
    have r0 : ja h42 1 0 * ja h42 1 1 = ja h 1 0 * ja h 1 1 := by rw [jso hs42 (by decide), jso hs36 (by decide), jso hs9 (by decide), jso hs6 (by decide), jso hs42 (by decide), jso hs36 (by decide), jso hs9 (by decide), jso hs6 (by decide)]
    have s58 : ja h58 14 3 = ja h55 14 3 ∧ ja h58 14 2 = ja h55 14 2 := ⟨jso hs58 (by decide), jso hs58 (by decide)⟩
    have s75 : ja h75 14 3 = ja h72 14 3 ∧ ja h75 14 2 = ja h72 14 2 := ⟨jso hs75 (by decide), jso hs75 (by decide)⟩
    have stay : ja h36 14 3 ≠ 0 → ja h75 14 3 = ja h36 14 3 := by
      intro nz
      have a1 : h42 = h36 := by
        rcases f42 with ⟨q, -⟩ | ⟨q, -⟩ | ⟨-, q⟩
        · exact absurd q nz
        · exact absurd q nz
        · exact q
      have a2 : ja h55 14 3 = ja h36 14 3 := by
        rcases f55.2 with ⟨q, -⟩ | ⟨-, -, q, -⟩
        · rw [a1] at q; exact absurd q nz
        · rw [q, a1]
      have a3 : ja h62 14 3 = ja h36 14 3 := by
        rcases f62 with ⟨q, -⟩ | ⟨q, -⟩ | ⟨-, q⟩
        · exact absurd (by omega) nz
        · exact absurd (by omega) nz
        · rw [q]; omega
      rcases f72 with ⟨q, -⟩ | ⟨-, -, q⟩
      · exact absurd (by omega) nz
      · rw [s75.1, q]; exact a3
    rcases f6 with ⟨-, a, b, c⟩ | ⟨-, a, b, c⟩ | ⟨a, -⟩
    · have F0 : ja h36 14 3 = 0 := by rw [F36, F9, c]; exact e3
      have hne : hh p - 97 ≠ ja h 55 i.toInt := by
        clear stay f72 f62 f55 f42
        omega
      have hX : (hh (p + 1) = 64 ∧ ja h42 14 2 = p + 1 + 1 ∧ ja h42 14 3 = 0) ∨ (hh (p + 1) ≠ 64 ∧ ja h42 14 3 = -1000 - (p + 1)) := by
        rcases f42 with ⟨-, u, v, w⟩ | ⟨-, u, v⟩ | ⟨u, -⟩
        · rw [p36] at u v
          exact Or.inl ⟨u.trans k64, v, w⟩
        · rw [p36] at u v
          exact Or.inr ⟨fun e => u (e.trans k64.symm), v⟩
        · exact absurd F0 u
      have hT := f55.2
      rw [r0] at hT
      obtain ⟨ft, qt, vt, w1, w2, w3⟩ := jTI_of (by omega) hX hT
      by_cases ef : ft = 0
      · have eq := w3 ef
        have w1' := w1
        rw [ef] at w1'
        have wq := jTI_q (by omega) w1'
        rcases f62 with ⟨u0, u1, u2, u3⟩ | ⟨u0, u1, u2⟩ | ⟨u0, -⟩
        · rcases f72 with ⟨-, f, q, v, d1, d2⟩ | ⟨d0, -⟩
          · rw [q2] at d1
            have d3 : jAN hh (qt + 1) 2 f q v := by
              rw [show qt + 1 = ja h62 14 2 by omega]
              exact d1
            refine ⟨rfl, hH75, ((hs6.sub (by decide)).tr ((hs9.sub (by decide)).tr ((hs36.sub (by decide)).tr ((hs42.sub (by decide)).tr ((hs55.sub (by decide)).tr ((hs58.sub (by decide)).tr ((hs62.sub (by decide)).tr ((hs72.sub (by decide)).tr (hs75.sub (by decide)))))))))), f, q, Or.inr (Or.inr ⟨a, hne, ft, qt, vt, w1, Or.inr (Or.inr ⟨ef, ?_, v, d3⟩)⟩), ?_, fun e => ?_⟩
            · rw [show qt = ja h58 14 2 by omega]
              exact u1.trans k58
            · rw [s75.1]
              rcases d2 with ⟨b1, -, -, b4⟩ | ⟨-, -, b3⟩
              · rw [b4, b1]
              · exact b3
            · rw [s75.2]
              rcases d2 with ⟨-, -, b3, -⟩ | ⟨b1, -, -⟩
              · exact b3
              · exact absurd e b1
          · exact absurd u3 d0
        · have l72 : ja h72 14 3 = ja h62 14 3 := by
            rcases f72 with ⟨v0, -⟩ | ⟨-, -, v0⟩
            · have b58 : 0 ≤ ja h58 14 2 ∧ ja h58 14 2 ≤ 241 := ja_bd hH58 (i := 14) (k := 2) rfl
              omega
            · rw [v0]
          refine ⟨rfl, hH75, ((hs6.sub (by decide)).tr ((hs9.sub (by decide)).tr ((hs36.sub (by decide)).tr ((hs42.sub (by decide)).tr ((hs55.sub (by decide)).tr ((hs58.sub (by decide)).tr ((hs62.sub (by decide)).tr ((hs72.sub (by decide)).tr (hs75.sub (by decide)))))))))), -1000 - qt, 0, Or.inr (Or.inr ⟨a, hne, ft, qt, vt, w1, Or.inr (Or.inl ⟨ef, fun e => u1 ?_, rfl⟩)⟩), by omega, fun e => absurd e (by omega)⟩
          rw [show ja h58 14 2 = qt by omega, e]
          exact k58.symm
        · exact absurd (by omega) u0
      · have l62 : ja h62 14 3 = ft := by
          rcases f62 with ⟨q, -⟩ | ⟨q, -⟩ | ⟨-, q⟩
          · exact absurd (by omega) ef
          · exact absurd (by omega) ef
          · rw [q]; omega
        have l72 : ja h72 14 3 = ft := by
          rcases f72 with ⟨q, -⟩ | ⟨-, -, q⟩
          · exact absurd (by omega) ef
          · rw [q]; exact l62
        refine ⟨rfl, hH75, ((hs6.sub (by decide)).tr ((hs9.sub (by decide)).tr ((hs36.sub (by decide)).tr ((hs42.sub (by decide)).tr ((hs55.sub (by decide)).tr ((hs58.sub (by decide)).tr ((hs62.sub (by decide)).tr ((hs72.sub (by decide)).tr (hs75.sub (by decide)))))))))), ft, 0, Or.inr (Or.inr ⟨a, hne, ft, qt, vt, w1, Or.inl ⟨ef, rfl⟩⟩), by omega, fun e => absurd e ef⟩
    · have st := stay (by omega)
      refine ⟨rfl, hH75, ((hs6.sub (by decide)).tr ((hs9.sub (by decide)).tr ((hs36.sub (by decide)).tr ((hs42.sub (by decide)).tr ((hs55.sub (by decide)).tr ((hs58.sub (by decide)).tr ((hs62.sub (by decide)).tr ((hs72.sub (by decide)).tr (hs75.sub (by decide)))))))))), -1000 - p, 0, Or.inl ⟨a, rfl⟩, by omega, fun e => absurd e (by omega)⟩
    · exact absurd rfl a
  · have g22 := jc2_ne_f hc22
    refine jm_aload_n (x := P.1 + 14) rfl rfl (jM_at hl 1 rfl) ?_
    refine az_X_step (pc' := 28) (ls' := ls) (st' := [.int 6, .ref (P.1 + 14)]) (h' := h9) rfl rfl rfl ?_
    refine jm_aload_n (x := P.1 + 14) rfl rfl (jM_at hl 1 rfl) ?_
    refine az_X_call (m' := 120) (as := [.ref (P.1 + 14)]) (rest := [.int 6, .ref (P.1 + 14)]) rfl rfl rfl rfl rfl ?_ ?_
    · unfold si_call
      dsimp only
      rw [if_pos ⟨rfl, rfl⟩]
      show (match si_ix P h9 (P.1 + 14) with | some i => _ | none => none) = _
      rw [jix hH9 (by decide)]
      dsimp only
      rw [(hH9.2 14 _ rfl).1]
      rfl
    refine (pl_ok hH9).mono ?_
    rintro rv29 h29 ⟨q29, z29, rfl, ez29⟩
    subst h29
    show az_X P _ 32 32 ls [.int z29, .int 6, .ref (P.1 + 14)] _ _
    refine az_X_call (m' := 125) (as := [.ref (P.1 + 14), .int 6, .int z29]) (rest := []) rfl rfl rfl rfl rfl ?_ ?_
    · unfold si_call
      dsimp only
      rw [if_pos ⟨rfl, rfl⟩]
      show (match si_ix P h9 (P.1 + 14) with | some i => _ | none => none) = _
      rw [jix hH9 (by decide)]
      dsimp only
      rw [(hH9.2 14 _ rfl).1]
      rfl
    refine (fl_ok hH9 6 z29 (by decide) (by have : 0 ≤ ja h9 14 2 ∧ ja h9 14 2 ≤ 241 := ja_bd hH9 (i := 14) (k := 2) rfl; omega)).mono ?_
    rintro rv32 h32 ⟨rfl, hH32, hs32, f32⟩
    show az_X P _ 32 35 ls [] _ _
    refine jm_aload_n (x := P.1 + 14) rfl rfl (jM_at hl 1 rfl) ?_
    refine az_X_call (m' := 122) (as := [.ref (P.1 + 14)]) (rest := []) rfl rfl rfl rfl rfl ?_ ?_
    · unfold si_call
      dsimp only
      rw [if_pos ⟨rfl, rfl⟩]
      show (match si_ix P h32 (P.1 + 14) with | some i => _ | none => none) = _
      rw [jix hH32 (by decide)]
      dsimp only
      rw [(hH32.2 14 _ rfl).1]
      rfl
    refine (sp_ok hH32 (by rw [((jso hs32 (by decide)).trans ((jso hs9 (by decide)).trans (jso hs6 (by decide))))]; omega)).mono ?_
    rintro rv36 h36 ⟨rfl, hH36, hs36, f36⟩
    show az_X P _ 32 39 ls [] _ _
    refine jm_aload_n (x := P.1 + 14) rfl rfl (jM_at hl 1 rfl) ?_
    refine az_X_step (pc' := 42) (ls' := ls) (st' := [.int 64, .ref (P.1 + 14)]) (h' := h36) rfl rfl rfl ?_
    refine az_X_call (m' := 124) (as := [.ref (P.1 + 14), .int 64]) (rest := []) rfl rfl rfl rfl rfl ?_ ?_
    · unfold si_call
      dsimp only
      rw [if_pos ⟨rfl, rfl⟩]
      show (match si_ix P h36 (P.1 + 14) with | some i => _ | none => none) = _
      rw [jix hH36 (by decide)]
      dsimp only
      rw [(hH36.2 14 _ rfl).1]
      rfl
    refine (ex_ok hxa hH36 hn (((jso hs36 (by decide)).trans ((jso hs32 (by decide)).trans ((jso hs9 (by decide)).trans (jso hs6 (by decide))))).trans e1) rfl rfl (jBY_so hs36 (by decide) (jBY_so hs32 (by decide) (jBY_so hs9 (by decide) (jBY_so hs6 (by decide) hb)))) 64 (by decide)).mono ?_
    rintro rv42 h42 ⟨rfl, hH42, hs42, f42⟩
    show az_X P _ 32 45 ls [] _ _
    refine jm_aload_n (x := P.1 + 54) rfl rfl (jM_at hl 0 rfl) ?_
    refine jx_gf (i := 54) rfl rfl hH42 (by decide) (hH42.2 54 _ rfl).1 rfl (jx_rf hH42 rfl rfl) ?_
    refine jm_iload_n (x := i) rfl rfl (jM_at hl 2 rfl) ?_
    refine jm_aload_n (x := P.1 + 14) rfl rfl (jM_at hl 1 rfl) ?_
    refine jm_aload_n (x := P.1 + 54) rfl rfl (jM_at hl 0 rfl) ?_
    refine jx_gf (i := 54) rfl rfl hH42 (by decide) (hH42.2 54 _ rfl).1 rfl (jx_rf hH42 rfl rfl) ?_
    refine az_X_call (m' := 128) (as := [.ref (P.1 + 14), .ref (P.1 + 1)]) (rest := [.int i, .ref (P.1 + 57)]) rfl rfl rfl rfl rfl ?_ ?_
    · unfold si_call
      dsimp only
      rw [if_pos ⟨rfl, rfl⟩]
      show (match si_ix P h42 (P.1 + 14) with | some i => _ | none => none) = _
      rw [jix hH42 (by decide)]
      dsimp only
      rw [(hH42.2 14 _ rfl).1]
      rfl
    refine (tm_ok hxa hH42 hn (((jso hs42 (by decide)).trans ((jso hs36 (by decide)).trans ((jso hs32 (by decide)).trans ((jso hs9 (by decide)).trans (jso hs6 (by decide)))))).trans e1) rfl rfl (jBY_so hs42 (by decide) (jBY_so hs36 (by decide) (jBY_so hs32 (by decide) (jBY_so hs9 (by decide) (jBY_so hs6 (by decide) hb))))) hh1 (by
      have b36 : 0 ≤ ja h36 14 2 ∧ ja h36 14 2 ≤ 241 := ja_bd hH36 (i := 14) (k := 2) rfl
      rcases f42 with ⟨-, u, v, -⟩ | ⟨-, -, v⟩ | ⟨u, v⟩
      · have := jBY_lt (jBY_so hs36 (by decide) (jBY_so hs32 (by decide) (jBY_so hs9 (by decide) (jBY_so hs6 (by decide) hb)))) (show hh (ja h36 14 2) ≠ -1 by omega)
        omega
      · omega
      · rw [v]
        exact Or.inr u)).mono ?_
    rintro rv55 h55 ⟨z55, rfl, hH55, hs55, f55⟩
    show az_X P _ 32 58 ls [.int z55, .int i, .ref (P.1 + 57)] _ _
    refine jn_ias (i := 57) (x := i) (v := z55) rfl rfl hH55 (by decide) rfl (by omega) (by show _ < ((16 : Nat) : Int); omega) (by show 0 ≤ _; have := f55.1; omega) (by show _ ≤ 9999; have := f55.1; omega) (fun h58 hH58 hs58 t58 u58 => ?_)
    refine jm_aload_n (x := P.1 + 14) rfl rfl (jM_at hl 1 rfl) ?_
    refine az_X_step (pc' := 62) (ls' := ls) (st' := [.int 58, .ref (P.1 + 14)]) (h' := h58) rfl rfl rfl ?_
    refine az_X_call (m' := 124) (as := [.ref (P.1 + 14), .int 58]) (rest := []) rfl rfl rfl rfl rfl ?_ ?_
    · unfold si_call
      dsimp only
      rw [if_pos ⟨rfl, rfl⟩]
      show (match si_ix P h58 (P.1 + 14) with | some i => _ | none => none) = _
      rw [jix hH58 (by decide)]
      dsimp only
      rw [(hH58.2 14 _ rfl).1]
      rfl
    refine (ex_ok hxa hH58 hn (((jso hs58 (by decide)).trans ((jso hs55 (by decide)).trans ((jso hs42 (by decide)).trans ((jso hs36 (by decide)).trans ((jso hs32 (by decide)).trans ((jso hs9 (by decide)).trans (jso hs6 (by decide)))))))).trans e1) rfl rfl (jBY_so hs58 (by decide) (jBY_so hs55 (by decide) (jBY_so hs42 (by decide) (jBY_so hs36 (by decide) (jBY_so hs32 (by decide) (jBY_so hs9 (by decide) (jBY_so hs6 (by decide) hb))))))) 58 (by decide)).mono ?_
    rintro rv62 h62 ⟨rfl, hH62, hs62, f62⟩
    show az_X P _ 32 65 ls [] _ _
    refine jm_aload_n (x := P.1 + 54) rfl rfl (jM_at hl 0 rfl) ?_
    refine jx_gf (i := 54) rfl rfl hH62 (by decide) (hH62.2 54 _ rfl).1 rfl (jx_rf hH62 rfl rfl) ?_
    refine jm_iload_n (x := i) rfl rfl (jM_at hl 2 rfl) ?_
    refine jm_aload_n (x := P.1 + 14) rfl rfl (jM_at hl 1 rfl) ?_
    refine az_X_step (pc' := 72) (ls' := ls) (st' := [.int 2, .ref (P.1 + 14), .int i, .ref (P.1 + 58)]) (h' := h62) rfl rfl rfl ?_
    refine az_X_call (m' := 127) (as := [.ref (P.1 + 14), .int 2]) (rest := [.int i, .ref (P.1 + 58)]) rfl rfl rfl rfl rfl ?_ ?_
    · unfold si_call
      dsimp only
      rw [if_pos ⟨rfl, rfl⟩]
      show (match si_ix P h62 (P.1 + 14) with | some i => _ | none => none) = _
      rw [jix hH62 (by decide)]
      dsimp only
      rw [(hH62.2 14 _ rfl).1]
      rfl
    refine (nu_ok hxa hH62 hn (((jso hs62 (by decide)).trans ((jso hs58 (by decide)).trans ((jso hs55 (by decide)).trans ((jso hs42 (by decide)).trans ((jso hs36 (by decide)).trans ((jso hs32 (by decide)).trans ((jso hs9 (by decide)).trans (jso hs6 (by decide))))))))).trans e1) rfl rfl (jBY_so hs62 (by decide) (jBY_so hs58 (by decide) (jBY_so hs55 (by decide) (jBY_so hs42 (by decide) (jBY_so hs36 (by decide) (jBY_so hs32 (by decide) (jBY_so hs9 (by decide) (jBY_so hs6 (by decide) hb)))))))) hh1 (by
      have b58 : 0 ≤ ja h58 14 2 ∧ ja h58 14 2 ≤ 241 := ja_bd hH58 (i := 14) (k := 2) rfl
      rcases f62 with ⟨-, u, v, -⟩ | ⟨-, -, v⟩ | ⟨u, v⟩
      · have := jBY_lt (jBY_so hs58 (by decide) (jBY_so hs55 (by decide) (jBY_so hs42 (by decide) (jBY_so hs36 (by decide) (jBY_so hs32 (by decide) (jBY_so hs9 (by decide) (jBY_so hs6 (by decide) hb))))))) (show hh (ja h58 14 2) ≠ -1 by omega)
        omega
      · omega
      · rw [v]
        exact Or.inr u) 2 (by decide)).mono ?_
    rintro rv72 h72 ⟨z72, rfl, hH72, hs72, f72⟩
    show az_X P _ 32 75 ls [.int z72, .int i, .ref (P.1 + 58)] _ _
    have b72 : 0 ≤ z72.toInt ∧ z72.toInt ≤ 99 := by
      have q2 : (2 : Int32).toInt.toNat = 2 := by decide
      have b62 : 0 ≤ ja h62 14 2 ∧ ja h62 14 2 ≤ 241 := ja_bd hH62 (i := 14) (k := 2) rfl
      rcases f72 with ⟨-, f, q, v, a1, a2⟩ | ⟨-, a2, -⟩
      · rcases a2 with ⟨b1, b2, -⟩ | ⟨-, b2, -⟩
        · subst b1
          rw [q2] at a1
          have := jAN_v (by omega) (by omega) a1
          omega
        · omega
      · omega
    refine jn_ias (i := 58) (x := i) (v := z72) rfl rfl hH72 (by decide) rfl (by omega) (by show _ < ((16 : Nat) : Int); omega) (by show 0 ≤ _; omega) (by show _ ≤ 99; omega) (fun h75 hH75 hs75 t75 u75 => ?_)
    refine jn_retv rfl rfl rfl ?_
    have q2 : (2 : Int32).toInt.toNat = 2 := by decide
    have p36 : ja h36 14 2 = p + 1 := by rw [f36]; rw [jso hs32 (by decide), jso hs9 (by decide), jso hs6 (by decide)]; omega
    have F36 : ja h36 14 3 = ja h32 14 3 := jso hs36 (by decide)
    have F9 : ja h9 14 3 = ja h6 14 3 := jso hs9 (by decide)
    have r0 : ja h42 1 0 * ja h42 1 1 = ja h 1 0 * ja h 1 1 := by rw [jso hs42 (by decide), jso hs36 (by decide), jso hs32 (by decide), jso hs9 (by decide), jso hs6 (by decide), jso hs42 (by decide), jso hs36 (by decide), jso hs32 (by decide), jso hs9 (by decide), jso hs6 (by decide)]
    have s58 : ja h58 14 3 = ja h55 14 3 ∧ ja h58 14 2 = ja h55 14 2 := ⟨jso hs58 (by decide), jso hs58 (by decide)⟩
    have s75 : ja h75 14 3 = ja h72 14 3 ∧ ja h75 14 2 = ja h72 14 2 := ⟨jso hs75 (by decide), jso hs75 (by decide)⟩
    have stay : ja h36 14 3 ≠ 0 → ja h75 14 3 = ja h36 14 3 := by
      intro nz
      have a1 : h42 = h36 := by
        rcases f42 with ⟨q, -⟩ | ⟨q, -⟩ | ⟨-, q⟩
        · exact absurd q nz
        · exact absurd q nz
        · exact q
      have a2 : ja h55 14 3 = ja h36 14 3 := by
        rcases f55.2 with ⟨q, -⟩ | ⟨-, -, q, -⟩
        · rw [a1] at q; exact absurd q nz
        · rw [q, a1]
      have a3 : ja h62 14 3 = ja h36 14 3 := by
        rcases f62 with ⟨q, -⟩ | ⟨q, -⟩ | ⟨-, q⟩
        · exact absurd (by omega) nz
        · exact absurd (by omega) nz
        · rw [q]; omega
      rcases f72 with ⟨q, -⟩ | ⟨-, -, q⟩
      · exact absurd (by omega) nz
      · rw [s75.1, q]; exact a3
    have x6 : (97 ≤ hh p ∧ hh p ≤ 104) ∧ z6.toInt = hh p - 97 ∧ h6 = h := by
      rcases f6 with ⟨-, a, b, c⟩ | ⟨-, -, b, -⟩ | ⟨a, -⟩
      · exact ⟨a, b, c⟩
      · omega
      · exact absurd rfl a
    have g3 : ja h32 14 3 = -6000 - p := by
      have q := f32.1 (by rw [F9, x6.2.2]; exact e3)
      have z29e : z29.toInt = p := by rw [ez29, jso hs9 (by decide), x6.2.2]; exact e2
      omega
    have st := stay (by omega)
    refine ⟨rfl, hH75, ((hs6.sub (by decide)).tr ((hs9.sub (by decide)).tr ((hs32.sub (by decide)).tr ((hs36.sub (by decide)).tr ((hs42.sub (by decide)).tr ((hs55.sub (by decide)).tr ((hs58.sub (by decide)).tr ((hs62.sub (by decide)).tr ((hs72.sub (by decide)).tr (hs75.sub (by decide))))))))))), -6000 - p, 0, Or.inr (Or.inl ⟨x6.1, by omega, rfl⟩), by omega, fun e => absurd e (by omega)⟩
theorem rxb_ok {P : si_P} {d : Nat} {h : si_H} (hH : az_HI P az_tb h) {n p F : Int} (e1 : ja h 14 1 = n) (e2 : ja h 14 2 = p) (e3 : ja h 14 3 = F) (T U : Int32) (hU : U.toInt = 0) (ls : si_L) (hl : jM [(3, .int T), (2, .int U), (0, .ref (P.1 + 54)), (1, .ref (P.1 + 14))] ls) : az_X P (d + 2) 31 9 ls [] h (fun rv h' => ∃ z : Int32, rv = some (.int z) ∧ az_HI P az_tb h' ∧ az_same_out [(14, 3)] h h' ∧ ((F ≠ 0 ∧ z.toInt = F) ∨ (F = 0 ∧ p < n ∧ z.toInt = -1000 - p) ∨ (F = 0 ∧ n ≤ p ∧ z.toInt = ja h 54 5))) := by
  have k0 : (0 : Int32).toInt = 0 := by decide
  have k16 : (16 : Int32).toInt = 16 := by decide
  refine jm_iload_n (x := T) rfl rfl (jM_at hl 0 rfl) ?_
  refine az_X_step (pc' := 12) (ls' := ls) (st' := [.int 16, .int T]) (h' := h) rfl rfl rfl ?_
  refine jx_ic (t := 94) rfl rfl rfl (fun hc12 => ?_) (fun hc12 => ?_)
  · have g12 := jc2_gt_t hc12
    refine jm_aload_n (x := P.1 + 14) rfl rfl (jM_at hl 3 rfl) ?_
    refine jm_aload_n (x := P.1 + 54) rfl rfl (jM_at hl 2 rfl) ?_
    refine jn_gf (i := 54) (k := 5) rfl rfl hH (by decide) (hH.2 54 _ rfl).1 rfl rfl (fun z96 (ez96 : z96.toInt = ja h 54 5) (bz96 : 0 ≤ z96.toInt ∧ z96.toInt ≤ 16) => ?_)
    refine az_X_call (m' := 129) (as := [.ref (P.1 + 14), .int z96]) (rest := []) rfl rfl rfl rfl rfl ?_ ?_
    · unfold si_call
      dsimp only
      rw [if_pos ⟨rfl, rfl⟩]
      show (match si_ix P h (P.1 + 14) with | some i => _ | none => none) = _
      rw [jix hH (by decide)]
      dsimp only
      rw [(hH.2 14 _ rfl).1]
      rfl
    refine (aw_ok hH e1 e2 e3 z96).mono ?_
    rintro rv99 h99 ⟨z99, rfl, hH99, hs99, f99⟩
    show az_X P _ 31 102 ls [.int z99] _ _
    refine jx_ret rfl rfl rfl ?_
    rw [ez96] at f99
    exact ⟨z99, rfl, hH99, hs99, f99⟩
  · have g12 := jc2_gt_f hc12
    refine jm_iload_n (x := U) rfl rfl (jM_at hl 1 rfl) ?_
    refine jx_if (t := 94) rfl rfl rfl (fun hc16 => ?_) (fun hc16 => ?_)
    · have g16 := jc1_eq_t hc16
      refine jm_aload_n (x := P.1 + 14) rfl rfl (jM_at hl 3 rfl) ?_
      refine jm_aload_n (x := P.1 + 54) rfl rfl (jM_at hl 2 rfl) ?_
      refine jn_gf (i := 54) (k := 5) rfl rfl hH (by decide) (hH.2 54 _ rfl).1 rfl rfl (fun z96 (ez96 : z96.toInt = ja h 54 5) (bz96 : 0 ≤ z96.toInt ∧ z96.toInt ≤ 16) => ?_)
      refine az_X_call (m' := 129) (as := [.ref (P.1 + 14), .int z96]) (rest := []) rfl rfl rfl rfl rfl ?_ ?_
      · unfold si_call
        dsimp only
        rw [if_pos ⟨rfl, rfl⟩]
        show (match si_ix P h (P.1 + 14) with | some i => _ | none => none) = _
        rw [jix hH (by decide)]
        dsimp only
        rw [(hH.2 14 _ rfl).1]
        rfl
      refine (aw_ok hH e1 e2 e3 z96).mono ?_
      rintro rv99 h99 ⟨z99, rfl, hH99, hs99, f99⟩
      show az_X P _ 31 102 ls [.int z99] _ _
      refine jx_ret rfl rfl rfl ?_
      rw [ez96] at f99
      exact ⟨z99, rfl, hH99, hs99, f99⟩
    · have g16 := jc1_eq_f hc16
      exfalso
      omega
theorem rdb_l {P : si_P} (hxa : P.2.1 < P.1) {d : Nat} {h0 : si_H} {n : Int} {hh : Int → Int} (hn : 1 ≤ n ∧ n ≤ 240) (hh1 : ∀ i : Int, hh i ≤ 255) : ∀ (k j : Nat) (p : Int) (T U : Int32) (h : si_H) (ls : si_L), jM [(3, .int T), (2, .int U), (0, .ref (P.1 + 54)), (1, .ref (P.1 + 14))] ls → az_HI P az_tb h → az_same_out [(14, 2), (14, 3), (54, 5), (55, 1000000), (56, 1000000), (57, 1000000), (58, 1000000)] h0 h → ja h 14 1 = n → ja h 14 2 = p → ja h 14 3 = 0 → jBY h n hh → T.toInt = j → U.toInt = 1 → ja h 54 5 = j → j + k = 17 → j ≤ 16 → 0 ≤ p ∧ p ≤ 240 → az_X P (d + 5) 31 9 ls [] h (fun rv h' => ∃ z : Int32, rv = some (.int z) ∧ az_HI P az_tb h' ∧ az_same_out [(14, 2), (14, 3), (54, 5), (55, 1000000), (56, 1000000), (57, 1000000), (58, 1000000)] h0 h' ∧ jLB hh (ja h0 1 0 * ja h0 1 1) n k p j z.toInt) := by
  intro k
  induction k with
  | zero =>
    intro j p T U h ls hl hH hs e1 e2 e3 hb eT eU eC hj hS hp
    exfalso
    omega
  | succ k ih =>
    intro j p T U h ls hl hH hs e1 e2 e3 hb eT eU eC hj hS hp
    have y0 : ja h 1 0 * ja h 1 1 = ja h0 1 0 * ja h0 1 1 := by rw [jso hs (by decide), jso hs (by decide)]
    have k0 : (0 : Int32).toInt = 0 := by decide
    have k1 : (1 : Int32).toInt = 1 := by decide
    have k4 : (4 : Int32).toInt = 4 := by decide
    have k16 : (16 : Int32).toInt = 16 := by decide
    have k59 : (59 : Int32).toInt = 59 := by decide
    refine jm_iload_n (x := T) rfl rfl (jM_at hl 0 rfl) ?_
    refine az_X_step (pc' := 12) (ls' := ls) (st' := [.int 16, .int T]) (h' := h) rfl rfl rfl ?_
    refine jx_ic (t := 94) rfl rfl rfl (fun hc12 => ?_) (fun hc12 => ?_)
    · have g12 := jc2_gt_t hc12
      exfalso
      omega
    · have g12 := jc2_gt_f hc12
      refine jm_iload_n (x := U) rfl rfl (jM_at hl 1 rfl) ?_
      refine jx_if (t := 94) rfl rfl rfl (fun hc16 => ?_) (fun hc16 => ?_)
      · have g16 := jc1_eq_t hc16
        exfalso
        omega
      · have g16 := jc1_eq_f hc16
        refine jm_aload_n (x := P.1 + 14) rfl rfl (jM_at hl 3 rfl) ?_
        refine az_X_call (m' := 126) (as := [.ref (P.1 + 14)]) (rest := []) rfl rfl rfl rfl rfl ?_ ?_
        · unfold si_call
          dsimp only
          rw [if_pos ⟨rfl, rfl⟩]
          show (match si_ix P h (P.1 + 14) with | some i => _ | none => none) = _
          rw [jix hH (by decide)]
          dsimp only
          rw [(hH.2 14 _ rfl).1]
          rfl
        refine (cl_ok hxa hH hn e1 e2 e3 hb).mono ?_
        rintro rv20 h20 ⟨z20, rfl, hH20, hs20, f20⟩
        show az_X P _ 31 23 ls [.int z20] _ _
        refine jm_istore (l' := [(4, .int z20), (3, .int T), (2, .int U), (0, .ref (P.1 + 54)), (1, .ref (P.1 + 14))]) rfl rfl (by decide) hl rfl rfl (fun ls23 hl23 => ?_)
        refine jm_iload (x := z20) rfl rfl (jM_at hl23 0 rfl) ?_
        refine jx_if (t := 48) rfl rfl rfl (fun hc27 => ?_) (fun hc27 => ?_)
        · have g27 := jc1_lt_t hc27
          refine jm_iload (x := z20) rfl rfl (jM_at hl23 0 rfl) ?_
          refine jx_if (t := 81) rfl rfl rfl (fun hc50 => ?_) (fun hc50 => ?_)
          · have g50 := jc1_lt_t hc50
            refine jm_aload_n (x := P.1 + 14) rfl rfl (jM_at hl23 4 rfl) ?_
            refine az_X_step (pc' := 84) (ls' := ls23) (st' := [.int 59, .ref (P.1 + 14)]) (h' := h20) rfl rfl rfl ?_
            refine az_X_call (m' := 123) (as := [.ref (P.1 + 14), .int 59]) (rest := []) rfl rfl rfl rfl rfl ?_ ?_
            · unfold si_call
              dsimp only
              rw [if_pos ⟨rfl, rfl⟩]
              show (match si_ix P h20 (P.1 + 14) with | some i => _ | none => none) = _
              rw [jix hH20 (by decide)]
              dsimp only
              rw [(hH20.2 14 _ rfl).1]
              rfl
            refine (tk_ok hxa hH20 hn ((jso hs20 (by decide)).trans e1) rfl rfl (jBY_so hs20 (by decide) hb) 59 (by decide)).mono ?_
            rintro rv84 h84 ⟨z84, rfl, hH84, hs84, f84⟩
            show az_X P _ 31 87 ls23 [.int z84] _ _
            refine jm_istore_n (l' := [(2, .int z84), (4, .int z20), (3, .int T), (0, .ref (P.1 + 54)), (1, .ref (P.1 + 14))]) rfl rfl (by decide) hl23 rfl rfl (fun ls87 hl87 => ?_)
            refine jn_iinc (x := T) rfl rfl (by decide) (jM_at hl87 2 rfl) hl87 rfl (by decide) (by omega) (by omega) (fun z88 (ez88 : z88.toInt = T.toInt + 1) ls88 (hl88 : jM [(3, .int z88), (2, .int z84), (4, .int z20), (0, .ref (P.1 + 54)), (1, .ref (P.1 + 14))] ls88) => ?_)
            refine az_X_step (pc' := 9) (ls' := ls88) (st' := []) (h' := h84) rfl rfl rfl ?_
            have x20 : ¬ (97 ≤ hh p ∧ hh p ≤ 104) ∧ ja h20 14 3 = -1000 - p := by
              rcases f20 with ⟨-, a, b, c⟩ | ⟨-, a, -, b⟩ | ⟨a, -⟩
              · omega
              · exact ⟨a, b⟩
              · exact absurd rfl a
            have x84 : z84.toInt = 0 ∧ h84 = h20 := by
              rcases f84 with ⟨a, -⟩ | ⟨-, a, b⟩
              · omega
              · exact ⟨a, b⟩
            have i84 : ja h84 14 3 = -1000 - p := by rw [x84.2]; exact x20.2
            refine (rxb_ok (d := d + 3) hH84 (((jso hs84 (by decide)).trans (jso hs20 (by decide))).trans e1) rfl rfl z88 z84 (by omega) ls88 (jM_pick hl88 [0, 1, 3, 4] rfl)).mono ?_
            rintro rv h9 ⟨z, q1, q2, q3, q4⟩
            refine ⟨z, q1, q2, (hs.tr ((hs20.sub (by decide)).tr (hs84.sub (by decide)))).tr (q3.sub (by decide)), ?_⟩
            exact Or.inl ⟨x20.1, by omega⟩
          · have g50 := jc1_lt_f hc50
            refine jm_aload_n (x := P.1 + 14) rfl rfl (jM_at hl23 4 rfl) ?_
            refine az_X_call (m' := 122) (as := [.ref (P.1 + 14)]) (rest := []) rfl rfl rfl rfl rfl ?_ ?_
            · unfold si_call
              dsimp only
              rw [if_pos ⟨rfl, rfl⟩]
              show (match si_ix P h20 (P.1 + 14) with | some i => _ | none => none) = _
              rw [jix hH20 (by decide)]
              dsimp only
              rw [(hH20.2 14 _ rfl).1]
              rfl
            refine (sp_ok hH20 (by
              rcases f20 with ⟨-, a, b, c⟩ | ⟨-, -, b, -⟩ | ⟨a, -⟩
              · have := jBY_lt hb (show hh p ≠ -1 by omega)
                rw [c]
                omega
              · omega
              · exact absurd rfl a)).mono ?_
            rintro rv54 h54 ⟨rfl, hH54, hs54, f54⟩
            show az_X P _ 31 57 ls23 [] _ _
            refine jm_aload_n (x := P.1 + 54) rfl rfl (jM_at hl23 3 rfl) ?_
            refine jx_gf (i := 54) rfl rfl hH54 (by decide) (hH54.2 54 _ rfl).1 rfl (jx_rf hH54 rfl rfl) ?_
            refine jm_iload_n (x := T) rfl rfl (jM_at hl23 1 rfl) ?_
            refine jm_iload (x := z20) rfl rfl (jM_at hl23 0 rfl) ?_
            refine jn_ias (i := 55) (x := T) (v := z20) rfl rfl hH54 (by decide) rfl (by omega) (by show _ < ((16 : Nat) : Int); omega) (by show 0 ≤ _; omega) (by show _ ≤ 7; rcases f20 with ⟨-, a, b, -⟩ | ⟨-, -, b, -⟩ | ⟨a, -⟩ <;> first | omega | exact absurd rfl a) (fun h64 hH64 hs64 t64 u64 => ?_)
            refine jm_aload_n (x := P.1 + 54) rfl rfl (jM_at hl23 3 rfl) ?_
            refine jm_aload_n (x := P.1 + 14) rfl rfl (jM_at hl23 4 rfl) ?_
            refine jm_iload_n (x := T) rfl rfl (jM_at hl23 1 rfl) ?_
            refine az_X_call (m' := 32) (as := [.ref (P.1 + 54), .ref (P.1 + 14), .int T]) (rest := []) rfl rfl rfl rfl rfl ?_ ?_
            · unfold si_call
              dsimp only
              rw [if_pos ⟨rfl, rfl⟩]
              show (match si_ix P h64 (P.1 + 54) with | some i => _ | none => none) = _
              rw [jix hH64 (by decide)]
              dsimp only
              rw [(hH64.2 54 _ rfl).1]
              rfl
            refine (rrb_ok hxa hH64 hn (((jso hs64 (by decide)).trans ((jso hs54 (by decide)).trans (jso hs20 (by decide)))).trans e1) rfl (by
              rcases f20 with ⟨-, a, b, c⟩ | ⟨-, -, b, -⟩ | ⟨a, -⟩
              · rw [jso hs64 (by decide), jso hs54 (by decide), c]
                exact e3
              · omega
              · exact absurd rfl a) (jBY_so hs64 (by decide) (jBY_so hs54 (by decide) (jBY_so hs20 (by decide) hb))) hh1 (by
              rcases f20 with ⟨-, a, b, c⟩ | ⟨-, -, b, -⟩ | ⟨a, -⟩
              · have := jBY_lt hb (show hh p ≠ -1 by omega)
                rw [jso hs64 (by decide), f54, c]
                omega
              · omega
              · exact absurd rfl a) T (by omega) (by rw [t64]; exact ⟨by
              rcases f20 with ⟨-, a, b, c⟩ | ⟨-, -, b, -⟩ | ⟨a, -⟩
              · omega
              · omega
              · exact absurd rfl a, by
              rcases f20 with ⟨-, a, b, c⟩ | ⟨-, -, b, -⟩ | ⟨a, -⟩
              · omega
              · omega
              · exact absurd rfl a⟩)).mono ?_
            rintro rv68 h68 ⟨rfl, hH68, hs68, f68⟩
            show az_X P _ 31 71 ls23 [] _ _
            refine jm_aload_n (x := P.1 + 54) rfl rfl (jM_at hl23 3 rfl) ?_
            refine az_X_step (pc' := 73) (ls' := ls23) (st' := [.ref (P.1 + 54), .ref (P.1 + 54)]) (h' := h68) rfl rfl rfl ?_
            refine jn_gf (i := 54) (k := 5) rfl rfl hH68 (by decide) (hH68.2 54 _ rfl).1 rfl rfl (fun z73 (ez73 : z73.toInt = ja h68 54 5) (bz73 : 0 ≤ z73.toInt ∧ z73.toInt ≤ 16) => ?_)
            replace ez73 : z73.toInt = ja h 54 5 := ez73.trans ((jso hs68 (by decide)).trans ((jso hs64 (by decide)).trans ((jso hs54 (by decide)).trans (jso hs20 (by decide)))))
            have b73 : ja h20 54 5 = j := by
              rcases f20 with ⟨-, a, b, c⟩ | ⟨-, -, b, -⟩ | ⟨a, -⟩
              · rw [c]; exact eC
              · omega
              · exact absurd rfl a
            refine az_X_step (pc' := 77) (ls' := ls23) (st' := [.int 1, .int z73, .ref (P.1 + 54)]) (h' := h68) rfl rfl rfl ?_
            have b73 : ja h20 54 5 = j := by
              rcases f20 with ⟨-, a, b, c⟩ | ⟨-, -, b, -⟩ | ⟨a, -⟩
              · rw [c]; exact eC
              · omega
              · exact absurd rfl a
            refine jn_add (a := z73) (b := 1) rfl rfl (by omega) (by omega) (fun z77 ez77 => ?_)
            rw [show (1 : Int32).toInt = 1 by decide] at ez77
            refine jn_pf (i := 54) (k := 5) (x := z77) rfl rfl hH68 (by decide) rfl (hH68.2 54 _ rfl).1 rfl rfl (by decide) (by decide) (by show 0 ≤ _; omega) (by show _ ≤ 16; omega) (fun h78 hH78 hs78 (t78 : ja h78 54 5 = z77.toInt) => ?_)
            refine jm_aload_n (x := P.1 + 14) rfl rfl (jM_at hl23 4 rfl) ?_
            refine az_X_step (pc' := 84) (ls' := ls23) (st' := [.int 59, .ref (P.1 + 14)]) (h' := h78) rfl rfl rfl ?_
            refine az_X_call (m' := 123) (as := [.ref (P.1 + 14), .int 59]) (rest := []) rfl rfl rfl rfl rfl ?_ ?_
            · unfold si_call
              dsimp only
              rw [if_pos ⟨rfl, rfl⟩]
              show (match si_ix P h78 (P.1 + 14) with | some i => _ | none => none) = _
              rw [jix hH78 (by decide)]
              dsimp only
              rw [(hH78.2 14 _ rfl).1]
              rfl
            refine (tk_ok hxa hH78 hn (((jso hs78 (by decide)).trans ((jso hs68 (by decide)).trans ((jso hs64 (by decide)).trans ((jso hs54 (by decide)).trans (jso hs20 (by decide)))))).trans e1) rfl rfl (jBY_so hs78 (by decide) (jBY_so hs68 (by decide) (jBY_so hs64 (by decide) (jBY_so hs54 (by decide) (jBY_so hs20 (by decide) hb))))) 59 (by decide)).mono ?_
            rintro rv84 h84 ⟨z84, rfl, hH84, hs84, f84⟩
            show az_X P _ 31 87 ls23 [.int z84] _ _
            refine jm_istore_n (l' := [(2, .int z84), (4, .int z20), (3, .int T), (0, .ref (P.1 + 54)), (1, .ref (P.1 + 14))]) rfl rfl (by decide) hl23 rfl rfl (fun ls87 hl87 => ?_)
            refine jn_iinc (x := T) rfl rfl (by decide) (jM_at hl87 2 rfl) hl87 rfl (by decide) (by omega) (by omega) (fun z88 (ez88 : z88.toInt = T.toInt + 1) ls88 (hl88 : jM [(3, .int z88), (2, .int z84), (4, .int z20), (0, .ref (P.1 + 54)), (1, .ref (P.1 + 14))] ls88) => ?_)
            refine az_X_step (pc' := 9) (ls' := ls88) (st' := []) (h' := h84) rfl rfl rfl ?_
            have x20 : (97 ≤ hh p ∧ hh p ≤ 104) ∧ z20.toInt = hh p - 97 ∧ h20 = h := by
              rcases f20 with ⟨-, a, b, c⟩ | ⟨-, -, b, -⟩ | ⟨a, -⟩
              · exact ⟨a, b, c⟩
              · omega
              · exact absurd rfl a
            obtain ⟨f, q, l3, l4, l5⟩ := f68
            have p64 : ja h64 14 2 = p + 1 := by rw [jso hs64 (by decide), f54, x20.2.2]; omega
            have o64 : ja h64 55 T.toInt = hh p - 97 := t64.trans x20.2.1
            have yy : ja h64 1 0 * ja h64 1 1 = ja h0 1 0 * ja h0 1 1 := by rw [← y0, jso hs64 (by decide), jso hs64 (by decide), jso hs54 (by decide), jso hs54 (by decide), x20.2.2]
            rw [p64, yy, o64] at l3
            have lq : f = 0 → p + 1 + 1 < q := fun e => by
              subst e
              exact jAP_q (by omega) l3
            have l4b : ja h78 14 3 = f := (jso hs78 (by decide)).trans l4
            have l5b : f = 0 → ja h78 14 2 = q := fun e => (jso hs78 (by decide)).trans (l5 e)
            have n16 : (j : Int) ≠ 16 := by omega
            have s78 : ja h78 54 5 = (j : Int) + 1 := t78.trans (by
              have : ja h20 54 5 = j := by rw [x20.2.2]; exact eC
              omega)
            rcases f84 with ⟨a1, a2, a3, a4⟩ | ⟨a1, a2, a3⟩
            · have ef : f = 0 := l4b.symm.trans a1
              have eq := l5b ef
              have i59 : hh q = 59 := by rw [← eq]; exact a2.trans k59
              have qn : q < n := jBY_lt hb (by omega)
              refine (ih (j + 1) (q + 1) z88 z84 h84 ls88 (jM_pick hl88 [0, 1, 3, 4] rfl) hH84 (hs.tr ((hs20.sub (by decide)).tr ((hs54.sub (by decide)).tr ((hs64.sub (by decide)).tr ((hs68.sub (by decide)).tr ((hs78.sub (by decide)).tr (hs84.sub (by decide)))))))) (((jso hs84 (by decide)).trans ((jso hs78 (by decide)).trans ((jso hs68 (by decide)).trans ((jso hs64 (by decide)).trans ((jso hs54 (by decide)).trans (jso hs20 (by decide))))))).trans e1) (by omega) ((jso hs84 (by decide)).trans a1) (jBY_so hs84 (by decide) (jBY_so hs78 (by decide) (jBY_so hs68 (by decide) (jBY_so hs64 (by decide) (jBY_so hs54 (by decide) (jBY_so hs20 (by decide) hb)))))) (by omega) a3 ((jso hs84 (by decide)).trans (by omega)) (by omega) (by omega) (by have := lq ef; omega)).mono ?_
              rintro rv h9 ⟨z, q1, q2, q3, q4⟩
              refine ⟨z, q1, q2, q3, Or.inr (Or.inr ⟨x20.1, n16, f, q, l3, Or.inr (Or.inr (Or.inr ⟨ef, qn, i59, ?_⟩))⟩)⟩
              rw [show (j : Int) + 1 = ((j + 1 : Nat) : Int) by omega]
              exact q4
            · have i2 : ja h84 14 2 = ja h78 14 2 := by rw [a3]
              have i3 : ja h84 14 3 = f := by rw [a3]; exact l4b
              have i5 : ja h84 54 5 = (j : Int) + 1 := by rw [a3]; exact s78
              refine (rxb_ok (d := d + 3) hH84 (((jso hs84 (by decide)).trans ((jso hs78 (by decide)).trans ((jso hs68 (by decide)).trans ((jso hs64 (by decide)).trans ((jso hs54 (by decide)).trans (jso hs20 (by decide))))))).trans e1) rfl rfl z88 z84 (by omega) ls88 (jM_pick hl88 [0, 1, 3, 4] rfl)).mono ?_
              rintro rv h9 ⟨z, q1, q2, q3, q4⟩
              refine ⟨z, q1, q2, (hs.tr ((hs20.sub (by decide)).tr ((hs54.sub (by decide)).tr ((hs64.sub (by decide)).tr ((hs68.sub (by decide)).tr ((hs78.sub (by decide)).tr (hs84.sub (by decide)))))))).tr (q3.sub (by decide)), ?_⟩
              refine Or.inr (Or.inr ⟨x20.1, n16, f, q, l3, ?_⟩)
              rcases q4 with ⟨c1, c2⟩ | ⟨c1, c2, c3⟩ | ⟨c1, c2, c3⟩
              · exact Or.inl ⟨by omega, by omega⟩
              · have ef : f = 0 := by omega
                have eq := l5b ef
                refine Or.inr (Or.inr (Or.inl ⟨ef, by omega, fun e => a1 ⟨by omega, ?_⟩, by omega⟩))
                rw [eq, k59]
                exact e
              · have ef : f = 0 := by omega
                have eq := l5b ef
                exact Or.inr (Or.inl ⟨ef, by omega, by omega⟩)
        · have g27 := jc1_lt_f hc27
          refine jm_iload_n (x := T) rfl rfl (jM_at hl23 1 rfl) ?_
          refine az_X_step (pc' := 33) (ls' := ls23) (st' := [.int 16, .int T]) (h' := h20) rfl rfl rfl ?_
          refine jx_ic (t := 48) rfl rfl rfl (fun hc33 => ?_) (fun hc33 => ?_)
          · have g33 := jc2_ne_t hc33
            refine jm_iload (x := z20) rfl rfl (jM_at hl23 0 rfl) ?_
            refine jx_if (t := 81) rfl rfl rfl (fun hc50 => ?_) (fun hc50 => ?_)
            · have g50 := jc1_lt_t hc50
              refine jm_aload_n (x := P.1 + 14) rfl rfl (jM_at hl23 4 rfl) ?_
              refine az_X_step (pc' := 84) (ls' := ls23) (st' := [.int 59, .ref (P.1 + 14)]) (h' := h20) rfl rfl rfl ?_
              refine az_X_call (m' := 123) (as := [.ref (P.1 + 14), .int 59]) (rest := []) rfl rfl rfl rfl rfl ?_ ?_
              · unfold si_call
                dsimp only
                rw [if_pos ⟨rfl, rfl⟩]
                show (match si_ix P h20 (P.1 + 14) with | some i => _ | none => none) = _
                rw [jix hH20 (by decide)]
                dsimp only
                rw [(hH20.2 14 _ rfl).1]
                rfl
              refine (tk_ok hxa hH20 hn ((jso hs20 (by decide)).trans e1) rfl rfl (jBY_so hs20 (by decide) hb) 59 (by decide)).mono ?_
              rintro rv84 h84 ⟨z84, rfl, hH84, hs84, f84⟩
              show az_X P _ 31 87 ls23 [.int z84] _ _
              refine jm_istore_n (l' := [(2, .int z84), (4, .int z20), (3, .int T), (0, .ref (P.1 + 54)), (1, .ref (P.1 + 14))]) rfl rfl (by decide) hl23 rfl rfl (fun ls87 hl87 => ?_)
              refine jn_iinc (x := T) rfl rfl (by decide) (jM_at hl87 2 rfl) hl87 rfl (by decide) (by omega) (by omega) (fun z88 (ez88 : z88.toInt = T.toInt + 1) ls88 (hl88 : jM [(3, .int z88), (2, .int z84), (4, .int z20), (0, .ref (P.1 + 54)), (1, .ref (P.1 + 14))] ls88) => ?_)
              refine az_X_step (pc' := 9) (ls' := ls88) (st' := []) (h' := h84) rfl rfl rfl ?_
              have x20 : ¬ (97 ≤ hh p ∧ hh p ≤ 104) ∧ ja h20 14 3 = -1000 - p := by
                rcases f20 with ⟨-, a, b, c⟩ | ⟨-, a, -, b⟩ | ⟨a, -⟩
                · omega
                · exact ⟨a, b⟩
                · exact absurd rfl a
              have x84 : z84.toInt = 0 ∧ h84 = h20 := by
                rcases f84 with ⟨a, -⟩ | ⟨-, a, b⟩
                · omega
                · exact ⟨a, b⟩
              have i84 : ja h84 14 3 = -1000 - p := by rw [x84.2]; exact x20.2
              refine (rxb_ok (d := d + 3) hH84 (((jso hs84 (by decide)).trans (jso hs20 (by decide))).trans e1) rfl rfl z88 z84 (by omega) ls88 (jM_pick hl88 [0, 1, 3, 4] rfl)).mono ?_
              rintro rv h9 ⟨z, q1, q2, q3, q4⟩
              refine ⟨z, q1, q2, (hs.tr ((hs20.sub (by decide)).tr (hs84.sub (by decide)))).tr (q3.sub (by decide)), ?_⟩
              exact Or.inl ⟨x20.1, by omega⟩
            · have g50 := jc1_lt_f hc50
              refine jm_aload_n (x := P.1 + 14) rfl rfl (jM_at hl23 4 rfl) ?_
              refine az_X_call (m' := 122) (as := [.ref (P.1 + 14)]) (rest := []) rfl rfl rfl rfl rfl ?_ ?_
              · unfold si_call
                dsimp only
                rw [if_pos ⟨rfl, rfl⟩]
                show (match si_ix P h20 (P.1 + 14) with | some i => _ | none => none) = _
                rw [jix hH20 (by decide)]
                dsimp only
                rw [(hH20.2 14 _ rfl).1]
                rfl
              refine (sp_ok hH20 (by
                rcases f20 with ⟨-, a, b, c⟩ | ⟨-, -, b, -⟩ | ⟨a, -⟩
                · have := jBY_lt hb (show hh p ≠ -1 by omega)
                  rw [c]
                  omega
                · omega
                · exact absurd rfl a)).mono ?_
              rintro rv54 h54 ⟨rfl, hH54, hs54, f54⟩
              show az_X P _ 31 57 ls23 [] _ _
              refine jm_aload_n (x := P.1 + 54) rfl rfl (jM_at hl23 3 rfl) ?_
              refine jx_gf (i := 54) rfl rfl hH54 (by decide) (hH54.2 54 _ rfl).1 rfl (jx_rf hH54 rfl rfl) ?_
              refine jm_iload_n (x := T) rfl rfl (jM_at hl23 1 rfl) ?_
              refine jm_iload (x := z20) rfl rfl (jM_at hl23 0 rfl) ?_
              refine jn_ias (i := 55) (x := T) (v := z20) rfl rfl hH54 (by decide) rfl (by omega) (by show _ < ((16 : Nat) : Int); omega) (by show 0 ≤ _; omega) (by show _ ≤ 7; rcases f20 with ⟨-, a, b, -⟩ | ⟨-, -, b, -⟩ | ⟨a, -⟩ <;> first | omega | exact absurd rfl a) (fun h64 hH64 hs64 t64 u64 => ?_)
              refine jm_aload_n (x := P.1 + 54) rfl rfl (jM_at hl23 3 rfl) ?_
              refine jm_aload_n (x := P.1 + 14) rfl rfl (jM_at hl23 4 rfl) ?_
              refine jm_iload_n (x := T) rfl rfl (jM_at hl23 1 rfl) ?_
              refine az_X_call (m' := 32) (as := [.ref (P.1 + 54), .ref (P.1 + 14), .int T]) (rest := []) rfl rfl rfl rfl rfl ?_ ?_
              · unfold si_call
                dsimp only
                rw [if_pos ⟨rfl, rfl⟩]
                show (match si_ix P h64 (P.1 + 54) with | some i => _ | none => none) = _
                rw [jix hH64 (by decide)]
                dsimp only
                rw [(hH64.2 54 _ rfl).1]
                rfl
              refine (rrb_ok hxa hH64 hn (((jso hs64 (by decide)).trans ((jso hs54 (by decide)).trans (jso hs20 (by decide)))).trans e1) rfl (by
                rcases f20 with ⟨-, a, b, c⟩ | ⟨-, -, b, -⟩ | ⟨a, -⟩
                · rw [jso hs64 (by decide), jso hs54 (by decide), c]
                  exact e3
                · omega
                · exact absurd rfl a) (jBY_so hs64 (by decide) (jBY_so hs54 (by decide) (jBY_so hs20 (by decide) hb))) hh1 (by
                rcases f20 with ⟨-, a, b, c⟩ | ⟨-, -, b, -⟩ | ⟨a, -⟩
                · have := jBY_lt hb (show hh p ≠ -1 by omega)
                  rw [jso hs64 (by decide), f54, c]
                  omega
                · omega
                · exact absurd rfl a) T (by omega) (by rw [t64]; exact ⟨by
                rcases f20 with ⟨-, a, b, c⟩ | ⟨-, -, b, -⟩ | ⟨a, -⟩
                · omega
                · omega
                · exact absurd rfl a, by
                rcases f20 with ⟨-, a, b, c⟩ | ⟨-, -, b, -⟩ | ⟨a, -⟩
                · omega
                · omega
                · exact absurd rfl a⟩)).mono ?_
              rintro rv68 h68 ⟨rfl, hH68, hs68, f68⟩
              show az_X P _ 31 71 ls23 [] _ _
              refine jm_aload_n (x := P.1 + 54) rfl rfl (jM_at hl23 3 rfl) ?_
              refine az_X_step (pc' := 73) (ls' := ls23) (st' := [.ref (P.1 + 54), .ref (P.1 + 54)]) (h' := h68) rfl rfl rfl ?_
              refine jn_gf (i := 54) (k := 5) rfl rfl hH68 (by decide) (hH68.2 54 _ rfl).1 rfl rfl (fun z73 (ez73 : z73.toInt = ja h68 54 5) (bz73 : 0 ≤ z73.toInt ∧ z73.toInt ≤ 16) => ?_)
              replace ez73 : z73.toInt = ja h 54 5 := ez73.trans ((jso hs68 (by decide)).trans ((jso hs64 (by decide)).trans ((jso hs54 (by decide)).trans (jso hs20 (by decide)))))
              have b73 : ja h20 54 5 = j := by
                rcases f20 with ⟨-, a, b, c⟩ | ⟨-, -, b, -⟩ | ⟨a, -⟩
                · rw [c]; exact eC
                · omega
                · exact absurd rfl a
              refine az_X_step (pc' := 77) (ls' := ls23) (st' := [.int 1, .int z73, .ref (P.1 + 54)]) (h' := h68) rfl rfl rfl ?_
              have b73 : ja h20 54 5 = j := by
                rcases f20 with ⟨-, a, b, c⟩ | ⟨-, -, b, -⟩ | ⟨a, -⟩
                · rw [c]; exact eC
                · omega
                · exact absurd rfl a
              refine jn_add (a := z73) (b := 1) rfl rfl (by omega) (by omega) (fun z77 ez77 => ?_)
              rw [show (1 : Int32).toInt = 1 by decide] at ez77
              refine jn_pf (i := 54) (k := 5) (x := z77) rfl rfl hH68 (by decide) rfl (hH68.2 54 _ rfl).1 rfl rfl (by decide) (by decide) (by show 0 ≤ _; omega) (by show _ ≤ 16; omega) (fun h78 hH78 hs78 (t78 : ja h78 54 5 = z77.toInt) => ?_)
              refine jm_aload_n (x := P.1 + 14) rfl rfl (jM_at hl23 4 rfl) ?_
              refine az_X_step (pc' := 84) (ls' := ls23) (st' := [.int 59, .ref (P.1 + 14)]) (h' := h78) rfl rfl rfl ?_
              refine az_X_call (m' := 123) (as := [.ref (P.1 + 14), .int 59]) (rest := []) rfl rfl rfl rfl rfl ?_ ?_
              · unfold si_call
                dsimp only
                rw [if_pos ⟨rfl, rfl⟩]
                show (match si_ix P h78 (P.1 + 14) with | some i => _ | none => none) = _
                rw [jix hH78 (by decide)]
                dsimp only
                rw [(hH78.2 14 _ rfl).1]
                rfl
              refine (tk_ok hxa hH78 hn (((jso hs78 (by decide)).trans ((jso hs68 (by decide)).trans ((jso hs64 (by decide)).trans ((jso hs54 (by decide)).trans (jso hs20 (by decide)))))).trans e1) rfl rfl (jBY_so hs78 (by decide) (jBY_so hs68 (by decide) (jBY_so hs64 (by decide) (jBY_so hs54 (by decide) (jBY_so hs20 (by decide) hb))))) 59 (by decide)).mono ?_
              rintro rv84 h84 ⟨z84, rfl, hH84, hs84, f84⟩
              show az_X P _ 31 87 ls23 [.int z84] _ _
              refine jm_istore_n (l' := [(2, .int z84), (4, .int z20), (3, .int T), (0, .ref (P.1 + 54)), (1, .ref (P.1 + 14))]) rfl rfl (by decide) hl23 rfl rfl (fun ls87 hl87 => ?_)
              refine jn_iinc (x := T) rfl rfl (by decide) (jM_at hl87 2 rfl) hl87 rfl (by decide) (by omega) (by omega) (fun z88 (ez88 : z88.toInt = T.toInt + 1) ls88 (hl88 : jM [(3, .int z88), (2, .int z84), (4, .int z20), (0, .ref (P.1 + 54)), (1, .ref (P.1 + 14))] ls88) => ?_)
              refine az_X_step (pc' := 9) (ls' := ls88) (st' := []) (h' := h84) rfl rfl rfl ?_
              have x20 : (97 ≤ hh p ∧ hh p ≤ 104) ∧ z20.toInt = hh p - 97 ∧ h20 = h := by
                rcases f20 with ⟨-, a, b, c⟩ | ⟨-, -, b, -⟩ | ⟨a, -⟩
                · exact ⟨a, b, c⟩
                · omega
                · exact absurd rfl a
              obtain ⟨f, q, l3, l4, l5⟩ := f68
              have p64 : ja h64 14 2 = p + 1 := by rw [jso hs64 (by decide), f54, x20.2.2]; omega
              have o64 : ja h64 55 T.toInt = hh p - 97 := t64.trans x20.2.1
              have yy : ja h64 1 0 * ja h64 1 1 = ja h0 1 0 * ja h0 1 1 := by rw [← y0, jso hs64 (by decide), jso hs64 (by decide), jso hs54 (by decide), jso hs54 (by decide), x20.2.2]
              rw [p64, yy, o64] at l3
              have lq : f = 0 → p + 1 + 1 < q := fun e => by
                subst e
                exact jAP_q (by omega) l3
              have l4b : ja h78 14 3 = f := (jso hs78 (by decide)).trans l4
              have l5b : f = 0 → ja h78 14 2 = q := fun e => (jso hs78 (by decide)).trans (l5 e)
              have n16 : (j : Int) ≠ 16 := by omega
              have s78 : ja h78 54 5 = (j : Int) + 1 := t78.trans (by
                have : ja h20 54 5 = j := by rw [x20.2.2]; exact eC
                omega)
              rcases f84 with ⟨a1, a2, a3, a4⟩ | ⟨a1, a2, a3⟩
              · have ef : f = 0 := l4b.symm.trans a1
                have eq := l5b ef
                have i59 : hh q = 59 := by rw [← eq]; exact a2.trans k59
                have qn : q < n := jBY_lt hb (by omega)
                refine (ih (j + 1) (q + 1) z88 z84 h84 ls88 (jM_pick hl88 [0, 1, 3, 4] rfl) hH84 (hs.tr ((hs20.sub (by decide)).tr ((hs54.sub (by decide)).tr ((hs64.sub (by decide)).tr ((hs68.sub (by decide)).tr ((hs78.sub (by decide)).tr (hs84.sub (by decide)))))))) (((jso hs84 (by decide)).trans ((jso hs78 (by decide)).trans ((jso hs68 (by decide)).trans ((jso hs64 (by decide)).trans ((jso hs54 (by decide)).trans (jso hs20 (by decide))))))).trans e1) (by omega) ((jso hs84 (by decide)).trans a1) (jBY_so hs84 (by decide) (jBY_so hs78 (by decide) (jBY_so hs68 (by decide) (jBY_so hs64 (by decide) (jBY_so hs54 (by decide) (jBY_so hs20 (by decide) hb)))))) (by omega) a3 ((jso hs84 (by decide)).trans (by omega)) (by omega) (by omega) (by have := lq ef; omega)).mono ?_
                rintro rv h9 ⟨z, q1, q2, q3, q4⟩
                refine ⟨z, q1, q2, q3, Or.inr (Or.inr ⟨x20.1, n16, f, q, l3, Or.inr (Or.inr (Or.inr ⟨ef, qn, i59, ?_⟩))⟩)⟩
                rw [show (j : Int) + 1 = ((j + 1 : Nat) : Int) by omega]
                exact q4
              · have i2 : ja h84 14 2 = ja h78 14 2 := by rw [a3]
                have i3 : ja h84 14 3 = f := by rw [a3]; exact l4b
                have i5 : ja h84 54 5 = (j : Int) + 1 := by rw [a3]; exact s78
                refine (rxb_ok (d := d + 3) hH84 (((jso hs84 (by decide)).trans ((jso hs78 (by decide)).trans ((jso hs68 (by decide)).trans ((jso hs64 (by decide)).trans ((jso hs54 (by decide)).trans (jso hs20 (by decide))))))).trans e1) rfl rfl z88 z84 (by omega) ls88 (jM_pick hl88 [0, 1, 3, 4] rfl)).mono ?_
                rintro rv h9 ⟨z, q1, q2, q3, q4⟩
                refine ⟨z, q1, q2, (hs.tr ((hs20.sub (by decide)).tr ((hs54.sub (by decide)).tr ((hs64.sub (by decide)).tr ((hs68.sub (by decide)).tr ((hs78.sub (by decide)).tr (hs84.sub (by decide)))))))).tr (q3.sub (by decide)), ?_⟩
                refine Or.inr (Or.inr ⟨x20.1, n16, f, q, l3, ?_⟩)
                rcases q4 with ⟨c1, c2⟩ | ⟨c1, c2, c3⟩ | ⟨c1, c2, c3⟩
                · exact Or.inl ⟨by omega, by omega⟩
                · have ef : f = 0 := by omega
                  have eq := l5b ef
                  refine Or.inr (Or.inr (Or.inl ⟨ef, by omega, fun e => a1 ⟨by omega, ?_⟩, by omega⟩))
                  rw [eq, k59]
                  exact e
                · have ef : f = 0 := by omega
                  have eq := l5b ef
                  exact Or.inr (Or.inl ⟨ef, by omega, by omega⟩)
          · have g33 := jc2_ne_f hc33
            refine jm_aload_n (x := P.1 + 14) rfl rfl (jM_at hl23 4 rfl) ?_
            refine az_X_step (pc' := 38) (ls' := ls23) (st' := [.int 4, .ref (P.1 + 14)]) (h' := h20) rfl rfl rfl ?_
            refine jm_aload_n (x := P.1 + 14) rfl rfl (jM_at hl23 4 rfl) ?_
            refine az_X_call (m' := 120) (as := [.ref (P.1 + 14)]) (rest := [.int 4, .ref (P.1 + 14)]) rfl rfl rfl rfl rfl ?_ ?_
            · unfold si_call
              dsimp only
              rw [if_pos ⟨rfl, rfl⟩]
              show (match si_ix P h20 (P.1 + 14) with | some i => _ | none => none) = _
              rw [jix hH20 (by decide)]
              dsimp only
              rw [(hH20.2 14 _ rfl).1]
              rfl
            refine (pl_ok hH20).mono ?_
            rintro rv39 h39 ⟨q39, z39, rfl, ez39⟩
            subst h39
            show az_X P _ 31 42 ls23 [.int z39, .int 4, .ref (P.1 + 14)] _ _
            refine az_X_call (m' := 125) (as := [.ref (P.1 + 14), .int 4, .int z39]) (rest := []) rfl rfl rfl rfl rfl ?_ ?_
            · unfold si_call
              dsimp only
              rw [if_pos ⟨rfl, rfl⟩]
              show (match si_ix P h20 (P.1 + 14) with | some i => _ | none => none) = _
              rw [jix hH20 (by decide)]
              dsimp only
              rw [(hH20.2 14 _ rfl).1]
              rfl
            refine (fl_ok hH20 4 z39 (by decide) (by have : 0 ≤ ja h20 14 2 ∧ ja h20 14 2 ≤ 241 := ja_bd hH20 (i := 14) (k := 2) rfl; omega)).mono ?_
            rintro rv42 h42 ⟨rfl, hH42, hs42, f42⟩
            show az_X P _ 31 45 ls23 [] _ _
            refine az_X_step (pc' := 81) (ls' := ls23) (st' := []) (h' := h42) rfl rfl rfl ?_
            refine jm_aload_n (x := P.1 + 14) rfl rfl (jM_at hl23 4 rfl) ?_
            refine az_X_step (pc' := 84) (ls' := ls23) (st' := [.int 59, .ref (P.1 + 14)]) (h' := h42) rfl rfl rfl ?_
            refine az_X_call (m' := 123) (as := [.ref (P.1 + 14), .int 59]) (rest := []) rfl rfl rfl rfl rfl ?_ ?_
            · unfold si_call
              dsimp only
              rw [if_pos ⟨rfl, rfl⟩]
              show (match si_ix P h42 (P.1 + 14) with | some i => _ | none => none) = _
              rw [jix hH42 (by decide)]
              dsimp only
              rw [(hH42.2 14 _ rfl).1]
              rfl
            refine (tk_ok hxa hH42 hn (((jso hs42 (by decide)).trans (jso hs20 (by decide))).trans e1) rfl rfl (jBY_so hs42 (by decide) (jBY_so hs20 (by decide) hb)) 59 (by decide)).mono ?_
            rintro rv84 h84 ⟨z84, rfl, hH84, hs84, f84⟩
            show az_X P _ 31 87 ls23 [.int z84] _ _
            refine jm_istore_n (l' := [(2, .int z84), (4, .int z20), (3, .int T), (0, .ref (P.1 + 54)), (1, .ref (P.1 + 14))]) rfl rfl (by decide) hl23 rfl rfl (fun ls87 hl87 => ?_)
            refine jn_iinc (x := T) rfl rfl (by decide) (jM_at hl87 2 rfl) hl87 rfl (by decide) (by omega) (by omega) (fun z88 (ez88 : z88.toInt = T.toInt + 1) ls88 (hl88 : jM [(3, .int z88), (2, .int z84), (4, .int z20), (0, .ref (P.1 + 54)), (1, .ref (P.1 + 14))] ls88) => ?_)
            refine az_X_step (pc' := 9) (ls' := ls88) (st' := []) (h' := h84) rfl rfl rfl ?_
            have x20 : (97 ≤ hh p ∧ hh p ≤ 104) ∧ z20.toInt = hh p - 97 ∧ h20 = h := by
              rcases f20 with ⟨-, a, b, c⟩ | ⟨-, -, b, -⟩ | ⟨a, -⟩
              · exact ⟨a, b, c⟩
              · omega
              · exact absurd rfl a
            have g2 : z39.toInt = p := by rw [ez39, x20.2.2]; exact e2
            have f4 : ja h42 14 3 = -4000 - p := (f42.1 (by rw [x20.2.2]; exact e3)).trans (by omega)
            have x84 : z84.toInt = 0 ∧ h84 = h42 := by
              rcases f84 with ⟨a, -⟩ | ⟨-, a, b⟩
              · omega
              · exact ⟨a, b⟩
            have i84 : ja h84 14 3 = -4000 - p := by rw [x84.2]; exact f4
            refine (rxb_ok (d := d + 3) hH84 (((jso hs84 (by decide)).trans ((jso hs42 (by decide)).trans (jso hs20 (by decide)))).trans e1) rfl rfl z88 z84 (by omega) ls88 (jM_pick hl88 [0, 1, 3, 4] rfl)).mono ?_
            rintro rv h9 ⟨z, q1, q2, q3, q4⟩
            refine ⟨z, q1, q2, (hs.tr ((hs20.sub (by decide)).tr ((hs42.sub (by decide)).tr (hs84.sub (by decide))))).tr (q3.sub (by decide)), ?_⟩
            exact Or.inr (Or.inl ⟨x20.1, by omega, by omega⟩)
theorem rdb_ok {P : si_P} (hxa : P.2.1 < P.1) {d : Nat} {h : si_H} (hH : az_HI P az_tb h) {n : Int} {hh : Int → Int} (hn : 1 ≤ n ∧ n ≤ 240) (hh1 : ∀ i : Int, hh i ≤ 255) (e1 : ja h 14 1 = n) (e2 : ja h 14 2 = 0) (e3 : ja h 14 3 = 0) (hb : jBY h n hh) : az_X P (d + 5) 31 0 (lv_args 0 [.ref (P.1 + 54), .ref (P.1 + 14)]) [] h (fun rv h' => ∃ z : Int32, rv = some (.int z) ∧ az_HI P az_tb h' ∧ az_same_out [(14, 2), (14, 3), (54, 5), (55, 1000000), (56, 1000000), (57, 1000000), (58, 1000000)] h h' ∧ jLB hh (ja h 1 0 * ja h 1 1) n 17 0 0 z.toInt) := by
  have hl : jM [(0, .ref (P.1 + 54)), (1, .ref (P.1 + 14))] (lv_args 0 [.ref (P.1 + 54), .ref (P.1 + 14)]) := jM_args [0, 1] rfl (by decide)
  generalize lv_args 0 [.ref (P.1 + 54), .ref (P.1 + 14)] = ls at hl
  have k0 : (0 : Int32).toInt = 0 := by decide
  have k1 : (1 : Int32).toInt = 1 := by decide
  refine jm_aload_n (x := P.1 + 54) rfl rfl (jM_at hl 0 rfl) ?_
  refine az_X_step (pc' := 2) (ls' := ls) (st' := [.int 0, .ref (P.1 + 54)]) (h' := h) rfl rfl rfl ?_
  refine jn_pf (i := 54) (k := 5) (x := 0) rfl rfl hH (by decide) rfl (hH.2 54 _ rfl).1 rfl rfl (by decide) (by decide) (by show 0 ≤ _; omega) (by show _ ≤ 16; omega) (fun h2 hH2 hs2 (t2 : ja h2 54 5 = (0 : Int32).toInt) => ?_)
  replace t2 : ja h2 54 5 = 0 := t2.trans (by decide)
  refine az_X_step (pc' := 6) (ls' := ls) (st' := [.int 1]) (h' := h2) rfl rfl rfl ?_
  refine jm_istore_n (l' := [(2, .int 1), (0, .ref (P.1 + 54)), (1, .ref (P.1 + 14))]) rfl rfl (by decide) hl rfl rfl (fun ls6 hl6 => ?_)
  refine az_X_step (pc' := 8) (ls' := ls6) (st' := [.int 0]) (h' := h2) rfl rfl rfl ?_
  refine jm_istore_n (l' := [(3, .int 0), (2, .int 1), (0, .ref (P.1 + 54)), (1, .ref (P.1 + 14))]) rfl rfl (by decide) hl6 rfl rfl (fun ls8 hl8 => ?_)
  have y0 : ja h2 1 0 * ja h2 1 1 = ja h 1 0 * ja h 1 1 := by rw [jso hs2 (by decide), jso hs2 (by decide)]
  refine (rdb_l (d := d) hxa (h0 := h2) hn hh1 17 0 0 0 1 h2 ls8 (jM_pick hl8 [0, 1, 2, 3] rfl) hH2 az_same_out.rf ((jso hs2 (by decide)).trans e1) ((jso hs2 (by decide)).trans e2) ((jso hs2 (by decide)).trans e3) (jBY_so hs2 (by decide) hb) (by decide) (by decide) t2 (by omega) (by omega) (by omega)).mono ?_
  rintro rv h9 ⟨z, q1, q2, q3, q4⟩
  rw [y0] at q4
  exact ⟨z, q1, q2, (hs2.sub (by decide)).tr q3, q4⟩
theorem book0_ok {P : si_P} (hxa : P.2.1 < P.1) {d : Nat} {h : si_H} (hH : az_HI P az_tb h) (a : Int32) : az_X P (d + 6) 148 0 (lv_args 0 [.ref (P.1 + 0), .int a]) [] h (fun rv h' => ∃ z : Int32, rv = some (.int z) ∧ az_HI P az_tb h' ∧ az_same_out [(0, 17), (0, 18), (12, 1), (14, 1), (14, 2), (14, 3), (49, 5), (50, 1000000), (51, 1000000), (52, 1000000), (53, 1000000), (54, 5), (55, 1000000), (56, 1000000), (57, 1000000), (58, 1000000)] h h' ∧ (((1 ≤ a.toInt ∧ a.toInt ≤ 160 ∧ a.toInt ≤ ja h 12 1) ∧ ja h' 12 1 = 0 ∧ jLB (fun i : Int => if 0 ≤ i ∧ i < a.toInt then ja h 13 i else -1) (ja h 1 0 * ja h 1 1) a.toInt 17 0 0 z.toInt) ∨ (¬ (1 ≤ a.toInt ∧ a.toInt ≤ 160 ∧ a.toInt ≤ ja h 12 1) ∧ ja h' 12 1 = ja h 12 1 ∧ z.toInt = -1))) := by
  have b13 : ∀ i : Int, 0 ≤ i → i < 260 → 0 ≤ ja h 13 i ∧ ja h 13 i ≤ 255 := fun i i0 i1 => ja_row hH (i := 13) (r := (260, 0, 255)) rfl i0 i1
  have b12 : 0 ≤ ja h 12 1 ∧ ja h 12 1 ≤ 260 := ja_bd hH (i := 12) (k := 1) rfl
  have hl : jM [(0, .ref (P.1 + 0)), (1, .int a)] (lv_args 0 [.ref (P.1 + 0), .int a]) := jM_args [0, 1] rfl (by decide)
  generalize lv_args 0 [.ref (P.1 + 0), .int a] = ls at hl
  have km1 : ((-1) : Int32).toInt = (-1) := by decide
  have k0 : (0 : Int32).toInt = 0 := by decide
  have k160 : (160 : Int32).toInt = 160 := by decide
  refine jm_aload_n (x := P.1 + 0) rfl rfl (jM_at hl 0 rfl) ?_
  refine jm_iload_n (x := a) rfl rfl (jM_at hl 1 rfl) ?_
  refine az_X_step (pc' := 5) (ls' := ls) (st' := [.int 160, .int a, .ref (P.1 + 0)]) (h' := h) rfl rfl rfl ?_
  refine az_X_call (m' := 192) (as := [.ref (P.1 + 0), .int a, .int 160]) (rest := []) rfl rfl rfl rfl rfl ?_ ?_
  · unfold si_call
    dsimp only
    rw [if_pos ⟨rfl, rfl⟩]
    show (match si_ix P h (P.1 + 0) with | some i => _ | none => none) = _
    rw [jix hH (by decide)]
    dsimp only
    rw [(hH.2 0 _ rfl).1]
    rfl
  refine (cr_ok hH a 160).mono ?_
  rintro rv5 h5 ⟨q5, z5, rfl, ez5⟩
  subst h5
  show az_X P _ 148 8 ls [.int z5] _ _
  refine jx_if (t := 13) rfl rfl rfl (fun hc8 => ?_) (fun hc8 => ?_)
  · have g8 := jc1_ne_t hc8
    refine jm_aload_n (x := P.1 + 0) rfl rfl (jM_at hl 0 rfl) ?_
    refine jx_gf (i := 0) rfl rfl hH (by decide) (hH.2 0 _ rfl).1 rfl (jx_rf hH rfl rfl) ?_
    refine jm_iload_n (x := a) rfl rfl (jM_at hl 1 rfl) ?_
    refine az_X_call (m' := 119) (as := [.ref (P.1 + 14), .int a]) (rest := []) rfl rfl rfl rfl rfl ?_ ?_
    · unfold si_call
      dsimp only
      rw [if_pos ⟨rfl, rfl⟩]
      show (match si_ix P h (P.1 + 14) with | some i => _ | none => none) = _
      rw [jix hH (by decide)]
      dsimp only
      rw [(hH.2 14 _ rfl).1]
      rfl
    refine (rb_ok hH a (by omega)).mono ?_
    rintro rv18 h18 ⟨rfl, hH18, hs18, f18⟩
    show az_X P _ 148 21 ls [] _ _
    refine jm_aload_n (x := P.1 + 0) rfl rfl (jM_at hl 0 rfl) ?_
    rcases jn_rf2 (i := 0) (k := 18) hH18 rfl rfl with hv22 | hv22
    · refine jx_gf (i := 0) rfl rfl hH18 (by decide) (hH18.2 0 _ rfl).1 rfl hv22 ?_
      refine jm_aload_n (x := P.1 + 0) rfl rfl (jM_at hl 0 rfl) ?_
      refine jx_gf (i := 0) rfl rfl hH18 (by decide) (hH18.2 0 _ rfl).1 rfl (jx_rf hH18 rfl rfl) ?_
      refine az_X_call (m' := 31) (as := [.ref (P.1 + 49), .ref (P.1 + 14)]) (rest := []) rfl rfl rfl rfl rfl ?_ ?_
      · unfold si_call
        dsimp only
        rw [if_pos ⟨rfl, rfl⟩]
        show (match si_ix P h18 (P.1 + 49) with | some i => _ | none => none) = _
        rw [jix hH18 (by decide)]
        dsimp only
        rw [(hH18.2 49 _ rfl).1]
        rfl
      refine (rda_ok (d := d) hxa hH18 (n := a.toInt) (hh := (fun i : Int => if 0 ≤ i ∧ i < a.toInt then ja h 13 i else -1)) (by omega) (fun i => by
        show (if 0 ≤ i ∧ i < a.toInt then ja h 13 i else -1) ≤ 255
        split
        · rename_i q
          have := b13 i q.1 (by omega)
          omega
        · omega) f18.1 f18.2.1 f18.2.2 ⟨fun i i0 i1 => by rw [jso_row (i := 13) hs18 (by decide)]; show ja h 13 i = if 0 ≤ i ∧ i < a.toInt then ja h 13 i else -1; rw [if_pos ⟨i0, i1⟩], fun i i1 => by show (if 0 ≤ i ∧ i < a.toInt then ja h 13 i else -1) = -1; rw [if_neg (by omega)]⟩).mono ?_
      rintro rv29 h29 ⟨z29, rfl, hH29, hs29, f29⟩
      show az_X P _ 148 32 ls [.int z29] _ _
      have y0 : ja h18 1 0 * ja h18 1 1 = ja h 1 0 * ja h 1 1 := by rw [jso hs18 (by decide), jso hs18 (by decide)]
      refine jm_istore_n (l' := [(2, .int z29), (0, .ref (P.1 + 0)), (1, .int a)]) rfl rfl (by decide) hl rfl rfl (fun ls32 hl32 => ?_)
      refine jm_aload_n (x := P.1 + 0) rfl rfl (jM_at hl32 1 rfl) ?_
      refine jx_gf (i := 0) rfl rfl hH29 (by decide) (hH29.2 0 _ rfl).1 rfl (jx_rf hH29 rfl rfl) ?_
      refine az_X_call (m' := 142) (as := [.ref (P.1 + 12)]) (rest := []) rfl rfl rfl rfl rfl ?_ ?_
      · unfold si_call
        dsimp only
        rw [if_pos ⟨rfl, rfl⟩]
        show (match si_ix P h29 (P.1 + 12) with | some i => _ | none => none) = _
        rw [jix hH29 (by decide)]
        dsimp only
        rw [(hH29.2 12 _ rfl).1]
        rfl
      refine (tempty_ok hH29).mono ?_
      rintro rv37 h37 ⟨rfl, hH37, hs37, f37⟩
      show az_X P _ 148 40 ls32 [] _ _
      refine jm_iload_n (x := z29) rfl rfl (jM_at hl32 0 rfl) ?_
      refine jx_if (t := 62) rfl rfl rfl (fun hc41 => ?_) (fun hc41 => ?_)
      · have g41 := jc1_lt_t hc41
        refine jm_iload_n (x := z29) rfl rfl (jM_at hl32 0 rfl) ?_
        refine jx_ret rfl rfl rfl ?_
        exact ⟨z29, rfl, hH37, ((hs18.sub (by decide)).tr ((hs29.sub (by decide)).tr (hs37.sub (by decide)))), Or.inl ⟨by omega, f37, by rw [← y0]; exact f29⟩⟩
      · have g41 := jc1_lt_f hc41
        refine jm_aload_n (x := P.1 + 0) rfl rfl (jM_at hl32 1 rfl) ?_
        rcases jn_rf2 (i := 0) (k := 17) hH37 rfl rfl with hv45 | hv45
        · refine jx_gf (i := 0) rfl rfl hH37 (by decide) (hH37.2 0 _ rfl).1 rfl hv45 ?_
          refine jm_astore_n (l' := [(3, .ref (P.1 + 49)), (2, .int z29), (0, .ref (P.1 + 0)), (1, .int a)]) rfl rfl (by decide) hl32 rfl rfl (fun ls48 hl48 => ?_)
          refine jm_aload_n (x := P.1 + 0) rfl rfl (jM_at hl48 2 rfl) ?_
          refine jm_aload_n (x := P.1 + 0) rfl rfl (jM_at hl48 2 rfl) ?_
          rcases jn_rf2 (i := 0) (k := 18) hH37 rfl rfl with hv51 | hv51
          · refine jx_gf (i := 0) rfl rfl hH37 (by decide) (hH37.2 0 _ rfl).1 rfl hv51 ?_
            refine jn_pfr (i := 0) (k := 17) (c := 49) rfl rfl hH37 (by decide) rfl (hH37.2 0 _ rfl).1 rfl rfl (by decide) (fun v => ⟨rfl, rfl⟩) (by decide) (fun h54 hH54 hs54 => ?_)
            refine jm_aload_n (x := P.1 + 0) rfl rfl (jM_at hl48 2 rfl) ?_
            refine jm_aload_n (x := P.1 + 49) rfl rfl (jM_at hl48 0 rfl) ?_
            refine jn_pfr (i := 0) (k := 18) (c := 49) rfl rfl hH54 (by decide) rfl (hH54.2 0 _ rfl).1 rfl rfl (by decide) (fun v => ⟨rfl, rfl⟩) (by decide) (fun h59 hH59 hs59 => ?_)
            refine jm_iload_n (x := z29) rfl rfl (jM_at hl48 1 rfl) ?_
            refine jx_ret rfl rfl rfl ?_
            exact ⟨z29, rfl, hH59, ((hs18.sub (by decide)).tr ((hs29.sub (by decide)).tr ((hs37.sub (by decide)).tr ((hs54.sub (by decide)).tr (hs59.sub (by decide)))))), Or.inl ⟨by omega, ((jso hs59 (by decide)).trans ((jso hs54 (by decide)).trans f37)), by rw [← y0]; exact f29⟩⟩
          · refine jx_gf (i := 0) rfl rfl hH37 (by decide) (hH37.2 0 _ rfl).1 rfl hv51 ?_
            refine jn_pfr (i := 0) (k := 17) (c := 54) rfl rfl hH37 (by decide) rfl (hH37.2 0 _ rfl).1 rfl rfl (by decide) (fun v => ⟨rfl, rfl⟩) (by decide) (fun h54 hH54 hs54 => ?_)
            refine jm_aload_n (x := P.1 + 0) rfl rfl (jM_at hl48 2 rfl) ?_
            refine jm_aload_n (x := P.1 + 49) rfl rfl (jM_at hl48 0 rfl) ?_
            refine jn_pfr (i := 0) (k := 18) (c := 49) rfl rfl hH54 (by decide) rfl (hH54.2 0 _ rfl).1 rfl rfl (by decide) (fun v => ⟨rfl, rfl⟩) (by decide) (fun h59 hH59 hs59 => ?_)
            refine jm_iload_n (x := z29) rfl rfl (jM_at hl48 1 rfl) ?_
            refine jx_ret rfl rfl rfl ?_
            exact ⟨z29, rfl, hH59, ((hs18.sub (by decide)).tr ((hs29.sub (by decide)).tr ((hs37.sub (by decide)).tr ((hs54.sub (by decide)).tr (hs59.sub (by decide)))))), Or.inl ⟨by omega, ((jso hs59 (by decide)).trans ((jso hs54 (by decide)).trans f37)), by rw [← y0]; exact f29⟩⟩
        · refine jx_gf (i := 0) rfl rfl hH37 (by decide) (hH37.2 0 _ rfl).1 rfl hv45 ?_
          refine jm_astore_n (l' := [(3, .ref (P.1 + 54)), (2, .int z29), (0, .ref (P.1 + 0)), (1, .int a)]) rfl rfl (by decide) hl32 rfl rfl (fun ls48 hl48 => ?_)
          refine jm_aload_n (x := P.1 + 0) rfl rfl (jM_at hl48 2 rfl) ?_
          refine jm_aload_n (x := P.1 + 0) rfl rfl (jM_at hl48 2 rfl) ?_
          rcases jn_rf2 (i := 0) (k := 18) hH37 rfl rfl with hv51 | hv51
          · refine jx_gf (i := 0) rfl rfl hH37 (by decide) (hH37.2 0 _ rfl).1 rfl hv51 ?_
            refine jn_pfr (i := 0) (k := 17) (c := 49) rfl rfl hH37 (by decide) rfl (hH37.2 0 _ rfl).1 rfl rfl (by decide) (fun v => ⟨rfl, rfl⟩) (by decide) (fun h54 hH54 hs54 => ?_)
            refine jm_aload_n (x := P.1 + 0) rfl rfl (jM_at hl48 2 rfl) ?_
            refine jm_aload_n (x := P.1 + 54) rfl rfl (jM_at hl48 0 rfl) ?_
            refine jn_pfr (i := 0) (k := 18) (c := 54) rfl rfl hH54 (by decide) rfl (hH54.2 0 _ rfl).1 rfl rfl (by decide) (fun v => ⟨rfl, rfl⟩) (by decide) (fun h59 hH59 hs59 => ?_)
            refine jm_iload_n (x := z29) rfl rfl (jM_at hl48 1 rfl) ?_
            refine jx_ret rfl rfl rfl ?_
            exact ⟨z29, rfl, hH59, ((hs18.sub (by decide)).tr ((hs29.sub (by decide)).tr ((hs37.sub (by decide)).tr ((hs54.sub (by decide)).tr (hs59.sub (by decide)))))), Or.inl ⟨by omega, ((jso hs59 (by decide)).trans ((jso hs54 (by decide)).trans f37)), by rw [← y0]; exact f29⟩⟩
          · refine jx_gf (i := 0) rfl rfl hH37 (by decide) (hH37.2 0 _ rfl).1 rfl hv51 ?_
            refine jn_pfr (i := 0) (k := 17) (c := 54) rfl rfl hH37 (by decide) rfl (hH37.2 0 _ rfl).1 rfl rfl (by decide) (fun v => ⟨rfl, rfl⟩) (by decide) (fun h54 hH54 hs54 => ?_)
            refine jm_aload_n (x := P.1 + 0) rfl rfl (jM_at hl48 2 rfl) ?_
            refine jm_aload_n (x := P.1 + 54) rfl rfl (jM_at hl48 0 rfl) ?_
            refine jn_pfr (i := 0) (k := 18) (c := 54) rfl rfl hH54 (by decide) rfl (hH54.2 0 _ rfl).1 rfl rfl (by decide) (fun v => ⟨rfl, rfl⟩) (by decide) (fun h59 hH59 hs59 => ?_)
            refine jm_iload_n (x := z29) rfl rfl (jM_at hl48 1 rfl) ?_
            refine jx_ret rfl rfl rfl ?_
            exact ⟨z29, rfl, hH59, ((hs18.sub (by decide)).tr ((hs29.sub (by decide)).tr ((hs37.sub (by decide)).tr ((hs54.sub (by decide)).tr (hs59.sub (by decide)))))), Or.inl ⟨by omega, ((jso hs59 (by decide)).trans ((jso hs54 (by decide)).trans f37)), by rw [← y0]; exact f29⟩⟩
    · refine jx_gf (i := 0) rfl rfl hH18 (by decide) (hH18.2 0 _ rfl).1 rfl hv22 ?_
      refine jm_aload_n (x := P.1 + 0) rfl rfl (jM_at hl 0 rfl) ?_
      refine jx_gf (i := 0) rfl rfl hH18 (by decide) (hH18.2 0 _ rfl).1 rfl (jx_rf hH18 rfl rfl) ?_
      refine az_X_call (m' := 31) (as := [.ref (P.1 + 54), .ref (P.1 + 14)]) (rest := []) rfl rfl rfl rfl rfl ?_ ?_
      · unfold si_call
        dsimp only
        rw [if_pos ⟨rfl, rfl⟩]
        show (match si_ix P h18 (P.1 + 54) with | some i => _ | none => none) = _
        rw [jix hH18 (by decide)]
        dsimp only
        rw [(hH18.2 54 _ rfl).1]
        rfl
      refine (rdb_ok (d := d) hxa hH18 (n := a.toInt) (hh := (fun i : Int => if 0 ≤ i ∧ i < a.toInt then ja h 13 i else -1)) (by omega) (fun i => by
        show (if 0 ≤ i ∧ i < a.toInt then ja h 13 i else -1) ≤ 255
        split
        · rename_i q
          have := b13 i q.1 (by omega)
          omega
        · omega) f18.1 f18.2.1 f18.2.2 ⟨fun i i0 i1 => by rw [jso_row (i := 13) hs18 (by decide)]; show ja h 13 i = if 0 ≤ i ∧ i < a.toInt then ja h 13 i else -1; rw [if_pos ⟨i0, i1⟩], fun i i1 => by show (if 0 ≤ i ∧ i < a.toInt then ja h 13 i else -1) = -1; rw [if_neg (by omega)]⟩).mono ?_
      rintro rv29 h29 ⟨z29, rfl, hH29, hs29, f29⟩
      show az_X P _ 148 32 ls [.int z29] _ _
      have y0 : ja h18 1 0 * ja h18 1 1 = ja h 1 0 * ja h 1 1 := by rw [jso hs18 (by decide), jso hs18 (by decide)]
      refine jm_istore_n (l' := [(2, .int z29), (0, .ref (P.1 + 0)), (1, .int a)]) rfl rfl (by decide) hl rfl rfl (fun ls32 hl32 => ?_)
      refine jm_aload_n (x := P.1 + 0) rfl rfl (jM_at hl32 1 rfl) ?_
      refine jx_gf (i := 0) rfl rfl hH29 (by decide) (hH29.2 0 _ rfl).1 rfl (jx_rf hH29 rfl rfl) ?_
      refine az_X_call (m' := 142) (as := [.ref (P.1 + 12)]) (rest := []) rfl rfl rfl rfl rfl ?_ ?_
      · unfold si_call
        dsimp only
        rw [if_pos ⟨rfl, rfl⟩]
        show (match si_ix P h29 (P.1 + 12) with | some i => _ | none => none) = _
        rw [jix hH29 (by decide)]
        dsimp only
        rw [(hH29.2 12 _ rfl).1]
        rfl
      refine (tempty_ok hH29).mono ?_
      rintro rv37 h37 ⟨rfl, hH37, hs37, f37⟩
      show az_X P _ 148 40 ls32 [] _ _
      refine jm_iload_n (x := z29) rfl rfl (jM_at hl32 0 rfl) ?_
      refine jx_if (t := 62) rfl rfl rfl (fun hc41 => ?_) (fun hc41 => ?_)
      · have g41 := jc1_lt_t hc41
        refine jm_iload_n (x := z29) rfl rfl (jM_at hl32 0 rfl) ?_
        refine jx_ret rfl rfl rfl ?_
        exact ⟨z29, rfl, hH37, ((hs18.sub (by decide)).tr ((hs29.sub (by decide)).tr (hs37.sub (by decide)))), Or.inl ⟨by omega, f37, by rw [← y0]; exact f29⟩⟩
      · have g41 := jc1_lt_f hc41
        refine jm_aload_n (x := P.1 + 0) rfl rfl (jM_at hl32 1 rfl) ?_
        rcases jn_rf2 (i := 0) (k := 17) hH37 rfl rfl with hv45 | hv45
        · refine jx_gf (i := 0) rfl rfl hH37 (by decide) (hH37.2 0 _ rfl).1 rfl hv45 ?_
          refine jm_astore_n (l' := [(3, .ref (P.1 + 49)), (2, .int z29), (0, .ref (P.1 + 0)), (1, .int a)]) rfl rfl (by decide) hl32 rfl rfl (fun ls48 hl48 => ?_)
          refine jm_aload_n (x := P.1 + 0) rfl rfl (jM_at hl48 2 rfl) ?_
          refine jm_aload_n (x := P.1 + 0) rfl rfl (jM_at hl48 2 rfl) ?_
          rcases jn_rf2 (i := 0) (k := 18) hH37 rfl rfl with hv51 | hv51
          · refine jx_gf (i := 0) rfl rfl hH37 (by decide) (hH37.2 0 _ rfl).1 rfl hv51 ?_
            refine jn_pfr (i := 0) (k := 17) (c := 49) rfl rfl hH37 (by decide) rfl (hH37.2 0 _ rfl).1 rfl rfl (by decide) (fun v => ⟨rfl, rfl⟩) (by decide) (fun h54 hH54 hs54 => ?_)
            refine jm_aload_n (x := P.1 + 0) rfl rfl (jM_at hl48 2 rfl) ?_
            refine jm_aload_n (x := P.1 + 49) rfl rfl (jM_at hl48 0 rfl) ?_
            refine jn_pfr (i := 0) (k := 18) (c := 49) rfl rfl hH54 (by decide) rfl (hH54.2 0 _ rfl).1 rfl rfl (by decide) (fun v => ⟨rfl, rfl⟩) (by decide) (fun h59 hH59 hs59 => ?_)
            refine jm_iload_n (x := z29) rfl rfl (jM_at hl48 1 rfl) ?_
            refine jx_ret rfl rfl rfl ?_
            exact ⟨z29, rfl, hH59, ((hs18.sub (by decide)).tr ((hs29.sub (by decide)).tr ((hs37.sub (by decide)).tr ((hs54.sub (by decide)).tr (hs59.sub (by decide)))))), Or.inl ⟨by omega, ((jso hs59 (by decide)).trans ((jso hs54 (by decide)).trans f37)), by rw [← y0]; exact f29⟩⟩
          · refine jx_gf (i := 0) rfl rfl hH37 (by decide) (hH37.2 0 _ rfl).1 rfl hv51 ?_
            refine jn_pfr (i := 0) (k := 17) (c := 54) rfl rfl hH37 (by decide) rfl (hH37.2 0 _ rfl).1 rfl rfl (by decide) (fun v => ⟨rfl, rfl⟩) (by decide) (fun h54 hH54 hs54 => ?_)
            refine jm_aload_n (x := P.1 + 0) rfl rfl (jM_at hl48 2 rfl) ?_
            refine jm_aload_n (x := P.1 + 49) rfl rfl (jM_at hl48 0 rfl) ?_
            refine jn_pfr (i := 0) (k := 18) (c := 49) rfl rfl hH54 (by decide) rfl (hH54.2 0 _ rfl).1 rfl rfl (by decide) (fun v => ⟨rfl, rfl⟩) (by decide) (fun h59 hH59 hs59 => ?_)
            refine jm_iload_n (x := z29) rfl rfl (jM_at hl48 1 rfl) ?_
            refine jx_ret rfl rfl rfl ?_
            exact ⟨z29, rfl, hH59, ((hs18.sub (by decide)).tr ((hs29.sub (by decide)).tr ((hs37.sub (by decide)).tr ((hs54.sub (by decide)).tr (hs59.sub (by decide)))))), Or.inl ⟨by omega, ((jso hs59 (by decide)).trans ((jso hs54 (by decide)).trans f37)), by rw [← y0]; exact f29⟩⟩
        · refine jx_gf (i := 0) rfl rfl hH37 (by decide) (hH37.2 0 _ rfl).1 rfl hv45 ?_
          refine jm_astore_n (l' := [(3, .ref (P.1 + 54)), (2, .int z29), (0, .ref (P.1 + 0)), (1, .int a)]) rfl rfl (by decide) hl32 rfl rfl (fun ls48 hl48 => ?_)
          refine jm_aload_n (x := P.1 + 0) rfl rfl (jM_at hl48 2 rfl) ?_
          refine jm_aload_n (x := P.1 + 0) rfl rfl (jM_at hl48 2 rfl) ?_
          rcases jn_rf2 (i := 0) (k := 18) hH37 rfl rfl with hv51 | hv51
          · refine jx_gf (i := 0) rfl rfl hH37 (by decide) (hH37.2 0 _ rfl).1 rfl hv51 ?_
            refine jn_pfr (i := 0) (k := 17) (c := 49) rfl rfl hH37 (by decide) rfl (hH37.2 0 _ rfl).1 rfl rfl (by decide) (fun v => ⟨rfl, rfl⟩) (by decide) (fun h54 hH54 hs54 => ?_)
            refine jm_aload_n (x := P.1 + 0) rfl rfl (jM_at hl48 2 rfl) ?_
            refine jm_aload_n (x := P.1 + 54) rfl rfl (jM_at hl48 0 rfl) ?_
            refine jn_pfr (i := 0) (k := 18) (c := 54) rfl rfl hH54 (by decide) rfl (hH54.2 0 _ rfl).1 rfl rfl (by decide) (fun v => ⟨rfl, rfl⟩) (by decide) (fun h59 hH59 hs59 => ?_)
            refine jm_iload_n (x := z29) rfl rfl (jM_at hl48 1 rfl) ?_
            refine jx_ret rfl rfl rfl ?_
            exact ⟨z29, rfl, hH59, ((hs18.sub (by decide)).tr ((hs29.sub (by decide)).tr ((hs37.sub (by decide)).tr ((hs54.sub (by decide)).tr (hs59.sub (by decide)))))), Or.inl ⟨by omega, ((jso hs59 (by decide)).trans ((jso hs54 (by decide)).trans f37)), by rw [← y0]; exact f29⟩⟩
          · refine jx_gf (i := 0) rfl rfl hH37 (by decide) (hH37.2 0 _ rfl).1 rfl hv51 ?_
            refine jn_pfr (i := 0) (k := 17) (c := 54) rfl rfl hH37 (by decide) rfl (hH37.2 0 _ rfl).1 rfl rfl (by decide) (fun v => ⟨rfl, rfl⟩) (by decide) (fun h54 hH54 hs54 => ?_)
            refine jm_aload_n (x := P.1 + 0) rfl rfl (jM_at hl48 2 rfl) ?_
            refine jm_aload_n (x := P.1 + 54) rfl rfl (jM_at hl48 0 rfl) ?_
            refine jn_pfr (i := 0) (k := 18) (c := 54) rfl rfl hH54 (by decide) rfl (hH54.2 0 _ rfl).1 rfl rfl (by decide) (fun v => ⟨rfl, rfl⟩) (by decide) (fun h59 hH59 hs59 => ?_)
            refine jm_iload_n (x := z29) rfl rfl (jM_at hl48 1 rfl) ?_
            refine jx_ret rfl rfl rfl ?_
            exact ⟨z29, rfl, hH59, ((hs18.sub (by decide)).tr ((hs29.sub (by decide)).tr ((hs37.sub (by decide)).tr ((hs54.sub (by decide)).tr (hs59.sub (by decide)))))), Or.inl ⟨by omega, ((jso hs59 (by decide)).trans ((jso hs54 (by decide)).trans f37)), by rw [← y0]; exact f29⟩⟩
  · have g8 := jc1_ne_f hc8
    refine az_X_step (pc' := 12) (ls' := ls) (st' := [.int (-1)]) (h' := h) rfl rfl rfl ?_
    refine jx_ret rfl rfl rfl ?_
    exact ⟨(-1), rfl, hH, az_same_out.rf, Or.inr ⟨by omega, rfl, by decide⟩⟩
