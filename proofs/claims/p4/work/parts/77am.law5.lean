set_option maxRecDepth 100000
section Js
variable {P : si_P} {d mi pc : Nat} {y : si_M} {ls : si_L} {st : List Value} {h : si_H} {Q : Option Value → si_H → Prop} {q : Nat × Nat × Nat × Nat}
theorem jn_tsk {dd lo hi off : Int} {offs : Array Int} {t : Nat} {x : Int32} (hy : si_m mi = some y) (he : si_fetch mi pc = some (.tableswitch dd lo hi offs, q)) (h1 : ¬ (x.toInt < lo ∨ hi < x.toInt)) (h2 : offs[(x.toInt - lo).toNat]? = some off) (ht : si_tgt pc off = some t) (kk : az_X P d mi t ls st h Q) : az_X P d mi pc ls (.int x :: st) h Q := by
  refine az_X_step (pc' := t) (ls' := ls) (st' := st) (h' := h) hy he ?_ kk
  unfold si_step
  dsimp only
  rw [if_neg h1, h2]
  dsimp only
  rw [ht]
theorem jn_tsd {dd lo hi : Int} {offs : Array Int} {t : Nat} {x : Int32} (hy : si_m mi = some y) (he : si_fetch mi pc = some (.tableswitch dd lo hi offs, q)) (h1 : x.toInt < lo ∨ hi < x.toInt) (ht : si_tgt pc dd = some t) (kk : az_X P d mi t ls st h Q) : az_X P d mi pc ls (.int x :: st) h Q := by
  refine az_X_step (pc' := t) (ls' := ls) (st' := st) (h' := h) hy he ?_ kk
  unfold si_step
  dsimp only
  rw [if_pos h1, ht]
end Js
theorem fo2_ok {P : si_P} {d : Nat} {h : si_H} (x : Int32) : az_X P d 248 0 (lv_args 0 [.int x]) [] h (fun rv h' => h' = h ∧ ∃ z : Int32, rv = some (.int z) ∧ ((pyfa x.toInt ∧ 0 ≤ z.toInt ∧ z.toInt ≤ 7) ∨ (¬ pyfa x.toInt ∧ z.toInt = -1))) := by
  have hl : jM [(0, .int x)] (lv_args 0 [.int x]) := jM_args [0] rfl (by decide)
  generalize lv_args 0 [.int x] = ls at hl
  refine jm_iload_n (x := x) rfl rfl (jM_at hl 0 rfl) ?_
  rcases (by omega : (x.toInt < 97 ∨ 119 < x.toInt) ∨ x.toInt = 97 ∨ x.toInt = 98 ∨ x.toInt = 99 ∨ x.toInt = 100 ∨ x.toInt = 101 ∨ x.toInt = 102 ∨ x.toInt = 103 ∨ x.toInt = 104 ∨ x.toInt = 105 ∨ x.toInt = 106 ∨ x.toInt = 107 ∨ x.toInt = 108 ∨ x.toInt = 109 ∨ x.toInt = 110 ∨ x.toInt = 111 ∨ x.toInt = 112 ∨ x.toInt = 113 ∨ x.toInt = 114 ∨ x.toInt = 115 ∨ x.toInt = 116 ∨ x.toInt = 117 ∨ x.toInt = 118 ∨ x.toInt = 119) with hw | hw | hw | hw | hw | hw | hw | hw | hw | hw | hw | hw | hw | hw | hw | hw | hw | hw | hw | hw | hw | hw | hw | hw
  · refine jn_tsd (t := 126) rfl rfl hw rfl ?_
    have km1 : ((-1) : Int32).toInt = (-1) := by decide
    refine az_X_step (pc' := 127) (ls' := ls) (st' := [.int (-1)]) (h' := h) rfl rfl rfl ?_
    refine jx_ret rfl rfl rfl ?_
    exact ⟨rfl, (-1), rfl, by omega⟩
  · refine jn_tsk (t := 110) rfl rfl (by omega) (by rw [show (x.toInt - 97).toNat = 0 by omega]; rfl) rfl ?_
    have k1 : (1 : Int32).toInt = 1 := by decide
    refine az_X_step (pc' := 111) (ls' := ls) (st' := [.int 1]) (h' := h) rfl rfl rfl ?_
    refine jx_ret rfl rfl rfl ?_
    exact ⟨rfl, 1, rfl, by omega⟩
  · refine jn_tsk (t := 126) rfl rfl (by omega) (by rw [show (x.toInt - 97).toNat = 1 by omega]; rfl) rfl ?_
    have km1 : ((-1) : Int32).toInt = (-1) := by decide
    refine az_X_step (pc' := 127) (ls' := ls) (st' := [.int (-1)]) (h' := h) rfl rfl rfl ?_
    refine jx_ret rfl rfl rfl ?_
    exact ⟨rfl, (-1), rfl, by omega⟩
  · refine jn_tsk (t := 108) rfl rfl (by omega) (by rw [show (x.toInt - 97).toNat = 2 by omega]; rfl) rfl ?_
    have k0 : (0 : Int32).toInt = 0 := by decide
    refine az_X_step (pc' := 109) (ls' := ls) (st' := [.int 0]) (h' := h) rfl rfl rfl ?_
    refine jx_ret rfl rfl rfl ?_
    exact ⟨rfl, 0, rfl, by omega⟩
  · refine jn_tsk (t := 126) rfl rfl (by omega) (by rw [show (x.toInt - 97).toNat = 3 by omega]; rfl) rfl ?_
    have km1 : ((-1) : Int32).toInt = (-1) := by decide
    refine az_X_step (pc' := 127) (ls' := ls) (st' := [.int (-1)]) (h' := h) rfl rfl rfl ?_
    refine jx_ret rfl rfl rfl ?_
    exact ⟨rfl, (-1), rfl, by omega⟩
  · refine jn_tsk (t := 126) rfl rfl (by omega) (by rw [show (x.toInt - 97).toNat = 4 by omega]; rfl) rfl ?_
    have km1 : ((-1) : Int32).toInt = (-1) := by decide
    refine az_X_step (pc' := 127) (ls' := ls) (st' := [.int (-1)]) (h' := h) rfl rfl rfl ?_
    refine jx_ret rfl rfl rfl ?_
    exact ⟨rfl, (-1), rfl, by omega⟩
  · refine jn_tsk (t := 126) rfl rfl (by omega) (by rw [show (x.toInt - 97).toNat = 5 by omega]; rfl) rfl ?_
    have km1 : ((-1) : Int32).toInt = (-1) := by decide
    refine az_X_step (pc' := 127) (ls' := ls) (st' := [.int (-1)]) (h' := h) rfl rfl rfl ?_
    refine jx_ret rfl rfl rfl ?_
    exact ⟨rfl, (-1), rfl, by omega⟩
  · refine jn_tsk (t := 126) rfl rfl (by omega) (by rw [show (x.toInt - 97).toNat = 6 by omega]; rfl) rfl ?_
    have km1 : ((-1) : Int32).toInt = (-1) := by decide
    refine az_X_step (pc' := 127) (ls' := ls) (st' := [.int (-1)]) (h' := h) rfl rfl rfl ?_
    refine jx_ret rfl rfl rfl ?_
    exact ⟨rfl, (-1), rfl, by omega⟩
  · refine jn_tsk (t := 126) rfl rfl (by omega) (by rw [show (x.toInt - 97).toNat = 7 by omega]; rfl) rfl ?_
    have km1 : ((-1) : Int32).toInt = (-1) := by decide
    refine az_X_step (pc' := 127) (ls' := ls) (st' := [.int (-1)]) (h' := h) rfl rfl rfl ?_
    refine jx_ret rfl rfl rfl ?_
    exact ⟨rfl, (-1), rfl, by omega⟩
  · refine jn_tsk (t := 126) rfl rfl (by omega) (by rw [show (x.toInt - 97).toNat = 8 by omega]; rfl) rfl ?_
    have km1 : ((-1) : Int32).toInt = (-1) := by decide
    refine az_X_step (pc' := 127) (ls' := ls) (st' := [.int (-1)]) (h' := h) rfl rfl rfl ?_
    refine jx_ret rfl rfl rfl ?_
    exact ⟨rfl, (-1), rfl, by omega⟩
  · refine jn_tsk (t := 126) rfl rfl (by omega) (by rw [show (x.toInt - 97).toNat = 9 by omega]; rfl) rfl ?_
    have km1 : ((-1) : Int32).toInt = (-1) := by decide
    refine az_X_step (pc' := 127) (ls' := ls) (st' := [.int (-1)]) (h' := h) rfl rfl rfl ?_
    refine jx_ret rfl rfl rfl ?_
    exact ⟨rfl, (-1), rfl, by omega⟩
  · refine jn_tsk (t := 114) rfl rfl (by omega) (by rw [show (x.toInt - 97).toNat = 10 by omega]; rfl) rfl ?_
    have k3 : (3 : Int32).toInt = 3 := by decide
    refine az_X_step (pc' := 115) (ls' := ls) (st' := [.int 3]) (h' := h) rfl rfl rfl ?_
    refine jx_ret rfl rfl rfl ?_
    exact ⟨rfl, 3, rfl, by omega⟩
  · refine jn_tsk (t := 126) rfl rfl (by omega) (by rw [show (x.toInt - 97).toNat = 11 by omega]; rfl) rfl ?_
    have km1 : ((-1) : Int32).toInt = (-1) := by decide
    refine az_X_step (pc' := 127) (ls' := ls) (st' := [.int (-1)]) (h' := h) rfl rfl rfl ?_
    refine jx_ret rfl rfl rfl ?_
    exact ⟨rfl, (-1), rfl, by omega⟩
  · refine jn_tsk (t := 126) rfl rfl (by omega) (by rw [show (x.toInt - 97).toNat = 12 by omega]; rfl) rfl ?_
    have km1 : ((-1) : Int32).toInt = (-1) := by decide
    refine az_X_step (pc' := 127) (ls' := ls) (st' := [.int (-1)]) (h' := h) rfl rfl rfl ?_
    refine jx_ret rfl rfl rfl ?_
    exact ⟨rfl, (-1), rfl, by omega⟩
  · refine jn_tsk (t := 116) rfl rfl (by omega) (by rw [show (x.toInt - 97).toNat = 13 by omega]; rfl) rfl ?_
    have k4 : (4 : Int32).toInt = 4 := by decide
    refine az_X_step (pc' := 117) (ls' := ls) (st' := [.int 4]) (h' := h) rfl rfl rfl ?_
    refine jx_ret rfl rfl rfl ?_
    exact ⟨rfl, 4, rfl, by omega⟩
  · refine jn_tsk (t := 118) rfl rfl (by omega) (by rw [show (x.toInt - 97).toNat = 14 by omega]; rfl) rfl ?_
    have k5 : (5 : Int32).toInt = 5 := by decide
    refine az_X_step (pc' := 119) (ls' := ls) (st' := [.int 5]) (h' := h) rfl rfl rfl ?_
    refine jx_ret rfl rfl rfl ?_
    exact ⟨rfl, 5, rfl, by omega⟩
  · refine jn_tsk (t := 126) rfl rfl (by omega) (by rw [show (x.toInt - 97).toNat = 15 by omega]; rfl) rfl ?_
    have km1 : ((-1) : Int32).toInt = (-1) := by decide
    refine az_X_step (pc' := 127) (ls' := ls) (st' := [.int (-1)]) (h' := h) rfl rfl rfl ?_
    refine jx_ret rfl rfl rfl ?_
    exact ⟨rfl, (-1), rfl, by omega⟩
  · refine jn_tsk (t := 126) rfl rfl (by omega) (by rw [show (x.toInt - 97).toNat = 16 by omega]; rfl) rfl ?_
    have km1 : ((-1) : Int32).toInt = (-1) := by decide
    refine az_X_step (pc' := 127) (ls' := ls) (st' := [.int (-1)]) (h' := h) rfl rfl rfl ?_
    refine jx_ret rfl rfl rfl ?_
    exact ⟨rfl, (-1), rfl, by omega⟩
  · refine jn_tsk (t := 126) rfl rfl (by omega) (by rw [show (x.toInt - 97).toNat = 17 by omega]; rfl) rfl ?_
    have km1 : ((-1) : Int32).toInt = (-1) := by decide
    refine az_X_step (pc' := 127) (ls' := ls) (st' := [.int (-1)]) (h' := h) rfl rfl rfl ?_
    refine jx_ret rfl rfl rfl ?_
    exact ⟨rfl, (-1), rfl, by omega⟩
  · refine jn_tsk (t := 126) rfl rfl (by omega) (by rw [show (x.toInt - 97).toNat = 18 by omega]; rfl) rfl ?_
    have km1 : ((-1) : Int32).toInt = (-1) := by decide
    refine az_X_step (pc' := 127) (ls' := ls) (st' := [.int (-1)]) (h' := h) rfl rfl rfl ?_
    refine jx_ret rfl rfl rfl ?_
    exact ⟨rfl, (-1), rfl, by omega⟩
  · refine jn_tsk (t := 120) rfl rfl (by omega) (by rw [show (x.toInt - 97).toNat = 19 by omega]; rfl) rfl ?_
    have k6 : (6 : Int32).toInt = 6 := by decide
    refine az_X_step (pc' := 122) (ls' := ls) (st' := [.int 6]) (h' := h) rfl rfl rfl ?_
    refine jx_ret rfl rfl rfl ?_
    exact ⟨rfl, 6, rfl, by omega⟩
  · refine jn_tsk (t := 126) rfl rfl (by omega) (by rw [show (x.toInt - 97).toNat = 20 by omega]; rfl) rfl ?_
    have km1 : ((-1) : Int32).toInt = (-1) := by decide
    refine az_X_step (pc' := 127) (ls' := ls) (st' := [.int (-1)]) (h' := h) rfl rfl rfl ?_
    refine jx_ret rfl rfl rfl ?_
    exact ⟨rfl, (-1), rfl, by omega⟩
  · refine jn_tsk (t := 112) rfl rfl (by omega) (by rw [show (x.toInt - 97).toNat = 21 by omega]; rfl) rfl ?_
    have k2 : (2 : Int32).toInt = 2 := by decide
    refine az_X_step (pc' := 113) (ls' := ls) (st' := [.int 2]) (h' := h) rfl rfl rfl ?_
    refine jx_ret rfl rfl rfl ?_
    exact ⟨rfl, 2, rfl, by omega⟩
  · refine jn_tsk (t := 123) rfl rfl (by omega) (by rw [show (x.toInt - 97).toNat = 22 by omega]; rfl) rfl ?_
    have k7 : (7 : Int32).toInt = 7 := by decide
    refine az_X_step (pc' := 125) (ls' := ls) (st' := [.int 7]) (h' := h) rfl rfl rfl ?_
    refine jx_ret rfl rfl rfl ?_
    exact ⟨rfl, 7, rfl, by omega⟩
theorem rn_l {P : si_P} {d : Nat} {h0 : si_H} {n p : Int} {hh : Int → Int} (hn : 1 ≤ n ∧ n ≤ 240) (B : Int32) (hB : B.toInt = p) (hp : 0 ≤ p ∧ p ≤ 240) (hh1 : ∀ i : Int, hh i ≤ 255) (d0 : jdg hh p) : ∀ (k j : Nat) (h : si_H) (ls : si_L), jM [(1, .int B), (0, .ref (P.1 + 60))] ls → az_HI P az_tb h → az_same_out [(60, 17), (60, 19), (60, 20)] h0 h → ja h 60 18 = n → ja h 60 17 = p + j → ja h 60 20 = jva hh p j → jBR h n hh → j + k = 5 → (∀ i : Nat, i < j → jdg hh (p + i)) → az_X P (d + 2) 244 10 ls [] h (fun rv h' => ∃ z : Int32, rv = some (.int z) ∧ az_HI P az_tb h' ∧ az_same_out [(60, 17), (60, 19), (60, 20)] h0 h' ∧ ∃ f q v : Int, jAN hh p 5 f q v ∧ ((f = 0 ∧ z.toInt = 1 ∧ ja h' 60 17 = q) ∨ (f ≠ 0 ∧ z.toInt = 0 ∧ ja h' 60 19 = f))) := by
  intro k
  induction k with
  | zero =>
    intro j h ls hl hH hs e8 e7 e20 hb hj hg
    have bp : 0 ≤ ja h 60 17 ∧ ja h 60 17 ≤ 240 := ja_bd hH (i := 60) (k := 17) rfl
    have jv := jva_bd j hg
    have jn := (jnin_bd (k := j)).1 (by omega)
    have k0 : (0 : Int32).toInt = 0 := by decide
    have k1 : (1 : Int32).toInt = 1 := by decide
    have k2 : (2 : Int32).toInt = 2 := by decide
    have k5 : (5 : Int32).toInt = 5 := by decide
    refine jm_aload_n (x := P.1 + 60) rfl rfl (jM_at hl 1 rfl) ?_
    refine az_X_call (m' := 241) (as := [.ref (P.1 + 60)]) (rest := []) rfl rfl rfl rfl rfl ?_ ?_
    · unfold si_call
      dsimp only
      rw [if_pos ⟨rfl, rfl⟩]
      show (match si_ix P h (P.1 + 60) with | some i => _ | none => none) = _
      rw [jix hH (by decide)]
      dsimp only
      rw [(hH.2 60 _ rfl).1]
      rfl
    refine (rd_ok hH hn e8 e7 hb).mono ?_
    rintro rv11 h11 ⟨q11, z11, rfl, ez11⟩
    subst h11
    show az_X P _ 244 14 ls [.int z11] _ _
    refine jx_if (t := 69) rfl rfl rfl (fun hc14 => ?_) (fun hc14 => ?_)
    · have g14 := jc1_eq_t hc14
      refine az_X_step (pc' := 70) (ls' := ls) (st' := [.int 1]) (h' := h) rfl rfl rfl ?_
      refine jx_retz rfl rfl rfl (by decide) ?_
      have nd : ¬ jdg hh (p + j) := by
        rcases ez11 with ⟨q, -⟩ | ⟨-, q⟩
        · exact absurd g14 (by omega)
        · exact q
      have j1 : 1 ≤ j := by
        rcases Nat.eq_zero_or_pos j with c | c
        · rw [c, show p + ((0 : Nat) : Int) = p by omega] at nd
          exact absurd d0 nd
        · exact c
      exact ⟨1, rfl, hH, hs, 0, p + j, jva hh p j, Or.inr (Or.inl ⟨j, j1, by omega, hg, nd, rfl, rfl, rfl⟩), Or.inl ⟨rfl, by decide, e7⟩⟩
    · have g14 := jc1_eq_f hc14
      refine jm_aload_n (x := P.1 + 60) rfl rfl (jM_at hl 1 rfl) ?_
      refine jn_gf (i := 60) (k := 17) rfl rfl hH (by decide) (hH.2 60 _ rfl).1 rfl rfl (fun z18 (ez18 : z18.toInt = ja h 60 17) (bz18 : 0 ≤ z18.toInt ∧ z18.toInt ≤ 240) => ?_)
      refine jm_iload_n (x := B) rfl rfl (jM_at hl 0 rfl) ?_
      refine az_X_step (pc' := 23) (ls' := ls) (st' := [.int 5, .int B, .int z18]) (h' := h) rfl rfl rfl ?_
      refine jn_add (a := B) (b := 5) rfl rfl (by omega) (by omega) (fun z23 ez23 => ?_)
      rw [show (5 : Int32).toInt = 5 by decide] at ez23
      refine jx_ic (t := 37) rfl rfl rfl (fun hc24 => ?_) (fun hc24 => ?_)
      · have g24 := jc2_ne_t hc24
        exfalso
        omega
      · have g24 := jc2_ne_f hc24
        refine jm_aload_n (x := P.1 + 60) rfl rfl (jM_at hl 1 rfl) ?_
        refine az_X_step (pc' := 29) (ls' := ls) (st' := [.int 2, .ref (P.1 + 60)]) (h' := h) rfl rfl rfl ?_
        refine jm_aload_n (x := P.1 + 60) rfl rfl (jM_at hl 1 rfl) ?_
        refine jn_gf (i := 60) (k := 17) rfl rfl hH (by decide) (hH.2 60 _ rfl).1 rfl rfl (fun z30 (ez30 : z30.toInt = ja h 60 17) (bz30 : 0 ≤ z30.toInt ∧ z30.toInt ≤ 240) => ?_)
        refine az_X_call (m' := 242) (as := [.ref (P.1 + 60), .int 2, .int z30]) (rest := []) rfl rfl rfl rfl rfl ?_ ?_
        · unfold si_call
          dsimp only
          rw [if_pos ⟨rfl, rfl⟩]
          show (match si_ix P h (P.1 + 60) with | some i => _ | none => none) = _
          rw [jix hH (by decide)]
          dsimp only
          rw [(hH.2 60 _ rfl).1]
          rfl
        refine (rw_ok hH 2 z30 (by decide) (by omega)).mono ?_
        rintro rv33 h33 ⟨z33, rfl, hH33, hs33, f33⟩
        show az_X P _ 244 36 ls [.int z33] _ _
        refine jx_retz rfl rfl rfl (jbz (by omega)) ?_
        have dj : jdg hh (p + j) := by
          rcases ez11 with ⟨-, q⟩ | ⟨q, -⟩
          · exact q
          · exact absurd q g14
        refine ⟨z33, rfl, hH33, hs.tr (hs33.sub (by decide)), -2000 - (p + (5 : Nat)), 0, 0, Or.inr (Or.inr ⟨fun i hi => ?_, rfl⟩), Or.inr ⟨by omega, f33.1, f33.2.trans (by omega)⟩⟩
        rcases Nat.lt_or_ge i j with c | c
        · exact hg i c
        · rw [show i = j by omega]; exact dj
  | succ k ih =>
    intro j h ls hl hH hs e8 e7 e20 hb hj hg
    have bp : 0 ≤ ja h 60 17 ∧ ja h 60 17 ≤ 240 := ja_bd hH (i := 60) (k := 17) rfl
    have jv := jva_bd j hg
    have jn := (jnin_bd (k := j)).1 (by omega)
    have jn4 := (jnin_bd (k := j)).2.1 (by omega)
    have k0 : (0 : Int32).toInt = 0 := by decide
    have k1 : (1 : Int32).toInt = 1 := by decide
    have k2 : (2 : Int32).toInt = 2 := by decide
    have k5 : (5 : Int32).toInt = 5 := by decide
    have k10 : (10 : Int32).toInt = 10 := by decide
    have k48 : (48 : Int32).toInt = 48 := by decide
    refine jm_aload_n (x := P.1 + 60) rfl rfl (jM_at hl 1 rfl) ?_
    refine az_X_call (m' := 241) (as := [.ref (P.1 + 60)]) (rest := []) rfl rfl rfl rfl rfl ?_ ?_
    · unfold si_call
      dsimp only
      rw [if_pos ⟨rfl, rfl⟩]
      show (match si_ix P h (P.1 + 60) with | some i => _ | none => none) = _
      rw [jix hH (by decide)]
      dsimp only
      rw [(hH.2 60 _ rfl).1]
      rfl
    refine (rd_ok hH hn e8 e7 hb).mono ?_
    rintro rv11 h11 ⟨q11, z11, rfl, ez11⟩
    subst h11
    show az_X P _ 244 14 ls [.int z11] _ _
    refine jx_if (t := 69) rfl rfl rfl (fun hc14 => ?_) (fun hc14 => ?_)
    · have g14 := jc1_eq_t hc14
      refine az_X_step (pc' := 70) (ls' := ls) (st' := [.int 1]) (h' := h) rfl rfl rfl ?_
      refine jx_retz rfl rfl rfl (by decide) ?_
      have nd : ¬ jdg hh (p + j) := by
        rcases ez11 with ⟨q, -⟩ | ⟨-, q⟩
        · exact absurd g14 (by omega)
        · exact q
      have j1 : 1 ≤ j := by
        rcases Nat.eq_zero_or_pos j with c | c
        · rw [c, show p + ((0 : Nat) : Int) = p by omega] at nd
          exact absurd d0 nd
        · exact c
      exact ⟨1, rfl, hH, hs, 0, p + j, jva hh p j, Or.inr (Or.inl ⟨j, j1, by omega, hg, nd, rfl, rfl, rfl⟩), Or.inl ⟨rfl, by decide, e7⟩⟩
    · have g14 := jc1_eq_f hc14
      refine jm_aload_n (x := P.1 + 60) rfl rfl (jM_at hl 1 rfl) ?_
      refine jn_gf (i := 60) (k := 17) rfl rfl hH (by decide) (hH.2 60 _ rfl).1 rfl rfl (fun z18 (ez18 : z18.toInt = ja h 60 17) (bz18 : 0 ≤ z18.toInt ∧ z18.toInt ≤ 240) => ?_)
      refine jm_iload_n (x := B) rfl rfl (jM_at hl 0 rfl) ?_
      refine az_X_step (pc' := 23) (ls' := ls) (st' := [.int 5, .int B, .int z18]) (h' := h) rfl rfl rfl ?_
      refine jn_add (a := B) (b := 5) rfl rfl (by omega) (by omega) (fun z23 ez23 => ?_)
      rw [show (5 : Int32).toInt = 5 by decide] at ez23
      refine jx_ic (t := 37) rfl rfl rfl (fun hc24 => ?_) (fun hc24 => ?_)
      · have g24 := jc2_ne_t hc24
        have dj : jdg hh (p + j) := by
          rcases ez11 with ⟨-, q⟩ | ⟨q, -⟩
          · exact q
          · exact absurd q g14
        have dj2 : 48 ≤ hh (p + j) ∧ hh (p + j) ≤ 57 := dj
        have hpn := jBR_lt hb (p := p + (j : Int)) (by omega)
        refine jm_aload_n (x := P.1 + 60) rfl rfl (jM_at hl 1 rfl) ?_
        refine az_X_step (pc' := 40) (ls' := ls) (st' := [.int 10, .ref (P.1 + 60)]) (h' := h) rfl rfl rfl ?_
        refine jm_aload_n (x := P.1 + 60) rfl rfl (jM_at hl 1 rfl) ?_
        refine jn_gf (i := 60) (k := 20) rfl rfl hH (by decide) (hH.2 60 _ rfl).1 rfl rfl (fun z41 (ez41 : z41.toInt = ja h 60 20) (bz41 : 0 ≤ z41.toInt ∧ z41.toInt ≤ 99999) => ?_)
        refine jn_mul (a := 10) (b := z41) rfl rfl (by rw [show (10 : Int32).toInt = 10 by decide]; omega) (by rw [show (10 : Int32).toInt = 10 by decide]; omega) (fun z44 ez44 => ?_)
        rw [show (10 : Int32).toInt = 10 by decide] at ez44
        refine jm_aload_n (x := P.1 + 60) rfl rfl (jM_at hl 1 rfl) ?_
        refine az_X_call (m' := 240) (as := [.ref (P.1 + 60)]) (rest := [.int z44, .ref (P.1 + 60)]) rfl rfl rfl rfl rfl ?_ ?_
        · unfold si_call
          dsimp only
          rw [if_pos ⟨rfl, rfl⟩]
          show (match si_ix P h (P.1 + 60) with | some i => _ | none => none) = _
          rw [jix hH (by decide)]
          dsimp only
          rw [(hH.2 60 _ rfl).1]
          rfl
        refine (rh_ok hH hn e8 e7 hb).mono ?_
        rintro rv46 h46 ⟨q46, z46, rfl, ez46⟩
        subst h46
        show az_X P _ 244 49 ls [.int z46, .int z44, .ref (P.1 + 60)] _ _
        refine jn_add (a := z44) (b := z46) rfl rfl (by omega) (by omega) (fun z49 ez49 => ?_)
        refine az_X_step (pc' := 52) (ls' := ls) (st' := [.int 48, .int z49, .ref (P.1 + 60)]) (h' := h) rfl rfl rfl ?_
        refine jn_sub (a := z49) (b := 48) rfl rfl (by omega) (by omega) (fun z52 ez52 => ?_)
        rw [show (48 : Int32).toInt = 48 by decide] at ez52
        refine jn_pf (i := 60) (k := 20) (x := z52) rfl rfl hH (by decide) rfl (hH.2 60 _ rfl).1 rfl rfl (by decide) (by decide) (by show 0 ≤ _; omega) (by show _ ≤ 99999; omega) (fun h53 hH53 hs53 (t53 : ja h53 60 20 = z52.toInt) => ?_)
        refine jm_aload_n (x := P.1 + 60) rfl rfl (jM_at hl 1 rfl) ?_
        refine jm_aload_n (x := P.1 + 60) rfl rfl (jM_at hl 1 rfl) ?_
        refine jn_gf (i := 60) (k := 17) rfl rfl hH53 (by decide) (hH53.2 60 _ rfl).1 rfl rfl (fun z58 (ez58 : z58.toInt = ja h53 60 17) (bz58 : 0 ≤ z58.toInt ∧ z58.toInt ≤ 240) => ?_)
        replace ez58 : z58.toInt = ja h 60 17 := ez58.trans (jso hs53 (by decide))
        refine az_X_step (pc' := 62) (ls' := ls) (st' := [.int 1, .int z58, .ref (P.1 + 60)]) (h' := h53) rfl rfl rfl ?_
        refine jn_add (a := z58) (b := 1) rfl rfl (by omega) (by omega) (fun z62 ez62 => ?_)
        rw [show (1 : Int32).toInt = 1 by decide] at ez62
        refine jn_pf (i := 60) (k := 17) (x := z62) rfl rfl hH53 (by decide) rfl (hH53.2 60 _ rfl).1 rfl rfl (by decide) (by decide) (by show 0 ≤ _; omega) (by show _ ≤ 240; omega) (fun h63 hH63 hs63 (t63 : ja h63 60 17 = z62.toInt) => ?_)
        refine az_X_step (pc' := 10) (ls' := ls) (st' := []) (h' := h63) rfl rfl rfl ?_
        refine ih (j + 1) h63 ls (jM_pick hl [0, 1] rfl) hH63 ((hs.tr (hs53.sub (by decide))).tr (hs63.sub (by decide))) (((jso hs63 (by decide)).trans (jso hs53 (by decide))).trans e8) (t63.trans (by omega)) (((jso hs63 (by decide)).trans t53).trans (by rw [jva_s]; omega)) (jBR_so hs63 (by decide) (jBR_so hs53 (by decide) hb)) (by omega) (fun i hi => ?_)
        rcases Nat.lt_or_ge i j with c | c
        · exact hg i c
        · rw [show i = j by omega]; exact dj
      · have g24 := jc2_ne_f hc24
        refine jm_aload_n (x := P.1 + 60) rfl rfl (jM_at hl 1 rfl) ?_
        refine az_X_step (pc' := 29) (ls' := ls) (st' := [.int 2, .ref (P.1 + 60)]) (h' := h) rfl rfl rfl ?_
        refine jm_aload_n (x := P.1 + 60) rfl rfl (jM_at hl 1 rfl) ?_
        refine jn_gf (i := 60) (k := 17) rfl rfl hH (by decide) (hH.2 60 _ rfl).1 rfl rfl (fun z30 (ez30 : z30.toInt = ja h 60 17) (bz30 : 0 ≤ z30.toInt ∧ z30.toInt ≤ 240) => ?_)
        refine az_X_call (m' := 242) (as := [.ref (P.1 + 60), .int 2, .int z30]) (rest := []) rfl rfl rfl rfl rfl ?_ ?_
        · unfold si_call
          dsimp only
          rw [if_pos ⟨rfl, rfl⟩]
          show (match si_ix P h (P.1 + 60) with | some i => _ | none => none) = _
          rw [jix hH (by decide)]
          dsimp only
          rw [(hH.2 60 _ rfl).1]
          rfl
        refine (rw_ok hH 2 z30 (by decide) (by omega)).mono ?_
        rintro rv33 h33 ⟨z33, rfl, hH33, hs33, f33⟩
        show az_X P _ 244 36 ls [.int z33] _ _
        refine jx_retz rfl rfl rfl (jbz (by omega)) ?_
        exfalso
        omega
theorem rn_ok {P : si_P} {d : Nat} {h : si_H} (hH : az_HI P az_tb h) {n p : Int} {hh : Int → Int} (hn : 1 ≤ n ∧ n ≤ 240) (e8 : ja h 60 18 = n) (e7 : ja h 60 17 = p) (hb : jBR h n hh) (hh1 : ∀ i : Int, hh i ≤ 255) (d0 : jdg hh p) : az_X P (d + 2) 244 0 (lv_args 0 [.ref (P.1 + 60)]) [] h (fun rv h' => ∃ z : Int32, rv = some (.int z) ∧ az_HI P az_tb h' ∧ az_same_out [(60, 17), (60, 19), (60, 20)] h h' ∧ ∃ f q v : Int, jAN hh p 5 f q v ∧ ((f = 0 ∧ z.toInt = 1 ∧ ja h' 60 17 = q) ∨ (f ≠ 0 ∧ z.toInt = 0 ∧ ja h' 60 19 = f))) := by
  have bp : 0 ≤ ja h 60 17 ∧ ja h 60 17 ≤ 240 := ja_bd hH (i := 60) (k := 17) rfl
  have hl : jM [(0, .ref (P.1 + 60))] (lv_args 0 [.ref (P.1 + 60)]) := jM_args [0] rfl (by decide)
  generalize lv_args 0 [.ref (P.1 + 60)] = ls at hl
  have k0 : (0 : Int32).toInt = 0 := by decide
  refine jm_aload_n (x := P.1 + 60) rfl rfl (jM_at hl 0 rfl) ?_
  refine jn_gf (i := 60) (k := 17) rfl rfl hH (by decide) (hH.2 60 _ rfl).1 rfl rfl (fun z1 (ez1 : z1.toInt = ja h 60 17) (bz1 : 0 ≤ z1.toInt ∧ z1.toInt ≤ 240) => ?_)
  refine jm_istore_n (l' := [(1, .int z1), (0, .ref (P.1 + 60))]) rfl rfl (by decide) hl rfl rfl (fun ls4 hl4 => ?_)
  refine jm_aload_n (x := P.1 + 60) rfl rfl (jM_at hl4 1 rfl) ?_
  refine az_X_step (pc' := 7) (ls' := ls4) (st' := [.int 0, .ref (P.1 + 60)]) (h' := h) rfl rfl rfl ?_
  refine jn_pf (i := 60) (k := 20) (x := 0) rfl rfl hH (by decide) rfl (hH.2 60 _ rfl).1 rfl rfl (by decide) (by decide) (by show 0 ≤ _; omega) (by show _ ≤ 99999; omega) (fun h7 hH7 hs7 (t7 : ja h7 60 20 = (0 : Int32).toInt) => ?_)
  replace t7 : ja h7 60 20 = 0 := t7.trans (by decide)
  exact rn_l (d := d) (h0 := h) (p := p) hn z1 (by omega) (by omega) hh1 d0 5 0 h7 ls4 (jM_pick hl4 [0, 1] rfl) hH7 (hs7.sub (by decide)) ((jso hs7 (by decide)).trans e8) ((jso hs7 (by decide)).trans (by omega)) t7 (jBR_so hs7 (by decide) hb) (by omega) (fun i hi => absurd hi (by omega))
/-! a factor, by the reference -/
def jFC (hh : Int → Int) (n : Int) (h : si_H) (w c : Nat) (p : Int) (t : Nat) (h' : si_H) (z : Int) : Prop := (z = 1 ∧ ∃ (w' : Nat) (p' : Int), jQS hh n h' w' (c + 1) p' t ∧ w ≤ w' ∧ p < p' ∧ (∀ j : Nat, j < w → ja h' 73 j = ja h 73 j) ∧ (∀ j : Nat, w ≤ j → j < w' → jop (ja h' 73 j) = 14) ∧ ∀ (wd : Nat) (i : Int), pyL hh n (3, wd, 0, p, jsk (ja h 73) w, i) (4, wd, 0, p', jsk (ja h' 73) w', i)) ∨ (z = 0 ∧ ja h' 60 19 ≠ 0 ∧ ∀ (wd : Nat) (i : Int), pyR hh n (3, wd, 0, p, jsk (ja h 73) w, i) (ja h' 60 19))
theorem jFC_open {hh : Int → Int} {n : Int} {h h1 h' : si_H} {w c t : Nat} {p z : Int} (h91 : hh p = 91) (hl : (jsk (ja h 73) w).length < 6) (hs : jsk (ja h1 73) (w + 1) = 14 :: jsk (ja h 73) w) (hA : ∀ j : Nat, j < w → ja h1 73 j = ja h 73 j) (ho : jop (ja h1 73 w) = 14) (f : jFC hh n h1 (w + 1) c (p + 1) t h' z) : jFC hh n h w c p t h' z := by
  rcases f with ⟨a1, w', p', a2, a3, a4, a5, a6, a7⟩ | ⟨a1, a2, a3⟩
  · refine Or.inl ⟨a1, w', p', a2, by omega, by omega, fun j hj => (a5 j (by omega)).trans (hA j hj), fun j h1' h2' => ?_, fun wd i => ?_⟩
    · rcases Nat.lt_or_ge w j with q | q
      · exact a6 j (by omega) h2'
      · rw [show j = w by omega, a5 w (by omega)]
        exact ho
    · have := a7 wd i
      rw [hs] at this
      exact (pyL_1 (ps3_open h91 (by omega))).tr this
  · refine Or.inr ⟨a1, a2, fun wd i => ?_⟩
    have := a3 wd i
    rw [hs] at this
    exact pyL_1 (ps3_open h91 (by omega)) _ this
theorem rc_l {P : si_P} (hxa : P.2.1 < P.1) {d : Nat} {hh : Int → Int} {n : Int} (hn : 1 ≤ n ∧ n ≤ 240) (hh1 : ∀ i : Int, hh i ≤ 255) {h0 : si_H} {c t : Nat} : ∀ (m w : Nat) (p : Int) (h : si_H) (ls : si_L), jM [(0, .ref (P.1 + 60))] ls → az_HI P az_tb h → az_same_out [(60, 17), (60, 19), (60, 20), (60, 21), (60, 22), (60, 23), (72, 1000000), (73, 1000000)] h0 h → jQS hh n h w c p t → n - p < m → az_X P (d + 3) 251 0 ls [] h (fun rv h' => ∃ z : Int32, rv = some (.int z) ∧ az_HI P az_tb h' ∧ az_same_out [(60, 17), (60, 19), (60, 20), (60, 21), (60, 22), (60, 23), (72, 1000000), (73, 1000000)] h0 h' ∧ jFC hh n h w c p t h' z.toInt) := by
  intro m
  induction m with
  | zero =>
    intro w p h ls hl hH hs q hm
    have q0 := q
    obtain ⟨q8, q7, q3, q2, q1, qw, qc, qp, qA, qI, qC, qL, qB⟩ := q
    have bp : 0 ≤ ja h 60 17 ∧ ja h 60 17 ≤ 240 := ja_bd hH (i := 60) (k := 17) rfl
    have jn0 := jcn_nn (ja h 73) w
    exfalso
    omega
  | succ m ih =>
    intro w p h ls hl hH hs q hm
    have q0 := q
    obtain ⟨q8, q7, q3, q2, q1, qw, qc, qp, qA, qI, qC, qL, qB⟩ := q
    have bp : 0 ≤ ja h 60 17 ∧ ja h 60 17 ≤ 240 := ja_bd hH (i := 60) (k := 17) rfl
    have jn0 := jcn_nn (ja h 73) w
    have km1 : ((-1) : Int32).toInt = (-1) := by decide
    have k0 : (0 : Int32).toInt = 0 := by decide
    have k1 : (1 : Int32).toInt = 1 := by decide
    have k14 : (14 : Int32).toInt = 14 := by decide
    have k91 : (91 : Int32).toInt = 91 := by decide
    refine jm_aload_n (x := P.1 + 60) rfl rfl (jM_at hl 0 rfl) ?_
    refine az_X_call (m' := 240) (as := [.ref (P.1 + 60)]) (rest := []) rfl rfl rfl rfl rfl ?_ ?_
    · unfold si_call
      dsimp only
      rw [if_pos ⟨rfl, rfl⟩]
      show (match si_ix P h (P.1 + 60) with | some i => _ | none => none) = _
      rw [jix hH (by decide)]
      dsimp only
      rw [(hH.2 60 _ rfl).1]
      rfl
    refine (rh_ok hH hn q8 q7 qB).mono ?_
    rintro rv1 h1 ⟨q1, z1, rfl, ez1⟩
    subst h1
    show az_X P _ 251 4 ls [.int z1] _ _
    refine az_X_step (pc' := 6) (ls' := ls) (st' := [.int 91, .int z1]) (h' := h) rfl rfl rfl ?_
    refine jx_ic (t := 20) rfl rfl rfl (fun hc6 => ?_) (fun hc6 => ?_)
    · have g6 := jc2_ne_t hc6
      refine jm_aload_n (x := P.1 + 60) rfl rfl (jM_at hl 0 rfl) ?_
      refine az_X_call (m' := 241) (as := [.ref (P.1 + 60)]) (rest := []) rfl rfl rfl rfl rfl ?_ ?_
      · unfold si_call
        dsimp only
        rw [if_pos ⟨rfl, rfl⟩]
        show (match si_ix P h (P.1 + 60) with | some i => _ | none => none) = _
        rw [jix hH (by decide)]
        dsimp only
        rw [(hH.2 60 _ rfl).1]
        rfl
      refine (rd_ok hH hn q8 q7 qB).mono ?_
      rintro rv21 h21 ⟨q21, z21, rfl, ez21⟩
      subst h21
      show az_X P _ 251 24 ls [.int z21] _ _
      refine jx_if (t := 47) rfl rfl rfl (fun hc24 => ?_) (fun hc24 => ?_)
      · have g24 := jc1_eq_t hc24
        refine jm_aload_n (x := P.1 + 60) rfl rfl (jM_at hl 0 rfl) ?_
        refine az_X_call (m' := 240) (as := [.ref (P.1 + 60)]) (rest := []) rfl rfl rfl rfl rfl ?_ ?_
        · unfold si_call
          dsimp only
          rw [if_pos ⟨rfl, rfl⟩]
          show (match si_ix P h (P.1 + 60) with | some i => _ | none => none) = _
          rw [jix hH (by decide)]
          dsimp only
          rw [(hH.2 60 _ rfl).1]
          rfl
        refine (rh_ok hH hn q8 q7 qB).mono ?_
        rintro rv48 h48 ⟨q48, z48, rfl, ez48⟩
        subst h48
        show az_X P _ 251 51 ls [.int z48] _ _
        refine az_X_call (m' := 248) (as := [.int z48]) (rest := []) rfl rfl rfl rfl rfl rfl ?_
        refine (fo2_ok z48).mono ?_
        rintro rv51 h51 ⟨q51, z51, rfl, ez51⟩
        subst h51
        show az_X P _ 251 54 ls [.int z51] _ _
        refine jm_istore_n (l' := [(1, .int z51), (0, .ref (P.1 + 60))]) rfl rfl (by decide) hl rfl rfl (fun ls54 hl54 => ?_)
        refine jm_iload_n (x := z51) rfl rfl (jM_at hl54 0 rfl) ?_
        refine az_X_step (pc' := 57) (ls' := ls54) (st' := [.int (-1), .int z51]) (h' := h) rfl rfl rfl ?_
        refine jx_ic (t := 70) rfl rfl rfl (fun hc57 => ?_) (fun hc57 => ?_)
        · have g57 := jc2_ne_t hc57
          have hlt := jBR_lt qB (p := p) (by omega)
          refine jm_aload_n (x := P.1 + 60) rfl rfl (jM_at hl54 1 rfl) ?_
          refine az_X_step (pc' := 72) (ls' := ls54) (st' := [.int 1, .ref (P.1 + 60)]) (h' := h) rfl rfl rfl ?_
          refine jm_iload_n (x := z51) rfl rfl (jM_at hl54 0 rfl) ?_
          refine az_X_call (m' := 245) (as := [.ref (P.1 + 60), .int 1, .int z51]) (rest := []) rfl rfl rfl rfl rfl ?_ ?_
          · unfold si_call
            dsimp only
            rw [if_pos ⟨rfl, rfl⟩]
            show (match si_ix P h (P.1 + 60) with | some i => _ | none => none) = _
            rw [jix hH (by decide)]
            dsimp only
            rw [(hH.2 60 _ rfl).1]
            rfl
          refine (nt_ok hH 1 z51 (by decide) (by omega) q2 (by omega) qC).mono ?_
          rintro rv73 h73 ⟨rfl, hH73, hs73, f73⟩
          show az_X P _ 251 76 ls54 [] _ _
          refine jm_aload_n (x := P.1 + 60) rfl rfl (jM_at hl54 1 rfl) ?_
          refine jm_aload_n (x := P.1 + 60) rfl rfl (jM_at hl54 1 rfl) ?_
          refine jn_gf (i := 60) (k := 17) rfl rfl hH73 (by decide) (hH73.2 60 _ rfl).1 rfl rfl (fun z78 (ez78 : z78.toInt = ja h73 60 17) (bz78 : 0 ≤ z78.toInt ∧ z78.toInt ≤ 240) => ?_)
          replace ez78 : z78.toInt = ja h 60 17 := ez78.trans (jso hs73 (by decide))
          refine az_X_step (pc' := 82) (ls' := ls54) (st' := [.int 1, .int z78, .ref (P.1 + 60)]) (h' := h73) rfl rfl rfl ?_
          refine jn_add (a := z78) (b := 1) rfl rfl (by omega) (by omega) (fun z82 ez82 => ?_)
          rw [show (1 : Int32).toInt = 1 by decide] at ez82
          refine jn_pf (i := 60) (k := 17) (x := z82) rfl rfl hH73 (by decide) rfl (hH73.2 60 _ rfl).1 rfl rfl (by decide) (by decide) (by show 0 ≤ _; omega) (by show _ ≤ 240; omega) (fun h83 hH83 hs83 (t83 : ja h83 60 17 = z82.toInt) => ?_)
          refine az_X_step (pc' := 87) (ls' := ls54) (st' := [.int 1]) (h' := h83) rfl rfl rfl ?_
          refine jx_retz rfl rfl rfl (by decide) ?_
          have nd : ¬ jdg hh p := by
            rcases ez21 with ⟨a, -⟩ | ⟨-, a⟩
            · exact absurd g24 (by omega)
            · exact a
          have nd2 : ¬ (48 ≤ hh p ∧ hh p ≤ 57) := nd
          have fy : pyfa (hh p) := by omega
          have s73 : ∀ j : Int, ja h83 73 j = ja h 73 j := fun j => (jso_row (i := 73) hs83 (by decide) j).trans (jso_row (i := 73) hs73 (by decide) j)
          refine ⟨1, rfl, hH83, hs.tr ((hs73.sub (by decide)).tr (hs83.sub (by decide))), Or.inl ⟨by decide, w, p + 1, jQS_down q0 (Nat.le_refl w) (by omega) (by omega) ((jso hs83 (by decide)).trans (jso hs73 (by decide))) (t83.trans (by omega)) ((jso hs83 (by decide)).trans ((jso hs73 (by decide)).trans q3)) ((jso hs83 (by decide)).trans f73.1) (fun j _ => s73 j) (by omega) (fun k hk => by rw [jso_row (i := 72) hs83 (by decide)]; exact f73.2 k hk) (jBR_so hs83 (by decide) (jBR_so hs73 (by decide) qB)) (by omega) qL ((jso hs83 (by decide)).trans ((jso hs73 (by decide)).trans q1)), Nat.le_refl _, by omega, fun j _ => s73 j, fun j h1 h2 => absurd h1 (by omega), fun wd i => ?_⟩⟩
          rw [jsk_cg (A := ja h83 73) (B := ja h 73) (fun j _ => s73 j)]
          exact pyL_1 (ps3_fact fy)
        · have g57 := jc2_ne_f hc57
          refine jm_aload_n (x := P.1 + 60) rfl rfl (jM_at hl54 1 rfl) ?_
          refine az_X_step (pc' := 62) (ls' := ls54) (st' := [.int 1, .ref (P.1 + 60)]) (h' := h) rfl rfl rfl ?_
          refine jm_aload_n (x := P.1 + 60) rfl rfl (jM_at hl54 1 rfl) ?_
          refine jn_gf (i := 60) (k := 17) rfl rfl hH (by decide) (hH.2 60 _ rfl).1 rfl rfl (fun z63 (ez63 : z63.toInt = ja h 60 17) (bz63 : 0 ≤ z63.toInt ∧ z63.toInt ≤ 240) => ?_)
          refine az_X_call (m' := 242) (as := [.ref (P.1 + 60), .int 1, .int z63]) (rest := []) rfl rfl rfl rfl rfl ?_ ?_
          · unfold si_call
            dsimp only
            rw [if_pos ⟨rfl, rfl⟩]
            show (match si_ix P h (P.1 + 60) with | some i => _ | none => none) = _
            rw [jix hH (by decide)]
            dsimp only
            rw [(hH.2 60 _ rfl).1]
            rfl
          refine (rw_ok hH 1 z63 (by decide) (by omega)).mono ?_
          rintro rv66 h66 ⟨z66, rfl, hH66, hs66, f66⟩
          show az_X P _ 251 69 ls54 [.int z66] _ _
          refine jx_retz rfl rfl rfl (jbz (by omega)) ?_
          have nd : ¬ jdg hh p := by
            rcases ez21 with ⟨a, -⟩ | ⟨-, a⟩
            · exact absurd g24 (by omega)
            · exact a
          have nd2 : ¬ (48 ≤ hh p ∧ hh p ≤ 57) := nd
          refine ⟨z66, rfl, hH66, hs.tr (hs66.sub (by decide)), Or.inr ⟨f66.1, ?_, fun wd i => ?_⟩⟩
          · rw [f66.2]
            omega
          · rw [show ja h66 60 19 = -1000 - p by rw [f66.2]; omega]
            exact pyR_1 (ps3_bad (by omega) nd2 (by omega))
      · have g24 := jc1_eq_f hc24
        have dy : jdg hh p := by
          rcases ez21 with ⟨-, a⟩ | ⟨a, -⟩
          · exact a
          · exact absurd a g24
        have dy2 : 48 ≤ hh p ∧ hh p ≤ 57 := dy
        have hlt := jBR_lt qB (p := p) (by omega)
        refine jm_aload_n (x := P.1 + 60) rfl rfl (jM_at hl 0 rfl) ?_
        refine az_X_call (m' := 244) (as := [.ref (P.1 + 60)]) (rest := []) rfl rfl rfl rfl rfl ?_ ?_
        · unfold si_call
          dsimp only
          rw [if_pos ⟨rfl, rfl⟩]
          show (match si_ix P h (P.1 + 60) with | some i => _ | none => none) = _
          rw [jix hH (by decide)]
          dsimp only
          rw [(hH.2 60 _ rfl).1]
          rfl
        refine (rn_ok (d := d) hH hn q8 q7 qB hh1 dy).mono ?_
        rintro rv28 h28 ⟨z28, rfl, hH28, hs28, f28⟩
        show az_X P _ 251 31 ls [.int z28] _ _
        refine jx_if (t := 36) rfl rfl rfl (fun hc31 => ?_) (fun hc31 => ?_)
        · have g31 := jc1_ne_t hc31
          refine jm_aload_n (x := P.1 + 60) rfl rfl (jM_at hl 0 rfl) ?_
          refine az_X_step (pc' := 38) (ls' := ls) (st' := [.int 0, .ref (P.1 + 60)]) (h' := h28) rfl rfl rfl ?_
          refine jm_aload_n (x := P.1 + 60) rfl rfl (jM_at hl 0 rfl) ?_
          refine jn_gf (i := 60) (k := 20) rfl rfl hH28 (by decide) (hH28.2 60 _ rfl).1 rfl rfl (fun z39 (ez39 : z39.toInt = ja h28 60 20) (bz39 : 0 ≤ z39.toInt ∧ z39.toInt ≤ 99999) => ?_)
          refine az_X_call (m' := 245) (as := [.ref (P.1 + 60), .int 0, .int z39]) (rest := []) rfl rfl rfl rfl rfl ?_ ?_
          · unfold si_call
            dsimp only
            rw [if_pos ⟨rfl, rfl⟩]
            show (match si_ix P h28 (P.1 + 60) with | some i => _ | none => none) = _
            rw [jix hH28 (by decide)]
            dsimp only
            rw [(hH28.2 60 _ rfl).1]
            rfl
          refine (nt_ok hH28 0 z39 (by decide) (by omega) ((jso hs28 (by decide)).trans q2) (by omega) (fun k hk => by rw [jso_row (i := 72) hs28 (by decide)]; exact qC k hk)).mono ?_
          rintro rv42 h42 ⟨rfl, hH42, hs42, f42⟩
          show az_X P _ 251 45 ls [] _ _
          refine az_X_step (pc' := 46) (ls' := ls) (st' := [.int 1]) (h' := h42) rfl rfl rfl ?_
          refine jx_retz rfl rfl rfl (by decide) ?_
          obtain ⟨f, qq, v, a1, a2⟩ := f28
          rcases a2 with ⟨a3, a4, a5⟩ | ⟨-, a4, -⟩
          · subst a3
            have pl : p < qq ∧ qq ≤ n := by
              rcases a1 with ⟨b1, -⟩ | ⟨k, b1, b2, b3, b4, b5, b6, b7⟩ | ⟨b1, b2⟩
              · exact absurd dy b1
              · have d9 : 48 ≤ hh (p + (k - 1 : Nat)) ∧ hh (p + (k - 1 : Nat)) ≤ 57 := b3 (k - 1) (by omega)
                have := jBR_lt qB (p := p + ((k - 1 : Nat) : Int)) (by omega)
                omega
              · omega
            have f17 : ja h42 60 17 = qq := (jso hs42 (by decide)).trans a5
            have s73 : ∀ j : Int, ja h42 73 j = ja h 73 j := fun j => (jso_row (i := 73) hs42 (by decide) j).trans (jso_row (i := 73) hs28 (by decide) j)
            refine ⟨1, rfl, hH42, hs.tr ((hs28.sub (by decide)).tr (hs42.sub (by decide))), Or.inl ⟨by decide, w, qq, jQS_down q0 (Nat.le_refl w) (by omega) pl.2 ((jso hs42 (by decide)).trans (jso hs28 (by decide))) f17 ((jso hs42 (by decide)).trans ((jso hs28 (by decide)).trans q3)) f42.1 (fun j _ => s73 j) (by omega) f42.2 (jBR_so hs42 (by decide) (jBR_so hs28 (by decide) qB)) (by omega) qL ((jso hs42 (by decide)).trans ((jso hs28 (by decide)).trans q1)), Nat.le_refl _, pl.1, fun j _ => s73 j, fun j h1 h2 => absurd h1 (by omega), fun wd i => ?_⟩⟩
            rw [jsk_cg (A := ja h42 73) (B := ja h 73) (fun j _ => s73 j)]
            rcases pyG (n := n) (w := wd) (s := jsk (ja h 73) w) (i := i) (by omega) a1 dy2 with ⟨-, b⟩ | ⟨b, -⟩
            · exact (pyL_1 (ps3_dig dy2)).tr b
            · exact absurd rfl b
          · omega
        · have g31 := jc1_ne_f hc31
          refine az_X_step (pc' := 35) (ls' := ls) (st' := [.int 0]) (h' := h28) rfl rfl rfl ?_
          refine jx_retz rfl rfl rfl (by decide) ?_
          obtain ⟨f, qq, v, a1, a2⟩ := f28
          rcases a2 with ⟨-, a3, -⟩ | ⟨a3, a4, a5⟩
          · omega
          · refine ⟨0, rfl, hH28, hs.tr (hs28.sub (by decide)), Or.inr ⟨by decide, by omega, fun wd i => ?_⟩⟩
            rcases pyG (n := n) (w := wd) (s := jsk (ja h 73) w) (i := i) (by omega) a1 dy2 with ⟨b, -⟩ | ⟨b, b2⟩
            · exact absurd b a3
            · rw [a5]
              exact pyL_1 (ps3_dig dy2) _ b2
    · have g6 := jc2_ne_f hc6
      refine jm_aload_n (x := P.1 + 60) rfl rfl (jM_at hl 0 rfl) ?_
      refine az_X_step (pc' := 12) (ls' := ls) (st' := [.int 14, .ref (P.1 + 60)]) (h' := h) rfl rfl rfl ?_
      refine az_X_call (m' := 246) (as := [.ref (P.1 + 60), .int 14]) (rest := []) rfl rfl rfl rfl rfl ?_ ?_
      · unfold si_call
        dsimp only
        rw [if_pos ⟨rfl, rfl⟩]
        show (match si_ix P h (P.1 + 60) with | some i => _ | none => none) = _
        rw [jix hH (by decide)]
        dsimp only
        rw [(hH.2 60 _ rfl).1]
        rfl
      refine (op_ok (d := d + 1) hH hn q0 (jBR_lt qB (p := p) (by omega)) 14 (by decide)).mono ?_
      rintro rv12 h12 ⟨z12, rfl, hH12, hs12, f12⟩
      show az_X P _ 251 15 ls [.int z12] _ _
      refine jx_if (t := 0) rfl rfl rfl (fun hc15 => ?_) (fun hc15 => ?_)
      · have g15 := jc1_ne_t hc15
        rcases f12 with ⟨a1, -⟩ | ⟨a1, a2, a3, a4, a5, a6⟩
        · omega
        · refine (ih (w + 1) (p + 1) h12 ls (jM_pick hl [0] rfl) hH12 (hs.tr (hs12.sub (by decide))) a3 (by omega)).mono ?_
          rintro rv h9 ⟨z, b1, b2, b3, b4⟩
          have k14b : (14 : Int32).toInt = 14 := by decide
          rw [k14b] at a4 a6
          exact ⟨z, b1, b2, b3, jFC_open (by omega) a2 a4 a5 a6 b4⟩
      · have g15 := jc1_ne_f hc15
        refine az_X_step (pc' := 19) (ls' := ls) (st' := [.int 0]) (h' := h12) rfl rfl rfl ?_
        refine jx_retz rfl rfl rfl (by decide) ?_
        refine ⟨0, rfl, hH12, hs.tr (hs12.sub (by decide)), ?_⟩
        rcases f12 with ⟨a1, a2, a3⟩ | ⟨a1, -⟩
        · exact Or.inr ⟨by decide, by omega, fun wd i => by rw [a3]; exact pyR_1 (ps3_deep (by omega) a2)⟩
        · omega
theorem rc_ok {P : si_P} (hxa : P.2.1 < P.1) {d : Nat} {hh : Int → Int} {n : Int} (hn : 1 ≤ n ∧ n ≤ 240) (hh1 : ∀ i : Int, hh i ≤ 255) {h : si_H} (hH : az_HI P az_tb h) {w c t : Nat} {p : Int} (q : jQS hh n h w c p t) : az_X P (d + 3) 251 0 (lv_args 0 [.ref (P.1 + 60)]) [] h (fun rv h' => ∃ z : Int32, rv = some (.int z) ∧ az_HI P az_tb h' ∧ az_same_out [(60, 17), (60, 19), (60, 20), (60, 21), (60, 22), (60, 23), (72, 1000000), (73, 1000000)] h h' ∧ jFC hh n h w c p t h' z.toInt) := rc_l hxa hn hh1 (n - p + 1).toNat w p h _ (jM_args [0] rfl (by decide)) hH az_same_out.rf q (by have := q.2.2.2.2.2.2.2.1; omega)
