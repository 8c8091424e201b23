/-! THE CONSTRUCTORS, 2: the run is what the machine does -/
theorem cget_none {i k : Nat} : ∀ {wr : cW}, (∀ q ∈ wr, q.1 < i) → cget i k wr = none
  | [], _ => rfl
  | q :: r, h => by
    unfold cget
    rw [if_neg (fun hc => by have := h q List.mem_cons_self; omega)]
    exact cget_none (fun x hx => h x (List.mem_cons_of_mem _ hx))
theorem chr_new {P : si_P} {sh : List si_S} {wr : cW} {h : si_H} (hc : chr P sh wr h) (s : si_S) : chr P (sh ++ [s]) wr (h.1 + 1, fun i => if i = h.1 then s else h.2.1 i, fun i => if i = h.1 then (fun k => cdv s k) else h.2.2 i) := by
  obtain ⟨h1, h2, h3⟩ := hc
  refine ⟨by rw [List.length_append]; show h.1 + 1 = _; rw [h1]; rfl, fun q hq => by rw [List.length_append]; have := h2 q hq; omega, fun i t ht => ?_⟩
  rcases Nat.lt_or_ge i sh.length with hi | hi
  · rw [List.getElem?_append_left hi] at ht
    obtain ⟨g1, g2⟩ := h3 i t ht
    refine ⟨?_, fun k => ?_⟩
    · show (if i = h.1 then s else h.2.1 i) = t
      rw [if_neg (by omega)]; exact g1
    · show (if i = h.1 then (fun k => cdv s k) else h.2.2 i) k = _
      rw [if_neg (by omega)]; exact g2 k
  · rw [List.getElem?_append_right hi] at ht
    have hi0 : i - sh.length = 0 := by
      rcases Nat.eq_zero_or_pos (i - sh.length) with h5 | h5
      · exact h5
      · rw [List.getElem?_eq_none (by rw [List.length_singleton]; omega)] at ht
        cases ht
    rw [hi0] at ht
    cases ht
    have hie : i = h.1 := by omega
    refine ⟨?_, fun k => ?_⟩
    · show (if i = h.1 then s else h.2.1 i) = s
      rw [if_pos hie]
    · show (if i = h.1 then (fun k => cdv s k) else h.2.2 i) k = _
      rw [if_pos hie]
      unfold ccon
      rw [cget_none (fun q hq => by have := h2 q hq; omega)]
theorem chr_put {P : si_P} {sh : List si_S} {wr : cW} {h : si_H} (hc : chr P sh wr h) {i : Nat} (hi : i < sh.length) (k : Nat) (v : cV) : chr P sh ((i, k, v) :: wr) (h.1, h.2.1, si_set h.2.2 i k (cval P v)) := by
  obtain ⟨h1, h2, h3⟩ := hc
  refine ⟨h1, fun q hq => by rcases List.mem_cons.mp hq with rfl | hq; exact hi; exact h2 q hq, fun j t ht => ?_⟩
  obtain ⟨g1, g2⟩ := h3 j t ht
  refine ⟨g1, fun b => ?_⟩
  show si_set h.2.2 i k (cval P v) j b = _
  unfold si_set ccon cget
  by_cases e1 : j = i
  · rw [if_pos e1]
    by_cases e2 : b = k
    · rw [if_pos e2]
      dsimp only
      rw [if_pos ⟨e1.symm, e2.symm⟩]
    · rw [if_neg e2]
      dsimp only
      rw [if_neg (fun hc => e2 hc.2.symm)]
      exact g2 b
  · rw [if_neg e1]
    dsimp only
    rw [if_neg (fun hc => e1 hc.1.symm)]
    exact g2 b
theorem chr_ix {P : si_P} {sh : List si_S} {wr : cW} {h : si_H} (hc : chr P sh wr h) {i : Nat} (hi : i < sh.length) : si_ix P h (P.1 + i) = some i := by
  unfold si_ix
  rw [if_pos ⟨by omega, by have := hc.1; omega⟩]
  congr 1
  omega
theorem cty_ok {sh : List si_S} {i ci : Nat} (h : cty sh[i]? ci = true) : i < sh.length ∧ sh[i]? = some (.inl (ci, ((si_cl[ci]?).map (fun q => q.2.2)).getD 0)) := by
  unfold cty at h
  split at h
  · rename_i o ho
    rw [Bool.and_eq_true, decide_eq_true_eq, decide_eq_true_eq] at h
    obtain ⟨o1, o2⟩ := o
    have h1 : o1 = ci := h.1
    have h2 : o2 = ((si_cl[ci]?).map (fun q => q.2.2)).getD 0 := h.2
    rw [h1, h2] at ho
    refine ⟨?_, ho⟩
    rcases Nat.lt_or_ge i sh.length with h1 | h1
    · exact h1
    · rw [List.getElem?_eq_none h1] at ho; cases ho
  · cases h
theorem az_X_make {P : si_P} {d mi pc : Nat} {ls : si_L} {st : List Value} {h : si_H} {Q : Option Value → si_H → Prop} {y : si_M} {e : si_E} {st' : List Value} {h' : si_H} (hy : si_m mi = some y) (he : si_fetch mi pc = some e) (hs : si_step P y pc e ls st h = none) (hr : si_ret y e st = none) (hm : si_make P e st h = some (st', h')) (hx : az_X P d mi (pc + e.2.1) ls st' h' Q) : az_X P d mi pc ls st h Q := by
  obtain ⟨n, rv, h1, h2, h3⟩ := hx
  refine ⟨n + 1, rv, h1, ?_, h3⟩
  unfold si_run
  rw [hy, he]
  dsimp only
  rw [hs]
  dsimp only
  rw [hr]
  dsimp only
  rw [hm]
  exact h2
section CkOk
variable {P : si_P}
set_option maxHeartbeats 2000000 in
theorem ck_ok : ∀ (n : Nat) (stp : Option Nat) (d m pc : Nat) (ls : List (Nat × cV)) (st : List cV) (sh : List si_S) (wr : cW) (r : List cV × List si_S × cW) (l : si_L) (h : si_H) (Q : Option Value → si_H → Prop), ck n stp d m pc ls st sh wr = some r → cL P ls l → chr P sh wr h → (stp = none → ∀ h', chr P r.2.1 r.2.2 h' → Q none h') → (∀ p, stp = some p → ∀ h', chr P r.2.1 r.2.2 h' → az_X P d m p l (r.1.map (cval P)) h' Q) → az_X P d m pc l (st.map (cval P)) h Q := by
  intro n
  induction n with
  | zero => intro stp d m pc ls st sh wr r l h Q hk; cases hk
  | succ n ih =>
    intro stp d m pc ls st sh wr r l h Q hk hL hc hn hp
    unfold ck at hk
    split at hk
    · rename_i hs
      cases hk
      exact hp pc hs h hc
    · split at hk
      · rename_i y e hy he
        obtain ⟨ei, e1, e2, e3, e4⟩ := e
        split at hk
        · -- return
          rename_i hei
          dsimp only at hei hk
          subst hei
          split at hk
          · rename_i hcond
            cases hk
            obtain ⟨c1, c2, c3⟩ := hcond
            subst c2
            refine az_X_ret hy he rfl (rv := none) ?_ (hn c1 h hc)
            unfold si_ret
            exact if_pos ⟨rfl, c3⟩
          · cases hk
        · -- aload_n
          rename_i st _ _ k hei
          dsimp only at hei hk
          subst hei
          split at hk
          · rename_i c2
            subst c2
            split at hk
            · rename_i v hv
              refine az_X_step hy he (pc' := pc + 1) (ls' := l) (st' := cval P (.inr v) :: st.map (cval P)) (h' := h) ?_ (ih _ _ _ _ _ _ _ _ _ _ _ _ hk hL hc hn hp)
              unfold si_step
              have := hL _ _ hv
              simp only [si_lod, this]
              rcases v with v | v <;> rfl
            · cases hk
          · cases hk
        · -- iload_n
          rename_i st _ _ k hei
          dsimp only at hei hk
          subst hei
          split at hk
          · rename_i c2
            subst c2
            split at hk
            · rename_i v hv
              refine az_X_step hy he (pc' := pc + 1) (ls' := l) (st' := cval P (.inl v) :: st.map (cval P)) (h' := h) ?_ (ih _ _ _ _ _ _ _ _ _ _ _ _ hk hL hc hn hp)
              unfold si_step
              have := hL _ _ hv
              simp only [si_lod, this]
              rfl
            · cases hk
          · cases hk
        · -- iconst
          rename_i st _ _ k hei
          dsimp only at hei hk
          subst hei
          split at hk
          · rename_i c2
            subst c2
            exact az_X_step hy he rfl (ih _ _ _ _ _ (_ :: st) _ _ _ _ _ _ hk hL hc hn hp)
          · cases hk
        · -- bipush
          rename_i st _ _ k hei
          dsimp only at hei hk
          subst hei
          split at hk
          · rename_i c2
            subst c2
            exact az_X_step hy he rfl (ih _ _ _ _ _ (_ :: st) _ _ _ _ _ _ hk hL hc hn hp)
          · cases hk
        · -- sipush
          rename_i st _ _ k hei
          dsimp only at hei hk
          subst hei
          split at hk
          · rename_i c2
            subst c2
            exact az_X_step hy he rfl (ih _ _ _ _ _ (_ :: st) _ _ _ _ _ _ hk hL hc hn hp)
          · cases hk
        · -- ldc
          rename_i st _ _ k hei
          dsimp only at hei hk
          subst hei
          split at hk
          · rename_i c2
            obtain ⟨c1, c3, c4⟩ := c2
            subst c1
            refine az_X_step hy he (pc' := pc + 2) (ls' := l) (st' := cval P (.inr (.inr e2)) :: st.map (cval P)) (h' := h) ?_ (ih _ _ _ _ _ (_ :: st) _ _ _ _ _ _ hk hL hc hn hp)
            unfold si_step
            dsimp only
            rw [show si_con P (Instr.ldc k, 2, e2, e3, e4) = some (.ref (P.2.2.2.2 e2)) from if_neg c3]
            unfold cval
            dsimp only
            rw [if_neg c4]
          · cases hk
        · -- imul
          rename_i a b rr hei
          dsimp only at hei hk
          subst hei
          split at hk
          · rename_i c2
            subst c2
            exact az_X_step hy he rfl (ih _ _ _ _ _ (_ :: rr) _ _ _ _ _ _ hk hL hc hn hp)
          · cases hk
        · -- dup
          rename_i v rr hei
          dsimp only at hei hk
          subst hei
          split at hk
          · rename_i c2
            subst c2
            refine az_X_step hy he (pc' := pc + 1) (ls' := l) (st' := (v :: v :: rr).map (cval P)) (h' := h) ?_ (ih _ _ _ _ _ _ _ _ _ _ _ _ hk hL hc hn hp)
            unfold si_step
            dsimp only
            rw [if_pos rfl, List.map_cons]
            dsimp only
            rw [if_pos (cval_cat P v)]
            rfl
          · cases hk
        · -- new
          rename_i st _ _ k hei
          dsimp only at hei hk
          subst hei
          split at hk
          · rename_i c2
            subst c2
            split at hk
            · rename_i q hq
              have hx := ih _ _ _ _ _ (.inr (.inl sh.length) :: st) _ _ _ _ _ _ hk hL (chr_new hc _) hn hp
              refine az_X_make hy he rfl rfl (st' := cval P (.inr (.inl sh.length)) :: st.map (cval P)) (h' := (h.1 + 1, fun i => if i = h.1 then .inl (e2, q.2.2) else h.2.1 i, fun i => if i = h.1 then (fun k => cdv (.inl (e2, q.2.2)) k) else h.2.2 i)) ?_ hx
              unfold si_make
              dsimp only
              rw [if_pos rfl, hq]
              dsimp only [cval]
              rw [hc.1]
              rfl
            · cases hk
          · cases hk
        · -- newarray
          rename_i t x rr hei
          dsimp only at hei hk
          subst hei
          split at hk
          · rename_i c2
            obtain ⟨c1, c3, c4, c5⟩ := c2
            subst c1
            have hx := ih _ _ _ _ _ (.inr (.inl sh.length) :: rr) _ _ _ _ _ _ hk hL (chr_new hc _) hn hp
            refine az_X_make hy he rfl rfl (st' := cval P (.inr (.inl sh.length)) :: rr.map (cval P)) (h' := (h.1 + 1, fun i => if i = h.1 then .inr (newarray.typeOf t, x.toNatClampNeg) else h.2.1 i, fun i => if i = h.1 then (fun k => cdv (.inr (newarray.typeOf t, x.toNatClampNeg)) k) else h.2.2 i)) ?_ hx
            unfold si_make
            dsimp only
            rw [if_pos rfl, List.map_cons]
            dsimp only [cval]
            rw [if_pos ⟨c3, c4, c5⟩, hc.1]
            rfl
          · cases hk
        · -- putfield
          rename_i _ v i rr hei
          dsimp only at hei hk
          subst hei
          split at hk
          · rename_i c2
            obtain ⟨c1, c3, c4, c5⟩ := c2
            subst c1
            obtain ⟨g1, g2⟩ := cty_ok c3
            refine az_X_step hy he (pc' := pc + 3) (ls' := l) (st' := rr.map (cval P)) (h' := (h.1, h.2.1, si_set h.2.2 i e3 (cval P v))) ?_ (ih _ _ _ _ _ rr _ _ _ _ _ _ hk hL (chr_put hc g1 e3 v) hn hp)
            unfold si_step
            dsimp only
            rw [if_pos rfl, List.map_cons, List.map_cons]
            show (match si_ix P h (P.1 + i) with | some i => _ | none => none) = _
            rw [chr_ix hc g1]
            dsimp only
            rw [if_pos ⟨(hc.2.2 i _ g2).1, (cfit_ok c4).1, (cfit_ok c4).2, c5⟩]
          · cases hk
        · -- getfield
          rename_i _ i rr hei
          dsimp only at hei hk
          subst hei
          split at hk
          · rename_i c2
            obtain ⟨c1, c3⟩ := c2
            subst c1
            obtain ⟨g1, g2⟩ := cty_ok c3
            split at hk
            · rename_i v hv
              refine az_X_step hy he (pc' := pc + 3) (ls' := l) (st' := (v :: rr).map (cval P)) (h' := h) ?_ (ih _ _ _ _ _ _ _ _ _ _ _ _ hk hL hc hn hp)
              unfold si_step
              dsimp only
              rw [if_pos rfl, List.map_cons]
              show (match si_ix P h (P.1 + i) with | some i => _ | none => none) = _
              rw [chr_ix hc g1]
              dsimp only
              rw [if_pos (hc.2.2 i _ g2).1, (hc.2.2 i _ g2).2]
              unfold ccon
              rw [hv]
              rfl
            · cases hk
          · cases hk
        · -- iastore
          rename_i v x i rr hei
          dsimp only at hei hk
          subst hei
          split at hk
          · rename_i c2
            subst c2
            split at hk
            · rename_i k hk2
              split at hk
              · rename_i hin
                have g1 : i < sh.length := by
                  rcases Nat.lt_or_ge i sh.length with h1 | h1
                  · exact h1
                  · rw [List.getElem?_eq_none h1] at hk2; cases hk2
                refine az_X_step hy he (pc' := pc + 1) (ls' := l) (st' := rr.map (cval P)) (h' := (h.1, h.2.1, si_set h.2.2 i x.toNatClampNeg (cval P (.inl v)))) ?_ (ih _ _ _ _ _ rr _ _ _ _ _ _ hk hL (chr_put hc g1 x.toNatClampNeg (.inl v)) hn hp)
                unfold si_step
                dsimp only
                rw [if_pos rfl]
                show (match si_ast P h [.int] (P.1 + i) x (.int v) with | some h' => _ | none => none) = _
                unfold si_ast
                rw [chr_ix hc g1]
                dsimp only
                rw [(hc.2.2 i _ hk2).1]
                dsimp only
                rw [if_pos ⟨hin, by decide⟩]
                rfl
              · cases hk
            · cases hk
          · cases hk
        · -- invokespecial
          rename_i st _ _ k hei
          dsimp only at hei hk
          subst hei
          split at hk
          · rename_i c2
            subst c2
            split at hk
            · cases hk
            · rename_i d'
              split at hk
              · rename_i c9
                subst c9
                split at hk
                · rename_i v rr
                  split at hk
                  · rename_i c8
                    refine az_X_prim hy he rfl rfl rfl rfl (st' := rr.map (cval P)) ?_ c8.1 (ih _ _ _ _ _ rr _ _ _ _ _ _ hk hL hc hn hp)
                    unfold si_prim
                    dsimp only
                    rw [if_pos ⟨rfl, rfl⟩]
                    rcases v with v | v
                    · show (if si_wide (rr.map (cval P)) = true then _ else _) = _
                      rw [if_pos (cwide c8.2)]
                    · show (if si_wide (rr.map (cval P)) = true then _ else _) = _
                      rw [if_pos (cwide c8.2)]
                  · cases hk
                · cases hk
              · split at hk
                · rename_i c1
                  split at hk
                  · rename_i y' hy'
                    split at hk
                    · rename_i v rr hdr
                      split at hk
                      · rename_i c3
                        split at hk
                        · rename_i q hq
                          refine az_X_call (m' := e2) (as := ((.inr v :: (st.take y'.2.2.2.2.2.2.1).reverse : List cV)).map (cval P)) (rest := rr.map (cval P)) hy he rfl rfl rfl ?_ ?_
                          · have hw : ∃ a, cval P (.inr v) = .ref a := by
                              rcases v with v | v
                              · exact ⟨_, rfl⟩
                              · exact ⟨_, rfl⟩
                            obtain ⟨a, ha⟩ := hw
                            unfold si_call
                            dsimp only
                            rw [if_pos ⟨rfl, c1⟩, hy']
                            dsimp only
                            rw [← List.map_drop, hdr, List.map_cons, ha]
                            dsimp only
                            have hrev : ((st.map (cval P)).take y'.2.2.2.2.2.2.1).reverse = (st.take y'.2.2.2.2.2.2.1).reverse.map (cval P) := by
                              rw [← List.map_take, List.map_reverse]
                            rw [hrev, ← ha, ← List.map_cons, csl, if_pos ⟨c3.1, c3.2.1, cwide c3.2.2.1, c3.2.2.2⟩]
                          · refine ih none d' e2 0 _ [] sh wr q _ h _ hq (cargs_ok _ 0) hc (fun _ h' hc' => ?_) (fun p hp' => by cases hp')
                            exact ih _ _ _ _ _ rr _ _ _ _ _ _ hk hL hc' hn hp
                        · cases hk
                      · cases hk
                    · cases hk
                  · cases hk
                · cases hk
          · cases hk
        · -- String.length
          rename_i k rr hei
          dsimp only at hei hk
          subst hei
          split at hk
          · cases hk
          · rename_i d'
            split at hk
            · rename_i c2
              obtain ⟨c1, c3, c4, c5⟩ := c2
              subst c1
              subst c3
              refine az_X_prim hy he rfl rfl rfl rfl (st' := (.inl 8 :: rr).map (cval P)) ?_ c4 (ih _ _ _ _ _ _ _ _ _ _ _ _ hk hL hc hn hp)
              unfold si_prim
              dsimp only
              rw [if_pos rfl]
              show (if P.2.2.2.2 3 = P.2.2.2.2 3 ∧ si_wide (rr.map (cval P)) = true then _ else _) = _
              rw [if_pos ⟨rfl, cwide c5⟩]
              rfl
            · cases hk
        · cases hk
      · cases hk
end CkOk
