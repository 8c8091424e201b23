set_option maxRecDepth 100000
/-! locals of which some are known -/
def jM (l : List (Nat × Value)) (ls : si_L) : Prop := ∀ q ∈ l, si_ld q.1 ls = some q.2
theorem jM_at {l : List (Nat × Value)} {ls : si_L} (h : jM l ls) (i : Nat) {k : Nat} {v : Value} (hi : l[i]? = some (k, v)) : si_ld k ls = some v := h (k, v) (List.mem_of_getElem? hi)
theorem jM_args {l : List (Nat × Value)} (ks : List Nat) (he : l.map (fun q => q.1) = ks) (hd : ks.Nodup) : jM l l := by
  subst he
  intro q hq
  induction l with
  | nil => cases hq
  | cons a r ih =>
    unfold si_ld
    rcases List.mem_cons.mp hq with rfl | hq
    · exact if_pos rfl
    · rw [List.map_cons, List.nodup_cons] at hd
      rw [if_neg]
      · exact ih hd.2 hq
      · intro e
        exact hd.1 (e ▸ List.mem_map.mpr ⟨q, hq, rfl⟩)
theorem si_ld_f {k : Nat} {v : Value} {f : Nat × Value → Bool} : ∀ {l : si_L}, (∀ w, (k, w) ∈ l → si_ld k l = some w → f (k, w) = true) → si_ld k l = some v → si_ld k (l.filter f) = some v
  | [], _, h => by cases h
  | q :: r, hf, h => by
    unfold si_ld at h
    split at h
    · rename_i e
      cases h
      have hq : f q = true := by
        have := hf q.2 (by rw [← e]; exact List.mem_cons_self) (by unfold si_ld; rw [if_pos e])
        rw [← e] at this
        exact this
      rw [List.filter_cons, if_pos hq]
      unfold si_ld
      exact if_pos e
    · rename_i e
      have ih := si_ld_f (l := r) (fun w hw hl => hf w (List.mem_cons_of_mem _ hw) (by unfold si_ld; rw [if_neg e]; exact hl)) h
      rw [List.filter_cons]
      split
      · unfold si_ld
        rw [if_neg e]
        exact ih
      · exact ih
theorem jM_st {l l' : List (Nat × Value)} {ls : si_L} {k : Nat} {v : Value} (h : jM l ls) (h' : l' = (k, v) :: l.filter (fun q => !(q.1 == k))) (hc : l.all (fun q => q.2.category == 1) = true) : jM l' (si_st1 ls k v) := by
  subst h'
  intro q hq
  unfold si_st1
  rcases List.mem_cons.mp hq with rfl | hq
  · unfold si_ld
    exact if_pos rfl
  · obtain ⟨h1, h2⟩ := List.mem_filter.mp hq
    have h3 : ¬ q.1 = k := by simpa using h2
    have h4 : q.2.category = 1 := by
      have := List.all_eq_true.mp hc q h1
      simpa using this
    unfold si_ld
    rw [if_neg (fun e => h3 e.symm)]
    refine si_ld_f (fun w hw hl => ?_) (h q h1)
    have h5 : w = q.2 := by
      have := h q h1
      rw [hl] at this
      exact Option.some.inj this
    subst h5
    simp [h3, h4]
section Jm
variable {P : si_P} {d mi pc : Nat} {y : si_M} {ls : si_L} {st : List Value} {h : si_H} {Q : Option Value → si_H → Prop} {q : Nat × Nat × Nat}
theorem jm_iload_n {k : Fin 4} {x : Int32} (hy : si_m mi = some y) (he : si_fetch mi pc = some (.iload_n k, 1, q)) (L : si_ld (k : Nat) ls = some (.int x)) (kk : az_X P d mi (pc + 1) ls (.int x :: st) h Q) : az_X P d mi pc ls st h Q := by
  refine az_X_step (pc' := pc + 1) (ls' := ls) (st' := .int x :: st) (h' := h) hy he ?_ kk
  unfold si_step
  dsimp only
  show (match si_ld (k : Nat) ls with | some v => if si_kd v 0 = true then some (pc + 1, ls, v :: st, h) else none | none => none) = _
  rw [L]
  all_goals rfl
theorem jm_iload {k : Nat} {x : Int32} (hy : si_m mi = some y) (he : si_fetch mi pc = some (.iload k, 2, q)) (L : si_ld k ls = some (.int x)) (kk : az_X P d mi (pc + 2) ls (.int x :: st) h Q) : az_X P d mi pc ls st h Q := by
  refine az_X_step (pc' := pc + 2) (ls' := ls) (st' := .int x :: st) (h' := h) hy he ?_ kk
  unfold si_step
  dsimp only
  show (match si_ld (k : Nat) ls with | some v => if si_kd v 0 = true then some (pc + 2, ls, v :: st, h) else none | none => none) = _
  rw [L]
  all_goals rfl
theorem jm_aload_n {k : Fin 4} {x : Nat} (hy : si_m mi = some y) (he : si_fetch mi pc = some (.aload_n k, 1, q)) (L : si_ld (k : Nat) ls = some (.ref x)) (kk : az_X P d mi (pc + 1) ls (.ref x :: st) h Q) : az_X P d mi pc ls st h Q := by
  refine az_X_step (pc' := pc + 1) (ls' := ls) (st' := .ref x :: st) (h' := h) hy he ?_ kk
  unfold si_step
  dsimp only
  show (match si_ld (k : Nat) ls with | some v => if si_kd v 2 = true then some (pc + 1, ls, v :: st, h) else none | none => none) = _
  rw [L]
  all_goals rfl
theorem jm_istore_n {k : Fin 4} {x : Int32} {l l' : List (Nat × Value)} (hy : si_m mi = some y) (he : si_fetch mi pc = some (.istore_n k, 1, q)) (hk : (k : Nat) + 1 ≤ y.2.2.2.1) (hl : jM l ls) (h' : l' = ((k : Nat), Value.int x) :: l.filter (fun q => !(q.1 == (k : Nat)))) (hc : l.all (fun q => q.2.category == 1) = true) (kk : ∀ ls' : si_L, jM l' ls' → az_X P d mi (pc + 1) ls' st h Q) : az_X P d mi pc ls (.int x :: st) h Q := by
  refine az_X_step (pc' := pc + 1) (ls' := si_st1 ls k (.int x)) (st' := st) (h' := h) hy he ?_ (kk _ (jM_st hl h' hc))
  unfold si_step
  dsimp only
  show (if si_kd (.int x) 0 = true ∧ (k : Nat) + (Value.int x).category ≤ y.2.2.2.1 then some (pc + 1, if (Value.int x).category = 2 then si_st2 ls k (.int x) else si_st1 ls k (.int x), st, h) else none) = _
  rw [if_pos ⟨rfl, hk⟩]
  all_goals rfl
theorem jm_istore {k : Nat} {x : Int32} {l l' : List (Nat × Value)} (hy : si_m mi = some y) (he : si_fetch mi pc = some (.istore k, 2, q)) (hk : k + 1 ≤ y.2.2.2.1) (hl : jM l ls) (h' : l' = (k, Value.int x) :: l.filter (fun q => !(q.1 == k))) (hc : l.all (fun q => q.2.category == 1) = true) (kk : ∀ ls' : si_L, jM l' ls' → az_X P d mi (pc + 2) ls' st h Q) : az_X P d mi pc ls (.int x :: st) h Q := by
  refine az_X_step (pc' := pc + 2) (ls' := si_st1 ls k (.int x)) (st' := st) (h' := h) hy he ?_ (kk _ (jM_st hl h' hc))
  unfold si_step
  dsimp only
  show (if si_kd (.int x) 0 = true ∧ (k : Nat) + (Value.int x).category ≤ y.2.2.2.1 then some (pc + 2, if (Value.int x).category = 2 then si_st2 ls k (.int x) else si_st1 ls k (.int x), st, h) else none) = _
  rw [if_pos ⟨rfl, hk⟩]
  all_goals rfl
theorem jm_iinc {k : Nat} {n : Int} {x x' : Int32} {l l' : List (Nat × Value)} (hy : si_m mi = some y) (he : si_fetch mi pc = some (.iinc k n, 3, q)) (hk : k < y.2.2.2.1) (L : si_ld k ls = some (.int x)) (hx : x + Int32.ofInt n = x') (hl : jM l ls) (h' : l' = (k, Value.int x') :: l.filter (fun q => !(q.1 == k))) (hc : l.all (fun q => q.2.category == 1) = true) (kk : ∀ ls' : si_L, jM l' ls' → az_X P d mi (pc + 3) ls' st h Q) : az_X P d mi pc ls st h Q := by
  subst hx
  refine az_X_step (pc' := pc + 3) (ls' := si_st1 ls k (.int (x + Int32.ofInt n))) (st' := st) (h' := h) hy he ?_ (kk _ (jM_st hl h' hc))
  unfold si_step
  dsimp only
  rw [if_pos ⟨rfl, hk⟩, L]
  all_goals rfl
theorem jx_ial {i n : Nat} {lo hi : Int} {x : Int32} (hy : si_m mi = some y) (he : si_fetch mi pc = some (.iaload, 1, q)) (hxa : P.2.1 < P.1) (hH : az_HI P az_tb h) (hi' : i < az_tb.length) (ht : az_tb[i]? = some (.inr (.int, n, lo, hi))) (h0 : 0 ≤ x.toInt) (h1 : x.toInt < n) (kk : ∀ z : Int32, z.toInt = ja h i x.toInt → lo ≤ z.toInt ∧ z.toInt ≤ hi → az_X P d mi (pc + 1) ls (.int z :: st) h Q) : az_X P d mi pc ls (.int x :: .ref (P.1 + i) :: st) h Q := by
  have hc : x.toNatClampNeg = x.toInt.toNat := rfl
  obtain ⟨hs, hr⟩ := hH.2 i _ ht
  have h3 := hr x.toInt.toNat (by show x.toInt.toNat < n; omega)
  unfold az_aok at h3
  rw [if_neg (fun e => by cases e)] at h3
  obtain ⟨z, hz, hz1, hz2⟩ := h3
  have hin : si_in x n = true := by
    unfold si_in
    rw [Bool.and_eq_true, decide_eq_true_eq, decide_eq_true_eq]
    exact ⟨(nm_leI 0 x).mpr (by have : (0 : Int32).toInt = 0 := by decide
                                omega), by omega⟩
  refine az_X_step (pc' := pc + 1) (ls' := ls) (st' := .int z :: st) (h' := h) hy he ?_ (kk z ?_ ⟨hz1, hz2⟩)
  · unfold si_step
    dsimp only
    rw [if_pos rfl, if_neg (show ¬ (P.1 + i = P.2.1) by omega)]
    unfold si_ald
    rw [jix hH hi']
    dsimp only
    rw [hs]
    dsimp only
    rw [if_pos ⟨hin, List.mem_singleton.mpr rfl⟩, hc, hz]
  · show z.toInt = ji h i x.toInt.toNat
    unfold ji
    rw [hz]
end Jm
theorem jM_pick {l l' : List (Nat × Value)} {ls : si_L} (h : jM l ls) (is : List Nat) (he : is.filterMap (fun i => l[i]?) = l') : jM l' ls := by
  intro q hq
  rw [← he] at hq
  obtain ⟨i, -, hi⟩ := List.mem_filterMap.mp hq
  exact h q (List.mem_of_getElem? hi)
theorem tround_ok {P : si_P} {d : Nat} {h : si_H} (hH : az_HI P az_tb h) : az_X P d 73 0 (lv_args 0 [.ref (P.1 + 1)]) [] h (fun rv h' => h' = h ∧ jV rv (ja h 1 0 * ja h 1 1)) := by
  obtain ⟨⟨M, hM, eM⟩, bM⟩ := jt_ok hH (i := 1) (k := 0) rfl
  obtain ⟨⟨R, hR, eR⟩, bR⟩ := jt_ok hH (i := 1) (k := 1) rfl
  have eM' : ja h 1 0 = M.toInt := eM.symm
  have eR' : ja h 1 1 = R.toInt := eR.symm
  have b1 : 4 ≤ ji h 1 0 ∧ ji h 1 0 ≤ 60 := bM
  have b2 : 2 ≤ ji h 1 1 ∧ ji h 1 1 ≤ 24 := bR
  rw [eM', eR']
  have bp := nm_mulnn (a := 4) (b := 60) (c := 2) (d := 24) (x := M.toInt) (y := R.toInt) (by decide) (by decide) (by omega) (by omega) (by omega) (by omega)
  have ep : (M * R).toInt = M.toInt * R.toInt := nm_mul (by omega) (by omega)
  refine az_X_step (pc' := 1) (ls' := [(0, .ref (P.1 + 1))]) (st' := [.ref (P.1 + 1)]) (h' := h) rfl rfl rfl ?_
  refine jx_gf (i := 1) rfl rfl hH (by decide) (hH.2 1 _ rfl).1 rfl hM ?_
  refine az_X_step (pc' := 5) (ls' := [(0, .ref (P.1 + 1))]) (st' := [.ref (P.1 + 1), .int M]) (h' := h) rfl rfl rfl ?_
  refine jx_gf (i := 1) rfl rfl hH (by decide) (hH.2 1 _ rfl).1 rfl hR ?_
  refine az_X_step (pc' := 9) (ls' := [(0, .ref (P.1 + 1))]) (st' := [.int (M * R)]) (h' := h) rfl rfl rfl ?_
  refine jx_ret rfl rfl rfl ?_
  exact ⟨rfl, M * R, rfl, ep⟩
theorem taround_ok {P : si_P} {d : Nat} {h : si_H} (hH : az_HI P az_tb h) (t : Int32) : az_X P (d + 1) 75 0 (lv_args 0 [.ref (P.1 + 1), .int t]) [] h (fun rv h' => h' = h ∧ jV rv (t.toInt % (ja h 1 0 * ja h 1 1))) := by
  obtain ⟨⟨M, hM, eM⟩, bM⟩ := jt_ok hH (i := 1) (k := 0) rfl
  obtain ⟨⟨R, hR, eR⟩, bR⟩ := jt_ok hH (i := 1) (k := 1) rfl
  have eM' : ja h 1 0 = M.toInt := eM.symm
  have eR' : ja h 1 1 = R.toInt := eR.symm
  have b1 : 4 ≤ ji h 1 0 ∧ ji h 1 0 ≤ 60 := bM
  have b2 : 2 ≤ ji h 1 1 ∧ ji h 1 1 ≤ 24 := bR
  rw [eM', eR']
  have bp := nm_mulnn (a := 4) (b := 60) (c := 2) (d := 24) (x := M.toInt) (y := R.toInt) (by decide) (by decide) (by omega) (by omega) (by omega) (by omega)
  have ep : (M * R).toInt = M.toInt * R.toInt := nm_mul (by omega) (by omega)
  refine az_X_step (pc' := 1) (ls' := [(0, .ref (P.1 + 1)), (1, .int t)]) (st' := [.int t]) (h' := h) rfl rfl rfl ?_
  refine az_X_step (pc' := 2) (ls' := [(0, .ref (P.1 + 1)), (1, .int t)]) (st' := [.ref (P.1 + 1), .int t]) (h' := h) rfl rfl rfl ?_
  refine jx_gf (i := 1) rfl rfl hH (by decide) (hH.2 1 _ rfl).1 rfl hM ?_
  refine az_X_step (pc' := 6) (ls' := [(0, .ref (P.1 + 1)), (1, .int t)]) (st' := [.ref (P.1 + 1), .int M, .int t]) (h' := h) rfl rfl rfl ?_
  refine jx_gf (i := 1) rfl rfl hH (by decide) (hH.2 1 _ rfl).1 rfl hR ?_
  refine az_X_step (pc' := 10) (ls' := [(0, .ref (P.1 + 1)), (1, .int t)]) (st' := [.int (M * R), .int t]) (h' := h) rfl rfl rfl ?_
  refine az_X_call (m' := 200) (as := [.int t, .int (M * R)]) (rest := []) rfl rfl rfl rfl rfl rfl ?_
  refine (modulo_ok t (M * R) (by omega)).mono ?_
  rintro rv10 h10 ⟨q10, z10, rfl, ez10⟩
  subst h10
  show az_X P _ 75 13 [(0, .ref (P.1 + 1)), (1, .int t)] [.int z10] _ _
  refine jx_ret rfl rfl rfl ?_
  exact ⟨rfl, z10, rfl, by rw [← ep]; exact ez10⟩
/-! single steps whose results are known by their integers, and steps that write -/
section Jn
variable {P : si_P} {d mi pc : Nat} {y : si_M} {ls : si_L} {st : List Value} {h : si_H} {Q : Option Value → si_H → Prop} {q : Nat × Nat × Nat}
theorem jn_add {a b : Int32} (hy : si_m mi = some y) (he : si_fetch mi pc = some (.iadd, 1, q)) (h1 : -2147483648 ≤ a.toInt + b.toInt) (h2 : a.toInt + b.toInt ≤ 2147483647) (kk : ∀ z : Int32, z.toInt = a.toInt + b.toInt → az_X P d mi (pc + 1) ls (.int z :: st) h Q) : az_X P d mi pc ls (.int b :: .int a :: st) h Q := az_X_step (pc' := pc + 1) (ls' := ls) (st' := .int (a + b) :: st) (h' := h) hy he rfl (kk _ (nm_add h1 h2))
theorem jn_sub {a b : Int32} (hy : si_m mi = some y) (he : si_fetch mi pc = some (.isub, 1, q)) (h1 : -2147483648 ≤ a.toInt - b.toInt) (h2 : a.toInt - b.toInt ≤ 2147483647) (kk : ∀ z : Int32, z.toInt = a.toInt - b.toInt → az_X P d mi (pc + 1) ls (.int z :: st) h Q) : az_X P d mi pc ls (.int b :: .int a :: st) h Q := az_X_step (pc' := pc + 1) (ls' := ls) (st' := .int (a - b) :: st) (h' := h) hy he rfl (kk _ (nm_sub h1 h2))
theorem jn_mul {a b : Int32} (hy : si_m mi = some y) (he : si_fetch mi pc = some (.imul, 1, q)) (h1 : -2147483648 ≤ a.toInt * b.toInt) (h2 : a.toInt * b.toInt ≤ 2147483647) (kk : ∀ z : Int32, z.toInt = a.toInt * b.toInt → az_X P d mi (pc + 1) ls (.int z :: st) h Q) : az_X P d mi pc ls (.int b :: .int a :: st) h Q := az_X_step (pc' := pc + 1) (ls' := ls) (st' := .int (a * b) :: st) (h' := h) hy he rfl (kk _ (nm_mul h1 h2))
theorem jn_neg {a : Int32} (hy : si_m mi = some y) (he : si_fetch mi pc = some (.ineg, 1, q)) (h1 : -2147483648 ≤ -a.toInt) (h2 : -a.toInt ≤ 2147483647) (kk : ∀ z : Int32, z.toInt = -a.toInt → az_X P d mi (pc + 1) ls (.int z :: st) h Q) : az_X P d mi pc ls (.int a :: st) h Q := az_X_step (pc' := pc + 1) (ls' := ls) (st' := .int (-a) :: st) (h' := h) hy he rfl (kk _ (nm_neg h1 h2))
theorem jn_nz {b : Int32} (hb : 1 ≤ b.toInt) : b ≠ 0 := fun e => by
  subst e
  have : (0 : Int32).toInt = 0 := by decide
  omega
theorem jn_div {a b : Int32} (hy : si_m mi = some y) (he : si_fetch mi pc = some (.idiv, 1, q)) (ha : 0 ≤ a.toInt) (hb : 1 ≤ b.toInt) (kk : ∀ z : Int32, z.toInt = a.toInt / b.toInt → az_X P d mi (pc + 1) ls (.int z :: st) h Q) : az_X P d mi pc ls (.int b :: .int a :: st) h Q := jx_div hy he (jn_nz hb) (kk _ (by rw [nm_div hb, nm_tdiv_nn ha]))
theorem jn_rem {a b : Int32} (hy : si_m mi = some y) (he : si_fetch mi pc = some (.irem, 1, q)) (ha : 0 ≤ a.toInt) (hb : 1 ≤ b.toInt) (kk : ∀ z : Int32, z.toInt = a.toInt % b.toInt → 0 ≤ z.toInt → z.toInt < b.toInt → az_X P d mi (pc + 1) ls (.int z :: st) h Q) : az_X P d mi pc ls (.int b :: .int a :: st) h Q := by
  have e : (a - a / b * b).toInt = a.toInt % b.toInt := by rw [nm_rem hb, Int.tmod_eq_emod_of_nonneg ha]
  have e1 := Int.emod_nonneg a.toInt (b := b.toInt) (by omega)
  have e2 := Int.emod_lt_of_pos a.toInt (b := b.toInt) (by omega)
  exact jx_rem hy he (jn_nz hb) (kk _ e (by omega) (by omega))
theorem jn_icd {k : ClassFile.Cond} {off : Int} {t : Nat} {a b : Int32} {c : Bool} (hy : si_m mi = some y) (he : si_fetch mi pc = some (.if_icmp k off, 3, q)) (ht : si_tgt pc off = some t) (hc : si_c2 k a b = c) (kk : az_X P d mi (if c = true then t else pc + 3) ls st h Q) : az_X P d mi pc ls (.int b :: .int a :: st) h Q := by
  refine jx_ic hy he ht (fun e => ?_) (fun e => ?_)
  · rw [hc] at e
    subst e
    exact kk
  · rw [hc] at e
    subst e
    exact kk
theorem jn_ifd {k : ClassFile.Cond} {off : Int} {t : Nat} {a : Int32} {c : Bool} (hy : si_m mi = some y) (he : si_fetch mi pc = some (.ifCond k off, 3, q)) (ht : si_tgt pc off = some t) (hc : si_c1 k a = c) (kk : az_X P d mi (if c = true then t else pc + 3) ls st h Q) : az_X P d mi pc ls (.int a :: st) h Q := by
  refine jx_if hy he ht (fun e => ?_) (fun e => ?_)
  · rw [hc] at e
    subst e
    exact kk
  · rw [hc] at e
    subst e
    exact kk
theorem jn_iinc {k : Nat} {n : Int} {x : Int32} {l : List (Nat × Value)} (hy : si_m mi = some y) (he : si_fetch mi pc = some (.iinc k n, 3, q)) (hk : k < y.2.2.2.1) (L : si_ld k ls = some (.int x)) (hl : jM l ls) (hc : l.all (fun q => q.2.category == 1) = true) (hn : -2147483648 ≤ n ∧ n ≤ 2147483647) (h1 : -2147483648 ≤ x.toInt + n) (h2 : x.toInt + n ≤ 2147483647) (kk : ∀ z : Int32, z.toInt = x.toInt + n → ∀ ls' : si_L, jM ((k, Value.int z) :: l.filter (fun q => !(q.1 == k))) ls' → az_X P d mi (pc + 3) ls' st h Q) : az_X P d mi pc ls st h Q := by
  have e : (Int32.ofInt n).toInt = n := nm_ofInt hn.1 hn.2
  exact jm_iinc hy he hk L rfl hl rfl hc (kk _ (by rw [nm_add (by omega) (by omega), e]))
theorem jm_aload {k : Nat} {x : Nat} (hy : si_m mi = some y) (he : si_fetch mi pc = some (.aload k, 2, q)) (L : si_ld k ls = some (.ref x)) (kk : az_X P d mi (pc + 2) ls (.ref x :: st) h Q) : az_X P d mi pc ls st h Q := by
  refine az_X_step (pc' := pc + 2) (ls' := ls) (st' := .ref x :: st) (h' := h) hy he ?_ kk
  unfold si_step
  dsimp only
  show (match si_ld (k : Nat) ls with | some v => if si_kd v 2 = true then some (pc + 2, ls, v :: st, h) else none | none => none) = _
  rw [L]
  all_goals rfl
theorem jn_gf {i k ci n idx q' : Nat} {b : Int × Int} (hy : si_m mi = some y) (he : si_fetch mi pc = some (.getfield idx, 3, ci, k, q')) (hH : az_HI P az_tb h) (hi : i < az_tb.length) (hs : h.2.1 i = .inl (ci, n)) (hn : ((si_cl[ci]?).map (fun q => q.2.2)).getD 0 = n) (ht : jt i k = some b) (kk : ∀ z : Int32, z.toInt = ja h i k → b.1 ≤ z.toInt ∧ z.toInt ≤ b.2 → az_X P d mi (pc + 3) ls (.int z :: st) h Q) : az_X P d mi pc ls (.ref (P.1 + i) :: st) h Q := by
  obtain ⟨⟨z, hz, ez⟩, b1, b2⟩ := jt_ok hH ht
  exact jx_gf hy he hH hi hs hn hz (kk z ez ⟨ez ▸ b1, ez ▸ b2⟩)
theorem jn_pf {i k ci n idx q' c : Nat} {l : List az_Q} {lo hi : Int} {x : Int32} (hy : si_m mi = some y) (he : si_fetch mi pc = some (.putfield idx, 3, ci, k, q')) (hH : az_HI P az_tb h) (hi' : i < az_tb.length) (hb : az_tb[i]? = some (.inl (ci, l))) (hs : h.2.1 i = .inl (ci, n)) (hn : ((si_cl[ci]?).map (fun q => q.2.2)).getD 0 = n) (hq : l[k]? = some (.inl (c, lo, hi))) (hty : si_fty ci k = .int) (hfin : si_fin ci k = false) (h1 : lo ≤ x.toInt) (h2 : x.toInt ≤ hi) (kk : ∀ h' : si_H, az_HI P az_tb h' → az_same_out [(i, k)] h h' → ja h' i k = x.toInt → az_X P d mi (pc + 3) ls st h' Q) : az_X P d mi pc ls (.int x :: .ref (P.1 + i) :: st) h Q := by
  refine az_X_step (pc' := pc + 3) (ls' := ls) (st' := st) (h' := (h.1, h.2.1, si_set h.2.2 i k (.int x))) hy he ?_ (kk _ (az_HI_set hH hb (fun q2 hq2 => ?_)) (az_out_set (by unfold az_in; rw [Bool.or_eq_true]; exact Or.inl (by simp))) ?_)
  · unfold si_step
    dsimp only
    rw [if_pos rfl, jix hH hi']
    dsimp only
    rw [if_pos ⟨by rw [hs, hn], by rw [hty]; exact vp_nar_int x, by rw [hty]; rfl, Or.inl hfin⟩]
  · cases hq.symm.trans hq2
    exact ⟨x, rfl, h1, h2⟩
  · show ji (h.1, h.2.1, si_set h.2.2 i k (.int x)) i k = x.toInt
    unfold ji si_set
    dsimp only
    rw [if_pos rfl, if_pos rfl]
theorem jn_in {x : Int32} {n : Nat} (h0 : 0 ≤ x.toInt) (h1 : x.toInt < n) : si_in x n = true := by
  have hc : x.toNatClampNeg = x.toInt.toNat := rfl
  unfold si_in
  rw [Bool.and_eq_true, decide_eq_true_eq, decide_eq_true_eq]
  exact ⟨(nm_leI 0 x).mpr (by have : (0 : Int32).toInt = 0 := by decide
                              omega), by omega⟩
theorem jn_set {i : Nat} {x : Int} {v : Int32} (h0 : 0 ≤ x) : ja (h.1, h.2.1, si_set h.2.2 i x.toNat (.int v)) i x = v.toInt ∧ ∀ j : Int, 0 ≤ j → j ≠ x → ja (h.1, h.2.1, si_set h.2.2 i x.toNat (.int v)) i j = ja h i j := by
  constructor
  · show ji (h.1, h.2.1, si_set h.2.2 i x.toNat (.int v)) i x.toNat = v.toInt
    unfold ji si_set
    dsimp only
    rw [if_pos rfl, if_pos rfl]
  · intro j hj hn
    show ji (h.1, h.2.1, si_set h.2.2 i x.toNat (.int v)) i j.toNat = ji h i j.toNat
    unfold ji si_set
    dsimp only
    rw [if_pos rfl, if_neg (by omega)]
theorem jn_ias {i n : Nat} {lo hi : Int} {x v : Int32} (hy : si_m mi = some y) (he : si_fetch mi pc = some (.iastore, 1, q)) (hH : az_HI P az_tb h) (hi' : i < az_tb.length) (ht : az_tb[i]? = some (.inr (.int, n, lo, hi))) (h0 : 0 ≤ x.toInt) (h1 : x.toInt < n) (v1 : lo ≤ v.toInt) (v2 : v.toInt ≤ hi) (kk : ∀ h' : si_H, az_HI P az_tb h' → az_same_out [(i, 1000000)] h h' → ja h' i x.toInt = v.toInt → (∀ j : Int, 0 ≤ j → j ≠ x.toInt → ja h' i j = ja h i j) → az_X P d mi (pc + 1) ls st h' Q) : az_X P d mi pc ls (.int v :: .int x :: .ref (P.1 + i) :: st) h Q := by
  have hc : x.toNatClampNeg = x.toInt.toNat := rfl
  refine az_X_step (pc' := pc + 1) (ls' := ls) (st' := st) (h' := (h.1, h.2.1, si_set h.2.2 i x.toInt.toNat (.int v))) hy he ?_ (kk _ (az_HI_set hH ht (fun _ => ?_)) (az_out_set (by unfold az_in; rw [Bool.or_eq_true]; exact Or.inr (by simp))) (jn_set h0).1 (jn_set h0).2)
  · unfold si_step
    dsimp only
    rw [if_pos rfl]
    unfold si_ast
    rw [jix hH hi']
    dsimp only
    rw [(hH.2 i _ ht).1]
    dsimp only
    rw [if_pos ⟨jn_in h0 h1, List.mem_singleton.mpr rfl⟩, hc]
    all_goals rfl
  · unfold az_aok
    rw [if_neg (fun e => by cases e)]
    exact ⟨v, rfl, v1, v2⟩
theorem jn_bas {i n : Nat} {lo hi : Int} {x v : Int32} (hy : si_m mi = some y) (he : si_fetch mi pc = some (.bastore, 1, q)) (hH : az_HI P az_tb h) (hi' : i < az_tb.length) (ht : az_tb[i]? = some (.inr (.byte, n, lo, hi))) (h0 : 0 ≤ x.toInt) (h1 : x.toInt < n) (v1 : lo ≤ -128) (v2 : 127 ≤ hi) (kk : ∀ h' : si_H, az_HI P az_tb h' → az_same_out [(i, 1000000)] h h' → ja h' i x.toInt = v.toInt8.toInt32.toInt → (∀ j : Int, 0 ≤ j → j ≠ x.toInt → ja h' i j = ja h i j) → az_X P d mi (pc + 1) ls st h' Q) : az_X P d mi pc ls (.int v :: .int x :: .ref (P.1 + i) :: st) h Q := by
  have hc : x.toNatClampNeg = x.toInt.toNat := rfl
  refine az_X_step (pc' := pc + 1) (ls' := ls) (st' := st) (h' := (h.1, h.2.1, si_set h.2.2 i x.toInt.toNat (.int v.toInt8.toInt32))) hy he ?_ (kk _ (az_HI_set hH ht (fun _ => ?_)) (az_out_set (by unfold az_in; rw [Bool.or_eq_true]; exact Or.inr (by simp))) (jn_set h0).1 (jn_set h0).2)
  · unfold si_step
    dsimp only
    rw [if_pos rfl]
    unfold si_ast
    rw [jix hH hi']
    dsimp only
    rw [(hH.2 i _ ht).1]
    dsimp only
    rw [if_pos ⟨jn_in h0 h1, by decide⟩, hc]
    all_goals rfl
  · unfold az_aok
    rw [if_neg (fun e => by cases e)]
    have := nm_i2b v
    exact ⟨v.toInt8.toInt32, rfl, by show lo ≤ _; omega, by show _ ≤ hi; omega⟩
theorem jn_bal {i n : Nat} {lo hi : Int} {x : Int32} (hy : si_m mi = some y) (he : si_fetch mi pc = some (.baload, 1, q)) (hH : az_HI P az_tb h) (hi' : i < az_tb.length) (ht : az_tb[i]? = some (.inr (.byte, n, lo, hi))) (h0 : 0 ≤ x.toInt) (h1 : x.toInt < n) (kk : ∀ z : Int32, z.toInt = ja h i x.toInt → lo ≤ z.toInt ∧ z.toInt ≤ hi → az_X P d mi (pc + 1) ls (.int z :: st) h Q) : az_X P d mi pc ls (.int x :: .ref (P.1 + i) :: st) h Q := by
  have hc : x.toNatClampNeg = x.toInt.toNat := rfl
  obtain ⟨hs, hr⟩ := hH.2 i _ ht
  have h3 := hr x.toInt.toNat (by show x.toInt.toNat < n; omega)
  unfold az_aok at h3
  rw [if_neg (fun e => by cases e)] at h3
  obtain ⟨z, hz, hz1, hz2⟩ := h3
  refine az_X_step (pc' := pc + 1) (ls' := ls) (st' := .int z :: st) (h' := h) hy he ?_ (kk z ?_ ⟨hz1, hz2⟩)
  · unfold si_step
    dsimp only
    rw [if_pos rfl]
    unfold si_ald
    rw [jix hH hi']
    dsimp only
    rw [hs]
    dsimp only
    rw [if_pos ⟨jn_in h0 h1, by decide⟩, hc, hz]
  · show z.toInt = ji h i x.toInt.toNat
    unfold ji
    rw [hz]
theorem jn_len {i n : Nat} {ty : FieldType} {lo hi : Int} {x : Int32} (hy : si_m mi = some y) (he : si_fetch mi pc = some (.arraylength, 1, q)) (hxa : P.2.1 < P.1) (hH : az_HI P az_tb h) (hi' : i < az_tb.length) (ht : az_tb[i]? = some (.inr (ty, n, lo, hi))) (hx : Int32.ofNat n = x) (kk : az_X P d mi (pc + 1) ls (.int x :: st) h Q) : az_X P d mi pc ls (.ref (P.1 + i) :: st) h Q := by
  subst hx
  refine az_X_step (pc' := pc + 1) (ls' := ls) (st' := .int (Int32.ofNat n) :: st) (h' := h) hy he ?_ kk
  unfold si_step
  dsimp only
  rw [if_pos rfl, if_neg (show ¬ (P.1 + i = P.2.1) by omega), jix hH hi']
  dsimp only
  rw [(hH.2 i _ ht).1]
theorem jn_retv (hy : si_m mi = some y) (he : si_fetch mi pc = some (.return_, 1, q)) (hr : y.2.2.2.2.1 = none) (k : Q none h) : az_X P d mi pc ls [] h Q := by
  refine az_X_ret (rv := none) hy he ?_ ?_ k
  · unfold si_step
    rfl
  · unfold si_ret
    dsimp only
    rw [if_pos ⟨rfl, hr⟩]
end Jn
theorem az_X.and {P : si_P} {d mi pc : Nat} {ls : si_L} {st : List Value} {h : si_H} {Q R : Option Value → si_H → Prop} (h1 : az_X P d mi pc ls st h Q) (h2 : az_X P d mi pc ls st h R) : az_X P d mi pc ls st h (fun rv h' => Q rv h' ∧ R rv h') := by
  obtain ⟨n, rv, h', e, q⟩ := h1
  obtain ⟨k, rv2, h2', e2, q2⟩ := h2
  have a1 := si_run_le (k := n + k) (by omega) e
  have a2 := si_run_le (k := n + k) (by omega) e2
  rw [a1] at a2
  cases a2
  exact ⟨n + k, rv, h', a1, q, q2⟩
section Js
variable {P : si_P} {d mi pc : Nat} {y : si_M} {ls : si_L} {st : List Value} {h : si_H} {Q : Option Value → si_H → Prop} {q : Nat × Nat × Nat × Nat}
theorem jn_tsk {dd lo hi off : Int} {offs : Array Int} {t : Nat} {x : Int32} (hy : si_m mi = some y) (he : si_fetch mi pc = some (.tableswitch dd lo hi offs, q)) (h1 : ¬ (x.toInt < lo ∨ hi < x.toInt)) (h2 : offs[(x.toInt - lo).toNat]? = some off) (ht : si_tgt pc off = some t) (kk : az_X P d mi t ls st h Q) : az_X P d mi pc ls (.int x :: st) h Q := by
  refine az_X_step (pc' := t) (ls' := ls) (st' := st) (h' := h) hy he ?_ kk
  unfold si_step
  dsimp only
  rw [if_neg h1, h2]
  dsimp only
  rw [ht]
theorem jn_tsd {dd lo hi : Int} {offs : Array Int} {t : Nat} {x : Int32} (hy : si_m mi = some y) (he : si_fetch mi pc = some (.tableswitch dd lo hi offs, q)) (h1 : x.toInt < lo ∨ hi < x.toInt) (ht : si_tgt pc dd = some t) (kk : az_X P d mi t ls st h Q) : az_X P d mi pc ls (.int x :: st) h Q := by
  refine az_X_step (pc' := t) (ls' := ls) (st' := st) (h' := h) hy he ?_ kk
  unfold si_step
  dsimp only
  rw [if_pos h1, ht]
end Js
/-! WHAT CAN BE TOLD: how many below a number; those of a block; those with one remainder -/
set_option maxRecDepth 100000
def jct (p : Nat → Bool) : Nat → Int
  | 0 => 0
  | k + 1 => jct p k + (if p k = true then 1 else 0)
theorem jct_s (p : Nat → Bool) (k : Nat) : jct p (k + 1) = jct p k + (if p k = true then 1 else 0) := rfl
theorem jct_bd (p : Nat → Bool) : ∀ n : Nat, 0 ≤ jct p n ∧ jct p n ≤ n
  | 0 => by
    show (0 : Int) ≤ 0 ∧ (0 : Int) ≤ ((0 : Nat) : Int)
    omega
  | n + 1 => by
    have i := jct_bd p n
    rw [jct_s]
    split <;> omega
theorem jct_cg {p q : Nat → Bool} : ∀ {n : Nat}, (∀ j : Nat, j < n → p j = q j) → jct p n = jct q n
  | 0, _ => rfl
  | n + 1, h => by
    rw [jct_s, jct_s, jct_cg (n := n) (fun j hj => h j (by omega)), h n (by omega)]
theorem jct_add (p : Nat → Bool) (n : Nat) : ∀ k : Nat, jct p (n + k) = jct p n + jct (fun j => p (n + j)) k
  | 0 => by
    show jct p n = jct p n + 0
    omega
  | k + 1 => by
    rw [← Nat.add_assoc, jct_s, jct_add p n k, jct_s]
    omega
theorem jct_0 {p : Nat → Bool} : ∀ {n : Nat}, (∀ j : Nat, j < n → p j = false) → jct p n = 0
  | 0, _ => rfl
  | n + 1, h => by
    rw [jct_s, jct_0 (n := n) (fun j hj => h j (by omega)), h n (by omega)]
    rfl
theorem jct_or {p q s : Nat → Bool} : ∀ {n : Nat}, (∀ j : Nat, j < n → (if s j = true then (1 : Int) else 0) = (if p j = true then 1 else 0) + (if q j = true then 1 else 0)) → jct s n = jct p n + jct q n
  | 0, _ => rfl
  | n + 1, h => by
    rw [jct_s, jct_s, jct_s, jct_or (n := n) (fun j hj => h j (by omega)), h n (by omega)]
    omega
theorem jct_pos {p : Nat → Bool} : ∀ {n : Nat}, 0 < jct p n ↔ ∃ j : Nat, j < n ∧ p j = true
  | 0 => ⟨fun h => absurd h (by show ¬ (0 : Int) < 0; omega), fun ⟨j, h, _⟩ => absurd h (by omega)⟩
  | n + 1 => by
    have i := jct_pos (p := p) (n := n)
    have b := jct_bd p n
    rw [jct_s]
    constructor
    · intro h
      by_cases hp : p n = true
      · exact ⟨n, by omega, hp⟩
      · rw [if_neg hp, Int.add_zero] at h
        obtain ⟨j, h1, h2⟩ := i.mp h
        exact ⟨j, by omega, h2⟩
    · rintro ⟨j, h1, h2⟩
      by_cases hj : j = n
      · subst hj
        rw [if_pos h2]
        omega
      · have := i.mpr ⟨j, by omega, h2⟩
        split <;> omega
theorem jct_blk {w : Nat} (hw : 0 < w) (s : Nat) (q : Nat → Bool) : ∀ k : Nat, jct (fun u => decide (u / w = s) && q u) (w * k) = if s < k then jct (fun j => q (w * s + j)) w else 0
  | 0 => by
    rw [if_neg (Nat.not_lt_zero s)]
    rfl
  | k + 1 => by
    have e : ∀ j : Nat, j < w → (w * k + j) / w = k := fun j hj => by rw [Nat.mul_add_div hw, Nat.div_eq_of_lt hj, Nat.add_zero]
    have i := jct_blk hw s q k
    rw [Nat.mul_succ, jct_add, i]
    by_cases hs : s = k
    · subst hs
      rw [if_neg (Nat.lt_irrefl s), if_pos (Nat.lt_succ_self s), Int.zero_add]
      exact jct_cg (fun j hj => by
        show (decide ((w * s + j) / w = s) && q (w * s + j)) = q (w * s + j)
        rw [e j hj, decide_eq_true rfl, Bool.true_and])
    · have z : jct (fun j => decide ((w * k + j) / w = s) && q (w * k + j)) w = 0 := jct_0 (fun j hj => by
        show (decide ((w * k + j) / w = s) && q (w * k + j)) = false
        rw [e j hj, decide_eq_false (fun e => hs e.symm), Bool.false_and])
      rw [z, Int.add_zero]
      by_cases h2 : s < k
      · rw [if_pos h2, if_pos (Nat.lt_succ_of_lt h2)]
      · rw [if_neg h2, if_neg (by omega)]
theorem jdvs {D m : Int} (hm : 1 ≤ m) : (D + 1) / m = D / m + (if (D + 1) % m = 0 then 1 else 0) := by
  have e := Int.mul_ediv_add_emod D m
  have b0 := Int.emod_nonneg D (b := m) (by omega)
  have b1 := Int.emod_lt_of_pos D (b := m) (by omega)
  by_cases c : D % m + 1 = m
  · have u := (Int.ediv_emod_unique (a := D + 1) (b := m) (r := 0) (q := D / m + 1) (by omega)).mpr ⟨by rw [Int.mul_add, Int.mul_one]; omega, by omega, by omega⟩
    rw [u.1, if_pos u.2]
  · have u := (Int.ediv_emod_unique (a := D + 1) (b := m) (r := D % m + 1) (q := D / m) (by omega)).mpr ⟨by omega, by omega, by omega⟩
    rw [u.1, if_neg (by rw [u.2]; omega), Int.add_zero]
theorem jcm_p {m a l : Int} (hm : 1 ≤ m) (hl : 0 ≤ l ∧ l < m) (n : Int) : (a + n) % m = l ↔ (n - (l - a) % m) % m = 0 := by
  have e := Int.mul_ediv_add_emod (l - a) m
  have h1 : (a + n) % m = l ↔ (a + n) % m = l % m := by rw [Int.emod_eq_of_lt hl.1 hl.2]
  rw [h1, Int.emod_eq_emod_iff_emod_sub_eq_zero, show a + n - l = n - (l - a) % m - m * ((l - a) / m) by omega, Int.sub_mul_emod_self_left]
theorem jcm {m a l : Int} (hm : 1 ≤ m) (hl : 0 ≤ l ∧ l < m) : ∀ n : Nat, jct (fun j => decide ((a + (j : Int)) % m = l)) n = (if (l - a) % m < n then 1 + ((n : Int) - 1 - (l - a) % m) / m else 0)
  | 0 => by
    have b0 := Int.emod_nonneg (l - a) (b := m) (by omega)
    rw [if_neg (by omega)]
    rfl
  | n + 1 => by
    have b0 := Int.emod_nonneg (l - a) (b := m) (by omega)
    have b1 := Int.emod_lt_of_pos (l - a) (b := m) (by omega)
    have i := jcm hm hl (a := a) n
    have p := jcm_p hm hl (a := a) (n : Int)
    rw [jct_s, i]
    generalize (l - a) % m = x at *
    rcases Int.lt_trichotomy (n : Int) x with c | c | c
    · have p2 : ¬ ((n : Int) - x) % m = 0 := by
        rw [show ((n : Int) - x) = ((n : Int) - x + m) + m * (-1) by omega, Int.add_mul_emod_self_left, Int.emod_eq_of_lt (by omega) (by omega)]
        omega
      rw [decide_eq_false (fun q => p2 (p.mp q)), if_neg (show ¬ x < (n : Int) by omega), if_neg (show ¬ x < ((n + 1 : Nat) : Int) by omega)]
      rfl
    · have p2 : ((n : Int) - x) % m = 0 := by rw [show ((n : Int) - x) = 0 by omega, Int.zero_emod]
      rw [decide_eq_true (p.mpr p2), if_neg (show ¬ x < (n : Int) by omega), if_pos (show x < ((n + 1 : Nat) : Int) by omega), if_pos rfl, show ((n + 1 : Nat) : Int) - 1 - x = 0 by omega, Int.zero_ediv]
      rfl
    · have v := jdvs (D := (n : Int) - 1 - x) hm
      rw [show (n : Int) - 1 - x + 1 = n - x by omega] at v
      rw [if_pos (show x < (n : Int) by omega), if_pos (show x < ((n + 1 : Nat) : Int) by omega), show ((n + 1 : Nat) : Int) - 1 - x = n - x by omega, v]
      by_cases p2 : ((n : Int) - x) % m = 0
      · rw [if_pos p2, decide_eq_true (p.mpr p2), if_pos rfl]
        omega
      · rw [if_neg p2, decide_eq_false (fun q => p2 (p.mp q)), if_neg (by decide)]
        omega
/-- how many times look so -/
def jam (m r : Int) (y : Nat) (L : Int) : Int := jct (fun t => decide (jlk m r t = L)) y
/-- how many have the short hand at s and the long one at l -/
def jmq (m r s l : Int) : Int := jct (fun j => decide ((s * r + (j : Int)) % m = l)) r.toNat
theorem jmq_eq {m r s l : Int} (hm : 1 ≤ m) (hr : 0 ≤ r) (hs : 0 ≤ s * r) (hl : 0 ≤ l ∧ l < m) : (jlw m r s l < 0 → jmq m r s l = 0) ∧ (0 ≤ jlw m r s l → s * r ≤ jlw m r s l ∧ jlw m r s l < s * r + r ∧ jmq m r s l = 1 + (s * r + r - 1 - jlw m r s l) / m) := by
  have b0 := Int.emod_nonneg (l - s * r) (b := m) (by omega)
  unfold jmq
  rw [jcm hm hl]
  unfold jlw
  by_cases c : s * r + (l - s * r) % m < s * r + r
  · rw [if_pos c, if_pos (by omega)]
    exact ⟨fun h => absurd h (by omega), fun _ => ⟨by omega, c, by rw [show s * r + r - 1 - (s * r + (l - s * r) % m) = (r.toNat : Int) - 1 - (l - s * r) % m by omega]⟩⟩
  · rw [if_neg c, if_neg (by omega)]
    exact ⟨fun _ => rfl, fun h => absurd h (by omega)⟩
theorem jlk_iff {a b s l : Int} (ha : 0 ≤ a ∧ a < 64) (hb : 0 ≤ b ∧ b < 64) (hs : 0 ≤ s ∧ s < 64) (hl : 0 ≤ l ∧ l < 64) : 64 * min a b + max a b = 64 * min l s + max l s ↔ (b = s ∧ a = l) ∨ (b = l ∧ a = s) := by
  omega
theorem jam_at {m r : Int} {y : Nat} (hm : 4 ≤ m ∧ m ≤ 60) (hr : 2 ≤ r ∧ r ≤ 24) (hy : m * r = y) {s l : Int} (hs : 0 ≤ s ∧ s < m) (hl : 0 ≤ l ∧ l < m) : jam m r y (64 * min l s + max l s) = jmq m r s l + (if s = l then 0 else jmq m r l s) := by
  obtain ⟨w, rfl⟩ : ∃ w : Nat, r = w := ⟨r.toNat, by omega⟩
  obtain ⟨k, rfl⟩ : ∃ k : Nat, m = k := ⟨m.toNat, by omega⟩
  obtain ⟨s, rfl⟩ : ∃ x : Nat, s = x := ⟨s.toNat, by omega⟩
  obtain ⟨l, rfl⟩ : ∃ x : Nat, l = x := ⟨l.toNat, by omega⟩
  have ey : y = w * k := by
    have : ((w * k : Nat) : Int) = y := by rw [← hy, Int.natCast_mul, Int.mul_comm]
    omega
  subst ey
  have blk : ∀ (a b : Nat), a < k → jct (fun u => decide (u / w = a) && decide (((u : Nat) : Int) % (k : Int) = (b : Int))) (w * k) = jmq k w a b := by
    intro a b ha
    rw [jct_blk (by omega) a _ k, if_pos ha]
    unfold jmq
    rw [Int.toNat_natCast]
    exact jct_cg (fun j hj => by
      show decide ((((w * a + j : Nat) : Int)) % (k : Int) = (b : Int)) = decide (((a : Int) * (w : Int) + (j : Int)) % (k : Int) = (b : Int))
      rw [Int.natCast_add, Int.natCast_mul, Int.mul_comm])
  have iff : ∀ u : Nat, u < w * k → (jlk k w u = 64 * min (l : Int) s + max (l : Int) s ↔ ((u / w = s ∧ (u : Int) % k = l) ∨ (u / w = l ∧ (u : Int) % k = s))) := by
    intro u hu
    have d := jdm (m := (k : Int)) (r := (w : Int)) (a := (u : Int)) hm hr (by omega) (by rw [hy]; omega)
    unfold jlk
    rw [jlk_iff ⟨d.1.1, by omega⟩ ⟨d.2.1, by omega⟩ ⟨hs.1, by omega⟩ ⟨hl.1, by omega⟩, ← Int.natCast_ediv u w]
    omega
  unfold jam
  by_cases c : (s : Int) = l
  · rw [if_pos c, Int.add_zero, ← blk s l (by omega)]
    refine jct_cg (fun u hu => ?_)
    have i := iff u hu
    show decide (jlk k w u = 64 * min (l : Int) s + max (l : Int) s) = (decide (u / w = s) && decide ((u : Int) % k = l))
    rw [← Bool.decide_and]
    exact decide_eq_decide.mpr (i.trans ⟨fun q => by rcases q with q | q <;> (constructor <;> omega), fun q => Or.inl q⟩)
  · rw [if_neg c, ← blk s l (by omega), ← blk l s (by omega)]
    refine jct_or (fun u hu => ?_)
    have i := iff u hu
    rw [← Bool.decide_and, ← Bool.decide_and]
    by_cases q1 : u / w = s ∧ (u : Int) % k = l
    · rw [decide_eq_true q1, decide_eq_true (i.mpr (Or.inl q1)), decide_eq_false (fun q2 => c (by omega))]
      rfl
    · by_cases q2 : u / w = l ∧ (u : Int) % k = s
      · rw [decide_eq_false q1, decide_eq_true (i.mpr (Or.inr q2)), decide_eq_true q2]
        rfl
      · rw [decide_eq_false q1, decide_eq_false q2, decide_eq_false (fun q => (i.mp q).elim q1 q2)]
        rfl
/-- a time that can be told -/
def jtl (m r : Int) (y : Nat) (t : Int) : Bool := decide (jam m r y (jlk m r t) = 1)
def jb (b : Bool) : Int := if b = true then 1 else 0
theorem cmax2_ok {P : si_P} {d : Nat} {h : si_H} (a b : Int32) : az_X P d 343 0 (lv_args 0 [.int a, .int b]) [] h (fun rv h' => h' = h ∧ jV rv (max a.toInt b.toInt)) := by
  have hl : jM [(0, .int a), (1, .int b)] (lv_args 0 [.int a, .int b]) := jM_args [0, 1] rfl (by decide)
  generalize lv_args 0 [.int a, .int b] = ls at hl
  refine jm_iload_n (x := a) rfl rfl (jM_at hl 0 rfl) ?_
  refine jm_iload_n (x := b) rfl rfl (jM_at hl 1 rfl) ?_
  refine jx_ic (t := 9) rfl rfl rfl (fun hc2 => ?_) (fun hc2 => ?_)
  · have g2 := jc2_lt_t hc2
    refine jm_iload_n (x := b) rfl rfl (jM_at hl 1 rfl) ?_
    refine jx_ret rfl rfl rfl ?_
    exact ⟨rfl, b, rfl, by omega⟩
  · have g2 := jc2_lt_f hc2
    refine jm_iload_n (x := a) rfl rfl (jM_at hl 0 rfl) ?_
    refine az_X_step (pc' := 10) (ls' := ls) (st' := [.int a]) (h' := h) rfl rfl rfl ?_
    refine jx_ret rfl rfl rfl ?_
    exact ⟨rfl, a, rfl, by omega⟩
theorem cmin2_ok {P : si_P} {d : Nat} {h : si_H} (a b : Int32) : az_X P d 344 0 (lv_args 0 [.int a, .int b]) [] h (fun rv h' => h' = h ∧ jV rv (min a.toInt b.toInt)) := by
  have hl : jM [(0, .int a), (1, .int b)] (lv_args 0 [.int a, .int b]) := jM_args [0, 1] rfl (by decide)
  generalize lv_args 0 [.int a, .int b] = ls at hl
  refine jm_iload_n (x := a) rfl rfl (jM_at hl 0 rfl) ?_
  refine jm_iload_n (x := b) rfl rfl (jM_at hl 1 rfl) ?_
  refine jx_ic (t := 9) rfl rfl rfl (fun hc2 => ?_) (fun hc2 => ?_)
  · have g2 := jc2_gt_t hc2
    refine jm_iload_n (x := b) rfl rfl (jM_at hl 1 rfl) ?_
    refine jx_ret rfl rfl rfl ?_
    exact ⟨rfl, b, rfl, by omega⟩
  · have g2 := jc2_gt_f hc2
    refine jm_iload_n (x := a) rfl rfl (jM_at hl 0 rfl) ?_
    refine az_X_step (pc' := 10) (ls' := ls) (st' := [.int a]) (h' := h) rfl rfl rfl ?_
    refine jx_ret rfl rfl rfl ?_
    exact ⟨rfl, a, rfl, by omega⟩
theorem cmany_ok {P : si_P} {d : Nat} {h : si_H} (hH : az_HI P az_tb h) (s l : Int32) (hs : 0 ≤ s.toInt ∧ s.toInt < ja h 1 0) (hl : 0 ≤ l.toInt ∧ l.toInt < ja h 1 0) : az_X P (d + 2) 85 0 (lv_args 0 [.ref (P.1 + 1), .int s, .int l]) [] h (fun rv h' => h' = h ∧ jV rv (jmq (ja h 1 0) (ja h 1 1) s.toInt l.toInt)) := by
  have bm : 4 ≤ ja h 1 0 ∧ ja h 1 0 ≤ 60 := ja_bd hH (i := 1) (k := 0) rfl
  have br : 2 ≤ ja h 1 1 ∧ ja h 1 1 ≤ 24 := ja_bd hH (i := 1) (k := 1) rfl
  have bp := nm_mulnn (a := 4) (b := 60) (c := 2) (d := 24) (x := ja h 1 0) (y := ja h 1 1) (by decide) (by decide) bm.1 bm.2 br.1 br.2
  have bs := nm_mulnn (a := 0) (b := 60) (c := 2) (d := 24) (x := s.toInt) (y := ja h 1 1) (by decide) (by decide) hs.1 (by omega) br.1 br.2
  have hl : jM [(0, .ref (P.1 + 1)), (1, .int s), (2, .int l)] (lv_args 0 [.ref (P.1 + 1), .int s, .int l]) := jM_args [0, 1, 2] rfl (by decide)
  generalize lv_args 0 [.ref (P.1 + 1), .int s, .int l] = ls at hl
  have k0 : (0 : Int32).toInt = 0 := by decide
  have k1 : (1 : Int32).toInt = 1 := by decide
  refine jm_aload_n (x := P.1 + 1) rfl rfl (jM_at hl 0 rfl) ?_
  refine jm_iload_n (x := s) rfl rfl (jM_at hl 1 rfl) ?_
  refine jm_iload_n (x := l) rfl rfl (jM_at hl 2 rfl) ?_
  refine az_X_call (m' := 83) (as := [.ref (P.1 + 1), .int s, .int l]) (rest := []) rfl rfl rfl rfl rfl ?_ ?_
  · unfold si_call
    dsimp only
    rw [if_pos ⟨rfl, rfl⟩]
    show (match si_ix P h (P.1 + 1) with | some i => _ | none => none) = _
    rw [jix hH (by decide)]
    dsimp only
    rw [(hH.2 1 _ rfl).1]
    rfl
  refine (lowest_ok hH s l (by omega) (by omega)).mono ?_
  rintro rv3 h3 ⟨q3, z3, rfl, ez3⟩
  subst h3
  show az_X P _ 85 6 ls [.int z3] _ _
  refine jm_istore_n (l' := [(3, .int z3), (0, .ref (P.1 + 1)), (1, .int s), (2, .int l)]) rfl rfl (by decide) hl rfl rfl (fun ls6 hl6 => ?_)
  refine jm_iload_n (x := s) rfl rfl (jM_at hl6 2 rfl) ?_
  refine az_X_step (pc' := 9) (ls' := ls6) (st' := [.int 1, .int s]) (h' := h) rfl rfl rfl ?_
  refine jn_add (a := s) (b := 1) rfl rfl (by omega) (by omega) (fun z9 ez9 => ?_)
  rw [show (1 : Int32).toInt = 1 by decide] at ez9
  refine jm_aload_n (x := P.1 + 1) rfl rfl (jM_at hl6 1 rfl) ?_
  refine jn_gf (i := 1) (k := 1) rfl rfl hH (by decide) (hH.2 1 _ rfl).1 rfl rfl (fun z11 (ez11 : z11.toInt = ja h 1 1) (bz11 : 2 ≤ z11.toInt ∧ z11.toInt ≤ 24) => ?_)
  have hp14 := nm_mulnn (a := 0) (b := 61) (c := 2) (d := 24) (x := z9.toInt) (y := z11.toInt) (by decide) (by decide) (by omega) (by omega) (by omega) (by omega)
  refine jn_mul (a := z9) (b := z11) rfl rfl (by omega) (by omega) (fun z14 ez14 => ?_)
  refine az_X_step (pc' := 16) (ls' := ls6) (st' := [.int 1, .int z14]) (h' := h) rfl rfl rfl ?_
  refine jn_sub (a := z14) (b := 1) rfl rfl (by omega) (by omega) (fun z16 ez16 => ?_)
  rw [show (1 : Int32).toInt = 1 by decide] at ez16
  refine jm_istore (l' := [(4, .int z16), (3, .int z3), (0, .ref (P.1 + 1)), (1, .int s), (2, .int l)]) rfl rfl (by decide) hl6 rfl rfl (fun ls17 hl17 => ?_)
  refine jm_iload_n (x := z3) rfl rfl (jM_at hl17 1 rfl) ?_
  refine jx_if (t := 27) rfl rfl rfl (fun hc20 => ?_) (fun hc20 => ?_)
  · have g20 := jc1_ge_t hc20
    refine az_X_step (pc' := 28) (ls' := ls17) (st' := [.int 1]) (h' := h) rfl rfl rfl ?_
    refine jm_iload (x := z16) rfl rfl (jM_at hl17 0 rfl) ?_
    refine jm_iload_n (x := z3) rfl rfl (jM_at hl17 1 rfl) ?_
    have je0 := jmq_eq (m := ja h 1 0) (r := ja h 1 1) (s := s.toInt) (l := l.toInt) (by omega) (by omega) (by omega) (by omega)
    have je1 := je0.2 (by omega)
    refine jn_sub (a := z16) (b := z3) rfl rfl (by omega) (by omega) (fun z31 ez31 => ?_)
    refine jm_aload_n (x := P.1 + 1) rfl rfl (jM_at hl17 2 rfl) ?_
    refine jn_gf (i := 1) (k := 0) rfl rfl hH (by decide) (hH.2 1 _ rfl).1 rfl rfl (fun z33 (ez33 : z33.toInt = ja h 1 0) (bz33 : 4 ≤ z33.toInt ∧ z33.toInt ≤ 60) => ?_)
    refine az_X_call (m' := 199) (as := [.int z31, .int z33]) (rest := [.int 1]) rfl rfl rfl rfl rfl rfl ?_
    refine (through_ok z31 z33 (by
      have je := jmq_eq (m := ja h 1 0) (r := ja h 1 1) (s := s.toInt) (l := l.toInt) (by omega) (by omega) (by omega) (by omega)
      have ep : z9.toInt * z11.toInt = s.toInt * ja h 1 1 + ja h 1 1 := by rw [ez9, ez11, Int.add_mul, Int.one_mul]
      have := je.2 (by omega)
      omega) (by omega)).mono ?_
    rintro rv36 h36 ⟨q36, z36, rfl, ez36⟩
    subst h36
    show az_X P _ 85 39 ls17 [.int z36, .int 1] _ _
    have jb1 := jct_bd (fun j => decide ((s.toInt * ja h 1 1 + (j : Int)) % ja h 1 0 = l.toInt)) (ja h 1 1).toNat
    have jb2 : z36.toInt + 1 = jmq (ja h 1 0) (ja h 1 1) s.toInt l.toInt := by
      have ep : z9.toInt * z11.toInt = s.toInt * ja h 1 1 + ja h 1 1 := by rw [ez9, ez11, Int.add_mul, Int.one_mul]
      rw [je1.2.2, ez36, ez33, show z31.toInt = s.toInt * ja h 1 1 + ja h 1 1 - 1 - jlw (ja h 1 0) (ja h 1 1) s.toInt l.toInt by omega]
      omega
    have jb3 : 0 ≤ z36.toInt + 1 ∧ z36.toInt + 1 ≤ 24 := by
      rw [jb2]
      unfold jmq
      omega
    refine jn_add (a := 1) (b := z36) rfl rfl (by omega) (by omega) (fun z39 ez39 => ?_)
    rw [show (1 : Int32).toInt = 1 by decide] at ez39
    refine jx_ret rfl rfl rfl ?_
    have je := jmq_eq (m := ja h 1 0) (r := ja h 1 1) (s := s.toInt) (l := l.toInt) (by omega) (by omega) (by omega) (by omega)
    have ep : z9.toInt * z11.toInt = s.toInt * ja h 1 1 + ja h 1 1 := by rw [ez9, ez11, Int.add_mul, Int.one_mul]
    exact ⟨rfl, z39, rfl, by rw [(je.2 (by omega)).2.2, ez39, ez36, ez33, show z31.toInt = s.toInt * ja h 1 1 + ja h 1 1 - 1 - jlw (ja h 1 0) (ja h 1 1) s.toInt l.toInt by omega]⟩
  · have g20 := jc1_ge_f hc20
    refine az_X_step (pc' := 24) (ls' := ls17) (st' := [.int 0]) (h' := h) rfl rfl rfl ?_
    refine az_X_step (pc' := 40) (ls' := ls17) (st' := [.int 0]) (h' := h) rfl rfl rfl ?_
    refine jx_ret rfl rfl rfl ?_
    have je := jmq_eq (m := ja h 1 0) (r := ja h 1 1) (s := s.toInt) (l := l.toInt) (by omega) (by omega) (by omega) (by omega)
    have ep : z9.toInt * z11.toInt = s.toInt * ja h 1 1 + ja h 1 1 := by rw [ez9, ez11, Int.add_mul, Int.one_mul]
    exact ⟨rfl, 0, rfl, by rw [je.1 (by omega)]; decide⟩
theorem calike_ok {P : si_P} {d : Nat} {h : si_H} (hH : az_HI P az_tb h) (t : Int32) (ht : 0 ≤ t.toInt ∧ t.toInt < ja h 1 0 * ja h 1 1) : az_X P (d + 3) 86 0 (lv_args 0 [.ref (P.1 + 1), .int t]) [] h (fun rv h' => h' = h ∧ jV rv (jam (ja h 1 0) (ja h 1 1) (ja h 1 0 * ja h 1 1).toNat (jlk (ja h 1 0) (ja h 1 1) t.toInt))) := by
  have bm : 4 ≤ ja h 1 0 ∧ ja h 1 0 ≤ 60 := ja_bd hH (i := 1) (k := 0) rfl
  have br : 2 ≤ ja h 1 1 ∧ ja h 1 1 ≤ 24 := ja_bd hH (i := 1) (k := 1) rfl
  have bp := nm_mulnn (a := 4) (b := 60) (c := 2) (d := 24) (x := ja h 1 0) (y := ja h 1 1) (by decide) (by decide) bm.1 bm.2 br.1 br.2
  have dm := jdm (m := ja h 1 0) (r := ja h 1 1) (a := t.toInt) bm br ht.1 ht.2
  have hl : jM [(0, .ref (P.1 + 1)), (1, .int t)] (lv_args 0 [.ref (P.1 + 1), .int t]) := jM_args [0, 1] rfl (by decide)
  generalize lv_args 0 [.ref (P.1 + 1), .int t] = ls at hl
  refine jm_aload_n (x := P.1 + 1) rfl rfl (jM_at hl 0 rfl) ?_
  refine jm_iload_n (x := t) rfl rfl (jM_at hl 1 rfl) ?_
  refine az_X_call (m' := 76) (as := [.ref (P.1 + 1), .int t]) (rest := []) rfl rfl rfl rfl rfl ?_ ?_
  · unfold si_call
    dsimp only
    rw [if_pos ⟨rfl, rfl⟩]
    show (match si_ix P h (P.1 + 1) with | some i => _ | none => none) = _
    rw [jix hH (by decide)]
    dsimp only
    rw [(hH.2 1 _ rfl).1]
    rfl
  refine (cshort_ok hH t ht.1).mono ?_
  rintro rv2 h2 ⟨q2, z2, rfl, ez2⟩
  subst h2
  show az_X P _ 86 5 ls [.int z2] _ _
  refine jm_istore_n (l' := [(2, .int z2), (0, .ref (P.1 + 1)), (1, .int t)]) rfl rfl (by decide) hl rfl rfl (fun ls5 hl5 => ?_)
  refine jm_aload_n (x := P.1 + 1) rfl rfl (jM_at hl5 1 rfl) ?_
  refine jm_iload_n (x := t) rfl rfl (jM_at hl5 2 rfl) ?_
  refine az_X_call (m' := 77) (as := [.ref (P.1 + 1), .int t]) (rest := []) rfl rfl rfl rfl rfl ?_ ?_
  · unfold si_call
    dsimp only
    rw [if_pos ⟨rfl, rfl⟩]
    show (match si_ix P h (P.1 + 1) with | some i => _ | none => none) = _
    rw [jix hH (by decide)]
    dsimp only
    rw [(hH.2 1 _ rfl).1]
    rfl
  refine (clong_ok hH t).mono ?_
  rintro rv8 h8 ⟨q8, z8, rfl, ez8⟩
  subst h8
  show az_X P _ 86 11 ls5 [.int z8] _ _
  refine jm_istore_n (l' := [(3, .int z8), (2, .int z2), (0, .ref (P.1 + 1)), (1, .int t)]) rfl rfl (by decide) hl5 rfl rfl (fun ls11 hl11 => ?_)
  refine jm_aload_n (x := P.1 + 1) rfl rfl (jM_at hl11 2 rfl) ?_
  refine jm_iload_n (x := z2) rfl rfl (jM_at hl11 1 rfl) ?_
  refine jm_iload_n (x := z8) rfl rfl (jM_at hl11 0 rfl) ?_
  refine az_X_call (m' := 85) (as := [.ref (P.1 + 1), .int z2, .int z8]) (rest := []) rfl rfl rfl rfl rfl ?_ ?_
  · unfold si_call
    dsimp only
    rw [if_pos ⟨rfl, rfl⟩]
    show (match si_ix P h (P.1 + 1) with | some i => _ | none => none) = _
    rw [jix hH (by decide)]
    dsimp only
    rw [(hH.2 1 _ rfl).1]
    rfl
  refine (cmany_ok hH z2 z8 (by omega) (by omega)).mono ?_
  rintro rv15 h15 ⟨q15, z15, rfl, ez15⟩
  subst h15
  have bz15 := jct_bd (fun j => decide ((z2.toInt * ja h 1 1 + (j : Int)) % ja h 1 0 = z8.toInt)) (ja h 1 1).toNat
  have cz15 : 0 ≤ z15.toInt ∧ z15.toInt ≤ 24 := by
    rw [ez15]
    unfold jmq
    omega
  show az_X P _ 86 18 ls11 [.int z15] _ _
  refine jm_istore (l' := [(4, .int z15), (3, .int z8), (2, .int z2), (0, .ref (P.1 + 1)), (1, .int t)]) rfl rfl (by decide) hl11 rfl rfl (fun ls18 hl18 => ?_)
  refine jm_iload_n (x := z2) rfl rfl (jM_at hl18 2 rfl) ?_
  refine jm_iload_n (x := z8) rfl rfl (jM_at hl18 1 rfl) ?_
  refine jx_ic (t := 30) rfl rfl rfl (fun hc22 => ?_) (fun hc22 => ?_)
  · have g22 := jc2_ne_t hc22
    refine jm_iload (x := z15) rfl rfl (jM_at hl18 0 rfl) ?_
    refine jm_aload_n (x := P.1 + 1) rfl rfl (jM_at hl18 3 rfl) ?_
    refine jm_iload_n (x := z8) rfl rfl (jM_at hl18 1 rfl) ?_
    refine jm_iload_n (x := z2) rfl rfl (jM_at hl18 2 rfl) ?_
    refine az_X_call (m' := 85) (as := [.ref (P.1 + 1), .int z8, .int z2]) (rest := [.int z15]) rfl rfl rfl rfl rfl ?_ ?_
    · unfold si_call
      dsimp only
      rw [if_pos ⟨rfl, rfl⟩]
      show (match si_ix P h (P.1 + 1) with | some i => _ | none => none) = _
      rw [jix hH (by decide)]
      dsimp only
      rw [(hH.2 1 _ rfl).1]
      rfl
    refine (cmany_ok hH z8 z2 (by omega) (by omega)).mono ?_
    rintro rv35 h35 ⟨q35, z35, rfl, ez35⟩
    subst h35
    have bz35 := jct_bd (fun j => decide ((z8.toInt * ja h 1 1 + (j : Int)) % ja h 1 0 = z2.toInt)) (ja h 1 1).toNat
    have cz35 : 0 ≤ z35.toInt ∧ z35.toInt ≤ 24 := by
      rw [ez35]
      unfold jmq
      omega
    show az_X P _ 86 38 ls18 [.int z35, .int z15] _ _
    refine jn_add (a := z15) (b := z35) rfl rfl (by omega) (by omega) (fun z38 ez38 => ?_)
    refine jx_ret rfl rfl rfl ?_
    have ja1 := jam_at (m := ja h 1 0) (r := ja h 1 1) (y := (ja h 1 0 * ja h 1 1).toNat) bm br (by omega) (s := t.toInt / ja h 1 1) (l := t.toInt % ja h 1 0) dm.2 dm.1
    refine ⟨rfl, z38, rfl, ?_⟩
    unfold jlk
    rw [ja1]
    rw [if_neg (by omega), ez38, ez15, ez35, ez2, ez8]
  · have g22 := jc2_ne_f hc22
    refine jm_iload (x := z15) rfl rfl (jM_at hl18 0 rfl) ?_
    refine az_X_step (pc' := 39) (ls' := ls18) (st' := [.int z15]) (h' := h) rfl rfl rfl ?_
    refine jx_ret rfl rfl rfl ?_
    have ja1 := jam_at (m := ja h 1 0) (r := ja h 1 1) (y := (ja h 1 0 * ja h 1 1).toNat) bm br (by omega) (s := t.toInt / ja h 1 1) (l := t.toInt % ja h 1 0) dm.2 dm.1
    refine ⟨rfl, z15, rfl, ?_⟩
    unfold jlk
    rw [ja1]
    rw [if_pos (by omega), ez15, ez2, ez8, Int.add_zero]
theorem ctold_ok {P : si_P} {d : Nat} {h : si_H} (hH : az_HI P az_tb h) (t : Int32) (ht : 0 ≤ t.toInt ∧ t.toInt < ja h 1 0 * ja h 1 1) : az_X P (d + 4) 87 0 (lv_args 0 [.ref (P.1 + 1), .int t]) [] h (fun rv h' => h' = h ∧ jV rv (jb (jtl (ja h 1 0) (ja h 1 1) (ja h 1 0 * ja h 1 1).toNat t.toInt))) := by
  have hl : jM [(0, .ref (P.1 + 1)), (1, .int t)] (lv_args 0 [.ref (P.1 + 1), .int t]) := jM_args [0, 1] rfl (by decide)
  generalize lv_args 0 [.ref (P.1 + 1), .int t] = ls at hl
  have k0 : (0 : Int32).toInt = 0 := by decide
  have k1 : (1 : Int32).toInt = 1 := by decide
  refine jm_aload_n (x := P.1 + 1) rfl rfl (jM_at hl 0 rfl) ?_
  refine jm_iload_n (x := t) rfl rfl (jM_at hl 1 rfl) ?_
  refine az_X_call (m' := 86) (as := [.ref (P.1 + 1), .int t]) (rest := []) rfl rfl rfl rfl rfl ?_ ?_
  · unfold si_call
    dsimp only
    rw [if_pos ⟨rfl, rfl⟩]
    show (match si_ix P h (P.1 + 1) with | some i => _ | none => none) = _
    rw [jix hH (by decide)]
    dsimp only
    rw [(hH.2 1 _ rfl).1]
    rfl
  refine (calike_ok hH t ht).mono ?_
  rintro rv2 h2 ⟨q2, z2, rfl, ez2⟩
  subst h2
  show az_X P _ 87 5 ls [.int z2] _ _
  refine az_X_step (pc' := 6) (ls' := ls) (st' := [.int 1, .int z2]) (h' := h) rfl rfl rfl ?_
  refine jx_ic (t := 13) rfl rfl rfl (fun hc6 => ?_) (fun hc6 => ?_)
  · have g6 := jc2_ne_t hc6
    refine az_X_step (pc' := 14) (ls' := ls) (st' := [.int 0]) (h' := h) rfl rfl rfl ?_
    refine jx_retz rfl rfl rfl (by decide) ?_
    rw [ez2, k1] at g6
    exact ⟨rfl, 0, rfl, by unfold jb jtl; rw [decide_eq_false g6, if_neg (by decide)]; decide⟩
  · have g6 := jc2_ne_f hc6
    refine az_X_step (pc' := 10) (ls' := ls) (st' := [.int 1]) (h' := h) rfl rfl rfl ?_
    refine az_X_step (pc' := 14) (ls' := ls) (st' := [.int 1]) (h' := h) rfl rfl rfl ?_
    refine jx_retz rfl rfl rfl (by decide) ?_
    rw [ez2, k1] at g6
    exact ⟨rfl, 1, rfl, by unfold jb jtl; rw [decide_eq_true g6, if_pos rfl]; decide⟩
theorem cunt_l {P : si_P} {d : Nat} {h : si_H} (hH : az_HI P az_tb h) (K : Int32) (hK : K.toInt = ja h 1 0 * ja h 1 1) : ∀ (k j : Nat) (T A : Int32) (ls : si_L), jM [(3, .int T), (2, .int K), (1, .int A), (0, .ref (P.1 + 1))] ls → T.toInt = j → (j : Int) + k = K.toInt → A.toInt = jct (fun t : Nat => !(jtl (ja h 1 0) (ja h 1 1) (ja h 1 0 * ja h 1 1).toNat t)) j → az_X P (d + 5) 88 9 ls [] h (fun rv h' => h' = h ∧ jV rv (jct (fun t : Nat => !(jtl (ja h 1 0) (ja h 1 1) (ja h 1 0 * ja h 1 1).toNat t)) (ja h 1 0 * ja h 1 1).toNat)) := by
  have bm : 4 ≤ ja h 1 0 ∧ ja h 1 0 ≤ 60 := ja_bd hH (i := 1) (k := 0) rfl
  have br : 2 ≤ ja h 1 1 ∧ ja h 1 1 ≤ 24 := ja_bd hH (i := 1) (k := 1) rfl
  have bp := nm_mulnn (a := 4) (b := 60) (c := 2) (d := 24) (x := ja h 1 0) (y := ja h 1 1) (by decide) (by decide) bm.1 bm.2 br.1 br.2
  intro k
  induction k with
  | zero =>
    intro j T A ls hl eT hj eA
    refine jm_iload_n (x := T) rfl rfl (jM_at hl 0 rfl) ?_
    refine jm_iload_n (x := K) rfl rfl (jM_at hl 1 rfl) ?_
    refine jx_ic (t := 31) rfl rfl rfl (fun hc11 => ?_) (fun hc11 => ?_)
    · have g11 := jc2_ge_t hc11
      refine jm_iload_n (x := A) rfl rfl (jM_at hl 2 rfl) ?_
      refine jx_ret rfl rfl rfl ?_
      exact ⟨rfl, A, rfl, by rw [eA, show j = (ja h 1 0 * ja h 1 1).toNat by omega]⟩
    · have g11 := jc2_ge_f hc11
      exfalso
      omega
  | succ k ih =>
    intro j T A ls hl eT hj eA
    have bA := jct_bd (fun t : Nat => !(jtl (ja h 1 0) (ja h 1 1) (ja h 1 0 * ja h 1 1).toNat t)) j
    have k0 : (0 : Int32).toInt = 0 := by decide
    refine jm_iload_n (x := T) rfl rfl (jM_at hl 0 rfl) ?_
    refine jm_iload_n (x := K) rfl rfl (jM_at hl 1 rfl) ?_
    refine jx_ic (t := 31) rfl rfl rfl (fun hc11 => ?_) (fun hc11 => ?_)
    · have g11 := jc2_ge_t hc11
      refine jm_iload_n (x := A) rfl rfl (jM_at hl 2 rfl) ?_
      refine jx_ret rfl rfl rfl ?_
      exfalso
      omega
    · have g11 := jc2_ge_f hc11
      refine jm_aload_n (x := P.1 + 1) rfl rfl (jM_at hl 3 rfl) ?_
      refine jm_iload_n (x := T) rfl rfl (jM_at hl 0 rfl) ?_
      refine az_X_call (m' := 87) (as := [.ref (P.1 + 1), .int T]) (rest := []) rfl rfl rfl rfl rfl ?_ ?_
      · unfold si_call
        dsimp only
        rw [if_pos ⟨rfl, rfl⟩]
        show (match si_ix P h (P.1 + 1) with | some i => _ | none => none) = _
        rw [jix hH (by decide)]
        dsimp only
        rw [(hH.2 1 _ rfl).1]
        rfl
      refine (ctold_ok hH T (by omega)).mono ?_
      rintro rv16 h16 ⟨q16, z16, rfl, ez16⟩
      subst h16
      show az_X P _ 88 19 ls [.int z16] _ _
      refine jx_if (t := 25) rfl rfl rfl (fun hc19 => ?_) (fun hc19 => ?_)
      · have g19 := jc1_ne_t hc19
        refine jn_iinc (x := T) rfl rfl (by decide) (jM_at hl 0 rfl) hl rfl (by decide) (by omega) (by omega) (fun z25 (ez25 : z25.toInt = T.toInt + 1) ls25 (hl25 : jM [(3, .int z25), (2, .int K), (1, .int A), (0, .ref (P.1 + 1))] ls25) => ?_)
        refine az_X_step (pc' := 9) (ls' := ls25) (st' := []) (h' := h) rfl rfl rfl ?_
        rw [ez16, eT] at g19
        have ps := jct_s (fun t : Nat => !(jtl (ja h 1 0) (ja h 1 1) (ja h 1 0 * ja h 1 1).toNat t)) j
        have np : (!(jtl (ja h 1 0) (ja h 1 1) (ja h 1 0 * ja h 1 1).toNat j)) = false := by
          unfold jb at g19
          cases hh : jtl (ja h 1 0) (ja h 1 1) (ja h 1 0 * ja h 1 1).toNat j
          · rw [hh] at g19; exact absurd rfl g19
          · rfl
        rw [np] at ps
        exact ih (j + 1) z25 A ls25 (jM_pick hl25 [0, 1, 2, 3] rfl) (by omega) (by omega) (by rw [ps, if_neg (by decide), Int.add_zero]; exact eA)
      · have g19 := jc1_ne_f hc19
        refine jn_iinc (x := A) rfl rfl (by decide) (jM_at hl 2 rfl) hl rfl (by decide) (by omega) (by omega) (fun z22 (ez22 : z22.toInt = A.toInt + 1) ls22 (hl22 : jM [(1, .int z22), (3, .int T), (2, .int K), (0, .ref (P.1 + 1))] ls22) => ?_)
        refine jn_iinc (x := T) rfl rfl (by decide) (jM_at hl22 1 rfl) hl22 rfl (by decide) (by omega) (by omega) (fun z25 (ez25 : z25.toInt = T.toInt + 1) ls25 (hl25 : jM [(3, .int z25), (1, .int z22), (2, .int K), (0, .ref (P.1 + 1))] ls25) => ?_)
        refine az_X_step (pc' := 9) (ls' := ls25) (st' := []) (h' := h) rfl rfl rfl ?_
        rw [ez16, eT] at g19
        have ps := jct_s (fun t : Nat => !(jtl (ja h 1 0) (ja h 1 1) (ja h 1 0 * ja h 1 1).toNat t)) j
        have np : (!(jtl (ja h 1 0) (ja h 1 1) (ja h 1 0 * ja h 1 1).toNat j)) = true := by
          unfold jb at g19
          cases hh : jtl (ja h 1 0) (ja h 1 1) (ja h 1 0 * ja h 1 1).toNat j
          · rfl
          · rw [hh] at g19; exact absurd g19 (by decide)
        rw [np, if_pos rfl] at ps
        exact ih (j + 1) z25 z22 ls25 (jM_pick hl25 [0, 2, 1, 3] rfl) (by omega) (by omega) (by rw [ps]; omega)
theorem cunt_ok {P : si_P} {d : Nat} {h : si_H} (hH : az_HI P az_tb h) : az_X P (d + 5) 88 0 (lv_args 0 [.ref (P.1 + 1)]) [] h (fun rv h' => h' = h ∧ jV rv (jct (fun t : Nat => !(jtl (ja h 1 0) (ja h 1 1) (ja h 1 0 * ja h 1 1).toNat t)) (ja h 1 0 * ja h 1 1).toNat)) := by
  have bm : 4 ≤ ja h 1 0 ∧ ja h 1 0 ≤ 60 := ja_bd hH (i := 1) (k := 0) rfl
  have br : 2 ≤ ja h 1 1 ∧ ja h 1 1 ≤ 24 := ja_bd hH (i := 1) (k := 1) rfl
  have bp := nm_mulnn (a := 4) (b := 60) (c := 2) (d := 24) (x := ja h 1 0) (y := ja h 1 1) (by decide) (by decide) bm.1 bm.2 br.1 br.2
  have hl : jM [(0, .ref (P.1 + 1))] (lv_args 0 [.ref (P.1 + 1)]) := jM_args [0] rfl (by decide)
  generalize lv_args 0 [.ref (P.1 + 1)] = ls at hl
  have k0 : (0 : Int32).toInt = 0 := by decide
  refine az_X_step (pc' := 1) (ls' := ls) (st' := [.int 0]) (h' := h) rfl rfl rfl ?_
  refine jm_istore_n (l' := [(1, .int 0), (0, .ref (P.1 + 1))]) rfl rfl (by decide) hl rfl rfl (fun ls1 hl1 => ?_)
  refine jm_aload_n (x := P.1 + 1) rfl rfl (jM_at hl1 1 rfl) ?_
  refine az_X_call (m' := 73) (as := [.ref (P.1 + 1)]) (rest := []) rfl rfl rfl rfl rfl ?_ ?_
  · unfold si_call
    dsimp only
    rw [if_pos ⟨rfl, rfl⟩]
    show (match si_ix P h (P.1 + 1) with | some i => _ | none => none) = _
    rw [jix hH (by decide)]
    dsimp only
    rw [(hH.2 1 _ rfl).1]
    rfl
  refine (tround_ok hH).mono ?_
  rintro rv3 h3 ⟨q3, z3, rfl, ez3⟩
  subst h3
  show az_X P _ 88 6 ls1 [.int z3] _ _
  refine jm_istore_n (l' := [(2, .int z3), (1, .int 0), (0, .ref (P.1 + 1))]) rfl rfl (by decide) hl1 rfl rfl (fun ls6 hl6 => ?_)
  refine az_X_step (pc' := 8) (ls' := ls6) (st' := [.int 0]) (h' := h) rfl rfl rfl ?_
  refine jm_istore_n (l' := [(3, .int 0), (2, .int z3), (1, .int 0), (0, .ref (P.1 + 1))]) rfl rfl (by decide) hl6 rfl rfl (fun ls8 hl8 => ?_)
  exact cunt_l hH z3 ez3 (ja h 1 0 * ja h 1 1).toNat 0 0 0 ls8 (jM_pick hl8 [0, 1, 2, 3] rfl) (by decide) (by omega) (by show (0 : Int32).toInt = 0; decide)
theorem cfirst_l {P : si_P} {d : Nat} {h : si_H} (hH : az_HI P az_tb h) (K : Int32) (hK : K.toInt = ja h 1 0 * ja h 1 1) : ∀ (k j : Nat) (T : Int32) (ls : si_L), jM [(2, .int T), (1, .int K), (0, .ref (P.1 + 3))] ls → T.toInt = j → (j : Int) + k = K.toInt → (∀ i : Nat, i < j → ¬ jtl (ja h 1 0) (ja h 1 1) (ja h 1 0 * ja h 1 1).toNat i = false) → az_X P (d + 5) 111 10 ls [] h (fun rv h' => h' = h ∧ ∃ z : Int32, rv = some (.int z) ∧ jfs (fun t : Nat => jtl (ja h 1 0) (ja h 1 1) (ja h 1 0 * ja h 1 1).toNat t = false) (ja h 1 0 * ja h 1 1).toNat z.toInt) := by
  have bm : 4 ≤ ja h 1 0 ∧ ja h 1 0 ≤ 60 := ja_bd hH (i := 1) (k := 0) rfl
  have br : 2 ≤ ja h 1 1 ∧ ja h 1 1 ≤ 24 := ja_bd hH (i := 1) (k := 1) rfl
  have bp := nm_mulnn (a := 4) (b := 60) (c := 2) (d := 24) (x := ja h 1 0) (y := ja h 1 1) (by decide) (by decide) bm.1 bm.2 br.1 br.2
  intro k
  induction k with
  | zero =>
    intro j T ls hl eT hj hs
    have km2 : ((-2) : Int32).toInt = (-2) := by decide
    refine jm_iload_n (x := T) rfl rfl (jM_at hl 0 rfl) ?_
    refine jm_iload_n (x := K) rfl rfl (jM_at hl 1 rfl) ?_
    refine jx_ic (t := 34) rfl rfl rfl (fun hc12 => ?_) (fun hc12 => ?_)
    · have g12 := jc2_ge_t hc12
      refine az_X_step (pc' := 36) (ls' := ls) (st' := [.int (-2)]) (h' := h) rfl rfl rfl ?_
      refine jx_ret rfl rfl rfl ?_
      exact ⟨rfl, (-2), rfl, Or.inr ⟨by decide, fun i hi => hs i (by omega)⟩⟩
    · have g12 := jc2_ge_f hc12
      exfalso
      omega
  | succ k ih =>
    intro j T ls hl eT hj hs
    have km2 : ((-2) : Int32).toInt = (-2) := by decide
    have k0 : (0 : Int32).toInt = 0 := by decide
    refine jm_iload_n (x := T) rfl rfl (jM_at hl 0 rfl) ?_
    refine jm_iload_n (x := K) rfl rfl (jM_at hl 1 rfl) ?_
    refine jx_ic (t := 34) rfl rfl rfl (fun hc12 => ?_) (fun hc12 => ?_)
    · have g12 := jc2_ge_t hc12
      refine az_X_step (pc' := 36) (ls' := ls) (st' := [.int (-2)]) (h' := h) rfl rfl rfl ?_
      refine jx_ret rfl rfl rfl ?_
      exfalso
      omega
    · have g12 := jc2_ge_f hc12
      refine jm_aload_n (x := P.1 + 3) rfl rfl (jM_at hl 2 rfl) ?_
      refine jx_gf (i := 3) rfl rfl hH (by decide) (hH.2 3 _ rfl).1 rfl (jx_rf hH rfl rfl) ?_
      refine jm_iload_n (x := T) rfl rfl (jM_at hl 0 rfl) ?_
      refine az_X_call (m' := 87) (as := [.ref (P.1 + 1), .int T]) (rest := []) rfl rfl rfl rfl rfl ?_ ?_
      · unfold si_call
        dsimp only
        rw [if_pos ⟨rfl, rfl⟩]
        show (match si_ix P h (P.1 + 1) with | some i => _ | none => none) = _
        rw [jix hH (by decide)]
        dsimp only
        rw [(hH.2 1 _ rfl).1]
        rfl
      refine (ctold_ok hH T (by omega)).mono ?_
      rintro rv20 h20 ⟨q20, z20, rfl, ez20⟩
      subst h20
      show az_X P _ 111 23 ls [.int z20] _ _
      refine jx_if (t := 28) rfl rfl rfl (fun hc23 => ?_) (fun hc23 => ?_)
      · have g23 := jc1_ne_t hc23
        refine jn_iinc (x := T) rfl rfl (by decide) (jM_at hl 0 rfl) hl rfl (by decide) (by omega) (by omega) (fun z28 (ez28 : z28.toInt = T.toInt + 1) ls28 (hl28 : jM [(2, .int z28), (1, .int K), (0, .ref (P.1 + 3))] ls28) => ?_)
        refine az_X_step (pc' := 10) (ls' := ls28) (st' := []) (h' := h) rfl rfl rfl ?_
        have np : jtl (ja h 1 0) (ja h 1 1) (ja h 1 0 * ja h 1 1).toNat j = true := by
          rw [ez20, eT] at g23
          unfold jb at g23
          cases hh : jtl (ja h 1 0) (ja h 1 1) (ja h 1 0 * ja h 1 1).toNat j
          · first | rfl | (rw [hh] at g23; exact absurd rfl g23)
          · first | rfl | (rw [hh] at g23; exact absurd g23 (by decide))
        exact ih (j + 1) z28 ls28 (jM_pick hl28 [0, 1, 2] rfl) (by omega) (by omega) (fun i hi => by
          rcases Nat.lt_or_ge i j with q | q
          · exact hs i q
          · rw [show i = j by omega, np]; decide)
      · have g23 := jc1_ne_f hc23
        refine jm_iload_n (x := T) rfl rfl (jM_at hl 0 rfl) ?_
        refine jx_ret rfl rfl rfl ?_
        have np : jtl (ja h 1 0) (ja h 1 1) (ja h 1 0 * ja h 1 1).toNat j = false := by
          rw [ez20, eT] at g23
          unfold jb at g23
          cases hh : jtl (ja h 1 0) (ja h 1 1) (ja h 1 0 * ja h 1 1).toNat j
          · first | rfl | (rw [hh] at g23; exact absurd rfl g23)
          · first | rfl | (rw [hh] at g23; exact absurd g23 (by decide))
        exact ⟨rfl, T, rfl, Or.inl ⟨j, by omega, eT, np, hs⟩⟩
theorem cfirst_ok {P : si_P} {d : Nat} {h : si_H} (hH : az_HI P az_tb h) : az_X P (d + 5) 111 0 (lv_args 0 [.ref (P.1 + 3)]) [] h (fun rv h' => h' = h ∧ ∃ z : Int32, rv = some (.int z) ∧ jfs (fun t : Nat => jtl (ja h 1 0) (ja h 1 1) (ja h 1 0 * ja h 1 1).toNat t = false) (ja h 1 0 * ja h 1 1).toNat z.toInt) := by
  have bm : 4 ≤ ja h 1 0 ∧ ja h 1 0 ≤ 60 := ja_bd hH (i := 1) (k := 0) rfl
  have br : 2 ≤ ja h 1 1 ∧ ja h 1 1 ≤ 24 := ja_bd hH (i := 1) (k := 1) rfl
  have bp := nm_mulnn (a := 4) (b := 60) (c := 2) (d := 24) (x := ja h 1 0) (y := ja h 1 1) (by decide) (by decide) bm.1 bm.2 br.1 br.2
  have hl : jM [(0, .ref (P.1 + 3))] (lv_args 0 [.ref (P.1 + 3)]) := jM_args [0] rfl (by decide)
  generalize lv_args 0 [.ref (P.1 + 3)] = ls at hl
  have k0 : (0 : Int32).toInt = 0 := by decide
  refine jm_aload_n (x := P.1 + 3) rfl rfl (jM_at hl 0 rfl) ?_
  refine jx_gf (i := 3) rfl rfl hH (by decide) (hH.2 3 _ rfl).1 rfl (jx_rf hH rfl rfl) ?_
  refine az_X_call (m' := 73) (as := [.ref (P.1 + 1)]) (rest := []) rfl rfl rfl rfl rfl ?_ ?_
  · unfold si_call
    dsimp only
    rw [if_pos ⟨rfl, rfl⟩]
    show (match si_ix P h (P.1 + 1) with | some i => _ | none => none) = _
    rw [jix hH (by decide)]
    dsimp only
    rw [(hH.2 1 _ rfl).1]
    rfl
  refine (tround_ok hH).mono ?_
  rintro rv4 h4 ⟨q4, z4, rfl, ez4⟩
  subst h4
  show az_X P _ 111 7 ls [.int z4] _ _
  refine jm_istore_n (l' := [(1, .int z4), (0, .ref (P.1 + 3))]) rfl rfl (by decide) hl rfl rfl (fun ls7 hl7 => ?_)
  refine az_X_step (pc' := 9) (ls' := ls7) (st' := [.int 0]) (h' := h) rfl rfl rfl ?_
  refine jm_istore_n (l' := [(2, .int 0), (1, .int z4), (0, .ref (P.1 + 3))]) rfl rfl (by decide) hl7 rfl rfl (fun ls9 hl9 => ?_)
  exact cfirst_l hH z4 ez4 (ja h 1 0 * ja h 1 1).toNat 0 0 ls9 (jM_pick hl9 [0, 1, 2] rfl) (by decide) (by omega) (fun i hi => absurd hi (by omega))
/-- the row that ends here, the longest so far -/
def jrw (p : Nat → Bool) : Nat → Int × Int
  | 0 => (0, 0)
  | k + 1 => if p k = true then ((jrw p k).1 + 1, max (jrw p k).2 ((jrw p k).1 + 1)) else (0, max (jrw p k).2 0)
theorem jrw_t {p : Nat → Bool} {k : Nat} (hp : p k = true) : jrw p (k + 1) = ((jrw p k).1 + 1, max (jrw p k).2 ((jrw p k).1 + 1)) := if_pos hp
theorem jrw_f {p : Nat → Bool} {k : Nat} (hp : ¬ p k = true) : jrw p (k + 1) = (0, max (jrw p k).2 0) := if_neg hp
theorem jrw_bd (p : Nat → Bool) : ∀ k : Nat, 0 ≤ (jrw p k).1 ∧ (jrw p k).1 ≤ k ∧ 0 ≤ (jrw p k).2 ∧ (jrw p k).2 ≤ k
  | 0 => by
    show (0 : Int) ≤ 0 ∧ (0 : Int) ≤ ((0 : Nat) : Int) ∧ (0 : Int) ≤ 0 ∧ (0 : Int) ≤ ((0 : Nat) : Int)
    omega
  | k + 1 => by
    have i := jrw_bd p k
    by_cases hp : p k = true
    · rw [jrw_t hp]
      dsimp only
      omega
    · rw [jrw_f hp]
      dsimp only
      omega
def jtp (m r : Int) (y : Nat) (w : Int) (i : Nat) : Bool := decide (jb (jtl m r y ((i : Int) % (y : Int))) = w)
theorem clong_l {P : si_P} {d : Nat} {h : si_H} (hH : az_HI P az_tb h) (K w : Int32) (hK : K.toInt = ja h 1 0 * ja h 1 1) : ∀ (k j : Nat) (T W A : Int32) (ls : si_L), jM [(5, .int T), (4, .int W), (3, .int A), (2, .int K), (0, .ref (P.1 + 3)), (1, .int w)] ls → T.toInt = j → (j : Int) + k = 2 * K.toInt → W.toInt = (jrw (jtp (ja h 1 0) (ja h 1 1) (ja h 1 0 * ja h 1 1).toNat w.toInt) j).1 → A.toInt = (jrw (jtp (ja h 1 0) (ja h 1 1) (ja h 1 0 * ja h 1 1).toNat w.toInt) j).2 → az_X P (d + 5) 112 16 ls [] h (fun rv h' => h' = h ∧ jV rv (min (jrw (jtp (ja h 1 0) (ja h 1 1) (ja h 1 0 * ja h 1 1).toNat w.toInt) (2 * (ja h 1 0 * ja h 1 1).toNat)).2 (ja h 1 0 * ja h 1 1))) := by
  have bm : 4 ≤ ja h 1 0 ∧ ja h 1 0 ≤ 60 := ja_bd hH (i := 1) (k := 0) rfl
  have br : 2 ≤ ja h 1 1 ∧ ja h 1 1 ≤ 24 := ja_bd hH (i := 1) (k := 1) rfl
  have bp := nm_mulnn (a := 4) (b := 60) (c := 2) (d := 24) (x := ja h 1 0) (y := ja h 1 1) (by decide) (by decide) bm.1 bm.2 br.1 br.2
  intro k
  induction k with
  | zero =>
    intro j T W A ls hl eT hj eW eA
    have k2 : (2 : Int32).toInt = 2 := by decide
    refine jm_iload (x := T) rfl rfl (jM_at hl 0 rfl) ?_
    refine az_X_step (pc' := 19) (ls' := ls) (st' := [.int 2, .int T]) (h' := h) rfl rfl rfl ?_
    refine jm_iload_n (x := K) rfl rfl (jM_at hl 3 rfl) ?_
    refine jn_mul (a := 2) (b := K) rfl rfl (by rw [show (2 : Int32).toInt = 2 by decide]; omega) (by rw [show (2 : Int32).toInt = 2 by decide]; omega) (fun z20 ez20 => ?_)
    rw [show (2 : Int32).toInt = 2 by decide] at ez20
    refine jx_ic (t := 67) rfl rfl rfl (fun hc21 => ?_) (fun hc21 => ?_)
    · have g21 := jc2_ge_t hc21
      refine jm_iload_n (x := A) rfl rfl (jM_at hl 2 rfl) ?_
      refine jm_iload_n (x := K) rfl rfl (jM_at hl 3 rfl) ?_
      refine az_X_call (m' := 344) (as := [.int A, .int K]) (rest := []) rfl rfl rfl rfl rfl rfl ?_
      refine (cmin2_ok A K).mono ?_
      rintro rv69 h69 ⟨q69, z69, rfl, ez69⟩
      subst h69
      show az_X P _ 112 72 ls [.int z69] _ _
      refine jx_ret rfl rfl rfl ?_
      exact ⟨rfl, z69, rfl, by rw [ez69, eA, hK, show 2 * (ja h 1 0 * ja h 1 1).toNat = j by omega]⟩
    · have g21 := jc2_ge_f hc21
      exfalso
      omega
  | succ k ih =>
    intro j T W A ls hl eT hj eW eA
    have bA := jrw_bd (jtp (ja h 1 0) (ja h 1 1) (ja h 1 0 * ja h 1 1).toNat w.toInt) j
    have em : (j : Int) % (ja h 1 0 * ja h 1 1) = (j : Int) % (((ja h 1 0 * ja h 1 1).toNat : Nat) : Int) := by rw [show (((ja h 1 0 * ja h 1 1).toNat : Nat) : Int) = ja h 1 0 * ja h 1 1 by omega]
    have k0 : (0 : Int32).toInt = 0 := by decide
    have k1 : (1 : Int32).toInt = 1 := by decide
    have k2 : (2 : Int32).toInt = 2 := by decide
    refine jm_iload (x := T) rfl rfl (jM_at hl 0 rfl) ?_
    refine az_X_step (pc' := 19) (ls' := ls) (st' := [.int 2, .int T]) (h' := h) rfl rfl rfl ?_
    refine jm_iload_n (x := K) rfl rfl (jM_at hl 3 rfl) ?_
    refine jn_mul (a := 2) (b := K) rfl rfl (by rw [show (2 : Int32).toInt = 2 by decide]; omega) (by rw [show (2 : Int32).toInt = 2 by decide]; omega) (fun z20 ez20 => ?_)
    rw [show (2 : Int32).toInt = 2 by decide] at ez20
    refine jx_ic (t := 67) rfl rfl rfl (fun hc21 => ?_) (fun hc21 => ?_)
    · have g21 := jc2_ge_t hc21
      exfalso
      omega
    · have g21 := jc2_ge_f hc21
      refine jm_aload_n (x := P.1 + 3) rfl rfl (jM_at hl 4 rfl) ?_
      refine jx_gf (i := 3) rfl rfl hH (by decide) (hH.2 3 _ rfl).1 rfl (jx_rf hH rfl rfl) ?_
      refine jm_aload_n (x := P.1 + 3) rfl rfl (jM_at hl 4 rfl) ?_
      refine jx_gf (i := 3) rfl rfl hH (by decide) (hH.2 3 _ rfl).1 rfl (jx_rf hH rfl rfl) ?_
      refine jm_iload (x := T) rfl rfl (jM_at hl 0 rfl) ?_
      refine az_X_call (m' := 75) (as := [.ref (P.1 + 1), .int T]) (rest := [.ref (P.1 + 1)]) rfl rfl rfl rfl rfl ?_ ?_
      · unfold si_call
        dsimp only
        rw [if_pos ⟨rfl, rfl⟩]
        show (match si_ix P h (P.1 + 1) with | some i => _ | none => none) = _
        rw [jix hH (by decide)]
        dsimp only
        rw [(hH.2 1 _ rfl).1]
        rfl
      refine (taround_ok hH T).mono ?_
      rintro rv34 h34 ⟨q34, z34, rfl, ez34⟩
      subst h34
      have bz34 : 0 ≤ z34.toInt ∧ z34.toInt < ja h 1 0 * ja h 1 1 := by
        rw [ez34]
        exact ⟨Int.emod_nonneg _ (by omega), Int.emod_lt_of_pos _ (by omega)⟩
      show az_X P _ 112 37 ls [.int z34, .ref (P.1 + 1)] _ _
      refine az_X_call (m' := 87) (as := [.ref (P.1 + 1), .int z34]) (rest := []) rfl rfl rfl rfl rfl ?_ ?_
      · unfold si_call
        dsimp only
        rw [if_pos ⟨rfl, rfl⟩]
        show (match si_ix P h (P.1 + 1) with | some i => _ | none => none) = _
        rw [jix hH (by decide)]
        dsimp only
        rw [(hH.2 1 _ rfl).1]
        rfl
      refine (ctold_ok hH z34 bz34).mono ?_
      rintro rv37 h37 ⟨q37, z37, rfl, ez37⟩
      subst h37
      show az_X P _ 112 40 ls [.int z37] _ _
      refine jm_iload_n (x := w) rfl rfl (jM_at hl 5 rfl) ?_
      refine jx_ic (t := 51) rfl rfl rfl (fun hc41 => ?_) (fun hc41 => ?_)
      · have g41 := jc2_ne_t hc41
        refine az_X_step (pc' := 52) (ls' := ls) (st' := [.int 0]) (h' := h) rfl rfl rfl ?_
        refine jm_istore (l' := [(4, .int 0), (5, .int T), (3, .int A), (2, .int K), (0, .ref (P.1 + 3)), (1, .int w)]) rfl rfl (by decide) hl rfl rfl (fun ls52 hl52 => ?_)
        refine jm_iload_n (x := A) rfl rfl (jM_at hl52 2 rfl) ?_
        refine jm_iload (x := 0) rfl rfl (jM_at hl52 0 rfl) ?_
        refine az_X_call (m' := 343) (as := [.int A, .int 0]) (rest := []) rfl rfl rfl rfl rfl rfl ?_
        refine (cmax2_ok A 0).mono ?_
        rintro rv57 h57 ⟨q57, z57, rfl, ez57⟩
        subst h57
        show az_X P _ 112 60 ls52 [.int z57] _ _
        refine jm_istore_n (l' := [(3, .int z57), (4, .int 0), (5, .int T), (2, .int K), (0, .ref (P.1 + 3)), (1, .int w)]) rfl rfl (by decide) hl52 rfl rfl (fun ls60 hl60 => ?_)
        refine jn_iinc (x := T) rfl rfl (by decide) (jM_at hl60 2 rfl) hl60 rfl (by decide) (by omega) (by omega) (fun z61 (ez61 : z61.toInt = T.toInt + 1) ls61 (hl61 : jM [(5, .int z61), (3, .int z57), (4, .int 0), (2, .int K), (0, .ref (P.1 + 3)), (1, .int w)] ls61) => ?_)
        refine az_X_step (pc' := 16) (ls' := ls61) (st' := []) (h' := h) rfl rfl rfl ?_
        have np : ¬ (jtp (ja h 1 0) (ja h 1 1) (ja h 1 0 * ja h 1 1).toNat w.toInt) j = true := by
          unfold jtp
          rw [ez37, ez34, eT, em] at g41
          rw [decide_eq_true_iff]
          exact g41
        exact ih (j + 1) z61 0 z57 ls61 (jM_pick hl61 [0, 2, 1, 3, 4, 5] rfl) (by omega) (by omega) (by rw [jrw_f np]; show _ = (0 : Int); omega) (by rw [jrw_f np]; show _ = max (jrw (jtp (ja h 1 0) (ja h 1 1) (ja h 1 0 * ja h 1 1).toNat w.toInt) j).2 (0 : Int); omega)
      · have g41 := jc2_ne_f hc41
        refine jm_iload (x := W) rfl rfl (jM_at hl 1 rfl) ?_
        refine az_X_step (pc' := 47) (ls' := ls) (st' := [.int 1, .int W]) (h' := h) rfl rfl rfl ?_
        refine jn_add (a := W) (b := 1) rfl rfl (by omega) (by omega) (fun z47 ez47 => ?_)
        rw [show (1 : Int32).toInt = 1 by decide] at ez47
        refine az_X_step (pc' := 52) (ls' := ls) (st' := [.int z47]) (h' := h) rfl rfl rfl ?_
        refine jm_istore (l' := [(4, .int z47), (5, .int T), (3, .int A), (2, .int K), (0, .ref (P.1 + 3)), (1, .int w)]) rfl rfl (by decide) hl rfl rfl (fun ls52 hl52 => ?_)
        refine jm_iload_n (x := A) rfl rfl (jM_at hl52 2 rfl) ?_
        refine jm_iload (x := z47) rfl rfl (jM_at hl52 0 rfl) ?_
        refine az_X_call (m' := 343) (as := [.int A, .int z47]) (rest := []) rfl rfl rfl rfl rfl rfl ?_
        refine (cmax2_ok A z47).mono ?_
        rintro rv57 h57 ⟨q57, z57, rfl, ez57⟩
        subst h57
        show az_X P _ 112 60 ls52 [.int z57] _ _
        refine jm_istore_n (l' := [(3, .int z57), (4, .int z47), (5, .int T), (2, .int K), (0, .ref (P.1 + 3)), (1, .int w)]) rfl rfl (by decide) hl52 rfl rfl (fun ls60 hl60 => ?_)
        refine jn_iinc (x := T) rfl rfl (by decide) (jM_at hl60 2 rfl) hl60 rfl (by decide) (by omega) (by omega) (fun z61 (ez61 : z61.toInt = T.toInt + 1) ls61 (hl61 : jM [(5, .int z61), (3, .int z57), (4, .int z47), (2, .int K), (0, .ref (P.1 + 3)), (1, .int w)] ls61) => ?_)
        refine az_X_step (pc' := 16) (ls' := ls61) (st' := []) (h' := h) rfl rfl rfl ?_
        have np : (jtp (ja h 1 0) (ja h 1 1) (ja h 1 0 * ja h 1 1).toNat w.toInt) j = true := by
          unfold jtp
          rw [ez37, ez34, eT, em] at g41
          rw [decide_eq_true_iff]
          exact g41
        exact ih (j + 1) z61 z47 z57 ls61 (jM_pick hl61 [0, 2, 1, 3, 4, 5] rfl) (by omega) (by omega) (by rw [jrw_t np]; show _ = (jrw (jtp (ja h 1 0) (ja h 1 1) (ja h 1 0 * ja h 1 1).toNat w.toInt) j).1 + 1; omega) (by rw [jrw_t np]; show _ = max (jrw (jtp (ja h 1 0) (ja h 1 1) (ja h 1 0 * ja h 1 1).toNat w.toInt) j).2 ((jrw (jtp (ja h 1 0) (ja h 1 1) (ja h 1 0 * ja h 1 1).toNat w.toInt) j).1 + 1); omega)
theorem clongest_ok {P : si_P} {d : Nat} {h : si_H} (hH : az_HI P az_tb h) (w : Int32) : az_X P (d + 5) 112 0 (lv_args 0 [.ref (P.1 + 3), .int w]) [] h (fun rv h' => h' = h ∧ jV rv (min (jrw (jtp (ja h 1 0) (ja h 1 1) (ja h 1 0 * ja h 1 1).toNat w.toInt) (2 * (ja h 1 0 * ja h 1 1).toNat)).2 (ja h 1 0 * ja h 1 1))) := by
  have bm : 4 ≤ ja h 1 0 ∧ ja h 1 0 ≤ 60 := ja_bd hH (i := 1) (k := 0) rfl
  have br : 2 ≤ ja h 1 1 ∧ ja h 1 1 ≤ 24 := ja_bd hH (i := 1) (k := 1) rfl
  have bp := nm_mulnn (a := 4) (b := 60) (c := 2) (d := 24) (x := ja h 1 0) (y := ja h 1 1) (by decide) (by decide) bm.1 bm.2 br.1 br.2
  have hl : jM [(0, .ref (P.1 + 3)), (1, .int w)] (lv_args 0 [.ref (P.1 + 3), .int w]) := jM_args [0, 1] rfl (by decide)
  generalize lv_args 0 [.ref (P.1 + 3), .int w] = ls at hl
  have k0 : (0 : Int32).toInt = 0 := by decide
  refine jm_aload_n (x := P.1 + 3) rfl rfl (jM_at hl 0 rfl) ?_
  refine jx_gf (i := 3) rfl rfl hH (by decide) (hH.2 3 _ rfl).1 rfl (jx_rf hH rfl rfl) ?_
  refine az_X_call (m' := 73) (as := [.ref (P.1 + 1)]) (rest := []) rfl rfl rfl rfl rfl ?_ ?_
  · unfold si_call
    dsimp only
    rw [if_pos ⟨rfl, rfl⟩]
    show (match si_ix P h (P.1 + 1) with | some i => _ | none => none) = _
    rw [jix hH (by decide)]
    dsimp only
    rw [(hH.2 1 _ rfl).1]
    rfl
  refine (tround_ok hH).mono ?_
  rintro rv4 h4 ⟨q4, z4, rfl, ez4⟩
  subst h4
  show az_X P _ 112 7 ls [.int z4] _ _
  refine jm_istore_n (l' := [(2, .int z4), (0, .ref (P.1 + 3)), (1, .int w)]) rfl rfl (by decide) hl rfl rfl (fun ls7 hl7 => ?_)
  refine az_X_step (pc' := 9) (ls' := ls7) (st' := [.int 0]) (h' := h) rfl rfl rfl ?_
  refine jm_istore_n (l' := [(3, .int 0), (2, .int z4), (0, .ref (P.1 + 3)), (1, .int w)]) rfl rfl (by decide) hl7 rfl rfl (fun ls9 hl9 => ?_)
  refine az_X_step (pc' := 11) (ls' := ls9) (st' := [.int 0]) (h' := h) rfl rfl rfl ?_
  refine jm_istore (l' := [(4, .int 0), (3, .int 0), (2, .int z4), (0, .ref (P.1 + 3)), (1, .int w)]) rfl rfl (by decide) hl9 rfl rfl (fun ls11 hl11 => ?_)
  refine az_X_step (pc' := 14) (ls' := ls11) (st' := [.int 0]) (h' := h) rfl rfl rfl ?_
  refine jm_istore (l' := [(5, .int 0), (4, .int 0), (3, .int 0), (2, .int z4), (0, .ref (P.1 + 3)), (1, .int w)]) rfl rfl (by decide) hl11 rfl rfl (fun ls14 hl14 => ?_)
  exact clong_l hH z4 w ez4 (2 * (ja h 1 0 * ja h 1 1).toNat) 0 0 0 0 ls14 (jM_pick hl14 [0, 1, 2, 3, 4, 5] rfl) (by decide) (by omega) (by show (0 : Int32).toInt = 0; decide) (by show (0 : Int32).toInt = 0; decide)
theorem ctill_l {P : si_P} {d : Nat} {h : si_H} (hH : az_HI P az_tb h) (K a : Int32) (ha : 0 ≤ a.toInt ∧ a.toInt < ja h 1 0 * ja h 1 1) (hK : K.toInt = ja h 1 0 * ja h 1 1) : ∀ (k j : Nat) (T : Int32) (ls : si_L), jM [(3, .int T), (2, .int K), (0, .ref (P.1 + 3)), (1, .int a)] ls → T.toInt = j → (j : Int) + k = K.toInt → (∀ i : Nat, i < j → ¬ (fun i : Nat => jtl (ja h 1 0) (ja h 1 1) (ja h 1 0 * ja h 1 1).toNat ((a.toInt + i) % (((ja h 1 0 * ja h 1 1).toNat : Nat) : Int)) = true) i) → az_X P (d + 5) 113 10 ls [] h (fun rv h' => h' = h ∧ ∃ z : Int32, rv = some (.int z) ∧ jfs (fun i : Nat => jtl (ja h 1 0) (ja h 1 1) (ja h 1 0 * ja h 1 1).toNat ((a.toInt + i) % (((ja h 1 0 * ja h 1 1).toNat : Nat) : Int)) = true) (ja h 1 0 * ja h 1 1).toNat z.toInt) := by
  have bm : 4 ≤ ja h 1 0 ∧ ja h 1 0 ≤ 60 := ja_bd hH (i := 1) (k := 0) rfl
  have br : 2 ≤ ja h 1 1 ∧ ja h 1 1 ≤ 24 := ja_bd hH (i := 1) (k := 1) rfl
  have bp := nm_mulnn (a := 4) (b := 60) (c := 2) (d := 24) (x := ja h 1 0) (y := ja h 1 1) (by decide) (by decide) bm.1 bm.2 br.1 br.2
  intro k
  induction k with
  | zero =>
    intro j T ls hl eT hj hs
    have km2 : ((-2) : Int32).toInt = (-2) := by decide
    refine jm_iload_n (x := T) rfl rfl (jM_at hl 0 rfl) ?_
    refine jm_iload_n (x := K) rfl rfl (jM_at hl 1 rfl) ?_
    refine jx_ic (t := 43) rfl rfl rfl (fun hc12 => ?_) (fun hc12 => ?_)
    · have g12 := jc2_ge_t hc12
      refine az_X_step (pc' := 45) (ls' := ls) (st' := [.int (-2)]) (h' := h) rfl rfl rfl ?_
      refine jx_ret rfl rfl rfl ?_
      exact ⟨rfl, (-2), rfl, Or.inr ⟨by decide, fun i hi => hs i (by omega)⟩⟩
    · have g12 := jc2_ge_f hc12
      exfalso
      omega
  | succ k ih =>
    intro j T ls hl eT hj hs
    have em : (a.toInt + (j : Int)) % (ja h 1 0 * ja h 1 1) = (a.toInt + (j : Int)) % (((ja h 1 0 * ja h 1 1).toNat : Nat) : Int) := by rw [show (((ja h 1 0 * ja h 1 1).toNat : Nat) : Int) = ja h 1 0 * ja h 1 1 by omega]
    have km2 : ((-2) : Int32).toInt = (-2) := by decide
    have k0 : (0 : Int32).toInt = 0 := by decide
    refine jm_iload_n (x := T) rfl rfl (jM_at hl 0 rfl) ?_
    refine jm_iload_n (x := K) rfl rfl (jM_at hl 1 rfl) ?_
    refine jx_ic (t := 43) rfl rfl rfl (fun hc12 => ?_) (fun hc12 => ?_)
    · have g12 := jc2_ge_t hc12
      refine az_X_step (pc' := 45) (ls' := ls) (st' := [.int (-2)]) (h' := h) rfl rfl rfl ?_
      refine jx_ret rfl rfl rfl ?_
      exfalso
      omega
    · have g12 := jc2_ge_f hc12
      refine jm_aload_n (x := P.1 + 3) rfl rfl (jM_at hl 2 rfl) ?_
      refine jx_gf (i := 3) rfl rfl hH (by decide) (hH.2 3 _ rfl).1 rfl (jx_rf hH rfl rfl) ?_
      refine jm_aload_n (x := P.1 + 3) rfl rfl (jM_at hl 2 rfl) ?_
      refine jx_gf (i := 3) rfl rfl hH (by decide) (hH.2 3 _ rfl).1 rfl (jx_rf hH rfl rfl) ?_
      refine jm_iload_n (x := a) rfl rfl (jM_at hl 3 rfl) ?_
      refine jm_iload_n (x := T) rfl rfl (jM_at hl 0 rfl) ?_
      refine jn_add (a := a) (b := T) rfl rfl (by omega) (by omega) (fun z25 ez25 => ?_)
      refine az_X_call (m' := 75) (as := [.ref (P.1 + 1), .int z25]) (rest := [.ref (P.1 + 1)]) rfl rfl rfl rfl rfl ?_ ?_
      · unfold si_call
        dsimp only
        rw [if_pos ⟨rfl, rfl⟩]
        show (match si_ix P h (P.1 + 1) with | some i => _ | none => none) = _
        rw [jix hH (by decide)]
        dsimp only
        rw [(hH.2 1 _ rfl).1]
        rfl
      refine (taround_ok hH z25).mono ?_
      rintro rv26 h26 ⟨q26, z26, rfl, ez26⟩
      subst h26
      have bz26 : 0 ≤ z26.toInt ∧ z26.toInt < ja h 1 0 * ja h 1 1 := by
        rw [ez26]
        exact ⟨Int.emod_nonneg _ (by omega), Int.emod_lt_of_pos _ (by omega)⟩
      show az_X P _ 113 29 ls [.int z26, .ref (P.1 + 1)] _ _
      refine az_X_call (m' := 87) (as := [.ref (P.1 + 1), .int z26]) (rest := []) rfl rfl rfl rfl rfl ?_ ?_
      · unfold si_call
        dsimp only
        rw [if_pos ⟨rfl, rfl⟩]
        show (match si_ix P h (P.1 + 1) with | some i => _ | none => none) = _
        rw [jix hH (by decide)]
        dsimp only
        rw [(hH.2 1 _ rfl).1]
        rfl
      refine (ctold_ok hH z26 bz26).mono ?_
      rintro rv29 h29 ⟨q29, z29, rfl, ez29⟩
      subst h29
      show az_X P _ 113 32 ls [.int z29] _ _
      refine jx_if (t := 37) rfl rfl rfl (fun hc32 => ?_) (fun hc32 => ?_)
      · have g32 := jc1_eq_t hc32
        refine jn_iinc (x := T) rfl rfl (by decide) (jM_at hl 0 rfl) hl rfl (by decide) (by omega) (by omega) (fun z37 (ez37 : z37.toInt = T.toInt + 1) ls37 (hl37 : jM [(3, .int z37), (2, .int K), (0, .ref (P.1 + 3)), (1, .int a)] ls37) => ?_)
        refine az_X_step (pc' := 10) (ls' := ls37) (st' := []) (h' := h) rfl rfl rfl ?_
        have eg : z29.toInt = jb (jtl (ja h 1 0) (ja h 1 1) (ja h 1 0 * ja h 1 1).toNat ((a.toInt + (j : Int)) % (((ja h 1 0 * ja h 1 1).toNat : Nat) : Int))) := by rw [ez29, ez26, show z25.toInt = a.toInt + (j : Int) by omega, em]
        rw [eg] at g32
        unfold jb at g32
        refine ih (j + 1) z37 ls37 (jM_pick hl37 [0, 1, 2, 3] rfl) (by omega) (by omega) (fun i hi => ?_)
        rcases Nat.lt_or_ge i j with q | q
        · exact hs i q
        · rw [show i = j by omega]
          intro q2
          have q3 : jtl (ja h 1 0) (ja h 1 1) (ja h 1 0 * ja h 1 1).toNat ((a.toInt + (j : Int)) % (((ja h 1 0 * ja h 1 1).toNat : Nat) : Int)) = true := q2
          rw [q3] at g32
          exact absurd g32 (by decide)
      · have g32 := jc1_eq_f hc32
        refine jm_iload_n (x := T) rfl rfl (jM_at hl 0 rfl) ?_
        refine jx_ret rfl rfl rfl ?_
        have eg : z29.toInt = jb (jtl (ja h 1 0) (ja h 1 1) (ja h 1 0 * ja h 1 1).toNat ((a.toInt + (j : Int)) % (((ja h 1 0 * ja h 1 1).toNat : Nat) : Int))) := by rw [ez29, ez26, show z25.toInt = a.toInt + (j : Int) by omega, em]
        rw [eg] at g32
        unfold jb at g32
        refine ⟨rfl, T, rfl, Or.inl ⟨j, by omega, eT, ?_, hs⟩⟩
        show jtl _ _ _ _ = true
        cases hh : jtl (ja h 1 0) (ja h 1 1) (ja h 1 0 * ja h 1 1).toNat ((a.toInt + (j : Int)) % (((ja h 1 0 * ja h 1 1).toNat : Nat) : Int))
        · rw [hh] at g32; exact absurd rfl g32
        · rfl
theorem ctill_ok {P : si_P} {d : Nat} {h : si_H} (hH : az_HI P az_tb h) (a : Int32) (ha : 0 ≤ a.toInt ∧ a.toInt < ja h 1 0 * ja h 1 1) : az_X P (d + 5) 113 0 (lv_args 0 [.ref (P.1 + 3), .int a]) [] h (fun rv h' => h' = h ∧ ∃ z : Int32, rv = some (.int z) ∧ jfs (fun i : Nat => jtl (ja h 1 0) (ja h 1 1) (ja h 1 0 * ja h 1 1).toNat ((a.toInt + i) % (((ja h 1 0 * ja h 1 1).toNat : Nat) : Int)) = true) (ja h 1 0 * ja h 1 1).toNat z.toInt) := by
  have bm : 4 ≤ ja h 1 0 ∧ ja h 1 0 ≤ 60 := ja_bd hH (i := 1) (k := 0) rfl
  have br : 2 ≤ ja h 1 1 ∧ ja h 1 1 ≤ 24 := ja_bd hH (i := 1) (k := 1) rfl
  have bp := nm_mulnn (a := 4) (b := 60) (c := 2) (d := 24) (x := ja h 1 0) (y := ja h 1 1) (by decide) (by decide) bm.1 bm.2 br.1 br.2
  have hl : jM [(0, .ref (P.1 + 3)), (1, .int a)] (lv_args 0 [.ref (P.1 + 3), .int a]) := jM_args [0, 1] rfl (by decide)
  generalize lv_args 0 [.ref (P.1 + 3), .int a] = ls at hl
  have k0 : (0 : Int32).toInt = 0 := by decide
  refine jm_aload_n (x := P.1 + 3) rfl rfl (jM_at hl 0 rfl) ?_
  refine jx_gf (i := 3) rfl rfl hH (by decide) (hH.2 3 _ rfl).1 rfl (jx_rf hH rfl rfl) ?_
  refine az_X_call (m' := 73) (as := [.ref (P.1 + 1)]) (rest := []) rfl rfl rfl rfl rfl ?_ ?_
  · unfold si_call
    dsimp only
    rw [if_pos ⟨rfl, rfl⟩]
    show (match si_ix P h (P.1 + 1) with | some i => _ | none => none) = _
    rw [jix hH (by decide)]
    dsimp only
    rw [(hH.2 1 _ rfl).1]
    rfl
  refine (tround_ok hH).mono ?_
  rintro rv4 h4 ⟨q4, z4, rfl, ez4⟩
  subst h4
  show az_X P _ 113 7 ls [.int z4] _ _
  refine jm_istore_n (l' := [(2, .int z4), (0, .ref (P.1 + 3)), (1, .int a)]) rfl rfl (by decide) hl rfl rfl (fun ls7 hl7 => ?_)
  refine az_X_step (pc' := 9) (ls' := ls7) (st' := [.int 0]) (h' := h) rfl rfl rfl ?_
  refine jm_istore_n (l' := [(3, .int 0), (2, .int z4), (0, .ref (P.1 + 3)), (1, .int a)]) rfl rfl (by decide) hl7 rfl rfl (fun ls9 hl9 => ?_)
  exact ctill_l hH z4 a ha ez4 (ja h 1 0 * ja h 1 1).toNat 0 0 ls9 (jM_pick hl9 [0, 1, 2, 3] rfl) (by decide) (by omega) (fun i hi => absurd hi (by omega))
/-- the dial is laid: what it is, the looks, how many look so -/
def jLK (h : si_H) (m r : Int) (y : Nat) : Prop := ja h 60 7 = m ∧ ja h 60 8 = r ∧ ja h 60 9 = y ∧ (∀ t : Nat, t < y → ja h 68 t = jlk m r t) ∧ ∀ L : Nat, L < 4096 → ja h 69 L = jam m r y L
theorem rmin2_ok {P : si_P} {d : Nat} {h : si_H} (a b : Int32) : az_X P d 203 0 (lv_args 0 [.int a, .int b]) [] h (fun rv h' => h' = h ∧ jV rv (min a.toInt b.toInt)) := by
  have hl : jM [(0, .int a), (1, .int b)] (lv_args 0 [.int a, .int b]) := jM_args [0, 1] rfl (by decide)
  generalize lv_args 0 [.int a, .int b] = ls at hl
  refine jm_iload_n (x := a) rfl rfl (jM_at hl 0 rfl) ?_
  refine jm_iload_n (x := b) rfl rfl (jM_at hl 1 rfl) ?_
  refine jx_ic (t := 9) rfl rfl rfl (fun hc2 => ?_) (fun hc2 => ?_)
  · have g2 := jc2_ge_t hc2
    refine jm_iload_n (x := b) rfl rfl (jM_at hl 1 rfl) ?_
    refine jx_ret rfl rfl rfl ?_
    exact ⟨rfl, b, rfl, by omega⟩
  · have g2 := jc2_ge_f hc2
    refine jm_iload_n (x := a) rfl rfl (jM_at hl 0 rfl) ?_
    refine az_X_step (pc' := 10) (ls' := ls) (st' := [.int a]) (h' := h) rfl rfl rfl ?_
    refine jx_ret rfl rfl rfl ?_
    exact ⟨rfl, a, rfl, by omega⟩
theorem rmax2_ok {P : si_P} {d : Nat} {h : si_H} (a b : Int32) : az_X P d 204 0 (lv_args 0 [.int a, .int b]) [] h (fun rv h' => h' = h ∧ jV rv (max a.toInt b.toInt)) := by
  have hl : jM [(0, .int a), (1, .int b)] (lv_args 0 [.int a, .int b]) := jM_args [0, 1] rfl (by decide)
  generalize lv_args 0 [.int a, .int b] = ls at hl
  refine jm_iload_n (x := a) rfl rfl (jM_at hl 0 rfl) ?_
  refine jm_iload_n (x := b) rfl rfl (jM_at hl 1 rfl) ?_
  refine jx_ic (t := 9) rfl rfl rfl (fun hc2 => ?_) (fun hc2 => ?_)
  · have g2 := jc2_le_t hc2
    refine jm_iload_n (x := b) rfl rfl (jM_at hl 1 rfl) ?_
    refine jx_ret rfl rfl rfl ?_
    exact ⟨rfl, b, rfl, by omega⟩
  · have g2 := jc2_le_f hc2
    refine jm_iload_n (x := a) rfl rfl (jM_at hl 0 rfl) ?_
    refine az_X_step (pc' := 10) (ls' := ls) (st' := [.int a]) (h' := h) rfl rfl rfl ?_
    refine jx_ret rfl rfl rfl ?_
    exact ⟨rfl, a, rfl, by omega⟩
theorem rlook_ok {P : si_P} {d : Nat} {h : si_H} (a b : Int32) (ha : 0 ≤ a.toInt ∧ a.toInt ≤ 63) (hb : 0 ≤ b.toInt ∧ b.toInt ≤ 63) : az_X P (d + 1) 214 0 (lv_args 0 [.int a, .int b]) [] h (fun rv h' => h' = h ∧ jV rv (64 * min a.toInt b.toInt + max a.toInt b.toInt)) := by
  have hl : jM [(0, .int a), (1, .int b)] (lv_args 0 [.int a, .int b]) := jM_args [0, 1] rfl (by decide)
  generalize lv_args 0 [.int a, .int b] = ls at hl
  have k64 : (64 : Int32).toInt = 64 := by decide
  refine az_X_step (pc' := 2) (ls' := ls) (st' := [.int 64]) (h' := h) rfl rfl rfl ?_
  refine jm_iload_n (x := a) rfl rfl (jM_at hl 0 rfl) ?_
  refine jm_iload_n (x := b) rfl rfl (jM_at hl 1 rfl) ?_
  refine az_X_call (m' := 203) (as := [.int a, .int b]) (rest := [.int 64]) rfl rfl rfl rfl rfl rfl ?_
  refine (rmin2_ok a b).mono ?_
  rintro rv4 h4 ⟨q4, z4, rfl, ez4⟩
  subst h4
  show az_X P _ 214 7 ls [.int z4, .int 64] _ _
  refine jn_mul (a := 64) (b := z4) rfl rfl (by rw [k64]; omega) (by rw [k64]; omega) (fun z7 ez7 => ?_)
  rw [show (64 : Int32).toInt = 64 by decide] at ez7
  refine jm_iload_n (x := a) rfl rfl (jM_at hl 0 rfl) ?_
  refine jm_iload_n (x := b) rfl rfl (jM_at hl 1 rfl) ?_
  refine az_X_call (m' := 204) (as := [.int a, .int b]) (rest := [.int z7]) rfl rfl rfl rfl rfl rfl ?_
  refine (rmax2_ok a b).mono ?_
  rintro rv10 h10 ⟨q10, z10, rfl, ez10⟩
  subst h10
  show az_X P _ 214 13 ls [.int z10, .int z7] _ _
  refine jn_add (a := z7) (b := z10) rfl rfl (by omega) (by omega) (fun z13 ez13 => ?_)
  refine jx_ret rfl rfl rfl ?_
  exact ⟨rfl, z13, rfl, by omega⟩
def ldL (P : si_P) (h0 : si_H) (m r : Int) (y : Nat) (rv : Option Value) (h' : si_H) : Prop := rv = none ∧ az_HI P az_tb h' ∧ az_same_out jm_ld h0 h' ∧ ja h' 60 7 = m ∧ ja h' 60 8 = r ∧ ja h' 60 9 = y ∧ ∀ L : Nat, L < 4096 → ja h' 69 L = jam m r y L
theorem ldl_51 {P : si_P} (hxa : P.2.1 < P.1) {d : Nat} {h0 : si_H} {m r : Int} {y : Nat} (hm : 4 ≤ m ∧ m ≤ 60) (hr : 2 ≤ r ∧ r ≤ 24) (hy : 8 ≤ y ∧ y ≤ 1440) (hp : m * r = y) : ∀ (n t : Nat) (T : Int32) (h : si_H) (ls : si_L), jM [(3, .int T), (0, .ref (P.1 + 60))] ls → T.toInt = t → t + n = y → az_HI P az_tb h → az_same_out jm_ld h0 h → ja h 60 7 = m → ja h 60 8 = r → ja h 60 9 = y → (∀ L : Nat, L < 4096 → ja h 69 L = jam m r t L) → az_X P (d + 2) 217 51 ls [] h (ldL P h0 m r y) := by
  intro n
  induction n with
  | zero =>
    intro t T h ls hl eT hn hH hs t7 t8 t9 hA
    refine jm_iload_n (x := T) rfl rfl (jM_at hl 0 rfl) ?_
    refine jm_aload_n (x := P.1 + 60) rfl rfl (jM_at hl 1 rfl) ?_
    refine jn_gf (i := 60) (k := 9) rfl rfl hH (by decide) (hH.2 60 _ rfl).1 rfl rfl (fun z53 (ez53 : z53.toInt = ja h 60 9) (bz53 : 8 ≤ z53.toInt ∧ z53.toInt ≤ 1440) => ?_)
    refine jx_ic (t := 108) rfl rfl rfl (fun hc56 => ?_) (fun hc56 => ?_)
    · have g56 := jc2_ge_t hc56
      refine jn_retv rfl rfl rfl ?_
      exact ⟨rfl, hH, hs, t7, t8, t9, by rw [show y = t by omega]; exact hA⟩
    · have g56 := jc2_ge_f hc56
      exfalso
      omega
  | succ n ih =>
    intro t T h ls hl eT hn hH hs t7 t8 t9 hA
    have dm := jdm (m := m) (r := r) (a := (t : Int)) hm hr (by omega) (by rw [hp]; omega)
    have k1 : (1 : Int32).toInt = 1 := by decide
    refine jm_iload_n (x := T) rfl rfl (jM_at hl 0 rfl) ?_
    refine jm_aload_n (x := P.1 + 60) rfl rfl (jM_at hl 1 rfl) ?_
    refine jn_gf (i := 60) (k := 9) rfl rfl hH (by decide) (hH.2 60 _ rfl).1 rfl rfl (fun z53 (ez53 : z53.toInt = ja h 60 9) (bz53 : 8 ≤ z53.toInt ∧ z53.toInt ≤ 1440) => ?_)
    refine jx_ic (t := 108) rfl rfl rfl (fun hc56 => ?_) (fun hc56 => ?_)
    · have g56 := jc2_ge_t hc56
      refine jn_retv rfl rfl rfl ?_
      exfalso
      omega
    · have g56 := jc2_ge_f hc56
      refine jm_aload_n (x := P.1 + 60) rfl rfl (jM_at hl 1 rfl) ?_
      refine jx_gf (i := 60) rfl rfl hH (by decide) (hH.2 60 _ rfl).1 rfl (jx_rf hH rfl rfl) ?_
      refine jm_iload_n (x := T) rfl rfl (jM_at hl 0 rfl) ?_
      refine jm_aload_n (x := P.1 + 60) rfl rfl (jM_at hl 1 rfl) ?_
      refine jm_iload_n (x := T) rfl rfl (jM_at hl 0 rfl) ?_
      refine az_X_call (m' := 215) (as := [.ref (P.1 + 60), .int T]) (rest := [.int T, .ref (P.1 + 68)]) rfl rfl rfl rfl rfl ?_ ?_
      · unfold si_call
        dsimp only
        rw [if_pos ⟨rfl, rfl⟩]
        show (match si_ix P h (P.1 + 60) with | some i => _ | none => none) = _
        rw [jix hH (by decide)]
        dsimp only
        rw [(hH.2 60 _ rfl).1]
        rfl
      refine (rlong_ok hH T (by omega)).mono ?_
      rintro rv66 h66 ⟨q66, z66, rfl, ez66⟩
      subst h66
      have bz66 : 0 ≤ z66.toInt ∧ z66.toInt ≤ 63 := by
        rw [ez66, t7, eT]
        omega
      show az_X P _ 217 69 ls [.int z66, .int T, .ref (P.1 + 68)] _ _
      refine jm_aload_n (x := P.1 + 60) rfl rfl (jM_at hl 1 rfl) ?_
      refine jm_iload_n (x := T) rfl rfl (jM_at hl 0 rfl) ?_
      refine az_X_call (m' := 216) (as := [.ref (P.1 + 60), .int T]) (rest := [.int z66, .int T, .ref (P.1 + 68)]) rfl rfl rfl rfl rfl ?_ ?_
      · unfold si_call
        dsimp only
        rw [if_pos ⟨rfl, rfl⟩]
        show (match si_ix P h (P.1 + 60) with | some i => _ | none => none) = _
        rw [jix hH (by decide)]
        dsimp only
        rw [(hH.2 60 _ rfl).1]
        rfl
      refine (rshort_ok hH T (by omega)).mono ?_
      rintro rv71 h71 ⟨q71, z71, rfl, ez71⟩
      subst h71
      have bz71 : 0 ≤ z71.toInt ∧ z71.toInt ≤ 63 := by
        rw [ez71, t8, eT]
        omega
      show az_X P _ 217 74 ls [.int z71, .int z66, .int T, .ref (P.1 + 68)] _ _
      refine az_X_call (m' := 214) (as := [.int z66, .int z71]) (rest := [.int T, .ref (P.1 + 68)]) rfl rfl rfl rfl rfl rfl ?_
      refine (rlook_ok z66 z71 bz66 bz71).mono ?_
      rintro rv74 h74 ⟨q74, z74, rfl, ez74⟩
      subst h74
      show az_X P _ 217 77 ls [.int z74, .int T, .ref (P.1 + 68)] _ _
      refine jn_ias (i := 68) (x := T) (v := z74) rfl rfl hH (by decide) rfl (by omega) (by show _ < ((1440 : Nat) : Int); omega) (by show 0 ≤ _; omega) (by show _ ≤ 4095; omega) (fun h77 hH77 hs77 t77 u77 => ?_)
      refine jm_aload_n (x := P.1 + 60) rfl rfl (jM_at hl 1 rfl) ?_
      refine jx_gf (i := 60) rfl rfl hH77 (by decide) (hH77.2 60 _ rfl).1 rfl (jx_rf hH77 rfl rfl) ?_
      refine jm_aload_n (x := P.1 + 60) rfl rfl (jM_at hl 1 rfl) ?_
      refine jx_gf (i := 60) rfl rfl hH77 (by decide) (hH77.2 60 _ rfl).1 rfl (jx_rf hH77 rfl rfl) ?_
      refine jm_iload_n (x := T) rfl rfl (jM_at hl 0 rfl) ?_
      refine jx_ial (i := 68) (x := T) rfl rfl hxa hH77 (by decide) rfl (by omega) (by show _ < ((1440 : Nat) : Int); omega) (fun z87 ez87 bz87 => ?_)
      refine jm_aload_n (x := P.1 + 60) rfl rfl (jM_at hl 1 rfl) ?_
      refine jx_gf (i := 60) rfl rfl hH77 (by decide) (hH77.2 60 _ rfl).1 rfl (jx_rf hH77 rfl rfl) ?_
      refine jm_aload_n (x := P.1 + 60) rfl rfl (jM_at hl 1 rfl) ?_
      refine jx_gf (i := 60) rfl rfl hH77 (by decide) (hH77.2 60 _ rfl).1 rfl (jx_rf hH77 rfl rfl) ?_
      refine jm_iload_n (x := T) rfl rfl (jM_at hl 0 rfl) ?_
      refine jx_ial (i := 68) (x := T) rfl rfl hxa hH77 (by decide) rfl (by omega) (by show _ < ((1440 : Nat) : Int); omega) (fun z97 ez97 bz97 => ?_)
      refine jx_ial (i := 69) (x := z97) rfl rfl hxa hH77 (by decide) rfl (by omega) (by show _ < ((4096 : Nat) : Int); omega) (fun z98 ez98 bz98 => ?_)
      refine az_X_step (pc' := 100) (ls' := ls) (st' := [.int 1, .int z98, .int z87, .ref (P.1 + 69)]) (h' := h77) rfl rfl rfl ?_
      have h98 : z98.toInt = ja h 69 z97.toInt := by rw [ez98]; exact jso_row hs77 (by decide) _
      have h97 := hA z97.toInt.toNat (by omega)
      rw [Int.toNat_of_nonneg bz97.1] at h97
      have b98 : 0 ≤ jam m r t z97.toInt ∧ jam m r t z97.toInt ≤ t := jct_bd _ t
      refine jn_add (a := z98) (b := 1) rfl rfl (by omega) (by omega) (fun z100 ez100 => ?_)
      rw [show (1 : Int32).toInt = 1 by decide] at ez100
      refine jn_ias (i := 69) (x := z87) (v := z100) rfl rfl hH77 (by decide) rfl (by omega) (by show _ < ((4096 : Nat) : Int); omega) (by show (-2147483648) ≤ _; omega) (by show _ ≤ 2147483647; omega) (fun h101 hH101 hs101 t101 u101 => ?_)
      refine jn_iinc (x := T) rfl rfl (by decide) (jM_at hl 0 rfl) hl rfl (by decide) (by omega) (by omega) (fun z102 (ez102 : z102.toInt = T.toInt + 1) ls102 (hl102 : jM [(3, .int z102), (0, .ref (P.1 + 60))] ls102) => ?_)
      refine az_X_step (pc' := 51) (ls' := ls102) (st' := []) (h' := h101) rfl rfl rfl ?_
      have ev : z74.toInt = jlk m r t := by
        rw [ez74, ez66, ez71, t7, t8, eT]
        rfl
      have e87 : z87.toInt = z74.toInt := by rw [ez87]; exact t77
      have e97 : z97.toInt = z74.toInt := by rw [ez97]; exact t77
      have e98 : z98.toInt = ja h 69 z74.toInt := by rw [ez98, e97]; exact jso_row hs77 (by decide) _
      refine ih (t + 1) z102 h101 ls102 (jM_pick hl102 [0, 1] rfl) (by omega) (by omega) hH101 ((hs.tr (hs77.sub (by decide))).tr (hs101.sub (by decide))) (((jso hs101 (by decide)).trans (jso hs77 (by decide))).trans t7) (((jso hs101 (by decide)).trans (jso hs77 (by decide))).trans t8) (((jso hs101 (by decide)).trans (jso hs77 (by decide))).trans t9) (fun L hL => ?_)
      have ps : jam m r (t + 1) L = jam m r t L + (if decide (jlk m r t = (L : Int)) = true then 1 else 0) := rfl
      have h0' := hA L hL
      by_cases e : (L : Int) = z74.toInt
      · have hv : ja h101 69 z74.toInt = ja h 69 z74.toInt + 1 := by rw [← e87, t101, ez100, e98, e87]
        rw [ps, decide_eq_true (by rw [← ev]; exact e.symm), if_pos rfl, ← h0', e]
        exact hv
      · rw [ps, decide_eq_false (by rw [← ev]; exact fun q => e q.symm), if_neg (by decide), Int.add_zero, u101 L (by omega) (by rw [e87]; exact e), jso_row hs77 (by decide)]
        exact h0'
theorem ldl_29 {P : si_P} (hxa : P.2.1 < P.1) {d : Nat} {h0 : si_H} {m r : Int} {y : Nat} (hm : 4 ≤ m ∧ m ≤ 60) (hr : 2 ≤ r ∧ r ≤ 24) (hy : 8 ≤ y ∧ y ≤ 1440) (hp : m * r = y) : ∀ (n t : Nat) (T : Int32) (h : si_H) (ls : si_L), jM [(3, .int T), (0, .ref (P.1 + 60))] ls → T.toInt = t → t + n = 4096 → az_HI P az_tb h → az_same_out jm_ld h0 h → ja h 60 7 = m → ja h 60 8 = r → ja h 60 9 = y → (∀ L : Nat, L < t → ja h 69 L = 0) → az_X P (d + 2) 217 29 ls [] h (ldL P h0 m r y) := by
  intro n
  induction n with
  | zero =>
    intro t T h ls hl eT hn hH hs t7 t8 t9 hA
    have k0 : (0 : Int32).toInt = 0 := by decide
    have k4096 : (4096 : Int32).toInt = 4096 := by decide
    refine jm_iload_n (x := T) rfl rfl (jM_at hl 0 rfl) ?_
    refine az_X_step (pc' := 33) (ls' := ls) (st' := [.int 4096, .int T]) (h' := h) rfl rfl rfl ?_
    refine jx_ic (t := 49) rfl rfl rfl (fun hc33 => ?_) (fun hc33 => ?_)
    · have g33 := jc2_ge_t hc33
      refine az_X_step (pc' := 50) (ls' := ls) (st' := [.int 0]) (h' := h) rfl rfl rfl ?_
      refine jm_istore_n (l' := [(3, .int 0), (0, .ref (P.1 + 60))]) rfl rfl (by decide) hl rfl rfl (fun ls50 hl50 => ?_)
      exact ldl_51 hxa hm hr hy hp y 0 0 h ls50 (jM_pick hl50 [0, 1] rfl) (by decide) (by omega) hH hs t7 t8 t9 (fun L hL => hA L (by omega))
    · have g33 := jc2_ge_f hc33
      exfalso
      omega
  | succ n ih =>
    intro t T h ls hl eT hn hH hs t7 t8 t9 hA
    have k0 : (0 : Int32).toInt = 0 := by decide
    have k4096 : (4096 : Int32).toInt = 4096 := by decide
    refine jm_iload_n (x := T) rfl rfl (jM_at hl 0 rfl) ?_
    refine az_X_step (pc' := 33) (ls' := ls) (st' := [.int 4096, .int T]) (h' := h) rfl rfl rfl ?_
    refine jx_ic (t := 49) rfl rfl rfl (fun hc33 => ?_) (fun hc33 => ?_)
    · have g33 := jc2_ge_t hc33
      refine az_X_step (pc' := 50) (ls' := ls) (st' := [.int 0]) (h' := h) rfl rfl rfl ?_
      refine jm_istore_n (l' := [(3, .int 0), (0, .ref (P.1 + 60))]) rfl rfl (by decide) hl rfl rfl (fun ls50 hl50 => ?_)
      exfalso
      omega
    · have g33 := jc2_ge_f hc33
      refine jm_aload_n (x := P.1 + 60) rfl rfl (jM_at hl 1 rfl) ?_
      refine jx_gf (i := 60) rfl rfl hH (by decide) (hH.2 60 _ rfl).1 rfl (jx_rf hH rfl rfl) ?_
      refine jm_iload_n (x := T) rfl rfl (jM_at hl 0 rfl) ?_
      refine az_X_step (pc' := 42) (ls' := ls) (st' := [.int 0, .int T, .ref (P.1 + 69)]) (h' := h) rfl rfl rfl ?_
      refine jn_ias (i := 69) (x := T) (v := 0) rfl rfl hH (by decide) rfl (by omega) (by show _ < ((4096 : Nat) : Int); omega) (by show (-2147483648) ≤ _; omega) (by show _ ≤ 2147483647; omega) (fun h42 hH42 hs42 t42 u42 => ?_)
      refine jn_iinc (x := T) rfl rfl (by decide) (jM_at hl 0 rfl) hl rfl (by decide) (by omega) (by omega) (fun z43 (ez43 : z43.toInt = T.toInt + 1) ls43 (hl43 : jM [(3, .int z43), (0, .ref (P.1 + 60))] ls43) => ?_)
      refine az_X_step (pc' := 29) (ls' := ls43) (st' := []) (h' := h42) rfl rfl rfl ?_
      refine ih (t + 1) z43 h42 ls43 (jM_pick hl43 [0, 1] rfl) (by omega) (by omega) hH42 (hs.tr (hs42.sub (by decide))) ((jso hs42 (by decide)).trans t7) ((jso hs42 (by decide)).trans t8) ((jso hs42 (by decide)).trans t9) (fun L hL => ?_)
      by_cases e : (L : Int) = T.toInt
      · rw [e, t42]; decide
      · rw [u42 L (by omega) e]; exact hA L (by omega)
theorem ldl_17 {P : si_P} (hxa : P.2.1 < P.1) {d : Nat} {h0 : si_H} {m r : Int} {y : Nat} (hm : 4 ≤ m ∧ m ≤ 60) (hr : 2 ≤ r ∧ r ≤ 24) (hy : 8 ≤ y ∧ y ≤ 1440) (hp : m * r = y) (h : si_H) (ls : si_L) (hl : jM [(0, .ref (P.1 + 60))] ls) (hH : az_HI P az_tb h) (hs : az_same_out jm_ld h0 h) (t7 : ja h 60 7 = m) (t8 : ja h 60 8 = r) (t9 : ja h 60 9 = y) : az_X P (d + 2) 217 17 ls [] h (ldL P h0 m r y) := by
  have k0 : (0 : Int32).toInt = 0 := by decide
  refine jm_aload_n (x := P.1 + 60) rfl rfl (jM_at hl 0 rfl) ?_
  refine az_X_step (pc' := 19) (ls' := ls) (st' := [.int 0, .ref (P.1 + 60)]) (h' := h) rfl rfl rfl ?_
  refine jn_pf (i := 60) (k := 10) (x := 0) rfl rfl hH (by decide) rfl (hH.2 60 _ rfl).1 rfl rfl (by decide) (by decide) (by show 0 ≤ _; omega) (by show _ ≤ 255; omega) (fun h19 hH19 hs19 (t19 : ja h19 60 10 = (0 : Int32).toInt) => ?_)
  replace t19 : ja h19 60 10 = 0 := t19.trans (by decide)
  refine jm_aload_n (x := P.1 + 60) rfl rfl (jM_at hl 0 rfl) ?_
  refine az_X_step (pc' := 24) (ls' := ls) (st' := [.int 0, .ref (P.1 + 60)]) (h' := h19) rfl rfl rfl ?_
  refine jn_pf (i := 60) (k := 11) (x := 0) rfl rfl hH19 (by decide) rfl (hH19.2 60 _ rfl).1 rfl rfl (by decide) (by decide) (by show 0 ≤ _; omega) (by show _ ≤ 16; omega) (fun h24 hH24 hs24 (t24 : ja h24 60 11 = (0 : Int32).toInt) => ?_)
  replace t24 : ja h24 60 11 = 0 := t24.trans (by decide)
  refine az_X_step (pc' := 28) (ls' := ls) (st' := [.int 0]) (h' := h24) rfl rfl rfl ?_
  refine jm_istore_n (l' := [(3, .int 0), (0, .ref (P.1 + 60))]) rfl rfl (by decide) hl rfl rfl (fun ls28 hl28 => ?_)
  exact ldl_29 hxa hm hr hy hp 4096 0 0 h24 ls28 (jM_pick hl28 [0, 1] rfl) (by decide) (by omega) hH24 ((hs.tr (hs19.sub (by decide))).tr (hs24.sub (by decide))) (((jso hs24 (by decide)).trans (jso hs19 (by decide))).trans t7) (((jso hs24 (by decide)).trans (jso hs19 (by decide))).trans t8) (((jso hs24 (by decide)).trans (jso hs19 (by decide))).trans t9) (fun L hL => absurd hL (by omega))
theorem laysL_ok {P : si_P} (hxa : P.2.1 < P.1) {d : Nat} {h : si_H} (hH : az_HI P az_tb h) (a b : Int32) (ha : 4 ≤ a.toInt ∧ a.toInt ≤ 60) (hb : 2 ≤ b.toInt ∧ b.toInt ≤ 24) : az_X P (d + 2) 217 0 (lv_args 0 [.ref (P.1 + 60), .int a, .int b]) [] h (fun rv h' => rv = none ∧ az_HI P az_tb h' ∧ az_same_out jm_ld h h' ∧ ja h' 60 7 = a.toInt ∧ ja h' 60 8 = b.toInt ∧ ja h' 60 9 = a.toInt * b.toInt ∧ ∀ L : Nat, L < 4096 → ja h' 69 L = jam a.toInt b.toInt (a.toInt * b.toInt).toNat L) := by
  have bp := nm_mulnn (a := 4) (b := 60) (c := 2) (d := 24) (x := a.toInt) (y := b.toInt) (by decide) (by decide) ha.1 ha.2 hb.1 hb.2
  have hl : jM [(0, .ref (P.1 + 60)), (1, .int a), (2, .int b)] (lv_args 0 [.ref (P.1 + 60), .int a, .int b]) := jM_args [0, 1, 2] rfl (by decide)
  generalize lv_args 0 [.ref (P.1 + 60), .int a, .int b] = ls at hl
  refine jm_aload_n (x := P.1 + 60) rfl rfl (jM_at hl 0 rfl) ?_
  refine jm_iload_n (x := a) rfl rfl (jM_at hl 1 rfl) ?_
  refine jn_pf (i := 60) (k := 7) (x := a) rfl rfl hH (by decide) rfl (hH.2 60 _ rfl).1 rfl rfl (by decide) (by decide) (by show 4 ≤ _; omega) (by show _ ≤ 60; omega) (fun h2 hH2 hs2 (t2 : ja h2 60 7 = a.toInt) => ?_)
  refine jm_aload_n (x := P.1 + 60) rfl rfl (jM_at hl 0 rfl) ?_
  refine jm_iload_n (x := b) rfl rfl (jM_at hl 2 rfl) ?_
  refine jn_pf (i := 60) (k := 8) (x := b) rfl rfl hH2 (by decide) rfl (hH2.2 60 _ rfl).1 rfl rfl (by decide) (by decide) (by show 2 ≤ _; omega) (by show _ ≤ 24; omega) (fun h7 hH7 hs7 (t7 : ja h7 60 8 = b.toInt) => ?_)
  refine jm_aload_n (x := P.1 + 60) rfl rfl (jM_at hl 0 rfl) ?_
  refine jm_iload_n (x := a) rfl rfl (jM_at hl 1 rfl) ?_
  refine jm_iload_n (x := b) rfl rfl (jM_at hl 2 rfl) ?_
  refine jn_mul (a := a) (b := b) rfl rfl (by omega) (by omega) (fun z13 ez13 => ?_)
  refine jn_pf (i := 60) (k := 9) (x := z13) rfl rfl hH7 (by decide) rfl (hH7.2 60 _ rfl).1 rfl rfl (by decide) (by decide) (by show 8 ≤ _; omega) (by show _ ≤ 1440; omega) (fun h14 hH14 hs14 (t14 : ja h14 60 9 = z13.toInt) => ?_)
  refine (ldl_17 hxa (h0 := h) (m := a.toInt) (r := b.toInt) (y := (a.toInt * b.toInt).toNat) ha hb (by omega) (by omega) h14 ls (jM_pick hl [0] rfl) hH14 ((hs2.sub (by decide)).tr ((hs7.sub (by decide)).tr (hs14.sub (by decide)))) ((jso hs14 (by decide)).trans ((jso hs7 (by decide)).trans t2)) ((jso hs14 (by decide)).trans t7) (t14.trans (by omega))).mono ?_
  rintro rv h9 ⟨q1, q2, q3, q4, q5, q6, q7⟩
  exact ⟨q1, q2, q3, q4, q5, by omega, q7⟩
theorem dialL_ok {P : si_P} (hxa : P.2.1 < P.1) {d : Nat} {h : si_H} (hH : az_HI P az_tb h) (a b : Int32) : az_X P (d + 3) 218 0 (lv_args 0 [.ref (P.1 + 60), .int a, .int b]) [] h (fun rv h' => h' = h ∨ (ja h' 60 7 = a.toInt ∧ ja h' 60 8 = b.toInt ∧ ja h' 60 9 = a.toInt * b.toInt ∧ ∀ L : Nat, L < 4096 → ja h' 69 L = jam a.toInt b.toInt (a.toInt * b.toInt).toNat L)) := by
  have hl : jM [(0, .ref (P.1 + 60)), (1, .int a), (2, .int b)] (lv_args 0 [.ref (P.1 + 60), .int a, .int b]) := jM_args [0, 1, 2] rfl (by decide)
  generalize lv_args 0 [.ref (P.1 + 60), .int a, .int b] = ls at hl
  have k0 : (0 : Int32).toInt = 0 := by decide
  have k1 : (1 : Int32).toInt = 1 := by decide
  have k2 : (2 : Int32).toInt = 2 := by decide
  have k4 : (4 : Int32).toInt = 4 := by decide
  have k24 : (24 : Int32).toInt = 24 := by decide
  have k60 : (60 : Int32).toInt = 60 := by decide
  refine jm_iload_n (x := a) rfl rfl (jM_at hl 1 rfl) ?_
  refine az_X_step (pc' := 2) (ls' := ls) (st' := [.int 4, .int a]) (h' := h) rfl rfl rfl ?_
  refine az_X_step (pc' := 4) (ls' := ls) (st' := [.int 60, .int 4, .int a]) (h' := h) rfl rfl rfl ?_
  refine az_X_call (m' := 202) (as := [.int a, .int 4, .int 60]) (rest := []) rfl rfl rfl rfl rfl rfl ?_
  refine (rin_ok a 4 60).mono ?_
  rintro rv4 h4 ⟨q4, z4, rfl, ez4⟩
  subst h4
  show az_X P _ 218 7 ls [.int z4] _ _
  refine jx_if (t := 20) rfl rfl rfl (fun hc7 => ?_) (fun hc7 => ?_)
  · have g7 := jc1_eq_t hc7
    refine az_X_step (pc' := 21) (ls' := ls) (st' := [.int 0]) (h' := h) rfl rfl rfl ?_
    refine jx_retz rfl rfl rfl (by decide) ?_
    exact Or.inl rfl
  · have g7 := jc1_eq_f hc7
    refine jm_iload_n (x := b) rfl rfl (jM_at hl 2 rfl) ?_
    refine az_X_step (pc' := 12) (ls' := ls) (st' := [.int 2, .int b]) (h' := h) rfl rfl rfl ?_
    refine az_X_step (pc' := 14) (ls' := ls) (st' := [.int 24, .int 2, .int b]) (h' := h) rfl rfl rfl ?_
    refine az_X_call (m' := 202) (as := [.int b, .int 2, .int 24]) (rest := []) rfl rfl rfl rfl rfl rfl ?_
    refine (rin_ok b 2 24).mono ?_
    rintro rv14 h14 ⟨q14, z14, rfl, ez14⟩
    subst h14
    show az_X P _ 218 17 ls [.int z14] _ _
    refine jx_if (t := 22) rfl rfl rfl (fun hc17 => ?_) (fun hc17 => ?_)
    · have g17 := jc1_ne_t hc17
      refine jm_aload_n (x := P.1 + 60) rfl rfl (jM_at hl 0 rfl) ?_
      refine jm_iload_n (x := a) rfl rfl (jM_at hl 1 rfl) ?_
      refine jm_iload_n (x := b) rfl rfl (jM_at hl 2 rfl) ?_
      refine az_X_call (m' := 217) (as := [.ref (P.1 + 60), .int a, .int b]) (rest := []) rfl rfl rfl rfl rfl ?_ ?_
      · unfold si_call
        dsimp only
        rw [if_pos ⟨rfl, rfl⟩]
        show (match si_ix P h (P.1 + 60) with | some i => _ | none => none) = _
        rw [jix hH (by decide)]
        dsimp only
        rw [(hH.2 60 _ rfl).1]
        rfl
      refine (laysL_ok hxa hH a b (by omega) (by omega)).mono ?_
      rintro rv25 h25 ⟨rfl, hH25, hs25, f25⟩
      show az_X P _ 218 28 ls [] _ _
      refine az_X_step (pc' := 29) (ls' := ls) (st' := [.int 1]) (h' := h25) rfl rfl rfl ?_
      refine jx_retz rfl rfl rfl (by decide) ?_
      exact Or.inr f25
    · have g17 := jc1_ne_f hc17
      refine az_X_step (pc' := 21) (ls' := ls) (st' := [.int 0]) (h' := h) rfl rfl rfl ?_
      refine jx_retz rfl rfl rfl (by decide) ?_
      exact Or.inl rfl
theorem rtold_ok {P : si_P} (hxa : P.2.1 < P.1) {d : Nat} {h : si_H} (hH : az_HI P az_tb h) {m r : Int} {y : Nat} (hm : 4 ≤ m ∧ m ≤ 60) (hr : 2 ≤ r ∧ r ≤ 24) (hy : 8 ≤ y ∧ y ≤ 1440) (hp : m * r = y) (hK : jLK h m r y) (t : Int32) (ht : 0 ≤ t.toInt ∧ t.toInt < y) : az_X P d 225 0 (lv_args 0 [.ref (P.1 + 60), .int t]) [] h (fun rv h' => h' = h ∧ jV rv (jb (jtl m r y t.toInt))) := by
  obtain ⟨t7, t8, t9, h68, h69⟩ := hK
  have hl : jM [(0, .ref (P.1 + 60)), (1, .int t)] (lv_args 0 [.ref (P.1 + 60), .int t]) := jM_args [0, 1] rfl (by decide)
  generalize lv_args 0 [.ref (P.1 + 60), .int t] = ls at hl
  have k0 : (0 : Int32).toInt = 0 := by decide
  have k1 : (1 : Int32).toInt = 1 := by decide
  refine jm_aload_n (x := P.1 + 60) rfl rfl (jM_at hl 0 rfl) ?_
  refine jx_gf (i := 60) rfl rfl hH (by decide) (hH.2 60 _ rfl).1 rfl (jx_rf hH rfl rfl) ?_
  refine jm_aload_n (x := P.1 + 60) rfl rfl (jM_at hl 0 rfl) ?_
  refine jx_gf (i := 60) rfl rfl hH (by decide) (hH.2 60 _ rfl).1 rfl (jx_rf hH rfl rfl) ?_
  refine jm_iload_n (x := t) rfl rfl (jM_at hl 1 rfl) ?_
  refine jx_ial (i := 68) (x := t) rfl rfl hxa hH (by decide) rfl (by omega) (by show _ < ((1440 : Nat) : Int); omega) (fun z9 ez9 bz9 => ?_)
  refine jx_ial (i := 69) (x := z9) rfl rfl hxa hH (by decide) rfl (by omega) (by show _ < ((4096 : Nat) : Int); omega) (fun z10 ez10 bz10 => ?_)
  refine az_X_step (pc' := 12) (ls' := ls) (st' := [.int 1, .int z10]) (h' := h) rfl rfl rfl ?_
  refine jx_ic (t := 19) rfl rfl rfl (fun hc12 => ?_) (fun hc12 => ?_)
  · have g12 := jc2_ne_t hc12
    refine az_X_step (pc' := 20) (ls' := ls) (st' := [.int 0]) (h' := h) rfl rfl rfl ?_
    refine jx_retz rfl rfl rfl (by decide) ?_
    have q9 := h68 t.toInt.toNat (by omega)
    rw [Int.toNat_of_nonneg ht.1] at q9
    have q10 := h69 z9.toInt.toNat (by omega)
    rw [Int.toNat_of_nonneg bz9.1] at q10
    rw [ez10, q10, ez9, q9, k1] at g12
    exact ⟨rfl, 0, rfl, by unfold jb jtl; rw [decide_eq_false g12, if_neg (by decide)]; decide⟩
  · have g12 := jc2_ne_f hc12
    refine az_X_step (pc' := 16) (ls' := ls) (st' := [.int 1]) (h' := h) rfl rfl rfl ?_
    refine az_X_step (pc' := 20) (ls' := ls) (st' := [.int 1]) (h' := h) rfl rfl rfl ?_
    refine jx_retz rfl rfl rfl (by decide) ?_
    have q9 := h68 t.toInt.toNat (by omega)
    rw [Int.toNat_of_nonneg ht.1] at q9
    have q10 := h69 z9.toInt.toNat (by omega)
    rw [Int.toNat_of_nonneg bz9.1] at q10
    rw [ez10, q10, ez9, q9, k1] at g12
    exact ⟨rfl, 1, rfl, by unfold jb jtl; rw [decide_eq_true g12, if_pos rfl]; decide⟩
theorem runt_l {P : si_P} (hxa : P.2.1 < P.1) {d : Nat} {h : si_H} (hH : az_HI P az_tb h) {m r : Int} {y : Nat} (hm : 4 ≤ m ∧ m ≤ 60) (hr : 2 ≤ r ∧ r ≤ 24) (hy : 8 ≤ y ∧ y ≤ 1440) (hp : m * r = y) (hK : jLK h m r y) : ∀ (k j : Nat) (T A : Int32) (ls : si_L), jM [(2, .int T), (1, .int A), (0, .ref (P.1 + 60))] ls → T.toInt = j → j + k = y → A.toInt = jct (fun t : Nat => !(jtl m r y t)) j → az_X P (d + 1) 226 4 ls [] h (fun rv h' => h' = h ∧ jV rv (jct (fun t : Nat => !(jtl m r y t)) y)) := by
  have t9 := hK.2.2.1
  intro k
  induction k with
  | zero =>
    intro j T A ls hl eT hj eA
    refine jm_iload_n (x := T) rfl rfl (jM_at hl 0 rfl) ?_
    refine jm_aload_n (x := P.1 + 60) rfl rfl (jM_at hl 2 rfl) ?_
    refine jn_gf (i := 60) (k := 9) rfl rfl hH (by decide) (hH.2 60 _ rfl).1 rfl rfl (fun z6 (ez6 : z6.toInt = ja h 60 9) (bz6 : 8 ≤ z6.toInt ∧ z6.toInt ≤ 1440) => ?_)
    refine jx_ic (t := 30) rfl rfl rfl (fun hc9 => ?_) (fun hc9 => ?_)
    · have g9 := jc2_ge_t hc9
      refine jm_iload_n (x := A) rfl rfl (jM_at hl 1 rfl) ?_
      refine jx_ret rfl rfl rfl ?_
      exact ⟨rfl, A, rfl, by rw [eA, show j = y by omega]⟩
    · have g9 := jc2_ge_f hc9
      exfalso
      omega
  | succ k ih =>
    intro j T A ls hl eT hj eA
    have bA := jct_bd (fun t : Nat => !(jtl m r y t)) j
    have k0 : (0 : Int32).toInt = 0 := by decide
    have k1 : (1 : Int32).toInt = 1 := by decide
    refine jm_iload_n (x := T) rfl rfl (jM_at hl 0 rfl) ?_
    refine jm_aload_n (x := P.1 + 60) rfl rfl (jM_at hl 2 rfl) ?_
    refine jn_gf (i := 60) (k := 9) rfl rfl hH (by decide) (hH.2 60 _ rfl).1 rfl rfl (fun z6 (ez6 : z6.toInt = ja h 60 9) (bz6 : 8 ≤ z6.toInt ∧ z6.toInt ≤ 1440) => ?_)
    refine jx_ic (t := 30) rfl rfl rfl (fun hc9 => ?_) (fun hc9 => ?_)
    · have g9 := jc2_ge_t hc9
      refine jm_iload_n (x := A) rfl rfl (jM_at hl 1 rfl) ?_
      refine jx_ret rfl rfl rfl ?_
      exfalso
      omega
    · have g9 := jc2_ge_f hc9
      refine jm_aload_n (x := P.1 + 60) rfl rfl (jM_at hl 2 rfl) ?_
      refine jm_iload_n (x := T) rfl rfl (jM_at hl 0 rfl) ?_
      refine az_X_call (m' := 225) (as := [.ref (P.1 + 60), .int T]) (rest := []) rfl rfl rfl rfl rfl ?_ ?_
      · unfold si_call
        dsimp only
        rw [if_pos ⟨rfl, rfl⟩]
        show (match si_ix P h (P.1 + 60) with | some i => _ | none => none) = _
        rw [jix hH (by decide)]
        dsimp only
        rw [(hH.2 60 _ rfl).1]
        rfl
      refine (rtold_ok hxa hH hm hr hy hp hK T (by omega)).mono ?_
      rintro rv14 h14 ⟨q14, z14, rfl, ez14⟩
      subst h14
      show az_X P _ 226 17 ls [.int z14] _ _
      refine jx_if (t := 24) rfl rfl rfl (fun hc17 => ?_) (fun hc17 => ?_)
      · have g17 := jc1_ne_t hc17
        refine jn_iinc (x := T) rfl rfl (by decide) (jM_at hl 0 rfl) hl rfl (by decide) (by omega) (by omega) (fun z24 (ez24 : z24.toInt = T.toInt + 1) ls24 (hl24 : jM [(2, .int z24), (1, .int A), (0, .ref (P.1 + 60))] ls24) => ?_)
        refine az_X_step (pc' := 4) (ls' := ls24) (st' := []) (h' := h) rfl rfl rfl ?_
        rw [ez14, eT] at g17
        have ps := jct_s (fun t : Nat => !(jtl m r y t)) j
        have np : (!(jtl m r y j)) = false := by
          unfold jb at g17
          cases hh : jtl m r y j
          · rw [hh] at g17; exact absurd rfl g17
          · rfl
        rw [np] at ps
        exact ih (j + 1) z24 A ls24 (jM_pick hl24 [0, 1, 2] rfl) (by omega) (by omega) (by rw [ps, if_neg (by decide), Int.add_zero]; exact eA)
      · have g17 := jc1_ne_f hc17
        refine jm_iload_n (x := A) rfl rfl (jM_at hl 1 rfl) ?_
        refine az_X_step (pc' := 22) (ls' := ls) (st' := [.int 1, .int A]) (h' := h) rfl rfl rfl ?_
        refine jn_add (a := A) (b := 1) rfl rfl (by omega) (by omega) (fun z22 ez22 => ?_)
        rw [show (1 : Int32).toInt = 1 by decide] at ez22
        refine jm_istore_n (l' := [(1, .int z22), (2, .int T), (0, .ref (P.1 + 60))]) rfl rfl (by decide) hl rfl rfl (fun ls23 hl23 => ?_)
        refine jn_iinc (x := T) rfl rfl (by decide) (jM_at hl23 1 rfl) hl23 rfl (by decide) (by omega) (by omega) (fun z24 (ez24 : z24.toInt = T.toInt + 1) ls24 (hl24 : jM [(2, .int z24), (1, .int z22), (0, .ref (P.1 + 60))] ls24) => ?_)
        refine az_X_step (pc' := 4) (ls' := ls24) (st' := []) (h' := h) rfl rfl rfl ?_
        rw [ez14, eT] at g17
        have ps := jct_s (fun t : Nat => !(jtl m r y t)) j
        have np : (!(jtl m r y j)) = true := by
          unfold jb at g17
          cases hh : jtl m r y j
          · rfl
          · rw [hh] at g17; exact absurd g17 (by decide)
        rw [np, if_pos rfl] at ps
        exact ih (j + 1) z24 z22 ls24 (jM_pick hl24 [0, 1, 2] rfl) (by omega) (by omega) (by rw [ps]; omega)
theorem runt_ok {P : si_P} (hxa : P.2.1 < P.1) {d : Nat} {h : si_H} (hH : az_HI P az_tb h) {m r : Int} {y : Nat} (hm : 4 ≤ m ∧ m ≤ 60) (hr : 2 ≤ r ∧ r ≤ 24) (hy : 8 ≤ y ∧ y ≤ 1440) (hp : m * r = y) (hK : jLK h m r y) : az_X P (d + 1) 226 0 (lv_args 0 [.ref (P.1 + 60)]) [] h (fun rv h' => h' = h ∧ jV rv (jct (fun t : Nat => !(jtl m r y t)) y)) := by
  have hl : jM [(0, .ref (P.1 + 60))] (lv_args 0 [.ref (P.1 + 60)]) := jM_args [0] rfl (by decide)
  generalize lv_args 0 [.ref (P.1 + 60)] = ls at hl
  have k0 : (0 : Int32).toInt = 0 := by decide
  refine az_X_step (pc' := 1) (ls' := ls) (st' := [.int 0]) (h' := h) rfl rfl rfl ?_
  refine jm_istore_n (l' := [(1, .int 0), (0, .ref (P.1 + 60))]) rfl rfl (by decide) hl rfl rfl (fun ls1 hl1 => ?_)
  refine az_X_step (pc' := 3) (ls' := ls1) (st' := [.int 0]) (h' := h) rfl rfl rfl ?_
  refine jm_istore_n (l' := [(2, .int 0), (1, .int 0), (0, .ref (P.1 + 60))]) rfl rfl (by decide) hl1 rfl rfl (fun ls3 hl3 => ?_)
  exact runt_l hxa hH hm hr hy hp hK y 0 0 0 ls3 (jM_pick hl3 [0, 1, 2] rfl) (by decide) (by omega) (by show (0 : Int32).toInt = 0; decide)
theorem rfirst_l {P : si_P} (hxa : P.2.1 < P.1) {d : Nat} {h : si_H} (hH : az_HI P az_tb h) {m r : Int} {y : Nat} (hm : 4 ≤ m ∧ m ≤ 60) (hr : 2 ≤ r ∧ r ≤ 24) (hy : 8 ≤ y ∧ y ≤ 1440) (hp : m * r = y) (hK : jLK h m r y) : ∀ (k j : Nat) (T : Int32) (ls : si_L), jM [(1, .int T), (0, .ref (P.1 + 60))] ls → T.toInt = j → j + k = y → (∀ i : Nat, i < j → ¬ jtl m r y i = false) → az_X P (d + 1) 230 2 ls [] h (fun rv h' => h' = h ∧ ∃ z : Int32, rv = some (.int z) ∧ jfs (fun t : Nat => jtl m r y t = false) y z.toInt) := by
  have t9 := hK.2.2.1
  intro k
  induction k with
  | zero =>
    intro j T ls hl eT hj hs
    have km2 : ((-2) : Int32).toInt = (-2) := by decide
    refine jm_iload_n (x := T) rfl rfl (jM_at hl 0 rfl) ?_
    refine jm_aload_n (x := P.1 + 60) rfl rfl (jM_at hl 1 rfl) ?_
    refine jn_gf (i := 60) (k := 9) rfl rfl hH (by decide) (hH.2 60 _ rfl).1 rfl rfl (fun z4 (ez4 : z4.toInt = ja h 60 9) (bz4 : 8 ≤ z4.toInt ∧ z4.toInt ≤ 1440) => ?_)
    refine jx_ic (t := 26) rfl rfl rfl (fun hc7 => ?_) (fun hc7 => ?_)
    · have g7 := jc2_ge_t hc7
      refine az_X_step (pc' := 28) (ls' := ls) (st' := [.int (-2)]) (h' := h) rfl rfl rfl ?_
      refine jx_ret rfl rfl rfl ?_
      exact ⟨rfl, (-2), rfl, Or.inr ⟨by decide, fun i hi => hs i (by omega)⟩⟩
    · have g7 := jc2_ge_f hc7
      exfalso
      omega
  | succ k ih =>
    intro j T ls hl eT hj hs
    have km2 : ((-2) : Int32).toInt = (-2) := by decide
    have k0 : (0 : Int32).toInt = 0 := by decide
    refine jm_iload_n (x := T) rfl rfl (jM_at hl 0 rfl) ?_
    refine jm_aload_n (x := P.1 + 60) rfl rfl (jM_at hl 1 rfl) ?_
    refine jn_gf (i := 60) (k := 9) rfl rfl hH (by decide) (hH.2 60 _ rfl).1 rfl rfl (fun z4 (ez4 : z4.toInt = ja h 60 9) (bz4 : 8 ≤ z4.toInt ∧ z4.toInt ≤ 1440) => ?_)
    refine jx_ic (t := 26) rfl rfl rfl (fun hc7 => ?_) (fun hc7 => ?_)
    · have g7 := jc2_ge_t hc7
      refine az_X_step (pc' := 28) (ls' := ls) (st' := [.int (-2)]) (h' := h) rfl rfl rfl ?_
      refine jx_ret rfl rfl rfl ?_
      exfalso
      omega
    · have g7 := jc2_ge_f hc7
      refine jm_aload_n (x := P.1 + 60) rfl rfl (jM_at hl 1 rfl) ?_
      refine jm_iload_n (x := T) rfl rfl (jM_at hl 0 rfl) ?_
      refine az_X_call (m' := 225) (as := [.ref (P.1 + 60), .int T]) (rest := []) rfl rfl rfl rfl rfl ?_ ?_
      · unfold si_call
        dsimp only
        rw [if_pos ⟨rfl, rfl⟩]
        show (match si_ix P h (P.1 + 60) with | some i => _ | none => none) = _
        rw [jix hH (by decide)]
        dsimp only
        rw [(hH.2 60 _ rfl).1]
        rfl
      refine (rtold_ok hxa hH hm hr hy hp hK T (by omega)).mono ?_
      rintro rv12 h12 ⟨q12, z12, rfl, ez12⟩
      subst h12
      show az_X P _ 230 15 ls [.int z12] _ _
      refine jx_if (t := 20) rfl rfl rfl (fun hc15 => ?_) (fun hc15 => ?_)
      · have g15 := jc1_ne_t hc15
        refine jn_iinc (x := T) rfl rfl (by decide) (jM_at hl 0 rfl) hl rfl (by decide) (by omega) (by omega) (fun z20 (ez20 : z20.toInt = T.toInt + 1) ls20 (hl20 : jM [(1, .int z20), (0, .ref (P.1 + 60))] ls20) => ?_)
        refine az_X_step (pc' := 2) (ls' := ls20) (st' := []) (h' := h) rfl rfl rfl ?_
        have np : jtl m r y j = true := by
          rw [ez12, eT] at g15
          unfold jb at g15
          cases hh : jtl m r y j
          · first | rfl | (rw [hh] at g15; exact absurd rfl g15)
          · first | rfl | (rw [hh] at g15; exact absurd g15 (by decide))
        exact ih (j + 1) z20 ls20 (jM_pick hl20 [0, 1] rfl) (by omega) (by omega) (fun i hi => by
          rcases Nat.lt_or_ge i j with q | q
          · exact hs i q
          · rw [show i = j by omega, np]; decide)
      · have g15 := jc1_ne_f hc15
        refine jm_iload_n (x := T) rfl rfl (jM_at hl 0 rfl) ?_
        refine jx_ret rfl rfl rfl ?_
        have np : jtl m r y j = false := by
          rw [ez12, eT] at g15
          unfold jb at g15
          cases hh : jtl m r y j
          · first | rfl | (rw [hh] at g15; exact absurd rfl g15)
          · first | rfl | (rw [hh] at g15; exact absurd g15 (by decide))
        exact ⟨rfl, T, rfl, Or.inl ⟨j, by omega, eT, np, hs⟩⟩
theorem rfirst_ok {P : si_P} (hxa : P.2.1 < P.1) {d : Nat} {h : si_H} (hH : az_HI P az_tb h) {m r : Int} {y : Nat} (hm : 4 ≤ m ∧ m ≤ 60) (hr : 2 ≤ r ∧ r ≤ 24) (hy : 8 ≤ y ∧ y ≤ 1440) (hp : m * r = y) (hK : jLK h m r y) : az_X P (d + 1) 230 0 (lv_args 0 [.ref (P.1 + 60)]) [] h (fun rv h' => h' = h ∧ ∃ z : Int32, rv = some (.int z) ∧ jfs (fun t : Nat => jtl m r y t = false) y z.toInt) := by
  have hl : jM [(0, .ref (P.1 + 60))] (lv_args 0 [.ref (P.1 + 60)]) := jM_args [0] rfl (by decide)
  generalize lv_args 0 [.ref (P.1 + 60)] = ls at hl
  have k0 : (0 : Int32).toInt = 0 := by decide
  refine az_X_step (pc' := 1) (ls' := ls) (st' := [.int 0]) (h' := h) rfl rfl rfl ?_
  refine jm_istore_n (l' := [(1, .int 0), (0, .ref (P.1 + 60))]) rfl rfl (by decide) hl rfl rfl (fun ls1 hl1 => ?_)
  exact rfirst_l hxa hH hm hr hy hp hK y 0 0 ls1 (jM_pick hl1 [0, 1] rfl) (by decide) (by omega) (fun i hi => absurd hi (by omega))
theorem rlong_l {P : si_P} (hxa : P.2.1 < P.1) {d : Nat} {h : si_H} (hH : az_HI P az_tb h) {m r : Int} {y : Nat} (hm : 4 ≤ m ∧ m ≤ 60) (hr : 2 ≤ r ∧ r ≤ 24) (hy : 8 ≤ y ∧ y ≤ 1440) (hp : m * r = y) (hK : jLK h m r y) (w : Int32) : ∀ (k j : Nat) (T W A : Int32) (ls : si_L), jM [(4, .int T), (3, .int W), (2, .int A), (0, .ref (P.1 + 60)), (1, .int w)] ls → T.toInt = j → j + k = 2 * y → W.toInt = min (y : Int) (jrw (jtp m r y w.toInt) j).1 → A.toInt = min (y : Int) (jrw (jtp m r y w.toInt) j).2 → az_X P (d + 1) 229 7 ls [] h (fun rv h' => h' = h ∧ jV rv (min (jrw (jtp m r y w.toInt) (2 * y)).2 (y : Int))) := by
  have t9 := hK.2.2.1
  intro k
  induction k with
  | zero =>
    intro j T W A ls hl eT hj eW eA
    have k2 : (2 : Int32).toInt = 2 := by decide
    refine jm_iload (x := T) rfl rfl (jM_at hl 0 rfl) ?_
    refine az_X_step (pc' := 10) (ls' := ls) (st' := [.int 2, .int T]) (h' := h) rfl rfl rfl ?_
    refine jm_aload_n (x := P.1 + 60) rfl rfl (jM_at hl 3 rfl) ?_
    refine jn_gf (i := 60) (k := 9) rfl rfl hH (by decide) (hH.2 60 _ rfl).1 rfl rfl (fun z11 (ez11 : z11.toInt = ja h 60 9) (bz11 : 8 ≤ z11.toInt ∧ z11.toInt ≤ 1440) => ?_)
    refine jn_mul (a := 2) (b := z11) rfl rfl (by rw [k2]; omega) (by rw [k2]; omega) (fun z14 ez14 => ?_)
    rw [show (2 : Int32).toInt = 2 by decide] at ez14
    refine jx_ic (t := 60) rfl rfl rfl (fun hc15 => ?_) (fun hc15 => ?_)
    · have g15 := jc2_ge_t hc15
      refine jm_iload_n (x := A) rfl rfl (jM_at hl 2 rfl) ?_
      refine jx_ret rfl rfl rfl ?_
      exact ⟨rfl, A, rfl, by rw [show 2 * y = j by omega]; omega⟩
    · have g15 := jc2_ge_f hc15
      exfalso
      omega
  | succ k ih =>
    intro j T W A ls hl eT hj eW eA
    have bA := jrw_bd (jtp m r y w.toInt) j
    have k0 : (0 : Int32).toInt = 0 := by decide
    have k1 : (1 : Int32).toInt = 1 := by decide
    have k2 : (2 : Int32).toInt = 2 := by decide
    refine jm_iload (x := T) rfl rfl (jM_at hl 0 rfl) ?_
    refine az_X_step (pc' := 10) (ls' := ls) (st' := [.int 2, .int T]) (h' := h) rfl rfl rfl ?_
    refine jm_aload_n (x := P.1 + 60) rfl rfl (jM_at hl 3 rfl) ?_
    refine jn_gf (i := 60) (k := 9) rfl rfl hH (by decide) (hH.2 60 _ rfl).1 rfl rfl (fun z11 (ez11 : z11.toInt = ja h 60 9) (bz11 : 8 ≤ z11.toInt ∧ z11.toInt ≤ 1440) => ?_)
    refine jn_mul (a := 2) (b := z11) rfl rfl (by rw [k2]; omega) (by rw [k2]; omega) (fun z14 ez14 => ?_)
    rw [show (2 : Int32).toInt = 2 by decide] at ez14
    refine jx_ic (t := 60) rfl rfl rfl (fun hc15 => ?_) (fun hc15 => ?_)
    · have g15 := jc2_ge_t hc15
      refine jm_iload_n (x := A) rfl rfl (jM_at hl 2 rfl) ?_
      refine jx_ret rfl rfl rfl ?_
      exfalso
      omega
    · have g15 := jc2_ge_f hc15
      refine jm_aload_n (x := P.1 + 60) rfl rfl (jM_at hl 3 rfl) ?_
      refine jm_iload (x := T) rfl rfl (jM_at hl 0 rfl) ?_
      refine jm_aload_n (x := P.1 + 60) rfl rfl (jM_at hl 3 rfl) ?_
      refine jn_gf (i := 60) (k := 9) rfl rfl hH (by decide) (hH.2 60 _ rfl).1 rfl rfl (fun z22 (ez22 : z22.toInt = ja h 60 9) (bz22 : 8 ≤ z22.toInt ∧ z22.toInt ≤ 1440) => ?_)
      refine jn_rem (a := T) (b := z22) rfl rfl (by omega) (by omega) (fun z25 ez25 lz25 uz25 => ?_)
      refine az_X_call (m' := 225) (as := [.ref (P.1 + 60), .int z25]) (rest := []) rfl rfl rfl rfl rfl ?_ ?_
      · unfold si_call
        dsimp only
        rw [if_pos ⟨rfl, rfl⟩]
        show (match si_ix P h (P.1 + 60) with | some i => _ | none => none) = _
        rw [jix hH (by decide)]
        dsimp only
        rw [(hH.2 60 _ rfl).1]
        rfl
      refine (rtold_ok hxa hH hm hr hy hp hK z25 (by omega)).mono ?_
      rintro rv26 h26 ⟨q26, z26, rfl, ez26⟩
      subst h26
      show az_X P _ 229 29 ls [.int z26] _ _
      refine jm_iload_n (x := w) rfl rfl (jM_at hl 4 rfl) ?_
      refine jx_ic (t := 46) rfl rfl rfl (fun hc30 => ?_) (fun hc30 => ?_)
      · have g30 := jc2_ne_t hc30
        refine az_X_step (pc' := 47) (ls' := ls) (st' := [.int 0]) (h' := h) rfl rfl rfl ?_
        refine jm_istore_n (l' := [(3, .int 0), (4, .int T), (2, .int A), (0, .ref (P.1 + 60)), (1, .int w)]) rfl rfl (by decide) hl rfl rfl (fun ls47 hl47 => ?_)
        refine jm_iload_n (x := A) rfl rfl (jM_at hl47 2 rfl) ?_
        refine jm_iload_n (x := 0) rfl rfl (jM_at hl47 0 rfl) ?_
        refine az_X_call (m' := 204) (as := [.int A, .int 0]) (rest := []) rfl rfl rfl rfl rfl rfl ?_
        refine (rmax2_ok A 0).mono ?_
        rintro rv50 h50 ⟨q50, z50, rfl, ez50⟩
        subst h50
        show az_X P _ 229 53 ls47 [.int z50] _ _
        refine jm_istore_n (l' := [(2, .int z50), (3, .int 0), (4, .int T), (0, .ref (P.1 + 60)), (1, .int w)]) rfl rfl (by decide) hl47 rfl rfl (fun ls53 hl53 => ?_)
        refine jn_iinc (x := T) rfl rfl (by decide) (jM_at hl53 2 rfl) hl53 rfl (by decide) (by omega) (by omega) (fun z54 (ez54 : z54.toInt = T.toInt + 1) ls54 (hl54 : jM [(4, .int z54), (2, .int z50), (3, .int 0), (0, .ref (P.1 + 60)), (1, .int w)] ls54) => ?_)
        refine az_X_step (pc' := 7) (ls' := ls54) (st' := []) (h' := h) rfl rfl rfl ?_
        have np : ¬ (jtp m r y w.toInt) j = true := by
          unfold jtp
          rw [ez26, ez25, ez22, t9, eT] at g30
          rw [decide_eq_true_iff]
          exact g30
        exact ih (j + 1) z54 0 z50 ls54 (jM_pick hl54 [0, 2, 1, 3, 4] rfl) (by omega) (by omega) (by rw [jrw_f np]; show _ = min (y : Int) (0 : Int); omega) (by rw [jrw_f np]; show _ = min (y : Int) (max (jrw (jtp m r y w.toInt) j).2 (0 : Int)); omega)
      · have g30 := jc2_ne_f hc30
        refine jm_aload_n (x := P.1 + 60) rfl rfl (jM_at hl 3 rfl) ?_
        refine jn_gf (i := 60) (k := 9) rfl rfl hH (by decide) (hH.2 60 _ rfl).1 rfl rfl (fun z34 (ez34 : z34.toInt = ja h 60 9) (bz34 : 8 ≤ z34.toInt ∧ z34.toInt ≤ 1440) => ?_)
        refine jm_iload_n (x := W) rfl rfl (jM_at hl 1 rfl) ?_
        refine az_X_step (pc' := 39) (ls' := ls) (st' := [.int 1, .int W, .int z34]) (h' := h) rfl rfl rfl ?_
        refine jn_add (a := W) (b := 1) rfl rfl (by omega) (by omega) (fun z39 ez39 => ?_)
        rw [show (1 : Int32).toInt = 1 by decide] at ez39
        refine az_X_call (m' := 203) (as := [.int z34, .int z39]) (rest := []) rfl rfl rfl rfl rfl rfl ?_
        refine (rmin2_ok z34 z39).mono ?_
        rintro rv40 h40 ⟨q40, z40, rfl, ez40⟩
        subst h40
        show az_X P _ 229 43 ls [.int z40] _ _
        refine az_X_step (pc' := 47) (ls' := ls) (st' := [.int z40]) (h' := h) rfl rfl rfl ?_
        refine jm_istore_n (l' := [(3, .int z40), (4, .int T), (2, .int A), (0, .ref (P.1 + 60)), (1, .int w)]) rfl rfl (by decide) hl rfl rfl (fun ls47 hl47 => ?_)
        refine jm_iload_n (x := A) rfl rfl (jM_at hl47 2 rfl) ?_
        refine jm_iload_n (x := z40) rfl rfl (jM_at hl47 0 rfl) ?_
        refine az_X_call (m' := 204) (as := [.int A, .int z40]) (rest := []) rfl rfl rfl rfl rfl rfl ?_
        refine (rmax2_ok A z40).mono ?_
        rintro rv50 h50 ⟨q50, z50, rfl, ez50⟩
        subst h50
        show az_X P _ 229 53 ls47 [.int z50] _ _
        refine jm_istore_n (l' := [(2, .int z50), (3, .int z40), (4, .int T), (0, .ref (P.1 + 60)), (1, .int w)]) rfl rfl (by decide) hl47 rfl rfl (fun ls53 hl53 => ?_)
        refine jn_iinc (x := T) rfl rfl (by decide) (jM_at hl53 2 rfl) hl53 rfl (by decide) (by omega) (by omega) (fun z54 (ez54 : z54.toInt = T.toInt + 1) ls54 (hl54 : jM [(4, .int z54), (2, .int z50), (3, .int z40), (0, .ref (P.1 + 60)), (1, .int w)] ls54) => ?_)
        refine az_X_step (pc' := 7) (ls' := ls54) (st' := []) (h' := h) rfl rfl rfl ?_
        have np : (jtp m r y w.toInt) j = true := by
          unfold jtp
          rw [ez26, ez25, ez22, t9, eT] at g30
          rw [decide_eq_true_iff]
          exact g30
        exact ih (j + 1) z54 z40 z50 ls54 (jM_pick hl54 [0, 2, 1, 3, 4] rfl) (by omega) (by omega) (by rw [jrw_t np]; show _ = min (y : Int) ((jrw (jtp m r y w.toInt) j).1 + 1); omega) (by rw [jrw_t np]; show _ = min (y : Int) (max (jrw (jtp m r y w.toInt) j).2 ((jrw (jtp m r y w.toInt) j).1 + 1)); omega)
theorem rlongest_ok {P : si_P} (hxa : P.2.1 < P.1) {d : Nat} {h : si_H} (hH : az_HI P az_tb h) {m r : Int} {y : Nat} (hm : 4 ≤ m ∧ m ≤ 60) (hr : 2 ≤ r ∧ r ≤ 24) (hy : 8 ≤ y ∧ y ≤ 1440) (hp : m * r = y) (hK : jLK h m r y) (w : Int32) : az_X P (d + 1) 229 0 (lv_args 0 [.ref (P.1 + 60), .int w]) [] h (fun rv h' => h' = h ∧ jV rv (min (jrw (jtp m r y w.toInt) (2 * y)).2 (y : Int))) := by
  have hl : jM [(0, .ref (P.1 + 60)), (1, .int w)] (lv_args 0 [.ref (P.1 + 60), .int w]) := jM_args [0, 1] rfl (by decide)
  generalize lv_args 0 [.ref (P.1 + 60), .int w] = ls at hl
  have k0 : (0 : Int32).toInt = 0 := by decide
  refine az_X_step (pc' := 1) (ls' := ls) (st' := [.int 0]) (h' := h) rfl rfl rfl ?_
  refine jm_istore_n (l' := [(2, .int 0), (0, .ref (P.1 + 60)), (1, .int w)]) rfl rfl (by decide) hl rfl rfl (fun ls1 hl1 => ?_)
  refine az_X_step (pc' := 3) (ls' := ls1) (st' := [.int 0]) (h' := h) rfl rfl rfl ?_
  refine jm_istore_n (l' := [(3, .int 0), (2, .int 0), (0, .ref (P.1 + 60)), (1, .int w)]) rfl rfl (by decide) hl1 rfl rfl (fun ls3 hl3 => ?_)
  refine az_X_step (pc' := 5) (ls' := ls3) (st' := [.int 0]) (h' := h) rfl rfl rfl ?_
  refine jm_istore (l' := [(4, .int 0), (3, .int 0), (2, .int 0), (0, .ref (P.1 + 60)), (1, .int w)]) rfl rfl (by decide) hl3 rfl rfl (fun ls5 hl5 => ?_)
  exact rlong_l hxa hH hm hr hy hp hK w (2 * y) 0 0 0 0 ls5 (jM_pick hl5 [0, 1, 2, 3, 4] rfl) (by decide) (by omega) (by show _ = min (y : Int) (0 : Int); omega) (by show _ = min (y : Int) (0 : Int); omega)
/-- what untold answers -/
def jun (m r : Int) (y : Nat) (w z : Int) : Prop := (w = 0 ∧ z = jct (fun t : Nat => !(jtl m r y t)) y) ∨ (w = 1 ∧ jfs (fun t : Nat => jtl m r y t = false) y z) ∨ (w = 2 ∧ z = min (jrw (jtp m r y 0) (2 * y)).2 (y : Int)) ∨ (w = 3 ∧ z = min (jrw (jtp m r y 1) (2 * y)).2 (y : Int)) ∨ ((w < 0 ∨ 3 < w) ∧ z = -1)
theorem jun_un {m r : Int} {y : Nat} {w z u : Int} (h1 : jun m r y w z) (h2 : jun m r y w u) : z = u := by
  rcases h1 with ⟨a, b⟩ | ⟨a, b⟩ | ⟨a, b⟩ | ⟨a, b⟩ | ⟨a, b⟩ <;> rcases h2 with ⟨c, e⟩ | ⟨c, e⟩ | ⟨c, e⟩ | ⟨c, e⟩ | ⟨c, e⟩ <;> first
    | exact jfs_un b e
    | exact b.trans e.symm
    | (exfalso
       omega)
theorem untold0_ok {P : si_P} {d : Nat} {h : si_H} (hH : az_HI P az_tb h) (w : Int32) : az_X P (d + 6) 153 0 (lv_args 0 [.ref (P.1 + 0), .int w]) [] h (fun rv h' => h' = h ∧ ∃ z : Int32, rv = some (.int z) ∧ jun (ja h 1 0) (ja h 1 1) (ja h 1 0 * ja h 1 1).toNat w.toInt z.toInt) := by
  have bm : 4 ≤ ja h 1 0 ∧ ja h 1 0 ≤ 60 := ja_bd hH (i := 1) (k := 0) rfl
  have br : 2 ≤ ja h 1 1 ∧ ja h 1 1 ≤ 24 := ja_bd hH (i := 1) (k := 1) rfl
  have bp := nm_mulnn (a := 4) (b := 60) (c := 2) (d := 24) (x := ja h 1 0) (y := ja h 1 1) (by decide) (by decide) bm.1 bm.2 br.1 br.2
  have hl : jM [(0, .ref (P.1 + 0)), (1, .int w)] (lv_args 0 [.ref (P.1 + 0), .int w]) := jM_args [0, 1] rfl (by decide)
  generalize lv_args 0 [.ref (P.1 + 0), .int w] = ls at hl
  refine jm_iload_n (x := w) rfl rfl (jM_at hl 1 rfl) ?_
  rcases (by omega : w.toInt = 0 ∨ w.toInt = 1 ∨ w.toInt = 2 ∨ w.toInt = 3 ∨ (w.toInt < 0 ∨ 3 < w.toInt)) with hw | hw | hw | hw | hw
  · refine jn_tsk (t := 32) rfl rfl (by omega) (by rw [show (w.toInt - 0).toNat = 0 by omega]; rfl) rfl ?_
    refine jm_aload_n (x := P.1 + 0) rfl rfl (jM_at hl 0 rfl) ?_
    refine jx_gf (i := 0) rfl rfl hH (by decide) (hH.2 0 _ rfl).1 rfl (jx_rf hH rfl rfl) ?_
    refine az_X_call (m' := 88) (as := [.ref (P.1 + 1)]) (rest := []) rfl rfl rfl rfl rfl ?_ ?_
    · unfold si_call
      dsimp only
      rw [if_pos ⟨rfl, rfl⟩]
      show (match si_ix P h (P.1 + 1) with | some i => _ | none => none) = _
      rw [jix hH (by decide)]
      dsimp only
      rw [(hH.2 1 _ rfl).1]
      rfl
    refine (cunt_ok hH).mono ?_
    rintro rv36 h36 ⟨q36, z36, rfl, ez36⟩
    subst h36
    show az_X P _ 153 39 ls [.int z36] _ _
    refine jx_ret rfl rfl rfl ?_
    exact ⟨rfl, z36, rfl, Or.inl ⟨hw, ez36⟩⟩
  · refine jn_tsk (t := 40) rfl rfl (by omega) (by rw [show (w.toInt - 0).toNat = 1 by omega]; rfl) rfl ?_
    refine jm_aload_n (x := P.1 + 0) rfl rfl (jM_at hl 0 rfl) ?_
    refine jx_gf (i := 0) rfl rfl hH (by decide) (hH.2 0 _ rfl).1 rfl (jx_rf hH rfl rfl) ?_
    refine az_X_call (m' := 111) (as := [.ref (P.1 + 3)]) (rest := []) rfl rfl rfl rfl rfl ?_ ?_
    · unfold si_call
      dsimp only
      rw [if_pos ⟨rfl, rfl⟩]
      show (match si_ix P h (P.1 + 3) with | some i => _ | none => none) = _
      rw [jix hH (by decide)]
      dsimp only
      rw [(hH.2 3 _ rfl).1]
      rfl
    refine (cfirst_ok hH).mono ?_
    rintro rv44 h44 ⟨q44, z44, rfl, ez44⟩
    subst h44
    show az_X P _ 153 47 ls [.int z44] _ _
    refine jx_ret rfl rfl rfl ?_
    exact ⟨rfl, z44, rfl, Or.inr (Or.inl ⟨hw, ez44⟩)⟩
  · refine jn_tsk (t := 48) rfl rfl (by omega) (by rw [show (w.toInt - 0).toNat = 2 by omega]; rfl) rfl ?_
    have k0 : (0 : Int32).toInt = 0 := by decide
    refine jm_aload_n (x := P.1 + 0) rfl rfl (jM_at hl 0 rfl) ?_
    refine jx_gf (i := 0) rfl rfl hH (by decide) (hH.2 0 _ rfl).1 rfl (jx_rf hH rfl rfl) ?_
    refine az_X_step (pc' := 53) (ls' := ls) (st' := [.int 0, .ref (P.1 + 3)]) (h' := h) rfl rfl rfl ?_
    refine az_X_call (m' := 112) (as := [.ref (P.1 + 3), .int 0]) (rest := []) rfl rfl rfl rfl rfl ?_ ?_
    · unfold si_call
      dsimp only
      rw [if_pos ⟨rfl, rfl⟩]
      show (match si_ix P h (P.1 + 3) with | some i => _ | none => none) = _
      rw [jix hH (by decide)]
      dsimp only
      rw [(hH.2 3 _ rfl).1]
      rfl
    refine (clongest_ok hH 0).mono ?_
    rintro rv53 h53 ⟨q53, z53, rfl, ez53⟩
    subst h53
    show az_X P _ 153 56 ls [.int z53] _ _
    refine jx_ret rfl rfl rfl ?_
    rw [show (0 : Int32).toInt = 0 by decide] at ez53
    have ey : ja h 1 0 * ja h 1 1 = (((ja h 1 0 * ja h 1 1).toNat : Nat) : Int) := by omega
    exact ⟨rfl, z53, rfl, Or.inr (Or.inr (Or.inl ⟨hw, by rw [← ey]; exact ez53⟩))⟩
  · refine jn_tsk (t := 57) rfl rfl (by omega) (by rw [show (w.toInt - 0).toNat = 3 by omega]; rfl) rfl ?_
    have k1 : (1 : Int32).toInt = 1 := by decide
    refine jm_aload_n (x := P.1 + 0) rfl rfl (jM_at hl 0 rfl) ?_
    refine jx_gf (i := 0) rfl rfl hH (by decide) (hH.2 0 _ rfl).1 rfl (jx_rf hH rfl rfl) ?_
    refine az_X_step (pc' := 62) (ls' := ls) (st' := [.int 1, .ref (P.1 + 3)]) (h' := h) rfl rfl rfl ?_
    refine az_X_call (m' := 112) (as := [.ref (P.1 + 3), .int 1]) (rest := []) rfl rfl rfl rfl rfl ?_ ?_
    · unfold si_call
      dsimp only
      rw [if_pos ⟨rfl, rfl⟩]
      show (match si_ix P h (P.1 + 3) with | some i => _ | none => none) = _
      rw [jix hH (by decide)]
      dsimp only
      rw [(hH.2 3 _ rfl).1]
      rfl
    refine (clongest_ok hH 1).mono ?_
    rintro rv62 h62 ⟨q62, z62, rfl, ez62⟩
    subst h62
    show az_X P _ 153 65 ls [.int z62] _ _
    refine jx_ret rfl rfl rfl ?_
    rw [show (1 : Int32).toInt = 1 by decide] at ez62
    have ey : ja h 1 0 * ja h 1 1 = (((ja h 1 0 * ja h 1 1).toNat : Nat) : Int) := by omega
    exact ⟨rfl, z62, rfl, Or.inr (Or.inr (Or.inr (Or.inl ⟨hw, by rw [← ey]; exact ez62⟩)))⟩
  · refine jn_tsd (t := 66) rfl rfl hw rfl ?_
    have km1 : ((-1) : Int32).toInt = (-1) := by decide
    refine az_X_step (pc' := 67) (ls' := ls) (st' := [.int (-1)]) (h' := h) rfl rfl rfl ?_
    refine jx_ret rfl rfl rfl ?_
    exact ⟨rfl, (-1), rfl, Or.inr (Or.inr (Or.inr (Or.inr ⟨hw, by decide⟩)))⟩
theorem untold1_ok {P : si_P} (hxa : P.2.1 < P.1) {d : Nat} {h : si_H} (hH : az_HI P az_tb h) {m r : Int} {y : Nat} (hm : 4 ≤ m ∧ m ≤ 60) (hr : 2 ≤ r ∧ r ≤ 24) (hy : 8 ≤ y ∧ y ≤ 1440) (hp : m * r = y) (hK : jLK h m r y) (w : Int32) : az_X P (d + 6) 231 0 (lv_args 0 [.ref (P.1 + 60), .int w]) [] h (fun rv h' => h' = h ∧ ∃ z : Int32, rv = some (.int z) ∧ jun m r y w.toInt z.toInt) := by
  have hl : jM [(0, .ref (P.1 + 60)), (1, .int w)] (lv_args 0 [.ref (P.1 + 60), .int w]) := jM_args [0, 1] rfl (by decide)
  generalize lv_args 0 [.ref (P.1 + 60), .int w] = ls at hl
  refine jm_iload_n (x := w) rfl rfl (jM_at hl 1 rfl) ?_
  rcases (by omega : w.toInt = 0 ∨ w.toInt = 1 ∨ w.toInt = 2 ∨ w.toInt = 3 ∨ (w.toInt < 0 ∨ 3 < w.toInt)) with hw | hw | hw | hw | hw
  · refine jn_tsk (t := 32) rfl rfl (by omega) (by rw [show (w.toInt - 0).toNat = 0 by omega]; rfl) rfl ?_
    refine jm_aload_n (x := P.1 + 60) rfl rfl (jM_at hl 0 rfl) ?_
    refine az_X_call (m' := 226) (as := [.ref (P.1 + 60)]) (rest := []) rfl rfl rfl rfl rfl ?_ ?_
    · unfold si_call
      dsimp only
      rw [if_pos ⟨rfl, rfl⟩]
      show (match si_ix P h (P.1 + 60) with | some i => _ | none => none) = _
      rw [jix hH (by decide)]
      dsimp only
      rw [(hH.2 60 _ rfl).1]
      rfl
    refine (runt_ok hxa hH hm hr hy hp hK).mono ?_
    rintro rv33 h33 ⟨q33, z33, rfl, ez33⟩
    subst h33
    show az_X P _ 231 36 ls [.int z33] _ _
    refine jx_ret rfl rfl rfl ?_
    exact ⟨rfl, z33, rfl, Or.inl ⟨hw, ez33⟩⟩
  · refine jn_tsk (t := 37) rfl rfl (by omega) (by rw [show (w.toInt - 0).toNat = 1 by omega]; rfl) rfl ?_
    refine jm_aload_n (x := P.1 + 60) rfl rfl (jM_at hl 0 rfl) ?_
    refine az_X_call (m' := 230) (as := [.ref (P.1 + 60)]) (rest := []) rfl rfl rfl rfl rfl ?_ ?_
    · unfold si_call
      dsimp only
      rw [if_pos ⟨rfl, rfl⟩]
      show (match si_ix P h (P.1 + 60) with | some i => _ | none => none) = _
      rw [jix hH (by decide)]
      dsimp only
      rw [(hH.2 60 _ rfl).1]
      rfl
    refine (rfirst_ok hxa hH hm hr hy hp hK).mono ?_
    rintro rv38 h38 ⟨q38, z38, rfl, ez38⟩
    subst h38
    show az_X P _ 231 41 ls [.int z38] _ _
    refine jx_ret rfl rfl rfl ?_
    exact ⟨rfl, z38, rfl, Or.inr (Or.inl ⟨hw, ez38⟩)⟩
  · refine jn_tsk (t := 42) rfl rfl (by omega) (by rw [show (w.toInt - 0).toNat = 2 by omega]; rfl) rfl ?_
    have k0 : (0 : Int32).toInt = 0 := by decide
    refine jm_aload_n (x := P.1 + 60) rfl rfl (jM_at hl 0 rfl) ?_
    refine az_X_step (pc' := 44) (ls' := ls) (st' := [.int 0, .ref (P.1 + 60)]) (h' := h) rfl rfl rfl ?_
    refine az_X_call (m' := 229) (as := [.ref (P.1 + 60), .int 0]) (rest := []) rfl rfl rfl rfl rfl ?_ ?_
    · unfold si_call
      dsimp only
      rw [if_pos ⟨rfl, rfl⟩]
      show (match si_ix P h (P.1 + 60) with | some i => _ | none => none) = _
      rw [jix hH (by decide)]
      dsimp only
      rw [(hH.2 60 _ rfl).1]
      rfl
    refine (rlongest_ok hxa hH hm hr hy hp hK 0).mono ?_
    rintro rv44 h44 ⟨q44, z44, rfl, ez44⟩
    subst h44
    show az_X P _ 231 47 ls [.int z44] _ _
    refine jx_ret rfl rfl rfl ?_
    rw [show (0 : Int32).toInt = 0 by decide] at ez44
    exact ⟨rfl, z44, rfl, Or.inr (Or.inr (Or.inl ⟨hw, ez44⟩))⟩
  · refine jn_tsk (t := 48) rfl rfl (by omega) (by rw [show (w.toInt - 0).toNat = 3 by omega]; rfl) rfl ?_
    have k1 : (1 : Int32).toInt = 1 := by decide
    refine jm_aload_n (x := P.1 + 60) rfl rfl (jM_at hl 0 rfl) ?_
    refine az_X_step (pc' := 50) (ls' := ls) (st' := [.int 1, .ref (P.1 + 60)]) (h' := h) rfl rfl rfl ?_
    refine az_X_call (m' := 229) (as := [.ref (P.1 + 60), .int 1]) (rest := []) rfl rfl rfl rfl rfl ?_ ?_
    · unfold si_call
      dsimp only
      rw [if_pos ⟨rfl, rfl⟩]
      show (match si_ix P h (P.1 + 60) with | some i => _ | none => none) = _
      rw [jix hH (by decide)]
      dsimp only
      rw [(hH.2 60 _ rfl).1]
      rfl
    refine (rlongest_ok hxa hH hm hr hy hp hK 1).mono ?_
    rintro rv50 h50 ⟨q50, z50, rfl, ez50⟩
    subst h50
    show az_X P _ 231 53 ls [.int z50] _ _
    refine jx_ret rfl rfl rfl ?_
    rw [show (1 : Int32).toInt = 1 by decide] at ez50
    exact ⟨rfl, z50, rfl, Or.inr (Or.inr (Or.inr (Or.inl ⟨hw, ez50⟩)))⟩
  · refine jn_tsd (t := 54) rfl rfl hw rfl ?_
    have km1 : ((-1) : Int32).toInt = (-1) := by decide
    refine az_X_step (pc' := 55) (ls' := ls) (st' := [.int (-1)]) (h' := h) rfl rfl rfl ?_
    refine jx_ret rfl rfl rfl ?_
    exact ⟨rfl, (-1), rfl, Or.inr (Or.inr (Or.inr (Or.inr ⟨hw, by decide⟩)))⟩
/-- what till answers -/
def jti (m r : Int) (y : Nat) (a z : Int) : Prop := (0 ≤ a ∧ a < y ∧ jfs (fun i : Nat => jtl m r y ((a + i) % (y : Int)) = true) y z) ∨ (¬ (0 ≤ a ∧ a < y) ∧ z = -1)
theorem jti_un {m r : Int} {y : Nat} {a z u : Int} (h1 : jti m r y a z) (h2 : jti m r y a u) : z = u := by
  rcases h1 with ⟨a1, a2, b⟩ | ⟨a1, b⟩ <;> rcases h2 with ⟨c1, c2, e⟩ | ⟨c1, e⟩
  · exact jfs_un b e
  · exact absurd ⟨a1, a2⟩ c1
  · exact absurd ⟨c1, c2⟩ a1
  · rw [b, e]
theorem till0_ok {P : si_P} {d : Nat} {h : si_H} (hH : az_HI P az_tb h) (a : Int32) : az_X P (d + 6) 154 0 (lv_args 0 [.ref (P.1 + 0), .int a]) [] h (fun rv h' => h' = h ∧ ∃ z : Int32, rv = some (.int z) ∧ jti (ja h 1 0) (ja h 1 1) (ja h 1 0 * ja h 1 1).toNat a.toInt z.toInt) := by
  have bm : 4 ≤ ja h 1 0 ∧ ja h 1 0 ≤ 60 := ja_bd hH (i := 1) (k := 0) rfl
  have br : 2 ≤ ja h 1 1 ∧ ja h 1 1 ≤ 24 := ja_bd hH (i := 1) (k := 1) rfl
  have bp := nm_mulnn (a := 4) (b := 60) (c := 2) (d := 24) (x := ja h 1 0) (y := ja h 1 1) (by decide) (by decide) bm.1 bm.2 br.1 br.2
  have hl : jM [(0, .ref (P.1 + 0)), (1, .int a)] (lv_args 0 [.ref (P.1 + 0), .int a]) := jM_args [0, 1] rfl (by decide)
  generalize lv_args 0 [.ref (P.1 + 0), .int a] = ls at hl
  have km1 : ((-1) : Int32).toInt = (-1) := by decide
  have k0 : (0 : Int32).toInt = 0 := by decide
  refine jm_aload_n (x := P.1 + 0) rfl rfl (jM_at hl 0 rfl) ?_
  refine jx_gf (i := 0) rfl rfl hH (by decide) (hH.2 0 _ rfl).1 rfl (jx_rf hH rfl rfl) ?_
  refine jm_iload_n (x := a) rfl rfl (jM_at hl 1 rfl) ?_
  refine az_X_call (m' := 74) (as := [.ref (P.1 + 1), .int a]) (rest := []) rfl rfl rfl rfl rfl ?_ ?_
  · unfold si_call
    dsimp only
    rw [if_pos ⟨rfl, rfl⟩]
    show (match si_ix P h (P.1 + 1) with | some i => _ | none => none) = _
    rw [jix hH (by decide)]
    dsimp only
    rw [(hH.2 1 _ rfl).1]
    rfl
  refine (istime0_ok hH a).mono ?_
  rintro rv5 h5 ⟨q5, z5, rfl, ez5⟩
  subst h5
  show az_X P _ 154 8 ls [.int z5] _ _
  refine jx_if (t := 22) rfl rfl rfl (fun hc8 => ?_) (fun hc8 => ?_)
  · have g8 := jc1_eq_t hc8
    refine az_X_step (pc' := 23) (ls' := ls) (st' := [.int (-1)]) (h' := h) rfl rfl rfl ?_
    refine jx_ret rfl rfl rfl ?_
    exact ⟨rfl, (-1), rfl, Or.inr ⟨by omega, by decide⟩⟩
  · have g8 := jc1_eq_f hc8
    refine jm_aload_n (x := P.1 + 0) rfl rfl (jM_at hl 0 rfl) ?_
    refine jx_gf (i := 0) rfl rfl hH (by decide) (hH.2 0 _ rfl).1 rfl (jx_rf hH rfl rfl) ?_
    refine jm_iload_n (x := a) rfl rfl (jM_at hl 1 rfl) ?_
    refine az_X_call (m' := 113) (as := [.ref (P.1 + 3), .int a]) (rest := []) rfl rfl rfl rfl rfl ?_ ?_
    · unfold si_call
      dsimp only
      rw [if_pos ⟨rfl, rfl⟩]
      show (match si_ix P h (P.1 + 3) with | some i => _ | none => none) = _
      rw [jix hH (by decide)]
      dsimp only
      rw [(hH.2 3 _ rfl).1]
      rfl
    refine (ctill_ok hH a (by omega)).mono ?_
    rintro rv16 h16 ⟨q16, z16, rfl, ez16⟩
    subst h16
    show az_X P _ 154 19 ls [.int z16] _ _
    refine az_X_step (pc' := 23) (ls' := ls) (st' := [.int z16]) (h' := h) rfl rfl rfl ?_
    refine jx_ret rfl rfl rfl ?_
    exact ⟨rfl, z16, rfl, Or.inl ⟨by omega, by omega, ez16⟩⟩
theorem rtill_l {P : si_P} (hxa : P.2.1 < P.1) {d : Nat} {h : si_H} (hH : az_HI P az_tb h) {m r : Int} {y : Nat} (hm : 4 ≤ m ∧ m ≤ 60) (hr : 2 ≤ r ∧ r ≤ 24) (hy : 8 ≤ y ∧ y ≤ 1440) (hp : m * r = y) (hK : jLK h m r y) (a : Int32) (ha : 0 ≤ a.toInt ∧ a.toInt < y) : ∀ (k j : Nat) (T : Int32) (ls : si_L), jM [(2, .int T), (0, .ref (P.1 + 60)), (1, .int a)] ls → T.toInt = j → j + k = y → (∀ i : Nat, i < j → ¬ (fun i : Nat => jtl m r y ((a.toInt + i) % (y : Int)) = true) i) → az_X P (d + 1) 232 12 ls [] h (fun rv h' => h' = h ∧ ∃ z : Int32, rv = some (.int z) ∧ jfs (fun i : Nat => jtl m r y ((a.toInt + i) % (y : Int)) = true) y z.toInt) := by
  have t9 := hK.2.2.1
  intro k
  induction k with
  | zero =>
    intro j T ls hl eT hj hs
    have km2 : ((-2) : Int32).toInt = (-2) := by decide
    refine jm_iload_n (x := T) rfl rfl (jM_at hl 0 rfl) ?_
    refine jm_aload_n (x := P.1 + 60) rfl rfl (jM_at hl 1 rfl) ?_
    refine jn_gf (i := 60) (k := 9) rfl rfl hH (by decide) (hH.2 60 _ rfl).1 rfl rfl (fun z14 (ez14 : z14.toInt = ja h 60 9) (bz14 : 8 ≤ z14.toInt ∧ z14.toInt ≤ 1440) => ?_)
    refine jx_ic (t := 43) rfl rfl rfl (fun hc17 => ?_) (fun hc17 => ?_)
    · have g17 := jc2_ge_t hc17
      refine az_X_step (pc' := 45) (ls' := ls) (st' := [.int (-2)]) (h' := h) rfl rfl rfl ?_
      refine jx_ret rfl rfl rfl ?_
      exact ⟨rfl, (-2), rfl, Or.inr ⟨by decide, fun i hi => hs i (by omega)⟩⟩
    · have g17 := jc2_ge_f hc17
      exfalso
      omega
  | succ k ih =>
    intro j T ls hl eT hj hs
    have km2 : ((-2) : Int32).toInt = (-2) := by decide
    have k0 : (0 : Int32).toInt = 0 := by decide
    refine jm_iload_n (x := T) rfl rfl (jM_at hl 0 rfl) ?_
    refine jm_aload_n (x := P.1 + 60) rfl rfl (jM_at hl 1 rfl) ?_
    refine jn_gf (i := 60) (k := 9) rfl rfl hH (by decide) (hH.2 60 _ rfl).1 rfl rfl (fun z14 (ez14 : z14.toInt = ja h 60 9) (bz14 : 8 ≤ z14.toInt ∧ z14.toInt ≤ 1440) => ?_)
    refine jx_ic (t := 43) rfl rfl rfl (fun hc17 => ?_) (fun hc17 => ?_)
    · have g17 := jc2_ge_t hc17
      refine az_X_step (pc' := 45) (ls' := ls) (st' := [.int (-2)]) (h' := h) rfl rfl rfl ?_
      refine jx_ret rfl rfl rfl ?_
      exfalso
      omega
    · have g17 := jc2_ge_f hc17
      refine jm_aload_n (x := P.1 + 60) rfl rfl (jM_at hl 1 rfl) ?_
      refine jm_iload_n (x := a) rfl rfl (jM_at hl 2 rfl) ?_
      refine jm_iload_n (x := T) rfl rfl (jM_at hl 0 rfl) ?_
      refine jn_add (a := a) (b := T) rfl rfl (by omega) (by omega) (fun z23 ez23 => ?_)
      refine jm_aload_n (x := P.1 + 60) rfl rfl (jM_at hl 1 rfl) ?_
      refine jn_gf (i := 60) (k := 9) rfl rfl hH (by decide) (hH.2 60 _ rfl).1 rfl rfl (fun z25 (ez25 : z25.toInt = ja h 60 9) (bz25 : 8 ≤ z25.toInt ∧ z25.toInt ≤ 1440) => ?_)
      refine jn_rem (a := z23) (b := z25) rfl rfl (by omega) (by omega) (fun z28 ez28 lz28 uz28 => ?_)
      refine az_X_call (m' := 225) (as := [.ref (P.1 + 60), .int z28]) (rest := []) rfl rfl rfl rfl rfl ?_ ?_
      · unfold si_call
        dsimp only
        rw [if_pos ⟨rfl, rfl⟩]
        show (match si_ix P h (P.1 + 60) with | some i => _ | none => none) = _
        rw [jix hH (by decide)]
        dsimp only
        rw [(hH.2 60 _ rfl).1]
        rfl
      refine (rtold_ok hxa hH hm hr hy hp hK z28 (by omega)).mono ?_
      rintro rv29 h29 ⟨q29, z29, rfl, ez29⟩
      subst h29
      show az_X P _ 232 32 ls [.int z29] _ _
      refine jx_if (t := 37) rfl rfl rfl (fun hc32 => ?_) (fun hc32 => ?_)
      · have g32 := jc1_eq_t hc32
        refine jn_iinc (x := T) rfl rfl (by decide) (jM_at hl 0 rfl) hl rfl (by decide) (by omega) (by omega) (fun z37 (ez37 : z37.toInt = T.toInt + 1) ls37 (hl37 : jM [(2, .int z37), (0, .ref (P.1 + 60)), (1, .int a)] ls37) => ?_)
        refine az_X_step (pc' := 12) (ls' := ls37) (st' := []) (h' := h) rfl rfl rfl ?_
        have eg : z29.toInt = jb (jtl m r y ((a.toInt + (j : Int)) % (y : Int))) := by rw [ez29, ez28, ez25, t9, show z23.toInt = a.toInt + (j : Int) by omega]
        rw [eg] at g32
        unfold jb at g32
        refine ih (j + 1) z37 ls37 (jM_pick hl37 [0, 1, 2] rfl) (by omega) (by omega) (fun i hi => ?_)
        rcases Nat.lt_or_ge i j with q | q
        · exact hs i q
        · rw [show i = j by omega]
          intro q2
          have q3 : jtl m r y ((a.toInt + (j : Int)) % (y : Int)) = true := q2
          rw [q3] at g32
          exact absurd g32 (by decide)
      · have g32 := jc1_eq_f hc32
        refine jm_iload_n (x := T) rfl rfl (jM_at hl 0 rfl) ?_
        refine jx_ret rfl rfl rfl ?_
        have eg : z29.toInt = jb (jtl m r y ((a.toInt + (j : Int)) % (y : Int))) := by rw [ez29, ez28, ez25, t9, show z23.toInt = a.toInt + (j : Int) by omega]
        rw [eg] at g32
        unfold jb at g32
        refine ⟨rfl, T, rfl, Or.inl ⟨j, by omega, eT, ?_, hs⟩⟩
        show jtl _ _ _ _ = true
        cases hh : jtl m r y ((a.toInt + (j : Int)) % (y : Int))
        · rw [hh] at g32; exact absurd rfl g32
        · rfl
theorem till1_ok {P : si_P} (hxa : P.2.1 < P.1) {d : Nat} {h : si_H} (hH : az_HI P az_tb h) {m r : Int} {y : Nat} (hm : 4 ≤ m ∧ m ≤ 60) (hr : 2 ≤ r ∧ r ≤ 24) (hy : 8 ≤ y ∧ y ≤ 1440) (hp : m * r = y) (hK : jLK h m r y) (a : Int32) : az_X P (d + 2) 232 0 (lv_args 0 [.ref (P.1 + 60), .int a]) [] h (fun rv h' => h' = h ∧ ∃ z : Int32, rv = some (.int z) ∧ jti m r y a.toInt z.toInt) := by
  have t9 := hK.2.2.1
  have hl : jM [(0, .ref (P.1 + 60)), (1, .int a)] (lv_args 0 [.ref (P.1 + 60), .int a]) := jM_args [0, 1] rfl (by decide)
  generalize lv_args 0 [.ref (P.1 + 60), .int a] = ls at hl
  have km1 : ((-1) : Int32).toInt = (-1) := by decide
  have k0 : (0 : Int32).toInt = 0 := by decide
  refine jm_aload_n (x := P.1 + 60) rfl rfl (jM_at hl 0 rfl) ?_
  refine jm_iload_n (x := a) rfl rfl (jM_at hl 1 rfl) ?_
  refine az_X_call (m' := 211) (as := [.ref (P.1 + 60), .int a]) (rest := []) rfl rfl rfl rfl rfl ?_ ?_
  · unfold si_call
    dsimp only
    rw [if_pos ⟨rfl, rfl⟩]
    show (match si_ix P h (P.1 + 60) with | some i => _ | none => none) = _
    rw [jix hH (by decide)]
    dsimp only
    rw [(hH.2 60 _ rfl).1]
    rfl
  refine (ristime_ok hH a).mono ?_
  rintro rv2 h2 ⟨q2, z2, rfl, ez2⟩
  subst h2
  show az_X P _ 232 5 ls [.int z2] _ _
  refine jx_if (t := 10) rfl rfl rfl (fun hc5 => ?_) (fun hc5 => ?_)
  · have g5 := jc1_ne_t hc5
    refine az_X_step (pc' := 11) (ls' := ls) (st' := [.int 0]) (h' := h) rfl rfl rfl ?_
    refine jm_istore_n (l' := [(2, .int 0), (0, .ref (P.1 + 60)), (1, .int a)]) rfl rfl (by decide) hl rfl rfl (fun ls11 hl11 => ?_)
    refine (rtill_l hxa hH hm hr hy hp hK a (by omega) y 0 0 ls11 (jM_pick hl11 [0, 1, 2] rfl) (by decide) (by omega) (fun i hi => absurd hi (by omega))).mono ?_
    rintro rv h9 ⟨q1, z, q2, q3⟩
    exact ⟨q1, z, q2, Or.inl ⟨by omega, by omega, q3⟩⟩
  · have g5 := jc1_ne_f hc5
    refine az_X_step (pc' := 9) (ls' := ls) (st' := [.int (-1)]) (h' := h) rfl rfl rfl ?_
    refine jx_ret rfl rfl rfl ?_
    exact ⟨rfl, (-1), rfl, Or.inr ⟨by omega, by decide⟩⟩
