set_option maxRecDepth 100000
/-! locals of which some are known -/
def jM (l : List (Nat × Value)) (ls : si_L) : Prop := ∀ q ∈ l, si_ld q.1 ls = some q.2
theorem jM_at {l : List (Nat × Value)} {ls : si_L} (h : jM l ls) (i : Nat) {k : Nat} {v : Value} (hi : l[i]? = some (k, v)) : si_ld k ls = some v := h (k, v) (List.mem_of_getElem? hi)
theorem jM_args {l : List (Nat × Value)} (ks : List Nat) (he : l.map (fun q => q.1) = ks) (hd : ks.Nodup) : jM l l := by
  subst he
  intro q hq
  induction l with
  | nil => cases hq
  | cons a r ih =>
    unfold si_ld
    rcases List.mem_cons.mp hq with rfl | hq
    · exact if_pos rfl
    · rw [List.map_cons, List.nodup_cons] at hd
      rw [if_neg]
      · exact ih hd.2 hq
      · intro e
        exact hd.1 (e ▸ List.mem_map.mpr ⟨q, hq, rfl⟩)
theorem si_ld_f {k : Nat} {v : Value} {f : Nat × Value → Bool} : ∀ {l : si_L}, (∀ w, (k, w) ∈ l → si_ld k l = some w → f (k, w) = true) → si_ld k l = some v → si_ld k (l.filter f) = some v
  | [], _, h => by cases h
  | q :: r, hf, h => by
    unfold si_ld at h
    split at h
    · rename_i e
      cases h
      have hq : f q = true := by
        have := hf q.2 (by rw [← e]; exact List.mem_cons_self) (by unfold si_ld; rw [if_pos e])
        rw [← e] at this
        exact this
      rw [List.filter_cons, if_pos hq]
      unfold si_ld
      exact if_pos e
    · rename_i e
      have ih := si_ld_f (l := r) (fun w hw hl => hf w (List.mem_cons_of_mem _ hw) (by unfold si_ld; rw [if_neg e]; exact hl)) h
      rw [List.filter_cons]
      split
      · unfold si_ld
        rw [if_neg e]
        exact ih
      · exact ih
theorem jM_st {l l' : List (Nat × Value)} {ls : si_L} {k : Nat} {v : Value} (h : jM l ls) (h' : l' = (k, v) :: l.filter (fun q => !(q.1 == k))) (hc : l.all (fun q => q.2.category == 1) = true) : jM l' (si_st1 ls k v) := by
  subst h'
  intro q hq
  unfold si_st1
  rcases List.mem_cons.mp hq with rfl | hq
  · unfold si_ld
    exact if_pos rfl
  · obtain ⟨h1, h2⟩ := List.mem_filter.mp hq
    have h3 : ¬ q.1 = k := by simpa using h2
    have h4 : q.2.category = 1 := by
      have := List.all_eq_true.mp hc q h1
      simpa using this
    unfold si_ld
    rw [if_neg (fun e => h3 e.symm)]
    refine si_ld_f (fun w hw hl => ?_) (h q h1)
    have h5 : w = q.2 := by
      have := h q h1
      rw [hl] at this
      exact Option.some.inj this
    subst h5
    simp [h3, h4]
section Jm
variable {P : si_P} {d mi pc : Nat} {y : si_M} {ls : si_L} {st : List Value} {h : si_H} {Q : Option Value → si_H → Prop} {q : Nat × Nat × Nat}
theorem jm_iload_n {k : Fin 4} {x : Int32} (hy : si_m mi = some y) (he : si_fetch mi pc = some (.iload_n k, 1, q)) (L : si_ld (k : Nat) ls = some (.int x)) (kk : az_X P d mi (pc + 1) ls (.int x :: st) h Q) : az_X P d mi pc ls st h Q := by
  refine az_X_step (pc' := pc + 1) (ls' := ls) (st' := .int x :: st) (h' := h) hy he ?_ kk
  unfold si_step
  dsimp only
  show (match si_ld (k : Nat) ls with | some v => if si_kd v 0 = true then some (pc + 1, ls, v :: st, h) else none | none => none) = _
  rw [L]
  all_goals rfl
theorem jm_iload {k : Nat} {x : Int32} (hy : si_m mi = some y) (he : si_fetch mi pc = some (.iload k, 2, q)) (L : si_ld k ls = some (.int x)) (kk : az_X P d mi (pc + 2) ls (.int x :: st) h Q) : az_X P d mi pc ls st h Q := by
  refine az_X_step (pc' := pc + 2) (ls' := ls) (st' := .int x :: st) (h' := h) hy he ?_ kk
  unfold si_step
  dsimp only
  show (match si_ld (k : Nat) ls with | some v => if si_kd v 0 = true then some (pc + 2, ls, v :: st, h) else none | none => none) = _
  rw [L]
  all_goals rfl
theorem jm_aload_n {k : Fin 4} {x : Nat} (hy : si_m mi = some y) (he : si_fetch mi pc = some (.aload_n k, 1, q)) (L : si_ld (k : Nat) ls = some (.ref x)) (kk : az_X P d mi (pc + 1) ls (.ref x :: st) h Q) : az_X P d mi pc ls st h Q := by
  refine az_X_step (pc' := pc + 1) (ls' := ls) (st' := .ref x :: st) (h' := h) hy he ?_ kk
  unfold si_step
  dsimp only
  show (match si_ld (k : Nat) ls with | some v => if si_kd v 2 = true then some (pc + 1, ls, v :: st, h) else none | none => none) = _
  rw [L]
  all_goals rfl
theorem jm_istore_n {k : Fin 4} {x : Int32} {l l' : List (Nat × Value)} (hy : si_m mi = some y) (he : si_fetch mi pc = some (.istore_n k, 1, q)) (hk : (k : Nat) + 1 ≤ y.2.2.2.1) (hl : jM l ls) (h' : l' = ((k : Nat), Value.int x) :: l.filter (fun q => !(q.1 == (k : Nat)))) (hc : l.all (fun q => q.2.category == 1) = true) (kk : ∀ ls' : si_L, jM l' ls' → az_X P d mi (pc + 1) ls' st h Q) : az_X P d mi pc ls (.int x :: st) h Q := by
  refine az_X_step (pc' := pc + 1) (ls' := si_st1 ls k (.int x)) (st' := st) (h' := h) hy he ?_ (kk _ (jM_st hl h' hc))
  unfold si_step
  dsimp only
  show (if si_kd (.int x) 0 = true ∧ (k : Nat) + (Value.int x).category ≤ y.2.2.2.1 then some (pc + 1, if (Value.int x).category = 2 then si_st2 ls k (.int x) else si_st1 ls k (.int x), st, h) else none) = _
  rw [if_pos ⟨rfl, hk⟩]
  all_goals rfl
theorem jm_istore {k : Nat} {x : Int32} {l l' : List (Nat × Value)} (hy : si_m mi = some y) (he : si_fetch mi pc = some (.istore k, 2, q)) (hk : k + 1 ≤ y.2.2.2.1) (hl : jM l ls) (h' : l' = (k, Value.int x) :: l.filter (fun q => !(q.1 == k))) (hc : l.all (fun q => q.2.category == 1) = true) (kk : ∀ ls' : si_L, jM l' ls' → az_X P d mi (pc + 2) ls' st h Q) : az_X P d mi pc ls (.int x :: st) h Q := by
  refine az_X_step (pc' := pc + 2) (ls' := si_st1 ls k (.int x)) (st' := st) (h' := h) hy he ?_ (kk _ (jM_st hl h' hc))
  unfold si_step
  dsimp only
  show (if si_kd (.int x) 0 = true ∧ (k : Nat) + (Value.int x).category ≤ y.2.2.2.1 then some (pc + 2, if (Value.int x).category = 2 then si_st2 ls k (.int x) else si_st1 ls k (.int x), st, h) else none) = _
  rw [if_pos ⟨rfl, hk⟩]
  all_goals rfl
theorem jm_iinc {k : Nat} {n : Int} {x x' : Int32} {l l' : List (Nat × Value)} (hy : si_m mi = some y) (he : si_fetch mi pc = some (.iinc k n, 3, q)) (hk : k < y.2.2.2.1) (L : si_ld k ls = some (.int x)) (hx : x + Int32.ofInt n = x') (hl : jM l ls) (h' : l' = (k, Value.int x') :: l.filter (fun q => !(q.1 == k))) (hc : l.all (fun q => q.2.category == 1) = true) (kk : ∀ ls' : si_L, jM l' ls' → az_X P d mi (pc + 3) ls' st h Q) : az_X P d mi pc ls st h Q := by
  subst hx
  refine az_X_step (pc' := pc + 3) (ls' := si_st1 ls k (.int (x + Int32.ofInt n))) (st' := st) (h' := h) hy he ?_ (kk _ (jM_st hl h' hc))
  unfold si_step
  dsimp only
  rw [if_pos ⟨rfl, hk⟩, L]
  all_goals rfl
theorem jx_ial {i n : Nat} {lo hi : Int} {x : Int32} (hy : si_m mi = some y) (he : si_fetch mi pc = some (.iaload, 1, q)) (hxa : P.2.1 < P.1) (hH : az_HI P az_tb h) (hi' : i < az_tb.length) (ht : az_tb[i]? = some (.inr (.int, n, lo, hi))) (h0 : 0 ≤ x.toInt) (h1 : x.toInt < n) (kk : ∀ z : Int32, z.toInt = ja h i x.toInt → lo ≤ z.toInt ∧ z.toInt ≤ hi → az_X P d mi (pc + 1) ls (.int z :: st) h Q) : az_X P d mi pc ls (.int x :: .ref (P.1 + i) :: st) h Q := by
  have hc : x.toNatClampNeg = x.toInt.toNat := rfl
  obtain ⟨hs, hr⟩ := hH.2 i _ ht
  have h3 := hr x.toInt.toNat (by show x.toInt.toNat < n; omega)
  unfold az_aok at h3
  rw [if_neg (fun e => by cases e)] at h3
  obtain ⟨z, hz, hz1, hz2⟩ := h3
  have hin : si_in x n = true := by
    unfold si_in
    rw [Bool.and_eq_true, decide_eq_true_eq, decide_eq_true_eq]
    exact ⟨(nm_leI 0 x).mpr (by have : (0 : Int32).toInt = 0 := by decide
                                omega), by omega⟩
  refine az_X_step (pc' := pc + 1) (ls' := ls) (st' := .int z :: st) (h' := h) hy he ?_ (kk z ?_ ⟨hz1, hz2⟩)
  · unfold si_step
    dsimp only
    rw [if_pos rfl, if_neg (show ¬ (P.1 + i = P.2.1) by omega)]
    unfold si_ald
    rw [jix hH hi']
    dsimp only
    rw [hs]
    dsimp only
    rw [if_pos ⟨hin, List.mem_singleton.mpr rfl⟩, hc, hz]
  · show z.toInt = ji h i x.toInt.toNat
    unfold ji
    rw [hz]
end Jm
theorem jM_pick {l l' : List (Nat × Value)} {ls : si_L} (h : jM l ls) (is : List Nat) (he : is.filterMap (fun i => l[i]?) = l') : jM l' ls := by
  intro q hq
  rw [← he] at hq
  obtain ⟨i, -, hi⟩ := List.mem_filterMap.mp hq
  exact h q (List.mem_of_getElem? hi)
theorem tround_ok {P : si_P} {d : Nat} {h : si_H} (hH : az_HI P az_tb h) : az_X P d 73 0 (lv_args 0 [.ref (P.1 + 1)]) [] h (fun rv h' => h' = h ∧ jV rv (ja h 1 0 * ja h 1 1)) := by
  obtain ⟨⟨M, hM, eM⟩, bM⟩ := jt_ok hH (i := 1) (k := 0) rfl
  obtain ⟨⟨R, hR, eR⟩, bR⟩ := jt_ok hH (i := 1) (k := 1) rfl
  have eM' : ja h 1 0 = M.toInt := eM.symm
  have eR' : ja h 1 1 = R.toInt := eR.symm
  have b1 : 4 ≤ ji h 1 0 ∧ ji h 1 0 ≤ 60 := bM
  have b2 : 2 ≤ ji h 1 1 ∧ ji h 1 1 ≤ 24 := bR
  rw [eM', eR']
  have bp := nm_mulnn (a := 4) (b := 60) (c := 2) (d := 24) (x := M.toInt) (y := R.toInt) (by decide) (by decide) (by omega) (by omega) (by omega) (by omega)
  have ep : (M * R).toInt = M.toInt * R.toInt := nm_mul (by omega) (by omega)
  refine az_X_step (pc' := 1) (ls' := [(0, .ref (P.1 + 1))]) (st' := [.ref (P.1 + 1)]) (h' := h) rfl rfl rfl ?_
  refine jx_gf (i := 1) rfl rfl hH (by decide) (hH.2 1 _ rfl).1 rfl hM ?_
  refine az_X_step (pc' := 5) (ls' := [(0, .ref (P.1 + 1))]) (st' := [.ref (P.1 + 1), .int M]) (h' := h) rfl rfl rfl ?_
  refine jx_gf (i := 1) rfl rfl hH (by decide) (hH.2 1 _ rfl).1 rfl hR ?_
  refine az_X_step (pc' := 9) (ls' := [(0, .ref (P.1 + 1))]) (st' := [.int (M * R)]) (h' := h) rfl rfl rfl ?_
  refine jx_ret rfl rfl rfl ?_
  exact ⟨rfl, M * R, rfl, ep⟩
theorem taround_ok {P : si_P} {d : Nat} {h : si_H} (hH : az_HI P az_tb h) (t : Int32) : az_X P (d + 1) 75 0 (lv_args 0 [.ref (P.1 + 1), .int t]) [] h (fun rv h' => h' = h ∧ jV rv (t.toInt % (ja h 1 0 * ja h 1 1))) := by
  obtain ⟨⟨M, hM, eM⟩, bM⟩ := jt_ok hH (i := 1) (k := 0) rfl
  obtain ⟨⟨R, hR, eR⟩, bR⟩ := jt_ok hH (i := 1) (k := 1) rfl
  have eM' : ja h 1 0 = M.toInt := eM.symm
  have eR' : ja h 1 1 = R.toInt := eR.symm
  have b1 : 4 ≤ ji h 1 0 ∧ ji h 1 0 ≤ 60 := bM
  have b2 : 2 ≤ ji h 1 1 ∧ ji h 1 1 ≤ 24 := bR
  rw [eM', eR']
  have bp := nm_mulnn (a := 4) (b := 60) (c := 2) (d := 24) (x := M.toInt) (y := R.toInt) (by decide) (by decide) (by omega) (by omega) (by omega) (by omega)
  have ep : (M * R).toInt = M.toInt * R.toInt := nm_mul (by omega) (by omega)
  refine az_X_step (pc' := 1) (ls' := [(0, .ref (P.1 + 1)), (1, .int t)]) (st' := [.int t]) (h' := h) rfl rfl rfl ?_
  refine az_X_step (pc' := 2) (ls' := [(0, .ref (P.1 + 1)), (1, .int t)]) (st' := [.ref (P.1 + 1), .int t]) (h' := h) rfl rfl rfl ?_
  refine jx_gf (i := 1) rfl rfl hH (by decide) (hH.2 1 _ rfl).1 rfl hM ?_
  refine az_X_step (pc' := 6) (ls' := [(0, .ref (P.1 + 1)), (1, .int t)]) (st' := [.ref (P.1 + 1), .int M, .int t]) (h' := h) rfl rfl rfl ?_
  refine jx_gf (i := 1) rfl rfl hH (by decide) (hH.2 1 _ rfl).1 rfl hR ?_
  refine az_X_step (pc' := 10) (ls' := [(0, .ref (P.1 + 1)), (1, .int t)]) (st' := [.int (M * R), .int t]) (h' := h) rfl rfl rfl ?_
  refine az_X_call (m' := 200) (as := [.int t, .int (M * R)]) (rest := []) rfl rfl rfl rfl rfl rfl ?_
  refine (modulo_ok t (M * R) (by omega)).mono ?_
  rintro rv10 h10 ⟨q10, z10, rfl, ez10⟩
  subst h10
  show az_X P _ 75 13 [(0, .ref (P.1 + 1)), (1, .int t)] [.int z10] _ _
  refine jx_ret rfl rfl rfl ?_
  exact ⟨rfl, z10, rfl, by rw [← ep]; exact ez10⟩
/-! single steps whose results are known by their integers, and steps that write -/
section Jn
variable {P : si_P} {d mi pc : Nat} {y : si_M} {ls : si_L} {st : List Value} {h : si_H} {Q : Option Value → si_H → Prop} {q : Nat × Nat × Nat}
theorem jn_add {a b : Int32} (hy : si_m mi = some y) (he : si_fetch mi pc = some (.iadd, 1, q)) (h1 : -2147483648 ≤ a.toInt + b.toInt) (h2 : a.toInt + b.toInt ≤ 2147483647) (kk : ∀ z : Int32, z.toInt = a.toInt + b.toInt → az_X P d mi (pc + 1) ls (.int z :: st) h Q) : az_X P d mi pc ls (.int b :: .int a :: st) h Q := az_X_step (pc' := pc + 1) (ls' := ls) (st' := .int (a + b) :: st) (h' := h) hy he rfl (kk _ (nm_add h1 h2))
theorem jn_sub {a b : Int32} (hy : si_m mi = some y) (he : si_fetch mi pc = some (.isub, 1, q)) (h1 : -2147483648 ≤ a.toInt - b.toInt) (h2 : a.toInt - b.toInt ≤ 2147483647) (kk : ∀ z : Int32, z.toInt = a.toInt - b.toInt → az_X P d mi (pc + 1) ls (.int z :: st) h Q) : az_X P d mi pc ls (.int b :: .int a :: st) h Q := az_X_step (pc' := pc + 1) (ls' := ls) (st' := .int (a - b) :: st) (h' := h) hy he rfl (kk _ (nm_sub h1 h2))
theorem jn_mul {a b : Int32} (hy : si_m mi = some y) (he : si_fetch mi pc = some (.imul, 1, q)) (h1 : -2147483648 ≤ a.toInt * b.toInt) (h2 : a.toInt * b.toInt ≤ 2147483647) (kk : ∀ z : Int32, z.toInt = a.toInt * b.toInt → az_X P d mi (pc + 1) ls (.int z :: st) h Q) : az_X P d mi pc ls (.int b :: .int a :: st) h Q := az_X_step (pc' := pc + 1) (ls' := ls) (st' := .int (a * b) :: st) (h' := h) hy he rfl (kk _ (nm_mul h1 h2))
theorem jn_neg {a : Int32} (hy : si_m mi = some y) (he : si_fetch mi pc = some (.ineg, 1, q)) (h1 : -2147483648 ≤ -a.toInt) (h2 : -a.toInt ≤ 2147483647) (kk : ∀ z : Int32, z.toInt = -a.toInt → az_X P d mi (pc + 1) ls (.int z :: st) h Q) : az_X P d mi pc ls (.int a :: st) h Q := az_X_step (pc' := pc + 1) (ls' := ls) (st' := .int (-a) :: st) (h' := h) hy he rfl (kk _ (nm_neg h1 h2))
theorem jn_nz {b : Int32} (hb : 1 ≤ b.toInt) : b ≠ 0 := fun e => by
  subst e
  have : (0 : Int32).toInt = 0 := by decide
  omega
theorem jn_div {a b : Int32} (hy : si_m mi = some y) (he : si_fetch mi pc = some (.idiv, 1, q)) (ha : 0 ≤ a.toInt) (hb : 1 ≤ b.toInt) (kk : ∀ z : Int32, z.toInt = a.toInt / b.toInt → az_X P d mi (pc + 1) ls (.int z :: st) h Q) : az_X P d mi pc ls (.int b :: .int a :: st) h Q := jx_div hy he (jn_nz hb) (kk _ (by rw [nm_div hb, nm_tdiv_nn ha]))
theorem jn_rem {a b : Int32} (hy : si_m mi = some y) (he : si_fetch mi pc = some (.irem, 1, q)) (ha : 0 ≤ a.toInt) (hb : 1 ≤ b.toInt) (kk : ∀ z : Int32, z.toInt = a.toInt % b.toInt → 0 ≤ z.toInt → z.toInt < b.toInt → az_X P d mi (pc + 1) ls (.int z :: st) h Q) : az_X P d mi pc ls (.int b :: .int a :: st) h Q := by
  have e : (a - a / b * b).toInt = a.toInt % b.toInt := by rw [nm_rem hb, Int.tmod_eq_emod_of_nonneg ha]
  have e1 := Int.emod_nonneg a.toInt (b := b.toInt) (by omega)
  have e2 := Int.emod_lt_of_pos a.toInt (b := b.toInt) (by omega)
  exact jx_rem hy he (jn_nz hb) (kk _ e (by omega) (by omega))
theorem jn_icd {k : ClassFile.Cond} {off : Int} {t : Nat} {a b : Int32} {c : Bool} (hy : si_m mi = some y) (he : si_fetch mi pc = some (.if_icmp k off, 3, q)) (ht : si_tgt pc off = some t) (hc : si_c2 k a b = c) (kk : az_X P d mi (if c = true then t else pc + 3) ls st h Q) : az_X P d mi pc ls (.int b :: .int a :: st) h Q := by
  refine jx_ic hy he ht (fun e => ?_) (fun e => ?_)
  · rw [hc] at e
    subst e
    exact kk
  · rw [hc] at e
    subst e
    exact kk
theorem jn_ifd {k : ClassFile.Cond} {off : Int} {t : Nat} {a : Int32} {c : Bool} (hy : si_m mi = some y) (he : si_fetch mi pc = some (.ifCond k off, 3, q)) (ht : si_tgt pc off = some t) (hc : si_c1 k a = c) (kk : az_X P d mi (if c = true then t else pc + 3) ls st h Q) : az_X P d mi pc ls (.int a :: st) h Q := by
  refine jx_if hy he ht (fun e => ?_) (fun e => ?_)
  · rw [hc] at e
    subst e
    exact kk
  · rw [hc] at e
    subst e
    exact kk
theorem jn_iinc {k : Nat} {n : Int} {x : Int32} {l : List (Nat × Value)} (hy : si_m mi = some y) (he : si_fetch mi pc = some (.iinc k n, 3, q)) (hk : k < y.2.2.2.1) (L : si_ld k ls = some (.int x)) (hl : jM l ls) (hc : l.all (fun q => q.2.category == 1) = true) (hn : -2147483648 ≤ n ∧ n ≤ 2147483647) (h1 : -2147483648 ≤ x.toInt + n) (h2 : x.toInt + n ≤ 2147483647) (kk : ∀ z : Int32, z.toInt = x.toInt + n → ∀ ls' : si_L, jM ((k, Value.int z) :: l.filter (fun q => !(q.1 == k))) ls' → az_X P d mi (pc + 3) ls' st h Q) : az_X P d mi pc ls st h Q := by
  have e : (Int32.ofInt n).toInt = n := nm_ofInt hn.1 hn.2
  exact jm_iinc hy he hk L rfl hl rfl hc (kk _ (by rw [nm_add (by omega) (by omega), e]))
theorem jm_aload {k : Nat} {x : Nat} (hy : si_m mi = some y) (he : si_fetch mi pc = some (.aload k, 2, q)) (L : si_ld k ls = some (.ref x)) (kk : az_X P d mi (pc + 2) ls (.ref x :: st) h Q) : az_X P d mi pc ls st h Q := by
  refine az_X_step (pc' := pc + 2) (ls' := ls) (st' := .ref x :: st) (h' := h) hy he ?_ kk
  unfold si_step
  dsimp only
  show (match si_ld (k : Nat) ls with | some v => if si_kd v 2 = true then some (pc + 2, ls, v :: st, h) else none | none => none) = _
  rw [L]
  all_goals rfl
theorem jn_gf {i k ci n idx q' : Nat} {b : Int × Int} (hy : si_m mi = some y) (he : si_fetch mi pc = some (.getfield idx, 3, ci, k, q')) (hH : az_HI P az_tb h) (hi : i < az_tb.length) (hs : h.2.1 i = .inl (ci, n)) (hn : ((si_cl[ci]?).map (fun q => q.2.2)).getD 0 = n) (ht : jt i k = some b) (kk : ∀ z : Int32, z.toInt = ja h i k → b.1 ≤ z.toInt ∧ z.toInt ≤ b.2 → az_X P d mi (pc + 3) ls (.int z :: st) h Q) : az_X P d mi pc ls (.ref (P.1 + i) :: st) h Q := by
  obtain ⟨⟨z, hz, ez⟩, b1, b2⟩ := jt_ok hH ht
  exact jx_gf hy he hH hi hs hn hz (kk z ez ⟨ez ▸ b1, ez ▸ b2⟩)
theorem jn_pf {i k ci n idx q' c : Nat} {l : List az_Q} {lo hi : Int} {x : Int32} (hy : si_m mi = some y) (he : si_fetch mi pc = some (.putfield idx, 3, ci, k, q')) (hH : az_HI P az_tb h) (hi' : i < az_tb.length) (hb : az_tb[i]? = some (.inl (ci, l))) (hs : h.2.1 i = .inl (ci, n)) (hn : ((si_cl[ci]?).map (fun q => q.2.2)).getD 0 = n) (hq : l[k]? = some (.inl (c, lo, hi))) (hty : si_fty ci k = .int) (hfin : si_fin ci k = false) (h1 : lo ≤ x.toInt) (h2 : x.toInt ≤ hi) (kk : ∀ h' : si_H, az_HI P az_tb h' → az_same_out [(i, k)] h h' → ja h' i k = x.toInt → az_X P d mi (pc + 3) ls st h' Q) : az_X P d mi pc ls (.int x :: .ref (P.1 + i) :: st) h Q := by
  refine az_X_step (pc' := pc + 3) (ls' := ls) (st' := st) (h' := (h.1, h.2.1, si_set h.2.2 i k (.int x))) hy he ?_ (kk _ (az_HI_set hH hb (fun q2 hq2 => ?_)) (az_out_set (by unfold az_in; rw [Bool.or_eq_true]; exact Or.inl (by simp))) ?_)
  · unfold si_step
    dsimp only
    rw [if_pos rfl, jix hH hi']
    dsimp only
    rw [if_pos ⟨by rw [hs, hn], by rw [hty]; exact vp_nar_int x, by rw [hty]; rfl, Or.inl hfin⟩]
  · cases hq.symm.trans hq2
    exact ⟨x, rfl, h1, h2⟩
  · show ji (h.1, h.2.1, si_set h.2.2 i k (.int x)) i k = x.toInt
    unfold ji si_set
    dsimp only
    rw [if_pos rfl, if_pos rfl]
theorem jn_in {x : Int32} {n : Nat} (h0 : 0 ≤ x.toInt) (h1 : x.toInt < n) : si_in x n = true := by
  have hc : x.toNatClampNeg = x.toInt.toNat := rfl
  unfold si_in
  rw [Bool.and_eq_true, decide_eq_true_eq, decide_eq_true_eq]
  exact ⟨(nm_leI 0 x).mpr (by have : (0 : Int32).toInt = 0 := by decide
                              omega), by omega⟩
theorem jn_set {i : Nat} {x : Int} {v : Int32} (h0 : 0 ≤ x) : ja (h.1, h.2.1, si_set h.2.2 i x.toNat (.int v)) i x = v.toInt ∧ ∀ j : Int, 0 ≤ j → j ≠ x → ja (h.1, h.2.1, si_set h.2.2 i x.toNat (.int v)) i j = ja h i j := by
  constructor
  · show ji (h.1, h.2.1, si_set h.2.2 i x.toNat (.int v)) i x.toNat = v.toInt
    unfold ji si_set
    dsimp only
    rw [if_pos rfl, if_pos rfl]
  · intro j hj hn
    show ji (h.1, h.2.1, si_set h.2.2 i x.toNat (.int v)) i j.toNat = ji h i j.toNat
    unfold ji si_set
    dsimp only
    rw [if_pos rfl, if_neg (by omega)]
theorem jn_ias {i n : Nat} {lo hi : Int} {x v : Int32} (hy : si_m mi = some y) (he : si_fetch mi pc = some (.iastore, 1, q)) (hH : az_HI P az_tb h) (hi' : i < az_tb.length) (ht : az_tb[i]? = some (.inr (.int, n, lo, hi))) (h0 : 0 ≤ x.toInt) (h1 : x.toInt < n) (v1 : lo ≤ v.toInt) (v2 : v.toInt ≤ hi) (kk : ∀ h' : si_H, az_HI P az_tb h' → az_same_out [(i, 1000000)] h h' → ja h' i x.toInt = v.toInt → (∀ j : Int, 0 ≤ j → j ≠ x.toInt → ja h' i j = ja h i j) → az_X P d mi (pc + 1) ls st h' Q) : az_X P d mi pc ls (.int v :: .int x :: .ref (P.1 + i) :: st) h Q := by
  have hc : x.toNatClampNeg = x.toInt.toNat := rfl
  refine az_X_step (pc' := pc + 1) (ls' := ls) (st' := st) (h' := (h.1, h.2.1, si_set h.2.2 i x.toInt.toNat (.int v))) hy he ?_ (kk _ (az_HI_set hH ht (fun _ => ?_)) (az_out_set (by unfold az_in; rw [Bool.or_eq_true]; exact Or.inr (by simp))) (jn_set h0).1 (jn_set h0).2)
  · unfold si_step
    dsimp only
    rw [if_pos rfl]
    unfold si_ast
    rw [jix hH hi']
    dsimp only
    rw [(hH.2 i _ ht).1]
    dsimp only
    rw [if_pos ⟨jn_in h0 h1, List.mem_singleton.mpr rfl⟩, hc]
    all_goals rfl
  · unfold az_aok
    rw [if_neg (fun e => by cases e)]
    exact ⟨v, rfl, v1, v2⟩
theorem jn_bas {i n : Nat} {lo hi : Int} {x v : Int32} (hy : si_m mi = some y) (he : si_fetch mi pc = some (.bastore, 1, q)) (hH : az_HI P az_tb h) (hi' : i < az_tb.length) (ht : az_tb[i]? = some (.inr (.byte, n, lo, hi))) (h0 : 0 ≤ x.toInt) (h1 : x.toInt < n) (v1 : lo ≤ -128) (v2 : 127 ≤ hi) (kk : ∀ h' : si_H, az_HI P az_tb h' → az_same_out [(i, 1000000)] h h' → ja h' i x.toInt = v.toInt8.toInt32.toInt → (∀ j : Int, 0 ≤ j → j ≠ x.toInt → ja h' i j = ja h i j) → az_X P d mi (pc + 1) ls st h' Q) : az_X P d mi pc ls (.int v :: .int x :: .ref (P.1 + i) :: st) h Q := by
  have hc : x.toNatClampNeg = x.toInt.toNat := rfl
  refine az_X_step (pc' := pc + 1) (ls' := ls) (st' := st) (h' := (h.1, h.2.1, si_set h.2.2 i x.toInt.toNat (.int v.toInt8.toInt32))) hy he ?_ (kk _ (az_HI_set hH ht (fun _ => ?_)) (az_out_set (by unfold az_in; rw [Bool.or_eq_true]; exact Or.inr (by simp))) (jn_set h0).1 (jn_set h0).2)
  · unfold si_step
    dsimp only
    rw [if_pos rfl]
    unfold si_ast
    rw [jix hH hi']
    dsimp only
    rw [(hH.2 i _ ht).1]
    dsimp only
    rw [if_pos ⟨jn_in h0 h1, by decide⟩, hc]
    all_goals rfl
  · unfold az_aok
    rw [if_neg (fun e => by cases e)]
    have := nm_i2b v
    exact ⟨v.toInt8.toInt32, rfl, by show lo ≤ _; omega, by show _ ≤ hi; omega⟩
theorem jn_bal {i n : Nat} {lo hi : Int} {x : Int32} (hy : si_m mi = some y) (he : si_fetch mi pc = some (.baload, 1, q)) (hH : az_HI P az_tb h) (hi' : i < az_tb.length) (ht : az_tb[i]? = some (.inr (.byte, n, lo, hi))) (h0 : 0 ≤ x.toInt) (h1 : x.toInt < n) (kk : ∀ z : Int32, z.toInt = ja h i x.toInt → lo ≤ z.toInt ∧ z.toInt ≤ hi → az_X P d mi (pc + 1) ls (.int z :: st) h Q) : az_X P d mi pc ls (.int x :: .ref (P.1 + i) :: st) h Q := by
  have hc : x.toNatClampNeg = x.toInt.toNat := rfl
  obtain ⟨hs, hr⟩ := hH.2 i _ ht
  have h3 := hr x.toInt.toNat (by show x.toInt.toNat < n; omega)
  unfold az_aok at h3
  rw [if_neg (fun e => by cases e)] at h3
  obtain ⟨z, hz, hz1, hz2⟩ := h3
  refine az_X_step (pc' := pc + 1) (ls' := ls) (st' := .int z :: st) (h' := h) hy he ?_ (kk z ?_ ⟨hz1, hz2⟩)
  · unfold si_step
    dsimp only
    rw [if_pos rfl]
    unfold si_ald
    rw [jix hH hi']
    dsimp only
    rw [hs]
    dsimp only
    rw [if_pos ⟨jn_in h0 h1, by decide⟩, hc, hz]
  · show z.toInt = ji h i x.toInt.toNat
    unfold ji
    rw [hz]
theorem jn_len {i n : Nat} {ty : FieldType} {lo hi : Int} {x : Int32} (hy : si_m mi = some y) (he : si_fetch mi pc = some (.arraylength, 1, q)) (hxa : P.2.1 < P.1) (hH : az_HI P az_tb h) (hi' : i < az_tb.length) (ht : az_tb[i]? = some (.inr (ty, n, lo, hi))) (hx : Int32.ofNat n = x) (kk : az_X P d mi (pc + 1) ls (.int x :: st) h Q) : az_X P d mi pc ls (.ref (P.1 + i) :: st) h Q := by
  subst hx
  refine az_X_step (pc' := pc + 1) (ls' := ls) (st' := .int (Int32.ofNat n) :: st) (h' := h) hy he ?_ kk
  unfold si_step
  dsimp only
  rw [if_pos rfl, if_neg (show ¬ (P.1 + i = P.2.1) by omega), jix hH hi']
  dsimp only
  rw [(hH.2 i _ ht).1]
theorem jn_retv (hy : si_m mi = some y) (he : si_fetch mi pc = some (.return_, 1, q)) (hr : y.2.2.2.2.1 = none) (k : Q none h) : az_X P d mi pc ls [] h Q := by
  refine az_X_ret (rv := none) hy he ?_ ?_ k
  · unfold si_step
    rfl
  · unfold si_ret
    dsimp only
    rw [if_pos ⟨rfl, hr⟩]
end Jn
theorem az_X.and {P : si_P} {d mi pc : Nat} {ls : si_L} {st : List Value} {h : si_H} {Q R : Option Value → si_H → Prop} (h1 : az_X P d mi pc ls st h Q) (h2 : az_X P d mi pc ls st h R) : az_X P d mi pc ls st h (fun rv h' => Q rv h' ∧ R rv h') := by
  obtain ⟨n, rv, h', e, q⟩ := h1
  obtain ⟨k, rv2, h2', e2, q2⟩ := h2
  have a1 := si_run_le (k := n + k) (by omega) e
  have a2 := si_run_le (k := n + k) (by omega) e2
  rw [a1] at a2
  cases a2
  exact ⟨n + k, rv, h', a1, q, q2⟩
/-! rows of booleans -/
section Jnb
variable {P : si_P} {d mi pc : Nat} {y : si_M} {ls : si_L} {st : List Value} {h : si_H} {Q : Option Value → si_H → Prop} {q : Nat × Nat × Nat}
theorem jn_balz {i n : Nat} {lo hi : Int} {x : Int32} (hy : si_m mi = some y) (he : si_fetch mi pc = some (.baload, 1, q)) (hH : az_HI P az_tb h) (hi' : i < az_tb.length) (ht : az_tb[i]? = some (.inr (.boolean, n, lo, hi))) (h0 : 0 ≤ x.toInt) (h1 : x.toInt < n) (kk : ∀ z : Int32, z.toInt = ja h i x.toInt → lo ≤ z.toInt ∧ z.toInt ≤ hi → az_X P d mi (pc + 1) ls (.int z :: st) h Q) : az_X P d mi pc ls (.int x :: .ref (P.1 + i) :: st) h Q := by
  have hc : x.toNatClampNeg = x.toInt.toNat := rfl
  obtain ⟨hs, hr⟩ := hH.2 i _ ht
  have h3 := hr x.toInt.toNat (by show x.toInt.toNat < n; omega)
  unfold az_aok at h3
  rw [if_neg (fun e => by cases e)] at h3
  obtain ⟨z, hz, hz1, hz2⟩ := h3
  refine az_X_step (pc' := pc + 1) (ls' := ls) (st' := .int z :: st) (h' := h) hy he ?_ (kk z ?_ ⟨hz1, hz2⟩)
  · unfold si_step
    dsimp only
    rw [if_pos rfl]
    unfold si_ald
    rw [jix hH hi']
    dsimp only
    rw [hs]
    dsimp only
    rw [if_pos ⟨jn_in h0 h1, by decide⟩, hc, hz]
  · show z.toInt = ji h i x.toInt.toNat
    unfold ji
    rw [hz]
theorem jn_basz {i n : Nat} {lo hi : Int} {x v : Int32} (hy : si_m mi = some y) (he : si_fetch mi pc = some (.bastore, 1, q)) (hH : az_HI P az_tb h) (hi' : i < az_tb.length) (ht : az_tb[i]? = some (.inr (.boolean, n, lo, hi))) (h0 : 0 ≤ x.toInt) (h1 : x.toInt < n) (hv : v.toInt = 0 ∨ v.toInt = 1) (v1 : lo ≤ v.toInt) (v2 : v.toInt ≤ hi) (kk : ∀ h' : si_H, az_HI P az_tb h' → az_same_out [(i, 1000000)] h h' → ja h' i x.toInt = v.toInt → (∀ j : Int, 0 ≤ j → j ≠ x.toInt → ja h' i j = ja h i j) → az_X P d mi (pc + 1) ls st h' Q) : az_X P d mi pc ls (.int v :: .int x :: .ref (P.1 + i) :: st) h Q := by
  have hc : x.toNatClampNeg = x.toInt.toNat := rfl
  have hn : si_nar .boolean (.int v) = .int v := jbz hv
  refine az_X_step (pc' := pc + 1) (ls' := ls) (st' := st) (h' := (h.1, h.2.1, si_set h.2.2 i x.toInt.toNat (.int v))) hy he ?_ (kk _ (az_HI_set hH ht (fun _ => ?_)) (az_out_set (by unfold az_in; rw [Bool.or_eq_true]; exact Or.inr (by simp))) (jn_set h0).1 (jn_set h0).2)
  · unfold si_step
    dsimp only
    rw [if_pos rfl]
    unfold si_ast
    rw [jix hH hi']
    dsimp only
    rw [(hH.2 i _ ht).1]
    dsimp only
    rw [if_pos ⟨jn_in h0 h1, by decide⟩, hc, hn]
  · unfold az_aok
    rw [if_neg (fun e => by cases e)]
    exact ⟨v, rfl, v1, v2⟩
end Jnb
/-! longs -/
def jl (h : si_H) (i : Nat) (k : Int) : Int := match h.2.2 i k.toNat with
  | .long x => x.toInt
  | _ => 0
theorem jlo {md : List (Nat × Nat)} {h h' : si_H} (hs : az_same_out md h h') {i : Nat} {k : Int} (hk : az_in md i k.toNat = false) : jl h' i k = jl h i k := by
  unfold jl
  rw [hs.2.2 i _ hk]
theorem jlo_row {md : List (Nat × Nat)} {h h' : si_H} (hs : az_same_out md h h') {i : Nat} (hk : md.all (fun x => decide (x.1 ≠ i)) = true) (k : Int) : jl h' i k = jl h i k := by
  refine jlo hs ?_
  unfold az_in
  rw [Bool.or_eq_false_iff]
  constructor
  all_goals
    rw [Bool.eq_false_iff]
    intro hc
    have hm := List.all_eq_true.mp hk _ (by simpa using hc)
    simp at hm
theorem jlc (x y : Int64) : ((lg_cmp x y).toInt = -1 ∧ x.toInt < y.toInt) ∨ ((lg_cmp x y).toInt = 0 ∧ x.toInt = y.toInt) ∨ ((lg_cmp x y).toInt = 1 ∧ y.toInt < x.toInt) := by
  have m1 : ((-1) : Int32).toInt = -1 := by decide
  have m0 : (0 : Int32).toInt = 0 := by decide
  have p1 : (1 : Int32).toInt = 1 := by decide
  have e1 : x < y ↔ x.toInt < y.toInt := Int64.lt_iff_toInt_lt
  have e2 : y < x ↔ y.toInt < x.toInt := Int64.lt_iff_toInt_lt
  have e3 : x = y ↔ x.toInt = y.toInt := Int64.toInt_inj.symm
  unfold lg_cmp
  repeat' split
  all_goals
    simp only [GT.gt, e1, e2, e3] at *
    omega
theorem jM_stg {l l' : List (Nat × Value)} {ls : si_L} {k : Nat} {v : Value} (h : jM l ls) (h' : l' = (k, v) :: l.filter (fun q => !(q.1 == k) && !(q.1 + 1 == k && q.2.category == 2))) : jM l' (si_st1 ls k v) := by
  subst h'
  intro q hq
  unfold si_st1
  rcases List.mem_cons.mp hq with rfl | hq
  · unfold si_ld
    exact if_pos rfl
  · obtain ⟨h1, h2⟩ := List.mem_filter.mp hq
    have h3 : ¬ q.1 = k := by
      intro e
      rw [e] at h2
      simp at h2
    unfold si_ld
    rw [if_neg (fun e => h3 e.symm)]
    refine si_ld_f (fun w hw hl => ?_) (h q h1)
    have h5 : w = q.2 := by
      have := h q h1
      rw [hl] at this
      exact Option.some.inj this
    subst h5
    exact h2
theorem jM_st2 {l l' : List (Nat × Value)} {ls : si_L} {k : Nat} {v : Value} (h : jM l ls) (h' : l' = (k, v) :: l.filter (fun q => !(q.1 == k) && (!(q.1 == k + 1) && !(q.1 + 1 == k && q.2.category == 2)))) : jM l' (si_st2 ls k v) := by
  subst h'
  intro q hq
  unfold si_st2
  rcases List.mem_cons.mp hq with rfl | hq
  · unfold si_ld
    exact if_pos rfl
  · obtain ⟨h1, h2⟩ := List.mem_filter.mp hq
    have h3 : ¬ q.1 = k := by
      intro e
      rw [e] at h2
      simp at h2
    unfold si_ld
    rw [if_neg (fun e => h3 e.symm)]
    refine si_ld_f (fun w hw hl => ?_) (h q h1)
    have h5 : w = q.2 := by
      have := h q h1
      rw [hl] at this
      exact Option.some.inj this
    subst h5
    exact h2
section Jlg
variable {P : si_P} {d mi pc : Nat} {y : si_M} {ls : si_L} {st : List Value} {h : si_H} {Q : Option Value → si_H → Prop} {q : Nat × Nat × Nat}
theorem jn_ladd {a b : Int64} (hy : si_m mi = some y) (he : si_fetch mi pc = some (.ladd, 1, q)) (h1 : -9223372036854775808 ≤ a.toInt + b.toInt) (h2 : a.toInt + b.toInt ≤ 9223372036854775807) (kk : ∀ z : Int64, z.toInt = a.toInt + b.toInt → az_X P d mi (pc + 1) ls (.long z :: st) h Q) : az_X P d mi pc ls (.long b :: .long a :: st) h Q := az_X_step (pc' := pc + 1) (ls' := ls) (st' := .long (a + b) :: st) (h' := h) hy he rfl (kk _ (by rw [Int64.toInt_add]; exact Int.bmod_eq_of_le_mul_two (by omega) (by omega)))
theorem jn_lcmp {a b : Int64} (hy : si_m mi = some y) (he : si_fetch mi pc = some (.lcmp, 1, q)) (kk : ∀ z : Int32, ((z.toInt = -1 ∧ a.toInt < b.toInt) ∨ (z.toInt = 0 ∧ a.toInt = b.toInt) ∨ (z.toInt = 1 ∧ b.toInt < a.toInt)) → az_X P d mi (pc + 1) ls (.int z :: st) h Q) : az_X P d mi pc ls (.long b :: .long a :: st) h Q := az_X_step (pc' := pc + 1) (ls' := ls) (st' := .int (lg_cmp a b) :: st) (h' := h) hy he rfl (kk _ (jlc a b))
theorem jn_l2i {a : Int64} (hy : si_m mi = some y) (he : si_fetch mi pc = some (.l2i, 1, q)) (h1 : -2147483648 ≤ a.toInt) (h2 : a.toInt ≤ 2147483647) (kk : ∀ z : Int32, z.toInt = a.toInt → az_X P d mi (pc + 1) ls (.int z :: st) h Q) : az_X P d mi pc ls (.long a :: st) h Q := az_X_step (pc' := pc + 1) (ls' := ls) (st' := .int a.toInt32 :: st) (h' := h) hy he rfl (kk _ (by rw [Int64.toInt_toInt32]; exact Int.bmod_eq_of_le_mul_two (by omega) (by omega)))
theorem jn_lal {i n : Nat} {lo hi : Int} {x : Int32} (hy : si_m mi = some y) (he : si_fetch mi pc = some (.laload, 1, q)) (hH : az_HI P az_tb h) (hi' : i < az_tb.length) (ht : az_tb[i]? = some (.inr (.long, n, lo, hi))) (h0 : 0 ≤ x.toInt) (h1 : x.toInt < n) (kk : ∀ z : Int64, z.toInt = jl h i x.toInt → az_X P d mi (pc + 1) ls (.long z :: st) h Q) : az_X P d mi pc ls (.int x :: .ref (P.1 + i) :: st) h Q := by
  have hc : x.toNatClampNeg = x.toInt.toNat := rfl
  obtain ⟨hs, hr⟩ := hH.2 i _ ht
  have h3 := hr x.toInt.toNat (by show x.toInt.toNat < n; omega)
  unfold az_aok at h3
  rw [if_pos rfl] at h3
  obtain ⟨z, hz⟩ := h3
  refine az_X_step (pc' := pc + 1) (ls' := ls) (st' := .long z :: st) (h' := h) hy he ?_ (kk z ?_)
  · unfold si_step
    dsimp only
    rw [if_pos rfl]
    unfold si_ald
    rw [jix hH hi']
    dsimp only
    rw [hs]
    dsimp only
    rw [if_pos ⟨jn_in h0 h1, List.mem_singleton.mpr rfl⟩, hc, hz]
  · unfold jl
    rw [hz]
theorem jn_las {i n : Nat} {lo hi : Int} {x : Int32} {v : Int64} (hy : si_m mi = some y) (he : si_fetch mi pc = some (.lastore, 1, q)) (hH : az_HI P az_tb h) (hi' : i < az_tb.length) (ht : az_tb[i]? = some (.inr (.long, n, lo, hi))) (h0 : 0 ≤ x.toInt) (h1 : x.toInt < n) (kk : ∀ h' : si_H, az_HI P az_tb h' → az_same_out [(i, 1000000)] h h' → jl h' i x.toInt = v.toInt → (∀ j : Int, 0 ≤ j → j ≠ x.toInt → jl h' i j = jl h i j) → az_X P d mi (pc + 1) ls st h' Q) : az_X P d mi pc ls (.long v :: .int x :: .ref (P.1 + i) :: st) h Q := by
  have hc : x.toNatClampNeg = x.toInt.toNat := rfl
  refine az_X_step (pc' := pc + 1) (ls' := ls) (st' := st) (h' := (h.1, h.2.1, si_set h.2.2 i x.toInt.toNat (.long v))) hy he ?_ (kk _ (az_HI_set hH ht (fun _ => ?_)) (az_out_set (by unfold az_in; rw [Bool.or_eq_true]; exact Or.inr (by simp))) ?_ ?_)
  · unfold si_step
    dsimp only
    rw [if_pos rfl]
    unfold si_ast
    rw [jix hH hi']
    dsimp only
    rw [(hH.2 i _ ht).1]
    dsimp only
    rw [if_pos ⟨jn_in h0 h1, List.mem_singleton.mpr rfl⟩, hc]
    all_goals rfl
  · unfold az_aok
    rw [if_pos rfl]
    exact ⟨v, rfl⟩
  · unfold jl si_set
    dsimp only
    rw [if_pos rfl, if_pos rfl]
  · intro j hj hn
    unfold jl si_set
    dsimp only
    rw [if_pos rfl, if_neg (by omega)]
theorem jm_lload_n {k : Fin 4} {x : Int64} (hy : si_m mi = some y) (he : si_fetch mi pc = some (.lload_n k, 1, q)) (L : si_ld (k : Nat) ls = some (.long x)) (kk : az_X P d mi (pc + 1) ls (.long x :: st) h Q) : az_X P d mi pc ls st h Q := by
  refine az_X_step (pc' := pc + 1) (ls' := ls) (st' := .long x :: st) (h' := h) hy he ?_ kk
  unfold si_step
  dsimp only
  show (match si_ld (k : Nat) ls with | some v => if si_kd v 1 = true then some (pc + 1, ls, v :: st, h) else none | none => none) = _
  rw [L]
  all_goals rfl
theorem jm_lload {k : Nat} {x : Int64} (hy : si_m mi = some y) (he : si_fetch mi pc = some (.lload k, 2, q)) (L : si_ld k ls = some (.long x)) (kk : az_X P d mi (pc + 2) ls (.long x :: st) h Q) : az_X P d mi pc ls st h Q := by
  refine az_X_step (pc' := pc + 2) (ls' := ls) (st' := .long x :: st) (h' := h) hy he ?_ kk
  unfold si_step
  dsimp only
  show (match si_ld (k : Nat) ls with | some v => if si_kd v 1 = true then some (pc + 2, ls, v :: st, h) else none | none => none) = _
  rw [L]
  all_goals rfl
theorem jm_lstore_n {k : Fin 4} {x : Int64} {l l' : List (Nat × Value)} (hy : si_m mi = some y) (he : si_fetch mi pc = some (.lstore_n k, 1, q)) (hk : (k : Nat) + 2 ≤ y.2.2.2.1) (hl : jM l ls) (h' : l' = ((k : Nat), Value.long x) :: l.filter (fun q => !(q.1 == (k : Nat)) && (!(q.1 == (k : Nat) + 1) && !(q.1 + 1 == (k : Nat) && q.2.category == 2)))) (kk : ∀ ls' : si_L, jM l' ls' → az_X P d mi (pc + 1) ls' st h Q) : az_X P d mi pc ls (.long x :: st) h Q := by
  refine az_X_step (pc' := pc + 1) (ls' := si_st2 ls k (.long x)) (st' := st) (h' := h) hy he ?_ (kk _ (jM_st2 hl h'))
  unfold si_step
  dsimp only
  show (if si_kd (.long x) 1 = true ∧ (k : Nat) + (Value.long x).category ≤ y.2.2.2.1 then some (pc + 1, if (Value.long x).category = 2 then si_st2 ls k (.long x) else si_st1 ls k (.long x), st, h) else none) = _
  rw [if_pos ⟨rfl, hk⟩]
  all_goals rfl
theorem jm_lstore {k : Nat} {x : Int64} {l l' : List (Nat × Value)} (hy : si_m mi = some y) (he : si_fetch mi pc = some (.lstore k, 2, q)) (hk : k + 2 ≤ y.2.2.2.1) (hl : jM l ls) (h' : l' = (k, Value.long x) :: l.filter (fun q => !(q.1 == k) && (!(q.1 == k + 1) && !(q.1 + 1 == k && q.2.category == 2)))) (kk : ∀ ls' : si_L, jM l' ls' → az_X P d mi (pc + 2) ls' st h Q) : az_X P d mi pc ls (.long x :: st) h Q := by
  refine az_X_step (pc' := pc + 2) (ls' := si_st2 ls k (.long x)) (st' := st) (h' := h) hy he ?_ (kk _ (jM_st2 hl h'))
  unfold si_step
  dsimp only
  show (if si_kd (.long x) 1 = true ∧ (k : Nat) + (Value.long x).category ≤ y.2.2.2.1 then some (pc + 2, if (Value.long x).category = 2 then si_st2 ls k (.long x) else si_st1 ls k (.long x), st, h) else none) = _
  rw [if_pos ⟨rfl, hk⟩]
  all_goals rfl
theorem jm_istore_ng {k : Fin 4} {x : Int32} {l l' : List (Nat × Value)} (hy : si_m mi = some y) (he : si_fetch mi pc = some (.istore_n k, 1, q)) (hk : (k : Nat) + 1 ≤ y.2.2.2.1) (hl : jM l ls) (h' : l' = ((k : Nat), Value.int x) :: l.filter (fun q => !(q.1 == (k : Nat)) && !(q.1 + 1 == (k : Nat) && q.2.category == 2))) (kk : ∀ ls' : si_L, jM l' ls' → az_X P d mi (pc + 1) ls' st h Q) : az_X P d mi pc ls (.int x :: st) h Q := by
  refine az_X_step (pc' := pc + 1) (ls' := si_st1 ls k (.int x)) (st' := st) (h' := h) hy he ?_ (kk _ (jM_stg hl h'))
  unfold si_step
  dsimp only
  show (if si_kd (.int x) 0 = true ∧ (k : Nat) + (Value.int x).category ≤ y.2.2.2.1 then some (pc + 1, if (Value.int x).category = 2 then si_st2 ls k (.int x) else si_st1 ls k (.int x), st, h) else none) = _
  rw [if_pos ⟨rfl, hk⟩]
  all_goals rfl
theorem jm_istoreg {k : Nat} {x : Int32} {l l' : List (Nat × Value)} (hy : si_m mi = some y) (he : si_fetch mi pc = some (.istore k, 2, q)) (hk : k + 1 ≤ y.2.2.2.1) (hl : jM l ls) (h' : l' = (k, Value.int x) :: l.filter (fun q => !(q.1 == k) && !(q.1 + 1 == k && q.2.category == 2))) (kk : ∀ ls' : si_L, jM l' ls' → az_X P d mi (pc + 2) ls' st h Q) : az_X P d mi pc ls (.int x :: st) h Q := by
  refine az_X_step (pc' := pc + 2) (ls' := si_st1 ls k (.int x)) (st' := st) (h' := h) hy he ?_ (kk _ (jM_stg hl h'))
  unfold si_step
  dsimp only
  show (if si_kd (.int x) 0 = true ∧ (k : Nat) + (Value.int x).category ≤ y.2.2.2.1 then some (pc + 2, if (Value.int x).category = 2 then si_st2 ls k (.int x) else si_st1 ls k (.int x), st, h) else none) = _
  rw [if_pos ⟨rfl, hk⟩]
  all_goals rfl
theorem jn_iincg {k : Nat} {n : Int} {x : Int32} {l : List (Nat × Value)} (hy : si_m mi = some y) (he : si_fetch mi pc = some (.iinc k n, 3, q)) (hk : k < y.2.2.2.1) (L : si_ld k ls = some (.int x)) (hl : jM l ls) (hn : -2147483648 ≤ n ∧ n ≤ 2147483647) (h1 : -2147483648 ≤ x.toInt + n) (h2 : x.toInt + n ≤ 2147483647) (kk : ∀ z : Int32, z.toInt = x.toInt + n → ∀ ls' : si_L, jM ((k, Value.int z) :: l.filter (fun q => !(q.1 == k) && !(q.1 + 1 == k && q.2.category == 2))) ls' → az_X P d mi (pc + 3) ls' st h Q) : az_X P d mi pc ls st h Q := by
  have e : (Int32.ofInt n).toInt = n := nm_ofInt hn.1 hn.2
  refine az_X_step (pc' := pc + 3) (ls' := si_st1 ls k (.int (x + Int32.ofInt n))) (st' := st) (h' := h) hy he ?_ (kk (x + Int32.ofInt n) (by rw [nm_add (by omega) (by omega), e]) _ (jM_stg hl rfl))
  unfold si_step
  dsimp only
  rw [if_pos ⟨rfl, hk⟩, L]
  all_goals rfl
theorem jn_retl {a : Int64} (hy : si_m mi = some y) (he : si_fetch mi pc = some (.lreturn, 1, q)) (hr : y.2.2.2.2.1 = some .long) (k : Q (some (.long a)) h) : az_X P d mi pc ls [.long a] h Q := by
  refine az_X_ret (rv := some (.long a)) hy he ?_ ?_ k
  · unfold si_step
    rfl
  · unfold si_ret
    dsimp only
    rw [if_pos ⟨rfl, hr⟩]
end Jlg
/-! WHAT CAN BE TOLD: how many below a number; those of a block; those with one remainder -/
set_option maxRecDepth 100000
def jct (p : Nat → Bool) : Nat → Int
  | 0 => 0
  | k + 1 => jct p k + (if p k = true then 1 else 0)
theorem jct_s (p : Nat → Bool) (k : Nat) : jct p (k + 1) = jct p k + (if p k = true then 1 else 0) := rfl
theorem jct_bd (p : Nat → Bool) : ∀ n : Nat, 0 ≤ jct p n ∧ jct p n ≤ n
  | 0 => by
    show (0 : Int) ≤ 0 ∧ (0 : Int) ≤ ((0 : Nat) : Int)
    omega
  | n + 1 => by
    have i := jct_bd p n
    rw [jct_s]
    split <;> omega
theorem jct_cg {p q : Nat → Bool} : ∀ {n : Nat}, (∀ j : Nat, j < n → p j = q j) → jct p n = jct q n
  | 0, _ => rfl
  | n + 1, h => by
    rw [jct_s, jct_s, jct_cg (n := n) (fun j hj => h j (by omega)), h n (by omega)]
theorem jct_add (p : Nat → Bool) (n : Nat) : ∀ k : Nat, jct p (n + k) = jct p n + jct (fun j => p (n + j)) k
  | 0 => by
    show jct p n = jct p n + 0
    omega
  | k + 1 => by
    rw [← Nat.add_assoc, jct_s, jct_add p n k, jct_s]
    omega
theorem jct_0 {p : Nat → Bool} : ∀ {n : Nat}, (∀ j : Nat, j < n → p j = false) → jct p n = 0
  | 0, _ => rfl
  | n + 1, h => by
    rw [jct_s, jct_0 (n := n) (fun j hj => h j (by omega)), h n (by omega)]
    rfl
theorem jct_or {p q s : Nat → Bool} : ∀ {n : Nat}, (∀ j : Nat, j < n → (if s j = true then (1 : Int) else 0) = (if p j = true then 1 else 0) + (if q j = true then 1 else 0)) → jct s n = jct p n + jct q n
  | 0, _ => rfl
  | n + 1, h => by
    rw [jct_s, jct_s, jct_s, jct_or (n := n) (fun j hj => h j (by omega)), h n (by omega)]
    omega
theorem jct_pos {p : Nat → Bool} : ∀ {n : Nat}, 0 < jct p n ↔ ∃ j : Nat, j < n ∧ p j = true
  | 0 => ⟨fun h => absurd h (by show ¬ (0 : Int) < 0; omega), fun ⟨j, h, _⟩ => absurd h (by omega)⟩
  | n + 1 => by
    have i := jct_pos (p := p) (n := n)
    have b := jct_bd p n
    rw [jct_s]
    constructor
    · intro h
      by_cases hp : p n = true
      · exact ⟨n, by omega, hp⟩
      · rw [if_neg hp, Int.add_zero] at h
        obtain ⟨j, h1, h2⟩ := i.mp h
        exact ⟨j, by omega, h2⟩
    · rintro ⟨j, h1, h2⟩
      by_cases hj : j = n
      · subst hj
        rw [if_pos h2]
        omega
      · have := i.mpr ⟨j, by omega, h2⟩
        split <;> omega
theorem jct_blk {w : Nat} (hw : 0 < w) (s : Nat) (q : Nat → Bool) : ∀ k : Nat, jct (fun u => decide (u / w = s) && q u) (w * k) = if s < k then jct (fun j => q (w * s + j)) w else 0
  | 0 => by
    rw [if_neg (Nat.not_lt_zero s)]
    rfl
  | k + 1 => by
    have e : ∀ j : Nat, j < w → (w * k + j) / w = k := fun j hj => by rw [Nat.mul_add_div hw, Nat.div_eq_of_lt hj, Nat.add_zero]
    have i := jct_blk hw s q k
    rw [Nat.mul_succ, jct_add, i]
    by_cases hs : s = k
    · subst hs
      rw [if_neg (Nat.lt_irrefl s), if_pos (Nat.lt_succ_self s), Int.zero_add]
      exact jct_cg (fun j hj => by
        show (decide ((w * s + j) / w = s) && q (w * s + j)) = q (w * s + j)
        rw [e j hj, decide_eq_true rfl, Bool.true_and])
    · have z : jct (fun j => decide ((w * k + j) / w = s) && q (w * k + j)) w = 0 := jct_0 (fun j hj => by
        show (decide ((w * k + j) / w = s) && q (w * k + j)) = false
        rw [e j hj, decide_eq_false (fun e => hs e.symm), Bool.false_and])
      rw [z, Int.add_zero]
      by_cases h2 : s < k
      · rw [if_pos h2, if_pos (Nat.lt_succ_of_lt h2)]
      · rw [if_neg h2, if_neg (by omega)]
theorem jdvs {D m : Int} (hm : 1 ≤ m) : (D + 1) / m = D / m + (if (D + 1) % m = 0 then 1 else 0) := by
  have e := Int.mul_ediv_add_emod D m
  have b0 := Int.emod_nonneg D (b := m) (by omega)
  have b1 := Int.emod_lt_of_pos D (b := m) (by omega)
  by_cases c : D % m + 1 = m
  · have u := (Int.ediv_emod_unique (a := D + 1) (b := m) (r := 0) (q := D / m + 1) (by omega)).mpr ⟨by rw [Int.mul_add, Int.mul_one]; omega, by omega, by omega⟩
    rw [u.1, if_pos u.2]
  · have u := (Int.ediv_emod_unique (a := D + 1) (b := m) (r := D % m + 1) (q := D / m) (by omega)).mpr ⟨by omega, by omega, by omega⟩
    rw [u.1, if_neg (by rw [u.2]; omega), Int.add_zero]
theorem jcm_p {m a l : Int} (hm : 1 ≤ m) (hl : 0 ≤ l ∧ l < m) (n : Int) : (a + n) % m = l ↔ (n - (l - a) % m) % m = 0 := by
  have e := Int.mul_ediv_add_emod (l - a) m
  have h1 : (a + n) % m = l ↔ (a + n) % m = l % m := by rw [Int.emod_eq_of_lt hl.1 hl.2]
  rw [h1, Int.emod_eq_emod_iff_emod_sub_eq_zero, show a + n - l = n - (l - a) % m - m * ((l - a) / m) by omega, Int.sub_mul_emod_self_left]
theorem jcm {m a l : Int} (hm : 1 ≤ m) (hl : 0 ≤ l ∧ l < m) : ∀ n : Nat, jct (fun j => decide ((a + (j : Int)) % m = l)) n = (if (l - a) % m < n then 1 + ((n : Int) - 1 - (l - a) % m) / m else 0)
  | 0 => by
    have b0 := Int.emod_nonneg (l - a) (b := m) (by omega)
    rw [if_neg (by omega)]
    rfl
  | n + 1 => by
    have b0 := Int.emod_nonneg (l - a) (b := m) (by omega)
    have b1 := Int.emod_lt_of_pos (l - a) (b := m) (by omega)
    have i := jcm hm hl (a := a) n
    have p := jcm_p hm hl (a := a) (n : Int)
    rw [jct_s, i]
    generalize (l - a) % m = x at *
    rcases Int.lt_trichotomy (n : Int) x with c | c | c
    · have p2 : ¬ ((n : Int) - x) % m = 0 := by
        rw [show ((n : Int) - x) = ((n : Int) - x + m) + m * (-1) by omega, Int.add_mul_emod_self_left, Int.emod_eq_of_lt (by omega) (by omega)]
        omega
      rw [decide_eq_false (fun q => p2 (p.mp q)), if_neg (show ¬ x < (n : Int) by omega), if_neg (show ¬ x < ((n + 1 : Nat) : Int) by omega)]
      rfl
    · have p2 : ((n : Int) - x) % m = 0 := by rw [show ((n : Int) - x) = 0 by omega, Int.zero_emod]
      rw [decide_eq_true (p.mpr p2), if_neg (show ¬ x < (n : Int) by omega), if_pos (show x < ((n + 1 : Nat) : Int) by omega), if_pos rfl, show ((n + 1 : Nat) : Int) - 1 - x = 0 by omega, Int.zero_ediv]
      rfl
    · have v := jdvs (D := (n : Int) - 1 - x) hm
      rw [show (n : Int) - 1 - x + 1 = n - x by omega] at v
      rw [if_pos (show x < (n : Int) by omega), if_pos (show x < ((n + 1 : Nat) : Int) by omega), show ((n + 1 : Nat) : Int) - 1 - x = n - x by omega, v]
      by_cases p2 : ((n : Int) - x) % m = 0
      · rw [if_pos p2, decide_eq_true (p.mpr p2), if_pos rfl]
        omega
      · rw [if_neg p2, decide_eq_false (fun q => p2 (p.mp q)), if_neg (by decide)]
        omega
/-- how many times look so -/
def jam (m r : Int) (y : Nat) (L : Int) : Int := jct (fun t => decide (jlk m r t = L)) y
/-- how many have the short hand at s and the long one at l -/
def jmq (m r s l : Int) : Int := jct (fun j => decide ((s * r + (j : Int)) % m = l)) r.toNat
theorem jmq_eq {m r s l : Int} (hm : 1 ≤ m) (hr : 0 ≤ r) (hs : 0 ≤ s * r) (hl : 0 ≤ l ∧ l < m) : (jlw m r s l < 0 → jmq m r s l = 0) ∧ (0 ≤ jlw m r s l → s * r ≤ jlw m r s l ∧ jlw m r s l < s * r + r ∧ jmq m r s l = 1 + (s * r + r - 1 - jlw m r s l) / m) := by
  have b0 := Int.emod_nonneg (l - s * r) (b := m) (by omega)
  unfold jmq
  rw [jcm hm hl]
  unfold jlw
  by_cases c : s * r + (l - s * r) % m < s * r + r
  · rw [if_pos c, if_pos (by omega)]
    exact ⟨fun h => absurd h (by omega), fun _ => ⟨by omega, c, by rw [show s * r + r - 1 - (s * r + (l - s * r) % m) = (r.toNat : Int) - 1 - (l - s * r) % m by omega]⟩⟩
  · rw [if_neg c, if_neg (by omega)]
    exact ⟨fun _ => rfl, fun h => absurd h (by omega)⟩
theorem jlk_iff {a b s l : Int} (ha : 0 ≤ a ∧ a < 64) (hb : 0 ≤ b ∧ b < 64) (hs : 0 ≤ s ∧ s < 64) (hl : 0 ≤ l ∧ l < 64) : 64 * min a b + max a b = 64 * min l s + max l s ↔ (b = s ∧ a = l) ∨ (b = l ∧ a = s) := by
  omega
theorem jam_at {m r : Int} {y : Nat} (hm : 4 ≤ m ∧ m ≤ 60) (hr : 2 ≤ r ∧ r ≤ 24) (hy : m * r = y) {s l : Int} (hs : 0 ≤ s ∧ s < m) (hl : 0 ≤ l ∧ l < m) : jam m r y (64 * min l s + max l s) = jmq m r s l + (if s = l then 0 else jmq m r l s) := by
  obtain ⟨w, rfl⟩ : ∃ w : Nat, r = w := ⟨r.toNat, by omega⟩
  obtain ⟨k, rfl⟩ : ∃ k : Nat, m = k := ⟨m.toNat, by omega⟩
  obtain ⟨s, rfl⟩ : ∃ x : Nat, s = x := ⟨s.toNat, by omega⟩
  obtain ⟨l, rfl⟩ : ∃ x : Nat, l = x := ⟨l.toNat, by omega⟩
  have ey : y = w * k := by
    have : ((w * k : Nat) : Int) = y := by rw [← hy, Int.natCast_mul, Int.mul_comm]
    omega
  subst ey
  have blk : ∀ (a b : Nat), a < k → jct (fun u => decide (u / w = a) && decide (((u : Nat) : Int) % (k : Int) = (b : Int))) (w * k) = jmq k w a b := by
    intro a b ha
    rw [jct_blk (by omega) a _ k, if_pos ha]
    unfold jmq
    rw [Int.toNat_natCast]
    exact jct_cg (fun j hj => by
      show decide ((((w * a + j : Nat) : Int)) % (k : Int) = (b : Int)) = decide (((a : Int) * (w : Int) + (j : Int)) % (k : Int) = (b : Int))
      rw [Int.natCast_add, Int.natCast_mul, Int.mul_comm])
  have iff : ∀ u : Nat, u < w * k → (jlk k w u = 64 * min (l : Int) s + max (l : Int) s ↔ ((u / w = s ∧ (u : Int) % k = l) ∨ (u / w = l ∧ (u : Int) % k = s))) := by
    intro u hu
    have d := jdm (m := (k : Int)) (r := (w : Int)) (a := (u : Int)) hm hr (by omega) (by rw [hy]; omega)
    unfold jlk
    rw [jlk_iff ⟨d.1.1, by omega⟩ ⟨d.2.1, by omega⟩ ⟨hs.1, by omega⟩ ⟨hl.1, by omega⟩, ← Int.natCast_ediv u w]
    omega
  unfold jam
  by_cases c : (s : Int) = l
  · rw [if_pos c, Int.add_zero, ← blk s l (by omega)]
    refine jct_cg (fun u hu => ?_)
    have i := iff u hu
    show decide (jlk k w u = 64 * min (l : Int) s + max (l : Int) s) = (decide (u / w = s) && decide ((u : Int) % k = l))
    rw [← Bool.decide_and]
    exact decide_eq_decide.mpr (i.trans ⟨fun q => by rcases q with q | q <;> (constructor <;> omega), fun q => Or.inl q⟩)
  · rw [if_neg c, ← blk s l (by omega), ← blk l s (by omega)]
    refine jct_or (fun u hu => ?_)
    have i := iff u hu
    rw [← Bool.decide_and, ← Bool.decide_and]
    by_cases q1 : u / w = s ∧ (u : Int) % k = l
    · rw [decide_eq_true q1, decide_eq_true (i.mpr (Or.inl q1)), decide_eq_false (fun q2 => c (by omega))]
      rfl
    · by_cases q2 : u / w = l ∧ (u : Int) % k = s
      · rw [decide_eq_false q1, decide_eq_true (i.mpr (Or.inr q2)), decide_eq_true q2]
        rfl
      · rw [decide_eq_false q1, decide_eq_false q2, decide_eq_false (fun q => (i.mp q).elim q1 q2)]
        rfl
/-- a time that can be told -/
def jtl (m r : Int) (y : Nat) (t : Int) : Bool := decide (jam m r y (jlk m r t) = 1)
def jb (b : Bool) : Int := if b = true then 1 else 0
theorem cmax2_ok {P : si_P} {d : Nat} {h : si_H} (a b : Int32) : az_X P d 343 0 (lv_args 0 [.int a, .int b]) [] h (fun rv h' => h' = h ∧ jV rv (max a.toInt b.toInt)) := by
  have hl : jM [(0, .int a), (1, .int b)] (lv_args 0 [.int a, .int b]) := jM_args [0, 1] rfl (by decide)
  generalize lv_args 0 [.int a, .int b] = ls at hl
  refine jm_iload_n (x := a) rfl rfl (jM_at hl 0 rfl) ?_
  refine jm_iload_n (x := b) rfl rfl (jM_at hl 1 rfl) ?_
  refine jx_ic (t := 9) rfl rfl rfl (fun hc2 => ?_) (fun hc2 => ?_)
  · have g2 := jc2_lt_t hc2
    refine jm_iload_n (x := b) rfl rfl (jM_at hl 1 rfl) ?_
    refine jx_ret rfl rfl rfl ?_
    exact ⟨rfl, b, rfl, by omega⟩
  · have g2 := jc2_lt_f hc2
    refine jm_iload_n (x := a) rfl rfl (jM_at hl 0 rfl) ?_
    refine az_X_step (pc' := 10) (ls' := ls) (st' := [.int a]) (h' := h) rfl rfl rfl ?_
    refine jx_ret rfl rfl rfl ?_
    exact ⟨rfl, a, rfl, by omega⟩
theorem cmin2_ok {P : si_P} {d : Nat} {h : si_H} (a b : Int32) : az_X P d 344 0 (lv_args 0 [.int a, .int b]) [] h (fun rv h' => h' = h ∧ jV rv (min a.toInt b.toInt)) := by
  have hl : jM [(0, .int a), (1, .int b)] (lv_args 0 [.int a, .int b]) := jM_args [0, 1] rfl (by decide)
  generalize lv_args 0 [.int a, .int b] = ls at hl
  refine jm_iload_n (x := a) rfl rfl (jM_at hl 0 rfl) ?_
  refine jm_iload_n (x := b) rfl rfl (jM_at hl 1 rfl) ?_
  refine jx_ic (t := 9) rfl rfl rfl (fun hc2 => ?_) (fun hc2 => ?_)
  · have g2 := jc2_gt_t hc2
    refine jm_iload_n (x := b) rfl rfl (jM_at hl 1 rfl) ?_
    refine jx_ret rfl rfl rfl ?_
    exact ⟨rfl, b, rfl, by omega⟩
  · have g2 := jc2_gt_f hc2
    refine jm_iload_n (x := a) rfl rfl (jM_at hl 0 rfl) ?_
    refine az_X_step (pc' := 10) (ls' := ls) (st' := [.int a]) (h' := h) rfl rfl rfl ?_
    refine jx_ret rfl rfl rfl ?_
    exact ⟨rfl, a, rfl, by omega⟩
/-! SUMS -/
def jsu (g : Nat → Int) : Nat → Int
  | 0 => 0
  | k + 1 => jsu g k + g k
theorem jsu_s (g : Nat → Int) (k : Nat) : jsu g (k + 1) = jsu g k + g k := rfl
theorem jsu_cg {g f : Nat → Int} : ∀ {n : Nat}, (∀ j : Nat, j < n → g j = f j) → jsu g n = jsu f n
  | 0, _ => rfl
  | n + 1, h => by
    rw [jsu_s, jsu_s, jsu_cg (n := n) (fun j hj => h j (by omega)), h n (by omega)]
theorem jsu_0 : ∀ n : Nat, jsu (fun _ => 0) n = 0
  | 0 => rfl
  | n + 1 => by
    rw [jsu_s, jsu_0 n]
    rfl
theorem jsu_add (g f : Nat → Int) : ∀ n : Nat, jsu (fun j => g j + f j) n = jsu g n + jsu f n
  | 0 => rfl
  | n + 1 => by
    rw [jsu_s, jsu_s, jsu_s, jsu_add g f n]
    omega
theorem jsu_mul (c : Int) (g : Nat → Int) : ∀ n : Nat, jsu (fun j => c * g j) n = c * jsu g n
  | 0 => (Int.mul_zero c).symm
  | n + 1 => by
    rw [jsu_s, jsu_s, jsu_mul c g n, Int.mul_add]
theorem jsu_le {g f : Nat → Int} : ∀ {n : Nat}, (∀ j : Nat, j < n → g j ≤ f j) → jsu g n ≤ jsu f n
  | 0, _ => Int.le_refl _
  | n + 1, h => by
    have i := jsu_le (n := n) (fun j hj => h j (by omega))
    have := h n (by omega)
    rw [jsu_s, jsu_s]
    omega
theorem jsu_nn {g : Nat → Int} {n : Nat} (h : ∀ j : Nat, j < n → 0 ≤ g j) : 0 ≤ jsu g n := by
  have := jsu_le (g := fun _ => 0) (f := g) (n := n) h
  rw [jsu_0] at this
  exact this
theorem jsu_pos {g : Nat → Int} : ∀ {n : Nat}, (∀ j : Nat, j < n → 0 ≤ g j) → (0 < jsu g n ↔ ∃ j : Nat, j < n ∧ 0 < g j)
  | 0, _ => ⟨fun h => absurd h (by show ¬ (0 : Int) < 0; omega), fun ⟨j, h, _⟩ => absurd h (by omega)⟩
  | n + 1, h => by
    have i := jsu_pos (n := n) (fun j hj => h j (by omega))
    have b := jsu_nn (g := g) (n := n) (fun j hj => h j (by omega))
    have c := h n (by omega)
    rw [jsu_s]
    constructor
    · intro q
      rcases (by omega : 0 < g n ∨ 0 < jsu g n) with e | e
      · exact ⟨n, by omega, e⟩
      · obtain ⟨j, j1, j2⟩ := i.mp e
        exact ⟨j, by omega, j2⟩
    · rintro ⟨j, j1, j2⟩
      by_cases e : j = n
      · subst e
        omega
      · have := i.mpr ⟨j, by omega, j2⟩
        omega
theorem jsu_one (g : Nat → Int) (u : Nat) : ∀ n : Nat, jsu (fun t => if t = u then g t else 0) n = if u < n then g u else 0
  | 0 => by
    rw [if_neg (Nat.not_lt_zero u)]
    rfl
  | n + 1 => by
    rw [jsu_s, jsu_one g u n]
    by_cases e : n = u
    · subst e
      rw [if_neg (Nat.lt_irrefl n), if_pos rfl, if_pos (Nat.lt_succ_self n), Int.zero_add]
    · rw [if_neg e, Int.add_zero]
      by_cases c : u < n
      · rw [if_pos c, if_pos (show u < n + 1 by omega)]
      · rw [if_neg c, if_neg (show ¬ u < n + 1 by omega)]
theorem jsu_swap (f : Nat → Nat → Int) (m : Nat) : ∀ n : Nat, jsu (fun a => jsu (fun b => f a b) m) n = jsu (fun b => jsu (fun a => f a b) n) m
  | 0 => (jsu_0 m).symm
  | n + 1 => by
    rw [jsu_s, jsu_swap f m n, ← jsu_add]
    rfl
/-- a list without doubles of just those that are so -/
theorem jsu_list : ∀ {k : Nat} {A : Nat → Bool} {u : Nat → Nat} {y : Nat} (g : Nat → Int), (∀ c : Nat, c < k → u c < y ∧ A (u c) = true) → (∀ c e : Nat, c < e → e < k → u c ≠ u e) → (∀ t : Nat, t < y → A t = true → ∃ c : Nat, c < k ∧ u c = t) → jsu (fun c => g (u c)) k = jsu (fun t => if A t = true then g t else 0) y
  | 0, A, u, y, g, _, _, h3 => by
    have e : jsu (fun t => if A t = true then g t else 0) y = jsu (fun _ => 0) y := jsu_cg (fun t ht => by
      by_cases c : A t = true
      · obtain ⟨j, hj, -⟩ := h3 t ht c
        omega
      · exact if_neg c)
    rw [e, jsu_0]
    rfl
  | k + 1, A, u, y, g, h1, h2, h3 => by
    have i := jsu_list (k := k) (A := fun t => A t && !(decide (t = u k))) (u := u) (y := y) g
      (fun c hc => ⟨(h1 c (by omega)).1, by
        have a := (h1 c (by omega)).2
        have n := h2 c k hc (by omega)
        show (A (u c) && !(decide (u c = u k))) = true
        rw [a, decide_eq_false n]
        rfl⟩)
      (fun c e hce he => h2 c e hce (by omega))
      (fun t ht ha => by
        have a : (A t && !(decide (t = u k))) = true := ha
        rw [Bool.and_eq_true] at a
        obtain ⟨c, c1, c2⟩ := h3 t ht a.1
        refine ⟨c, ?_, c2⟩
        rcases Nat.lt_or_ge c k with q | q
        · exact q
        · exfalso
          have : c = k := by omega
          subst this
          rw [decide_eq_true c2.symm] at a
          exact absurd a.2 (by decide))
    have hk := h1 k (by omega)
    rw [jsu_s, i]
    have e : jsu (fun t => if A t = true then g t else 0) y = jsu (fun t => (if (A t && !(decide (t = u k))) = true then g t else 0) + (if t = u k then g t else 0)) y := jsu_cg (fun t ht => by
      by_cases c : t = u k
      · subst c
        rw [hk.2, decide_eq_true rfl, if_pos rfl, if_pos rfl]
        show g (u k) = 0 + g (u k)
        omega
      · rw [decide_eq_false c, if_neg c]
        show (if A t = true then g t else 0) = (if (A t && true) = true then g t else 0) + 0
        rw [Bool.and_true, Int.add_zero])
    rw [e, jsu_add, jsu_one, if_pos hk.1]
/-! ROWS: those that end so, those that begin so -/
def jff (A S : Nat → Nat → Bool) (y : Nat) : Nat → Nat → Int
  | 0, t => if A 0 t = true then 1 else 0
  | i + 1, t => if A (i + 1) t = true then jsu (fun s => if S s t = true then jff A S y i s else 0) y else 0
def jgg (A S : Nat → Nat → Bool) (y n : Nat) : Nat → Nat → Int
  | 0, t => if A (n - 1) t = true then 1 else 0
  | k + 1, t => if A (n - 1 - (k + 1)) t = true then jsu (fun s => if S t s = true then jgg A S y n k s else 0) y else 0
theorem jff_nn (A S : Nat → Nat → Bool) (y : Nat) : ∀ i t : Nat, 0 ≤ jff A S y i t
  | 0, t => by
    unfold jff
    split <;> omega
  | i + 1, t => by
    unfold jff
    split
    · exact jsu_nn (fun s _ => by
        have := jff_nn A S y i s
        split <;> omega)
    · omega
theorem jgg_nn (A S : Nat → Nat → Bool) (y n : Nat) : ∀ k t : Nat, 0 ≤ jgg A S y n k t
  | 0, t => by
    unfold jgg
    split <;> omega
  | k + 1, t => by
    unfold jgg
    split
    · exact jsu_nn (fun s _ => by
        have := jgg_nn A S y n k s
        split <;> omega)
    · omega
theorem jff_A {A S : Nat → Nat → Bool} {y i t : Nat} (h : ¬ A i t = true) : jff A S y i t = 0 := by
  cases i with
  | zero => exact if_neg h
  | succ i => exact if_neg h
theorem jgg_A {A S : Nat → Nat → Bool} {y n k t : Nat} (h : ¬ A (n - 1 - k) t = true) : jgg A S y n k t = 0 := by
  cases k with
  | zero => exact if_neg h
  | succ k => exact if_neg h
theorem jrows_k {A S : Nat → Nat → Bool} {y n : Nat} : ∀ k : Nat, k + 1 ≤ n → jsu (fun t => jff A S y (n - 1 - k) t * jgg A S y n k t) y = jsu (fun t => jff A S y (n - 1) t) y
  | 0, h => by
    refine jsu_cg (fun t _ => ?_)
    show jff A S y (n - 1) t * (if A (n - 1) t = true then 1 else 0) = jff A S y (n - 1) t
    by_cases c : A (n - 1) t = true
    · rw [if_pos c, Int.mul_one]
    · rw [if_neg c, jff_A c, Int.mul_zero]
  | k + 1, h => by
    rw [← jrows_k k (by omega)]
    have e1 : jsu (fun t => jff A S y (n - 1 - (k + 1)) t * jgg A S y n (k + 1) t) y = jsu (fun t => jsu (fun s => if S t s = true then jff A S y (n - 1 - (k + 1)) t * jgg A S y n k s else 0) y) y := jsu_cg (fun t _ => by
      show jff A S y (n - 1 - (k + 1)) t * (if A (n - 1 - (k + 1)) t = true then jsu (fun s => if S t s = true then jgg A S y n k s else 0) y else 0) = _
      by_cases c : A (n - 1 - (k + 1)) t = true
      · rw [if_pos c, ← jsu_mul]
        exact jsu_cg (fun s _ => by
          by_cases d : S t s = true
          · rw [if_pos d, if_pos d]
          · rw [if_neg d, if_neg d, Int.mul_zero])
      · rw [if_neg c, Int.mul_zero, jff_A c]
        rw [jsu_cg (f := fun _ => 0) (fun s _ => by
          by_cases d : S t s = true
          · rw [if_pos d, Int.zero_mul]
          · rw [if_neg d]), jsu_0])
    rw [e1, jsu_swap]
    refine jsu_cg (fun s _ => ?_)
    have hi : n - 1 - k = (n - 1 - (k + 1)) + 1 := by omega
    by_cases c : A (n - 1 - k) s = true
    · have ef : jff A S y (n - 1 - k) s = jsu (fun t => if S t s = true then jff A S y (n - 1 - (k + 1)) t else 0) y := by
        rw [hi] at c ⊢
        exact if_pos c
      rw [ef, Int.mul_comm, ← jsu_mul]
      refine jsu_cg (fun t _ => ?_)
      by_cases d : S t s = true
      · rw [if_pos d, if_pos d, Int.mul_comm]
      · rw [if_neg d, if_neg d, Int.mul_zero]
    · rw [jgg_A c, Int.mul_zero]
      rw [jsu_cg (f := fun _ => 0) (fun t _ => by
        by_cases d : S t s = true
        · rw [if_pos d, Int.mul_zero]
        · rw [if_neg d]), jsu_0]
/-- as many rows forward as backward -/
theorem jrows {A S : Nat → Nat → Bool} {y n : Nat} (hn : 1 ≤ n) : jsu (fun t => jgg A S y n (n - 1) t) y = jsu (fun t => jff A S y (n - 1) t) y := by
  rw [← jrows_k (n - 1) (by omega)]
  refine jsu_cg (fun t _ => ?_)
  rw [show n - 1 - (n - 1) = 0 by omega]
  show _ = (if A 0 t = true then 1 else 0) * _
  by_cases c : A 0 t = true
  · rw [if_pos c, Int.one_mul]
  · rw [if_neg c, Int.zero_mul]
    exact jgg_A (by rw [show n - 1 - (n - 1) = 0 by omega]; exact c)
/-- at most twelve at a time: no more rows than so -/
def jtw12 : Nat → Int
  | 0 => 1
  | k + 1 => 12 * jtw12 k
theorem jtw_nn : ∀ k : Nat, 0 ≤ jtw12 k
  | 0 => by
    show (0 : Int) ≤ 1
    omega
  | k + 1 => by
    have := jtw_nn k
    show 0 ≤ 12 * jtw12 k
    omega
theorem jff_bd {A S : Nat → Nat → Bool} {y : Nat} (h : ∀ i : Nat, jsu (fun t => if A i t = true then 1 else 0) y ≤ 12) : ∀ i t : Nat, jff A S y i t ≤ jtw12 i
  | 0, t => by
    unfold jff
    show _ ≤ (1 : Int)
    split <;> omega
  | i + 1, t => by
    have b := jtw_nn i
    have le : jsu (fun s => if S s t = true then jff A S y i s else 0) y ≤ jsu (fun s => jtw12 i * (if A i s = true then 1 else 0)) y := jsu_le (fun s _ => by
      have q := jff_bd (S := S) h i s
      have n := jff_nn A S y i s
      by_cases c : A i s = true
      · rw [if_pos c, Int.mul_one]
        split <;> omega
      · rw [if_neg c, Int.mul_zero, jff_A c]
        split <;> omega)
    rw [jsu_mul] at le
    have m := Int.mul_le_mul_of_nonneg_left (h i) b
    unfold jff
    show _ ≤ 12 * jtw12 i
    split
    · omega
    · omega
theorem jgg_bd {A S : Nat → Nat → Bool} {y n : Nat} (h : ∀ i : Nat, jsu (fun t => if A i t = true then 1 else 0) y ≤ 12) : ∀ k t : Nat, jgg A S y n k t ≤ jtw12 k
  | 0, t => by
    unfold jgg
    show _ ≤ (1 : Int)
    split <;> omega
  | k + 1, t => by
    have b := jtw_nn k
    have le : jsu (fun s => if S t s = true then jgg A S y n k s else 0) y ≤ jsu (fun s => jtw12 k * (if A (n - 1 - k) s = true then 1 else 0)) y := jsu_le (fun s _ => by
      have q := jgg_bd (S := S) (n := n) h k s
      have m := jgg_nn A S y n k s
      by_cases c : A (n - 1 - k) s = true
      · rw [if_pos c, Int.mul_one]
        split <;> omega
      · rw [if_neg c, Int.mul_zero, jgg_A c]
        split <;> omega)
    rw [jsu_mul] at le
    have m := Int.mul_le_mul_of_nonneg_left (h (n - 1 - k)) b
    unfold jgg
    show _ ≤ 12 * jtw12 k
    split
    · omega
    · omega
theorem jtw_8 {k : Nat} (h : k ≤ 8) : jtw12 k ≤ 429981696 := by
  rcases (by omega : k = 0 ∨ k = 1 ∨ k = 2 ∨ k = 3 ∨ k = 4 ∨ k = 5 ∨ k = 6 ∨ k = 7 ∨ k = 8) with rfl | rfl | rfl | rfl | rfl | rfl | rfl | rfl | rfl <;> decide
/-- a number of ticks from least to most leads from s to t -/
def jst2 (a b : Int) (y : Nat) (s t : Nat) : Bool := decide (a + ((t : Int) - s - a) % (y : Int) ≤ b)
theorem jst2_iff {a b : Int} {y s t : Nat} (hy : 1 ≤ y) (ht : t < y) (hab : 0 ≤ a) : jst2 a b y s t = true ↔ ∃ k : Int, a ≤ k ∧ k ≤ b ∧ ((s : Int) + k) % (y : Int) = t := by
  unfold jst2
  rw [decide_eq_true_iff]
  have m0 := Int.emod_nonneg ((t : Int) - s - a) (b := (y : Int)) (by omega)
  have m1 := Int.emod_lt_of_pos ((t : Int) - s - a) (b := (y : Int)) (by omega)
  have e := Int.mul_ediv_add_emod ((t : Int) - s - a) (y : Int)
  constructor
  · intro h
    refine ⟨a + ((t : Int) - s - a) % (y : Int), by omega, h, ?_⟩
    rw [show (s : Int) + (a + ((t : Int) - s - a) % (y : Int)) = t - (y : Int) * (((t : Int) - s - a) / (y : Int)) by omega, Int.sub_mul_emod_self_left, Int.emod_eq_of_lt (by omega) (by omega)]
  · rintro ⟨k, k1, k2, k3⟩
    have e2 : ((t : Int) - s - a) % (y : Int) = (k - a) % (y : Int) := by
      have f := Int.mul_ediv_add_emod ((s : Int) + k) (y : Int)
      rw [k3] at f
      rw [show (t : Int) - s - a = (k - a) - (y : Int) * (((s : Int) + k) / (y : Int)) by omega, Int.sub_mul_emod_self_left]
    rw [e2]
    have := nm_eml (a := k - a) (b := (y : Int)) (by omega) (by omega)
    omega
