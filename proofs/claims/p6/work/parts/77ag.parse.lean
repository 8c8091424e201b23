set_option maxRecDepth 100000
/-! locals of which some are known -/
def jM (l : List (Nat × Value)) (ls : si_L) : Prop := ∀ q ∈ l, si_ld q.1 ls = some q.2
theorem jM_at {l : List (Nat × Value)} {ls : si_L} (h : jM l ls) (i : Nat) {k : Nat} {v : Value} (hi : l[i]? = some (k, v)) : si_ld k ls = some v := h (k, v) (List.mem_of_getElem? hi)
theorem jM_args {l : List (Nat × Value)} (ks : List Nat) (he : l.map (fun q => q.1) = ks) (hd : ks.Nodup) : jM l l := by
  subst he
  intro q hq
  induction l with
  | nil => cases hq
  | cons a r ih =>
    unfold si_ld
    rcases List.mem_cons.mp hq with rfl | hq
    · exact if_pos rfl
    · rw [List.map_cons, List.nodup_cons] at hd
      rw [if_neg]
      · exact ih hd.2 hq
      · intro e
        exact hd.1 (e ▸ List.mem_map.mpr ⟨q, hq, rfl⟩)
theorem si_ld_f {k : Nat} {v : Value} {f : Nat × Value → Bool} : ∀ {l : si_L}, (∀ w, (k, w) ∈ l → si_ld k l = some w → f (k, w) = true) → si_ld k l = some v → si_ld k (l.filter f) = some v
  | [], _, h => by cases h
  | q :: r, hf, h => by
    unfold si_ld at h
    split at h
    · rename_i e
      cases h
      have hq : f q = true := by
        have := hf q.2 (by rw [← e]; exact List.mem_cons_self) (by unfold si_ld; rw [if_pos e])
        rw [← e] at this
        exact this
      rw [List.filter_cons, if_pos hq]
      unfold si_ld
      exact if_pos e
    · rename_i e
      have ih := si_ld_f (l := r) (fun w hw hl => hf w (List.mem_cons_of_mem _ hw) (by unfold si_ld; rw [if_neg e]; exact hl)) h
      rw [List.filter_cons]
      split
      · unfold si_ld
        rw [if_neg e]
        exact ih
      · exact ih
theorem jM_st {l l' : List (Nat × Value)} {ls : si_L} {k : Nat} {v : Value} (h : jM l ls) (h' : l' = (k, v) :: l.filter (fun q => !(q.1 == k))) (hc : l.all (fun q => q.2.category == 1) = true) : jM l' (si_st1 ls k v) := by
  subst h'
  intro q hq
  unfold si_st1
  rcases List.mem_cons.mp hq with rfl | hq
  · unfold si_ld
    exact if_pos rfl
  · obtain ⟨h1, h2⟩ := List.mem_filter.mp hq
    have h3 : ¬ q.1 = k := by simpa using h2
    have h4 : q.2.category = 1 := by
      have := List.all_eq_true.mp hc q h1
      simpa using this
    unfold si_ld
    rw [if_neg (fun e => h3 e.symm)]
    refine si_ld_f (fun w hw hl => ?_) (h q h1)
    have h5 : w = q.2 := by
      have := h q h1
      rw [hl] at this
      exact Option.some.inj this
    subst h5
    simp [h3, h4]
section Jm
variable {P : si_P} {d mi pc : Nat} {y : si_M} {ls : si_L} {st : List Value} {h : si_H} {Q : Option Value → si_H → Prop} {q : Nat × Nat × Nat}
theorem jm_iload_n {k : Fin 4} {x : Int32} (hy : si_m mi = some y) (he : si_fetch mi pc = some (.iload_n k, 1, q)) (L : si_ld (k : Nat) ls = some (.int x)) (kk : az_X P d mi (pc + 1) ls (.int x :: st) h Q) : az_X P d mi pc ls st h Q := by
  refine az_X_step (pc' := pc + 1) (ls' := ls) (st' := .int x :: st) (h' := h) hy he ?_ kk
  unfold si_step
  dsimp only
  show (match si_ld (k : Nat) ls with | some v => if si_kd v 0 = true then some (pc + 1, ls, v :: st, h) else none | none => none) = _
  rw [L]
  all_goals rfl
theorem jm_iload {k : Nat} {x : Int32} (hy : si_m mi = some y) (he : si_fetch mi pc = some (.iload k, 2, q)) (L : si_ld k ls = some (.int x)) (kk : az_X P d mi (pc + 2) ls (.int x :: st) h Q) : az_X P d mi pc ls st h Q := by
  refine az_X_step (pc' := pc + 2) (ls' := ls) (st' := .int x :: st) (h' := h) hy he ?_ kk
  unfold si_step
  dsimp only
  show (match si_ld (k : Nat) ls with | some v => if si_kd v 0 = true then some (pc + 2, ls, v :: st, h) else none | none => none) = _
  rw [L]
  all_goals rfl
theorem jm_aload_n {k : Fin 4} {x : Nat} (hy : si_m mi = some y) (he : si_fetch mi pc = some (.aload_n k, 1, q)) (L : si_ld (k : Nat) ls = some (.ref x)) (kk : az_X P d mi (pc + 1) ls (.ref x :: st) h Q) : az_X P d mi pc ls st h Q := by
  refine az_X_step (pc' := pc + 1) (ls' := ls) (st' := .ref x :: st) (h' := h) hy he ?_ kk
  unfold si_step
  dsimp only
  show (match si_ld (k : Nat) ls with | some v => if si_kd v 2 = true then some (pc + 1, ls, v :: st, h) else none | none => none) = _
  rw [L]
  all_goals rfl
theorem jm_istore_n {k : Fin 4} {x : Int32} {l l' : List (Nat × Value)} (hy : si_m mi = some y) (he : si_fetch mi pc = some (.istore_n k, 1, q)) (hk : (k : Nat) + 1 ≤ y.2.2.2.1) (hl : jM l ls) (h' : l' = ((k : Nat), Value.int x) :: l.filter (fun q => !(q.1 == (k : Nat)))) (hc : l.all (fun q => q.2.category == 1) = true) (kk : ∀ ls' : si_L, jM l' ls' → az_X P d mi (pc + 1) ls' st h Q) : az_X P d mi pc ls (.int x :: st) h Q := by
  refine az_X_step (pc' := pc + 1) (ls' := si_st1 ls k (.int x)) (st' := st) (h' := h) hy he ?_ (kk _ (jM_st hl h' hc))
  unfold si_step
  dsimp only
  show (if si_kd (.int x) 0 = true ∧ (k : Nat) + (Value.int x).category ≤ y.2.2.2.1 then some (pc + 1, if (Value.int x).category = 2 then si_st2 ls k (.int x) else si_st1 ls k (.int x), st, h) else none) = _
  rw [if_pos ⟨rfl, hk⟩]
  all_goals rfl
theorem jm_istore {k : Nat} {x : Int32} {l l' : List (Nat × Value)} (hy : si_m mi = some y) (he : si_fetch mi pc = some (.istore k, 2, q)) (hk : k + 1 ≤ y.2.2.2.1) (hl : jM l ls) (h' : l' = (k, Value.int x) :: l.filter (fun q => !(q.1 == k))) (hc : l.all (fun q => q.2.category == 1) = true) (kk : ∀ ls' : si_L, jM l' ls' → az_X P d mi (pc + 2) ls' st h Q) : az_X P d mi pc ls (.int x :: st) h Q := by
  refine az_X_step (pc' := pc + 2) (ls' := si_st1 ls k (.int x)) (st' := st) (h' := h) hy he ?_ (kk _ (jM_st hl h' hc))
  unfold si_step
  dsimp only
  show (if si_kd (.int x) 0 = true ∧ (k : Nat) + (Value.int x).category ≤ y.2.2.2.1 then some (pc + 2, if (Value.int x).category = 2 then si_st2 ls k (.int x) else si_st1 ls k (.int x), st, h) else none) = _
  rw [if_pos ⟨rfl, hk⟩]
  all_goals rfl
theorem jm_iinc {k : Nat} {n : Int} {x x' : Int32} {l l' : List (Nat × Value)} (hy : si_m mi = some y) (he : si_fetch mi pc = some (.iinc k n, 3, q)) (hk : k < y.2.2.2.1) (L : si_ld k ls = some (.int x)) (hx : x + Int32.ofInt n = x') (hl : jM l ls) (h' : l' = (k, Value.int x') :: l.filter (fun q => !(q.1 == k))) (hc : l.all (fun q => q.2.category == 1) = true) (kk : ∀ ls' : si_L, jM l' ls' → az_X P d mi (pc + 3) ls' st h Q) : az_X P d mi pc ls st h Q := by
  subst hx
  refine az_X_step (pc' := pc + 3) (ls' := si_st1 ls k (.int (x + Int32.ofInt n))) (st' := st) (h' := h) hy he ?_ (kk _ (jM_st hl h' hc))
  unfold si_step
  dsimp only
  rw [if_pos ⟨rfl, hk⟩, L]
  all_goals rfl
theorem jx_ial {i n : Nat} {lo hi : Int} {x : Int32} (hy : si_m mi = some y) (he : si_fetch mi pc = some (.iaload, 1, q)) (hxa : P.2.1 < P.1) (hH : az_HI P az_tb h) (hi' : i < az_tb.length) (ht : az_tb[i]? = some (.inr (.int, n, lo, hi))) (h0 : 0 ≤ x.toInt) (h1 : x.toInt < n) (kk : ∀ z : Int32, z.toInt = ja h i x.toInt → lo ≤ z.toInt ∧ z.toInt ≤ hi → az_X P d mi (pc + 1) ls (.int z :: st) h Q) : az_X P d mi pc ls (.int x :: .ref (P.1 + i) :: st) h Q := by
  have hc : x.toNatClampNeg = x.toInt.toNat := rfl
  obtain ⟨hs, hr⟩ := hH.2 i _ ht
  have h3 := hr x.toInt.toNat (by show x.toInt.toNat < n; omega)
  unfold az_aok at h3
  rw [if_neg (fun e => by cases e)] at h3
  obtain ⟨z, hz, hz1, hz2⟩ := h3
  have hin : si_in x n = true := by
    unfold si_in
    rw [Bool.and_eq_true, decide_eq_true_eq, decide_eq_true_eq]
    exact ⟨(nm_leI 0 x).mpr (by have : (0 : Int32).toInt = 0 := by decide
                                omega), by omega⟩
  refine az_X_step (pc' := pc + 1) (ls' := ls) (st' := .int z :: st) (h' := h) hy he ?_ (kk z ?_ ⟨hz1, hz2⟩)
  · unfold si_step
    dsimp only
    rw [if_pos rfl, if_neg (show ¬ (P.1 + i = P.2.1) by omega)]
    unfold si_ald
    rw [jix hH hi']
    dsimp only
    rw [hs]
    dsimp only
    rw [if_pos ⟨hin, List.mem_singleton.mpr rfl⟩, hc, hz]
  · show z.toInt = ji h i x.toInt.toNat
    unfold ji
    rw [hz]
end Jm
theorem jM_pick {l l' : List (Nat × Value)} {ls : si_L} (h : jM l ls) (is : List Nat) (he : is.filterMap (fun i => l[i]?) = l') : jM l' ls := by
  intro q hq
  rw [← he] at hq
  obtain ⟨i, -, hi⟩ := List.mem_filterMap.mp hq
  exact h q (List.mem_of_getElem? hi)
/-! single steps whose results are known by their integers, and steps that write -/
section Jn
variable {P : si_P} {d mi pc : Nat} {y : si_M} {ls : si_L} {st : List Value} {h : si_H} {Q : Option Value → si_H → Prop} {q : Nat × Nat × Nat}
theorem jn_add {a b : Int32} (hy : si_m mi = some y) (he : si_fetch mi pc = some (.iadd, 1, q)) (h1 : -2147483648 ≤ a.toInt + b.toInt) (h2 : a.toInt + b.toInt ≤ 2147483647) (kk : ∀ z : Int32, z.toInt = a.toInt + b.toInt → az_X P d mi (pc + 1) ls (.int z :: st) h Q) : az_X P d mi pc ls (.int b :: .int a :: st) h Q := az_X_step (pc' := pc + 1) (ls' := ls) (st' := .int (a + b) :: st) (h' := h) hy he rfl (kk _ (nm_add h1 h2))
theorem jn_sub {a b : Int32} (hy : si_m mi = some y) (he : si_fetch mi pc = some (.isub, 1, q)) (h1 : -2147483648 ≤ a.toInt - b.toInt) (h2 : a.toInt - b.toInt ≤ 2147483647) (kk : ∀ z : Int32, z.toInt = a.toInt - b.toInt → az_X P d mi (pc + 1) ls (.int z :: st) h Q) : az_X P d mi pc ls (.int b :: .int a :: st) h Q := az_X_step (pc' := pc + 1) (ls' := ls) (st' := .int (a - b) :: st) (h' := h) hy he rfl (kk _ (nm_sub h1 h2))
theorem jn_mul {a b : Int32} (hy : si_m mi = some y) (he : si_fetch mi pc = some (.imul, 1, q)) (h1 : -2147483648 ≤ a.toInt * b.toInt) (h2 : a.toInt * b.toInt ≤ 2147483647) (kk : ∀ z : Int32, z.toInt = a.toInt * b.toInt → az_X P d mi (pc + 1) ls (.int z :: st) h Q) : az_X P d mi pc ls (.int b :: .int a :: st) h Q := az_X_step (pc' := pc + 1) (ls' := ls) (st' := .int (a * b) :: st) (h' := h) hy he rfl (kk _ (nm_mul h1 h2))
theorem jn_neg {a : Int32} (hy : si_m mi = some y) (he : si_fetch mi pc = some (.ineg, 1, q)) (h1 : -2147483648 ≤ -a.toInt) (h2 : -a.toInt ≤ 2147483647) (kk : ∀ z : Int32, z.toInt = -a.toInt → az_X P d mi (pc + 1) ls (.int z :: st) h Q) : az_X P d mi pc ls (.int a :: st) h Q := az_X_step (pc' := pc + 1) (ls' := ls) (st' := .int (-a) :: st) (h' := h) hy he rfl (kk _ (nm_neg h1 h2))
theorem jn_nz {b : Int32} (hb : 1 ≤ b.toInt) : b ≠ 0 := fun e => by
  subst e
  have : (0 : Int32).toInt = 0 := by decide
  omega
theorem jn_div {a b : Int32} (hy : si_m mi = some y) (he : si_fetch mi pc = some (.idiv, 1, q)) (ha : 0 ≤ a.toInt) (hb : 1 ≤ b.toInt) (kk : ∀ z : Int32, z.toInt = a.toInt / b.toInt → az_X P d mi (pc + 1) ls (.int z :: st) h Q) : az_X P d mi pc ls (.int b :: .int a :: st) h Q := jx_div hy he (jn_nz hb) (kk _ (by rw [nm_div hb, nm_tdiv_nn ha]))
theorem jn_rem {a b : Int32} (hy : si_m mi = some y) (he : si_fetch mi pc = some (.irem, 1, q)) (ha : 0 ≤ a.toInt) (hb : 1 ≤ b.toInt) (kk : ∀ z : Int32, z.toInt = a.toInt % b.toInt → 0 ≤ z.toInt → z.toInt < b.toInt → az_X P d mi (pc + 1) ls (.int z :: st) h Q) : az_X P d mi pc ls (.int b :: .int a :: st) h Q := by
  have e : (a - a / b * b).toInt = a.toInt % b.toInt := by rw [nm_rem hb, Int.tmod_eq_emod_of_nonneg ha]
  have e1 := Int.emod_nonneg a.toInt (b := b.toInt) (by omega)
  have e2 := Int.emod_lt_of_pos a.toInt (b := b.toInt) (by omega)
  exact jx_rem hy he (jn_nz hb) (kk _ e (by omega) (by omega))
theorem jn_icd {k : ClassFile.Cond} {off : Int} {t : Nat} {a b : Int32} {c : Bool} (hy : si_m mi = some y) (he : si_fetch mi pc = some (.if_icmp k off, 3, q)) (ht : si_tgt pc off = some t) (hc : si_c2 k a b = c) (kk : az_X P d mi (if c = true then t else pc + 3) ls st h Q) : az_X P d mi pc ls (.int b :: .int a :: st) h Q := by
  refine jx_ic hy he ht (fun e => ?_) (fun e => ?_)
  · rw [hc] at e
    subst e
    exact kk
  · rw [hc] at e
    subst e
    exact kk
theorem jn_ifd {k : ClassFile.Cond} {off : Int} {t : Nat} {a : Int32} {c : Bool} (hy : si_m mi = some y) (he : si_fetch mi pc = some (.ifCond k off, 3, q)) (ht : si_tgt pc off = some t) (hc : si_c1 k a = c) (kk : az_X P d mi (if c = true then t else pc + 3) ls st h Q) : az_X P d mi pc ls (.int a :: st) h Q := by
  refine jx_if hy he ht (fun e => ?_) (fun e => ?_)
  · rw [hc] at e
    subst e
    exact kk
  · rw [hc] at e
    subst e
    exact kk
theorem jn_iinc {k : Nat} {n : Int} {x : Int32} {l : List (Nat × Value)} (hy : si_m mi = some y) (he : si_fetch mi pc = some (.iinc k n, 3, q)) (hk : k < y.2.2.2.1) (L : si_ld k ls = some (.int x)) (hl : jM l ls) (hc : l.all (fun q => q.2.category == 1) = true) (hn : -2147483648 ≤ n ∧ n ≤ 2147483647) (h1 : -2147483648 ≤ x.toInt + n) (h2 : x.toInt + n ≤ 2147483647) (kk : ∀ z : Int32, z.toInt = x.toInt + n → ∀ ls' : si_L, jM ((k, Value.int z) :: l.filter (fun q => !(q.1 == k))) ls' → az_X P d mi (pc + 3) ls' st h Q) : az_X P d mi pc ls st h Q := by
  have e : (Int32.ofInt n).toInt = n := nm_ofInt hn.1 hn.2
  exact jm_iinc hy he hk L rfl hl rfl hc (kk _ (by rw [nm_add (by omega) (by omega), e]))
theorem jm_aload {k : Nat} {x : Nat} (hy : si_m mi = some y) (he : si_fetch mi pc = some (.aload k, 2, q)) (L : si_ld k ls = some (.ref x)) (kk : az_X P d mi (pc + 2) ls (.ref x :: st) h Q) : az_X P d mi pc ls st h Q := by
  refine az_X_step (pc' := pc + 2) (ls' := ls) (st' := .ref x :: st) (h' := h) hy he ?_ kk
  unfold si_step
  dsimp only
  show (match si_ld (k : Nat) ls with | some v => if si_kd v 2 = true then some (pc + 2, ls, v :: st, h) else none | none => none) = _
  rw [L]
  all_goals rfl
theorem jn_gf {i k ci n idx q' : Nat} {b : Int × Int} (hy : si_m mi = some y) (he : si_fetch mi pc = some (.getfield idx, 3, ci, k, q')) (hH : az_HI P az_tb h) (hi : i < az_tb.length) (hs : h.2.1 i = .inl (ci, n)) (hn : ((si_cl[ci]?).map (fun q => q.2.2)).getD 0 = n) (ht : jt i k = some b) (kk : ∀ z : Int32, z.toInt = ja h i k → b.1 ≤ z.toInt ∧ z.toInt ≤ b.2 → az_X P d mi (pc + 3) ls (.int z :: st) h Q) : az_X P d mi pc ls (.ref (P.1 + i) :: st) h Q := by
  obtain ⟨⟨z, hz, ez⟩, b1, b2⟩ := jt_ok hH ht
  exact jx_gf hy he hH hi hs hn hz (kk z ez ⟨ez ▸ b1, ez ▸ b2⟩)
theorem jn_pf {i k ci n idx q' c : Nat} {l : List az_Q} {lo hi : Int} {x : Int32} (hy : si_m mi = some y) (he : si_fetch mi pc = some (.putfield idx, 3, ci, k, q')) (hH : az_HI P az_tb h) (hi' : i < az_tb.length) (hb : az_tb[i]? = some (.inl (ci, l))) (hs : h.2.1 i = .inl (ci, n)) (hn : ((si_cl[ci]?).map (fun q => q.2.2)).getD 0 = n) (hq : l[k]? = some (.inl (c, lo, hi))) (hty : si_fty ci k = .int) (hfin : si_fin ci k = false) (h1 : lo ≤ x.toInt) (h2 : x.toInt ≤ hi) (kk : ∀ h' : si_H, az_HI P az_tb h' → az_same_out [(i, k)] h h' → ja h' i k = x.toInt → az_X P d mi (pc + 3) ls st h' Q) : az_X P d mi pc ls (.int x :: .ref (P.1 + i) :: st) h Q := by
  refine az_X_step (pc' := pc + 3) (ls' := ls) (st' := st) (h' := (h.1, h.2.1, si_set h.2.2 i k (.int x))) hy he ?_ (kk _ (az_HI_set hH hb (fun q2 hq2 => ?_)) (az_out_set (by unfold az_in; rw [Bool.or_eq_true]; exact Or.inl (by simp))) ?_)
  · unfold si_step
    dsimp only
    rw [if_pos rfl, jix hH hi']
    dsimp only
    rw [if_pos ⟨by rw [hs, hn], by rw [hty]; exact vp_nar_int x, by rw [hty]; rfl, Or.inl hfin⟩]
  · cases hq.symm.trans hq2
    exact ⟨x, rfl, h1, h2⟩
  · show ji (h.1, h.2.1, si_set h.2.2 i k (.int x)) i k = x.toInt
    unfold ji si_set
    dsimp only
    rw [if_pos rfl, if_pos rfl]
theorem jn_in {x : Int32} {n : Nat} (h0 : 0 ≤ x.toInt) (h1 : x.toInt < n) : si_in x n = true := by
  have hc : x.toNatClampNeg = x.toInt.toNat := rfl
  unfold si_in
  rw [Bool.and_eq_true, decide_eq_true_eq, decide_eq_true_eq]
  exact ⟨(nm_leI 0 x).mpr (by have : (0 : Int32).toInt = 0 := by decide
                              omega), by omega⟩
theorem jn_set {i : Nat} {x : Int} {v : Int32} (h0 : 0 ≤ x) : ja (h.1, h.2.1, si_set h.2.2 i x.toNat (.int v)) i x = v.toInt ∧ ∀ j : Int, 0 ≤ j → j ≠ x → ja (h.1, h.2.1, si_set h.2.2 i x.toNat (.int v)) i j = ja h i j := by
  constructor
  · show ji (h.1, h.2.1, si_set h.2.2 i x.toNat (.int v)) i x.toNat = v.toInt
    unfold ji si_set
    dsimp only
    rw [if_pos rfl, if_pos rfl]
  · intro j hj hn
    show ji (h.1, h.2.1, si_set h.2.2 i x.toNat (.int v)) i j.toNat = ji h i j.toNat
    unfold ji si_set
    dsimp only
    rw [if_pos rfl, if_neg (by omega)]
theorem jn_ias {i n : Nat} {lo hi : Int} {x v : Int32} (hy : si_m mi = some y) (he : si_fetch mi pc = some (.iastore, 1, q)) (hH : az_HI P az_tb h) (hi' : i < az_tb.length) (ht : az_tb[i]? = some (.inr (.int, n, lo, hi))) (h0 : 0 ≤ x.toInt) (h1 : x.toInt < n) (v1 : lo ≤ v.toInt) (v2 : v.toInt ≤ hi) (kk : ∀ h' : si_H, az_HI P az_tb h' → az_same_out [(i, 1000000)] h h' → ja h' i x.toInt = v.toInt → (∀ j : Int, 0 ≤ j → j ≠ x.toInt → ja h' i j = ja h i j) → az_X P d mi (pc + 1) ls st h' Q) : az_X P d mi pc ls (.int v :: .int x :: .ref (P.1 + i) :: st) h Q := by
  have hc : x.toNatClampNeg = x.toInt.toNat := rfl
  refine az_X_step (pc' := pc + 1) (ls' := ls) (st' := st) (h' := (h.1, h.2.1, si_set h.2.2 i x.toInt.toNat (.int v))) hy he ?_ (kk _ (az_HI_set hH ht (fun _ => ?_)) (az_out_set (by unfold az_in; rw [Bool.or_eq_true]; exact Or.inr (by simp))) (jn_set h0).1 (jn_set h0).2)
  · unfold si_step
    dsimp only
    rw [if_pos rfl]
    unfold si_ast
    rw [jix hH hi']
    dsimp only
    rw [(hH.2 i _ ht).1]
    dsimp only
    rw [if_pos ⟨jn_in h0 h1, List.mem_singleton.mpr rfl⟩, hc]
    all_goals rfl
  · unfold az_aok
    rw [if_neg (fun e => by cases e)]
    exact ⟨v, rfl, v1, v2⟩
theorem jn_bas {i n : Nat} {lo hi : Int} {x v : Int32} (hy : si_m mi = some y) (he : si_fetch mi pc = some (.bastore, 1, q)) (hH : az_HI P az_tb h) (hi' : i < az_tb.length) (ht : az_tb[i]? = some (.inr (.byte, n, lo, hi))) (h0 : 0 ≤ x.toInt) (h1 : x.toInt < n) (v1 : lo ≤ -128) (v2 : 127 ≤ hi) (kk : ∀ h' : si_H, az_HI P az_tb h' → az_same_out [(i, 1000000)] h h' → ja h' i x.toInt = v.toInt8.toInt32.toInt → (∀ j : Int, 0 ≤ j → j ≠ x.toInt → ja h' i j = ja h i j) → az_X P d mi (pc + 1) ls st h' Q) : az_X P d mi pc ls (.int v :: .int x :: .ref (P.1 + i) :: st) h Q := by
  have hc : x.toNatClampNeg = x.toInt.toNat := rfl
  refine az_X_step (pc' := pc + 1) (ls' := ls) (st' := st) (h' := (h.1, h.2.1, si_set h.2.2 i x.toInt.toNat (.int v.toInt8.toInt32))) hy he ?_ (kk _ (az_HI_set hH ht (fun _ => ?_)) (az_out_set (by unfold az_in; rw [Bool.or_eq_true]; exact Or.inr (by simp))) (jn_set h0).1 (jn_set h0).2)
  · unfold si_step
    dsimp only
    rw [if_pos rfl]
    unfold si_ast
    rw [jix hH hi']
    dsimp only
    rw [(hH.2 i _ ht).1]
    dsimp only
    rw [if_pos ⟨jn_in h0 h1, by decide⟩, hc]
    all_goals rfl
  · unfold az_aok
    rw [if_neg (fun e => by cases e)]
    have := nm_i2b v
    exact ⟨v.toInt8.toInt32, rfl, by show lo ≤ _; omega, by show _ ≤ hi; omega⟩
theorem jn_bal {i n : Nat} {lo hi : Int} {x : Int32} (hy : si_m mi = some y) (he : si_fetch mi pc = some (.baload, 1, q)) (hH : az_HI P az_tb h) (hi' : i < az_tb.length) (ht : az_tb[i]? = some (.inr (.byte, n, lo, hi))) (h0 : 0 ≤ x.toInt) (h1 : x.toInt < n) (kk : ∀ z : Int32, z.toInt = ja h i x.toInt → lo ≤ z.toInt ∧ z.toInt ≤ hi → az_X P d mi (pc + 1) ls (.int z :: st) h Q) : az_X P d mi pc ls (.int x :: .ref (P.1 + i) :: st) h Q := by
  have hc : x.toNatClampNeg = x.toInt.toNat := rfl
  obtain ⟨hs, hr⟩ := hH.2 i _ ht
  have h3 := hr x.toInt.toNat (by show x.toInt.toNat < n; omega)
  unfold az_aok at h3
  rw [if_neg (fun e => by cases e)] at h3
  obtain ⟨z, hz, hz1, hz2⟩ := h3
  refine az_X_step (pc' := pc + 1) (ls' := ls) (st' := .int z :: st) (h' := h) hy he ?_ (kk z ?_ ⟨hz1, hz2⟩)
  · unfold si_step
    dsimp only
    rw [if_pos rfl]
    unfold si_ald
    rw [jix hH hi']
    dsimp only
    rw [hs]
    dsimp only
    rw [if_pos ⟨jn_in h0 h1, by decide⟩, hc, hz]
  · show z.toInt = ji h i x.toInt.toNat
    unfold ji
    rw [hz]
theorem jn_len {i n : Nat} {ty : FieldType} {lo hi : Int} {x : Int32} (hy : si_m mi = some y) (he : si_fetch mi pc = some (.arraylength, 1, q)) (hxa : P.2.1 < P.1) (hH : az_HI P az_tb h) (hi' : i < az_tb.length) (ht : az_tb[i]? = some (.inr (ty, n, lo, hi))) (hx : Int32.ofNat n = x) (kk : az_X P d mi (pc + 1) ls (.int x :: st) h Q) : az_X P d mi pc ls (.ref (P.1 + i) :: st) h Q := by
  subst hx
  refine az_X_step (pc' := pc + 1) (ls' := ls) (st' := .int (Int32.ofNat n) :: st) (h' := h) hy he ?_ kk
  unfold si_step
  dsimp only
  rw [if_pos rfl, if_neg (show ¬ (P.1 + i = P.2.1) by omega), jix hH hi']
  dsimp only
  rw [(hH.2 i _ ht).1]
theorem jn_retv (hy : si_m mi = some y) (he : si_fetch mi pc = some (.return_, 1, q)) (hr : y.2.2.2.2.1 = none) (k : Q none h) : az_X P d mi pc ls [] h Q := by
  refine az_X_ret (rv := none) hy he ?_ ?_ k
  · unfold si_step
    rfl
  · unfold si_ret
    dsimp only
    rw [if_pos ⟨rfl, hr⟩]
end Jn
theorem az_X.and {P : si_P} {d mi pc : Nat} {ls : si_L} {st : List Value} {h : si_H} {Q R : Option Value → si_H → Prop} (h1 : az_X P d mi pc ls st h Q) (h2 : az_X P d mi pc ls st h R) : az_X P d mi pc ls st h (fun rv h' => Q rv h' ∧ R rv h') := by
  obtain ⟨n, rv, h', e, q⟩ := h1
  obtain ⟨k, rv2, h2', e2, q2⟩ := h2
  have a1 := si_run_le (k := n + k) (by omega) e
  have a2 := si_run_le (k := n + k) (by omega) e2
  rw [a1] at a2
  cases a2
  exact ⟨n + k, rv, h', a1, q, q2⟩
/-! rows of booleans -/
section Jnb
variable {P : si_P} {d mi pc : Nat} {y : si_M} {ls : si_L} {st : List Value} {h : si_H} {Q : Option Value → si_H → Prop} {q : Nat × Nat × Nat}
theorem jn_balz {i n : Nat} {lo hi : Int} {x : Int32} (hy : si_m mi = some y) (he : si_fetch mi pc = some (.baload, 1, q)) (hH : az_HI P az_tb h) (hi' : i < az_tb.length) (ht : az_tb[i]? = some (.inr (.boolean, n, lo, hi))) (h0 : 0 ≤ x.toInt) (h1 : x.toInt < n) (kk : ∀ z : Int32, z.toInt = ja h i x.toInt → lo ≤ z.toInt ∧ z.toInt ≤ hi → az_X P d mi (pc + 1) ls (.int z :: st) h Q) : az_X P d mi pc ls (.int x :: .ref (P.1 + i) :: st) h Q := by
  have hc : x.toNatClampNeg = x.toInt.toNat := rfl
  obtain ⟨hs, hr⟩ := hH.2 i _ ht
  have h3 := hr x.toInt.toNat (by show x.toInt.toNat < n; omega)
  unfold az_aok at h3
  rw [if_neg (fun e => by cases e)] at h3
  obtain ⟨z, hz, hz1, hz2⟩ := h3
  refine az_X_step (pc' := pc + 1) (ls' := ls) (st' := .int z :: st) (h' := h) hy he ?_ (kk z ?_ ⟨hz1, hz2⟩)
  · unfold si_step
    dsimp only
    rw [if_pos rfl]
    unfold si_ald
    rw [jix hH hi']
    dsimp only
    rw [hs]
    dsimp only
    rw [if_pos ⟨jn_in h0 h1, by decide⟩, hc, hz]
  · show z.toInt = ji h i x.toInt.toNat
    unfold ji
    rw [hz]
theorem jn_basz {i n : Nat} {lo hi : Int} {x v : Int32} (hy : si_m mi = some y) (he : si_fetch mi pc = some (.bastore, 1, q)) (hH : az_HI P az_tb h) (hi' : i < az_tb.length) (ht : az_tb[i]? = some (.inr (.boolean, n, lo, hi))) (h0 : 0 ≤ x.toInt) (h1 : x.toInt < n) (hv : v.toInt = 0 ∨ v.toInt = 1) (v1 : lo ≤ v.toInt) (v2 : v.toInt ≤ hi) (kk : ∀ h' : si_H, az_HI P az_tb h' → az_same_out [(i, 1000000)] h h' → ja h' i x.toInt = v.toInt → (∀ j : Int, 0 ≤ j → j ≠ x.toInt → ja h' i j = ja h i j) → az_X P d mi (pc + 1) ls st h' Q) : az_X P d mi pc ls (.int v :: .int x :: .ref (P.1 + i) :: st) h Q := by
  have hc : x.toNatClampNeg = x.toInt.toNat := rfl
  have hn : si_nar .boolean (.int v) = .int v := jbz hv
  refine az_X_step (pc' := pc + 1) (ls' := ls) (st' := st) (h' := (h.1, h.2.1, si_set h.2.2 i x.toInt.toNat (.int v))) hy he ?_ (kk _ (az_HI_set hH ht (fun _ => ?_)) (az_out_set (by unfold az_in; rw [Bool.or_eq_true]; exact Or.inr (by simp))) (jn_set h0).1 (jn_set h0).2)
  · unfold si_step
    dsimp only
    rw [if_pos rfl]
    unfold si_ast
    rw [jix hH hi']
    dsimp only
    rw [(hH.2 i _ ht).1]
    dsimp only
    rw [if_pos ⟨jn_in h0 h1, by decide⟩, hc, hn]
  · unfold az_aok
    rw [if_neg (fun e => by cases e)]
    exact ⟨v, rfl, v1, v2⟩
end Jnb
/-! READING: signs, amounts -/
set_option maxRecDepth 100000
def jdg (hh : Int → Int) (p : Int) : Prop := 48 ≤ hh p ∧ hh p ≤ 57
def jva (hh : Int → Int) (p : Int) : Nat → Int
  | 0 => 0
  | k + 1 => 10 * jva hh p k + hh (p + k) - 48
theorem jva_s (hh : Int → Int) (p : Int) (k : Nat) : jva hh p (k + 1) = 10 * jva hh p k + hh (p + k) - 48 := rfl
def jnin : Nat → Int
  | 0 => 0
  | k + 1 => 10 * jnin k + 9
theorem jva_bd {hh : Int → Int} {p : Int} : ∀ k : Nat, (∀ i : Nat, i < k → jdg hh (p + i)) → 0 ≤ jva hh p k ∧ jva hh p k ≤ jnin k
  | 0, _ => ⟨Int.le_refl _, Int.le_refl _⟩
  | k + 1, h => by
    have i := jva_bd (hh := hh) (p := p) k (fun i hi => h i (by omega))
    have c : 48 ≤ hh (p + k) ∧ hh (p + k) ≤ 57 := h k (by omega)
    rw [jva_s]
    show 0 ≤ 10 * jva hh p k + hh (p + k) - 48 ∧ 10 * jva hh p k + hh (p + k) - 48 ≤ 10 * jnin k + 9
    omega
theorem jnin_bd {k : Nat} : (k ≤ 5 → jnin k ≤ 99999) ∧ (k ≤ 4 → jnin k ≤ 9999) ∧ (k ≤ 2 → jnin k ≤ 99) := by
  refine ⟨fun h => ?_, fun h => ?_, fun h => ?_⟩
  · rcases (by omega : k = 0 ∨ k = 1 ∨ k = 2 ∨ k = 3 ∨ k = 4 ∨ k = 5) with rfl | rfl | rfl | rfl | rfl | rfl <;> decide
  · rcases (by omega : k = 0 ∨ k = 1 ∨ k = 2 ∨ k = 3 ∨ k = 4) with rfl | rfl | rfl | rfl | rfl <;> decide
  · rcases (by omega : k = 0 ∨ k = 1 ∨ k = 2) with rfl | rfl | rfl <;> decide
/-- an amount of at most so many digits: the fault (0: none), the place behind it, its value -/
def jAN (hh : Int → Int) (p : Int) (D : Nat) (f q v : Int) : Prop := (¬ jdg hh p ∧ f = -1000 - p) ∨ (∃ k : Nat, 1 ≤ k ∧ k ≤ D ∧ (∀ i : Nat, i < k → jdg hh (p + i)) ∧ ¬ jdg hh (p + k) ∧ f = 0 ∧ q = p + k ∧ v = jva hh p k) ∨ ((∀ i : Nat, i ≤ D → jdg hh (p + i)) ∧ f = -2000 - (p + D))
theorem jAN_un {hh : Int → Int} {p : Int} {D : Nat} {f q v f' q' v' : Int} (hp : 0 ≤ p) (h1 : jAN hh p D f q v) (h2 : jAN hh p D f' q' v') : f = f' ∧ (f = 0 → q = q' ∧ v = v') := by
  have z : ∀ {k : Nat}, (∀ i : Nat, i < k → jdg hh (p + i)) → 1 ≤ k → jdg hh p := fun hd hk => by
    have := hd 0 (by omega)
    rw [show p + ((0 : Nat) : Int) = p by omega] at this
    exact this
  rcases h1 with ⟨a1, a2⟩ | ⟨k, a1, a2, a3, a4, a5, a6, a7⟩ | ⟨a1, a2⟩ <;> rcases h2 with ⟨b1, b2⟩ | ⟨l, b1, b2, b3, b4, b5, b6, b7⟩ | ⟨b1, b2⟩
  · exact ⟨by omega, fun e => absurd e (by omega)⟩
  · exact absurd (z b3 b1) a1
  · exact absurd (z (k := 1) (fun i hi => b1 i (by omega)) (by omega)) a1
  · exact absurd (z a3 a1) b1
  · rcases Nat.lt_trichotomy k l with c | c | c
    · exact absurd (b3 k c) a4
    · subst c
      exact ⟨by omega, fun _ => ⟨by omega, by rw [a7, b7]⟩⟩
    · exact absurd (a3 l c) b4
  · exact absurd (b1 k a2) a4
  · exact absurd (z (k := 1) (fun i hi => a1 i (by omega)) (by omega)) b1
  · exact absurd (a1 l b2) b4
  · exact ⟨by omega, fun e => absurd e (by omega)⟩
theorem jAN_v {hh : Int → Int} {p : Int} {D : Nat} {q v : Int} (hD : D ≤ 4) (hp : 0 ≤ p) (h : jAN hh p D 0 q v) : 0 ≤ v ∧ v ≤ 9999 ∧ (D ≤ 2 → v ≤ 99) ∧ p < q ∧ (∀ i : Int, p ≤ i → i < q → jdg hh i) := by
  rcases h with ⟨a1, a2⟩ | ⟨k, a1, a2, a3, a4, a5, a6, a7⟩ | ⟨a1, a2⟩
  · omega
  · have b := jva_bd k a3
    have c := jnin_bd (k := k)
    refine ⟨by omega, by have := c.2.1 (by omega); omega, fun h2 => by have := c.2.2 (by omega); omega, by omega, fun i i1 i2 => ?_⟩
    have := a3 (i - p).toNat (by omega)
    rw [show p + ((i - p).toNat : Int) = i by omega] at this
    exact this
  · omega
/-- the signs that the reader sees -/
def jBY (h : si_H) (n : Int) (hh : Int → Int) : Prop := (∀ p : Int, 0 ≤ p → p < n → ja h 13 p = hh p) ∧ (∀ p : Int, n ≤ p → hh p = -1)
theorem jBY_so {h h' : si_H} {n : Int} {hh : Int → Int} {md : List (Nat × Nat)} (hs : az_same_out md h h') (hm : md.all (fun x => decide (x.1 ≠ 13)) = true) (b : jBY h n hh) : jBY h' n hh := ⟨fun p p0 p1 => by rw [jso_row hs hm]; exact b.1 p p0 p1, b.2⟩
theorem jBY_lt {h : si_H} {n p : Int} {hh : Int → Int} (b : jBY h n hh) (hp : hh p ≠ -1) : p < n := by
  rcases Int.lt_or_le p n with c | c
  · exact c
  · exact absurd (b.2 p c) hp
theorem nx_ok {P : si_P} (hxa : P.2.1 < P.1) {d : Nat} {h : si_H} (hH : az_HI P az_tb h) {n p F : Int} {hh : Int → Int} (hn : 1 ≤ n ∧ n ≤ 240) (e1 : ja h 14 1 = n) (e2 : ja h 14 2 = p) (e3 : ja h 14 3 = F) (hb : jBY h n hh) : az_X P d 121 0 (lv_args 0 [.ref (P.1 + 14)]) [] h (fun rv h' => h' = h ∧ jV rv (if F = 0 then hh p else -1)) := by
  have bp : 0 ≤ ja h 14 2 ∧ ja h 14 2 ≤ 241 := ja_bd hH (i := 14) (k := 2) rfl
  have bF : -7000 ≤ ja h 14 3 ∧ ja h 14 3 ≤ 0 := ja_bd hH (i := 14) (k := 3) rfl
  have hl : jM [(0, .ref (P.1 + 14))] (lv_args 0 [.ref (P.1 + 14)]) := jM_args [0] rfl (by decide)
  generalize lv_args 0 [.ref (P.1 + 14)] = ls at hl
  have km1 : ((-1) : Int32).toInt = (-1) := by decide
  have k0 : (0 : Int32).toInt = 0 := by decide
  have k260 : (260 : Int32).toInt = 260 := by decide
  refine jm_aload_n (x := P.1 + 14) rfl rfl (jM_at hl 0 rfl) ?_
  refine jn_gf (i := 14) (k := 3) rfl rfl hH (by decide) (hH.2 14 _ rfl).1 rfl rfl (fun z1 (ez1 : z1.toInt = ja h 14 3) (bz1 : (-7000) ≤ z1.toInt ∧ z1.toInt ≤ 0) => ?_)
  refine jx_if (t := 43) rfl rfl rfl (fun hc4 => ?_) (fun hc4 => ?_)
  · have g4 := jc1_ne_t hc4
    refine az_X_step (pc' := 44) (ls' := ls) (st' := [.int (-1)]) (h' := h) rfl rfl rfl ?_
    refine jx_ret rfl rfl rfl ?_
    exact ⟨rfl, (-1), rfl, by rw [if_neg (by omega)]; decide⟩
  · have g4 := jc1_ne_f hc4
    refine jm_aload_n (x := P.1 + 14) rfl rfl (jM_at hl 0 rfl) ?_
    refine jn_gf (i := 14) (k := 2) rfl rfl hH (by decide) (hH.2 14 _ rfl).1 rfl rfl (fun z8 (ez8 : z8.toInt = ja h 14 2) (bz8 : 0 ≤ z8.toInt ∧ z8.toInt ≤ 241) => ?_)
    refine jm_aload_n (x := P.1 + 14) rfl rfl (jM_at hl 0 rfl) ?_
    refine jn_gf (i := 14) (k := 1) rfl rfl hH (by decide) (hH.2 14 _ rfl).1 rfl rfl (fun z12 (ez12 : z12.toInt = ja h 14 1) (bz12 : 0 ≤ z12.toInt ∧ z12.toInt ≤ 240) => ?_)
    refine jx_ic (t := 43) rfl rfl rfl (fun hc15 => ?_) (fun hc15 => ?_)
    · have g15 := jc2_ge_t hc15
      refine az_X_step (pc' := 44) (ls' := ls) (st' := [.int (-1)]) (h' := h) rfl rfl rfl ?_
      refine jx_ret rfl rfl rfl ?_
      exact ⟨rfl, (-1), rfl, by rw [if_pos (by omega), hb.2 p (by omega)]; decide⟩
    · have g15 := jc2_ge_f hc15
      refine jm_aload_n (x := P.1 + 14) rfl rfl (jM_at hl 0 rfl) ?_
      refine jn_gf (i := 14) (k := 2) rfl rfl hH (by decide) (hH.2 14 _ rfl).1 rfl rfl (fun z19 (ez19 : z19.toInt = ja h 14 2) (bz19 : 0 ≤ z19.toInt ∧ z19.toInt ≤ 241) => ?_)
      refine az_X_step (pc' := 25) (ls' := ls) (st' := [.int 260, .int z19]) (h' := h) rfl rfl rfl ?_
      refine jx_ic (t := 43) rfl rfl rfl (fun hc25 => ?_) (fun hc25 => ?_)
      · have g25 := jc2_ge_t hc25
        refine az_X_step (pc' := 44) (ls' := ls) (st' := [.int (-1)]) (h' := h) rfl rfl rfl ?_
        refine jx_ret rfl rfl rfl ?_
        exfalso
        omega
      · have g25 := jc2_ge_f hc25
        refine jm_aload_n (x := P.1 + 14) rfl rfl (jM_at hl 0 rfl) ?_
        refine jx_gf (i := 14) rfl rfl hH (by decide) (hH.2 14 _ rfl).1 rfl (jx_rf hH rfl rfl) ?_
        refine jx_gf (i := 12) rfl rfl hH (by decide) (hH.2 12 _ rfl).1 rfl (jx_rf hH rfl rfl) ?_
        refine jm_aload_n (x := P.1 + 14) rfl rfl (jM_at hl 0 rfl) ?_
        refine jn_gf (i := 14) (k := 2) rfl rfl hH (by decide) (hH.2 14 _ rfl).1 rfl rfl (fun z36 (ez36 : z36.toInt = ja h 14 2) (bz36 : 0 ≤ z36.toInt ∧ z36.toInt ≤ 241) => ?_)
        refine jx_ial (i := 13) (x := z36) rfl rfl hxa hH (by decide) rfl (by omega) (by show _ < ((260 : Nat) : Int); omega) (fun z39 ez39 bz39 => ?_)
        refine az_X_step (pc' := 44) (ls' := ls) (st' := [.int z39]) (h' := h) rfl rfl rfl ?_
        refine jx_ret rfl rfl rfl ?_
        exact ⟨rfl, z39, rfl, by rw [if_pos (by omega), ez39, ← hb.1 p (by omega) (by omega), show z36.toInt = p by omega]⟩
theorem fl_ok {P : si_P} {d : Nat} {h : si_H} (hH : az_HI P az_tb h) (k a : Int32) (hk : 1 ≤ k.toInt ∧ k.toInt ≤ 6) (ha : 0 ≤ a.toInt ∧ a.toInt ≤ 300) : az_X P d 125 0 (lv_args 0 [.ref (P.1 + 14), .int k, .int a]) [] h (fun rv h' => rv = none ∧ az_HI P az_tb h' ∧ az_same_out [(14, 3)] h h' ∧ (ja h 14 3 = 0 → ja h' 14 3 = -1000 * k.toInt - a.toInt) ∧ (ja h 14 3 ≠ 0 → h' = h)) := by
  have bp : 0 ≤ ja h 14 2 ∧ ja h 14 2 ≤ 241 := ja_bd hH (i := 14) (k := 2) rfl
  have bF : -7000 ≤ ja h 14 3 ∧ ja h 14 3 ≤ 0 := ja_bd hH (i := 14) (k := 3) rfl
  have hl : jM [(0, .ref (P.1 + 14)), (1, .int k), (2, .int a)] (lv_args 0 [.ref (P.1 + 14), .int k, .int a]) := jM_args [0, 1, 2] rfl (by decide)
  generalize lv_args 0 [.ref (P.1 + 14), .int k, .int a] = ls at hl
  have km1000 : ((-1000) : Int32).toInt = (-1000) := by decide
  have k0 : (0 : Int32).toInt = 0 := by decide
  refine jm_aload_n (x := P.1 + 14) rfl rfl (jM_at hl 0 rfl) ?_
  refine jn_gf (i := 14) (k := 3) rfl rfl hH (by decide) (hH.2 14 _ rfl).1 rfl rfl (fun z1 (ez1 : z1.toInt = ja h 14 3) (bz1 : (-7000) ≤ z1.toInt ∧ z1.toInt ≤ 0) => ?_)
  refine jx_if (t := 18) rfl rfl rfl (fun hc4 => ?_) (fun hc4 => ?_)
  · have g4 := jc1_ne_t hc4
    refine jn_retv rfl rfl rfl ?_
    exact ⟨rfl, hH, az_same_out.rf, fun e => absurd (by omega) g4, fun _ => rfl⟩
  · have g4 := jc1_ne_f hc4
    refine jm_aload_n (x := P.1 + 14) rfl rfl (jM_at hl 0 rfl) ?_
    refine az_X_step (pc' := 11) (ls' := ls) (st' := [.int (-1000), .ref (P.1 + 14)]) (h' := h) rfl rfl rfl ?_
    refine jm_iload_n (x := k) rfl rfl (jM_at hl 1 rfl) ?_
    refine jn_mul (a := (-1000)) (b := k) rfl rfl (by rw [show ((-1000) : Int32).toInt = (-1000) by decide]; omega) (by rw [show ((-1000) : Int32).toInt = (-1000) by decide]; omega) (fun z12 ez12 => ?_)
    rw [show ((-1000) : Int32).toInt = (-1000) by decide] at ez12
    refine jm_iload_n (x := a) rfl rfl (jM_at hl 2 rfl) ?_
    refine jn_sub (a := z12) (b := a) rfl rfl (by omega) (by omega) (fun z14 ez14 => ?_)
    refine jn_pf (i := 14) (k := 3) (x := z14) rfl rfl hH (by decide) rfl (hH.2 14 _ rfl).1 rfl rfl (by decide) (by decide) (by show (-7000) ≤ _; omega) (by show _ ≤ 0; omega) (fun h15 hH15 hs15 (t15 : ja h15 14 3 = z14.toInt) => ?_)
    refine jn_retv rfl rfl rfl ?_
    exact ⟨rfl, hH15, (hs15.sub (by decide)), fun _ => t15.trans (by omega), fun e => absurd (by omega) e⟩
theorem tk_ok {P : si_P} (hxa : P.2.1 < P.1) {d : Nat} {h : si_H} (hH : az_HI P az_tb h) {n p F : Int} {hh : Int → Int} (hn : 1 ≤ n ∧ n ≤ 240) (e1 : ja h 14 1 = n) (e2 : ja h 14 2 = p) (e3 : ja h 14 3 = F) (hb : jBY h n hh) (c : Int32) (hc : 0 ≤ c.toInt) : az_X P (d + 1) 123 0 (lv_args 0 [.ref (P.1 + 14), .int c]) [] h (fun rv h' => ∃ z : Int32, rv = some (.int z) ∧ az_HI P az_tb h' ∧ az_same_out [(14, 2)] h h' ∧ ((F = 0 ∧ hh p = c.toInt ∧ z.toInt = 1 ∧ ja h' 14 2 = p + 1) ∨ (¬ (F = 0 ∧ hh p = c.toInt) ∧ z.toInt = 0 ∧ h' = h))) := by
  have bp : 0 ≤ ja h 14 2 ∧ ja h 14 2 ≤ 241 := ja_bd hH (i := 14) (k := 2) rfl
  have bF : -7000 ≤ ja h 14 3 ∧ ja h 14 3 ≤ 0 := ja_bd hH (i := 14) (k := 3) rfl
  have hl : jM [(0, .ref (P.1 + 14)), (1, .int c)] (lv_args 0 [.ref (P.1 + 14), .int c]) := jM_args [0, 1] rfl (by decide)
  generalize lv_args 0 [.ref (P.1 + 14), .int c] = ls at hl
  have k0 : (0 : Int32).toInt = 0 := by decide
  have k1 : (1 : Int32).toInt = 1 := by decide
  refine jm_aload_n (x := P.1 + 14) rfl rfl (jM_at hl 0 rfl) ?_
  refine az_X_call (m' := 121) (as := [.ref (P.1 + 14)]) (rest := []) rfl rfl rfl rfl rfl ?_ ?_
  · unfold si_call
    dsimp only
    rw [if_pos ⟨rfl, rfl⟩]
    show (match si_ix P h (P.1 + 14) with | some i => _ | none => none) = _
    rw [jix hH (by decide)]
    dsimp only
    rw [(hH.2 14 _ rfl).1]
    rfl
  refine (nx_ok hxa hH hn e1 e2 e3 hb).mono ?_
  rintro rv1 h1 ⟨q1, z1, rfl, ez1⟩
  subst h1
  show az_X P _ 123 4 ls [.int z1] _ _
  refine jm_iload_n (x := c) rfl rfl (jM_at hl 1 rfl) ?_
  refine jx_ic (t := 10) rfl rfl rfl (fun hc5 => ?_) (fun hc5 => ?_)
  · have g5 := jc2_eq_t hc5
    have hF : F = 0 := by
      by_cases q : F = 0
      · exact q
      · rw [ez1, if_neg q] at g5
        omega
    rw [ez1, if_pos hF] at g5
    have hpn := jBY_lt hb (p := p) (by omega)
    refine jm_aload_n (x := P.1 + 14) rfl rfl (jM_at hl 0 rfl) ?_
    refine az_X_step (pc' := 12) (ls' := ls) (st' := [.ref (P.1 + 14), .ref (P.1 + 14)]) (h' := h) rfl rfl rfl ?_
    refine jn_gf (i := 14) (k := 2) rfl rfl hH (by decide) (hH.2 14 _ rfl).1 rfl rfl (fun z12 (ez12 : z12.toInt = ja h 14 2) (bz12 : 0 ≤ z12.toInt ∧ z12.toInt ≤ 241) => ?_)
    refine az_X_step (pc' := 16) (ls' := ls) (st' := [.int 1, .int z12, .ref (P.1 + 14)]) (h' := h) rfl rfl rfl ?_
    refine jn_add (a := z12) (b := 1) rfl rfl (by omega) (by omega) (fun z16 ez16 => ?_)
    rw [show (1 : Int32).toInt = 1 by decide] at ez16
    refine jn_pf (i := 14) (k := 2) (x := z16) rfl rfl hH (by decide) rfl (hH.2 14 _ rfl).1 rfl rfl (by decide) (by decide) (by show 0 ≤ _; omega) (by show _ ≤ 241; omega) (fun h17 hH17 hs17 (t17 : ja h17 14 2 = z16.toInt) => ?_)
    refine az_X_step (pc' := 21) (ls' := ls) (st' := [.int 1]) (h' := h17) rfl rfl rfl ?_
    refine jx_retz rfl rfl rfl (by decide) ?_
    exact ⟨1, rfl, hH17, (hs17.sub (by decide)), Or.inl ⟨hF, g5, by decide, t17.trans (by omega)⟩⟩
  · have g5 := jc2_eq_f hc5
    refine az_X_step (pc' := 9) (ls' := ls) (st' := [.int 0]) (h' := h) rfl rfl rfl ?_
    refine jx_retz rfl rfl rfl (by decide) ?_
    refine ⟨0, rfl, hH, az_same_out.rf, Or.inr ⟨fun q => ?_, by decide, rfl⟩⟩
    rw [ez1, if_pos q.1] at g5
    exact g5 q.2
theorem ex_ok {P : si_P} (hxa : P.2.1 < P.1) {d : Nat} {h : si_H} (hH : az_HI P az_tb h) {n p F : Int} {hh : Int → Int} (hn : 1 ≤ n ∧ n ≤ 240) (e1 : ja h 14 1 = n) (e2 : ja h 14 2 = p) (e3 : ja h 14 3 = F) (hb : jBY h n hh) (c : Int32) (hc : 0 ≤ c.toInt) : az_X P (d + 1) 124 0 (lv_args 0 [.ref (P.1 + 14), .int c]) [] h (fun rv h' => rv = none ∧ az_HI P az_tb h' ∧ az_same_out [(14, 2), (14, 3)] h h' ∧ ((F = 0 ∧ hh p = c.toInt ∧ ja h' 14 2 = p + 1 ∧ ja h' 14 3 = 0) ∨ (F = 0 ∧ hh p ≠ c.toInt ∧ ja h' 14 3 = -1000 - p) ∨ (F ≠ 0 ∧ h' = h))) := by
  have bp : 0 ≤ ja h 14 2 ∧ ja h 14 2 ≤ 241 := ja_bd hH (i := 14) (k := 2) rfl
  have bF : -7000 ≤ ja h 14 3 ∧ ja h 14 3 ≤ 0 := ja_bd hH (i := 14) (k := 3) rfl
  have hl : jM [(0, .ref (P.1 + 14)), (1, .int c)] (lv_args 0 [.ref (P.1 + 14), .int c]) := jM_args [0, 1] rfl (by decide)
  generalize lv_args 0 [.ref (P.1 + 14), .int c] = ls at hl
  have k1 : (1 : Int32).toInt = 1 := by decide
  refine jm_aload_n (x := P.1 + 14) rfl rfl (jM_at hl 0 rfl) ?_
  refine az_X_call (m' := 121) (as := [.ref (P.1 + 14)]) (rest := []) rfl rfl rfl rfl rfl ?_ ?_
  · unfold si_call
    dsimp only
    rw [if_pos ⟨rfl, rfl⟩]
    show (match si_ix P h (P.1 + 14) with | some i => _ | none => none) = _
    rw [jix hH (by decide)]
    dsimp only
    rw [(hH.2 14 _ rfl).1]
    rfl
  refine (nx_ok hxa hH hn e1 e2 e3 hb).mono ?_
  rintro rv1 h1 ⟨q1, z1, rfl, ez1⟩
  subst h1
  show az_X P _ 124 4 ls [.int z1] _ _
  refine jm_iload_n (x := c) rfl rfl (jM_at hl 1 rfl) ?_
  refine jx_ic (t := 21) rfl rfl rfl (fun hc5 => ?_) (fun hc5 => ?_)
  · have g5 := jc2_ne_t hc5
    refine jm_aload_n (x := P.1 + 14) rfl rfl (jM_at hl 0 rfl) ?_
    refine az_X_step (pc' := 23) (ls' := ls) (st' := [.int 1, .ref (P.1 + 14)]) (h' := h) rfl rfl rfl ?_
    refine jm_aload_n (x := P.1 + 14) rfl rfl (jM_at hl 0 rfl) ?_
    refine jn_gf (i := 14) (k := 2) rfl rfl hH (by decide) (hH.2 14 _ rfl).1 rfl rfl (fun z24 (ez24 : z24.toInt = ja h 14 2) (bz24 : 0 ≤ z24.toInt ∧ z24.toInt ≤ 241) => ?_)
    refine az_X_call (m' := 125) (as := [.ref (P.1 + 14), .int 1, .int z24]) (rest := []) rfl rfl rfl rfl rfl ?_ ?_
    · unfold si_call
      dsimp only
      rw [if_pos ⟨rfl, rfl⟩]
      show (match si_ix P h (P.1 + 14) with | some i => _ | none => none) = _
      rw [jix hH (by decide)]
      dsimp only
      rw [(hH.2 14 _ rfl).1]
      rfl
    refine (fl_ok hH 1 z24 (by decide) (by omega)).mono ?_
    rintro rv27 h27 ⟨rfl, hH27, hs27, f27⟩
    show az_X P _ 124 30 ls [] _ _
    refine jn_retv rfl rfl rfl ?_
    by_cases hF : F = 0
    · rw [ez1, if_pos hF] at g5
      exact ⟨rfl, hH27, hs27.sub (by decide), Or.inr (Or.inl ⟨hF, g5, (f27.1 (by omega)).trans (by omega)⟩)⟩
    · exact ⟨rfl, hH27, hs27.sub (by decide), Or.inr (Or.inr ⟨hF, f27.2 (by omega)⟩)⟩
  · have g5 := jc2_ne_f hc5
    have hF : F = 0 := by
      by_cases q : F = 0
      · exact q
      · rw [ez1, if_neg q] at g5
        omega
    rw [ez1, if_pos hF] at g5
    have hpn := jBY_lt hb (p := p) (by omega)
    refine jm_aload_n (x := P.1 + 14) rfl rfl (jM_at hl 0 rfl) ?_
    refine az_X_step (pc' := 10) (ls' := ls) (st' := [.ref (P.1 + 14), .ref (P.1 + 14)]) (h' := h) rfl rfl rfl ?_
    refine jn_gf (i := 14) (k := 2) rfl rfl hH (by decide) (hH.2 14 _ rfl).1 rfl rfl (fun z10 (ez10 : z10.toInt = ja h 14 2) (bz10 : 0 ≤ z10.toInt ∧ z10.toInt ≤ 241) => ?_)
    refine az_X_step (pc' := 14) (ls' := ls) (st' := [.int 1, .int z10, .ref (P.1 + 14)]) (h' := h) rfl rfl rfl ?_
    refine jn_add (a := z10) (b := 1) rfl rfl (by omega) (by omega) (fun z14 ez14 => ?_)
    rw [show (1 : Int32).toInt = 1 by decide] at ez14
    refine jn_pf (i := 14) (k := 2) (x := z14) rfl rfl hH (by decide) rfl (hH.2 14 _ rfl).1 rfl rfl (by decide) (by decide) (by show 0 ≤ _; omega) (by show _ ≤ 241; omega) (fun h15 hH15 hs15 (t15 : ja h15 14 2 = z14.toInt) => ?_)
    refine az_X_step (pc' := 30) (ls' := ls) (st' := []) (h' := h15) rfl rfl rfl ?_
    refine jn_retv rfl rfl rfl ?_
    exact ⟨rfl, hH15, (hs15.sub (by decide)), Or.inl ⟨hF, g5, t15.trans (by omega), (jso hs15 (by decide)).trans (by omega)⟩⟩
theorem sp_ok {P : si_P} {d : Nat} {h : si_H} (hH : az_HI P az_tb h) (hp : ja h 14 2 ≤ 240) : az_X P d 122 0 (lv_args 0 [.ref (P.1 + 14)]) [] h (fun rv h' => rv = none ∧ az_HI P az_tb h' ∧ az_same_out [(14, 2)] h h' ∧ ja h' 14 2 = ja h 14 2 + 1) := by
  have bp : 0 ≤ ja h 14 2 ∧ ja h 14 2 ≤ 241 := ja_bd hH (i := 14) (k := 2) rfl
  have bF : -7000 ≤ ja h 14 3 ∧ ja h 14 3 ≤ 0 := ja_bd hH (i := 14) (k := 3) rfl
  have hl : jM [(0, .ref (P.1 + 14))] (lv_args 0 [.ref (P.1 + 14)]) := jM_args [0] rfl (by decide)
  generalize lv_args 0 [.ref (P.1 + 14)] = ls at hl
  have k1 : (1 : Int32).toInt = 1 := by decide
  refine jm_aload_n (x := P.1 + 14) rfl rfl (jM_at hl 0 rfl) ?_
  refine az_X_step (pc' := 2) (ls' := ls) (st' := [.ref (P.1 + 14), .ref (P.1 + 14)]) (h' := h) rfl rfl rfl ?_
  refine jn_gf (i := 14) (k := 2) rfl rfl hH (by decide) (hH.2 14 _ rfl).1 rfl rfl (fun z2 (ez2 : z2.toInt = ja h 14 2) (bz2 : 0 ≤ z2.toInt ∧ z2.toInt ≤ 241) => ?_)
  refine az_X_step (pc' := 6) (ls' := ls) (st' := [.int 1, .int z2, .ref (P.1 + 14)]) (h' := h) rfl rfl rfl ?_
  refine jn_add (a := z2) (b := 1) rfl rfl (by omega) (by omega) (fun z6 ez6 => ?_)
  rw [show (1 : Int32).toInt = 1 by decide] at ez6
  refine jn_pf (i := 14) (k := 2) (x := z6) rfl rfl hH (by decide) rfl (hH.2 14 _ rfl).1 rfl rfl (by decide) (by decide) (by show 0 ≤ _; omega) (by show _ ≤ 241; omega) (fun h7 hH7 hs7 (t7 : ja h7 14 2 = z6.toInt) => ?_)
  refine jn_retv rfl rfl rfl ?_
  exact ⟨rfl, hH7, (hs7.sub (by decide)), t7.trans (by omega)⟩
theorem pl_ok {P : si_P} {d : Nat} {h : si_H} (hH : az_HI P az_tb h) : az_X P d 120 0 (lv_args 0 [.ref (P.1 + 14)]) [] h (fun rv h' => h' = h ∧ jV rv (ja h 14 2)) := by
  have hl : jM [(0, .ref (P.1 + 14))] (lv_args 0 [.ref (P.1 + 14)]) := jM_args [0] rfl (by decide)
  generalize lv_args 0 [.ref (P.1 + 14)] = ls at hl
  refine jm_aload_n (x := P.1 + 14) rfl rfl (jM_at hl 0 rfl) ?_
  refine jn_gf (i := 14) (k := 2) rfl rfl hH (by decide) (hH.2 14 _ rfl).1 rfl rfl (fun z1 (ez1 : z1.toInt = ja h 14 2) (bz1 : 0 ≤ z1.toInt ∧ z1.toInt ≤ 241) => ?_)
  refine jx_ret rfl rfl rfl ?_
  exact ⟨rfl, z1, rfl, ez1⟩
theorem cl_ok {P : si_P} (hxa : P.2.1 < P.1) {d : Nat} {h : si_H} (hH : az_HI P az_tb h) {n p F : Int} {hh : Int → Int} (hn : 1 ≤ n ∧ n ≤ 240) (e1 : ja h 14 1 = n) (e2 : ja h 14 2 = p) (e3 : ja h 14 3 = F) (hb : jBY h n hh) : az_X P (d + 1) 126 0 (lv_args 0 [.ref (P.1 + 14)]) [] h (fun rv h' => ∃ z : Int32, rv = some (.int z) ∧ az_HI P az_tb h' ∧ az_same_out [(14, 3)] h h' ∧ ((F = 0 ∧ (97 ≤ hh p ∧ hh p ≤ 104) ∧ z.toInt = hh p - 97 ∧ h' = h) ∨ (F = 0 ∧ ¬ (97 ≤ hh p ∧ hh p ≤ 104) ∧ z.toInt = -1 ∧ ja h' 14 3 = -1000 - p) ∨ (F ≠ 0 ∧ z.toInt = -1 ∧ h' = h))) := by
  have bp : 0 ≤ ja h 14 2 ∧ ja h 14 2 ≤ 241 := ja_bd hH (i := 14) (k := 2) rfl
  have bF : -7000 ≤ ja h 14 3 ∧ ja h 14 3 ≤ 0 := ja_bd hH (i := 14) (k := 3) rfl
  have hl : jM [(0, .ref (P.1 + 14))] (lv_args 0 [.ref (P.1 + 14)]) := jM_args [0] rfl (by decide)
  generalize lv_args 0 [.ref (P.1 + 14)] = ls at hl
  have km1 : ((-1) : Int32).toInt = (-1) := by decide
  have k1 : (1 : Int32).toInt = 1 := by decide
  have k97 : (97 : Int32).toInt = 97 := by decide
  have k104 : (104 : Int32).toInt = 104 := by decide
  refine jm_aload_n (x := P.1 + 14) rfl rfl (jM_at hl 0 rfl) ?_
  refine az_X_call (m' := 121) (as := [.ref (P.1 + 14)]) (rest := []) rfl rfl rfl rfl rfl ?_ ?_
  · unfold si_call
    dsimp only
    rw [if_pos ⟨rfl, rfl⟩]
    show (match si_ix P h (P.1 + 14) with | some i => _ | none => none) = _
    rw [jix hH (by decide)]
    dsimp only
    rw [(hH.2 14 _ rfl).1]
    rfl
  refine (nx_ok hxa hH hn e1 e2 e3 hb).mono ?_
  rintro rv1 h1 ⟨q1, z1, rfl, ez1⟩
  subst h1
  show az_X P _ 126 4 ls [.int z1] _ _
  refine jm_istore_n (l' := [(1, .int z1), (0, .ref (P.1 + 14))]) rfl rfl (by decide) hl rfl rfl (fun ls4 hl4 => ?_)
  refine jm_iload_n (x := z1) rfl rfl (jM_at hl4 0 rfl) ?_
  refine az_X_step (pc' := 8) (ls' := ls4) (st' := [.int 97, .int z1]) (h' := h) rfl rfl rfl ?_
  refine jx_ic (t := 17) rfl rfl rfl (fun hc8 => ?_) (fun hc8 => ?_)
  · have g8 := jc2_lt_t hc8
    refine jm_aload_n (x := P.1 + 14) rfl rfl (jM_at hl4 1 rfl) ?_
    refine az_X_step (pc' := 19) (ls' := ls4) (st' := [.int 1, .ref (P.1 + 14)]) (h' := h) rfl rfl rfl ?_
    refine jm_aload_n (x := P.1 + 14) rfl rfl (jM_at hl4 1 rfl) ?_
    refine jn_gf (i := 14) (k := 2) rfl rfl hH (by decide) (hH.2 14 _ rfl).1 rfl rfl (fun z20 (ez20 : z20.toInt = ja h 14 2) (bz20 : 0 ≤ z20.toInt ∧ z20.toInt ≤ 241) => ?_)
    refine az_X_call (m' := 125) (as := [.ref (P.1 + 14), .int 1, .int z20]) (rest := []) rfl rfl rfl rfl rfl ?_ ?_
    · unfold si_call
      dsimp only
      rw [if_pos ⟨rfl, rfl⟩]
      show (match si_ix P h (P.1 + 14) with | some i => _ | none => none) = _
      rw [jix hH (by decide)]
      dsimp only
      rw [(hH.2 14 _ rfl).1]
      rfl
    refine (fl_ok hH 1 z20 (by decide) (by omega)).mono ?_
    rintro rv23 h23 ⟨rfl, hH23, hs23, f23⟩
    show az_X P _ 126 26 ls4 [] _ _
    refine az_X_step (pc' := 27) (ls' := ls4) (st' := [.int (-1)]) (h' := h23) rfl rfl rfl ?_
    refine jx_ret rfl rfl rfl ?_
    by_cases hF : F = 0
    · rw [if_pos hF] at ez1
      exact ⟨(-1), rfl, hH23, hs23, Or.inr (Or.inl ⟨hF, by omega, by decide, (f23.1 (by omega)).trans (by omega)⟩)⟩
    · exact ⟨(-1), rfl, hH23, hs23, Or.inr (Or.inr ⟨hF, by decide, f23.2 (by omega)⟩)⟩
  · have g8 := jc2_lt_f hc8
    refine jm_iload_n (x := z1) rfl rfl (jM_at hl4 0 rfl) ?_
    refine az_X_step (pc' := 14) (ls' := ls4) (st' := [.int 104, .int z1]) (h' := h) rfl rfl rfl ?_
    refine jx_ic (t := 28) rfl rfl rfl (fun hc14 => ?_) (fun hc14 => ?_)
    · have g14 := jc2_le_t hc14
      refine jm_iload_n (x := z1) rfl rfl (jM_at hl4 0 rfl) ?_
      refine az_X_step (pc' := 31) (ls' := ls4) (st' := [.int 97, .int z1]) (h' := h) rfl rfl rfl ?_
      refine jn_sub (a := z1) (b := 97) rfl rfl (by omega) (by omega) (fun z31 ez31 => ?_)
      rw [show (97 : Int32).toInt = 97 by decide] at ez31
      refine jx_ret rfl rfl rfl ?_
      have hF : F = 0 := by
        by_cases q : F = 0
        · exact q
        · rw [if_neg q] at ez1
          omega
      rw [if_pos hF] at ez1
      exact ⟨z31, rfl, hH, az_same_out.rf, Or.inl ⟨hF, by omega, by omega, rfl⟩⟩
    · have g14 := jc2_le_f hc14
      refine jm_aload_n (x := P.1 + 14) rfl rfl (jM_at hl4 1 rfl) ?_
      refine az_X_step (pc' := 19) (ls' := ls4) (st' := [.int 1, .ref (P.1 + 14)]) (h' := h) rfl rfl rfl ?_
      refine jm_aload_n (x := P.1 + 14) rfl rfl (jM_at hl4 1 rfl) ?_
      refine jn_gf (i := 14) (k := 2) rfl rfl hH (by decide) (hH.2 14 _ rfl).1 rfl rfl (fun z20 (ez20 : z20.toInt = ja h 14 2) (bz20 : 0 ≤ z20.toInt ∧ z20.toInt ≤ 241) => ?_)
      refine az_X_call (m' := 125) (as := [.ref (P.1 + 14), .int 1, .int z20]) (rest := []) rfl rfl rfl rfl rfl ?_ ?_
      · unfold si_call
        dsimp only
        rw [if_pos ⟨rfl, rfl⟩]
        show (match si_ix P h (P.1 + 14) with | some i => _ | none => none) = _
        rw [jix hH (by decide)]
        dsimp only
        rw [(hH.2 14 _ rfl).1]
        rfl
      refine (fl_ok hH 1 z20 (by decide) (by omega)).mono ?_
      rintro rv23 h23 ⟨rfl, hH23, hs23, f23⟩
      show az_X P _ 126 26 ls4 [] _ _
      refine az_X_step (pc' := 27) (ls' := ls4) (st' := [.int (-1)]) (h' := h23) rfl rfl rfl ?_
      refine jx_ret rfl rfl rfl ?_
      by_cases hF : F = 0
      · rw [if_pos hF] at ez1
        exact ⟨(-1), rfl, hH23, hs23, Or.inr (Or.inl ⟨hF, by omega, by decide, (f23.1 (by omega)).trans (by omega)⟩)⟩
      · exact ⟨(-1), rfl, hH23, hs23, Or.inr (Or.inr ⟨hF, by decide, f23.2 (by omega)⟩)⟩
theorem aw_ok {P : si_P} {d : Nat} {h : si_H} (hH : az_HI P az_tb h) {n p F : Int} (e1 : ja h 14 1 = n) (e2 : ja h 14 2 = p) (e3 : ja h 14 3 = F) (a : Int32) : az_X P (d + 1) 129 0 (lv_args 0 [.ref (P.1 + 14), .int a]) [] h (fun rv h' => ∃ z : Int32, rv = some (.int z) ∧ az_HI P az_tb h' ∧ az_same_out [(14, 3)] h h' ∧ ((F ≠ 0 ∧ z.toInt = F) ∨ (F = 0 ∧ p < n ∧ z.toInt = -1000 - p) ∨ (F = 0 ∧ n ≤ p ∧ z.toInt = a.toInt))) := by
  have bp : 0 ≤ ja h 14 2 ∧ ja h 14 2 ≤ 241 := ja_bd hH (i := 14) (k := 2) rfl
  have bF : -7000 ≤ ja h 14 3 ∧ ja h 14 3 ≤ 0 := ja_bd hH (i := 14) (k := 3) rfl
  have hl : jM [(0, .ref (P.1 + 14)), (1, .int a)] (lv_args 0 [.ref (P.1 + 14), .int a]) := jM_args [0, 1] rfl (by decide)
  generalize lv_args 0 [.ref (P.1 + 14), .int a] = ls at hl
  have k0 : (0 : Int32).toInt = 0 := by decide
  have k1 : (1 : Int32).toInt = 1 := by decide
  refine jm_aload_n (x := P.1 + 14) rfl rfl (jM_at hl 0 rfl) ?_
  refine jn_gf (i := 14) (k := 3) rfl rfl hH (by decide) (hH.2 14 _ rfl).1 rfl rfl (fun z1 (ez1 : z1.toInt = ja h 14 3) (bz1 : (-7000) ≤ z1.toInt ∧ z1.toInt ≤ 0) => ?_)
  refine jx_if (t := 27) rfl rfl rfl (fun hc4 => ?_) (fun hc4 => ?_)
  · have g4 := jc1_ne_t hc4
    refine jm_aload_n (x := P.1 + 14) rfl rfl (jM_at hl 0 rfl) ?_
    refine jn_gf (i := 14) (k := 3) rfl rfl hH (by decide) (hH.2 14 _ rfl).1 rfl rfl (fun z28 (ez28 : z28.toInt = ja h 14 3) (bz28 : (-7000) ≤ z28.toInt ∧ z28.toInt ≤ 0) => ?_)
    refine jx_if (t := 38) rfl rfl rfl (fun hc31 => ?_) (fun hc31 => ?_)
    · have g31 := jc1_ne_t hc31
      refine jm_aload_n (x := P.1 + 14) rfl rfl (jM_at hl 0 rfl) ?_
      refine jn_gf (i := 14) (k := 3) rfl rfl hH (by decide) (hH.2 14 _ rfl).1 rfl rfl (fun z39 (ez39 : z39.toInt = ja h 14 3) (bz39 : (-7000) ≤ z39.toInt ∧ z39.toInt ≤ 0) => ?_)
      refine jx_ret rfl rfl rfl ?_
      exact ⟨z39, rfl, hH, az_same_out.rf, by omega⟩
    · have g31 := jc1_ne_f hc31
      refine jm_iload_n (x := a) rfl rfl (jM_at hl 1 rfl) ?_
      refine az_X_step (pc' := 42) (ls' := ls) (st' := [.int a]) (h' := h) rfl rfl rfl ?_
      refine jx_ret rfl rfl rfl ?_
      exact ⟨a, rfl, hH, az_same_out.rf, by omega⟩
  · have g4 := jc1_ne_f hc4
    refine jm_aload_n (x := P.1 + 14) rfl rfl (jM_at hl 0 rfl) ?_
    refine jn_gf (i := 14) (k := 2) rfl rfl hH (by decide) (hH.2 14 _ rfl).1 rfl rfl (fun z8 (ez8 : z8.toInt = ja h 14 2) (bz8 : 0 ≤ z8.toInt ∧ z8.toInt ≤ 241) => ?_)
    refine jm_aload_n (x := P.1 + 14) rfl rfl (jM_at hl 0 rfl) ?_
    refine jn_gf (i := 14) (k := 1) rfl rfl hH (by decide) (hH.2 14 _ rfl).1 rfl rfl (fun z12 (ez12 : z12.toInt = ja h 14 1) (bz12 : 0 ≤ z12.toInt ∧ z12.toInt ≤ 240) => ?_)
    refine jx_ic (t := 27) rfl rfl rfl (fun hc15 => ?_) (fun hc15 => ?_)
    · have g15 := jc2_ge_t hc15
      refine jm_aload_n (x := P.1 + 14) rfl rfl (jM_at hl 0 rfl) ?_
      refine jn_gf (i := 14) (k := 3) rfl rfl hH (by decide) (hH.2 14 _ rfl).1 rfl rfl (fun z28 (ez28 : z28.toInt = ja h 14 3) (bz28 : (-7000) ≤ z28.toInt ∧ z28.toInt ≤ 0) => ?_)
      refine jx_if (t := 38) rfl rfl rfl (fun hc31 => ?_) (fun hc31 => ?_)
      · have g31 := jc1_ne_t hc31
        refine jm_aload_n (x := P.1 + 14) rfl rfl (jM_at hl 0 rfl) ?_
        refine jn_gf (i := 14) (k := 3) rfl rfl hH (by decide) (hH.2 14 _ rfl).1 rfl rfl (fun z39 (ez39 : z39.toInt = ja h 14 3) (bz39 : (-7000) ≤ z39.toInt ∧ z39.toInt ≤ 0) => ?_)
        refine jx_ret rfl rfl rfl ?_
        exact ⟨z39, rfl, hH, az_same_out.rf, by omega⟩
      · have g31 := jc1_ne_f hc31
        refine jm_iload_n (x := a) rfl rfl (jM_at hl 1 rfl) ?_
        refine az_X_step (pc' := 42) (ls' := ls) (st' := [.int a]) (h' := h) rfl rfl rfl ?_
        refine jx_ret rfl rfl rfl ?_
        exact ⟨a, rfl, hH, az_same_out.rf, by omega⟩
    · have g15 := jc2_ge_f hc15
      refine jm_aload_n (x := P.1 + 14) rfl rfl (jM_at hl 0 rfl) ?_
      refine az_X_step (pc' := 20) (ls' := ls) (st' := [.int 1, .ref (P.1 + 14)]) (h' := h) rfl rfl rfl ?_
      refine jm_aload_n (x := P.1 + 14) rfl rfl (jM_at hl 0 rfl) ?_
      refine jn_gf (i := 14) (k := 2) rfl rfl hH (by decide) (hH.2 14 _ rfl).1 rfl rfl (fun z21 (ez21 : z21.toInt = ja h 14 2) (bz21 : 0 ≤ z21.toInt ∧ z21.toInt ≤ 241) => ?_)
      refine az_X_call (m' := 125) (as := [.ref (P.1 + 14), .int 1, .int z21]) (rest := []) rfl rfl rfl rfl rfl ?_ ?_
      · unfold si_call
        dsimp only
        rw [if_pos ⟨rfl, rfl⟩]
        show (match si_ix P h (P.1 + 14) with | some i => _ | none => none) = _
        rw [jix hH (by decide)]
        dsimp only
        rw [(hH.2 14 _ rfl).1]
        rfl
      refine (fl_ok hH 1 z21 (by decide) (by omega)).mono ?_
      rintro rv24 h24 ⟨rfl, hH24, hs24, f24⟩
      show az_X P _ 129 27 ls [] _ _
      refine jm_aload_n (x := P.1 + 14) rfl rfl (jM_at hl 0 rfl) ?_
      refine jn_gf (i := 14) (k := 3) rfl rfl hH24 (by decide) (hH24.2 14 _ rfl).1 rfl rfl (fun z28 (ez28 : z28.toInt = ja h24 14 3) (bz28 : (-7000) ≤ z28.toInt ∧ z28.toInt ≤ 0) => ?_)
      replace ez28 : z28.toInt = ja h24 14 3 := ez28.trans rfl
      refine jx_if (t := 38) rfl rfl rfl (fun hc31 => ?_) (fun hc31 => ?_)
      · have g31 := jc1_ne_t hc31
        refine jm_aload_n (x := P.1 + 14) rfl rfl (jM_at hl 0 rfl) ?_
        refine jn_gf (i := 14) (k := 3) rfl rfl hH24 (by decide) (hH24.2 14 _ rfl).1 rfl rfl (fun z39 (ez39 : z39.toInt = ja h24 14 3) (bz39 : (-7000) ≤ z39.toInt ∧ z39.toInt ≤ 0) => ?_)
        replace ez39 : z39.toInt = ja h24 14 3 := ez39.trans rfl
        refine jx_ret rfl rfl rfl ?_
        exact ⟨z39, rfl, hH24, (hs24.sub (by decide)), by have := f24.1 (by omega); omega⟩
      · have g31 := jc1_ne_f hc31
        refine jm_iload_n (x := a) rfl rfl (jM_at hl 1 rfl) ?_
        refine az_X_step (pc' := 42) (ls' := ls) (st' := [.int a]) (h' := h24) rfl rfl rfl ?_
        refine jx_ret rfl rfl rfl ?_
        exact ⟨a, rfl, hH24, (hs24.sub (by decide)), by have := f24.1 (by omega); omega⟩
theorem rb_ok {P : si_P} {d : Nat} {h : si_H} (hH : az_HI P az_tb h) (n : Int32) (hn : 1 ≤ n.toInt ∧ n.toInt ≤ 240) : az_X P d 119 0 (lv_args 0 [.ref (P.1 + 14), .int n]) [] h (fun rv h' => rv = none ∧ az_HI P az_tb h' ∧ az_same_out [(14, 1), (14, 2), (14, 3)] h h' ∧ ja h' 14 1 = n.toInt ∧ ja h' 14 2 = 0 ∧ ja h' 14 3 = 0) := by
  have hl : jM [(0, .ref (P.1 + 14)), (1, .int n)] (lv_args 0 [.ref (P.1 + 14), .int n]) := jM_args [0, 1] rfl (by decide)
  generalize lv_args 0 [.ref (P.1 + 14), .int n] = ls at hl
  have k0 : (0 : Int32).toInt = 0 := by decide
  refine jm_aload_n (x := P.1 + 14) rfl rfl (jM_at hl 0 rfl) ?_
  refine jm_iload_n (x := n) rfl rfl (jM_at hl 1 rfl) ?_
  refine jn_pf (i := 14) (k := 1) (x := n) rfl rfl hH (by decide) rfl (hH.2 14 _ rfl).1 rfl rfl (by decide) (by decide) (by show 0 ≤ _; omega) (by show _ ≤ 240; omega) (fun h2 hH2 hs2 (t2 : ja h2 14 1 = n.toInt) => ?_)
  refine jm_aload_n (x := P.1 + 14) rfl rfl (jM_at hl 0 rfl) ?_
  refine az_X_step (pc' := 7) (ls' := ls) (st' := [.int 0, .ref (P.1 + 14)]) (h' := h2) rfl rfl rfl ?_
  refine jn_pf (i := 14) (k := 2) (x := 0) rfl rfl hH2 (by decide) rfl (hH2.2 14 _ rfl).1 rfl rfl (by decide) (by decide) (by show 0 ≤ _; omega) (by show _ ≤ 241; omega) (fun h7 hH7 hs7 (t7 : ja h7 14 2 = (0 : Int32).toInt) => ?_)
  replace t7 : ja h7 14 2 = 0 := t7.trans (by decide)
  refine jm_aload_n (x := P.1 + 14) rfl rfl (jM_at hl 0 rfl) ?_
  refine az_X_step (pc' := 12) (ls' := ls) (st' := [.int 0, .ref (P.1 + 14)]) (h' := h7) rfl rfl rfl ?_
  refine jn_pf (i := 14) (k := 3) (x := 0) rfl rfl hH7 (by decide) rfl (hH7.2 14 _ rfl).1 rfl rfl (by decide) (by decide) (by show (-7000) ≤ _; omega) (by show _ ≤ 0; omega) (fun h12 hH12 hs12 (t12 : ja h12 14 3 = (0 : Int32).toInt) => ?_)
  replace t12 : ja h12 14 3 = 0 := t12.trans (by decide)
  refine jn_retv rfl rfl rfl ?_
  exact ⟨rfl, hH12, ((hs2.sub (by decide)).tr ((hs7.sub (by decide)).tr (hs12.sub (by decide)))), ((jso hs12 (by decide)).trans ((jso hs7 (by decide)).trans t2)), ((jso hs12 (by decide)).trans t7), t12⟩
theorem nu_l {P : si_P} (hxa : P.2.1 < P.1) {d : Nat} {h0 : si_H} {n p : Int} {hh : Int → Int} (hn : 1 ≤ n ∧ n ≤ 240) (hp : 0 ≤ p ∧ p ≤ 240) (D : Int32) (hD : 1 ≤ D.toInt ∧ D.toInt ≤ 5) (hh1 : ∀ i : Int, hh i ≤ 255) : ∀ (k j : Nat) (T V : Int32) (h : si_H) (ls : si_L), jM [(3, .int T), (2, .int V), (0, .ref (P.1 + 14)), (1, .int D)] ls → az_HI P az_tb h → az_same_out [(14, 2), (14, 3)] h0 h → ja h 14 1 = n → ja h 14 2 = p + j → ja h 14 3 = 0 → jBY h n hh → T.toInt = j → (j : Int) + k = D.toInt → (∀ i : Nat, i < j → jdg hh (p + i)) → V.toInt = jva hh p j → az_X P (d + 2) 127 4 ls [] h (fun rv h' => ∃ z : Int32, rv = some (.int z) ∧ az_HI P az_tb h' ∧ az_same_out [(14, 2), (14, 3)] h0 h' ∧ ∃ f q v : Int, jAN hh p D.toInt.toNat f q v ∧ ((f = 0 ∧ z.toInt = v ∧ ja h' 14 2 = q ∧ ja h' 14 3 = 0) ∨ (f ≠ 0 ∧ z.toInt = 0 ∧ ja h' 14 3 = f))) := by
  intro k
  induction k with
  | zero =>
    intro j T V h ls hl hH hs e1 e2 e3 hb eT hj hg eV
    have jv := jva_bd j hg
    have jn := jnin_bd (k := j)
    have jn1 := jn.1 (by omega)
    have k0 : (0 : Int32).toInt = 0 := by decide
    have k1 : (1 : Int32).toInt = 1 := by decide
    have k2 : (2 : Int32).toInt = 2 := by decide
    have k48 : (48 : Int32).toInt = 48 := by decide
    have k57 : (57 : Int32).toInt = 57 := by decide
    refine jm_iload_n (x := T) rfl rfl (jM_at hl 0 rfl) ?_
    refine jm_iload_n (x := D) rfl rfl (jM_at hl 3 rfl) ?_
    refine jx_ic (t := 104) rfl rfl rfl (fun hc6 => ?_) (fun hc6 => ?_)
    · have g6 := jc2_gt_t hc6
      refine jm_iload_n (x := V) rfl rfl (jM_at hl 1 rfl) ?_
      refine jx_ret rfl rfl rfl ?_
      exfalso
      omega
    · have g6 := jc2_gt_f hc6
      refine jm_aload_n (x := P.1 + 14) rfl rfl (jM_at hl 2 rfl) ?_
      refine az_X_call (m' := 121) (as := [.ref (P.1 + 14)]) (rest := []) rfl rfl rfl rfl rfl ?_ ?_
      · unfold si_call
        dsimp only
        rw [if_pos ⟨rfl, rfl⟩]
        show (match si_ix P h (P.1 + 14) with | some i => _ | none => none) = _
        rw [jix hH (by decide)]
        dsimp only
        rw [(hH.2 14 _ rfl).1]
        rfl
      refine (nx_ok hxa hH hn e1 e2 e3 hb).mono ?_
      rintro rv10 h10 ⟨q10, z10, rfl, ez10⟩
      subst h10
      rw [if_pos rfl] at ez10
      show az_X P _ 127 13 ls [.int z10] _ _
      refine jm_istore (l' := [(4, .int z10), (3, .int T), (2, .int V), (0, .ref (P.1 + 14)), (1, .int D)]) rfl rfl (by decide) hl rfl rfl (fun ls13 hl13 => ?_)
      refine jm_iload (x := z10) rfl rfl (jM_at hl13 0 rfl) ?_
      refine az_X_step (pc' := 19) (ls' := ls13) (st' := [.int 48, .int z10]) (h' := h) rfl rfl rfl ?_
      refine jx_ic (t := 33) rfl rfl rfl (fun hc19 => ?_) (fun hc19 => ?_)
      · have g19 := jc2_lt_t hc19
        refine az_X_step (pc' := 34) (ls' := ls13) (st' := [.int 0]) (h' := h) rfl rfl rfl ?_
        refine jm_istore (l' := [(5, .int 0), (4, .int z10), (3, .int T), (2, .int V), (0, .ref (P.1 + 14)), (1, .int D)]) rfl rfl (by decide) hl13 rfl rfl (fun ls34 hl34 => ?_)
        refine jm_iload (x := 0) rfl rfl (jM_at hl34 0 rfl) ?_
        refine jn_ifd (t := 54) (c := false) rfl rfl rfl (by decide) ?_
        show az_X P _ 127 41 ls34 [] _ _
        refine jm_iload_n (x := T) rfl rfl (jM_at hl34 2 rfl) ?_
        refine jx_if (t := 54) rfl rfl rfl (fun hc42 => ?_) (fun hc42 => ?_)
        · have g42 := jc1_ne_t hc42
          refine jm_iload (x := 0) rfl rfl (jM_at hl34 0 rfl) ?_
          refine jn_ifd (t := 61) (c := false) rfl rfl rfl (by decide) ?_
          show az_X P _ 127 59 ls34 [] _ _
          refine jm_iload_n (x := V) rfl rfl (jM_at hl34 3 rfl) ?_
          refine jx_ret rfl rfl rfl ?_
          refine ⟨V, rfl, hH, hs, 0, p + j, jva hh p j, Or.inr (Or.inl ⟨j, by omega, by omega, hg, ?_, rfl, rfl, rfl⟩), Or.inl ⟨rfl, eV, e2, e3⟩⟩
          unfold jdg
          omega
        · have g42 := jc1_ne_f hc42
          refine jm_aload_n (x := P.1 + 14) rfl rfl (jM_at hl34 4 rfl) ?_
          refine az_X_step (pc' := 47) (ls' := ls34) (st' := [.int 1, .ref (P.1 + 14)]) (h' := h) rfl rfl rfl ?_
          refine jm_aload_n (x := P.1 + 14) rfl rfl (jM_at hl34 4 rfl) ?_
          refine jn_gf (i := 14) (k := 2) rfl rfl hH (by decide) (hH.2 14 _ rfl).1 rfl rfl (fun z48 (ez48 : z48.toInt = ja h 14 2) (bz48 : 0 ≤ z48.toInt ∧ z48.toInt ≤ 241) => ?_)
          refine az_X_call (m' := 125) (as := [.ref (P.1 + 14), .int 1, .int z48]) (rest := []) rfl rfl rfl rfl rfl ?_ ?_
          · unfold si_call
            dsimp only
            rw [if_pos ⟨rfl, rfl⟩]
            show (match si_ix P h (P.1 + 14) with | some i => _ | none => none) = _
            rw [jix hH (by decide)]
            dsimp only
            rw [(hH.2 14 _ rfl).1]
            rfl
          refine (fl_ok hH 1 z48 (by decide) (by omega)).mono ?_
          rintro rv51 h51 ⟨rfl, hH51, hs51, f51⟩
          show az_X P _ 127 54 ls34 [] _ _
          refine jm_iload (x := 0) rfl rfl (jM_at hl34 0 rfl) ?_
          refine jn_ifd (t := 61) (c := false) rfl rfl rfl (by decide) ?_
          show az_X P _ 127 59 ls34 [] _ _
          refine jm_iload_n (x := V) rfl rfl (jM_at hl34 3 rfl) ?_
          refine jx_ret rfl rfl rfl ?_
          refine ⟨V, rfl, hH51, (hs.tr (hs51.sub (by decide))), -1000 - p, 0, 0, Or.inl ⟨?_, rfl⟩, Or.inr ⟨by omega, ?_, (f51.1 e3).trans (by omega)⟩⟩
          · have ej : (j : Int) = 0 := by omega
            rw [ej, Int.add_zero] at ez10
            unfold jdg
            omega
          · rw [eV, show j = 0 by omega]
            rfl
      · have g19 := jc2_lt_f hc19
        refine jm_iload (x := z10) rfl rfl (jM_at hl13 0 rfl) ?_
        refine az_X_step (pc' := 26) (ls' := ls13) (st' := [.int 57, .int z10]) (h' := h) rfl rfl rfl ?_
        refine jx_ic (t := 33) rfl rfl rfl (fun hc26 => ?_) (fun hc26 => ?_)
        · have g26 := jc2_gt_t hc26
          refine az_X_step (pc' := 34) (ls' := ls13) (st' := [.int 0]) (h' := h) rfl rfl rfl ?_
          refine jm_istore (l' := [(5, .int 0), (4, .int z10), (3, .int T), (2, .int V), (0, .ref (P.1 + 14)), (1, .int D)]) rfl rfl (by decide) hl13 rfl rfl (fun ls34 hl34 => ?_)
          refine jm_iload (x := 0) rfl rfl (jM_at hl34 0 rfl) ?_
          refine jn_ifd (t := 54) (c := false) rfl rfl rfl (by decide) ?_
          show az_X P _ 127 41 ls34 [] _ _
          refine jm_iload_n (x := T) rfl rfl (jM_at hl34 2 rfl) ?_
          refine jx_if (t := 54) rfl rfl rfl (fun hc42 => ?_) (fun hc42 => ?_)
          · have g42 := jc1_ne_t hc42
            refine jm_iload (x := 0) rfl rfl (jM_at hl34 0 rfl) ?_
            refine jn_ifd (t := 61) (c := false) rfl rfl rfl (by decide) ?_
            show az_X P _ 127 59 ls34 [] _ _
            refine jm_iload_n (x := V) rfl rfl (jM_at hl34 3 rfl) ?_
            refine jx_ret rfl rfl rfl ?_
            refine ⟨V, rfl, hH, hs, 0, p + j, jva hh p j, Or.inr (Or.inl ⟨j, by omega, by omega, hg, ?_, rfl, rfl, rfl⟩), Or.inl ⟨rfl, eV, e2, e3⟩⟩
            unfold jdg
            omega
          · have g42 := jc1_ne_f hc42
            refine jm_aload_n (x := P.1 + 14) rfl rfl (jM_at hl34 4 rfl) ?_
            refine az_X_step (pc' := 47) (ls' := ls34) (st' := [.int 1, .ref (P.1 + 14)]) (h' := h) rfl rfl rfl ?_
            refine jm_aload_n (x := P.1 + 14) rfl rfl (jM_at hl34 4 rfl) ?_
            refine jn_gf (i := 14) (k := 2) rfl rfl hH (by decide) (hH.2 14 _ rfl).1 rfl rfl (fun z48 (ez48 : z48.toInt = ja h 14 2) (bz48 : 0 ≤ z48.toInt ∧ z48.toInt ≤ 241) => ?_)
            refine az_X_call (m' := 125) (as := [.ref (P.1 + 14), .int 1, .int z48]) (rest := []) rfl rfl rfl rfl rfl ?_ ?_
            · unfold si_call
              dsimp only
              rw [if_pos ⟨rfl, rfl⟩]
              show (match si_ix P h (P.1 + 14) with | some i => _ | none => none) = _
              rw [jix hH (by decide)]
              dsimp only
              rw [(hH.2 14 _ rfl).1]
              rfl
            refine (fl_ok hH 1 z48 (by decide) (by omega)).mono ?_
            rintro rv51 h51 ⟨rfl, hH51, hs51, f51⟩
            show az_X P _ 127 54 ls34 [] _ _
            refine jm_iload (x := 0) rfl rfl (jM_at hl34 0 rfl) ?_
            refine jn_ifd (t := 61) (c := false) rfl rfl rfl (by decide) ?_
            show az_X P _ 127 59 ls34 [] _ _
            refine jm_iload_n (x := V) rfl rfl (jM_at hl34 3 rfl) ?_
            refine jx_ret rfl rfl rfl ?_
            refine ⟨V, rfl, hH51, (hs.tr (hs51.sub (by decide))), -1000 - p, 0, 0, Or.inl ⟨?_, rfl⟩, Or.inr ⟨by omega, ?_, (f51.1 e3).trans (by omega)⟩⟩
            · have ej : (j : Int) = 0 := by omega
              rw [ej, Int.add_zero] at ez10
              unfold jdg
              omega
            · rw [eV, show j = 0 by omega]
              rfl
        · have g26 := jc2_gt_f hc26
          refine az_X_step (pc' := 30) (ls' := ls13) (st' := [.int 1]) (h' := h) rfl rfl rfl ?_
          refine az_X_step (pc' := 34) (ls' := ls13) (st' := [.int 1]) (h' := h) rfl rfl rfl ?_
          refine jm_istore (l' := [(5, .int 1), (4, .int z10), (3, .int T), (2, .int V), (0, .ref (P.1 + 14)), (1, .int D)]) rfl rfl (by decide) hl13 rfl rfl (fun ls34 hl34 => ?_)
          refine jm_iload (x := 1) rfl rfl (jM_at hl34 0 rfl) ?_
          refine jn_ifd (t := 54) (c := true) rfl rfl rfl (by decide) ?_
          show az_X P _ 127 54 ls34 [] _ _
          refine jm_iload (x := 1) rfl rfl (jM_at hl34 0 rfl) ?_
          refine jn_ifd (t := 61) (c := true) rfl rfl rfl (by decide) ?_
          show az_X P _ 127 61 ls34 [] _ _
          refine jm_iload_n (x := T) rfl rfl (jM_at hl34 2 rfl) ?_
          refine jm_iload_n (x := D) rfl rfl (jM_at hl34 5 rfl) ?_
          refine jx_ic (t := 77) rfl rfl rfl (fun hc63 => ?_) (fun hc63 => ?_)
          · have g63 := jc2_ne_t hc63
            exfalso
            omega
          · have g63 := jc2_ne_f hc63
            refine jm_aload_n (x := P.1 + 14) rfl rfl (jM_at hl34 4 rfl) ?_
            refine az_X_step (pc' := 68) (ls' := ls34) (st' := [.int 2, .ref (P.1 + 14)]) (h' := h) rfl rfl rfl ?_
            refine jm_aload_n (x := P.1 + 14) rfl rfl (jM_at hl34 4 rfl) ?_
            refine jn_gf (i := 14) (k := 2) rfl rfl hH (by decide) (hH.2 14 _ rfl).1 rfl rfl (fun z69 (ez69 : z69.toInt = ja h 14 2) (bz69 : 0 ≤ z69.toInt ∧ z69.toInt ≤ 241) => ?_)
            refine az_X_call (m' := 125) (as := [.ref (P.1 + 14), .int 2, .int z69]) (rest := []) rfl rfl rfl rfl rfl ?_ ?_
            · unfold si_call
              dsimp only
              rw [if_pos ⟨rfl, rfl⟩]
              show (match si_ix P h (P.1 + 14) with | some i => _ | none => none) = _
              rw [jix hH (by decide)]
              dsimp only
              rw [(hH.2 14 _ rfl).1]
              rfl
            refine (fl_ok hH 2 z69 (by decide) (by omega)).mono ?_
            rintro rv72 h72 ⟨rfl, hH72, hs72, f72⟩
            show az_X P _ 127 75 ls34 [] _ _
            refine az_X_step (pc' := 76) (ls' := ls34) (st' := [.int 0]) (h' := h72) rfl rfl rfl ?_
            refine jx_ret rfl rfl rfl ?_
            refine ⟨0, rfl, hH72, (hs.tr (hs72.sub (by decide))), -2000 - (p + D.toInt.toNat), 0, 0, Or.inr (Or.inr ⟨fun i hi => ?_, rfl⟩), Or.inr ⟨by omega, by decide, (f72.1 e3).trans (by omega)⟩⟩
            rcases Nat.lt_or_ge i j with c | c
            · exact hg i c
            · rw [show i = j by omega]
              unfold jdg
              omega
  | succ k ih =>
    intro j T V h ls hl hH hs e1 e2 e3 hb eT hj hg eV
    have jv := jva_bd j hg
    have jn := jnin_bd (k := j)
    have jn1 := jn.1 (by omega)
    have hh2 := hh1 (p + j)
    have k0 : (0 : Int32).toInt = 0 := by decide
    have k1 : (1 : Int32).toInt = 1 := by decide
    have k2 : (2 : Int32).toInt = 2 := by decide
    have k10 : (10 : Int32).toInt = 10 := by decide
    have k48 : (48 : Int32).toInt = 48 := by decide
    have k57 : (57 : Int32).toInt = 57 := by decide
    refine jm_iload_n (x := T) rfl rfl (jM_at hl 0 rfl) ?_
    refine jm_iload_n (x := D) rfl rfl (jM_at hl 3 rfl) ?_
    refine jx_ic (t := 104) rfl rfl rfl (fun hc6 => ?_) (fun hc6 => ?_)
    · have g6 := jc2_gt_t hc6
      refine jm_iload_n (x := V) rfl rfl (jM_at hl 1 rfl) ?_
      refine jx_ret rfl rfl rfl ?_
      exfalso
      omega
    · have g6 := jc2_gt_f hc6
      refine jm_aload_n (x := P.1 + 14) rfl rfl (jM_at hl 2 rfl) ?_
      refine az_X_call (m' := 121) (as := [.ref (P.1 + 14)]) (rest := []) rfl rfl rfl rfl rfl ?_ ?_
      · unfold si_call
        dsimp only
        rw [if_pos ⟨rfl, rfl⟩]
        show (match si_ix P h (P.1 + 14) with | some i => _ | none => none) = _
        rw [jix hH (by decide)]
        dsimp only
        rw [(hH.2 14 _ rfl).1]
        rfl
      refine (nx_ok hxa hH hn e1 e2 e3 hb).mono ?_
      rintro rv10 h10 ⟨q10, z10, rfl, ez10⟩
      subst h10
      rw [if_pos rfl] at ez10
      show az_X P _ 127 13 ls [.int z10] _ _
      refine jm_istore (l' := [(4, .int z10), (3, .int T), (2, .int V), (0, .ref (P.1 + 14)), (1, .int D)]) rfl rfl (by decide) hl rfl rfl (fun ls13 hl13 => ?_)
      refine jm_iload (x := z10) rfl rfl (jM_at hl13 0 rfl) ?_
      refine az_X_step (pc' := 19) (ls' := ls13) (st' := [.int 48, .int z10]) (h' := h) rfl rfl rfl ?_
      refine jx_ic (t := 33) rfl rfl rfl (fun hc19 => ?_) (fun hc19 => ?_)
      · have g19 := jc2_lt_t hc19
        refine az_X_step (pc' := 34) (ls' := ls13) (st' := [.int 0]) (h' := h) rfl rfl rfl ?_
        refine jm_istore (l' := [(5, .int 0), (4, .int z10), (3, .int T), (2, .int V), (0, .ref (P.1 + 14)), (1, .int D)]) rfl rfl (by decide) hl13 rfl rfl (fun ls34 hl34 => ?_)
        refine jm_iload (x := 0) rfl rfl (jM_at hl34 0 rfl) ?_
        refine jn_ifd (t := 54) (c := false) rfl rfl rfl (by decide) ?_
        show az_X P _ 127 41 ls34 [] _ _
        refine jm_iload_n (x := T) rfl rfl (jM_at hl34 2 rfl) ?_
        refine jx_if (t := 54) rfl rfl rfl (fun hc42 => ?_) (fun hc42 => ?_)
        · have g42 := jc1_ne_t hc42
          refine jm_iload (x := 0) rfl rfl (jM_at hl34 0 rfl) ?_
          refine jn_ifd (t := 61) (c := false) rfl rfl rfl (by decide) ?_
          show az_X P _ 127 59 ls34 [] _ _
          refine jm_iload_n (x := V) rfl rfl (jM_at hl34 3 rfl) ?_
          refine jx_ret rfl rfl rfl ?_
          refine ⟨V, rfl, hH, hs, 0, p + j, jva hh p j, Or.inr (Or.inl ⟨j, by omega, by omega, hg, ?_, rfl, rfl, rfl⟩), Or.inl ⟨rfl, eV, e2, e3⟩⟩
          unfold jdg
          omega
        · have g42 := jc1_ne_f hc42
          refine jm_aload_n (x := P.1 + 14) rfl rfl (jM_at hl34 4 rfl) ?_
          refine az_X_step (pc' := 47) (ls' := ls34) (st' := [.int 1, .ref (P.1 + 14)]) (h' := h) rfl rfl rfl ?_
          refine jm_aload_n (x := P.1 + 14) rfl rfl (jM_at hl34 4 rfl) ?_
          refine jn_gf (i := 14) (k := 2) rfl rfl hH (by decide) (hH.2 14 _ rfl).1 rfl rfl (fun z48 (ez48 : z48.toInt = ja h 14 2) (bz48 : 0 ≤ z48.toInt ∧ z48.toInt ≤ 241) => ?_)
          refine az_X_call (m' := 125) (as := [.ref (P.1 + 14), .int 1, .int z48]) (rest := []) rfl rfl rfl rfl rfl ?_ ?_
          · unfold si_call
            dsimp only
            rw [if_pos ⟨rfl, rfl⟩]
            show (match si_ix P h (P.1 + 14) with | some i => _ | none => none) = _
            rw [jix hH (by decide)]
            dsimp only
            rw [(hH.2 14 _ rfl).1]
            rfl
          refine (fl_ok hH 1 z48 (by decide) (by omega)).mono ?_
          rintro rv51 h51 ⟨rfl, hH51, hs51, f51⟩
          show az_X P _ 127 54 ls34 [] _ _
          refine jm_iload (x := 0) rfl rfl (jM_at hl34 0 rfl) ?_
          refine jn_ifd (t := 61) (c := false) rfl rfl rfl (by decide) ?_
          show az_X P _ 127 59 ls34 [] _ _
          refine jm_iload_n (x := V) rfl rfl (jM_at hl34 3 rfl) ?_
          refine jx_ret rfl rfl rfl ?_
          refine ⟨V, rfl, hH51, (hs.tr (hs51.sub (by decide))), -1000 - p, 0, 0, Or.inl ⟨?_, rfl⟩, Or.inr ⟨by omega, ?_, (f51.1 e3).trans (by omega)⟩⟩
          · have ej : (j : Int) = 0 := by omega
            rw [ej, Int.add_zero] at ez10
            unfold jdg
            omega
          · rw [eV, show j = 0 by omega]
            rfl
      · have g19 := jc2_lt_f hc19
        refine jm_iload (x := z10) rfl rfl (jM_at hl13 0 rfl) ?_
        refine az_X_step (pc' := 26) (ls' := ls13) (st' := [.int 57, .int z10]) (h' := h) rfl rfl rfl ?_
        refine jx_ic (t := 33) rfl rfl rfl (fun hc26 => ?_) (fun hc26 => ?_)
        · have g26 := jc2_gt_t hc26
          refine az_X_step (pc' := 34) (ls' := ls13) (st' := [.int 0]) (h' := h) rfl rfl rfl ?_
          refine jm_istore (l' := [(5, .int 0), (4, .int z10), (3, .int T), (2, .int V), (0, .ref (P.1 + 14)), (1, .int D)]) rfl rfl (by decide) hl13 rfl rfl (fun ls34 hl34 => ?_)
          refine jm_iload (x := 0) rfl rfl (jM_at hl34 0 rfl) ?_
          refine jn_ifd (t := 54) (c := false) rfl rfl rfl (by decide) ?_
          show az_X P _ 127 41 ls34 [] _ _
          refine jm_iload_n (x := T) rfl rfl (jM_at hl34 2 rfl) ?_
          refine jx_if (t := 54) rfl rfl rfl (fun hc42 => ?_) (fun hc42 => ?_)
          · have g42 := jc1_ne_t hc42
            refine jm_iload (x := 0) rfl rfl (jM_at hl34 0 rfl) ?_
            refine jn_ifd (t := 61) (c := false) rfl rfl rfl (by decide) ?_
            show az_X P _ 127 59 ls34 [] _ _
            refine jm_iload_n (x := V) rfl rfl (jM_at hl34 3 rfl) ?_
            refine jx_ret rfl rfl rfl ?_
            refine ⟨V, rfl, hH, hs, 0, p + j, jva hh p j, Or.inr (Or.inl ⟨j, by omega, by omega, hg, ?_, rfl, rfl, rfl⟩), Or.inl ⟨rfl, eV, e2, e3⟩⟩
            unfold jdg
            omega
          · have g42 := jc1_ne_f hc42
            refine jm_aload_n (x := P.1 + 14) rfl rfl (jM_at hl34 4 rfl) ?_
            refine az_X_step (pc' := 47) (ls' := ls34) (st' := [.int 1, .ref (P.1 + 14)]) (h' := h) rfl rfl rfl ?_
            refine jm_aload_n (x := P.1 + 14) rfl rfl (jM_at hl34 4 rfl) ?_
            refine jn_gf (i := 14) (k := 2) rfl rfl hH (by decide) (hH.2 14 _ rfl).1 rfl rfl (fun z48 (ez48 : z48.toInt = ja h 14 2) (bz48 : 0 ≤ z48.toInt ∧ z48.toInt ≤ 241) => ?_)
            refine az_X_call (m' := 125) (as := [.ref (P.1 + 14), .int 1, .int z48]) (rest := []) rfl rfl rfl rfl rfl ?_ ?_
            · unfold si_call
              dsimp only
              rw [if_pos ⟨rfl, rfl⟩]
              show (match si_ix P h (P.1 + 14) with | some i => _ | none => none) = _
              rw [jix hH (by decide)]
              dsimp only
              rw [(hH.2 14 _ rfl).1]
              rfl
            refine (fl_ok hH 1 z48 (by decide) (by omega)).mono ?_
            rintro rv51 h51 ⟨rfl, hH51, hs51, f51⟩
            show az_X P _ 127 54 ls34 [] _ _
            refine jm_iload (x := 0) rfl rfl (jM_at hl34 0 rfl) ?_
            refine jn_ifd (t := 61) (c := false) rfl rfl rfl (by decide) ?_
            show az_X P _ 127 59 ls34 [] _ _
            refine jm_iload_n (x := V) rfl rfl (jM_at hl34 3 rfl) ?_
            refine jx_ret rfl rfl rfl ?_
            refine ⟨V, rfl, hH51, (hs.tr (hs51.sub (by decide))), -1000 - p, 0, 0, Or.inl ⟨?_, rfl⟩, Or.inr ⟨by omega, ?_, (f51.1 e3).trans (by omega)⟩⟩
            · have ej : (j : Int) = 0 := by omega
              rw [ej, Int.add_zero] at ez10
              unfold jdg
              omega
            · rw [eV, show j = 0 by omega]
              rfl
        · have g26 := jc2_gt_f hc26
          refine az_X_step (pc' := 30) (ls' := ls13) (st' := [.int 1]) (h' := h) rfl rfl rfl ?_
          refine az_X_step (pc' := 34) (ls' := ls13) (st' := [.int 1]) (h' := h) rfl rfl rfl ?_
          refine jm_istore (l' := [(5, .int 1), (4, .int z10), (3, .int T), (2, .int V), (0, .ref (P.1 + 14)), (1, .int D)]) rfl rfl (by decide) hl13 rfl rfl (fun ls34 hl34 => ?_)
          refine jm_iload (x := 1) rfl rfl (jM_at hl34 0 rfl) ?_
          refine jn_ifd (t := 54) (c := true) rfl rfl rfl (by decide) ?_
          show az_X P _ 127 54 ls34 [] _ _
          refine jm_iload (x := 1) rfl rfl (jM_at hl34 0 rfl) ?_
          refine jn_ifd (t := 61) (c := true) rfl rfl rfl (by decide) ?_
          show az_X P _ 127 61 ls34 [] _ _
          refine jm_iload_n (x := T) rfl rfl (jM_at hl34 2 rfl) ?_
          refine jm_iload_n (x := D) rfl rfl (jM_at hl34 5 rfl) ?_
          refine jx_ic (t := 77) rfl rfl rfl (fun hc63 => ?_) (fun hc63 => ?_)
          · have g63 := jc2_ne_t hc63
            refine az_X_step (pc' := 79) (ls' := ls34) (st' := [.int 10]) (h' := h) rfl rfl rfl ?_
            refine jm_iload_n (x := V) rfl rfl (jM_at hl34 3 rfl) ?_
            refine jn_mul (a := 10) (b := V) rfl rfl (by rw [show (10 : Int32).toInt = 10 by decide]; omega) (by rw [show (10 : Int32).toInt = 10 by decide]; omega) (fun z80 ez80 => ?_)
            rw [show (10 : Int32).toInt = 10 by decide] at ez80
            refine jm_iload (x := z10) rfl rfl (jM_at hl34 1 rfl) ?_
            refine jn_add (a := z80) (b := z10) rfl rfl (by omega) (by omega) (fun z83 ez83 => ?_)
            refine az_X_step (pc' := 86) (ls' := ls34) (st' := [.int 48, .int z83]) (h' := h) rfl rfl rfl ?_
            refine jn_sub (a := z83) (b := 48) rfl rfl (by omega) (by omega) (fun z86 ez86 => ?_)
            rw [show (48 : Int32).toInt = 48 by decide] at ez86
            refine jm_istore_n (l' := [(2, .int z86), (5, .int 1), (4, .int z10), (3, .int T), (0, .ref (P.1 + 14)), (1, .int D)]) rfl rfl (by decide) hl34 rfl rfl (fun ls87 hl87 => ?_)
            have hpn := jBY_lt hb (p := p + (j : Int)) (by omega)
            refine jm_aload_n (x := P.1 + 14) rfl rfl (jM_at hl87 4 rfl) ?_
            refine az_X_step (pc' := 90) (ls' := ls87) (st' := [.ref (P.1 + 14), .ref (P.1 + 14)]) (h' := h) rfl rfl rfl ?_
            refine jn_gf (i := 14) (k := 2) rfl rfl hH (by decide) (hH.2 14 _ rfl).1 rfl rfl (fun z90 (ez90 : z90.toInt = ja h 14 2) (bz90 : 0 ≤ z90.toInt ∧ z90.toInt ≤ 241) => ?_)
            refine az_X_step (pc' := 94) (ls' := ls87) (st' := [.int 1, .int z90, .ref (P.1 + 14)]) (h' := h) rfl rfl rfl ?_
            refine jn_add (a := z90) (b := 1) rfl rfl (by omega) (by omega) (fun z94 ez94 => ?_)
            rw [show (1 : Int32).toInt = 1 by decide] at ez94
            refine jn_pf (i := 14) (k := 2) (x := z94) rfl rfl hH (by decide) rfl (hH.2 14 _ rfl).1 rfl rfl (by decide) (by decide) (by show 0 ≤ _; omega) (by show _ ≤ 241; omega) (fun h95 hH95 hs95 (t95 : ja h95 14 2 = z94.toInt) => ?_)
            refine jn_iinc (x := T) rfl rfl (by decide) (jM_at hl87 3 rfl) hl87 rfl (by decide) (by omega) (by omega) (fun z98 (ez98 : z98.toInt = T.toInt + 1) ls98 (hl98 : jM [(3, .int z98), (2, .int z86), (5, .int 1), (4, .int z10), (0, .ref (P.1 + 14)), (1, .int D)] ls98) => ?_)
            refine az_X_step (pc' := 4) (ls' := ls98) (st' := []) (h' := h95) rfl rfl rfl ?_
            have dj : jdg hh (p + j) := by
              unfold jdg
              omega
            refine ih (j + 1) z98 z86 h95 ls98 (jM_pick hl98 [0, 1, 4, 5] rfl) hH95 (hs.tr (hs95.sub (by decide))) ((jso hs95 (by decide)).trans e1) (t95.trans (by omega)) ((jso hs95 (by decide)).trans e3) (jBY_so hs95 (by decide) hb) (by omega) (by omega) (fun i hi => ?_) (by rw [jva_s]; omega)
            rcases Nat.lt_or_ge i j with c | c
            · exact hg i c
            · rw [show i = j by omega]; exact dj
          · have g63 := jc2_ne_f hc63
            refine jm_aload_n (x := P.1 + 14) rfl rfl (jM_at hl34 4 rfl) ?_
            refine az_X_step (pc' := 68) (ls' := ls34) (st' := [.int 2, .ref (P.1 + 14)]) (h' := h) rfl rfl rfl ?_
            refine jm_aload_n (x := P.1 + 14) rfl rfl (jM_at hl34 4 rfl) ?_
            refine jn_gf (i := 14) (k := 2) rfl rfl hH (by decide) (hH.2 14 _ rfl).1 rfl rfl (fun z69 (ez69 : z69.toInt = ja h 14 2) (bz69 : 0 ≤ z69.toInt ∧ z69.toInt ≤ 241) => ?_)
            refine az_X_call (m' := 125) (as := [.ref (P.1 + 14), .int 2, .int z69]) (rest := []) rfl rfl rfl rfl rfl ?_ ?_
            · unfold si_call
              dsimp only
              rw [if_pos ⟨rfl, rfl⟩]
              show (match si_ix P h (P.1 + 14) with | some i => _ | none => none) = _
              rw [jix hH (by decide)]
              dsimp only
              rw [(hH.2 14 _ rfl).1]
              rfl
            refine (fl_ok hH 2 z69 (by decide) (by omega)).mono ?_
            rintro rv72 h72 ⟨rfl, hH72, hs72, f72⟩
            show az_X P _ 127 75 ls34 [] _ _
            refine az_X_step (pc' := 76) (ls' := ls34) (st' := [.int 0]) (h' := h72) rfl rfl rfl ?_
            refine jx_ret rfl rfl rfl ?_
            refine ⟨0, rfl, hH72, (hs.tr (hs72.sub (by decide))), -2000 - (p + D.toInt.toNat), 0, 0, Or.inr (Or.inr ⟨fun i hi => ?_, rfl⟩), Or.inr ⟨by omega, by decide, (f72.1 e3).trans (by omega)⟩⟩
            rcases Nat.lt_or_ge i j with c | c
            · exact hg i c
            · rw [show i = j by omega]
              unfold jdg
              omega
theorem nu_ok {P : si_P} (hxa : P.2.1 < P.1) {d : Nat} {h : si_H} (hH : az_HI P az_tb h) {n p F : Int} {hh : Int → Int} (hn : 1 ≤ n ∧ n ≤ 240) (e1 : ja h 14 1 = n) (e2 : ja h 14 2 = p) (e3 : ja h 14 3 = F) (hb : jBY h n hh) (hh1 : ∀ i : Int, hh i ≤ 255) (hp : p ≤ 240 ∨ F ≠ 0) (D : Int32) (hD : 1 ≤ D.toInt ∧ D.toInt ≤ 5) : az_X P (d + 2) 127 0 (lv_args 0 [.ref (P.1 + 14), .int D]) [] h (fun rv h' => ∃ z : Int32, rv = some (.int z) ∧ az_HI P az_tb h' ∧ az_same_out [(14, 2), (14, 3)] h h' ∧ ((F = 0 ∧ ∃ f q v : Int, jAN hh p D.toInt.toNat f q v ∧ ((f = 0 ∧ z.toInt = v ∧ ja h' 14 2 = q ∧ ja h' 14 3 = 0) ∨ (f ≠ 0 ∧ z.toInt = 0 ∧ ja h' 14 3 = f))) ∨ (F ≠ 0 ∧ z.toInt = 0 ∧ h' = h))) := by
  have bp : 0 ≤ ja h 14 2 ∧ ja h 14 2 ≤ 241 := ja_bd hH (i := 14) (k := 2) rfl
  have bF : -7000 ≤ ja h 14 3 ∧ ja h 14 3 ≤ 0 := ja_bd hH (i := 14) (k := 3) rfl
  have hl : jM [(0, .ref (P.1 + 14)), (1, .int D)] (lv_args 0 [.ref (P.1 + 14), .int D]) := jM_args [0, 1] rfl (by decide)
  generalize lv_args 0 [.ref (P.1 + 14), .int D] = ls at hl
  have k0 : (0 : Int32).toInt = 0 := by decide
  refine az_X_step (pc' := 1) (ls' := ls) (st' := [.int 0]) (h' := h) rfl rfl rfl ?_
  refine jm_istore_n (l' := [(2, .int 0), (0, .ref (P.1 + 14)), (1, .int D)]) rfl rfl (by decide) hl rfl rfl (fun ls1 hl1 => ?_)
  refine az_X_step (pc' := 3) (ls' := ls1) (st' := [.int 0]) (h' := h) rfl rfl rfl ?_
  refine jm_istore_n (l' := [(3, .int 0), (2, .int 0), (0, .ref (P.1 + 14)), (1, .int D)]) rfl rfl (by decide) hl1 rfl rfl (fun ls3 hl3 => ?_)
  by_cases hF : F = 0
  · refine (nu_l (d := d) hxa (h0 := h) (p := p) hn (by omega) D hD hh1 D.toInt.toNat 0 0 0 h ls3 (jM_pick hl3 [0, 1, 2, 3] rfl) hH az_same_out.rf e1 (by omega) (by omega) hb (by decide) (by omega) (fun i hi => absurd hi (by omega)) (by show (0 : Int32).toInt = 0; decide)).mono ?_
    rintro rv h9 ⟨z, q1, q2, q3, q4⟩
    exact ⟨z, q1, q2, q3, Or.inl ⟨hF, q4⟩⟩
  · have nF : ja h 14 3 ≠ 0 := by omega
    have k0 : (0 : Int32).toInt = 0 := by decide
    have k1 : (1 : Int32).toInt = 1 := by decide
    have k48 : (48 : Int32).toInt = 48 := by decide
    have k57 : (57 : Int32).toInt = 57 := by decide
    refine jm_iload_n (x := 0) rfl rfl (jM_at hl3 0 rfl) ?_
    refine jm_iload_n (x := D) rfl rfl (jM_at hl3 3 rfl) ?_
    refine jx_ic (t := 104) rfl rfl rfl (fun hc6 => ?_) (fun hc6 => ?_)
    · have g6 := jc2_gt_t hc6
      refine jm_iload_n (x := 0) rfl rfl (jM_at hl3 1 rfl) ?_
      refine jx_ret rfl rfl rfl ?_
      exfalso
      omega
    · have g6 := jc2_gt_f hc6
      refine jm_aload_n (x := P.1 + 14) rfl rfl (jM_at hl3 2 rfl) ?_
      refine az_X_call (m' := 121) (as := [.ref (P.1 + 14)]) (rest := []) rfl rfl rfl rfl rfl ?_ ?_
      · unfold si_call
        dsimp only
        rw [if_pos ⟨rfl, rfl⟩]
        show (match si_ix P h (P.1 + 14) with | some i => _ | none => none) = _
        rw [jix hH (by decide)]
        dsimp only
        rw [(hH.2 14 _ rfl).1]
        rfl
      refine (nx_ok hxa hH hn e1 e2 e3 hb).mono ?_
      rintro rv10 h10 ⟨q10, z10, rfl, ez10⟩
      subst h10
      rw [if_neg hF] at ez10
      show az_X P _ 127 13 ls3 [.int z10] _ _
      refine jm_istore (l' := [(4, .int z10), (3, .int 0), (2, .int 0), (0, .ref (P.1 + 14)), (1, .int D)]) rfl rfl (by decide) hl3 rfl rfl (fun ls13 hl13 => ?_)
      refine jm_iload (x := z10) rfl rfl (jM_at hl13 0 rfl) ?_
      refine az_X_step (pc' := 19) (ls' := ls13) (st' := [.int 48, .int z10]) (h' := h) rfl rfl rfl ?_
      refine jx_ic (t := 33) rfl rfl rfl (fun hc19 => ?_) (fun hc19 => ?_)
      · have g19 := jc2_lt_t hc19
        refine az_X_step (pc' := 34) (ls' := ls13) (st' := [.int 0]) (h' := h) rfl rfl rfl ?_
        refine jm_istore (l' := [(5, .int 0), (4, .int z10), (3, .int 0), (2, .int 0), (0, .ref (P.1 + 14)), (1, .int D)]) rfl rfl (by decide) hl13 rfl rfl (fun ls34 hl34 => ?_)
        refine jm_iload (x := 0) rfl rfl (jM_at hl34 0 rfl) ?_
        refine jn_ifd (t := 54) (c := false) rfl rfl rfl (by decide) ?_
        show az_X P _ 127 41 ls34 [] _ _
        refine jm_iload_n (x := 0) rfl rfl (jM_at hl34 2 rfl) ?_
        refine jn_ifd (t := 54) (c := false) rfl rfl rfl (by decide) ?_
        show az_X P _ 127 45 ls34 [] _ _
        refine jm_aload_n (x := P.1 + 14) rfl rfl (jM_at hl34 4 rfl) ?_
        refine az_X_step (pc' := 47) (ls' := ls34) (st' := [.int 1, .ref (P.1 + 14)]) (h' := h) rfl rfl rfl ?_
        refine jm_aload_n (x := P.1 + 14) rfl rfl (jM_at hl34 4 rfl) ?_
        refine jn_gf (i := 14) (k := 2) rfl rfl hH (by decide) (hH.2 14 _ rfl).1 rfl rfl (fun z48 (ez48 : z48.toInt = ja h 14 2) (bz48 : 0 ≤ z48.toInt ∧ z48.toInt ≤ 241) => ?_)
        refine az_X_call (m' := 125) (as := [.ref (P.1 + 14), .int 1, .int z48]) (rest := []) rfl rfl rfl rfl rfl ?_ ?_
        · unfold si_call
          dsimp only
          rw [if_pos ⟨rfl, rfl⟩]
          show (match si_ix P h (P.1 + 14) with | some i => _ | none => none) = _
          rw [jix hH (by decide)]
          dsimp only
          rw [(hH.2 14 _ rfl).1]
          rfl
        refine (fl_ok hH 1 z48 (by decide) (by omega)).mono ?_
        rintro rv51 h51 ⟨rfl, hH51, hs51, f51⟩
        show az_X P _ 127 54 ls34 [] _ _
        refine jm_iload (x := 0) rfl rfl (jM_at hl34 0 rfl) ?_
        refine jn_ifd (t := 61) (c := false) rfl rfl rfl (by decide) ?_
        show az_X P _ 127 59 ls34 [] _ _
        refine jm_iload_n (x := 0) rfl rfl (jM_at hl34 3 rfl) ?_
        refine jx_ret rfl rfl rfl ?_
        have q := f51.2 nF
        exact ⟨0, rfl, hH51, hs51.sub (by decide), Or.inr ⟨hF, by decide, q⟩⟩
      · have g19 := jc2_lt_f hc19
        refine jm_iload (x := z10) rfl rfl (jM_at hl13 0 rfl) ?_
        refine az_X_step (pc' := 26) (ls' := ls13) (st' := [.int 57, .int z10]) (h' := h) rfl rfl rfl ?_
        refine jx_ic (t := 33) rfl rfl rfl (fun hc26 => ?_) (fun hc26 => ?_)
        · have g26 := jc2_gt_t hc26
          refine az_X_step (pc' := 34) (ls' := ls13) (st' := [.int 0]) (h' := h) rfl rfl rfl ?_
          refine jm_istore (l' := [(5, .int 0), (4, .int z10), (3, .int 0), (2, .int 0), (0, .ref (P.1 + 14)), (1, .int D)]) rfl rfl (by decide) hl13 rfl rfl (fun ls34 hl34 => ?_)
          refine jm_iload (x := 0) rfl rfl (jM_at hl34 0 rfl) ?_
          refine jn_ifd (t := 54) (c := false) rfl rfl rfl (by decide) ?_
          show az_X P _ 127 41 ls34 [] _ _
          refine jm_iload_n (x := 0) rfl rfl (jM_at hl34 2 rfl) ?_
          refine jn_ifd (t := 54) (c := false) rfl rfl rfl (by decide) ?_
          show az_X P _ 127 45 ls34 [] _ _
          refine jm_aload_n (x := P.1 + 14) rfl rfl (jM_at hl34 4 rfl) ?_
          refine az_X_step (pc' := 47) (ls' := ls34) (st' := [.int 1, .ref (P.1 + 14)]) (h' := h) rfl rfl rfl ?_
          refine jm_aload_n (x := P.1 + 14) rfl rfl (jM_at hl34 4 rfl) ?_
          refine jn_gf (i := 14) (k := 2) rfl rfl hH (by decide) (hH.2 14 _ rfl).1 rfl rfl (fun z48 (ez48 : z48.toInt = ja h 14 2) (bz48 : 0 ≤ z48.toInt ∧ z48.toInt ≤ 241) => ?_)
          refine az_X_call (m' := 125) (as := [.ref (P.1 + 14), .int 1, .int z48]) (rest := []) rfl rfl rfl rfl rfl ?_ ?_
          · unfold si_call
            dsimp only
            rw [if_pos ⟨rfl, rfl⟩]
            show (match si_ix P h (P.1 + 14) with | some i => _ | none => none) = _
            rw [jix hH (by decide)]
            dsimp only
            rw [(hH.2 14 _ rfl).1]
            rfl
          refine (fl_ok hH 1 z48 (by decide) (by omega)).mono ?_
          rintro rv51 h51 ⟨rfl, hH51, hs51, f51⟩
          show az_X P _ 127 54 ls34 [] _ _
          refine jm_iload (x := 0) rfl rfl (jM_at hl34 0 rfl) ?_
          refine jn_ifd (t := 61) (c := false) rfl rfl rfl (by decide) ?_
          show az_X P _ 127 59 ls34 [] _ _
          refine jm_iload_n (x := 0) rfl rfl (jM_at hl34 3 rfl) ?_
          refine jx_ret rfl rfl rfl ?_
          have q := f51.2 nF
          exact ⟨0, rfl, hH51, hs51.sub (by decide), Or.inr ⟨hF, by decide, q⟩⟩
        · have g26 := jc2_gt_f hc26
          refine az_X_step (pc' := 30) (ls' := ls13) (st' := [.int 1]) (h' := h) rfl rfl rfl ?_
          refine az_X_step (pc' := 34) (ls' := ls13) (st' := [.int 1]) (h' := h) rfl rfl rfl ?_
          refine jm_istore (l' := [(5, .int 1), (4, .int z10), (3, .int 0), (2, .int 0), (0, .ref (P.1 + 14)), (1, .int D)]) rfl rfl (by decide) hl13 rfl rfl (fun ls34 hl34 => ?_)
          refine jm_iload (x := 1) rfl rfl (jM_at hl34 0 rfl) ?_
          refine jn_ifd (t := 54) (c := true) rfl rfl rfl (by decide) ?_
          show az_X P _ 127 54 ls34 [] _ _
          refine jm_iload (x := 1) rfl rfl (jM_at hl34 0 rfl) ?_
          refine jn_ifd (t := 61) (c := true) rfl rfl rfl (by decide) ?_
          show az_X P _ 127 61 ls34 [] _ _
          refine jm_iload_n (x := 0) rfl rfl (jM_at hl34 2 rfl) ?_
          refine jm_iload_n (x := D) rfl rfl (jM_at hl34 5 rfl) ?_
          refine jx_ic (t := 77) rfl rfl rfl (fun hc63 => ?_) (fun hc63 => ?_)
          · have g63 := jc2_ne_t hc63
            exfalso
            omega
          · have g63 := jc2_ne_f hc63
            exfalso
            omega
theorem tm_ok {P : si_P} (hxa : P.2.1 < P.1) {d : Nat} {h : si_H} (hH : az_HI P az_tb h) {n p F : Int} {hh : Int → Int} (hn : 1 ≤ n ∧ n ≤ 240) (e1 : ja h 14 1 = n) (e2 : ja h 14 2 = p) (e3 : ja h 14 3 = F) (hb : jBY h n hh) (hh1 : ∀ i : Int, hh i ≤ 255) (hp : p ≤ 240 ∨ F ≠ 0) : az_X P (d + 3) 128 0 (lv_args 0 [.ref (P.1 + 14), .ref (P.1 + 1)]) [] h (fun rv h' => ∃ z : Int32, rv = some (.int z) ∧ az_HI P az_tb h' ∧ az_same_out [(14, 2), (14, 3)] h h' ∧ (0 ≤ z.toInt ∧ z.toInt ≤ 9999) ∧ ((F = 0 ∧ ∃ f q v : Int, jAN hh p 4 f q v ∧ ((f = 0 ∧ v < ja h 1 0 * ja h 1 1 ∧ z.toInt = v ∧ ja h' 14 2 = q ∧ ja h' 14 3 = 0) ∨ (f = 0 ∧ ja h 1 0 * ja h 1 1 ≤ v ∧ ja h' 14 3 = -3000 - p) ∨ (f ≠ 0 ∧ ja h' 14 3 = f))) ∨ (F ≠ 0 ∧ z.toInt = 0 ∧ ja h' 14 3 = F ∧ ja h' 14 2 = p))) := by
  have bp : 0 ≤ ja h 14 2 ∧ ja h 14 2 ≤ 241 := ja_bd hH (i := 14) (k := 2) rfl
  have bF : -7000 ≤ ja h 14 3 ∧ ja h 14 3 ≤ 0 := ja_bd hH (i := 14) (k := 3) rfl
  have bm : 4 ≤ ja h 1 0 ∧ ja h 1 0 ≤ 60 := ja_bd hH (i := 1) (k := 0) rfl
  have br : 2 ≤ ja h 1 1 ∧ ja h 1 1 ≤ 24 := ja_bd hH (i := 1) (k := 1) rfl
  have bq := nm_mulnn (a := 4) (b := 60) (c := 2) (d := 24) (x := ja h 1 0) (y := ja h 1 1) (by decide) (by decide) bm.1 bm.2 br.1 br.2
  have hl : jM [(0, .ref (P.1 + 14)), (1, .ref (P.1 + 1))] (lv_args 0 [.ref (P.1 + 14), .ref (P.1 + 1)]) := jM_args [0, 1] rfl (by decide)
  generalize lv_args 0 [.ref (P.1 + 14), .ref (P.1 + 1)] = ls at hl
  have k0 : (0 : Int32).toInt = 0 := by decide
  have k3 : (3 : Int32).toInt = 3 := by decide
  have k4 : (4 : Int32).toInt = 4 := by decide
  refine jm_aload_n (x := P.1 + 14) rfl rfl (jM_at hl 0 rfl) ?_
  refine jn_gf (i := 14) (k := 2) rfl rfl hH (by decide) (hH.2 14 _ rfl).1 rfl rfl (fun z1 (ez1 : z1.toInt = ja h 14 2) (bz1 : 0 ≤ z1.toInt ∧ z1.toInt ≤ 241) => ?_)
  refine jm_istore_n (l' := [(2, .int z1), (0, .ref (P.1 + 14)), (1, .ref (P.1 + 1))]) rfl rfl (by decide) hl rfl rfl (fun ls4 hl4 => ?_)
  refine jm_aload_n (x := P.1 + 14) rfl rfl (jM_at hl4 1 rfl) ?_
  refine az_X_step (pc' := 7) (ls' := ls4) (st' := [.int 4, .ref (P.1 + 14)]) (h' := h) rfl rfl rfl ?_
  refine az_X_call (m' := 127) (as := [.ref (P.1 + 14), .int 4]) (rest := []) rfl rfl rfl rfl rfl ?_ ?_
  · unfold si_call
    dsimp only
    rw [if_pos ⟨rfl, rfl⟩]
    show (match si_ix P h (P.1 + 14) with | some i => _ | none => none) = _
    rw [jix hH (by decide)]
    dsimp only
    rw [(hH.2 14 _ rfl).1]
    rfl
  refine (nu_ok hxa hH hn e1 e2 e3 hb hh1 hp 4 (by decide)).mono ?_
  rintro rv7 h7 ⟨z7, rfl, hH7, hs7, f7⟩
  show az_X P _ 128 10 ls4 [.int z7] _ _
  refine jm_istore_n (l' := [(3, .int z7), (2, .int z1), (0, .ref (P.1 + 14)), (1, .ref (P.1 + 1))]) rfl rfl (by decide) hl4 rfl rfl (fun ls10 hl10 => ?_)
  refine jm_aload_n (x := P.1 + 1) rfl rfl (jM_at hl10 3 rfl) ?_
  refine jm_iload_n (x := z7) rfl rfl (jM_at hl10 0 rfl) ?_
  refine az_X_call (m' := 74) (as := [.ref (P.1 + 1), .int z7]) (rest := []) rfl rfl rfl rfl rfl ?_ ?_
  · unfold si_call
    dsimp only
    rw [if_pos ⟨rfl, rfl⟩]
    show (match si_ix P h7 (P.1 + 1) with | some i => _ | none => none) = _
    rw [jix hH7 (by decide)]
    dsimp only
    rw [(hH7.2 1 _ rfl).1]
    rfl
  refine (istime0_ok hH7 z7).mono ?_
  rintro rv13 h13 ⟨q13, z13, rfl, ez13⟩
  subst h13
  have r0 : ja h7 1 0 = ja h 1 0 := jso hs7 (by decide)
  have r1 : ja h7 1 1 = ja h 1 1 := jso hs7 (by decide)
  rw [r0, r1] at ez13
  show az_X P _ 128 16 ls10 [.int z13] _ _
  refine jx_if (t := 25) rfl rfl rfl (fun hc16 => ?_) (fun hc16 => ?_)
  · have g16 := jc1_ne_t hc16
    refine jm_iload_n (x := z7) rfl rfl (jM_at hl10 0 rfl) ?_
    refine jx_ret rfl rfl rfl ?_
    have k4b : (4 : Int32).toInt.toNat = 4 := by decide
    rw [k4b] at f7
    refine ⟨z7, rfl, hH7, hs7, ?_, ?_⟩
    · rcases f7 with ⟨-, f, q, v, a1, a2⟩ | ⟨-, a2, -⟩
      · rcases a2 with ⟨b1, b2, -⟩ | ⟨-, b2, -⟩
        · subst b1
          have := jAN_v (by omega) (by omega) a1
          omega
        · omega
      · omega
    · rcases f7 with ⟨hF, f, q, v, a1, a2⟩ | ⟨hF, a2, a3⟩
      · refine Or.inl ⟨hF, f, q, v, a1, ?_⟩
        rcases a2 with ⟨b1, b2, b3, b4⟩ | ⟨b1, b2, b3⟩
        · exact Or.inl ⟨b1, by omega, b2, b3, b4⟩
        · exact Or.inr (Or.inr ⟨b1, b3⟩)
      · subst a3
        exact Or.inr ⟨hF, a2, e3, e2⟩
  · have g16 := jc1_ne_f hc16
    refine jm_aload_n (x := P.1 + 14) rfl rfl (jM_at hl10 2 rfl) ?_
    refine az_X_step (pc' := 21) (ls' := ls10) (st' := [.int 3, .ref (P.1 + 14)]) (h' := h7) rfl rfl rfl ?_
    refine jm_iload_n (x := z1) rfl rfl (jM_at hl10 1 rfl) ?_
    refine az_X_call (m' := 125) (as := [.ref (P.1 + 14), .int 3, .int z1]) (rest := []) rfl rfl rfl rfl rfl ?_ ?_
    · unfold si_call
      dsimp only
      rw [if_pos ⟨rfl, rfl⟩]
      show (match si_ix P h7 (P.1 + 14) with | some i => _ | none => none) = _
      rw [jix hH7 (by decide)]
      dsimp only
      rw [(hH7.2 14 _ rfl).1]
      rfl
    refine (fl_ok hH7 3 z1 (by decide) (by omega)).mono ?_
    rintro rv22 h22 ⟨rfl, hH22, hs22, f22⟩
    show az_X P _ 128 25 ls10 [] _ _
    refine jm_iload_n (x := z7) rfl rfl (jM_at hl10 0 rfl) ?_
    refine jx_ret rfl rfl rfl ?_
    have k4b : (4 : Int32).toInt.toNat = 4 := by decide
    rw [k4b] at f7
    refine ⟨z7, rfl, hH22, (hs7.sub (by decide)).tr (hs22.sub (by decide)), ?_, ?_⟩
    · rcases f7 with ⟨-, f, q, v, a1, a2⟩ | ⟨-, a2, -⟩
      · rcases a2 with ⟨b1, b2, -⟩ | ⟨-, b2, -⟩
        · subst b1
          have := jAN_v (by omega) (by omega) a1
          omega
        · omega
      · omega
    · rcases f7 with ⟨hF, f, q, v, a1, a2⟩ | ⟨hF, a2, a3⟩
      · refine Or.inl ⟨hF, f, q, v, a1, ?_⟩
        rcases a2 with ⟨b1, b2, b3, b4⟩ | ⟨b1, b2, b3⟩
        · subst b1
          have := jAN_v (by omega) (by omega) a1
          exact Or.inr (Or.inl ⟨rfl, by omega, (f22.1 b4).trans (by omega)⟩)
        · exfalso
          omega
      · exfalso
        omega
