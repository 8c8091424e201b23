/-! locals of which some are known -/
def jM (l : List (Nat × Value)) (ls : si_L) : Prop := ∀ q ∈ l, si_ld q.1 ls = some q.2
theorem jM_at {l : List (Nat × Value)} {ls : si_L} (h : jM l ls) (i : Nat) {k : Nat} {v : Value} (hi : l[i]? = some (k, v)) : si_ld k ls = some v := h (k, v) (List.mem_of_getElem? hi)
theorem jM_args {l : List (Nat × Value)} (ks : List Nat) (he : l.map (fun q => q.1) = ks) (hd : ks.Nodup) : jM l l := by
  subst he
  intro q hq
  induction l with
  | nil => cases hq
  | cons a r ih =>
    unfold si_ld
    rcases List.mem_cons.mp hq with rfl | hq
    · exact if_pos rfl
    · rw [List.map_cons, List.nodup_cons] at hd
      rw [if_neg]
      · exact ih hd.2 hq
      · intro e
        exact hd.1 (e ▸ List.mem_map.mpr ⟨q, hq, rfl⟩)
theorem si_ld_f {k : Nat} {v : Value} {f : Nat × Value → Bool} : ∀ {l : si_L}, (∀ w, (k, w) ∈ l → si_ld k l = some w → f (k, w) = true) → si_ld k l = some v → si_ld k (l.filter f) = some v
  | [], _, h => by cases h
  | q :: r, hf, h => by
    unfold si_ld at h
    split at h
    · rename_i e
      cases h
      have hq : f q = true := by
        have := hf q.2 (by rw [← e]; exact List.mem_cons_self) (by unfold si_ld; rw [if_pos e])
        rw [← e] at this
        exact this
      rw [List.filter_cons, if_pos hq]
      unfold si_ld
      exact if_pos e
    · rename_i e
      have ih := si_ld_f (l := r) (fun w hw hl => hf w (List.mem_cons_of_mem _ hw) (by unfold si_ld; rw [if_neg e]; exact hl)) h
      rw [List.filter_cons]
      split
      · unfold si_ld
        rw [if_neg e]
        exact ih
      · exact ih
theorem jM_st {l l' : List (Nat × Value)} {ls : si_L} {k : Nat} {v : Value} (h : jM l ls) (h' : l' = (k, v) :: l.filter (fun q => !(q.1 == k))) (hc : l.all (fun q => q.2.category == 1) = true) : jM l' (si_st1 ls k v) := by
  subst h'
  intro q hq
  unfold si_st1
  rcases List.mem_cons.mp hq with rfl | hq
  · unfold si_ld
    exact if_pos rfl
  · obtain ⟨h1, h2⟩ := List.mem_filter.mp hq
    have h3 : ¬ q.1 = k := by simpa using h2
    have h4 : q.2.category = 1 := by
      have := List.all_eq_true.mp hc q h1
      simpa using this
    unfold si_ld
    rw [if_neg (fun e => h3 e.symm)]
    refine si_ld_f (fun w hw hl => ?_) (h q h1)
    have h5 : w = q.2 := by
      have := h q h1
      rw [hl] at this
      exact Option.some.inj this
    subst h5
    simp [h3, h4]
section Jm
variable {P : si_P} {d mi pc : Nat} {y : si_M} {ls : si_L} {st : List Value} {h : si_H} {Q : Option Value → si_H → Prop} {q : Nat × Nat × Nat}
theorem jm_iload_n {k : Fin 4} {x : Int32} (hy : si_m mi = some y) (he : si_fetch mi pc = some (.iload_n k, 1, q)) (L : si_ld (k : Nat) ls = some (.int x)) (kk : az_X P d mi (pc + 1) ls (.int x :: st) h Q) : az_X P d mi pc ls st h Q := by
  refine az_X_step (pc' := pc + 1) (ls' := ls) (st' := .int x :: st) (h' := h) hy he ?_ kk
  unfold si_step
  dsimp only
  show (match si_ld (k : Nat) ls with | some v => if si_kd v 0 = true then some (pc + 1, ls, v :: st, h) else none | none => none) = _
  rw [L]
  all_goals rfl
theorem jm_iload {k : Nat} {x : Int32} (hy : si_m mi = some y) (he : si_fetch mi pc = some (.iload k, 2, q)) (L : si_ld k ls = some (.int x)) (kk : az_X P d mi (pc + 2) ls (.int x :: st) h Q) : az_X P d mi pc ls st h Q := by
  refine az_X_step (pc' := pc + 2) (ls' := ls) (st' := .int x :: st) (h' := h) hy he ?_ kk
  unfold si_step
  dsimp only
  show (match si_ld (k : Nat) ls with | some v => if si_kd v 0 = true then some (pc + 2, ls, v :: st, h) else none | none => none) = _
  rw [L]
  all_goals rfl
theorem jm_aload_n {k : Fin 4} {x : Nat} (hy : si_m mi = some y) (he : si_fetch mi pc = some (.aload_n k, 1, q)) (L : si_ld (k : Nat) ls = some (.ref x)) (kk : az_X P d mi (pc + 1) ls (.ref x :: st) h Q) : az_X P d mi pc ls st h Q := by
  refine az_X_step (pc' := pc + 1) (ls' := ls) (st' := .ref x :: st) (h' := h) hy he ?_ kk
  unfold si_step
  dsimp only
  show (match si_ld (k : Nat) ls with | some v => if si_kd v 2 = true then some (pc + 1, ls, v :: st, h) else none | none => none) = _
  rw [L]
  all_goals rfl
theorem jm_istore_n {k : Fin 4} {x : Int32} {l l' : List (Nat × Value)} (hy : si_m mi = some y) (he : si_fetch mi pc = some (.istore_n k, 1, q)) (hk : (k : Nat) + 1 ≤ y.2.2.2.1) (hl : jM l ls) (h' : l' = ((k : Nat), Value.int x) :: l.filter (fun q => !(q.1 == (k : Nat)))) (hc : l.all (fun q => q.2.category == 1) = true) (kk : ∀ ls' : si_L, jM l' ls' → az_X P d mi (pc + 1) ls' st h Q) : az_X P d mi pc ls (.int x :: st) h Q := by
  refine az_X_step (pc' := pc + 1) (ls' := si_st1 ls k (.int x)) (st' := st) (h' := h) hy he ?_ (kk _ (jM_st hl h' hc))
  unfold si_step
  dsimp only
  show (if si_kd (.int x) 0 = true ∧ (k : Nat) + (Value.int x).category ≤ y.2.2.2.1 then some (pc + 1, if (Value.int x).category = 2 then si_st2 ls k (.int x) else si_st1 ls k (.int x), st, h) else none) = _
  rw [if_pos ⟨rfl, hk⟩]
  all_goals rfl
theorem jm_istore {k : Nat} {x : Int32} {l l' : List (Nat × Value)} (hy : si_m mi = some y) (he : si_fetch mi pc = some (.istore k, 2, q)) (hk : k + 1 ≤ y.2.2.2.1) (hl : jM l ls) (h' : l' = (k, Value.int x) :: l.filter (fun q => !(q.1 == k))) (hc : l.all (fun q => q.2.category == 1) = true) (kk : ∀ ls' : si_L, jM l' ls' → az_X P d mi (pc + 2) ls' st h Q) : az_X P d mi pc ls (.int x :: st) h Q := by
  refine az_X_step (pc' := pc + 2) (ls' := si_st1 ls k (.int x)) (st' := st) (h' := h) hy he ?_ (kk _ (jM_st hl h' hc))
  unfold si_step
  dsimp only
  show (if si_kd (.int x) 0 = true ∧ (k : Nat) + (Value.int x).category ≤ y.2.2.2.1 then some (pc + 2, if (Value.int x).category = 2 then si_st2 ls k (.int x) else si_st1 ls k (.int x), st, h) else none) = _
  rw [if_pos ⟨rfl, hk⟩]
  all_goals rfl
theorem jm_iinc {k : Nat} {n : Int} {x x' : Int32} {l l' : List (Nat × Value)} (hy : si_m mi = some y) (he : si_fetch mi pc = some (.iinc k n, 3, q)) (hk : k < y.2.2.2.1) (L : si_ld k ls = some (.int x)) (hx : x + Int32.ofInt n = x') (hl : jM l ls) (h' : l' = (k, Value.int x') :: l.filter (fun q => !(q.1 == k))) (hc : l.all (fun q => q.2.category == 1) = true) (kk : ∀ ls' : si_L, jM l' ls' → az_X P d mi (pc + 3) ls' st h Q) : az_X P d mi pc ls st h Q := by
  subst hx
  refine az_X_step (pc' := pc + 3) (ls' := si_st1 ls k (.int (x + Int32.ofInt n))) (st' := st) (h' := h) hy he ?_ (kk _ (jM_st hl h' hc))
  unfold si_step
  dsimp only
  rw [if_pos ⟨rfl, hk⟩, L]
  all_goals rfl
theorem jx_ial {i n : Nat} {lo hi : Int} {x : Int32} (hy : si_m mi = some y) (he : si_fetch mi pc = some (.iaload, 1, q)) (hxa : P.2.1 < P.1) (hH : az_HI P az_tb h) (hi' : i < az_tb.length) (ht : az_tb[i]? = some (.inr (.int, n, lo, hi))) (h0 : 0 ≤ x.toInt) (h1 : x.toInt < n) (kk : ∀ z : Int32, z.toInt = ja h i x.toInt → lo ≤ z.toInt ∧ z.toInt ≤ hi → az_X P d mi (pc + 1) ls (.int z :: st) h Q) : az_X P d mi pc ls (.int x :: .ref (P.1 + i) :: st) h Q := by
  have hc : x.toNatClampNeg = x.toInt.toNat := rfl
  obtain ⟨hs, hr⟩ := hH.2 i _ ht
  have h3 := hr x.toInt.toNat (by show x.toInt.toNat < n; omega)
  unfold az_aok at h3
  rw [if_neg (fun e => by cases e)] at h3
  obtain ⟨z, hz, hz1, hz2⟩ := h3
  have hin : si_in x n = true := by
    unfold si_in
    rw [Bool.and_eq_true, decide_eq_true_eq, decide_eq_true_eq]
    exact ⟨(nm_leI 0 x).mpr (by have : (0 : Int32).toInt = 0 := by decide
                                omega), by omega⟩
  refine az_X_step (pc' := pc + 1) (ls' := ls) (st' := .int z :: st) (h' := h) hy he ?_ (kk z ?_ ⟨hz1, hz2⟩)
  · unfold si_step
    dsimp only
    rw [if_pos rfl, if_neg (show ¬ (P.1 + i = P.2.1) by omega)]
    unfold si_ald
    rw [jix hH hi']
    dsimp only
    rw [hs]
    dsimp only
    rw [if_pos ⟨hin, List.mem_singleton.mpr rfl⟩, hc, hz]
  · show z.toInt = ji h i x.toInt.toNat
    unfold ji
    rw [hz]
end Jm
/-! LISTEN -/
set_option maxRecDepth 100000
theorem jM_pick {l l' : List (Nat × Value)} {ls : si_L} (h : jM l ls) (is : List Nat) (he : is.filterMap (fun i => l[i]?) = l') : jM l' ls := by
  intro q hq
  rw [← he] at hq
  obtain ⟨i, -, hi⟩ := List.mem_filterMap.mp hq
  exact h q (List.mem_of_getElem? hi)
/-- how many of the numbers a, a + 1, .. -/
def jtC (p : Int → Bool) (a : Int) : Nat → Int
  | 0 => 0
  | n + 1 => jtC p a n + (if p (a + n) then 1 else 0)
theorem jtC_bd {p : Int → Bool} {a : Int} : ∀ n : Nat, 0 ≤ jtC p a n ∧ jtC p a n ≤ n
  | 0 => by unfold jtC; omega
  | n + 1 => by
    have i := jtC_bd (p := p) (a := a) n
    unfold jtC
    split <;> omega
theorem jtC_add {p : Int → Bool} {a : Int} (n : Nat) : ∀ k : Nat, jtC p a (n + k) = jtC p a n + jtC p (a + n) k
  | 0 => (Int.add_zero _).symm
  | k + 1 => by
    show jtC p a (n + k) + (if p (a + (n + k : Nat)) then 1 else 0) = jtC p a n + (jtC p (a + n) k + (if p (a + n + k) then 1 else 0))
    rw [jtC_add n k, show a + ((n + k : Nat) : Int) = a + n + k by omega]
    exact Int.add_assoc _ _ _
theorem jtC_cg {p q : Int → Bool} {a : Int} : ∀ n : Nat, (∀ j : Nat, j < n → p (a + j) = q (a + j)) → jtC p a n = jtC q a n
  | 0, _ => rfl
  | n + 1, h => by
    unfold jtC
    rw [jtC_cg n (fun j hj => h j (by omega)), h n (by omega)]
theorem jtC_one {q : Int → Bool} {a : Int} {c : Nat} : ∀ n : Nat, jtC (fun t => decide (t = a + c) && q t) a n = if c < n then (if q (a + c) then 1 else 0) else 0
  | 0 => by
    rw [if_neg (by omega)]
    rfl
  | n + 1 => by
    show jtC (fun t => decide (t = a + c) && q t) a n + (if (decide (a + (n : Int) = a + c) && q (a + n)) = true then 1 else 0) = _
    rw [jtC_one n]
    by_cases h : n = c
    · subst h
      rw [if_neg (by omega), if_pos (show n < n + 1 by omega), decide_eq_true rfl, Bool.true_and, Int.zero_add]
    · have e : decide (a + (n : Int) = a + c) = false := decide_eq_false (by omega)
      rw [e, Bool.false_and, if_neg (show ¬ (false = true) by decide), Int.add_zero]
      by_cases h2 : c < n
      · rw [if_pos h2, if_pos (show c < n + 1 by omega)]
      · rw [if_neg h2, if_neg (show ¬ c < n + 1 by omega)]
theorem jtC_or {p p1 p2 : Int → Bool} {a : Int} : ∀ n : Nat, (∀ j : Nat, j < n → (if p (a + j) then (1 : Int) else 0) = (if p1 (a + j) then 1 else 0) + (if p2 (a + j) then 1 else 0)) → jtC p a n = jtC p1 a n + jtC p2 a n
  | 0, _ => rfl
  | n + 1, h => by
    have i := jtC_or n (fun j hj => h j (by omega))
    have k := h n (by omega)
    unfold jtC
    rw [i, k]
    generalize (if p1 (a + n) = true then (1 : Int) else 0) = x
    generalize (if p2 (a + n) = true then (1 : Int) else 0) = y
    omega
theorem jst_blk {m r v k j : Int} (hm : 4 ≤ m) (hr : 2 ≤ r) (hk : 0 ≤ k) (hj : 0 ≤ j) (hj2 : j < m) : 0 < jst m r (m * k + j) v ↔ (j = 0 ∨ (v = 1 ∧ j = m / 2)) := by
  have e1 : (m * k + j) % m = j := by rw [Int.add_comm, Int.add_mul_emod_self_left]; exact Int.emod_eq_of_lt hj hj2
  have e2 : (m * k + j) / m = k := by rw [Int.add_comm, Int.add_mul_ediv_left _ _ (by omega), Int.ediv_eq_zero_of_lt hj hj2, Int.zero_add]
  unfold jst
  rw [e1, e2]
  repeat' split
  all_goals omega
/-- the time of a strike; how many strikes -/
def jtof (m v i : Int) : Int := if v = 1 then i / 2 * m + i % 2 * (m / 2) else i * m
def jsn (v : Int) (k : Nat) : Nat := if v = 1 then 2 * k else k
theorem jtw {m r v : Int} {w : Nat} (hw : m = w) (hm : 4 ≤ m) (hr : 2 ≤ r) (q : Int → Bool) : ∀ k : Nat, jtC (fun t => decide (0 < jst m r t v) && q t) 0 (w * k) = jtC (fun i => q (jtof m v i)) 0 (jsn v k)
  | 0 => by
    unfold jsn
    split <;> rfl
  | k + 1 => by
    have ih := jtw (r := r) (v := v) hw hm hr q k
    have eA : ((w * k : Nat) : Int) = m * k := by rw [hw]; exact Int.natCast_mul w k
    rw [Nat.mul_succ, jtC_add, ih, Int.zero_add]
    generalize ((w * k : Nat) : Int) = A at eA
    by_cases hv : v = 1
    · have e0 : jtC (fun t => decide (0 < jst m r t v) && q t) A w = jtC (fun t => decide (t = A + (0 : Nat)) && q t) A w + jtC (fun t => decide (t = A + (w / 2 : Nat)) && q t) A w := by
        apply jtC_or
        intro j hj
        have b := jst_blk (v := v) (k := k) (j := j) hm hr (by omega) (by omega) (by omega)
        rw [← eA] at b
        have d0 : decide (A + (j : Int) = A + ((0 : Nat) : Int)) = decide (j = 0) := decide_eq_decide.mpr (by omega)
        have d1 : decide (A + (j : Int) = A + ((w / 2 : Nat) : Int)) = decide (j = w / 2) := decide_eq_decide.mpr (by omega)
        have d2 : decide (0 < jst m r (A + j) v) = (decide (j = 0) || decide (j = w / 2)) := by
          rw [← Bool.decide_or]
          exact decide_eq_decide.mpr (b.trans (by omega))
        show (if (decide (0 < jst m r (A + j) v) && q (A + j)) = true then (1 : Int) else 0) = (if (decide (A + (j : Int) = A + ((0 : Nat) : Int)) && q (A + j)) = true then 1 else 0) + (if (decide (A + (j : Int) = A + ((w / 2 : Nat) : Int)) && q (A + j)) = true then 1 else 0)
        rw [d0, d1, d2]
        have hx : (decide (j = 0) && decide (j = w / 2)) = false := by
          rw [← Bool.decide_and]
          exact decide_eq_false (by omega)
        generalize decide (j = 0) = x at hx
        generalize decide (j = w / 2) = y at hx
        cases x <;> cases y <;> cases q (A + j) <;> first | rfl | exact absurd hx (by decide)
      have n1 : jsn v (k + 1) = jsn v k + 1 + 1 := by unfold jsn; rw [if_pos hv, if_pos hv]; omega
      have n0 : jsn v k = 2 * k := by unfold jsn; rw [if_pos hv]
      have f0 : jtof m v (0 + ((2 * k : Nat) : Int)) = A + ((0 : Nat) : Int) := by
        unfold jtof
        rw [if_pos hv, show (0 + ((2 * k : Nat) : Int)) / 2 = k by omega, show (0 + ((2 * k : Nat) : Int)) % 2 = 0 by omega, Int.zero_mul, eA, Int.mul_comm]
        omega
      have f1 : jtof m v (0 + ((2 * k + 1 : Nat) : Int)) = A + ((w / 2 : Nat) : Int) := by
        unfold jtof
        rw [if_pos hv, show (0 + ((2 * k + 1 : Nat) : Int)) / 2 = k by omega, show (0 + ((2 * k + 1 : Nat) : Int)) % 2 = 1 by omega, Int.one_mul, eA, Int.mul_comm]
        omega
      rw [e0, jtC_one, jtC_one, if_pos (show 0 < w by omega), if_pos (show w / 2 < w by omega), n1, n0]
      show _ = jtC (fun i => q (jtof m v i)) 0 (2 * k) + (if q (jtof m v (0 + ((2 * k : Nat) : Int))) = true then 1 else 0) + (if q (jtof m v (0 + ((2 * k + 1 : Nat) : Int))) = true then 1 else 0)
      rw [f0, f1]
      exact (Int.add_assoc _ _ _).symm
    · have e0 : jtC (fun t => decide (0 < jst m r t v) && q t) A w = jtC (fun t => decide (t = A + (0 : Nat)) && q t) A w := by
        apply jtC_cg
        intro j hj
        have b := jst_blk (v := v) (k := k) (j := j) hm hr (by omega) (by omega) (by omega)
        rw [← eA] at b
        show (decide (0 < jst m r (A + j) v) && q (A + j)) = (decide (A + (j : Int) = A + ((0 : Nat) : Int)) && q (A + j))
        rw [show decide (0 < jst m r (A + j) v) = decide (A + (j : Int) = A + ((0 : Nat) : Int)) from decide_eq_decide.mpr (b.trans (by omega))]
      have n1 : jsn v (k + 1) = jsn v k + 1 := by unfold jsn; rw [if_neg hv, if_neg hv]
      have n0 : jsn v k = k := by unfold jsn; rw [if_neg hv]
      have f0 : jtof m v (0 + (k : Int)) = A + ((0 : Nat) : Int) := by
        unfold jtof
        rw [if_neg hv, Int.zero_add, eA, Int.mul_comm]
        omega
      rw [e0, jtC_one, if_pos (show 0 < w by omega), n1, n0]
      show _ = jtC (fun i => q (jtof m v i)) 0 k + (if q (jtof m v (0 + (k : Int))) = true then 1 else 0)
      rw [f0]
/-- the most of the numbers g 0, g 1, .. (0 if none is above) -/
def jtM (g : Int → Int) : Nat → Int
  | 0 => 0
  | n + 1 => max (jtM g n) (g n)
theorem jtM_bd {g : Int → Int} {b : Int} (hb : 0 ≤ b) : ∀ n : Nat, (∀ j : Nat, j < n → g j ≤ b) → 0 ≤ jtM g n ∧ jtM g n ≤ b
  | 0, _ => ⟨Int.le_refl _, hb⟩
  | n + 1, h => by
    have i := jtM_bd (g := g) hb n (fun j hj => h j (by omega))
    have k := h n (by omega)
    unfold jtM
    omega
theorem smany_ok {P : si_P} {d : Nat} {h : si_H} (hH : az_HI P az_tb h) (v : Int32) (hv : v = 0 ∨ v = 1) : az_X P d 15 0 (lv_args 0 [.ref (P.1 + 5), .int v]) [] h (fun rv h' => h' = h ∧ jV rv (if v.toInt = 1 then 2 * ja h 1 1 else ja h 1 1)) := by
  obtain ⟨⟨M, hM, eM⟩, bM⟩ := jt_ok hH (i := 1) (k := 0) rfl
  obtain ⟨⟨R, hR, eR⟩, bR⟩ := jt_ok hH (i := 1) (k := 1) rfl
  have eM' : ja h 1 0 = M.toInt := eM.symm
  have eR' : ja h 1 1 = R.toInt := eR.symm
  have b1 : 4 ≤ ji h 1 0 ∧ ji h 1 0 ≤ 60 := bM
  have b2 : 2 ≤ ji h 1 1 ∧ ji h 1 1 ≤ 24 := bR
  rw [eR']
  have bp := nm_mulnn (a := 4) (b := 60) (c := 2) (d := 24) (x := M.toInt) (y := R.toInt) (by decide) (by decide) (by omega) (by omega) (by omega) (by omega)
  have ep : (M * R).toInt = M.toInt * R.toInt := nm_mul (by omega) (by omega)
  have hv' : v.toInt = 0 ∨ v.toInt = 1 := hv.elim (fun e => Or.inl (by rw [e]; decide)) (fun e => Or.inr (by rw [e]; decide))
  have z2 : (2 : Int32).toInt = 2 := by decide
  have e2 : (2 * R).toInt = 2 * R.toInt := by rw [nm_mul (by rw [z2]; omega) (by rw [z2]; omega), z2]
  refine az_X_step (pc' := 1) (ls' := [(0, .ref (P.1 + 5)), (1, .int v)]) (st' := [.int v]) (h' := h) rfl rfl rfl ?_
  refine jx_if (t := 16) rfl rfl rfl (fun hc1 => ?_) (fun hc1 => ?_)
  · have g1 := jc1_eq_t hc1
    refine az_X_step (pc' := 17) (ls' := [(0, .ref (P.1 + 5)), (1, .int v)]) (st' := [.ref (P.1 + 5)]) (h' := h) rfl rfl rfl ?_
    refine jx_gf (i := 5) rfl rfl hH (by decide) (hH.2 5 _ rfl).1 rfl (jx_rf hH rfl rfl) ?_
    refine jx_gf (i := 1) rfl rfl hH (by decide) (hH.2 1 _ rfl).1 rfl hR ?_
    refine jx_ret rfl rfl rfl ?_
    exact ⟨rfl, R, rfl, by split <;> omega⟩
  · have g1 := jc1_eq_f hc1
    refine az_X_step (pc' := 5) (ls' := [(0, .ref (P.1 + 5)), (1, .int v)]) (st' := [.int 2]) (h' := h) rfl rfl rfl ?_
    refine az_X_step (pc' := 6) (ls' := [(0, .ref (P.1 + 5)), (1, .int v)]) (st' := [.ref (P.1 + 5), .int 2]) (h' := h) rfl rfl rfl ?_
    refine jx_gf (i := 5) rfl rfl hH (by decide) (hH.2 5 _ rfl).1 rfl (jx_rf hH rfl rfl) ?_
    refine jx_gf (i := 1) rfl rfl hH (by decide) (hH.2 1 _ rfl).1 rfl hR ?_
    refine az_X_step (pc' := 13) (ls' := [(0, .ref (P.1 + 5)), (1, .int v)]) (st' := [.int (2 * R)]) (h' := h) rfl rfl rfl ?_
    refine az_X_step (pc' := 23) (ls' := [(0, .ref (P.1 + 5)), (1, .int v)]) (st' := [.int (2 * R)]) (h' := h) rfl rfl rfl ?_
    refine jx_ret rfl rfl rfl ?_
    exact ⟨rfl, 2 * R, rfl, by split <;> omega⟩
theorem tofm_ok {P : si_P} {d : Nat} {h : si_H} (hH : az_HI P az_tb h) (i v : Int32) (hv : v = 0 ∨ v = 1) (hi : 0 ≤ i.toInt) : az_X P (d + 1) 16 0 (lv_args 0 [.ref (P.1 + 5), .int i, .int v]) [] h (fun rv h' => h' = h ∧ jV rv (jtof (ja h 1 0) v.toInt (i.toInt % (if v.toInt = 1 then 2 * ja h 1 1 else ja h 1 1)))) := by
  obtain ⟨⟨M, hM, eM⟩, bM⟩ := jt_ok hH (i := 1) (k := 0) rfl
  obtain ⟨⟨R, hR, eR⟩, bR⟩ := jt_ok hH (i := 1) (k := 1) rfl
  have eM' : ja h 1 0 = M.toInt := eM.symm
  have eR' : ja h 1 1 = R.toInt := eR.symm
  have b1 : 4 ≤ ji h 1 0 ∧ ji h 1 0 ≤ 60 := bM
  have b2 : 2 ≤ ji h 1 1 ∧ ji h 1 1 ≤ 24 := bR
  have bp := nm_mulnn (a := 4) (b := 60) (c := 2) (d := 24) (x := M.toInt) (y := R.toInt) (by decide) (by decide) (by omega) (by omega) (by omega) (by omega)
  have ep : (M * R).toInt = M.toInt * R.toInt := nm_mul (by omega) (by omega)
  have hv' : v.toInt = 0 ∨ v.toInt = 1 := hv.elim (fun e => Or.inl (by rw [e]; decide)) (fun e => Or.inr (by rw [e]; decide))
  have z2 : (2 : Int32).toInt = 2 := by decide
  have N2 : 2 ≤ (if v.toInt = 1 then 2 * ja h 1 1 else ja h 1 1) ∧ (if v.toInt = 1 then 2 * ja h 1 1 else ja h 1 1) ≤ 48 := by rw [eR']; split <;> omega
  have eh : (M / 2).toInt = M.toInt / 2 := by rw [nm_div (by decide), nm_tdiv_nn (by omega), z2]
  generalize hN : (if v.toInt = 1 then 2 * ja h 1 1 else ja h 1 1) = N at N2
  have i0 := Int.emod_nonneg i.toInt (b := N) (by omega)
  have i1 := Int.emod_lt_of_pos i.toInt (b := N) (by omega)
  refine az_X_step (pc' := 1) (ls' := [(0, .ref (P.1 + 5)), (1, .int i), (2, .int v)]) (st' := [.int i]) (h' := h) rfl rfl rfl ?_
  refine az_X_step (pc' := 2) (ls' := [(0, .ref (P.1 + 5)), (1, .int i), (2, .int v)]) (st' := [.ref (P.1 + 5), .int i]) (h' := h) rfl rfl rfl ?_
  refine az_X_step (pc' := 3) (ls' := [(0, .ref (P.1 + 5)), (1, .int i), (2, .int v)]) (st' := [.int v, .ref (P.1 + 5), .int i]) (h' := h) rfl rfl rfl ?_
  refine az_X_call (m' := 15) (as := [.ref (P.1 + 5), .int v]) (rest := [.int i]) rfl rfl rfl rfl rfl ?_ ?_
  · unfold si_call
    dsimp only
    rw [if_pos ⟨rfl, rfl⟩]
    show (match si_ix P h (P.1 + 5) with | some i => _ | none => none) = _
    rw [jix hH (by decide)]
    dsimp only
    rw [(hH.2 5 _ rfl).1]
    rfl
  refine (smany_ok hH v hv).mono ?_
  rintro rv3 h3 ⟨q3, z3, rfl, ez3⟩
  subst h3
  rw [hN] at ez3
  show az_X P _ 16 6 [(0, .ref (P.1 + 5)), (1, .int i), (2, .int v)] [.int z3, .int i] _ _
  refine az_X_call (m' := 200) (as := [.int i, .int z3]) (rest := []) rfl rfl rfl rfl rfl rfl ?_
  refine (modulo_ok i z3 (by rw [ez3]; omega)).mono ?_
  rintro rv6 h6 ⟨q6, z6, rfl, ez6⟩
  subst h6
  have ej : z6.toInt = i.toInt % N := by rw [ez6, ez3]
  show az_X P _ 16 9 [(0, .ref (P.1 + 5)), (1, .int i), (2, .int v)] [.int z6] _ _
  refine az_X_step (pc' := 10) (ls' := [(3, .int z6), (0, .ref (P.1 + 5)), (1, .int i), (2, .int v)]) (st' := []) (h' := h) rfl rfl rfl ?_
  refine az_X_step (pc' := 11) (ls' := [(3, .int z6), (0, .ref (P.1 + 5)), (1, .int i), (2, .int v)]) (st' := [.int v]) (h' := h) rfl rfl rfl ?_
  refine jx_if (t := 24) rfl rfl rfl (fun hc11 => ?_) (fun hc11 => ?_)
  · have g11 := jc1_ne_t hc11
    refine az_X_step (pc' := 25) (ls' := [(3, .int z6), (0, .ref (P.1 + 5)), (1, .int i), (2, .int v)]) (st' := [.int z6]) (h' := h) rfl rfl rfl ?_
    refine az_X_step (pc' := 26) (ls' := [(3, .int z6), (0, .ref (P.1 + 5)), (1, .int i), (2, .int v)]) (st' := [.int 2, .int z6]) (h' := h) rfl rfl rfl ?_
    refine jx_div rfl rfl (by decide) ?_
    refine az_X_step (pc' := 28) (ls' := [(3, .int z6), (0, .ref (P.1 + 5)), (1, .int i), (2, .int v)]) (st' := [.ref (P.1 + 5), .int (z6 / 2)]) (h' := h) rfl rfl rfl ?_
    refine jx_gf (i := 5) rfl rfl hH (by decide) (hH.2 5 _ rfl).1 rfl (jx_rf hH rfl rfl) ?_
    refine jx_gf (i := 1) rfl rfl hH (by decide) (hH.2 1 _ rfl).1 rfl hM ?_
    refine az_X_step (pc' := 35) (ls' := [(3, .int z6), (0, .ref (P.1 + 5)), (1, .int i), (2, .int v)]) (st' := [.int ((z6 / 2) * M)]) (h' := h) rfl rfl rfl ?_
    refine az_X_step (pc' := 36) (ls' := [(3, .int z6), (0, .ref (P.1 + 5)), (1, .int i), (2, .int v)]) (st' := [.int z6, .int ((z6 / 2) * M)]) (h' := h) rfl rfl rfl ?_
    refine az_X_step (pc' := 37) (ls' := [(3, .int z6), (0, .ref (P.1 + 5)), (1, .int i), (2, .int v)]) (st' := [.int 2, .int z6, .int ((z6 / 2) * M)]) (h' := h) rfl rfl rfl ?_
    refine jx_rem rfl rfl (by decide) ?_
    refine az_X_step (pc' := 39) (ls' := [(3, .int z6), (0, .ref (P.1 + 5)), (1, .int i), (2, .int v)]) (st' := [.ref (P.1 + 5), .int (z6 - z6 / 2 * 2), .int ((z6 / 2) * M)]) (h' := h) rfl rfl rfl ?_
    refine jx_gf (i := 5) rfl rfl hH (by decide) (hH.2 5 _ rfl).1 rfl (jx_rf hH rfl rfl) ?_
    refine jx_gf (i := 1) rfl rfl hH (by decide) (hH.2 1 _ rfl).1 rfl hM ?_
    refine az_X_step (pc' := 46) (ls' := [(3, .int z6), (0, .ref (P.1 + 5)), (1, .int i), (2, .int v)]) (st' := [.int 2, .int M, .int (z6 - z6 / 2 * 2), .int ((z6 / 2) * M)]) (h' := h) rfl rfl rfl ?_
    refine jx_div rfl rfl (by decide) ?_
    refine az_X_step (pc' := 48) (ls' := [(3, .int z6), (0, .ref (P.1 + 5)), (1, .int i), (2, .int v)]) (st' := [.int ((z6 - z6 / 2 * 2) * (M / 2)), .int ((z6 / 2) * M)]) (h' := h) rfl rfl rfl ?_
    refine az_X_step (pc' := 49) (ls' := [(3, .int z6), (0, .ref (P.1 + 5)), (1, .int i), (2, .int v)]) (st' := [.int (((z6 / 2) * M) + ((z6 - z6 / 2 * 2) * (M / 2)))]) (h' := h) rfl rfl rfl ?_
    refine jx_ret rfl rfl rfl ?_
    exact ⟨rfl, ((z6 / 2) * M) + ((z6 - z6 / 2 * 2) * (M / 2)), rfl, by
      have q1 : (z6 / 2).toInt = i.toInt % N / 2 := by rw [nm_div (by decide), nm_tdiv_nn (by omega), z2, ej]
      have q2 : (z6 - z6 / 2 * 2).toInt = i.toInt % N % 2 := by rw [nm_rem (by decide), z2, Int.tmod_eq_emod_of_nonneg (by omega), ej]
      have m1 := nm_mulnn (a := 0) (b := 24) (c := 4) (d := 60) (x := i.toInt % N / 2) (y := M.toInt) (by decide) (by decide) (by omega) (by omega) (by omega) (by omega)
      have m2 := nm_mulnn (a := 0) (b := 1) (c := 2) (d := 30) (x := i.toInt % N % 2) (y := M.toInt / 2) (by decide) (by decide) (by omega) (by omega) (by omega) (by omega)
      have p1 : (z6 / 2 * M).toInt = i.toInt % N / 2 * M.toInt := by rw [nm_mul (by rw [q1]; omega) (by rw [q1]; omega), q1]
      have p2 : ((z6 - z6 / 2 * 2) * (M / 2)).toInt = i.toInt % N % 2 * (M.toInt / 2) := by rw [nm_mul (by rw [q2, eh]; omega) (by rw [q2, eh]; omega), q2, eh]
      rw [nm_add (by rw [p1, p2]; omega) (by rw [p1, p2]; omega), p1, p2, eM']
      unfold jtof
      rw [if_pos (by omega)]⟩
  · have g11 := jc1_ne_f hc11
    refine az_X_step (pc' := 15) (ls' := [(3, .int z6), (0, .ref (P.1 + 5)), (1, .int i), (2, .int v)]) (st' := [.int z6]) (h' := h) rfl rfl rfl ?_
    refine az_X_step (pc' := 16) (ls' := [(3, .int z6), (0, .ref (P.1 + 5)), (1, .int i), (2, .int v)]) (st' := [.ref (P.1 + 5), .int z6]) (h' := h) rfl rfl rfl ?_
    refine jx_gf (i := 5) rfl rfl hH (by decide) (hH.2 5 _ rfl).1 rfl (jx_rf hH rfl rfl) ?_
    refine jx_gf (i := 1) rfl rfl hH (by decide) (hH.2 1 _ rfl).1 rfl hM ?_
    refine az_X_step (pc' := 23) (ls' := [(3, .int z6), (0, .ref (P.1 + 5)), (1, .int i), (2, .int v)]) (st' := [.int (z6 * M)]) (h' := h) rfl rfl rfl ?_
    refine jx_ret rfl rfl rfl ?_
    exact ⟨rfl, z6 * M, rfl, by
      have m1 := nm_mulnn (a := 0) (b := 48) (c := 4) (d := 60) (x := z6.toInt) (y := M.toInt) (by decide) (by decide) (by omega) (by omega) (by omega) (by omega)
      rw [nm_mul (by omega) (by omega), ej, eM']
      unfold jtof
      rw [if_neg (by omega)]⟩
theorem sg_sk4 : az_sgm az_tb [] [214, 215, 216, 203, 204, 202, 211, 220, 287, 239, 272] [7, 27] jm_sk jm_sk [(287, 43)] 400 true 6 ([(4, 60), (2, 24), (8, 1440), (0, 1), (0, 1440), (0, 59)], [([(2, 1), (4, (-1))], 0)], [(3, ([(4, 1)], 0), ([(0, 1)], 0), ([(5, 1)], 0))], [(60, ([], 7), ([(0, 1)], 0)), (60, ([], 8), ([(1, 1)], 0)), (60, ([], 9), ([(2, 1)], 0))]) 289 7 [(0, .inr (.inr (.inl 60))), (1, .inl ([(3, 1)], 0)), (2, .inl ([(4, 1)], 0))] [] [] [] = some [(([(4, 60), (2, 24), (8, 1440), (0, 1), (8, 1440), (0, 59)], [([(2, (-1)), (4, 1)], 0), ([(2, 1), (4, (-1))], 0)], [(3, ([(4, 1)], 0), ([(0, 1)], 0), ([(5, 1)], 0))], [(60, ([], 7), ([(0, 1)], 0)), (60, ([], 8), ([(1, 1)], 0)), (60, ([], 9), ([(2, 1)], 0))]), [], .inr none),
  (([(4, 60), (2, 24), (8, 1440), (0, 0), (0, 1439), (1, 59)], [([(2, 1), (4, (-1))], (-1)), ([(2, 1), (4, (-1))], 0)], [(3, ([(4, 1)], 0), ([(0, 1)], 0), ([(5, 1)], 0))], [(60, ([], 7), ([(0, 1)], 0)), (60, ([], 8), ([(1, 1)], 0)), (60, ([], 9), ([(2, 1)], 0))]), [], .inl (7, [(2, .inl ([(4, 1)], 1)), (0, .inr (.inr (.inl 60))), (1, .inl ([(3, 1)], 0))], [])),
  (([(4, 60), (2, 24), (8, 1440), (1, 1), (0, 1439), (1, 59), (0, 30)], [([(6, (-1)), (5, 1)], (-1)), ([(0, (-1)), (6, 2)], 1), ([(6, (-2)), (0, 1)], 0), ([(2, 1), (4, (-1))], (-1)), ([(2, 1), (4, (-1))], 0)], [(1, ([(0, 1)], 0), ([], 2), ([(6, 1)], 0)), (3, ([(4, 1)], 0), ([(0, 1)], 0), ([(5, 1)], 0))], [(60, ([], 7), ([(0, 1)], 0)), (60, ([], 8), ([(1, 1)], 0)), (60, ([], 9), ([(2, 1)], 0))]), [], .inl (7, [(2, .inl ([(4, 1)], 1)), (0, .inr (.inr (.inl 60))), (1, .inl ([(3, 1)], 0))], [])),
  (([(4, 60), (2, 24), (8, 1440), (1, 1), (0, 1439), (1, 29), (2, 30)], [([(6, 1), (5, (-1))], (-1)), ([(0, (-1)), (6, 2)], 1), ([(6, (-2)), (0, 1)], 0), ([(2, 1), (4, (-1))], (-1)), ([(2, 1), (4, (-1))], 0)], [(1, ([(0, 1)], 0), ([], 2), ([(6, 1)], 0)), (3, ([(4, 1)], 0), ([(0, 1)], 0), ([(5, 1)], 0))], [(60, ([], 7), ([(0, 1)], 0)), (60, ([], 8), ([(1, 1)], 0)), (60, ([], 9), ([(2, 1)], 0))]), [], .inl (7, [(2, .inl ([(4, 1)], 1)), (0, .inr (.inr (.inl 60))), (1, .inl ([(3, 1)], 0))], [])),
  (([(4, 60), (2, 24), (8, 1440), (1, 1), (0, 1439), (1, 30), (1, 30)], [([(6, 1), (5, (-1))], 0), ([(6, (-1)), (5, 1)], 0), ([(0, (-1)), (6, 2)], 1), ([(6, (-2)), (0, 1)], 0), ([(2, 1), (4, (-1))], (-1)), ([(2, 1), (4, (-1))], 0)], [(1, ([(0, 1)], 0), ([], 2), ([(6, 1)], 0)), (3, ([(4, 1)], 0), ([(0, 1)], 0), ([(5, 1)], 0))], [(60, ([], 7), ([(0, 1)], 0)), (60, ([], 8), ([(1, 1)], 0)), (60, ([], 9), ([(2, 1)], 0))]), [], .inl (27, [(0, .inr (.inr (.inl 60))), (1, .inl ([(3, 1)], 0)), (2, .inl ([(4, 1)], 0))], [])),
  (([(4, 60), (2, 24), (8, 1440), (0, 1), (1, 1439), (0, 0), (1, 359)], [([(6, (-1)), (4, 1)], 0), ([(2, 1), (4, (-1))], (-1)), ([(2, 1), (4, (-1))], 0)], [(1, ([(4, 1)], 0), ([(0, 1)], 0), ([(6, 1)], 0)), (3, ([(4, 1)], 0), ([(0, 1)], 0), ([(5, 1)], 0))], [(60, ([], 7), ([(0, 1)], 0)), (60, ([], 8), ([(1, 1)], 0)), (60, ([], 9), ([(2, 1)], 0))]), [], .inl (27, [(0, .inr (.inr (.inl 60))), (1, .inl ([(3, 1)], 0)), (2, .inl ([(4, 1)], 0))], [])),
  (([(4, 60), (2, 24), (8, 1440), (0, 1), (1, 1439), (0, 0), (0, 0)], [([(6, (-1)), (4, 1)], 0), ([(2, 1), (4, (-1))], (-1)), ([(2, 1), (4, (-1))], 0)], [(1, ([(4, 1)], 0), ([(0, 1)], 0), ([(6, 1)], 0)), (3, ([(4, 1)], 0), ([(0, 1)], 0), ([(5, 1)], 0))], [(60, ([], 7), ([(0, 1)], 0)), (60, ([], 8), ([(1, 1)], 0)), (60, ([], 9), ([(2, 1)], 0))]), [], .inl (7, [(2, .inl ([(4, 1)], 1)), (0, .inr (.inr (.inl 60))), (1, .inl ([(3, 1)], 0))], [])),
  (([(4, 60), (2, 24), (8, 1440), (0, 1), (0, 0), (0, 0)], [([(2, 1), (4, (-1))], (-1)), ([(2, 1), (4, (-1))], 0)], [(3, ([(4, 1)], 0), ([(0, 1)], 0), ([(5, 1)], 0))], [(60, ([], 7), ([(0, 1)], 0)), (60, ([], 8), ([(1, 1)], 0)), (60, ([], 9), ([(2, 1)], 0))]), [], .inl (27, [(0, .inr (.inr (.inl 60))), (1, .inl ([(3, 1)], 0)), (2, .inl ([(4, 1)], 0))], []))] := jdo (by decide +kernel)
theorem sx_sk4 {P : si_P} (hxa : P.2.1 < P.1) {Q : Option Value → si_H → Prop} {d : Nat} (hd : 6 ≤ d) {h : si_H} {ls : si_L} {m r y v t a : Int} (hH : az_HI P az_tb h) (v0 : 4 ≤ m ∧ m ≤ 60) (v1 : 2 ≤ r ∧ r ≤ 24) (v2 : 8 ≤ y ∧ y ≤ 1440) (v3 : 0 ≤ v ∧ v ≤ 1) (v4 : 0 ≤ t ∧ t ≤ 1440) (v5 : 0 ≤ a ∧ a ≤ 59) (f0 : 0 ≤ y + (-1) * t) (n0 : 0 ≤ t ∧ 1 ≤ m ∧ a = (t) % (m)) (t0 : ja h 60 (7) = m) (t1 : ja h 60 (8) = r) (t2 : ja h 60 (9) = y) (l0 : jR P ls 0 60) (l1 : jI ls 1 (v)) (l2 : jI ls 2 (t))
  (a0 : ∀ (τ : Nat → Int) (h' : si_H), τ 0 = m → τ 1 = r → τ 2 = y → τ 3 = v → τ 4 = t → τ 5 = a → az_HI P az_tb h' → az_same_out jm_sk h h' → (∀ (i : Nat) (k : Int), 0 ≤ k → ja h' i k = ja h i k) → ((4 ≤ τ 0 ∧ τ 0 ≤ 60) ∧ (2 ≤ τ 1 ∧ τ 1 ≤ 24) ∧ (8 ≤ τ 2 ∧ τ 2 ≤ 1440) ∧ (0 ≤ τ 3 ∧ τ 3 ≤ 1) ∧ (8 ≤ τ 4 ∧ τ 4 ≤ 1440) ∧ (0 ≤ τ 5 ∧ τ 5 ≤ 59) ∧ True) → (0 ≤ (((-1) * τ 2 + (1 * τ 4 + 0)) + 0) ∧ 0 ≤ ((1 * τ 2 + ((-1) * τ 4 + 0)) + 0) ∧ True) → ((0 ≤ ((1 * τ 4 + 0) + 0) ∧ (1 : Int) ≤ ((1 * τ 0 + 0) + 0) ∧ ((1 * τ 5 + 0) + 0) = ((1 * τ 4 + 0) + 0) % ((1 * τ 0 + 0) + 0)) ∧ True) → (∀ k : Int, k = (7 : Int) → ja h' 60 k = ((1 * τ 0 + 0) + 0)) → (∀ k : Int, k = (8 : Int) → ja h' 60 k = ((1 * τ 1 + 0) + 0)) → (∀ k : Int, k = (9 : Int) → ja h' 60 k = ((1 * τ 2 + 0) + 0)) → Q none h')
  (a1 : ∀ (τ : Nat → Int) (h' : si_H) (ls' : si_L), τ 0 = m → τ 1 = r → τ 2 = y → τ 3 = v → τ 4 = t → τ 5 = a → az_HI P az_tb h' → az_same_out jm_sk h h' → (∀ (i : Nat) (k : Int), 0 ≤ k → ja h' i k = ja h i k) → ((4 ≤ τ 0 ∧ τ 0 ≤ 60) ∧ (2 ≤ τ 1 ∧ τ 1 ≤ 24) ∧ (8 ≤ τ 2 ∧ τ 2 ≤ 1440) ∧ (0 ≤ τ 3 ∧ τ 3 ≤ 0) ∧ (0 ≤ τ 4 ∧ τ 4 ≤ 1439) ∧ (1 ≤ τ 5 ∧ τ 5 ≤ 59) ∧ True) → (0 ≤ ((1 * τ 2 + ((-1) * τ 4 + 0)) + (-1)) ∧ 0 ≤ ((1 * τ 2 + ((-1) * τ 4 + 0)) + 0) ∧ True) → ((0 ≤ ((1 * τ 4 + 0) + 0) ∧ (1 : Int) ≤ ((1 * τ 0 + 0) + 0) ∧ ((1 * τ 5 + 0) + 0) = ((1 * τ 4 + 0) + 0) % ((1 * τ 0 + 0) + 0)) ∧ True) → (∀ k : Int, k = (7 : Int) → ja h' 60 k = ((1 * τ 0 + 0) + 0)) → (∀ k : Int, k = (8 : Int) → ja h' 60 k = ((1 * τ 1 + 0) + 0)) → (∀ k : Int, k = (9 : Int) → ja h' 60 k = ((1 * τ 2 + 0) + 0)) → jI ls' 2 ((1 * τ 4 + 0) + 1) → jR P ls' 0 60 → jI ls' 1 ((1 * τ 3 + 0) + 0) → az_X P d 289 7 ls' [] h' Q)
  (a2 : ∀ (τ : Nat → Int) (h' : si_H) (ls' : si_L), τ 0 = m → τ 1 = r → τ 2 = y → τ 3 = v → τ 4 = t → τ 5 = a → az_HI P az_tb h' → az_same_out jm_sk h h' → (∀ (i : Nat) (k : Int), 0 ≤ k → ja h' i k = ja h i k) → ((4 ≤ τ 0 ∧ τ 0 ≤ 60) ∧ (2 ≤ τ 1 ∧ τ 1 ≤ 24) ∧ (8 ≤ τ 2 ∧ τ 2 ≤ 1440) ∧ (1 ≤ τ 3 ∧ τ 3 ≤ 1) ∧ (0 ≤ τ 4 ∧ τ 4 ≤ 1439) ∧ (1 ≤ τ 5 ∧ τ 5 ≤ 59) ∧ (0 ≤ τ 6 ∧ τ 6 ≤ 30) ∧ True) → (0 ≤ (((-1) * τ 6 + (1 * τ 5 + 0)) + (-1)) ∧ 0 ≤ (((-1) * τ 0 + (2 * τ 6 + 0)) + 1) ∧ 0 ≤ (((-2) * τ 6 + (1 * τ 0 + 0)) + 0) ∧ 0 ≤ ((1 * τ 2 + ((-1) * τ 4 + 0)) + (-1)) ∧ 0 ≤ ((1 * τ 2 + ((-1) * τ 4 + 0)) + 0) ∧ True) → ((0 ≤ ((1 * τ 0 + 0) + 0) ∧ (1 : Int) ≤ (2 : Int) ∧ ((1 * τ 6 + 0) + 0) = ((1 * τ 0 + 0) + 0) / (2 : Int)) ∧ (0 ≤ ((1 * τ 4 + 0) + 0) ∧ (1 : Int) ≤ ((1 * τ 0 + 0) + 0) ∧ ((1 * τ 5 + 0) + 0) = ((1 * τ 4 + 0) + 0) % ((1 * τ 0 + 0) + 0)) ∧ True) → (∀ k : Int, k = (7 : Int) → ja h' 60 k = ((1 * τ 0 + 0) + 0)) → (∀ k : Int, k = (8 : Int) → ja h' 60 k = ((1 * τ 1 + 0) + 0)) → (∀ k : Int, k = (9 : Int) → ja h' 60 k = ((1 * τ 2 + 0) + 0)) → jI ls' 2 ((1 * τ 4 + 0) + 1) → jR P ls' 0 60 → jI ls' 1 ((1 * τ 3 + 0) + 0) → az_X P d 289 7 ls' [] h' Q)
  (a3 : ∀ (τ : Nat → Int) (h' : si_H) (ls' : si_L), τ 0 = m → τ 1 = r → τ 2 = y → τ 3 = v → τ 4 = t → τ 5 = a → az_HI P az_tb h' → az_same_out jm_sk h h' → (∀ (i : Nat) (k : Int), 0 ≤ k → ja h' i k = ja h i k) → ((4 ≤ τ 0 ∧ τ 0 ≤ 60) ∧ (2 ≤ τ 1 ∧ τ 1 ≤ 24) ∧ (8 ≤ τ 2 ∧ τ 2 ≤ 1440) ∧ (1 ≤ τ 3 ∧ τ 3 ≤ 1) ∧ (0 ≤ τ 4 ∧ τ 4 ≤ 1439) ∧ (1 ≤ τ 5 ∧ τ 5 ≤ 29) ∧ (2 ≤ τ 6 ∧ τ 6 ≤ 30) ∧ True) → (0 ≤ ((1 * τ 6 + ((-1) * τ 5 + 0)) + (-1)) ∧ 0 ≤ (((-1) * τ 0 + (2 * τ 6 + 0)) + 1) ∧ 0 ≤ (((-2) * τ 6 + (1 * τ 0 + 0)) + 0) ∧ 0 ≤ ((1 * τ 2 + ((-1) * τ 4 + 0)) + (-1)) ∧ 0 ≤ ((1 * τ 2 + ((-1) * τ 4 + 0)) + 0) ∧ True) → ((0 ≤ ((1 * τ 0 + 0) + 0) ∧ (1 : Int) ≤ (2 : Int) ∧ ((1 * τ 6 + 0) + 0) = ((1 * τ 0 + 0) + 0) / (2 : Int)) ∧ (0 ≤ ((1 * τ 4 + 0) + 0) ∧ (1 : Int) ≤ ((1 * τ 0 + 0) + 0) ∧ ((1 * τ 5 + 0) + 0) = ((1 * τ 4 + 0) + 0) % ((1 * τ 0 + 0) + 0)) ∧ True) → (∀ k : Int, k = (7 : Int) → ja h' 60 k = ((1 * τ 0 + 0) + 0)) → (∀ k : Int, k = (8 : Int) → ja h' 60 k = ((1 * τ 1 + 0) + 0)) → (∀ k : Int, k = (9 : Int) → ja h' 60 k = ((1 * τ 2 + 0) + 0)) → jI ls' 2 ((1 * τ 4 + 0) + 1) → jR P ls' 0 60 → jI ls' 1 ((1 * τ 3 + 0) + 0) → az_X P d 289 7 ls' [] h' Q)
  (a4 : ∀ (τ : Nat → Int) (h' : si_H) (ls' : si_L), τ 0 = m → τ 1 = r → τ 2 = y → τ 3 = v → τ 4 = t → τ 5 = a → az_HI P az_tb h' → az_same_out jm_sk h h' → (∀ (i : Nat) (k : Int), 0 ≤ k → ja h' i k = ja h i k) → ((4 ≤ τ 0 ∧ τ 0 ≤ 60) ∧ (2 ≤ τ 1 ∧ τ 1 ≤ 24) ∧ (8 ≤ τ 2 ∧ τ 2 ≤ 1440) ∧ (1 ≤ τ 3 ∧ τ 3 ≤ 1) ∧ (0 ≤ τ 4 ∧ τ 4 ≤ 1439) ∧ (1 ≤ τ 5 ∧ τ 5 ≤ 30) ∧ (1 ≤ τ 6 ∧ τ 6 ≤ 30) ∧ True) → (0 ≤ ((1 * τ 6 + ((-1) * τ 5 + 0)) + 0) ∧ 0 ≤ (((-1) * τ 6 + (1 * τ 5 + 0)) + 0) ∧ 0 ≤ (((-1) * τ 0 + (2 * τ 6 + 0)) + 1) ∧ 0 ≤ (((-2) * τ 6 + (1 * τ 0 + 0)) + 0) ∧ 0 ≤ ((1 * τ 2 + ((-1) * τ 4 + 0)) + (-1)) ∧ 0 ≤ ((1 * τ 2 + ((-1) * τ 4 + 0)) + 0) ∧ True) → ((0 ≤ ((1 * τ 0 + 0) + 0) ∧ (1 : Int) ≤ (2 : Int) ∧ ((1 * τ 6 + 0) + 0) = ((1 * τ 0 + 0) + 0) / (2 : Int)) ∧ (0 ≤ ((1 * τ 4 + 0) + 0) ∧ (1 : Int) ≤ ((1 * τ 0 + 0) + 0) ∧ ((1 * τ 5 + 0) + 0) = ((1 * τ 4 + 0) + 0) % ((1 * τ 0 + 0) + 0)) ∧ True) → (∀ k : Int, k = (7 : Int) → ja h' 60 k = ((1 * τ 0 + 0) + 0)) → (∀ k : Int, k = (8 : Int) → ja h' 60 k = ((1 * τ 1 + 0) + 0)) → (∀ k : Int, k = (9 : Int) → ja h' 60 k = ((1 * τ 2 + 0) + 0)) → jR P ls' 0 60 → jI ls' 1 ((1 * τ 3 + 0) + 0) → jI ls' 2 ((1 * τ 4 + 0) + 0) → az_X P d 289 27 ls' [] h' Q)
  (a5 : ∀ (τ : Nat → Int) (h' : si_H) (ls' : si_L), τ 0 = m → τ 1 = r → τ 2 = y → τ 3 = v → τ 4 = t → τ 5 = a → az_HI P az_tb h' → az_same_out jm_sk h h' → (∀ (i : Nat) (k : Int), 0 ≤ k → ja h' i k = ja h i k) → ((4 ≤ τ 0 ∧ τ 0 ≤ 60) ∧ (2 ≤ τ 1 ∧ τ 1 ≤ 24) ∧ (8 ≤ τ 2 ∧ τ 2 ≤ 1440) ∧ (0 ≤ τ 3 ∧ τ 3 ≤ 1) ∧ (1 ≤ τ 4 ∧ τ 4 ≤ 1439) ∧ (0 ≤ τ 5 ∧ τ 5 ≤ 0) ∧ (1 ≤ τ 6 ∧ τ 6 ≤ 359) ∧ True) → (0 ≤ (((-1) * τ 6 + (1 * τ 4 + 0)) + 0) ∧ 0 ≤ ((1 * τ 2 + ((-1) * τ 4 + 0)) + (-1)) ∧ 0 ≤ ((1 * τ 2 + ((-1) * τ 4 + 0)) + 0) ∧ True) → ((0 ≤ ((1 * τ 4 + 0) + 0) ∧ (1 : Int) ≤ ((1 * τ 0 + 0) + 0) ∧ ((1 * τ 6 + 0) + 0) = ((1 * τ 4 + 0) + 0) / ((1 * τ 0 + 0) + 0)) ∧ (0 ≤ ((1 * τ 4 + 0) + 0) ∧ (1 : Int) ≤ ((1 * τ 0 + 0) + 0) ∧ ((1 * τ 5 + 0) + 0) = ((1 * τ 4 + 0) + 0) % ((1 * τ 0 + 0) + 0)) ∧ True) → (∀ k : Int, k = (7 : Int) → ja h' 60 k = ((1 * τ 0 + 0) + 0)) → (∀ k : Int, k = (8 : Int) → ja h' 60 k = ((1 * τ 1 + 0) + 0)) → (∀ k : Int, k = (9 : Int) → ja h' 60 k = ((1 * τ 2 + 0) + 0)) → jR P ls' 0 60 → jI ls' 1 ((1 * τ 3 + 0) + 0) → jI ls' 2 ((1 * τ 4 + 0) + 0) → az_X P d 289 27 ls' [] h' Q)
  (a6 : ∀ (τ : Nat → Int) (h' : si_H) (ls' : si_L), τ 0 = m → τ 1 = r → τ 2 = y → τ 3 = v → τ 4 = t → τ 5 = a → az_HI P az_tb h' → az_same_out jm_sk h h' → (∀ (i : Nat) (k : Int), 0 ≤ k → ja h' i k = ja h i k) → ((4 ≤ τ 0 ∧ τ 0 ≤ 60) ∧ (2 ≤ τ 1 ∧ τ 1 ≤ 24) ∧ (8 ≤ τ 2 ∧ τ 2 ≤ 1440) ∧ (0 ≤ τ 3 ∧ τ 3 ≤ 1) ∧ (1 ≤ τ 4 ∧ τ 4 ≤ 1439) ∧ (0 ≤ τ 5 ∧ τ 5 ≤ 0) ∧ (0 ≤ τ 6 ∧ τ 6 ≤ 0) ∧ True) → (0 ≤ (((-1) * τ 6 + (1 * τ 4 + 0)) + 0) ∧ 0 ≤ ((1 * τ 2 + ((-1) * τ 4 + 0)) + (-1)) ∧ 0 ≤ ((1 * τ 2 + ((-1) * τ 4 + 0)) + 0) ∧ True) → ((0 ≤ ((1 * τ 4 + 0) + 0) ∧ (1 : Int) ≤ ((1 * τ 0 + 0) + 0) ∧ ((1 * τ 6 + 0) + 0) = ((1 * τ 4 + 0) + 0) / ((1 * τ 0 + 0) + 0)) ∧ (0 ≤ ((1 * τ 4 + 0) + 0) ∧ (1 : Int) ≤ ((1 * τ 0 + 0) + 0) ∧ ((1 * τ 5 + 0) + 0) = ((1 * τ 4 + 0) + 0) % ((1 * τ 0 + 0) + 0)) ∧ True) → (∀ k : Int, k = (7 : Int) → ja h' 60 k = ((1 * τ 0 + 0) + 0)) → (∀ k : Int, k = (8 : Int) → ja h' 60 k = ((1 * τ 1 + 0) + 0)) → (∀ k : Int, k = (9 : Int) → ja h' 60 k = ((1 * τ 2 + 0) + 0)) → jI ls' 2 ((1 * τ 4 + 0) + 1) → jR P ls' 0 60 → jI ls' 1 ((1 * τ 3 + 0) + 0) → az_X P d 289 7 ls' [] h' Q)
  (a7 : ∀ (τ : Nat → Int) (h' : si_H) (ls' : si_L), τ 0 = m → τ 1 = r → τ 2 = y → τ 3 = v → τ 4 = t → τ 5 = a → az_HI P az_tb h' → az_same_out jm_sk h h' → (∀ (i : Nat) (k : Int), 0 ≤ k → ja h' i k = ja h i k) → ((4 ≤ τ 0 ∧ τ 0 ≤ 60) ∧ (2 ≤ τ 1 ∧ τ 1 ≤ 24) ∧ (8 ≤ τ 2 ∧ τ 2 ≤ 1440) ∧ (0 ≤ τ 3 ∧ τ 3 ≤ 1) ∧ (0 ≤ τ 4 ∧ τ 4 ≤ 0) ∧ (0 ≤ τ 5 ∧ τ 5 ≤ 0) ∧ True) → (0 ≤ ((1 * τ 2 + ((-1) * τ 4 + 0)) + (-1)) ∧ 0 ≤ ((1 * τ 2 + ((-1) * τ 4 + 0)) + 0) ∧ True) → ((0 ≤ ((1 * τ 4 + 0) + 0) ∧ (1 : Int) ≤ ((1 * τ 0 + 0) + 0) ∧ ((1 * τ 5 + 0) + 0) = ((1 * τ 4 + 0) + 0) % ((1 * τ 0 + 0) + 0)) ∧ True) → (∀ k : Int, k = (7 : Int) → ja h' 60 k = ((1 * τ 0 + 0) + 0)) → (∀ k : Int, k = (8 : Int) → ja h' 60 k = ((1 * τ 1 + 0) + 0)) → (∀ k : Int, k = (9 : Int) → ja h' 60 k = ((1 * τ 2 + 0) + 0)) → jR P ls' 0 60 → jI ls' 1 ((1 * τ 3 + 0) + 0) → jI ls' 2 ((1 * τ 4 + 0) + 0) → az_X P d 289 27 ls' [] h' Q) : az_X P d 289 7 ls [] h Q := by
  have ρe : ∀ i, jρ [m, r, y, v, t, a] i = [m, r, y, v, t, a].getD i 0 := fun _ => rfl
  refine jseg (ρ := jρ [m, r, y, v, t, a]) hxa (by decide) az_fn sg_sk4 hd hH (jg_mk hH (by decide) (by decide) ⟨v0, v1, v2, v3, v4, v5, trivial⟩ ?gF ?gN ?gT) (jL_ref l0 (jL_int (l1.cg (by simp only [az_ev, az_evL, jρ, List.getD_cons_zero, List.getD_cons_succ]; omega)) (by decide) (jL_int (l2.cg (by simp only [az_ev, az_evL, jρ, List.getD_cons_zero, List.getD_cons_succ]; omega)) (by decide) jL_nil))) trivial ⟨fun τ h' hx hH' hso hfr hI hF hN hT w hw => jO_none hw ▸ a0 τ h' (hx 0 (by decide)) (hx 1 (by decide)) (hx 2 (by decide)) (hx 3 (by decide)) (hx 4 (by decide)) (hx 5 (by decide)) hH' hso (fun i k h0 => hfr i k h0 trivial) hI hF ⟨hN.1.2.2.2.1 rfl, trivial⟩ (fun k hk => (congrArg (ja h' 60) hk).trans (hT.1 (by decide))) (fun k hk => (congrArg (ja h' 60) hk).trans (hT.2.1 (by decide))) (fun k hk => (congrArg (ja h' 60) hk).trans (hT.2.2.1 (by decide))), fun τ h' hx hH' hso hfr hI hF hN hT ls' st' hL hS => jS_nil hS ▸ a1 τ h' ls' (hx 0 (by decide)) (hx 1 (by decide)) (hx 2 (by decide)) (hx 3 (by decide)) (hx 4 (by decide)) (hx 5 (by decide)) hH' hso (fun i k h0 => hfr i k h0 trivial) hI hF ⟨hN.1.2.2.2.1 rfl, trivial⟩ (fun k hk => (congrArg (ja h' 60) hk).trans (hT.1 (by decide))) (fun k hk => (congrArg (ja h' 60) hk).trans (hT.2.1 (by decide))) (fun k hk => (congrArg (ja h' 60) hk).trans (hT.2.2.1 (by decide))) (jI.of (k := 2) (a := ([(4, 1)], 1)) hL rfl) (jR.of (k := 0) (c := 60) hL rfl) (jI.of (k := 1) (a := ([(3, 1)], 0)) hL rfl), fun τ h' hx hH' hso hfr hI hF hN hT ls' st' hL hS => jS_nil hS ▸ a2 τ h' ls' (hx 0 (by decide)) (hx 1 (by decide)) (hx 2 (by decide)) (hx 3 (by decide)) (hx 4 (by decide)) (hx 5 (by decide)) hH' hso (fun i k h0 => hfr i k h0 trivial) hI hF ⟨hN.1.2.1 rfl, hN.2.1.2.2.2.1 rfl, trivial⟩ (fun k hk => (congrArg (ja h' 60) hk).trans (hT.1 (by decide))) (fun k hk => (congrArg (ja h' 60) hk).trans (hT.2.1 (by decide))) (fun k hk => (congrArg (ja h' 60) hk).trans (hT.2.2.1 (by decide))) (jI.of (k := 2) (a := ([(4, 1)], 1)) hL rfl) (jR.of (k := 0) (c := 60) hL rfl) (jI.of (k := 1) (a := ([(3, 1)], 0)) hL rfl), fun τ h' hx hH' hso hfr hI hF hN hT ls' st' hL hS => jS_nil hS ▸ a3 τ h' ls' (hx 0 (by decide)) (hx 1 (by decide)) (hx 2 (by decide)) (hx 3 (by decide)) (hx 4 (by decide)) (hx 5 (by decide)) hH' hso (fun i k h0 => hfr i k h0 trivial) hI hF ⟨hN.1.2.1 rfl, hN.2.1.2.2.2.1 rfl, trivial⟩ (fun k hk => (congrArg (ja h' 60) hk).trans (hT.1 (by decide))) (fun k hk => (congrArg (ja h' 60) hk).trans (hT.2.1 (by decide))) (fun k hk => (congrArg (ja h' 60) hk).trans (hT.2.2.1 (by decide))) (jI.of (k := 2) (a := ([(4, 1)], 1)) hL rfl) (jR.of (k := 0) (c := 60) hL rfl) (jI.of (k := 1) (a := ([(3, 1)], 0)) hL rfl), fun τ h' hx hH' hso hfr hI hF hN hT ls' st' hL hS => jS_nil hS ▸ a4 τ h' ls' (hx 0 (by decide)) (hx 1 (by decide)) (hx 2 (by decide)) (hx 3 (by decide)) (hx 4 (by decide)) (hx 5 (by decide)) hH' hso (fun i k h0 => hfr i k h0 trivial) hI hF ⟨hN.1.2.1 rfl, hN.2.1.2.2.2.1 rfl, trivial⟩ (fun k hk => (congrArg (ja h' 60) hk).trans (hT.1 (by decide))) (fun k hk => (congrArg (ja h' 60) hk).trans (hT.2.1 (by decide))) (fun k hk => (congrArg (ja h' 60) hk).trans (hT.2.2.1 (by decide))) (jR.of (k := 0) (c := 60) hL rfl) (jI.of (k := 1) (a := ([(3, 1)], 0)) hL rfl) (jI.of (k := 2) (a := ([(4, 1)], 0)) hL rfl), fun τ h' hx hH' hso hfr hI hF hN hT ls' st' hL hS => jS_nil hS ▸ a5 τ h' ls' (hx 0 (by decide)) (hx 1 (by decide)) (hx 2 (by decide)) (hx 3 (by decide)) (hx 4 (by decide)) (hx 5 (by decide)) hH' hso (fun i k h0 => hfr i k h0 trivial) hI hF ⟨hN.1.2.1 rfl, hN.2.1.2.2.2.1 rfl, trivial⟩ (fun k hk => (congrArg (ja h' 60) hk).trans (hT.1 (by decide))) (fun k hk => (congrArg (ja h' 60) hk).trans (hT.2.1 (by decide))) (fun k hk => (congrArg (ja h' 60) hk).trans (hT.2.2.1 (by decide))) (jR.of (k := 0) (c := 60) hL rfl) (jI.of (k := 1) (a := ([(3, 1)], 0)) hL rfl) (jI.of (k := 2) (a := ([(4, 1)], 0)) hL rfl), fun τ h' hx hH' hso hfr hI hF hN hT ls' st' hL hS => jS_nil hS ▸ a6 τ h' ls' (hx 0 (by decide)) (hx 1 (by decide)) (hx 2 (by decide)) (hx 3 (by decide)) (hx 4 (by decide)) (hx 5 (by decide)) hH' hso (fun i k h0 => hfr i k h0 trivial) hI hF ⟨hN.1.2.1 rfl, hN.2.1.2.2.2.1 rfl, trivial⟩ (fun k hk => (congrArg (ja h' 60) hk).trans (hT.1 (by decide))) (fun k hk => (congrArg (ja h' 60) hk).trans (hT.2.1 (by decide))) (fun k hk => (congrArg (ja h' 60) hk).trans (hT.2.2.1 (by decide))) (jI.of (k := 2) (a := ([(4, 1)], 1)) hL rfl) (jR.of (k := 0) (c := 60) hL rfl) (jI.of (k := 1) (a := ([(3, 1)], 0)) hL rfl), fun τ h' hx hH' hso hfr hI hF hN hT ls' st' hL hS => jS_nil hS ▸ a7 τ h' ls' (hx 0 (by decide)) (hx 1 (by decide)) (hx 2 (by decide)) (hx 3 (by decide)) (hx 4 (by decide)) (hx 5 (by decide)) hH' hso (fun i k h0 => hfr i k h0 trivial) hI hF ⟨hN.1.2.2.2.1 rfl, trivial⟩ (fun k hk => (congrArg (ja h' 60) hk).trans (hT.1 (by decide))) (fun k hk => (congrArg (ja h' 60) hk).trans (hT.2.1 (by decide))) (fun k hk => (congrArg (ja h' 60) hk).trans (hT.2.2.1 (by decide))) (jR.of (k := 0) (c := 60) hL rfl) (jI.of (k := 1) (a := ([(3, 1)], 0)) hL rfl) (jI.of (k := 2) (a := ([(4, 1)], 0)) hL rfl), trivial⟩
  case gF => simp only [jgF, jgN, jgS, jn1, az_ev, az_evL, jρ, List.getD_cons_zero, List.getD_cons_succ, and_true]; omega
  case gN => exact ⟨(by simpa [jn1, az_ev, az_evL, jρ] using n0), trivial⟩
  case gT => exact ⟨⟨by decide, (by show (0 : Int) ≤ 7; decide), (by show (jt 60 7).isSome = true; decide), (by have h1 := t0; simp only [az_ev, az_evL, jρ, List.getD_cons_zero, List.getD_cons_succ]; exact h1.trans (by omega))⟩, ⟨by decide, (by show (0 : Int) ≤ 8; decide), (by show (jt 60 8).isSome = true; decide), (by have h1 := t1; simp only [az_ev, az_evL, jρ, List.getD_cons_zero, List.getD_cons_succ]; exact h1.trans (by omega))⟩, ⟨by decide, (by show (0 : Int) ≤ 9; decide), (by show (jt 60 9).isSome = true; decide), (by have h1 := t2; simp only [az_ev, az_evL, jρ, List.getD_cons_zero, List.getD_cons_succ]; exact h1.trans (by omega))⟩, trivial⟩
theorem sg_sk3 : az_sgm az_tb [] [214, 215, 216, 203, 204, 202, 211, 220, 287, 239, 272] [7] jm_sk jm_sk [(287, 43)] 400 true 6 ([(4, 60), (2, 24), (8, 1440), (0, 1), (0, 1439), (0, 47), (0, 59)], [], [(3, ([(4, 1)], 0), ([(0, 1)], 0), ([(6, 1)], 0))], [(60, ([], 7), ([(0, 1)], 0)), (60, ([], 8), ([(1, 1)], 0)), (60, ([], 9), ([(2, 1)], 0)), (60, ([], 58), ([(5, 1)], 0))]) 289 27 [(0, .inr (.inr (.inl 60))), (1, .inl ([(3, 1)], 0)), (2, .inl ([(4, 1)], 0))] [] [] [] = some [(([(4, 60), (2, 24), (8, 1440), (0, 0), (0, 1439), (0, 47), (1, 59)], [], [(3, ([(4, 1)], 0), ([(0, 1)], 0), ([(6, 1)], 0))], [(60, ([], 58), ([(5, 1)], 1)), (100, ([(5, 1)], 0), ([], 0)), (99, ([(5, 1)], 0), ([(4, 1)], 0)), (60, ([], 7), ([(0, 1)], 0)), (60, ([], 8), ([(1, 1)], 0)), (60, ([], 9), ([(2, 1)], 0))]), [(99, some ([(5, 1)], 0)), (100, some ([(5, 1)], 0)), (60, some ([], 58))], .inl (7, [(2, .inl ([(4, 1)], 1)), (0, .inr (.inr (.inl 60))), (1, .inl ([(3, 1)], 0))], [])),
  (([(4, 60), (2, 24), (8, 1440), (1, 1), (0, 1439), (0, 47), (1, 59), (0, 30)], [([(7, (-1)), (6, 1)], (-1)), ([(0, (-1)), (7, 2)], 1), ([(7, (-2)), (0, 1)], 0)], [(1, ([(0, 1)], 0), ([], 2), ([(7, 1)], 0)), (3, ([(4, 1)], 0), ([(0, 1)], 0), ([(6, 1)], 0))], [(60, ([], 58), ([(5, 1)], 1)), (100, ([(5, 1)], 0), ([], 0)), (99, ([(5, 1)], 0), ([(4, 1)], 0)), (60, ([], 7), ([(0, 1)], 0)), (60, ([], 8), ([(1, 1)], 0)), (60, ([], 9), ([(2, 1)], 0))]), [(99, some ([(5, 1)], 0)), (100, some ([(5, 1)], 0)), (60, some ([], 58))], .inl (7, [(2, .inl ([(4, 1)], 1)), (0, .inr (.inr (.inl 60))), (1, .inl ([(3, 1)], 0))], [])),
  (([(4, 60), (2, 24), (8, 1440), (1, 1), (0, 1439), (0, 47), (1, 29), (2, 30)], [([(7, 1), (6, (-1))], (-1)), ([(0, (-1)), (7, 2)], 1), ([(7, (-2)), (0, 1)], 0)], [(1, ([(0, 1)], 0), ([], 2), ([(7, 1)], 0)), (3, ([(4, 1)], 0), ([(0, 1)], 0), ([(6, 1)], 0))], [(60, ([], 58), ([(5, 1)], 1)), (100, ([(5, 1)], 0), ([], 0)), (99, ([(5, 1)], 0), ([(4, 1)], 0)), (60, ([], 7), ([(0, 1)], 0)), (60, ([], 8), ([(1, 1)], 0)), (60, ([], 9), ([(2, 1)], 0))]), [(99, some ([(5, 1)], 0)), (100, some ([(5, 1)], 0)), (60, some ([], 58))], .inl (7, [(2, .inl ([(4, 1)], 1)), (0, .inr (.inr (.inl 60))), (1, .inl ([(3, 1)], 0))], [])),
  (([(4, 60), (2, 24), (8, 1440), (1, 1), (0, 1439), (0, 47), (1, 30), (1, 30)], [([(7, 1), (6, (-1))], 0), ([(7, (-1)), (6, 1)], 0), ([(0, (-1)), (7, 2)], 1), ([(7, (-2)), (0, 1)], 0)], [(1, ([(0, 1)], 0), ([], 2), ([(7, 1)], 0)), (3, ([(4, 1)], 0), ([(0, 1)], 0), ([(6, 1)], 0))], [(60, ([], 58), ([(5, 1)], 1)), (100, ([(5, 1)], 0), ([], 1)), (99, ([(5, 1)], 0), ([(4, 1)], 0)), (60, ([], 7), ([(0, 1)], 0)), (60, ([], 8), ([(1, 1)], 0)), (60, ([], 9), ([(2, 1)], 0))]), [(99, some ([(5, 1)], 0)), (100, some ([(5, 1)], 0)), (60, some ([], 58))], .inl (7, [(2, .inl ([(4, 1)], 1)), (0, .inr (.inr (.inl 60))), (1, .inl ([(3, 1)], 0))], [])),
  (([(4, 60), (2, 24), (8, 1440), (0, 1), (1, 1439), (0, 47), (0, 0), (0, 359)], [([(7, (-1)), (4, 1)], 0)], [(1, ([(4, 1)], 0), ([(0, 1)], 0), ([(7, 1)], 0)), (3, ([(4, 1)], 0), ([(0, 1)], 0), ([(6, 1)], 0))], [(60, ([], 58), ([(5, 1)], 1)), (100, ([(5, 1)], 0), ([(7, 1)], 0)), (99, ([(5, 1)], 0), ([(4, 1)], 0)), (60, ([], 7), ([(0, 1)], 0)), (60, ([], 8), ([(1, 1)], 0)), (60, ([], 9), ([(2, 1)], 0))]), [(99, some ([(5, 1)], 0)), (100, some ([(5, 1)], 0)), (60, some ([], 58))], .inl (7, [(2, .inl ([(4, 1)], 1)), (0, .inr (.inr (.inl 60))), (1, .inl ([(3, 1)], 0))], [])),
  (([(4, 60), (2, 24), (8, 1440), (0, 1), (0, 0), (0, 47), (0, 0)], [], [(3, ([(4, 1)], 0), ([(0, 1)], 0), ([(6, 1)], 0))], [(60, ([], 58), ([(5, 1)], 1)), (100, ([(5, 1)], 0), ([(1, 1)], 0)), (99, ([(5, 1)], 0), ([(4, 1)], 0)), (60, ([], 7), ([(0, 1)], 0)), (60, ([], 8), ([(1, 1)], 0)), (60, ([], 9), ([(2, 1)], 0))]), [(99, some ([(5, 1)], 0)), (100, some ([(5, 1)], 0)), (60, some ([], 58))], .inl (7, [(2, .inl ([(4, 1)], 1)), (0, .inr (.inr (.inl 60))), (1, .inl ([(3, 1)], 0))], []))] := jdo (by decide +kernel)
theorem sx_sk3 {P : si_P} (hxa : P.2.1 < P.1) {Q : Option Value → si_H → Prop} {d : Nat} (hd : 6 ≤ d) {h : si_H} {ls : si_L} {m r y v t s a : Int} (hH : az_HI P az_tb h) (v0 : 4 ≤ m ∧ m ≤ 60) (v1 : 2 ≤ r ∧ r ≤ 24) (v2 : 8 ≤ y ∧ y ≤ 1440) (v3 : 0 ≤ v ∧ v ≤ 1) (v4 : 0 ≤ t ∧ t ≤ 1439) (v5 : 0 ≤ s ∧ s ≤ 47) (v6 : 0 ≤ a ∧ a ≤ 59) (n0 : 0 ≤ t ∧ 1 ≤ m ∧ a = (t) % (m)) (t0 : ja h 60 (7) = m) (t1 : ja h 60 (8) = r) (t2 : ja h 60 (9) = y) (t3 : ja h 60 (58) = s) (l0 : jR P ls 0 60) (l1 : jI ls 1 (v)) (l2 : jI ls 2 (t))
  (a0 : ∀ (τ : Nat → Int) (h' : si_H) (ls' : si_L), τ 0 = m → τ 1 = r → τ 2 = y → τ 3 = v → τ 4 = t → τ 5 = s → τ 6 = a → az_HI P az_tb h' → az_same_out jm_sk h h' → (∀ (i : Nat) (k : Int), 0 ≤ k → (99 = i → 0 ≤ ((1 * τ 5 + 0) + 0) ∧ k ≠ ((1 * τ 5 + 0) + 0)) → (100 = i → 0 ≤ ((1 * τ 5 + 0) + 0) ∧ k ≠ ((1 * τ 5 + 0) + 0)) → (60 = i → 0 ≤ (58 : Int) ∧ k ≠ (58 : Int)) → ja h' i k = ja h i k) → ((4 ≤ τ 0 ∧ τ 0 ≤ 60) ∧ (2 ≤ τ 1 ∧ τ 1 ≤ 24) ∧ (8 ≤ τ 2 ∧ τ 2 ≤ 1440) ∧ (0 ≤ τ 3 ∧ τ 3 ≤ 0) ∧ (0 ≤ τ 4 ∧ τ 4 ≤ 1439) ∧ (0 ≤ τ 5 ∧ τ 5 ≤ 47) ∧ (1 ≤ τ 6 ∧ τ 6 ≤ 59) ∧ True) → (True) → ((0 ≤ ((1 * τ 4 + 0) + 0) ∧ (1 : Int) ≤ ((1 * τ 0 + 0) + 0) ∧ ((1 * τ 6 + 0) + 0) = ((1 * τ 4 + 0) + 0) % ((1 * τ 0 + 0) + 0)) ∧ True) → (∀ k : Int, k = (58 : Int) → ja h' 60 k = ((1 * τ 5 + 0) + 1)) → (∀ k : Int, k = ((1 * τ 5 + 0) + 0) → ja h' 100 k = (0 : Int)) → (∀ k : Int, k = ((1 * τ 5 + 0) + 0) → ja h' 99 k = ((1 * τ 4 + 0) + 0)) → (∀ k : Int, k = (7 : Int) → ja h' 60 k = ((1 * τ 0 + 0) + 0)) → (∀ k : Int, k = (8 : Int) → ja h' 60 k = ((1 * τ 1 + 0) + 0)) → (∀ k : Int, k = (9 : Int) → ja h' 60 k = ((1 * τ 2 + 0) + 0)) → jI ls' 2 ((1 * τ 4 + 0) + 1) → jR P ls' 0 60 → jI ls' 1 ((1 * τ 3 + 0) + 0) → az_X P d 289 7 ls' [] h' Q)
  (a1 : ∀ (τ : Nat → Int) (h' : si_H) (ls' : si_L), τ 0 = m → τ 1 = r → τ 2 = y → τ 3 = v → τ 4 = t → τ 5 = s → τ 6 = a → az_HI P az_tb h' → az_same_out jm_sk h h' → (∀ (i : Nat) (k : Int), 0 ≤ k → (99 = i → 0 ≤ ((1 * τ 5 + 0) + 0) ∧ k ≠ ((1 * τ 5 + 0) + 0)) → (100 = i → 0 ≤ ((1 * τ 5 + 0) + 0) ∧ k ≠ ((1 * τ 5 + 0) + 0)) → (60 = i → 0 ≤ (58 : Int) ∧ k ≠ (58 : Int)) → ja h' i k = ja h i k) → ((4 ≤ τ 0 ∧ τ 0 ≤ 60) ∧ (2 ≤ τ 1 ∧ τ 1 ≤ 24) ∧ (8 ≤ τ 2 ∧ τ 2 ≤ 1440) ∧ (1 ≤ τ 3 ∧ τ 3 ≤ 1) ∧ (0 ≤ τ 4 ∧ τ 4 ≤ 1439) ∧ (0 ≤ τ 5 ∧ τ 5 ≤ 47) ∧ (1 ≤ τ 6 ∧ τ 6 ≤ 59) ∧ (0 ≤ τ 7 ∧ τ 7 ≤ 30) ∧ True) → (0 ≤ (((-1) * τ 7 + (1 * τ 6 + 0)) + (-1)) ∧ 0 ≤ (((-1) * τ 0 + (2 * τ 7 + 0)) + 1) ∧ 0 ≤ (((-2) * τ 7 + (1 * τ 0 + 0)) + 0) ∧ True) → ((0 ≤ ((1 * τ 0 + 0) + 0) ∧ (1 : Int) ≤ (2 : Int) ∧ ((1 * τ 7 + 0) + 0) = ((1 * τ 0 + 0) + 0) / (2 : Int)) ∧ (0 ≤ ((1 * τ 4 + 0) + 0) ∧ (1 : Int) ≤ ((1 * τ 0 + 0) + 0) ∧ ((1 * τ 6 + 0) + 0) = ((1 * τ 4 + 0) + 0) % ((1 * τ 0 + 0) + 0)) ∧ True) → (∀ k : Int, k = (58 : Int) → ja h' 60 k = ((1 * τ 5 + 0) + 1)) → (∀ k : Int, k = ((1 * τ 5 + 0) + 0) → ja h' 100 k = (0 : Int)) → (∀ k : Int, k = ((1 * τ 5 + 0) + 0) → ja h' 99 k = ((1 * τ 4 + 0) + 0)) → (∀ k : Int, k = (7 : Int) → ja h' 60 k = ((1 * τ 0 + 0) + 0)) → (∀ k : Int, k = (8 : Int) → ja h' 60 k = ((1 * τ 1 + 0) + 0)) → (∀ k : Int, k = (9 : Int) → ja h' 60 k = ((1 * τ 2 + 0) + 0)) → jI ls' 2 ((1 * τ 4 + 0) + 1) → jR P ls' 0 60 → jI ls' 1 ((1 * τ 3 + 0) + 0) → az_X P d 289 7 ls' [] h' Q)
  (a2 : ∀ (τ : Nat → Int) (h' : si_H) (ls' : si_L), τ 0 = m → τ 1 = r → τ 2 = y → τ 3 = v → τ 4 = t → τ 5 = s → τ 6 = a → az_HI P az_tb h' → az_same_out jm_sk h h' → (∀ (i : Nat) (k : Int), 0 ≤ k → (99 = i → 0 ≤ ((1 * τ 5 + 0) + 0) ∧ k ≠ ((1 * τ 5 + 0) + 0)) → (100 = i → 0 ≤ ((1 * τ 5 + 0) + 0) ∧ k ≠ ((1 * τ 5 + 0) + 0)) → (60 = i → 0 ≤ (58 : Int) ∧ k ≠ (58 : Int)) → ja h' i k = ja h i k) → ((4 ≤ τ 0 ∧ τ 0 ≤ 60) ∧ (2 ≤ τ 1 ∧ τ 1 ≤ 24) ∧ (8 ≤ τ 2 ∧ τ 2 ≤ 1440) ∧ (1 ≤ τ 3 ∧ τ 3 ≤ 1) ∧ (0 ≤ τ 4 ∧ τ 4 ≤ 1439) ∧ (0 ≤ τ 5 ∧ τ 5 ≤ 47) ∧ (1 ≤ τ 6 ∧ τ 6 ≤ 29) ∧ (2 ≤ τ 7 ∧ τ 7 ≤ 30) ∧ True) → (0 ≤ ((1 * τ 7 + ((-1) * τ 6 + 0)) + (-1)) ∧ 0 ≤ (((-1) * τ 0 + (2 * τ 7 + 0)) + 1) ∧ 0 ≤ (((-2) * τ 7 + (1 * τ 0 + 0)) + 0) ∧ True) → ((0 ≤ ((1 * τ 0 + 0) + 0) ∧ (1 : Int) ≤ (2 : Int) ∧ ((1 * τ 7 + 0) + 0) = ((1 * τ 0 + 0) + 0) / (2 : Int)) ∧ (0 ≤ ((1 * τ 4 + 0) + 0) ∧ (1 : Int) ≤ ((1 * τ 0 + 0) + 0) ∧ ((1 * τ 6 + 0) + 0) = ((1 * τ 4 + 0) + 0) % ((1 * τ 0 + 0) + 0)) ∧ True) → (∀ k : Int, k = (58 : Int) → ja h' 60 k = ((1 * τ 5 + 0) + 1)) → (∀ k : Int, k = ((1 * τ 5 + 0) + 0) → ja h' 100 k = (0 : Int)) → (∀ k : Int, k = ((1 * τ 5 + 0) + 0) → ja h' 99 k = ((1 * τ 4 + 0) + 0)) → (∀ k : Int, k = (7 : Int) → ja h' 60 k = ((1 * τ 0 + 0) + 0)) → (∀ k : Int, k = (8 : Int) → ja h' 60 k = ((1 * τ 1 + 0) + 0)) → (∀ k : Int, k = (9 : Int) → ja h' 60 k = ((1 * τ 2 + 0) + 0)) → jI ls' 2 ((1 * τ 4 + 0) + 1) → jR P ls' 0 60 → jI ls' 1 ((1 * τ 3 + 0) + 0) → az_X P d 289 7 ls' [] h' Q)
  (a3 : ∀ (τ : Nat → Int) (h' : si_H) (ls' : si_L), τ 0 = m → τ 1 = r → τ 2 = y → τ 3 = v → τ 4 = t → τ 5 = s → τ 6 = a → az_HI P az_tb h' → az_same_out jm_sk h h' → (∀ (i : Nat) (k : Int), 0 ≤ k → (99 = i → 0 ≤ ((1 * τ 5 + 0) + 0) ∧ k ≠ ((1 * τ 5 + 0) + 0)) → (100 = i → 0 ≤ ((1 * τ 5 + 0) + 0) ∧ k ≠ ((1 * τ 5 + 0) + 0)) → (60 = i → 0 ≤ (58 : Int) ∧ k ≠ (58 : Int)) → ja h' i k = ja h i k) → ((4 ≤ τ 0 ∧ τ 0 ≤ 60) ∧ (2 ≤ τ 1 ∧ τ 1 ≤ 24) ∧ (8 ≤ τ 2 ∧ τ 2 ≤ 1440) ∧ (1 ≤ τ 3 ∧ τ 3 ≤ 1) ∧ (0 ≤ τ 4 ∧ τ 4 ≤ 1439) ∧ (0 ≤ τ 5 ∧ τ 5 ≤ 47) ∧ (1 ≤ τ 6 ∧ τ 6 ≤ 30) ∧ (1 ≤ τ 7 ∧ τ 7 ≤ 30) ∧ True) → (0 ≤ ((1 * τ 7 + ((-1) * τ 6 + 0)) + 0) ∧ 0 ≤ (((-1) * τ 7 + (1 * τ 6 + 0)) + 0) ∧ 0 ≤ (((-1) * τ 0 + (2 * τ 7 + 0)) + 1) ∧ 0 ≤ (((-2) * τ 7 + (1 * τ 0 + 0)) + 0) ∧ True) → ((0 ≤ ((1 * τ 0 + 0) + 0) ∧ (1 : Int) ≤ (2 : Int) ∧ ((1 * τ 7 + 0) + 0) = ((1 * τ 0 + 0) + 0) / (2 : Int)) ∧ (0 ≤ ((1 * τ 4 + 0) + 0) ∧ (1 : Int) ≤ ((1 * τ 0 + 0) + 0) ∧ ((1 * τ 6 + 0) + 0) = ((1 * τ 4 + 0) + 0) % ((1 * τ 0 + 0) + 0)) ∧ True) → (∀ k : Int, k = (58 : Int) → ja h' 60 k = ((1 * τ 5 + 0) + 1)) → (∀ k : Int, k = ((1 * τ 5 + 0) + 0) → ja h' 100 k = (1 : Int)) → (∀ k : Int, k = ((1 * τ 5 + 0) + 0) → ja h' 99 k = ((1 * τ 4 + 0) + 0)) → (∀ k : Int, k = (7 : Int) → ja h' 60 k = ((1 * τ 0 + 0) + 0)) → (∀ k : Int, k = (8 : Int) → ja h' 60 k = ((1 * τ 1 + 0) + 0)) → (∀ k : Int, k = (9 : Int) → ja h' 60 k = ((1 * τ 2 + 0) + 0)) → jI ls' 2 ((1 * τ 4 + 0) + 1) → jR P ls' 0 60 → jI ls' 1 ((1 * τ 3 + 0) + 0) → az_X P d 289 7 ls' [] h' Q)
  (a4 : ∀ (τ : Nat → Int) (h' : si_H) (ls' : si_L), τ 0 = m → τ 1 = r → τ 2 = y → τ 3 = v → τ 4 = t → τ 5 = s → τ 6 = a → az_HI P az_tb h' → az_same_out jm_sk h h' → (∀ (i : Nat) (k : Int), 0 ≤ k → (99 = i → 0 ≤ ((1 * τ 5 + 0) + 0) ∧ k ≠ ((1 * τ 5 + 0) + 0)) → (100 = i → 0 ≤ ((1 * τ 5 + 0) + 0) ∧ k ≠ ((1 * τ 5 + 0) + 0)) → (60 = i → 0 ≤ (58 : Int) ∧ k ≠ (58 : Int)) → ja h' i k = ja h i k) → ((4 ≤ τ 0 ∧ τ 0 ≤ 60) ∧ (2 ≤ τ 1 ∧ τ 1 ≤ 24) ∧ (8 ≤ τ 2 ∧ τ 2 ≤ 1440) ∧ (0 ≤ τ 3 ∧ τ 3 ≤ 1) ∧ (1 ≤ τ 4 ∧ τ 4 ≤ 1439) ∧ (0 ≤ τ 5 ∧ τ 5 ≤ 47) ∧ (0 ≤ τ 6 ∧ τ 6 ≤ 0) ∧ (0 ≤ τ 7 ∧ τ 7 ≤ 359) ∧ True) → (0 ≤ (((-1) * τ 7 + (1 * τ 4 + 0)) + 0) ∧ True) → ((0 ≤ ((1 * τ 4 + 0) + 0) ∧ (1 : Int) ≤ ((1 * τ 0 + 0) + 0) ∧ ((1 * τ 7 + 0) + 0) = ((1 * τ 4 + 0) + 0) / ((1 * τ 0 + 0) + 0)) ∧ (0 ≤ ((1 * τ 4 + 0) + 0) ∧ (1 : Int) ≤ ((1 * τ 0 + 0) + 0) ∧ ((1 * τ 6 + 0) + 0) = ((1 * τ 4 + 0) + 0) % ((1 * τ 0 + 0) + 0)) ∧ True) → (∀ k : Int, k = (58 : Int) → ja h' 60 k = ((1 * τ 5 + 0) + 1)) → (∀ k : Int, k = ((1 * τ 5 + 0) + 0) → ja h' 100 k = ((1 * τ 7 + 0) + 0)) → (∀ k : Int, k = ((1 * τ 5 + 0) + 0) → ja h' 99 k = ((1 * τ 4 + 0) + 0)) → (∀ k : Int, k = (7 : Int) → ja h' 60 k = ((1 * τ 0 + 0) + 0)) → (∀ k : Int, k = (8 : Int) → ja h' 60 k = ((1 * τ 1 + 0) + 0)) → (∀ k : Int, k = (9 : Int) → ja h' 60 k = ((1 * τ 2 + 0) + 0)) → jI ls' 2 ((1 * τ 4 + 0) + 1) → jR P ls' 0 60 → jI ls' 1 ((1 * τ 3 + 0) + 0) → az_X P d 289 7 ls' [] h' Q)
  (a5 : ∀ (τ : Nat → Int) (h' : si_H) (ls' : si_L), τ 0 = m → τ 1 = r → τ 2 = y → τ 3 = v → τ 4 = t → τ 5 = s → τ 6 = a → az_HI P az_tb h' → az_same_out jm_sk h h' → (∀ (i : Nat) (k : Int), 0 ≤ k → (99 = i → 0 ≤ ((1 * τ 5 + 0) + 0) ∧ k ≠ ((1 * τ 5 + 0) + 0)) → (100 = i → 0 ≤ ((1 * τ 5 + 0) + 0) ∧ k ≠ ((1 * τ 5 + 0) + 0)) → (60 = i → 0 ≤ (58 : Int) ∧ k ≠ (58 : Int)) → ja h' i k = ja h i k) → ((4 ≤ τ 0 ∧ τ 0 ≤ 60) ∧ (2 ≤ τ 1 ∧ τ 1 ≤ 24) ∧ (8 ≤ τ 2 ∧ τ 2 ≤ 1440) ∧ (0 ≤ τ 3 ∧ τ 3 ≤ 1) ∧ (0 ≤ τ 4 ∧ τ 4 ≤ 0) ∧ (0 ≤ τ 5 ∧ τ 5 ≤ 47) ∧ (0 ≤ τ 6 ∧ τ 6 ≤ 0) ∧ True) → (True) → ((0 ≤ ((1 * τ 4 + 0) + 0) ∧ (1 : Int) ≤ ((1 * τ 0 + 0) + 0) ∧ ((1 * τ 6 + 0) + 0) = ((1 * τ 4 + 0) + 0) % ((1 * τ 0 + 0) + 0)) ∧ True) → (∀ k : Int, k = (58 : Int) → ja h' 60 k = ((1 * τ 5 + 0) + 1)) → (∀ k : Int, k = ((1 * τ 5 + 0) + 0) → ja h' 100 k = ((1 * τ 1 + 0) + 0)) → (∀ k : Int, k = ((1 * τ 5 + 0) + 0) → ja h' 99 k = ((1 * τ 4 + 0) + 0)) → (∀ k : Int, k = (7 : Int) → ja h' 60 k = ((1 * τ 0 + 0) + 0)) → (∀ k : Int, k = (8 : Int) → ja h' 60 k = ((1 * τ 1 + 0) + 0)) → (∀ k : Int, k = (9 : Int) → ja h' 60 k = ((1 * τ 2 + 0) + 0)) → jI ls' 2 ((1 * τ 4 + 0) + 1) → jR P ls' 0 60 → jI ls' 1 ((1 * τ 3 + 0) + 0) → az_X P d 289 7 ls' [] h' Q) : az_X P d 289 27 ls [] h Q := by
  have ρe : ∀ i, jρ [m, r, y, v, t, s, a] i = [m, r, y, v, t, s, a].getD i 0 := fun _ => rfl
  refine jseg (ρ := jρ [m, r, y, v, t, s, a]) hxa (by decide) az_fn sg_sk3 hd hH (jg_mk hH (by decide) (by decide) ⟨v0, v1, v2, v3, v4, v5, v6, trivial⟩ ?gF ?gN ?gT) (jL_ref l0 (jL_int (l1.cg (by simp only [az_ev, az_evL, jρ, List.getD_cons_zero, List.getD_cons_succ]; omega)) (by decide) (jL_int (l2.cg (by simp only [az_ev, az_evL, jρ, List.getD_cons_zero, List.getD_cons_succ]; omega)) (by decide) jL_nil))) trivial ⟨fun τ h' hx hH' hso hfr hI hF hN hT ls' st' hL hS => jS_nil hS ▸ a0 τ h' ls' (hx 0 (by decide)) (hx 1 (by decide)) (hx 2 (by decide)) (hx 3 (by decide)) (hx 4 (by decide)) (hx 5 (by decide)) (hx 6 (by decide)) hH' hso (fun i k h0 w0 w1 w2 => hfr i k h0 ⟨w0, w1, w2, trivial⟩) hI hF ⟨hN.1.2.2.2.1 rfl, trivial⟩ (fun k hk => (congrArg (ja h' 60) hk).trans (hT.1 (by decide))) (fun k hk => (congrArg (ja h' 100) hk).trans (hT.2.1 (by decide))) (fun k hk => (congrArg (ja h' 99) hk).trans (hT.2.2.1 (by decide))) (fun k hk => (congrArg (ja h' 60) hk).trans (hT.2.2.2.1 (by decide))) (fun k hk => (congrArg (ja h' 60) hk).trans (hT.2.2.2.2.1 (by decide))) (fun k hk => (congrArg (ja h' 60) hk).trans (hT.2.2.2.2.2.1 (by decide))) (jI.of (k := 2) (a := ([(4, 1)], 1)) hL rfl) (jR.of (k := 0) (c := 60) hL rfl) (jI.of (k := 1) (a := ([(3, 1)], 0)) hL rfl), fun τ h' hx hH' hso hfr hI hF hN hT ls' st' hL hS => jS_nil hS ▸ a1 τ h' ls' (hx 0 (by decide)) (hx 1 (by decide)) (hx 2 (by decide)) (hx 3 (by decide)) (hx 4 (by decide)) (hx 5 (by decide)) (hx 6 (by decide)) hH' hso (fun i k h0 w0 w1 w2 => hfr i k h0 ⟨w0, w1, w2, trivial⟩) hI hF ⟨hN.1.2.1 rfl, hN.2.1.2.2.2.1 rfl, trivial⟩ (fun k hk => (congrArg (ja h' 60) hk).trans (hT.1 (by decide))) (fun k hk => (congrArg (ja h' 100) hk).trans (hT.2.1 (by decide))) (fun k hk => (congrArg (ja h' 99) hk).trans (hT.2.2.1 (by decide))) (fun k hk => (congrArg (ja h' 60) hk).trans (hT.2.2.2.1 (by decide))) (fun k hk => (congrArg (ja h' 60) hk).trans (hT.2.2.2.2.1 (by decide))) (fun k hk => (congrArg (ja h' 60) hk).trans (hT.2.2.2.2.2.1 (by decide))) (jI.of (k := 2) (a := ([(4, 1)], 1)) hL rfl) (jR.of (k := 0) (c := 60) hL rfl) (jI.of (k := 1) (a := ([(3, 1)], 0)) hL rfl), fun τ h' hx hH' hso hfr hI hF hN hT ls' st' hL hS => jS_nil hS ▸ a2 τ h' ls' (hx 0 (by decide)) (hx 1 (by decide)) (hx 2 (by decide)) (hx 3 (by decide)) (hx 4 (by decide)) (hx 5 (by decide)) (hx 6 (by decide)) hH' hso (fun i k h0 w0 w1 w2 => hfr i k h0 ⟨w0, w1, w2, trivial⟩) hI hF ⟨hN.1.2.1 rfl, hN.2.1.2.2.2.1 rfl, trivial⟩ (fun k hk => (congrArg (ja h' 60) hk).trans (hT.1 (by decide))) (fun k hk => (congrArg (ja h' 100) hk).trans (hT.2.1 (by decide))) (fun k hk => (congrArg (ja h' 99) hk).trans (hT.2.2.1 (by decide))) (fun k hk => (congrArg (ja h' 60) hk).trans (hT.2.2.2.1 (by decide))) (fun k hk => (congrArg (ja h' 60) hk).trans (hT.2.2.2.2.1 (by decide))) (fun k hk => (congrArg (ja h' 60) hk).trans (hT.2.2.2.2.2.1 (by decide))) (jI.of (k := 2) (a := ([(4, 1)], 1)) hL rfl) (jR.of (k := 0) (c := 60) hL rfl) (jI.of (k := 1) (a := ([(3, 1)], 0)) hL rfl), fun τ h' hx hH' hso hfr hI hF hN hT ls' st' hL hS => jS_nil hS ▸ a3 τ h' ls' (hx 0 (by decide)) (hx 1 (by decide)) (hx 2 (by decide)) (hx 3 (by decide)) (hx 4 (by decide)) (hx 5 (by decide)) (hx 6 (by decide)) hH' hso (fun i k h0 w0 w1 w2 => hfr i k h0 ⟨w0, w1, w2, trivial⟩) hI hF ⟨hN.1.2.1 rfl, hN.2.1.2.2.2.1 rfl, trivial⟩ (fun k hk => (congrArg (ja h' 60) hk).trans (hT.1 (by decide))) (fun k hk => (congrArg (ja h' 100) hk).trans (hT.2.1 (by decide))) (fun k hk => (congrArg (ja h' 99) hk).trans (hT.2.2.1 (by decide))) (fun k hk => (congrArg (ja h' 60) hk).trans (hT.2.2.2.1 (by decide))) (fun k hk => (congrArg (ja h' 60) hk).trans (hT.2.2.2.2.1 (by decide))) (fun k hk => (congrArg (ja h' 60) hk).trans (hT.2.2.2.2.2.1 (by decide))) (jI.of (k := 2) (a := ([(4, 1)], 1)) hL rfl) (jR.of (k := 0) (c := 60) hL rfl) (jI.of (k := 1) (a := ([(3, 1)], 0)) hL rfl), fun τ h' hx hH' hso hfr hI hF hN hT ls' st' hL hS => jS_nil hS ▸ a4 τ h' ls' (hx 0 (by decide)) (hx 1 (by decide)) (hx 2 (by decide)) (hx 3 (by decide)) (hx 4 (by decide)) (hx 5 (by decide)) (hx 6 (by decide)) hH' hso (fun i k h0 w0 w1 w2 => hfr i k h0 ⟨w0, w1, w2, trivial⟩) hI hF ⟨hN.1.2.1 rfl, hN.2.1.2.2.2.1 rfl, trivial⟩ (fun k hk => (congrArg (ja h' 60) hk).trans (hT.1 (by decide))) (fun k hk => (congrArg (ja h' 100) hk).trans (hT.2.1 (by decide))) (fun k hk => (congrArg (ja h' 99) hk).trans (hT.2.2.1 (by decide))) (fun k hk => (congrArg (ja h' 60) hk).trans (hT.2.2.2.1 (by decide))) (fun k hk => (congrArg (ja h' 60) hk).trans (hT.2.2.2.2.1 (by decide))) (fun k hk => (congrArg (ja h' 60) hk).trans (hT.2.2.2.2.2.1 (by decide))) (jI.of (k := 2) (a := ([(4, 1)], 1)) hL rfl) (jR.of (k := 0) (c := 60) hL rfl) (jI.of (k := 1) (a := ([(3, 1)], 0)) hL rfl), fun τ h' hx hH' hso hfr hI hF hN hT ls' st' hL hS => jS_nil hS ▸ a5 τ h' ls' (hx 0 (by decide)) (hx 1 (by decide)) (hx 2 (by decide)) (hx 3 (by decide)) (hx 4 (by decide)) (hx 5 (by decide)) (hx 6 (by decide)) hH' hso (fun i k h0 w0 w1 w2 => hfr i k h0 ⟨w0, w1, w2, trivial⟩) hI hF ⟨hN.1.2.2.2.1 rfl, trivial⟩ (fun k hk => (congrArg (ja h' 60) hk).trans (hT.1 (by decide))) (fun k hk => (congrArg (ja h' 100) hk).trans (hT.2.1 (by decide))) (fun k hk => (congrArg (ja h' 99) hk).trans (hT.2.2.1 (by decide))) (fun k hk => (congrArg (ja h' 60) hk).trans (hT.2.2.2.1 (by decide))) (fun k hk => (congrArg (ja h' 60) hk).trans (hT.2.2.2.2.1 (by decide))) (fun k hk => (congrArg (ja h' 60) hk).trans (hT.2.2.2.2.2.1 (by decide))) (jI.of (k := 2) (a := ([(4, 1)], 1)) hL rfl) (jR.of (k := 0) (c := 60) hL rfl) (jI.of (k := 1) (a := ([(3, 1)], 0)) hL rfl), trivial⟩
  case gF => trivial
  case gN => exact ⟨(by simpa [jn1, az_ev, az_evL, jρ] using n0), trivial⟩
  case gT => exact ⟨⟨by decide, (by show (0 : Int) ≤ 7; decide), (by show (jt 60 7).isSome = true; decide), (by have h1 := t0; simp only [az_ev, az_evL, jρ, List.getD_cons_zero, List.getD_cons_succ]; exact h1.trans (by omega))⟩, ⟨by decide, (by show (0 : Int) ≤ 8; decide), (by show (jt 60 8).isSome = true; decide), (by have h1 := t1; simp only [az_ev, az_evL, jρ, List.getD_cons_zero, List.getD_cons_succ]; exact h1.trans (by omega))⟩, ⟨by decide, (by show (0 : Int) ≤ 9; decide), (by show (jt 60 9).isSome = true; decide), (by have h1 := t2; simp only [az_ev, az_evL, jρ, List.getD_cons_zero, List.getD_cons_succ]; exact h1.trans (by omega))⟩, ⟨by decide, (by show (0 : Int) ≤ 58; decide), (by show (jt 60 58).isSome = true; decide), (by have h1 := t3; simp only [az_ev, az_evL, jρ, List.getD_cons_zero, List.getD_cons_succ]; exact h1.trans (by omega))⟩, trivial⟩
/-- before a time that strikes: as many strikes as its number says -/
theorem jtC_at {m r v : Int} {w : Nat} (hw : m = w) (hm : 4 ≤ m) (hr : 2 ≤ r) (hv : v = 0 ∨ v = 1) (t : Nat) (ht : 0 < jst m r t v) : jtof m v (jtC (fun x => decide (0 < jst m r x v)) 0 t) = t := by
  have e := jemx (a := (t : Int)) (m := m) (by omega)
  have q0 : 0 ≤ (t : Int) / m := Int.ediv_nonneg (by omega) (by omega)
  obtain ⟨k, hk⟩ : ∃ k : Nat, (t : Int) / m = k := ⟨((t : Int) / m).toNat, by omega⟩
  obtain ⟨j, hj⟩ : ∃ j : Nat, (t : Int) % m = j := ⟨((t : Int) % m).toNat, by omega⟩
  rw [hk, hj] at e
  have eA : ((w * k : Nat) : Int) = m * k := by rw [hw]; exact Int.natCast_mul w k
  have et : t = w * k + j := by omega
  have b := (jst_blk (m := m) (r := r) (v := v) (k := k) (j := j) hm hr (by omega) (by omega) (by omega)).mp (by rw [e.1]; exact ht)
  have c0 := jtw (m := m) (r := r) (v := v) (w := w) hw hm hr (fun _ => true) k
  have c1 : jtC (fun i => (fun _ => true) (jtof m v i)) 0 (jsn v k) = jsn v k := by
    generalize jsn v k = n
    induction n with
    | zero => rfl
    | succ n ih =>
      show jtC _ 0 n + (if true = true then 1 else 0) = _
      rw [ih, if_pos rfl]
      omega
  have c2 : jtC (fun x => decide (0 < jst m r x v) && (fun _ => true) x) 0 (w * k) = jtC (fun x => decide (0 < jst m r x v)) 0 (w * k) := jtC_cg _ (fun j _ => Bool.and_true _)
  rw [c2, c1] at c0
  rw [et, jtC_add, c0, Int.zero_add]
  rw [← et]
  rcases b with b | ⟨b1, b2⟩
  · have : j = 0 := by omega
    subst this
    show jtof m v ((jsn v k : Int) + 0) = _
    rw [Int.add_zero]
    unfold jtof jsn
    rcases hv with rfl | rfl
    · rw [if_neg (by decide), if_neg (by decide), Int.mul_comm]; omega
    · rw [if_pos rfl, if_pos rfl, show ((2 * k : Nat) : Int) / 2 = k by omega, show ((2 * k : Nat) : Int) % 2 = 0 by omega, Int.zero_mul, Int.mul_comm]; omega
  · have c3 : jtC (fun x => decide (0 < jst m r x v)) ((w * k : Nat) : Int) j = 1 := by
      have : jtC (fun x => decide (0 < jst m r x v)) ((w * k : Nat) : Int) j = jtC (fun t => decide (t = ((w * k : Nat) : Int) + (0 : Nat)) && (fun _ => true) t) ((w * k : Nat) : Int) j := by
        apply jtC_cg
        intro i hi
        have b3 := jst_blk (m := m) (r := r) (v := v) (k := k) (j := i) hm hr (by omega) (by omega) (by omega)
        show decide (0 < jst m r (((w * k : Nat) : Int) + i) v) = (decide (((w * k : Nat) : Int) + (i : Int) = ((w * k : Nat) : Int) + ((0 : Nat) : Int)) && true)
        rw [Bool.and_true, eA]
        exact decide_eq_decide.mpr (b3.trans (by omega))
      rw [this, jtC_one, if_pos (by omega), if_pos rfl]
    rw [c3]
    unfold jtof jsn
    rw [if_pos b1, if_pos b1, show (((2 * k : Nat) : Int) + 1) / 2 = k by omega, show (((2 * k : Nat) : Int) + 1) % 2 = 1 by omega, Int.one_mul, Int.mul_comm]
    omega
section Strikes3
variable {P : si_P} {d : Nat}
def skM (P : si_P) (h0 : si_H) (m r v : Int) (y : Nat) (rv : Option Value) (h' : si_H) : Prop := rv = none ∧ az_HI P az_tb h' ∧ az_same_out jm_sk h0 h' ∧ ja h' 60 58 = jtC (fun x => decide (0 < jst m r x v)) 0 y ∧ ∀ i : Nat, (i : Int) < ja h' 60 58 → ja h' 100 i = jst m r (jtof m v i) v
theorem lays3_7 (hxa : P.2.1 < P.1) (hd : 6 ≤ d) {h0 : si_H} {m r : Int} {y : Nat} (hm : 4 ≤ m ∧ m ≤ 60) (hr : 2 ≤ r ∧ r ≤ 24) (hy : 8 ≤ y ∧ y ≤ 1440) (hp : m * r = y) {v : Int} (hv : 0 ≤ v ∧ v ≤ 1) : ∀ (n t : Nat) (h : si_H) (ls : si_L), t + n = y → az_HI P az_tb h → az_same_out jm_sk h0 h → ja h 60 7 = m → ja h 60 8 = r → ja h 60 9 = y → ja h 60 58 ≤ jB m t → ja h 60 58 = jtC (fun x => decide (0 < jst m r x v)) 0 t → (∀ i : Nat, (i : Int) < ja h 60 58 → ja h 100 i = jst m r (jtof m v i) v) → jR P ls 0 60 → jI ls 1 v → jI ls 2 t → az_X P d 289 7 ls [] h (skM P h0 m r v y) := by
  obtain ⟨w, hw⟩ : ∃ w : Nat, m = w := ⟨m.toNat, by omega⟩
  intro n
  induction n with
  | zero =>
    intro t h ls hn hH hs t7 t8 t9 hB hC hA l0 l1 l2
    have h2 := Int.emod_nonneg (t : Int) (Int.ne_of_gt (show 0 < m by omega))
    have h3 := Int.emod_lt_of_pos (t : Int) (show 0 < m by omega)
    have hty : t = y := by omega
    apply sx_sk4 hxa (by omega) hH (m := m) (r := r) (y := y) (v := v) (t := t) (a := (t : Int) % m) hm hr (by omega) hv (by omega) (by omega) (by omega) ⟨by omega, by omega, rfl⟩ t7 t8 t9 l0 l1 l2
    all_goals first
      | (intro τ h2 e0 e1 e2 e3 e4 e5 hH2 hs2 fr2 iv2 fs2 nn2 t0 t1 t2
         refine ⟨rfl, hH2, hs.tr hs2, ?_, fun i hi => ?_⟩
         · rw [fr2 _ _ (by omega), hC, hty]
         · rw [fr2 _ _ (by omega)] at hi
           rw [fr2 _ _ (by omega)]
           exact hA i hi)
      | (intro τ h2 ls2 e0 e1 e2 e3 e4 e5 hH2 hs2 fr2 iv2 fs2
         exfalso
         omega)
  | succ n ih =>
    intro t h ls hn hH hs t7 t8 t9 hB hC hA l0 l1 l2
    have g2 := Int.emod_nonneg (t : Int) (Int.ne_of_gt (show 0 < m by omega))
    have g3 := Int.emod_lt_of_pos (t : Int) (show 0 < m by omega)
    have g4 : (t : Int) / m < r := Int.ediv_lt_of_lt_mul (by omega) (by rw [Int.mul_comm, hp]; omega)
    have g7 : 0 ≤ (t : Int) / m := Int.ediv_nonneg (by omega) (by omega)
    have g5 := jB_up (t : Int) hm.1
    have c1 : ((t + 1 : Nat) : Int) = (t : Int) + 1 := by omega
    have nx : ∀ b : Bool, decide (0 < jst m r t v) = b → jtC (fun x => decide (0 < jst m r x v)) 0 (t + 1) = jtC (fun x => decide (0 < jst m r x v)) 0 t + (if b then 1 else 0) := by
      intro b hb
      show jtC _ 0 t + (if decide (0 < jst m r (0 + (t : Int)) v) = true then 1 else 0) = _
      rw [Int.zero_add, hb]
    have qt : ¬ ((t : Int) % m = 0 ∨ (v = 1 ∧ (t : Int) % m = m / 2)) → jtC (fun x => decide (0 < jst m r x v)) 0 (t + 1) = jtC (fun x => decide (0 < jst m r x v)) 0 t := by
      intro hc
      rw [nx false (decide_eq_false (by unfold jst; rw [if_neg (by omega), if_neg (by omega)]; omega))]
      simp
    have sk : ((t : Int) % m = 0 ∨ (v = 1 ∧ (t : Int) % m = m / 2)) → 0 < jst m r t v := by
      intro hc
      unfold jst
      repeat' split
      all_goals omega
    have h27 : ∀ (h2 : si_H) (ls2 : si_L), az_HI P az_tb h2 → az_same_out jm_sk h h2 → (∀ (i : Nat) (k : Int), 0 ≤ k → ja h2 i k = ja h i k) → ((t : Int) % m = 0 ∨ (v = 1 ∧ (t : Int) % m = m / 2)) → jR P ls2 0 60 → jI ls2 1 v → jI ls2 2 t → az_X P d 289 27 ls2 [] h2 (skM P h0 m r v y) := by
      intro h2 ls2 hH2 hs2 fr2 hc m0 m1 m2
      have b := ja_bd hH2 (i := 60) (k := 58) rfl
      have b1 : 0 ≤ ja h2 60 58 := b.1
      have e58 : ja h2 60 58 = ja h 60 58 := fr2 _ _ (by omega)
      have b2 : jB m t ≤ 47 := by
        unfold jB
        split <;> split <;> omega
      have hpos := sk hc
      have hat := jtC_at (m := m) (r := r) (v := v) hw hm.1 hr.1 (by omega) t hpos
      have hn1 := nx true (decide_eq_true hpos)
      rw [if_pos rfl] at hn1
      have fin : ∀ (h3 : si_H) (ls3 : si_L), az_HI P az_tb h3 → az_same_out jm_sk h2 h3 → (∀ i : Nat, (i : Int) < ja h 60 58 → ja h3 100 i = ja h 100 i) → (∀ i : Nat, (i : Int) = ja h 60 58 → ja h3 100 i = jst m r t v) → ja h3 60 58 = ja h 60 58 + 1 → ja h3 60 7 = m → ja h3 60 8 = r → ja h3 60 9 = y → jR P ls3 0 60 → jI ls3 1 v → jI ls3 2 ((t + 1 : Nat) : Int) → az_X P d 289 7 ls3 [] h3 (skM P h0 m r v y) := by
        intro h3 ls3 hH3 hs3 f3 f4 s3 u7 u8 u9 o0 o1 o2
        have g6 := g5.2 (by omega)
        refine ih (t + 1) h3 ls3 (by omega) hH3 ((hs.tr hs2).tr hs3) u7 u8 u9 (by rw [s3, c1]; omega) (by rw [s3, hn1, hC]) ?_ o0 o1 o2
        intro i hi
        rw [s3] at hi
        by_cases hi2 : (i : Int) < ja h 60 58
        · rw [f3 i hi2]
          exact hA i hi2
        · rw [f4 i (by omega), show (i : Int) = ja h 60 58 by omega, hC, hat]
      have J0 : (t : Int) = 0 → jst m r t v = r := fun e => by
        rw [e]
        unfold jst
        rw [Int.zero_emod, Int.zero_ediv, if_pos rfl, if_pos rfl]
      have Jq : (t : Int) % m = 0 → 1 ≤ (t : Int) → jst m r t v = (t : Int) / m := fun e e2 => by
        unfold jst
        rw [if_pos e, if_neg (fun e3 => by
          have := jemx (a := (t : Int)) (m := m) (by omega)
          rw [e3, e] at this
          omega)]
      have Jh : (t : Int) % m ≠ 0 → v = 1 → (t : Int) % m = m / 2 → jst m r t v = 1 := fun e e2 e3 => by
        unfold jst
        rw [if_neg e, if_pos ⟨e2, e3⟩]
      apply sx_sk3 hxa (by omega) hH2 (m := m) (r := r) (y := y) (v := v) (t := t) (s := ja h2 60 58) (a := (t : Int) % m) hm hr (by omega) hv (by omega) (by omega) (by omega) ⟨by omega, by omega, rfl⟩ ((fr2 _ _ (by omega)).trans t7) ((fr2 _ _ (by omega)).trans t8) ((fr2 _ _ (by omega)).trans t9) rfl m0 m1 m2
      all_goals
        intro τ h3 ls3 e0 e1 e2 e3 e4 e5 e6 hH3 hs3 fr3 iv3 fs3 nn3 t0 t1 t2 t3 t4 t5 o2 o0 o1
        first
          | (exfalso
             omega)
          | (exact fin h3 ls3 hH3 hs3 (fun i hi => by rw [fr3 100 i (by omega) (by omega) (by omega) (by omega), fr2 _ _ (by omega)]) (fun i hi => (t1 i (by omega)).trans (by rw [J0 (by omega)]; omega)) (by rw [t0 58 rfl]; omega) ((t3 7 rfl).trans (by omega)) ((t4 8 rfl).trans (by omega)) ((t5 9 rfl).trans (by omega)) o0 (o1.cg (by omega)) (o2.cg (by omega)))
          | (exact fin h3 ls3 hH3 hs3 (fun i hi => by rw [fr3 100 i (by omega) (by omega) (by omega) (by omega), fr2 _ _ (by omega)]) (fun i hi => (t1 i (by omega)).trans (Jh (by omega) (by omega) (by omega)).symm) (by rw [t0 58 rfl]; omega) ((t3 7 rfl).trans (by omega)) ((t4 8 rfl).trans (by omega)) ((t5 9 rfl).trans (by omega)) o0 (o1.cg (by omega)) (o2.cg (by omega)))
          | (have q7 : τ 7 = (t : Int) / m := by
               have := nn3.1.2.2
               rw [show (1 * τ 7 + 0 + 0) = τ 7 by omega, show (1 * τ 4 + 0 + 0) = (t : Int) by omega, show (1 * τ 0 + 0 + 0) = m by omega] at this
               exact this
             exact fin h3 ls3 hH3 hs3 (fun i hi => by rw [fr3 100 i (by omega) (by omega) (by omega) (by omega), fr2 _ _ (by omega)]) (fun i hi => (t1 i (by omega)).trans (by rw [Jq (by omega) (by omega)]; omega)) (by rw [t0 58 rfl]; omega) ((t3 7 rfl).trans (by omega)) ((t4 8 rfl).trans (by omega)) ((t5 9 rfl).trans (by omega)) o0 (o1.cg (by omega)) (o2.cg (by omega)))
    apply sx_sk4 hxa (by omega) hH (m := m) (r := r) (y := y) (v := v) (t := t) (a := (t : Int) % m) hm hr (by omega) hv (by omega) (by omega) (by omega) ⟨by omega, by omega, rfl⟩ t7 t8 t9 l0 l1 l2
    all_goals first
      | (intro τ h2 e0 e1 e2 e3 e4 e5 hH2 hs2 fr2 iv2 fs2
         exfalso
         omega)
      | (intro τ h2 ls2 e0 e1 e2 e3 e4 e5 hH2 hs2 fr2 iv2 fs2 nn2 t0 t1 t2 m2 m0 m1
         have q := qt (by omega)
         refine ih (t + 1) h2 ls2 (by omega) hH2 (hs.tr hs2) ((fr2 _ _ (by omega)).trans t7) ((fr2 _ _ (by omega)).trans t8) ((fr2 _ _ (by omega)).trans t9) (by rw [fr2 _ _ (by omega), c1]; omega) (by rw [fr2 _ _ (by omega), q]; exact hC) (fun i hi => ?_) m0 (m1.cg (by omega)) (m2.cg (by omega))
         rw [fr2 _ _ (by omega)] at hi
         rw [fr2 _ _ (by omega)]
         exact hA i hi)
      | (intro τ h2 ls2 e0 e1 e2 e3 e4 e5 hH2 hs2 fr2 iv2 fs2 nn2 t0 t1 t2 m0 m1 m2
         exact h27 h2 ls2 hH2 hs2 fr2 (by omega) m0 (m1.cg (by omega)) (m2.cg (by omega)))
      | (intro τ h2 ls2 e0 e1 e2 e3 e4 e5 hH2 hs2 fr2 iv2 fs2 nn2 t0 t1 t2 m2 m0 m1
         exfalso
         have e10 := nn2.1.2.2
         have e11 : (1 * τ 4 + 0 + 0) / (1 * τ 0 + 0 + 0) * (1 * τ 0 + 0 + 0) + (1 * τ 4 + 0 + 0) % (1 * τ 0 + 0 + 0) = (1 * τ 4 + 0 + 0) := Int.ediv_mul_add_emod _ _
         rw [← e10, ← nn2.2.1.2.2, show (1 * τ 6 + 0 + 0) = 0 by omega, Int.zero_mul] at e11
         omega)
end Strikes3
theorem lays3_ok {P : si_P} (hxa : P.2.1 < P.1) {d : Nat} (hd : 6 ≤ d) {h : si_H} (hH : az_HI P az_tb h) (hJ : js_J h) (v : Int32) (hv : v = 0 ∨ v = 1) : az_X P d 289 0 (lv_args 0 [.ref (P.1 + 60), .int v]) [] h (fun rv h1 => rv = none ∧ az_HI P az_tb h1 ∧ az_same_out jm_sk h h1 ∧ ja h1 60 58 = (if v.toInt = 1 then 2 * ja h 60 8 else ja h 60 8) ∧ ∀ i : Nat, (i : Int) < ja h1 60 58 → ja h1 100 i = jst (ja h 60 7) (ja h 60 8) (jtof (ja h 60 7) v.toInt i) v.toInt) := by
  have hI : 0 ≤ v.toInt ∧ v.toInt ≤ 1 := by rcases hv with rfl | rfl <;> decide
  obtain ⟨b1, b2, b3⟩ := dial_bd hH
  have hY : ja h 60 9 = ((ja h 60 9).toNat : Nat) := by omega
  apply sx_sk0 hxa (by omega) hH (v := v.toInt) hI (ls := lv_args 0 [.ref (P.1 + 60), .int v]) rfl ⟨v, rfl, rfl⟩
  intro τ h2 ls2 e0 hH2 hs2 fr2 iv2 fs2 nn2 t0 m2 m0 m1
  have hB : jB (ja h 60 7) ((0 : Nat) : Int) = 0 := by
    unfold jB
    rw [show ((0 : Nat) : Int) = 0 from rfl, Int.zero_ediv, Int.zero_emod, if_neg (by omega), if_neg (by omega)]
    rfl
  refine (lays3_7 hxa hd (h0 := h) (y := (ja h 60 9).toNat) b1 b2 (by omega) (hJ.1.1.symm.trans hY) hI (ja h 60 9).toNat 0 h2 ls2 (by omega) hH2 hs2 (fr2 _ _ (by omega) (by omega)) (fr2 _ _ (by omega) (by omega)) ((fr2 _ _ (by omega) (by omega)).trans hY) (by rw [t0 58 rfl, hB]; omega) (by rw [t0 58 rfl]; rfl) (fun i hi => absurd hi (by rw [t0 58 rfl]; omega)) m0 (m1.cg (by omega)) m2).mono ?_
  rintro rv h1 ⟨rfl, z1, z3, z4, z5⟩
  refine ⟨rfl, z1, z3, ?_, z5⟩
  rw [z4]
  have c0 := jtw (m := ja h 60 7) (r := ja h 60 8) (v := v.toInt) (w := (ja h 60 7).toNat) (by omega) b1.1 b2.1 (fun _ => true) (ja h 60 8).toNat
  have c1 : ∀ n : Nat, jtC (fun i => (fun _ => true) (jtof (ja h 60 7) v.toInt i)) 0 n = n := by
    intro n
    induction n with
    | zero => rfl
    | succ n ih =>
      show jtC _ 0 n + (if true = true then 1 else 0) = _
      rw [ih, if_pos rfl]
      omega
  have c2 : jtC (fun x => decide (0 < jst (ja h 60 7) (ja h 60 8) x v.toInt) && (fun _ => true) x) 0 ((ja h 60 7).toNat * (ja h 60 8).toNat) = jtC (fun x => decide (0 < jst (ja h 60 7) (ja h 60 8) x v.toInt)) 0 ((ja h 60 7).toNat * (ja h 60 8).toNat) := jtC_cg _ (fun j _ => Bool.and_true _)
  rw [c2, c1] at c0
  have e1 : (ja h 60 7).toNat * (ja h 60 8).toNat = (ja h 60 9).toNat := by rw [hJ.1.1]; exact (Int.toNat_mul (by omega) (by omega)).symm
  rw [← e1, c0]
  unfold jsn
  split <;> omega
theorem jt_mul {k m X : Int} (e : X = k / 2 * m) : ((k + 1) / 2 * m = X ∧ k % 2 = 0 ∧ (k + 1) % 2 = 1) ∨ ((k + 1) / 2 * m = X + m ∧ k % 2 = 1 ∧ (k + 1) % 2 = 0) := by
  subst e
  rcases (by omega : k % 2 = 0 ∨ k % 2 = 1) with h | h
  · left
    rw [show (k + 1) / 2 = k / 2 by omega]
    exact ⟨rfl, h, by omega⟩
  · right
    rw [show (k + 1) / 2 = k / 2 + 1 by omega, Int.add_mul, Int.one_mul]
    exact ⟨rfl, h, by omega⟩
theorem jt_up {m v k : Int} (hm : 4 ≤ m) : jtof m v k < jtof m v (k + 1) := by
  unfold jtof
  split
  · rcases jt_mul (k := k) (m := m) rfl with ⟨a, b, c⟩ | ⟨a, b, c⟩
    · rw [a, b, c, Int.zero_mul, Int.one_mul]; omega
    · rw [a, b, c, Int.zero_mul, Int.one_mul]; omega
  · rw [Int.add_mul, Int.one_mul]; omega
theorem jt_0 {m v : Int} : jtof m v 0 = 0 := by
  unfold jtof
  split
  · rw [show (0 : Int) / 2 = 0 from rfl, show (0 : Int) % 2 = 0 from rfl, Int.zero_mul, Int.zero_mul]; rfl
  · exact Int.zero_mul _
theorem jt_pos {m v : Int} (hm : 4 ≤ m) : ∀ k : Nat, 0 ≤ jtof m v k ∧ (1 ≤ k → 1 ≤ jtof m v k)
  | 0 => ⟨by rw [show ((0 : Nat) : Int) = 0 from rfl, jt_0]; exact Int.le_refl _, fun h => absurd h (by omega)⟩
  | k + 1 => by
    have i := jt_pos (v := v) hm k
    have u := jt_up (v := v) (k := (k : Int)) hm
    rw [show ((k + 1 : Nat) : Int) = (k : Int) + 1 by omega]
    omega
theorem jt_lt {m r v k : Int} (hm : 4 ≤ m) (hk : 0 ≤ k) (hv : v = 0 ∨ v = 1) (hk2 : k < (if v = 1 then 2 * r else r)) : jtof m v k < m * r := by
  unfold jtof
  rcases hv with rfl | rfl
  · rw [if_neg (by decide)] at hk2 ⊢
    have : (k + 1) * m ≤ r * m := Int.mul_le_mul_of_nonneg_right (by omega) (by omega)
    rw [Int.add_mul, Int.one_mul] at this
    rw [Int.mul_comm m r]
    omega
  · rw [if_pos rfl] at hk2 ⊢
    have : (k / 2 + 1) * m ≤ r * m := Int.mul_le_mul_of_nonneg_right (by omega) (by omega)
    rw [Int.add_mul, Int.one_mul] at this
    rw [Int.mul_comm m r]
    rcases (by omega : k % 2 = 0 ∨ k % 2 = 1) with h | h
    · rw [h, Int.zero_mul]; omega
    · rw [h, Int.one_mul]; omega
/-- how often a strike strikes, round; two places from which so many strikes sound the same; all unlike -/
def jF (m r v N i : Int) : Int := jst m r (jtof m v (i % N)) v
def jsm (m r v N n a b : Int) : Prop := ∀ i : Nat, (i : Int) < n → jF m r v N (a + i) = jF m r v N (b + i)
def juq (m r v N n : Int) : Prop := ∀ a b : Nat, a < b → (b : Int) < N → ¬ jsm m r v N n a b
def jls (m r v N z : Int) : Prop := (∃ n : Nat, 1 ≤ n ∧ (n : Int) < N ∧ z = n ∧ juq m r v N n ∧ ∀ k : Nat, 1 ≤ k → k < n → ¬ juq m r v N k) ∨ (z = N ∧ ∀ k : Nat, 1 ≤ k → (k : Int) < N → ¬ juq m r v N k)
theorem jls_un {m r v N z w : Int} (h1 : jls m r v N z) (h2 : jls m r v N w) : z = w := by
  rcases h1 with ⟨n, a1, a2, a3, a4, a5⟩ | ⟨a1, a2⟩ <;> rcases h2 with ⟨k, b1, b2, b3, b4, b5⟩ | ⟨b1, b2⟩
  · rcases Nat.lt_trichotomy n k with e | e | e
    · exact absurd a4 (b5 n a1 e)
    · omega
    · exact absurd b4 (a5 k b1 e)
  · exact absurd a4 (b2 n a1 a2)
  · exact absurd b4 (a2 k b1 b2)
  · omega
theorem stof_ok {P : si_P} {d : Nat} {h : si_H} (hH : az_HI P az_tb h) (i v : Int32) (hv : v = 0 ∨ v = 1) (hi : 0 ≤ i.toInt) : az_X P (d + 2) 18 0 (lv_args 0 [.ref (P.1 + 5), .int i, .int v]) [] h (fun rv h' => h' = h ∧ jV rv (jF (ja h 1 0) (ja h 1 1) v.toInt (if v.toInt = 1 then 2 * ja h 1 1 else ja h 1 1) i.toInt)) := by
  have bm : 4 ≤ ja h 1 0 ∧ ja h 1 0 ≤ 60 := ja_bd hH (i := 1) (k := 0) rfl
  have br : 2 ≤ ja h 1 1 ∧ ja h 1 1 ≤ 24 := ja_bd hH (i := 1) (k := 1) rfl
  have bp := nm_mulnn (a := 4) (b := 60) (c := 2) (d := 24) (x := ja h 1 0) (y := ja h 1 1) (by decide) (by decide) bm.1 bm.2 br.1 br.2
  have hv' : v.toInt = 0 ∨ v.toInt = 1 := hv.elim (fun e => Or.inl (by rw [e]; decide)) (fun e => Or.inr (by rw [e]; decide))
  have N2 : 2 ≤ (if v.toInt = 1 then 2 * ja h 1 1 else ja h 1 1) := by split <;> omega
  have m0 := Int.emod_nonneg i.toInt (b := (if v.toInt = 1 then 2 * ja h 1 1 else ja h 1 1)) (by omega)
  have m1 := Int.emod_lt_of_pos i.toInt (b := (if v.toInt = 1 then 2 * ja h 1 1 else ja h 1 1)) (by omega)
  have p1 := jt_pos (m := ja h 1 0) (v := v.toInt) bm.1 (i.toInt % (if v.toInt = 1 then 2 * ja h 1 1 else ja h 1 1)).toNat
  rw [Int.toNat_of_nonneg m0] at p1
  have p2 := jt_lt (m := ja h 1 0) (r := ja h 1 1) (v := v.toInt) (k := i.toInt % (if v.toInt = 1 then 2 * ja h 1 1 else ja h 1 1)) bm.1 m0 hv' m1
  refine az_X_step (pc' := 1) (ls' := [(0, .ref (P.1 + 5)), (1, .int i), (2, .int v)]) (st' := [.ref (P.1 + 5)]) (h' := h) rfl rfl rfl ?_
  refine az_X_step (pc' := 2) (ls' := [(0, .ref (P.1 + 5)), (1, .int i), (2, .int v)]) (st' := [.ref (P.1 + 5), .ref (P.1 + 5)]) (h' := h) rfl rfl rfl ?_
  refine az_X_step (pc' := 3) (ls' := [(0, .ref (P.1 + 5)), (1, .int i), (2, .int v)]) (st' := [.int i, .ref (P.1 + 5), .ref (P.1 + 5)]) (h' := h) rfl rfl rfl ?_
  refine az_X_step (pc' := 4) (ls' := [(0, .ref (P.1 + 5)), (1, .int i), (2, .int v)]) (st' := [.int v, .int i, .ref (P.1 + 5), .ref (P.1 + 5)]) (h' := h) rfl rfl rfl ?_
  refine az_X_call (m' := 16) (as := [.ref (P.1 + 5), .int i, .int v]) (rest := [.ref (P.1 + 5)]) rfl rfl rfl rfl rfl ?_ ?_
  · unfold si_call
    dsimp only
    rw [if_pos ⟨rfl, rfl⟩]
    show (match si_ix P h (P.1 + 5) with | some i => _ | none => none) = _
    rw [jix hH (by decide)]
    dsimp only
    rw [(hH.2 5 _ rfl).1]
    rfl
  refine (tofm_ok hH i v hv hi).mono ?_
  rintro rv4 h4 ⟨q4, z4, rfl, ez4⟩
  subst h4
  show az_X P _ 18 7 [(0, .ref (P.1 + 5)), (1, .int i), (2, .int v)] [.int z4, .ref (P.1 + 5)] _ _
  refine az_X_step (pc' := 8) (ls' := [(0, .ref (P.1 + 5)), (1, .int i), (2, .int v)]) (st' := [.int v, .int z4, .ref (P.1 + 5)]) (h' := h) rfl rfl rfl ?_
  refine az_X_call (m' := 17) (as := [.ref (P.1 + 5), .int z4, .int v]) (rest := []) rfl rfl rfl rfl rfl ?_ ?_
  · unfold si_call
    dsimp only
    rw [if_pos ⟨rfl, rfl⟩]
    show (match si_ix P h (P.1 + 5) with | some i => _ | none => none) = _
    rw [jix hH (by decide)]
    dsimp only
    rw [(hH.2 5 _ rfl).1]
    rfl
  refine (strk0_ok hH z4 v (by rw [ez4]; omega) hv).mono ?_
  rintro rv8 h8 ⟨q8, z8, rfl, ez8⟩
  subst h8
  show az_X P _ 18 11 [(0, .ref (P.1 + 5)), (1, .int i), (2, .int v)] [.int z8] _ _
  refine jx_ret rfl rfl rfl ?_
  exact ⟨rfl, z8, rfl, by rw [ez8, ez4]; rfl⟩
theorem same_l {P : si_P} {d : Nat} {h : si_H} (hH : az_HI P az_tb h) (a b n v : Int32) (hv : v = 0 ∨ v = 1) (ha : 0 ≤ a.toInt ∧ a.toInt ≤ 100) (hb : 0 ≤ b.toInt ∧ b.toInt ≤ 100) (hn : n.toInt ≤ 100) : ∀ (k j : Nat) (T : Int32) (ls : si_L), jM [(5, .int T), (0, .ref (P.1 + 5)), (1, .int a), (2, .int b), (3, .int n), (4, .int v)] ls → T.toInt = j → (j : Int) + k = n.toInt → (∀ i : Nat, i < j → jF (ja h 1 0) (ja h 1 1) v.toInt (if v.toInt = 1 then 2 * ja h 1 1 else ja h 1 1) (a.toInt + i) = jF (ja h 1 0) (ja h 1 1) v.toInt (if v.toInt = 1 then 2 * ja h 1 1 else ja h 1 1) (b.toInt + i)) → az_X P (d + 3) 25 3 ls [] h (fun rv h' => h' = h ∧ ∃ z : Int32, rv = some (.int z) ∧ ((z.toInt = 1 ∧ jsm (ja h 1 0) (ja h 1 1) v.toInt (if v.toInt = 1 then 2 * ja h 1 1 else ja h 1 1) n.toInt a.toInt b.toInt) ∨ (z.toInt = 0 ∧ ¬ (jsm (ja h 1 0) (ja h 1 1) v.toInt (if v.toInt = 1 then 2 * ja h 1 1 else ja h 1 1) n.toInt a.toInt b.toInt)))) := by
  have z1 : (1 : Int32).toInt = 1 := by decide
  have z0 : (0 : Int32).toInt = 0 := by decide
  intro k
  induction k with
  | zero =>
    intro j T ls hl' eT hj hs
    refine jm_iload (x := T) rfl rfl (jM_at hl' 0 rfl) ?_
    refine jm_iload_n (x := n) rfl rfl (jM_at hl' 4 rfl) ?_
    refine jx_ic (t := 40) rfl rfl rfl (fun hc6 => ?_) (fun hc6 => ?_)
    · have g6 := jc2_ge_t hc6
      refine az_X_step (pc' := 41) (ls' := ls) (st' := [.int 1]) (h' := h) rfl rfl rfl ?_
      refine jx_retz rfl rfl rfl (by decide) ?_
      exact ⟨rfl, 1, rfl, Or.inl ⟨z1, fun i hi => hs i (by omega)⟩⟩
    · have g6 := jc2_ge_f hc6
      exact absurd eT (by omega)
  | succ k ih =>
    intro j T ls hl' eT hj hs
    have eT1 : (T + 1).toInt = (j + 1 : Nat) := by rw [nm_add (by omega) (by omega)]; omega
    have e1 : (a + T).toInt = a.toInt + j := by rw [nm_add (by omega) (by omega), eT]
    have e2 : (b + T).toInt = b.toInt + j := by rw [nm_add (by omega) (by omega), eT]
    refine jm_iload (x := T) rfl rfl (jM_at hl' 0 rfl) ?_
    refine jm_iload_n (x := n) rfl rfl (jM_at hl' 4 rfl) ?_
    refine jx_ic (t := 40) rfl rfl rfl (fun hc6 => ?_) (fun hc6 => ?_)
    · have g6 := jc2_ge_t hc6
      refine az_X_step (pc' := 41) (ls' := ls) (st' := [.int 1]) (h' := h) rfl rfl rfl ?_
      refine jx_retz rfl rfl rfl (by decide) ?_
      exact absurd eT (by omega)
    · have g6 := jc2_ge_f hc6
      refine jm_aload_n (x := P.1 + 5) rfl rfl (jM_at hl' 1 rfl) ?_
      refine jm_iload_n (x := a) rfl rfl (jM_at hl' 2 rfl) ?_
      refine jm_iload (x := T) rfl rfl (jM_at hl' 0 rfl) ?_
      refine az_X_step (pc' := 14) (ls' := ls) (st' := [.int (a + T), .ref (P.1 + 5)]) (h' := h) rfl rfl rfl ?_
      refine jm_iload (x := v) rfl rfl (jM_at hl' 5 rfl) ?_
      refine az_X_call (m' := 18) (as := [.ref (P.1 + 5), .int (a + T), .int v]) (rest := []) rfl rfl rfl rfl rfl ?_ ?_
      · unfold si_call
        dsimp only
        rw [if_pos ⟨rfl, rfl⟩]
        show (match si_ix P h (P.1 + 5) with | some i => _ | none => none) = _
        rw [jix hH (by decide)]
        dsimp only
        rw [(hH.2 5 _ rfl).1]
        rfl
      refine (stof_ok hH (a + T) v hv (by omega)).mono ?_
      rintro rv16 h16 ⟨q16, z16, rfl, ez16⟩
      subst h16
      show az_X P _ 25 19 ls [.int z16] _ _
      refine jm_aload_n (x := P.1 + 5) rfl rfl (jM_at hl' 1 rfl) ?_
      refine jm_iload_n (x := b) rfl rfl (jM_at hl' 3 rfl) ?_
      refine jm_iload (x := T) rfl rfl (jM_at hl' 0 rfl) ?_
      refine az_X_step (pc' := 24) (ls' := ls) (st' := [.int (b + T), .ref (P.1 + 5), .int z16]) (h' := h) rfl rfl rfl ?_
      refine jm_iload (x := v) rfl rfl (jM_at hl' 5 rfl) ?_
      refine az_X_call (m' := 18) (as := [.ref (P.1 + 5), .int (b + T), .int v]) (rest := [.int z16]) rfl rfl rfl rfl rfl ?_ ?_
      · unfold si_call
        dsimp only
        rw [if_pos ⟨rfl, rfl⟩]
        show (match si_ix P h (P.1 + 5) with | some i => _ | none => none) = _
        rw [jix hH (by decide)]
        dsimp only
        rw [(hH.2 5 _ rfl).1]
        rfl
      refine (stof_ok hH (b + T) v hv (by omega)).mono ?_
      rintro rv26 h26 ⟨q26, z26, rfl, ez26⟩
      subst h26
      show az_X P _ 25 29 ls [.int z26, .int z16] _ _
      refine jx_ic (t := 34) rfl rfl rfl (fun hc29 => ?_) (fun hc29 => ?_)
      · have g29 := jc2_eq_t hc29
        refine jm_iinc (x := T) (x' := T + 1) (l' := [(5, .int (T + 1)), (0, .ref (P.1 + 5)), (1, .int a), (2, .int b), (3, .int n), (4, .int v)]) rfl rfl (by decide) (jM_at hl' 0 rfl) rfl hl' rfl rfl (fun ls34_1 hl34_1 => ?_)
        refine az_X_step (pc' := 3) (ls' := ls34_1) (st' := []) (h' := h) rfl rfl rfl ?_
        rw [ez16, ez26, e1, e2] at g29
        exact ih (j + 1) (T + 1) ls34_1 (jM_pick hl34_1 [0, 1, 2, 3, 4, 5] rfl) eT1 (by omega) (fun i hi => by
          rcases Nat.lt_or_ge i j with q | q
          · exact hs i q
          · rw [show i = j by omega]; exact g29)
      · have g29 := jc2_eq_f hc29
        refine az_X_step (pc' := 33) (ls' := ls) (st' := [.int 0]) (h' := h) rfl rfl rfl ?_
        refine jx_retz rfl rfl rfl (by decide) ?_
        rw [ez16, ez26, e1, e2] at g29
        exact ⟨rfl, 0, rfl, Or.inr ⟨z0, fun q => g29 (q j (by omega))⟩⟩
theorem csame_ok {P : si_P} {d : Nat} {h : si_H} (hH : az_HI P az_tb h) (a b n v : Int32) (hv : v = 0 ∨ v = 1) (ha : 0 ≤ a.toInt ∧ a.toInt ≤ 100) (hb : 0 ≤ b.toInt ∧ b.toInt ≤ 100) (hn : 0 ≤ n.toInt ∧ n.toInt ≤ 100) : az_X P (d + 3) 25 0 (lv_args 0 [.ref (P.1 + 5), .int a, .int b, .int n, .int v]) [] h (fun rv h' => h' = h ∧ ∃ z : Int32, rv = some (.int z) ∧ ((z.toInt = 1 ∧ jsm (ja h 1 0) (ja h 1 1) v.toInt (if v.toInt = 1 then 2 * ja h 1 1 else ja h 1 1) n.toInt a.toInt b.toInt) ∨ (z.toInt = 0 ∧ ¬ (jsm (ja h 1 0) (ja h 1 1) v.toInt (if v.toInt = 1 then 2 * ja h 1 1 else ja h 1 1) n.toInt a.toInt b.toInt)))) := by
  have hl' : jM [(0, .ref (P.1 + 5)), (1, .int a), (2, .int b), (3, .int n), (4, .int v)] (lv_args 0 [.ref (P.1 + 5), .int a, .int b, .int n, .int v]) := jM_args [0, 1, 2, 3, 4] rfl (by decide)
  generalize lv_args 0 [.ref (P.1 + 5), .int a, .int b, .int n, .int v] = ls at hl'
  refine az_X_step (pc' := 1) (ls' := ls) (st' := [.int 0]) (h' := h) rfl rfl rfl ?_
  refine jm_istore (l' := [(5, .int 0), (0, .ref (P.1 + 5)), (1, .int a), (2, .int b), (3, .int n), (4, .int v)]) rfl rfl (by decide) hl' rfl rfl (fun ls1_1 hl1_1 => ?_)
  exact same_l hH a b n v hv ha hb hn.2 n.toInt.toNat 0 0 ls1_1 (jM_pick hl1_1 [0, 1, 2, 3, 4, 5] rfl) (by decide) (by omega) (fun i hi => absurd hi (by omega))
theorem unl_i {P : si_P} {d : Nat} {h : si_H} (hH : az_HI P az_tb h) (n v K A : Int32) (hv : v = 0 ∨ v = 1) (hn : 0 ≤ n.toInt ∧ n.toInt ≤ 100) (hK : K.toInt ≤ 48) (hA0 : 0 ≤ A.toInt ∧ A.toInt ≤ 48) {Q : Option Value → si_H → Prop} (bad : ∀ b : Nat, A.toInt < b → (b : Int) < K.toInt → jsm (ja h 1 0) (ja h 1 1) v.toInt (if v.toInt = 1 then 2 * ja h 1 1 else ja h 1 1) n.toInt A.toInt b → Q (some (.int 0)) h) (cont : ∀ ls : si_L, jM [(4, .int A), (3, .int K), (0, .ref (P.1 + 5)), (1, .int n), (2, .int v)] ls → (∀ b : Nat, A.toInt < b → (b : Int) < K.toInt → ¬ (jsm (ja h 1 0) (ja h 1 1) v.toInt (if v.toInt = 1 then 2 * ja h 1 1 else ja h 1 1) n.toInt A.toInt b)) → az_X P (d + 4) 24 48 ls [] h Q) : ∀ (k j : Nat) (B : Int32) (ls : si_L), jM [(5, .int B), (4, .int A), (3, .int K), (0, .ref (P.1 + 5)), (1, .int n), (2, .int v)] ls → B.toInt = j → A.toInt < j → (j : Int) + k = K.toInt ∨ (k = 0 ∧ K.toInt ≤ j ∧ j ≤ 49) → (∀ b : Nat, A.toInt < b → b < j → ¬ (jsm (ja h 1 0) (ja h 1 1) v.toInt (if v.toInt = 1 then 2 * ja h 1 1 else ja h 1 1) n.toInt A.toInt b)) → az_X P (d + 4) 24 21 ls [] h Q := by
  have z1 : (1 : Int32).toInt = 1 := by decide
  intro k
  induction k with
  | zero =>
    intro j B ls hl' eB hAj hj hs
    refine jm_iload (x := B) rfl rfl (jM_at hl' 0 rfl) ?_
    refine jm_iload_n (x := K) rfl rfl (jM_at hl' 2 rfl) ?_
    refine jx_ic (t := 48) rfl rfl rfl (fun hc24 => ?_) (fun hc24 => ?_)
    · have g24 := jc2_ge_t hc24
      exact cont ls (jM_pick hl' [1, 2, 3, 4, 5] rfl) (fun b h1 h2 => hs b h1 (by omega))
    · have g24 := jc2_ge_f hc24
      exact absurd eB (by omega)
  | succ k ih =>
    intro j B ls hl' eB hAj hj hs
    have eB1 : (B + 1).toInt = (j + 1 : Nat) := by rw [nm_add (by omega) (by omega)]; omega
    refine jm_iload (x := B) rfl rfl (jM_at hl' 0 rfl) ?_
    refine jm_iload_n (x := K) rfl rfl (jM_at hl' 2 rfl) ?_
    refine jx_ic (t := 48) rfl rfl rfl (fun hc24 => ?_) (fun hc24 => ?_)
    · have g24 := jc2_ge_t hc24
      exact absurd eB (by omega)
    · have g24 := jc2_ge_f hc24
      refine jm_aload_n (x := P.1 + 5) rfl rfl (jM_at hl' 3 rfl) ?_
      refine jm_iload (x := A) rfl rfl (jM_at hl' 1 rfl) ?_
      refine jm_iload (x := B) rfl rfl (jM_at hl' 0 rfl) ?_
      refine jm_iload_n (x := n) rfl rfl (jM_at hl' 4 rfl) ?_
      refine jm_iload_n (x := v) rfl rfl (jM_at hl' 5 rfl) ?_
      refine az_X_call (m' := 25) (as := [.ref (P.1 + 5), .int A, .int B, .int n, .int v]) (rest := []) rfl rfl rfl rfl rfl ?_ ?_
      · unfold si_call
        dsimp only
        rw [if_pos ⟨rfl, rfl⟩]
        show (match si_ix P h (P.1 + 5) with | some i => _ | none => none) = _
        rw [jix hH (by decide)]
        dsimp only
        rw [(hH.2 5 _ rfl).1]
        rfl
      refine (csame_ok hH A B n v hv (by omega) (by omega) hn).mono ?_
      rintro rv34 h34 ⟨q34, z34, rfl, ez34⟩
      subst h34
      show az_X P _ 24 37 ls [.int z34] _ _
      refine jx_if (t := 42) rfl rfl rfl (fun hc37 => ?_) (fun hc37 => ?_)
      · have g37 := jc1_eq_t hc37
        refine jm_iinc (x := B) (x' := B + 1) (l' := [(5, .int (B + 1)), (4, .int A), (3, .int K), (0, .ref (P.1 + 5)), (1, .int n), (2, .int v)]) rfl rfl (by decide) (jM_at hl' 0 rfl) rfl hl' rfl rfl (fun ls42_1 hl42_1 => ?_)
        refine az_X_step (pc' := 21) (ls' := ls42_1) (st' := []) (h' := h) rfl rfl rfl ?_
        refine ih (j + 1) (B + 1) ls42_1 (jM_pick hl42_1 [0, 1, 2, 3, 4, 5] rfl) eB1 (by omega) (by omega) (fun b h1 h2 => ?_)
        rcases Nat.lt_or_ge b j with q | q
        · exact hs b h1 q
        · rw [show b = j by omega]
          rcases ez34 with ⟨q1, -⟩ | ⟨-, q1⟩
          · exact absurd g37 (by omega)
          · rw [eB] at q1; exact q1
      · have g37 := jc1_eq_f hc37
        refine az_X_step (pc' := 41) (ls' := ls) (st' := [.int 0]) (h' := h) rfl rfl rfl ?_
        refine jx_retz rfl rfl rfl (by decide) ?_
        refine bad j hAj (by omega) ?_
        rcases ez34 with ⟨-, q⟩ | ⟨q, -⟩
        · rw [eB] at q; exact q
        · exact absurd q g37
theorem unl_o {P : si_P} {d : Nat} {h : si_H} (hH : az_HI P az_tb h) (n v K : Int32) (hv : v = 0 ∨ v = 1) (hn : 0 ≤ n.toInt ∧ n.toInt ≤ 100) (hK : K.toInt = (if v.toInt = 1 then 2 * ja h 1 1 else ja h 1 1)) (hK2 : K.toInt ≤ 48) : ∀ (k j : Nat) (A : Int32) (ls : si_L), jM [(4, .int A), (3, .int K), (0, .ref (P.1 + 5)), (1, .int n), (2, .int v)] ls → A.toInt = j → (j : Int) + k = K.toInt → (∀ a b : Nat, a < j → a < b → (b : Int) < K.toInt → ¬ (jsm (ja h 1 0) (ja h 1 1) v.toInt (if v.toInt = 1 then 2 * ja h 1 1 else ja h 1 1) n.toInt a b)) → az_X P (d + 4) 24 9 ls [] h (fun rv h' => h' = h ∧ ∃ z : Int32, rv = some (.int z) ∧ ((z.toInt = 1 ∧ juq (ja h 1 0) (ja h 1 1) v.toInt (if v.toInt = 1 then 2 * ja h 1 1 else ja h 1 1) n.toInt) ∨ (z.toInt = 0 ∧ ¬ (juq (ja h 1 0) (ja h 1 1) v.toInt (if v.toInt = 1 then 2 * ja h 1 1 else ja h 1 1) n.toInt)))) := by
  have z1 : (1 : Int32).toInt = 1 := by decide
  have z0 : (0 : Int32).toInt = 0 := by decide
  intro k
  induction k with
  | zero =>
    intro j A ls hl' eA hj hs
    refine jm_iload (x := A) rfl rfl (jM_at hl' 0 rfl) ?_
    refine jm_iload_n (x := K) rfl rfl (jM_at hl' 1 rfl) ?_
    refine jx_ic (t := 54) rfl rfl rfl (fun hc12 => ?_) (fun hc12 => ?_)
    · have g12 := jc2_ge_t hc12
      refine az_X_step (pc' := 55) (ls' := ls) (st' := [.int 1]) (h' := h) rfl rfl rfl ?_
      refine jx_retz rfl rfl rfl (by decide) ?_
      exact ⟨rfl, 1, rfl, Or.inl ⟨z1, fun a b h1 h2 => hs a b (by omega) h1 (by omega)⟩⟩
    · have g12 := jc2_ge_f hc12
      exact absurd eA (by omega)
  | succ k ih =>
    intro j A ls hl' eA hj hs
    have eA1 : (A + 1).toInt = (j + 1 : Nat) := by rw [nm_add (by omega) (by omega)]; omega
    refine jm_iload (x := A) rfl rfl (jM_at hl' 0 rfl) ?_
    refine jm_iload_n (x := K) rfl rfl (jM_at hl' 1 rfl) ?_
    refine jx_ic (t := 54) rfl rfl rfl (fun hc12 => ?_) (fun hc12 => ?_)
    · have g12 := jc2_ge_t hc12
      refine az_X_step (pc' := 55) (ls' := ls) (st' := [.int 1]) (h' := h) rfl rfl rfl ?_
      refine jx_retz rfl rfl rfl (by decide) ?_
      exact absurd eA (by omega)
    · have g12 := jc2_ge_f hc12
      refine jm_iload (x := A) rfl rfl (jM_at hl' 0 rfl) ?_
      refine az_X_step (pc' := 18) (ls' := ls) (st' := [.int 1, .int A]) (h' := h) rfl rfl rfl ?_
      refine az_X_step (pc' := 19) (ls' := ls) (st' := [.int (A + 1)]) (h' := h) rfl rfl rfl ?_
      refine jm_istore (l' := [(5, .int (A + 1)), (4, .int A), (3, .int K), (0, .ref (P.1 + 5)), (1, .int n), (2, .int v)]) rfl rfl (by decide) hl' rfl rfl (fun ls19_1 hl19_1 => ?_)
      refine unl_i (d := d) hH n v K A hv hn hK2 (by omega) (fun b h1 h2 h3 => ⟨rfl, 0, rfl, Or.inr ⟨z0, fun q => q j b (by omega) (by omega) (by rw [eA] at h3; exact h3)⟩⟩) (fun ls1 hl1 q1 => ?_) (k) (j + 1) (A + 1) ls19_1 (jM_pick hl19_1 [0, 1, 2, 3, 4, 5] rfl) eA1 (by omega) (by omega) (fun b h1 h2 => absurd h2 (by omega))
      refine jm_iinc (x := A) (x' := A + 1) (l' := [(4, .int (A + 1)), (3, .int K), (0, .ref (P.1 + 5)), (1, .int n), (2, .int v)]) rfl rfl (by decide) (jM_at hl1 0 rfl) rfl hl1 rfl rfl (fun ls48_1 hl48_1 => ?_)
      refine az_X_step (pc' := 9) (ls' := ls48_1) (st' := []) (h' := h) rfl rfl rfl ?_
      refine ih (j + 1) (A + 1) ls48_1 (jM_pick hl48_1 [0, 1, 2, 3, 4] rfl) eA1 (by omega) (fun a b h1 h2 h3 => ?_)
      rcases Nat.lt_or_ge a j with q | q
      · exact hs a b q h2 h3
      · have q2 := q1 b (by omega) h3
        rw [eA] at q2
        rw [show a = j by omega]
        exact q2
theorem cunl_ok {P : si_P} {d : Nat} {h : si_H} (hH : az_HI P az_tb h) (n v : Int32) (hv : v = 0 ∨ v = 1) (hn : 0 ≤ n.toInt ∧ n.toInt ≤ 100) : az_X P (d + 4) 24 0 (lv_args 0 [.ref (P.1 + 5), .int n, .int v]) [] h (fun rv h' => h' = h ∧ ∃ z : Int32, rv = some (.int z) ∧ ((z.toInt = 1 ∧ juq (ja h 1 0) (ja h 1 1) v.toInt (if v.toInt = 1 then 2 * ja h 1 1 else ja h 1 1) n.toInt) ∨ (z.toInt = 0 ∧ ¬ (juq (ja h 1 0) (ja h 1 1) v.toInt (if v.toInt = 1 then 2 * ja h 1 1 else ja h 1 1) n.toInt)))) := by
  have br : 2 ≤ ja h 1 1 ∧ ja h 1 1 ≤ 24 := ja_bd hH (i := 1) (k := 1) rfl
  have hl' : jM [(0, .ref (P.1 + 5)), (1, .int n), (2, .int v)] (lv_args 0 [.ref (P.1 + 5), .int n, .int v]) := jM_args [0, 1, 2] rfl (by decide)
  generalize lv_args 0 [.ref (P.1 + 5), .int n, .int v] = ls at hl'
  refine jm_aload_n (x := P.1 + 5) rfl rfl (jM_at hl' 0 rfl) ?_
  refine jm_iload_n (x := v) rfl rfl (jM_at hl' 2 rfl) ?_
  refine az_X_call (m' := 15) (as := [.ref (P.1 + 5), .int v]) (rest := []) rfl rfl rfl rfl rfl ?_ ?_
  · unfold si_call
    dsimp only
    rw [if_pos ⟨rfl, rfl⟩]
    show (match si_ix P h (P.1 + 5) with | some i => _ | none => none) = _
    rw [jix hH (by decide)]
    dsimp only
    rw [(hH.2 5 _ rfl).1]
    rfl
  refine (smany_ok hH v hv).mono ?_
  rintro rv2 h2 ⟨q2, z2, rfl, ez2⟩
  subst h2
  show az_X P _ 24 5 ls [.int z2] _ _
  refine jm_istore_n (l' := [(3, .int z2), (0, .ref (P.1 + 5)), (1, .int n), (2, .int v)]) rfl rfl (by decide) hl' rfl rfl (fun ls5_1 hl5_1 => ?_)
  refine az_X_step (pc' := 7) (ls' := ls5_1) (st' := [.int 0]) (h' := h) rfl rfl rfl ?_
  refine jm_istore (l' := [(4, .int 0), (3, .int z2), (0, .ref (P.1 + 5)), (1, .int n), (2, .int v)]) rfl rfl (by decide) hl5_1 rfl rfl (fun ls7_2 hl7_2 => ?_)
  have K2 : 0 ≤ z2.toInt ∧ z2.toInt ≤ 48 := by rw [ez2]; split <;> omega
  exact unl_o (d := d) hH n v z2 hv hn ez2 K2.2 z2.toInt.toNat 0 0 ls7_2 (jM_pick hl7_2 [0, 1, 2, 3, 4] rfl) (by decide) (by omega) (fun a b h1 => absurd h1 (by omega))
theorem enough_l {P : si_P} {d : Nat} {h : si_H} (hH : az_HI P az_tb h) (v K : Int32) (hv : v = 0 ∨ v = 1) (hK : K.toInt = (if v.toInt = 1 then 2 * ja h 1 1 else ja h 1 1)) (hK2 : K.toInt ≤ 48) : ∀ (k j : Nat) (T : Int32) (ls : si_L), jM [(3, .int T), (2, .int K), (0, .ref (P.1 + 5)), (1, .int v)] ls → T.toInt = j → 1 ≤ j → (j : Int) + k = K.toInt → (∀ i : Nat, 1 ≤ i → i < j → ¬ juq (ja h 1 0) (ja h 1 1) v.toInt (if v.toInt = 1 then 2 * ja h 1 1 else ja h 1 1) i) → az_X P (d + 5) 23 8 ls [] h (fun rv h' => h' = h ∧ ∃ z : Int32, rv = some (.int z) ∧ jls (ja h 1 0) (ja h 1 1) v.toInt (if v.toInt = 1 then 2 * ja h 1 1 else ja h 1 1) z.toInt) := by
  intro k
  induction k with
  | zero =>
    intro j T ls hl' eT h1 hj hs
    refine jm_iload_n (x := T) rfl rfl (jM_at hl' 0 rfl) ?_
    refine jm_iload_n (x := K) rfl rfl (jM_at hl' 1 rfl) ?_
    refine jx_ic (t := 30) rfl rfl rfl (fun hc10 => ?_) (fun hc10 => ?_)
    · have g10 := jc2_ge_t hc10
      refine jm_iload_n (x := K) rfl rfl (jM_at hl' 1 rfl) ?_
      refine jx_ret rfl rfl rfl ?_
      exact ⟨rfl, K, rfl, Or.inr ⟨hK, fun i i1 i2 => hs i i1 (by omega)⟩⟩
    · have g10 := jc2_ge_f hc10
      exact absurd eT (by omega)
  | succ k ih =>
    intro j T ls hl' eT h1 hj hs
    have z1 : (1 : Int32).toInt = 1 := by decide
    have eT1 : (T + 1).toInt = (j + 1 : Nat) := by rw [nm_add (by omega) (by omega)]; omega
    refine jm_iload_n (x := T) rfl rfl (jM_at hl' 0 rfl) ?_
    refine jm_iload_n (x := K) rfl rfl (jM_at hl' 1 rfl) ?_
    refine jx_ic (t := 30) rfl rfl rfl (fun hc10 => ?_) (fun hc10 => ?_)
    · have g10 := jc2_ge_t hc10
      refine jm_iload_n (x := K) rfl rfl (jM_at hl' 1 rfl) ?_
      refine jx_ret rfl rfl rfl ?_
      exact absurd eT (by omega)
    · have g10 := jc2_ge_f hc10
      refine jm_aload_n (x := P.1 + 5) rfl rfl (jM_at hl' 2 rfl) ?_
      refine jm_iload_n (x := T) rfl rfl (jM_at hl' 0 rfl) ?_
      refine jm_iload_n (x := v) rfl rfl (jM_at hl' 3 rfl) ?_
      refine az_X_call (m' := 24) (as := [.ref (P.1 + 5), .int T, .int v]) (rest := []) rfl rfl rfl rfl rfl ?_ ?_
      · unfold si_call
        dsimp only
        rw [if_pos ⟨rfl, rfl⟩]
        show (match si_ix P h (P.1 + 5) with | some i => _ | none => none) = _
        rw [jix hH (by decide)]
        dsimp only
        rw [(hH.2 5 _ rfl).1]
        rfl
      refine (cunl_ok hH T v hv (by omega)).mono ?_
      rintro rv16 h16 ⟨q16, z16, rfl, ez16⟩
      subst h16
      show az_X P _ 23 19 ls [.int z16] _ _
      refine jx_if (t := 24) rfl rfl rfl (fun hc19 => ?_) (fun hc19 => ?_)
      · have g19 := jc1_eq_t hc19
        refine jm_iinc (x := T) (x' := T + 1) (l' := [(3, .int (T + 1)), (2, .int K), (0, .ref (P.1 + 5)), (1, .int v)]) rfl rfl (by decide) (jM_at hl' 0 rfl) rfl hl' rfl rfl (fun ls24_1 hl24_1 => ?_)
        refine az_X_step (pc' := 8) (ls' := ls24_1) (st' := []) (h' := h) rfl rfl rfl ?_
        refine ih (j + 1) (T + 1) ls24_1 (jM_pick hl24_1 [0, 1, 2, 3] rfl) eT1 (by omega) (by omega) (fun i i1 i2 => ?_)
        rcases Nat.lt_or_ge i j with q | q
        · exact hs i i1 q
        · rw [show i = j by omega]
          rcases ez16 with ⟨q1, -⟩ | ⟨-, q1⟩
          · exact absurd g19 (by omega)
          · rw [eT] at q1; exact q1
      · have g19 := jc1_eq_f hc19
        refine jm_iload_n (x := T) rfl rfl (jM_at hl' 0 rfl) ?_
        refine jx_ret rfl rfl rfl ?_
        exact ⟨rfl, T, rfl, Or.inl ⟨j, h1, by omega, eT, by
          rcases ez16 with ⟨-, q⟩ | ⟨q, -⟩
          · rw [eT] at q; exact q
          · exact absurd q g19, hs⟩⟩
theorem cenough_ok {P : si_P} {d : Nat} {h : si_H} (hH : az_HI P az_tb h) (v : Int32) (hv : v = 0 ∨ v = 1) : az_X P (d + 5) 23 0 (lv_args 0 [.ref (P.1 + 5), .int v]) [] h (fun rv h' => h' = h ∧ ∃ z : Int32, rv = some (.int z) ∧ jls (ja h 1 0) (ja h 1 1) v.toInt (if v.toInt = 1 then 2 * ja h 1 1 else ja h 1 1) z.toInt) := by
  have br : 2 ≤ ja h 1 1 ∧ ja h 1 1 ≤ 24 := ja_bd hH (i := 1) (k := 1) rfl
  have hl' : jM [(0, .ref (P.1 + 5)), (1, .int v)] (lv_args 0 [.ref (P.1 + 5), .int v]) := jM_args [0, 1] rfl (by decide)
  generalize lv_args 0 [.ref (P.1 + 5), .int v] = ls at hl'
  refine jm_aload_n (x := P.1 + 5) rfl rfl (jM_at hl' 0 rfl) ?_
  refine jm_iload_n (x := v) rfl rfl (jM_at hl' 1 rfl) ?_
  refine az_X_call (m' := 15) (as := [.ref (P.1 + 5), .int v]) (rest := []) rfl rfl rfl rfl rfl ?_ ?_
  · unfold si_call
    dsimp only
    rw [if_pos ⟨rfl, rfl⟩]
    show (match si_ix P h (P.1 + 5) with | some i => _ | none => none) = _
    rw [jix hH (by decide)]
    dsimp only
    rw [(hH.2 5 _ rfl).1]
    rfl
  refine (smany_ok hH v hv).mono ?_
  rintro rv2 h2 ⟨q2, z2, rfl, ez2⟩
  subst h2
  show az_X P _ 23 5 ls [.int z2] _ _
  refine jm_istore_n (l' := [(2, .int z2), (0, .ref (P.1 + 5)), (1, .int v)]) rfl rfl (by decide) hl' rfl rfl (fun ls5_1 hl5_1 => ?_)
  refine az_X_step (pc' := 7) (ls' := ls5_1) (st' := [.int 1]) (h' := h) rfl rfl rfl ?_
  refine jm_istore_n (l' := [(3, .int 1), (2, .int z2), (0, .ref (P.1 + 5)), (1, .int v)]) rfl rfl (by decide) hl5_1 rfl rfl (fun ls7_2 hl7_2 => ?_)
  have K2 : 2 ≤ z2.toInt ∧ z2.toInt ≤ 48 := by rw [ez2]; split <;> omega
  exact enough_l (d := d) hH v z2 hv ez2 K2.2 (z2.toInt - 1).toNat 1 1 ls7_2 (jM_pick hl7_2 [0, 1, 2, 3] rfl) (by decide) (by decide) (by omega) (fun i i1 i2 => absurd i2 (by omega))
theorem listen0_ok {P : si_P} {d : Nat} {h : si_H} (hH : az_HI P az_tb h) (v : Int32) (hv : v = 0 ∨ v = 1) : az_X P (d + 6) 164 0 (lv_args 0 [.ref (P.1 + 0), .int v]) [] h (fun rv h' => h' = h ∧ ∃ z : Int32, rv = some (.int z) ∧ jls (ja h 1 0) (ja h 1 1) v.toInt (if v.toInt = 1 then 2 * ja h 1 1 else ja h 1 1) z.toInt) := by
  refine az_X_step (pc' := 1) (ls' := [(0, .ref (P.1 + 0)), (1, .int v)]) (st' := [.ref (P.1 + 0)]) (h' := h) rfl rfl rfl ?_
  refine jx_gf (i := 0) rfl rfl hH (by decide) (hH.2 0 _ rfl).1 rfl (jx_rf hH rfl rfl) ?_
  refine az_X_step (pc' := 5) (ls' := [(0, .ref (P.1 + 0)), (1, .int v)]) (st' := [.int v, .ref (P.1 + 5)]) (h' := h) rfl rfl rfl ?_
  refine az_X_call (m' := 23) (as := [.ref (P.1 + 5), .int v]) (rest := []) rfl rfl rfl rfl rfl ?_ ?_
  · unfold si_call
    dsimp only
    rw [if_pos ⟨rfl, rfl⟩]
    show (match si_ix P h (P.1 + 5) with | some i => _ | none => none) = _
    rw [jix hH (by decide)]
    dsimp only
    rw [(hH.2 5 _ rfl).1]
    rfl
  refine (cenough_ok hH v hv).mono ?_
  rintro rv5 h5 ⟨q5, z5, rfl, ez5⟩
  subst h5
  show az_X P _ 164 8 [(0, .ref (P.1 + 0)), (1, .int v)] [.int z5] _ _
  refine jx_ret rfl rfl rfl ?_
  exact ⟨rfl, z5, rfl, ez5⟩
theorem rsame_l {P : si_P} (hxa : P.2.1 < P.1) {d : Nat} {h : si_H} (hH : az_HI P az_tb h) {m r N : Int} {v : Int} (hN2 : 2 ≤ N ∧ N ≤ 48) (h58 : ja h 60 58 = N) (hA : ∀ i : Nat, (i : Int) < N → ja h 100 i = jst m r (jtof m v i) v) (a b n : Int32) (ha : 0 ≤ a.toInt ∧ a.toInt ≤ 100) (hb : 0 ≤ b.toInt ∧ b.toInt ≤ 100) (hn : n.toInt ≤ 100) : ∀ (k j : Nat) (T : Int32) (ls : si_L), jM [(4, .int T), (0, .ref (P.1 + 60)), (1, .int a), (2, .int b), (3, .int n)] ls → T.toInt = j → (j : Int) + k = n.toInt → (∀ i : Nat, i < j → jF m r v N (a.toInt + i) = jF m r v N (b.toInt + i)) → az_X P d 294 3 ls [] h (fun rv h' => h' = h ∧ ∃ z : Int32, rv = some (.int z) ∧ ((z.toInt = 1 ∧ jsm m r v N n.toInt a.toInt b.toInt) ∨ (z.toInt = 0 ∧ ¬ (jsm m r v N n.toInt a.toInt b.toInt)))) := by
  obtain ⟨⟨S, hS, eS⟩, bS⟩ := jt_ok hH (i := 60) (k := 58) rfl
  have eS' : ja h 60 58 = S.toInt := eS.symm
  have z1 : (1 : Int32).toInt = 1 := by decide
  have z0 : (0 : Int32).toInt = 0 := by decide
  have eSN : S.toInt = N := by rw [← eS', h58]
  have hS0 : S ≠ 0 := fun e => by rw [e, z0] at eSN; omega
  intro k
  induction k with
  | zero =>
    intro j T ls hl' eT hj hs
    refine jm_iload (x := T) rfl rfl (jM_at hl' 0 rfl) ?_
    refine jm_iload_n (x := n) rfl rfl (jM_at hl' 4 rfl) ?_
    refine jx_ic (t := 48) rfl rfl rfl (fun hc6 => ?_) (fun hc6 => ?_)
    · have g6 := jc2_ge_t hc6
      refine az_X_step (pc' := 49) (ls' := ls) (st' := [.int 1]) (h' := h) rfl rfl rfl ?_
      refine jx_retz rfl rfl rfl (by decide) ?_
      exact ⟨rfl, 1, rfl, Or.inl ⟨z1, fun i hi => hs i (by omega)⟩⟩
    · have g6 := jc2_ge_f hc6
      exact absurd eT (by omega)
  | succ k ih =>
    intro j T ls hl' eT hj hs
    have eT1 : (T + 1).toInt = (j + 1 : Nat) := by rw [nm_add (by omega) (by omega)]; omega
    have rd : ∀ x : Int32, 0 ≤ x.toInt → x.toInt ≤ 100 → 0 ≤ (x + T - (x + T) / S * S).toInt ∧ (x + T - (x + T) / S * S).toInt < N ∧ ja h 100 (x + T - (x + T) / S * S).toInt = jF m r v N (x.toInt + j) := by
      intro x x0 x1
      have e1 : (x + T).toInt = x.toInt + j := by rw [nm_add (by omega) (by omega), eT]
      have e2 : (x + T - (x + T) / S * S).toInt = (x.toInt + j) % N := by rw [nm_rem (by omega), Int.tmod_eq_emod_of_nonneg (by omega), e1, eSN]
      have m0 := Int.emod_nonneg (x.toInt + j) (b := N) (by omega)
      have m1 := Int.emod_lt_of_pos (x.toInt + j) (b := N) (by omega)
      have a1 := hA ((x.toInt + j) % N).toNat (by omega)
      rw [Int.toNat_of_nonneg m0] at a1
      rw [e2]
      exact ⟨m0, m1, a1⟩
    have ra := rd a ha.1 ha.2
    have rb := rd b hb.1 hb.2
    refine jm_iload (x := T) rfl rfl (jM_at hl' 0 rfl) ?_
    refine jm_iload_n (x := n) rfl rfl (jM_at hl' 4 rfl) ?_
    refine jx_ic (t := 48) rfl rfl rfl (fun hc6 => ?_) (fun hc6 => ?_)
    · have g6 := jc2_ge_t hc6
      refine az_X_step (pc' := 49) (ls' := ls) (st' := [.int 1]) (h' := h) rfl rfl rfl ?_
      refine jx_retz rfl rfl rfl (by decide) ?_
      exact absurd eT (by omega)
    · have g6 := jc2_ge_f hc6
      refine jm_aload_n (x := P.1 + 60) rfl rfl (jM_at hl' 1 rfl) ?_
      refine jx_gf (i := 60) rfl rfl hH (by decide) (hH.2 60 _ rfl).1 rfl (jx_rf hH rfl rfl) ?_
      refine jm_iload_n (x := a) rfl rfl (jM_at hl' 2 rfl) ?_
      refine jm_iload (x := T) rfl rfl (jM_at hl' 0 rfl) ?_
      refine az_X_step (pc' := 17) (ls' := ls) (st' := [.int (a + T), .ref (P.1 + 100)]) (h' := h) rfl rfl rfl ?_
      refine jm_aload_n (x := P.1 + 60) rfl rfl (jM_at hl' 1 rfl) ?_
      refine jx_gf (i := 60) rfl rfl hH (by decide) (hH.2 60 _ rfl).1 rfl hS ?_
      refine jx_rem rfl rfl hS0 ?_
      refine jx_ial (i := 100) (x := (a + T) - (a + T) / S * S) rfl rfl hxa hH (by decide) rfl ra.1 (by show _ < ((48 : Nat) : Int); omega) (fun z22 ez22 bz22 => ?_)
      refine jm_aload_n (x := P.1 + 60) rfl rfl (jM_at hl' 1 rfl) ?_
      refine jx_gf (i := 60) rfl rfl hH (by decide) (hH.2 60 _ rfl).1 rfl (jx_rf hH rfl rfl) ?_
      refine jm_iload_n (x := b) rfl rfl (jM_at hl' 3 rfl) ?_
      refine jm_iload (x := T) rfl rfl (jM_at hl' 0 rfl) ?_
      refine az_X_step (pc' := 31) (ls' := ls) (st' := [.int (b + T), .ref (P.1 + 100), .int z22]) (h' := h) rfl rfl rfl ?_
      refine jm_aload_n (x := P.1 + 60) rfl rfl (jM_at hl' 1 rfl) ?_
      refine jx_gf (i := 60) rfl rfl hH (by decide) (hH.2 60 _ rfl).1 rfl hS ?_
      refine jx_rem rfl rfl hS0 ?_
      refine jx_ial (i := 100) (x := (b + T) - (b + T) / S * S) rfl rfl hxa hH (by decide) rfl rb.1 (by show _ < ((48 : Nat) : Int); omega) (fun z36 ez36 bz36 => ?_)
      refine jx_ic (t := 42) rfl rfl rfl (fun hc37 => ?_) (fun hc37 => ?_)
      · have g37 := jc2_eq_t hc37
        refine jm_iinc (x := T) (x' := T + 1) (l' := [(4, .int (T + 1)), (0, .ref (P.1 + 60)), (1, .int a), (2, .int b), (3, .int n)]) rfl rfl (by decide) (jM_at hl' 0 rfl) rfl hl' rfl rfl (fun ls42_1 hl42_1 => ?_)
        refine az_X_step (pc' := 3) (ls' := ls42_1) (st' := []) (h' := h) rfl rfl rfl ?_
        rw [ez22, ez36, ra.2.2, rb.2.2] at g37
        exact ih (j + 1) (T + 1) ls42_1 (jM_pick hl42_1 [0, 1, 2, 3, 4] rfl) eT1 (by omega) (fun i hi => by
          rcases Nat.lt_or_ge i j with q | q
          · exact hs i q
          · rw [show i = j by omega]; exact g37)
      · have g37 := jc2_eq_f hc37
        refine az_X_step (pc' := 41) (ls' := ls) (st' := [.int 0]) (h' := h) rfl rfl rfl ?_
        refine jx_retz rfl rfl rfl (by decide) ?_
        rw [ez22, ez36, ra.2.2, rb.2.2] at g37
        exact ⟨rfl, 0, rfl, Or.inr ⟨z0, fun q => g37 (q j (by omega))⟩⟩
theorem rsame_ok {P : si_P} (hxa : P.2.1 < P.1) {d : Nat} {h : si_H} (hH : az_HI P az_tb h) {m r N : Int} {v : Int} (hN2 : 2 ≤ N ∧ N ≤ 48) (h58 : ja h 60 58 = N) (hA : ∀ i : Nat, (i : Int) < N → ja h 100 i = jst m r (jtof m v i) v) (a b n : Int32) (ha : 0 ≤ a.toInt ∧ a.toInt ≤ 100) (hb : 0 ≤ b.toInt ∧ b.toInt ≤ 100) (hn : 0 ≤ n.toInt ∧ n.toInt ≤ 100) : az_X P d 294 0 (lv_args 0 [.ref (P.1 + 60), .int a, .int b, .int n]) [] h (fun rv h' => h' = h ∧ ∃ z : Int32, rv = some (.int z) ∧ ((z.toInt = 1 ∧ jsm m r v N n.toInt a.toInt b.toInt) ∨ (z.toInt = 0 ∧ ¬ (jsm m r v N n.toInt a.toInt b.toInt)))) := by
  have hl' : jM [(0, .ref (P.1 + 60)), (1, .int a), (2, .int b), (3, .int n)] (lv_args 0 [.ref (P.1 + 60), .int a, .int b, .int n]) := jM_args [0, 1, 2, 3] rfl (by decide)
  generalize lv_args 0 [.ref (P.1 + 60), .int a, .int b, .int n] = ls at hl'
  refine az_X_step (pc' := 1) (ls' := ls) (st' := [.int 0]) (h' := h) rfl rfl rfl ?_
  refine jm_istore (l' := [(4, .int 0), (0, .ref (P.1 + 60)), (1, .int a), (2, .int b), (3, .int n)]) rfl rfl (by decide) hl' rfl rfl (fun ls1_1 hl1_1 => ?_)
  exact rsame_l hxa hH hN2 h58 hA a b n ha hb hn.2 n.toInt.toNat 0 0 ls1_1 (jM_pick hl1_1 [0, 1, 2, 3, 4] rfl) (by decide) (by omega) (fun i hi => absurd hi (by omega))
theorem rlis_i {P : si_P} (hxa : P.2.1 < P.1) {d : Nat} {h : si_H} (hH : az_HI P az_tb h) {m r N : Int} {v : Int} (hN2 : 2 ≤ N ∧ N ≤ 48) (h58 : ja h 60 58 = N) (hA : ∀ i : Nat, (i : Int) < N → ja h 100 i = jst m r (jtof m v i) v) (w T : Int32) (hT : 0 ≤ T.toInt ∧ T.toInt ≤ 100) {Q : Option Value → si_H → Prop} (cont : ∀ (U : Int32) (ls : si_L), jM [(3, .int U), (2, .int T), (0, .ref (P.1 + 60)), (1, .int w)] ls → (∀ M : Nat, (M : Int) = N * N → (((U.toInt = 1 ∧ ∀ c : Nat, c < M → ¬ ((c : Int) / N < (c : Int) % N ∧ jsm m r v N T.toInt ((c : Int) / N) ((c : Int) % N))) ∨ (U.toInt = 0 ∧ ∃ c : Nat, (c : Int) < N * N ∧ ((c : Int) / N < (c : Int) % N ∧ jsm m r v N T.toInt ((c : Int) / N) ((c : Int) % N)))))) → az_X P (d + 1) 295 81 ls [] h Q) : ∀ (k j : Nat) (C U : Int32) (ls : si_L), jM [(4, .int C), (3, .int U), (2, .int T), (0, .ref (P.1 + 60)), (1, .int w)] ls → C.toInt = j → (j : Int) + k = N * N → ((U.toInt = 1 ∧ ∀ c : Nat, c < j → ¬ ((c : Int) / N < (c : Int) % N ∧ jsm m r v N T.toInt ((c : Int) / N) ((c : Int) % N))) ∨ (U.toInt = 0 ∧ ∃ c : Nat, (c : Int) < N * N ∧ ((c : Int) / N < (c : Int) % N ∧ jsm m r v N T.toInt ((c : Int) / N) ((c : Int) % N)))) → az_X P (d + 1) 295 20 ls [] h Q := by
  obtain ⟨⟨S, hS, eS⟩, bS⟩ := jt_ok hH (i := 60) (k := 58) rfl
  have eS' : ja h 60 58 = S.toInt := eS.symm
  have z1 : (1 : Int32).toInt = 1 := by decide
  have z0 : (0 : Int32).toInt = 0 := by decide
  have eSN : S.toInt = N := by rw [← eS', h58]
  have hS0 : S ≠ 0 := fun e => by rw [e, z0] at eSN; omega
  have mm := nm_mulnn (a := 2) (b := 48) (c := 2) (d := 48) (x := N) (y := N) (by decide) (by decide) hN2.1 hN2.2 hN2.1 hN2.2
  have eSS : (S * S).toInt = N * N := by rw [nm_mul (by rw [eSN]; omega) (by rw [eSN]; omega), eSN]
  intro k
  induction k with
  | zero =>
    intro j C U ls hl' eC hj hs
    refine jm_iload (x := C) rfl rfl (jM_at hl' 0 rfl) ?_
    refine jm_aload_n (x := P.1 + 60) rfl rfl (jM_at hl' 3 rfl) ?_
    refine jx_gf (i := 60) rfl rfl hH (by decide) (hH.2 60 _ rfl).1 rfl hS ?_
    refine jm_aload_n (x := P.1 + 60) rfl rfl (jM_at hl' 3 rfl) ?_
    refine jx_gf (i := 60) rfl rfl hH (by decide) (hH.2 60 _ rfl).1 rfl hS ?_
    refine az_X_step (pc' := 31) (ls' := ls) (st' := [.int (S * S), .int C]) (h' := h) rfl rfl rfl ?_
    refine jx_ic (t := 81) rfl rfl rfl (fun hc31 => ?_) (fun hc31 => ?_)
    · have g31 := jc2_ge_t hc31
      exact cont U ls (jM_pick hl' [1, 2, 3, 4] rfl) (fun M hM => by rw [show M = j by omega]; exact hs)
    · have g31 := jc2_ge_f hc31
      exact absurd eC (by omega)
  | succ k ih =>
    intro j C U ls hl' eC hj hs
    have eC1 : (C + 1).toInt = (j + 1 : Nat) := by rw [nm_add (by omega) (by omega)]; omega
    have ed : (C / S).toInt = (j : Int) / N := by rw [nm_div (by omega), nm_tdiv_nn (by omega), eC, eSN]
    have er : (C - C / S * S).toInt = (j : Int) % N := by rw [nm_rem (by omega), Int.tmod_eq_emod_of_nonneg (by omega), eC, eSN]
    have d0 : 0 ≤ (j : Int) / N := Int.ediv_nonneg (by omega) (by omega)
    have d1 : (j : Int) / N < N := Int.ediv_lt_of_lt_mul (by omega) (by omega)
    have m0 := Int.emod_nonneg (j : Int) (b := N) (by omega)
    have m1 := Int.emod_lt_of_pos (j : Int) (b := N) (by omega)
    have keep : ¬ ((j : Int) / N < (j : Int) % N ∧ jsm m r v N T.toInt ((j : Int) / N) ((j : Int) % N)) → ((U.toInt = 1 ∧ ∀ c : Nat, c < (j + 1) → ¬ ((c : Int) / N < (c : Int) % N ∧ jsm m r v N T.toInt ((c : Int) / N) ((c : Int) % N))) ∨ (U.toInt = 0 ∧ ∃ c : Nat, (c : Int) < N * N ∧ ((c : Int) / N < (c : Int) % N ∧ jsm m r v N T.toInt ((c : Int) / N) ((c : Int) % N)))) := by
      intro hb
      rcases hs with ⟨u, q⟩ | ⟨u, q⟩
      · refine Or.inl ⟨u, fun c hc => ?_⟩
        rcases Nat.lt_or_ge c j with e | e
        · exact q c e
        · rw [show c = j by omega]; exact hb
      · exact Or.inr ⟨u, q⟩
    refine jm_iload (x := C) rfl rfl (jM_at hl' 0 rfl) ?_
    refine jm_aload_n (x := P.1 + 60) rfl rfl (jM_at hl' 3 rfl) ?_
    refine jx_gf (i := 60) rfl rfl hH (by decide) (hH.2 60 _ rfl).1 rfl hS ?_
    refine jm_aload_n (x := P.1 + 60) rfl rfl (jM_at hl' 3 rfl) ?_
    refine jx_gf (i := 60) rfl rfl hH (by decide) (hH.2 60 _ rfl).1 rfl hS ?_
    refine az_X_step (pc' := 31) (ls' := ls) (st' := [.int (S * S), .int C]) (h' := h) rfl rfl rfl ?_
    refine jx_ic (t := 81) rfl rfl rfl (fun hc31 => ?_) (fun hc31 => ?_)
    · have g31 := jc2_ge_t hc31
      exact absurd eC (by omega)
    · have g31 := jc2_ge_f hc31
      refine jm_iload (x := C) rfl rfl (jM_at hl' 0 rfl) ?_
      refine jm_aload_n (x := P.1 + 60) rfl rfl (jM_at hl' 3 rfl) ?_
      refine jx_gf (i := 60) rfl rfl hH (by decide) (hH.2 60 _ rfl).1 rfl hS ?_
      refine jx_div rfl rfl hS0 ?_
      refine jm_iload (x := C) rfl rfl (jM_at hl' 0 rfl) ?_
      refine jm_aload_n (x := P.1 + 60) rfl rfl (jM_at hl' 3 rfl) ?_
      refine jx_gf (i := 60) rfl rfl hH (by decide) (hH.2 60 _ rfl).1 rfl hS ?_
      refine jx_rem rfl rfl hS0 ?_
      refine jx_ic (t := 75) rfl rfl rfl (fun hc48 => ?_) (fun hc48 => ?_)
      · have g48 := jc2_ge_t hc48
        refine jm_iinc (x := C) (x' := C + 1) (l' := [(4, .int (C + 1)), (3, .int U), (2, .int T), (0, .ref (P.1 + 60)), (1, .int w)]) rfl rfl (by decide) (jM_at hl' 0 rfl) rfl hl' rfl rfl (fun ls75_1 hl75_1 => ?_)
        refine az_X_step (pc' := 20) (ls' := ls75_1) (st' := []) (h' := h) rfl rfl rfl ?_
        rw [ed, er] at g48
        exact ih (j + 1) (C + 1) U ls75_1 (jM_pick hl75_1 [0, 1, 2, 3, 4] rfl) eC1 (by omega) (keep (fun q => absurd q.1 (by omega)))
      · have g48 := jc2_ge_f hc48
        refine jm_aload_n (x := P.1 + 60) rfl rfl (jM_at hl' 3 rfl) ?_
        refine jm_iload (x := C) rfl rfl (jM_at hl' 0 rfl) ?_
        refine jm_aload_n (x := P.1 + 60) rfl rfl (jM_at hl' 3 rfl) ?_
        refine jx_gf (i := 60) rfl rfl hH (by decide) (hH.2 60 _ rfl).1 rfl hS ?_
        refine jx_div rfl rfl hS0 ?_
        refine jm_iload (x := C) rfl rfl (jM_at hl' 0 rfl) ?_
        refine jm_aload_n (x := P.1 + 60) rfl rfl (jM_at hl' 3 rfl) ?_
        refine jx_gf (i := 60) rfl rfl hH (by decide) (hH.2 60 _ rfl).1 rfl hS ?_
        refine jx_rem rfl rfl hS0 ?_
        refine jm_iload_n (x := T) rfl rfl (jM_at hl' 2 rfl) ?_
        refine az_X_call (m' := 294) (as := [.ref (P.1 + 60), .int (C / S), .int (C - C / S * S), .int T]) (rest := []) rfl rfl rfl rfl rfl ?_ ?_
        · unfold si_call
          dsimp only
          rw [if_pos ⟨rfl, rfl⟩]
          show (match si_ix P h (P.1 + 60) with | some i => _ | none => none) = _
          rw [jix hH (by decide)]
          dsimp only
          rw [(hH.2 60 _ rfl).1]
          rfl
        refine (rsame_ok hxa hH hN2 h58 hA (C / S) (C - C / S * S) T (by rw [ed]; omega) (by rw [er]; omega) hT).mono ?_
        rintro rv67 h67 ⟨q67, z67, rfl, ez67⟩
        subst h67
        show az_X P _ 295 70 ls [.int z67] _ _
        refine jx_if (t := 75) rfl rfl rfl (fun hc70 => ?_) (fun hc70 => ?_)
        · have g70 := jc1_eq_t hc70
          refine jm_iinc (x := C) (x' := C + 1) (l' := [(4, .int (C + 1)), (3, .int U), (2, .int T), (0, .ref (P.1 + 60)), (1, .int w)]) rfl rfl (by decide) (jM_at hl' 0 rfl) rfl hl' rfl rfl (fun ls75_2 hl75_2 => ?_)
          refine az_X_step (pc' := 20) (ls' := ls75_2) (st' := []) (h' := h) rfl rfl rfl ?_
          exact ih (j + 1) (C + 1) U ls75_2 (jM_pick hl75_2 [0, 1, 2, 3, 4] rfl) eC1 (by omega) (keep (fun q => by
            rcases ez67 with ⟨q1, -⟩ | ⟨-, q1⟩
            · exact absurd g70 (by omega)
            · rw [ed, er] at q1; exact q1 q.2))
        · have g70 := jc1_eq_f hc70
          refine az_X_step (pc' := 74) (ls' := ls) (st' := [.int 0]) (h' := h) rfl rfl rfl ?_
          refine jm_istore_n (l' := [(3, .int 0), (4, .int C), (2, .int T), (0, .ref (P.1 + 60)), (1, .int w)]) rfl rfl (by decide) hl' rfl rfl (fun ls74_3 hl74_3 => ?_)
          refine jm_iinc (x := C) (x' := C + 1) (l' := [(4, .int (C + 1)), (3, .int 0), (2, .int T), (0, .ref (P.1 + 60)), (1, .int w)]) rfl rfl (by decide) (jM_at hl74_3 1 rfl) rfl hl74_3 rfl rfl (fun ls75_4 hl75_4 => ?_)
          refine az_X_step (pc' := 20) (ls' := ls75_4) (st' := []) (h' := h) rfl rfl rfl ?_
          rw [ed, er] at g48
          exact ih (j + 1) (C + 1) 0 ls75_4 (jM_pick hl75_4 [0, 1, 2, 3, 4] rfl) eC1 (by omega) (Or.inr ⟨z0, j, by omega, by omega, by
            rcases ez67 with ⟨-, q1⟩ | ⟨q1, -⟩
            · rw [ed, er] at q1; exact q1
            · exact absurd q1 g70⟩)
theorem jsq {N : Int} (hN : 2 ≤ N) {a b : Nat} (hab : a < b) (hb : (b : Int) < N) : ∃ c : Nat, (c : Int) < N * N ∧ (c : Int) / N = a ∧ (c : Int) % N = b := by
  obtain ⟨n, rfl⟩ : ∃ n : Nat, N = n := ⟨N.toNat, by omega⟩
  have e : ((a * n + b : Nat) : Int) = b + n * a := by
    rw [Int.natCast_add, Int.natCast_mul, Int.mul_comm, Int.add_comm]
  refine ⟨a * n + b, ?_, ?_, ?_⟩
  · rw [e]
    have : (n : Int) * (a + 1) ≤ n * n := Int.mul_le_mul_of_nonneg_left (by omega) (by omega)
    rw [Int.mul_add, Int.mul_one] at this
    omega
  · rw [e, Int.add_mul_ediv_left _ _ (by omega), Int.ediv_eq_zero_of_lt (by omega) hb, Int.zero_add]
  · rw [e, Int.add_mul_emod_self_left, Int.emod_eq_of_lt (by omega) hb]
theorem rlis_o {P : si_P} (hxa : P.2.1 < P.1) {d : Nat} {h : si_H} (hH : az_HI P az_tb h) {m r N : Int} {v : Int} (hN2 : 2 ≤ N ∧ N ≤ 48) (h58 : ja h 60 58 = N) (hA : ∀ i : Nat, (i : Int) < N → ja h 100 i = jst m r (jtof m v i) v) (w : Int32) : ∀ (k j : Nat) (T : Int32) (ls : si_L), jM [(2, .int T), (0, .ref (P.1 + 60)), (1, .int w)] ls → T.toInt = j → 1 ≤ j → (j : Int) + k = N → (∀ i : Nat, 1 ≤ i → i < j → ¬ juq m r v N i) → az_X P (d + 1) 295 7 ls [] h (fun rv h' => h' = h ∧ ∃ z : Int32, rv = some (.int z) ∧ jls m r v N z.toInt) := by
  obtain ⟨⟨S, hS, eS⟩, bS⟩ := jt_ok hH (i := 60) (k := 58) rfl
  have eS' : ja h 60 58 = S.toInt := eS.symm
  have z1 : (1 : Int32).toInt = 1 := by decide
  have z0 : (0 : Int32).toInt = 0 := by decide
  have eSN : S.toInt = N := by rw [← eS', h58]
  have hS0 : S ≠ 0 := fun e => by rw [e, z0] at eSN; omega
  intro k
  induction k with
  | zero =>
    intro j T ls hl' eT h1 hj hs
    refine jm_iload_n (x := T) rfl rfl (jM_at hl' 0 rfl) ?_
    refine jm_aload_n (x := P.1 + 60) rfl rfl (jM_at hl' 1 rfl) ?_
    refine jx_gf (i := 60) rfl rfl hH (by decide) (hH.2 60 _ rfl).1 rfl hS ?_
    refine jx_ic (t := 93) rfl rfl rfl (fun hc12 => ?_) (fun hc12 => ?_)
    · have g12 := jc2_ge_t hc12
      refine jm_aload_n (x := P.1 + 60) rfl rfl (jM_at hl' 1 rfl) ?_
      refine jx_gf (i := 60) rfl rfl hH (by decide) (hH.2 60 _ rfl).1 rfl hS ?_
      refine jx_ret rfl rfl rfl ?_
      exact ⟨rfl, S, rfl, Or.inr ⟨eSN, fun i i1 i2 => hs i i1 (by omega)⟩⟩
    · have g12 := jc2_ge_f hc12
      exact absurd eT (by omega)
  | succ k ih =>
    intro j T ls hl' eT h1 hj hs
    have eT1 : (T + 1).toInt = (j + 1 : Nat) := by rw [nm_add (by omega) (by omega)]; omega
    have mm := nm_mulnn (a := 2) (b := 48) (c := 2) (d := 48) (x := N) (y := N) (by decide) (by decide) hN2.1 hN2.2 hN2.1 hN2.2
    refine jm_iload_n (x := T) rfl rfl (jM_at hl' 0 rfl) ?_
    refine jm_aload_n (x := P.1 + 60) rfl rfl (jM_at hl' 1 rfl) ?_
    refine jx_gf (i := 60) rfl rfl hH (by decide) (hH.2 60 _ rfl).1 rfl hS ?_
    refine jx_ic (t := 93) rfl rfl rfl (fun hc12 => ?_) (fun hc12 => ?_)
    · have g12 := jc2_ge_t hc12
      refine jm_aload_n (x := P.1 + 60) rfl rfl (jM_at hl' 1 rfl) ?_
      refine jx_gf (i := 60) rfl rfl hH (by decide) (hH.2 60 _ rfl).1 rfl hS ?_
      refine jx_ret rfl rfl rfl ?_
      exact absurd eT (by omega)
    · have g12 := jc2_ge_f hc12
      refine az_X_step (pc' := 16) (ls' := ls) (st' := [.int 1]) (h' := h) rfl rfl rfl ?_
      refine jm_istore_n (l' := [(3, .int 1), (2, .int T), (0, .ref (P.1 + 60)), (1, .int w)]) rfl rfl (by decide) hl' rfl rfl (fun ls16_1 hl16_1 => ?_)
      refine az_X_step (pc' := 18) (ls' := ls16_1) (st' := [.int 0]) (h' := h) rfl rfl rfl ?_
      refine jm_istore (l' := [(4, .int 0), (3, .int 1), (2, .int T), (0, .ref (P.1 + 60)), (1, .int w)]) rfl rfl (by decide) hl16_1 rfl rfl (fun ls18_2 hl18_2 => ?_)
      refine rlis_i (d := d) hxa hH hN2 h58 hA w T (by omega) (fun U ls1 hl1 q0 => ?_) (N * N).toNat 0 0 1 ls18_2 (jM_pick hl18_2 [0, 1, 2, 3, 4] rfl) (by decide) (by omega) (Or.inl ⟨z1, fun c hc => absurd hc (by omega)⟩)
      have q1 := q0 (N * N).toNat (by omega)
      refine jm_iload_n (x := U) rfl rfl (jM_at hl1 0 rfl) ?_
      refine jx_if (t := 87) rfl rfl rfl (fun hc82 => ?_) (fun hc82 => ?_)
      · have g82 := jc1_eq_t hc82
        refine jm_iinc (x := T) (x' := T + 1) (l' := [(2, .int (T + 1)), (3, .int U), (0, .ref (P.1 + 60)), (1, .int w)]) rfl rfl (by decide) (jM_at hl1 1 rfl) rfl hl1 rfl rfl (fun ls87_1 hl87_1 => ?_)
        refine az_X_step (pc' := 7) (ls' := ls87_1) (st' := []) (h' := h) rfl rfl rfl ?_
        refine ih (j + 1) (T + 1) ls87_1 (jM_pick hl87_1 [0, 2, 3] rfl) eT1 (by omega) (by omega) (fun i i1 i2 => ?_)
        rcases Nat.lt_or_ge i j with q | q
        · exact hs i i1 q
        · rw [show i = j by omega]
          intro hu
          rcases q1 with ⟨q2, -⟩ | ⟨-, c, c1, c2, c3⟩
          · exact absurd g82 (by omega)
          · have d0 : 0 ≤ (c : Int) / N := Int.ediv_nonneg (by omega) (by omega)
            have m0 := Int.emod_nonneg (c : Int) (b := N) (by omega)
            have m1 := Int.emod_lt_of_pos (c : Int) (b := N) (by omega)
            refine hu ((c : Int) / N).toNat ((c : Int) % N).toNat (by omega) (by omega) ?_
            rw [Int.toNat_of_nonneg d0, Int.toNat_of_nonneg m0, ← eT]
            exact c3
      · have g82 := jc1_eq_f hc82
        refine jm_iload_n (x := T) rfl rfl (jM_at hl1 1 rfl) ?_
        refine jx_ret rfl rfl rfl ?_
        refine ⟨rfl, T, rfl, Or.inl ⟨j, h1, by omega, eT, fun a b hab hb hsm => ?_, hs⟩⟩
        rcases q1 with ⟨-, q⟩ | ⟨q, -⟩
        · obtain ⟨c, c1, c2, c3⟩ := jsq hN2.1 hab hb
          exact q c (by omega) ⟨by rw [c2, c3]; omega, by rw [c2, c3, eT]; exact hsm⟩
        · exact absurd q g82
theorem listen1_ok {P : si_P} (hxa : P.2.1 < P.1) {d : Nat} (hd : 6 ≤ d) {h : si_H} (hH : az_HI P az_tb h) (hJ : js_J h) (v : Int32) (hv : v = 0 ∨ v = 1) : az_X P (d + 1) 295 0 (lv_args 0 [.ref (P.1 + 60), .int v]) [] h (fun rv h' => az_HI P az_tb h' ∧ az_same_out jm_sk h h' ∧ ∃ z : Int32, rv = some (.int z) ∧ jls (ja h 60 7) (ja h 60 8) v.toInt (if v.toInt = 1 then 2 * ja h 60 8 else ja h 60 8) z.toInt) := by
  obtain ⟨b1, b2, b3⟩ := dial_bd hH
  have hl' : jM [(0, .ref (P.1 + 60)), (1, .int v)] (lv_args 0 [.ref (P.1 + 60), .int v]) := jM_args [0, 1] rfl (by decide)
  generalize lv_args 0 [.ref (P.1 + 60), .int v] = ls at hl'
  refine jm_aload_n (x := P.1 + 60) rfl rfl (jM_at hl' 0 rfl) ?_
  refine jm_iload_n (x := v) rfl rfl (jM_at hl' 1 rfl) ?_
  refine az_X_call (m' := 289) (as := [.ref (P.1 + 60), .int v]) (rest := []) rfl rfl rfl rfl rfl ?_ ?_
  · unfold si_call
    dsimp only
    rw [if_pos ⟨rfl, rfl⟩]
    show (match si_ix P h (P.1 + 60) with | some i => _ | none => none) = _
    rw [jix hH (by decide)]
    dsimp only
    rw [(hH.2 60 _ rfl).1]
    rfl
  refine (lays3_ok hxa hd hH hJ v hv).mono ?_
  rintro rv2 h2 ⟨rfl, hH2, hs2, hn2, hc2⟩
  show az_X P _ 295 5 ls [] h2 _
  refine az_X_step (pc' := 6) (ls' := ls) (st' := [.int 1]) (h' := h2) rfl rfl rfl ?_
  refine jm_istore_n (l' := [(2, .int 1), (0, .ref (P.1 + 60)), (1, .int v)]) rfl rfl (by decide) hl' rfl rfl (fun ls6_1 hl6_1 => ?_)
  have N0 : 2 ≤ (if v.toInt = 1 then 2 * ja h 60 8 else ja h 60 8) ∧ (if v.toInt = 1 then 2 * ja h 60 8 else ja h 60 8) ≤ 48 := by split <;> omega
  refine (rlis_o (d := d) hxa hH2 (m := ja h 60 7) (r := ja h 60 8) (v := v.toInt) N0 hn2 (fun i hi => hc2 i (by rw [hn2]; exact hi)) v ((if v.toInt = 1 then 2 * ja h 60 8 else ja h 60 8) - 1).toNat 1 1 ls6_1 (jM_pick hl6_1 [0, 1, 2] rfl) (by decide) (by decide) (by omega) (fun i i1 i2 => absurd i2 (by omega))).mono ?_
  rintro rv h3 ⟨q, q2⟩
  subst q
  exact ⟨hH2, hs2, q2⟩
