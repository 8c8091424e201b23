/-! locals of which some are known -/
def jM (l : List (Nat × Value)) (ls : si_L) : Prop := ∀ q ∈ l, si_ld q.1 ls = some q.2
theorem jM_at {l : List (Nat × Value)} {ls : si_L} (h : jM l ls) (i : Nat) {k : Nat} {v : Value} (hi : l[i]? = some (k, v)) : si_ld k ls = some v := h (k, v) (List.mem_of_getElem? hi)
theorem jM_args {l : List (Nat × Value)} (ks : List Nat) (he : l.map (fun q => q.1) = ks) (hd : ks.Nodup) : jM l l := by
  subst he
  intro q hq
  induction l with
  | nil => cases hq
  | cons a r ih =>
    unfold si_ld
    rcases List.mem_cons.mp hq with rfl | hq
    · exact if_pos rfl
    · rw [List.map_cons, List.nodup_cons] at hd
      rw [if_neg]
      · exact ih hd.2 hq
      · intro e
        exact hd.1 (e ▸ List.mem_map.mpr ⟨q, hq, rfl⟩)
theorem si_ld_f {k : Nat} {v : Value} {f : Nat × Value → Bool} : ∀ {l : si_L}, (∀ w, (k, w) ∈ l → si_ld k l = some w → f (k, w) = true) → si_ld k l = some v → si_ld k (l.filter f) = some v
  | [], _, h => by cases h
  | q :: r, hf, h => by
    unfold si_ld at h
    split at h
    · rename_i e
      cases h
      have hq : f q = true := by
        have := hf q.2 (by rw [← e]; exact List.mem_cons_self) (by unfold si_ld; rw [if_pos e])
        rw [← e] at this
        exact this
      rw [List.filter_cons, if_pos hq]
      unfold si_ld
      exact if_pos e
    · rename_i e
      have ih := si_ld_f (l := r) (fun w hw hl => hf w (List.mem_cons_of_mem _ hw) (by unfold si_ld; rw [if_neg e]; exact hl)) h
      rw [List.filter_cons]
      split
      · unfold si_ld
        rw [if_neg e]
        exact ih
      · exact ih
theorem jM_st {l l' : List (Nat × Value)} {ls : si_L} {k : Nat} {v : Value} (h : jM l ls) (h' : l' = (k, v) :: l.filter (fun q => !(q.1 == k))) (hc : l.all (fun q => q.2.category == 1) = true) : jM l' (si_st1 ls k v) := by
  subst h'
  intro q hq
  unfold si_st1
  rcases List.mem_cons.mp hq with rfl | hq
  · unfold si_ld
    exact if_pos rfl
  · obtain ⟨h1, h2⟩ := List.mem_filter.mp hq
    have h3 : ¬ q.1 = k := by simpa using h2
    have h4 : q.2.category = 1 := by
      have := List.all_eq_true.mp hc q h1
      simpa using this
    unfold si_ld
    rw [if_neg (fun e => h3 e.symm)]
    refine si_ld_f (fun w hw hl => ?_) (h q h1)
    have h5 : w = q.2 := by
      have := h q h1
      rw [hl] at this
      exact Option.some.inj this
    subst h5
    simp [h3, h4]
section Jm
variable {P : si_P} {d mi pc : Nat} {y : si_M} {ls : si_L} {st : List Value} {h : si_H} {Q : Option Value → si_H → Prop} {q : Nat × Nat × Nat}
theorem jm_iload_n {k : Fin 4} {x : Int32} (hy : si_m mi = some y) (he : si_fetch mi pc = some (.iload_n k, 1, q)) (L : si_ld (k : Nat) ls = some (.int x)) (kk : az_X P d mi (pc + 1) ls (.int x :: st) h Q) : az_X P d mi pc ls st h Q := by
  refine az_X_step (pc' := pc + 1) (ls' := ls) (st' := .int x :: st) (h' := h) hy he ?_ kk
  unfold si_step
  dsimp only
  show (match si_ld (k : Nat) ls with | some v => if si_kd v 0 = true then some (pc + 1, ls, v :: st, h) else none | none => none) = _
  rw [L]
  all_goals rfl
theorem jm_iload {k : Nat} {x : Int32} (hy : si_m mi = some y) (he : si_fetch mi pc = some (.iload k, 2, q)) (L : si_ld k ls = some (.int x)) (kk : az_X P d mi (pc + 2) ls (.int x :: st) h Q) : az_X P d mi pc ls st h Q := by
  refine az_X_step (pc' := pc + 2) (ls' := ls) (st' := .int x :: st) (h' := h) hy he ?_ kk
  unfold si_step
  dsimp only
  show (match si_ld (k : Nat) ls with | some v => if si_kd v 0 = true then some (pc + 2, ls, v :: st, h) else none | none => none) = _
  rw [L]
  all_goals rfl
theorem jm_aload_n {k : Fin 4} {x : Nat} (hy : si_m mi = some y) (he : si_fetch mi pc = some (.aload_n k, 1, q)) (L : si_ld (k : Nat) ls = some (.ref x)) (kk : az_X P d mi (pc + 1) ls (.ref x :: st) h Q) : az_X P d mi pc ls st h Q := by
  refine az_X_step (pc' := pc + 1) (ls' := ls) (st' := .ref x :: st) (h' := h) hy he ?_ kk
  unfold si_step
  dsimp only
  show (match si_ld (k : Nat) ls with | some v => if si_kd v 2 = true then some (pc + 1, ls, v :: st, h) else none | none => none) = _
  rw [L]
  all_goals rfl
theorem jm_istore_n {k : Fin 4} {x : Int32} {l l' : List (Nat × Value)} (hy : si_m mi = some y) (he : si_fetch mi pc = some (.istore_n k, 1, q)) (hk : (k : Nat) + 1 ≤ y.2.2.2.1) (hl : jM l ls) (h' : l' = ((k : Nat), Value.int x) :: l.filter (fun q => !(q.1 == (k : Nat)))) (hc : l.all (fun q => q.2.category == 1) = true) (kk : ∀ ls' : si_L, jM l' ls' → az_X P d mi (pc + 1) ls' st h Q) : az_X P d mi pc ls (.int x :: st) h Q := by
  refine az_X_step (pc' := pc + 1) (ls' := si_st1 ls k (.int x)) (st' := st) (h' := h) hy he ?_ (kk _ (jM_st hl h' hc))
  unfold si_step
  dsimp only
  show (if si_kd (.int x) 0 = true ∧ (k : Nat) + (Value.int x).category ≤ y.2.2.2.1 then some (pc + 1, if (Value.int x).category = 2 then si_st2 ls k (.int x) else si_st1 ls k (.int x), st, h) else none) = _
  rw [if_pos ⟨rfl, hk⟩]
  all_goals rfl
theorem jm_istore {k : Nat} {x : Int32} {l l' : List (Nat × Value)} (hy : si_m mi = some y) (he : si_fetch mi pc = some (.istore k, 2, q)) (hk : k + 1 ≤ y.2.2.2.1) (hl : jM l ls) (h' : l' = (k, Value.int x) :: l.filter (fun q => !(q.1 == k))) (hc : l.all (fun q => q.2.category == 1) = true) (kk : ∀ ls' : si_L, jM l' ls' → az_X P d mi (pc + 2) ls' st h Q) : az_X P d mi pc ls (.int x :: st) h Q := by
  refine az_X_step (pc' := pc + 2) (ls' := si_st1 ls k (.int x)) (st' := st) (h' := h) hy he ?_ (kk _ (jM_st hl h' hc))
  unfold si_step
  dsimp only
  show (if si_kd (.int x) 0 = true ∧ (k : Nat) + (Value.int x).category ≤ y.2.2.2.1 then some (pc + 2, if (Value.int x).category = 2 then si_st2 ls k (.int x) else si_st1 ls k (.int x), st, h) else none) = _
  rw [if_pos ⟨rfl, hk⟩]
  all_goals rfl
theorem jm_iinc {k : Nat} {n : Int} {x x' : Int32} {l l' : List (Nat × Value)} (hy : si_m mi = some y) (he : si_fetch mi pc = some (.iinc k n, 3, q)) (hk : k < y.2.2.2.1) (L : si_ld k ls = some (.int x)) (hx : x + Int32.ofInt n = x') (hl : jM l ls) (h' : l' = (k, Value.int x') :: l.filter (fun q => !(q.1 == k))) (hc : l.all (fun q => q.2.category == 1) = true) (kk : ∀ ls' : si_L, jM l' ls' → az_X P d mi (pc + 3) ls' st h Q) : az_X P d mi pc ls st h Q := by
  subst hx
  refine az_X_step (pc' := pc + 3) (ls' := si_st1 ls k (.int (x + Int32.ofInt n))) (st' := st) (h' := h) hy he ?_ (kk _ (jM_st hl h' hc))
  unfold si_step
  dsimp only
  rw [if_pos ⟨rfl, hk⟩, L]
  all_goals rfl
theorem jx_ial {i n : Nat} {lo hi : Int} {x : Int32} (hy : si_m mi = some y) (he : si_fetch mi pc = some (.iaload, 1, q)) (hxa : P.2.1 < P.1) (hH : az_HI P az_tb h) (hi' : i < az_tb.length) (ht : az_tb[i]? = some (.inr (.int, n, lo, hi))) (h0 : 0 ≤ x.toInt) (h1 : x.toInt < n) (kk : ∀ z : Int32, z.toInt = ja h i x.toInt → lo ≤ z.toInt ∧ z.toInt ≤ hi → az_X P d mi (pc + 1) ls (.int z :: st) h Q) : az_X P d mi pc ls (.int x :: .ref (P.1 + i) :: st) h Q := by
  have hc : x.toNatClampNeg = x.toInt.toNat := rfl
  obtain ⟨hs, hr⟩ := hH.2 i _ ht
  have h3 := hr x.toInt.toNat (by show x.toInt.toNat < n; omega)
  unfold az_aok at h3
  rw [if_neg (fun e => by cases e)] at h3
  obtain ⟨z, hz, hz1, hz2⟩ := h3
  have hin : si_in x n = true := by
    unfold si_in
    rw [Bool.and_eq_true, decide_eq_true_eq, decide_eq_true_eq]
    exact ⟨(nm_leI 0 x).mpr (by have : (0 : Int32).toInt = 0 := by decide
                                omega), by omega⟩
  refine az_X_step (pc' := pc + 1) (ls' := ls) (st' := .int z :: st) (h' := h) hy he ?_ (kk z ?_ ⟨hz1, hz2⟩)
  · unfold si_step
    dsimp only
    rw [if_pos rfl, if_neg (show ¬ (P.1 + i = P.2.1) by omega)]
    unfold si_ald
    rw [jix hH hi']
    dsimp only
    rw [hs]
    dsimp only
    rw [if_pos ⟨hin, List.mem_singleton.mpr rfl⟩, hc, hz]
  · show z.toInt = ji h i x.toInt.toNat
    unfold ji
    rw [hz]
end Jm
/-! QUIET -/
set_option maxRecDepth 100000
theorem jM_pick {l l' : List (Nat × Value)} {ls : si_L} (h : jM l ls) (is : List Nat) (he : is.filterMap (fun i => l[i]?) = l') : jM l' ls := by
  intro q hq
  rw [← he] at hq
  obtain ⟨i, -, hi⟩ := List.mem_filterMap.mp hq
  exact h q (List.mem_of_getElem? hi)
/-- how many of the numbers a, a + 1, .. -/
def jtC (p : Int → Bool) (a : Int) : Nat → Int
  | 0 => 0
  | n + 1 => jtC p a n + (if p (a + n) then 1 else 0)
theorem jtC_bd {p : Int → Bool} {a : Int} : ∀ n : Nat, 0 ≤ jtC p a n ∧ jtC p a n ≤ n
  | 0 => by unfold jtC; omega
  | n + 1 => by
    have i := jtC_bd (p := p) (a := a) n
    unfold jtC
    split <;> omega
theorem jtC_add {p : Int → Bool} {a : Int} (n : Nat) : ∀ k : Nat, jtC p a (n + k) = jtC p a n + jtC p (a + n) k
  | 0 => (Int.add_zero _).symm
  | k + 1 => by
    show jtC p a (n + k) + (if p (a + (n + k : Nat)) then 1 else 0) = jtC p a n + (jtC p (a + n) k + (if p (a + n + k) then 1 else 0))
    rw [jtC_add n k, show a + ((n + k : Nat) : Int) = a + n + k by omega]
    exact Int.add_assoc _ _ _
theorem jtC_cg {p q : Int → Bool} {a : Int} : ∀ n : Nat, (∀ j : Nat, j < n → p (a + j) = q (a + j)) → jtC p a n = jtC q a n
  | 0, _ => rfl
  | n + 1, h => by
    unfold jtC
    rw [jtC_cg n (fun j hj => h j (by omega)), h n (by omega)]
theorem jtC_one {q : Int → Bool} {a : Int} {c : Nat} : ∀ n : Nat, jtC (fun t => decide (t = a + c) && q t) a n = if c < n then (if q (a + c) then 1 else 0) else 0
  | 0 => by
    rw [if_neg (by omega)]
    rfl
  | n + 1 => by
    show jtC (fun t => decide (t = a + c) && q t) a n + (if (decide (a + (n : Int) = a + c) && q (a + n)) = true then 1 else 0) = _
    rw [jtC_one n]
    by_cases h : n = c
    · subst h
      rw [if_neg (by omega), if_pos (show n < n + 1 by omega), decide_eq_true rfl, Bool.true_and, Int.zero_add]
    · have e : decide (a + (n : Int) = a + c) = false := decide_eq_false (by omega)
      rw [e, Bool.false_and, if_neg (show ¬ (false = true) by decide), Int.add_zero]
      by_cases h2 : c < n
      · rw [if_pos h2, if_pos (show c < n + 1 by omega)]
      · rw [if_neg h2, if_neg (show ¬ c < n + 1 by omega)]
theorem jtC_or {p p1 p2 : Int → Bool} {a : Int} : ∀ n : Nat, (∀ j : Nat, j < n → (if p (a + j) then (1 : Int) else 0) = (if p1 (a + j) then 1 else 0) + (if p2 (a + j) then 1 else 0)) → jtC p a n = jtC p1 a n + jtC p2 a n
  | 0, _ => rfl
  | n + 1, h => by
    have i := jtC_or n (fun j hj => h j (by omega))
    have k := h n (by omega)
    unfold jtC
    rw [i, k]
    generalize (if p1 (a + n) = true then (1 : Int) else 0) = x
    generalize (if p2 (a + n) = true then (1 : Int) else 0) = y
    omega
theorem jst_blk {m r v k j : Int} (hm : 4 ≤ m) (hr : 2 ≤ r) (hk : 0 ≤ k) (hj : 0 ≤ j) (hj2 : j < m) : 0 < jst m r (m * k + j) v ↔ (j = 0 ∨ (v = 1 ∧ j = m / 2)) := by
  have e1 : (m * k + j) % m = j := by rw [Int.add_comm, Int.add_mul_emod_self_left]; exact Int.emod_eq_of_lt hj hj2
  have e2 : (m * k + j) / m = k := by rw [Int.add_comm, Int.add_mul_ediv_left _ _ (by omega), Int.ediv_eq_zero_of_lt hj hj2, Int.zero_add]
  unfold jst
  rw [e1, e2]
  repeat' split
  all_goals omega
/-- the time of a strike; how many strikes -/
def jtof (m v i : Int) : Int := if v = 1 then i / 2 * m + i % 2 * (m / 2) else i * m
def jsn (v : Int) (k : Nat) : Nat := if v = 1 then 2 * k else k
theorem jtw {m r v : Int} {w : Nat} (hw : m = w) (hm : 4 ≤ m) (hr : 2 ≤ r) (q : Int → Bool) : ∀ k : Nat, jtC (fun t => decide (0 < jst m r t v) && q t) 0 (w * k) = jtC (fun i => q (jtof m v i)) 0 (jsn v k)
  | 0 => by
    unfold jsn
    split <;> rfl
  | k + 1 => by
    have ih := jtw (r := r) (v := v) hw hm hr q k
    have eA : ((w * k : Nat) : Int) = m * k := by rw [hw]; exact Int.natCast_mul w k
    rw [Nat.mul_succ, jtC_add, ih, Int.zero_add]
    generalize ((w * k : Nat) : Int) = A at eA
    by_cases hv : v = 1
    · have e0 : jtC (fun t => decide (0 < jst m r t v) && q t) A w = jtC (fun t => decide (t = A + (0 : Nat)) && q t) A w + jtC (fun t => decide (t = A + (w / 2 : Nat)) && q t) A w := by
        apply jtC_or
        intro j hj
        have b := jst_blk (v := v) (k := k) (j := j) hm hr (by omega) (by omega) (by omega)
        rw [← eA] at b
        have d0 : decide (A + (j : Int) = A + ((0 : Nat) : Int)) = decide (j = 0) := decide_eq_decide.mpr (by omega)
        have d1 : decide (A + (j : Int) = A + ((w / 2 : Nat) : Int)) = decide (j = w / 2) := decide_eq_decide.mpr (by omega)
        have d2 : decide (0 < jst m r (A + j) v) = (decide (j = 0) || decide (j = w / 2)) := by
          rw [← Bool.decide_or]
          exact decide_eq_decide.mpr (b.trans (by omega))
        show (if (decide (0 < jst m r (A + j) v) && q (A + j)) = true then (1 : Int) else 0) = (if (decide (A + (j : Int) = A + ((0 : Nat) : Int)) && q (A + j)) = true then 1 else 0) + (if (decide (A + (j : Int) = A + ((w / 2 : Nat) : Int)) && q (A + j)) = true then 1 else 0)
        rw [d0, d1, d2]
        have hx : (decide (j = 0) && decide (j = w / 2)) = false := by
          rw [← Bool.decide_and]
          exact decide_eq_false (by omega)
        generalize decide (j = 0) = x at hx
        generalize decide (j = w / 2) = y at hx
        cases x <;> cases y <;> cases q (A + j) <;> first | rfl | exact absurd hx (by decide)
      have n1 : jsn v (k + 1) = jsn v k + 1 + 1 := by unfold jsn; rw [if_pos hv, if_pos hv]; omega
      have n0 : jsn v k = 2 * k := by unfold jsn; rw [if_pos hv]
      have f0 : jtof m v (0 + ((2 * k : Nat) : Int)) = A + ((0 : Nat) : Int) := by
        unfold jtof
        rw [if_pos hv, show (0 + ((2 * k : Nat) : Int)) / 2 = k by omega, show (0 + ((2 * k : Nat) : Int)) % 2 = 0 by omega, Int.zero_mul, eA, Int.mul_comm]
        omega
      have f1 : jtof m v (0 + ((2 * k + 1 : Nat) : Int)) = A + ((w / 2 : Nat) : Int) := by
        unfold jtof
        rw [if_pos hv, show (0 + ((2 * k + 1 : Nat) : Int)) / 2 = k by omega, show (0 + ((2 * k + 1 : Nat) : Int)) % 2 = 1 by omega, Int.one_mul, eA, Int.mul_comm]
        omega
      rw [e0, jtC_one, jtC_one, if_pos (show 0 < w by omega), if_pos (show w / 2 < w by omega), n1, n0]
      show _ = jtC (fun i => q (jtof m v i)) 0 (2 * k) + (if q (jtof m v (0 + ((2 * k : Nat) : Int))) = true then 1 else 0) + (if q (jtof m v (0 + ((2 * k + 1 : Nat) : Int))) = true then 1 else 0)
      rw [f0, f1]
      exact (Int.add_assoc _ _ _).symm
    · have e0 : jtC (fun t => decide (0 < jst m r t v) && q t) A w = jtC (fun t => decide (t = A + (0 : Nat)) && q t) A w := by
        apply jtC_cg
        intro j hj
        have b := jst_blk (v := v) (k := k) (j := j) hm hr (by omega) (by omega) (by omega)
        rw [← eA] at b
        show (decide (0 < jst m r (A + j) v) && q (A + j)) = (decide (A + (j : Int) = A + ((0 : Nat) : Int)) && q (A + j))
        rw [show decide (0 < jst m r (A + j) v) = decide (A + (j : Int) = A + ((0 : Nat) : Int)) from decide_eq_decide.mpr (b.trans (by omega))]
      have n1 : jsn v (k + 1) = jsn v k + 1 := by unfold jsn; rw [if_neg hv, if_neg hv]
      have n0 : jsn v k = k := by unfold jsn; rw [if_neg hv]
      have f0 : jtof m v (0 + (k : Int)) = A + ((0 : Nat) : Int) := by
        unfold jtof
        rw [if_neg hv, Int.zero_add, eA, Int.mul_comm]
        omega
      rw [e0, jtC_one, if_pos (show 0 < w by omega), n1, n0]
      show _ = jtC (fun i => q (jtof m v i)) 0 k + (if q (jtof m v (0 + (k : Int))) = true then 1 else 0)
      rw [f0]
/-- the most of the numbers g 0, g 1, .. (0 if none is above) -/
def jtM (g : Int → Int) : Nat → Int
  | 0 => 0
  | n + 1 => max (jtM g n) (g n)
theorem jtM_bd {g : Int → Int} {b : Int} (hb : 0 ≤ b) : ∀ n : Nat, (∀ j : Nat, j < n → g j ≤ b) → 0 ≤ jtM g n ∧ jtM g n ≤ b
  | 0, _ => ⟨Int.le_refl _, hb⟩
  | n + 1, h => by
    have i := jtM_bd (g := g) hb n (fun j hj => h j (by omega))
    have k := h n (by omega)
    unfold jtM
    omega
theorem rmax_ok {P : si_P} {d : Nat} {h : si_H} (a b : Int32) : az_X P d 204 0 (lv_args 0 [.int a, .int b]) [] h (fun rv h' => h' = h ∧ jV rv (max a.toInt b.toInt)) := by
  refine az_X_step (pc' := 1) (ls' := [(0, .int a), (1, .int b)]) (st' := [.int a]) (h' := h) rfl rfl rfl ?_
  refine az_X_step (pc' := 2) (ls' := [(0, .int a), (1, .int b)]) (st' := [.int b, .int a]) (h' := h) rfl rfl rfl ?_
  refine jx_ic (t := 9) rfl rfl rfl (fun hc2 => ?_) (fun hc2 => ?_)
  · have g2 := jc2_le_t hc2
    refine az_X_step (pc' := 10) (ls' := [(0, .int a), (1, .int b)]) (st' := [.int b]) (h' := h) rfl rfl rfl ?_
    refine jx_ret rfl rfl rfl ?_
    exact ⟨rfl, b, rfl, by omega⟩
  · have g2 := jc2_le_f hc2
    refine az_X_step (pc' := 6) (ls' := [(0, .int a), (1, .int b)]) (st' := [.int a]) (h' := h) rfl rfl rfl ?_
    refine az_X_step (pc' := 10) (ls' := [(0, .int a), (1, .int b)]) (st' := [.int a]) (h' := h) rfl rfl rfl ?_
    refine jx_ret rfl rfl rfl ?_
    exact ⟨rfl, a, rfl, by omega⟩
theorem cmax_ok {P : si_P} {d : Nat} {h : si_H} (a b : Int32) : az_X P d 343 0 (lv_args 0 [.int a, .int b]) [] h (fun rv h' => h' = h ∧ jV rv (max a.toInt b.toInt)) := by
  refine az_X_step (pc' := 1) (ls' := [(0, .int a), (1, .int b)]) (st' := [.int a]) (h' := h) rfl rfl rfl ?_
  refine az_X_step (pc' := 2) (ls' := [(0, .int a), (1, .int b)]) (st' := [.int b, .int a]) (h' := h) rfl rfl rfl ?_
  refine jx_ic (t := 9) rfl rfl rfl (fun hc2 => ?_) (fun hc2 => ?_)
  · have g2 := jc2_lt_t hc2
    refine az_X_step (pc' := 10) (ls' := [(0, .int a), (1, .int b)]) (st' := [.int b]) (h' := h) rfl rfl rfl ?_
    refine jx_ret rfl rfl rfl ?_
    exact ⟨rfl, b, rfl, by omega⟩
  · have g2 := jc2_lt_f hc2
    refine az_X_step (pc' := 6) (ls' := [(0, .int a), (1, .int b)]) (st' := [.int a]) (h' := h) rfl rfl rfl ?_
    refine az_X_step (pc' := 10) (ls' := [(0, .int a), (1, .int b)]) (st' := [.int a]) (h' := h) rfl rfl rfl ?_
    refine jx_ret rfl rfl rfl ?_
    exact ⟨rfl, a, rfl, by omega⟩
theorem tround_ok {P : si_P} {d : Nat} {h : si_H} (hH : az_HI P az_tb h) : az_X P d 73 0 (lv_args 0 [.ref (P.1 + 1)]) [] h (fun rv h' => h' = h ∧ jV rv (ja h 1 0 * ja h 1 1)) := by
  obtain ⟨⟨M, hM, eM⟩, bM⟩ := jt_ok hH (i := 1) (k := 0) rfl
  obtain ⟨⟨R, hR, eR⟩, bR⟩ := jt_ok hH (i := 1) (k := 1) rfl
  have eM' : ja h 1 0 = M.toInt := eM.symm
  have eR' : ja h 1 1 = R.toInt := eR.symm
  have b1 : 4 ≤ ji h 1 0 ∧ ji h 1 0 ≤ 60 := bM
  have b2 : 2 ≤ ji h 1 1 ∧ ji h 1 1 ≤ 24 := bR
  rw [eM', eR']
  have bp := nm_mulnn (a := 4) (b := 60) (c := 2) (d := 24) (x := M.toInt) (y := R.toInt) (by decide) (by decide) (by omega) (by omega) (by omega) (by omega)
  have ep : (M * R).toInt = M.toInt * R.toInt := nm_mul (by omega) (by omega)
  refine az_X_step (pc' := 1) (ls' := [(0, .ref (P.1 + 1))]) (st' := [.ref (P.1 + 1)]) (h' := h) rfl rfl rfl ?_
  refine jx_gf (i := 1) rfl rfl hH (by decide) (hH.2 1 _ rfl).1 rfl hM ?_
  refine az_X_step (pc' := 5) (ls' := [(0, .ref (P.1 + 1))]) (st' := [.ref (P.1 + 1), .int M]) (h' := h) rfl rfl rfl ?_
  refine jx_gf (i := 1) rfl rfl hH (by decide) (hH.2 1 _ rfl).1 rfl hR ?_
  refine az_X_step (pc' := 9) (ls' := [(0, .ref (P.1 + 1))]) (st' := [.int (M * R)]) (h' := h) rfl rfl rfl ?_
  refine jx_ret rfl rfl rfl ?_
  exact ⟨rfl, M * R, rfl, ep⟩
theorem taround_ok {P : si_P} {d : Nat} {h : si_H} (hH : az_HI P az_tb h) (t : Int32) : az_X P (d + 1) 75 0 (lv_args 0 [.ref (P.1 + 1), .int t]) [] h (fun rv h' => h' = h ∧ jV rv (t.toInt % (ja h 1 0 * ja h 1 1))) := by
  obtain ⟨⟨M, hM, eM⟩, bM⟩ := jt_ok hH (i := 1) (k := 0) rfl
  obtain ⟨⟨R, hR, eR⟩, bR⟩ := jt_ok hH (i := 1) (k := 1) rfl
  have eM' : ja h 1 0 = M.toInt := eM.symm
  have eR' : ja h 1 1 = R.toInt := eR.symm
  have b1 : 4 ≤ ji h 1 0 ∧ ji h 1 0 ≤ 60 := bM
  have b2 : 2 ≤ ji h 1 1 ∧ ji h 1 1 ≤ 24 := bR
  rw [eM', eR']
  have bp := nm_mulnn (a := 4) (b := 60) (c := 2) (d := 24) (x := M.toInt) (y := R.toInt) (by decide) (by decide) (by omega) (by omega) (by omega) (by omega)
  have ep : (M * R).toInt = M.toInt * R.toInt := nm_mul (by omega) (by omega)
  refine az_X_step (pc' := 1) (ls' := [(0, .ref (P.1 + 1)), (1, .int t)]) (st' := [.int t]) (h' := h) rfl rfl rfl ?_
  refine az_X_step (pc' := 2) (ls' := [(0, .ref (P.1 + 1)), (1, .int t)]) (st' := [.ref (P.1 + 1), .int t]) (h' := h) rfl rfl rfl ?_
  refine jx_gf (i := 1) rfl rfl hH (by decide) (hH.2 1 _ rfl).1 rfl hM ?_
  refine az_X_step (pc' := 6) (ls' := [(0, .ref (P.1 + 1)), (1, .int t)]) (st' := [.ref (P.1 + 1), .int M, .int t]) (h' := h) rfl rfl rfl ?_
  refine jx_gf (i := 1) rfl rfl hH (by decide) (hH.2 1 _ rfl).1 rfl hR ?_
  refine az_X_step (pc' := 10) (ls' := [(0, .ref (P.1 + 1)), (1, .int t)]) (st' := [.int (M * R), .int t]) (h' := h) rfl rfl rfl ?_
  refine az_X_call (m' := 200) (as := [.int t, .int (M * R)]) (rest := []) rfl rfl rfl rfl rfl rfl ?_
  refine (modulo_ok t (M * R) (by omega)).mono ?_
  rintro rv10 h10 ⟨q10, z10, rfl, ez10⟩
  subst h10
  show az_X P _ 75 13 [(0, .ref (P.1 + 1)), (1, .int t)] [.int z10] _ _
  refine jx_ret rfl rfl rfl ?_
  exact ⟨rfl, z10, rfl, by rw [← ep]; exact ez10⟩
theorem smany_ok {P : si_P} {d : Nat} {h : si_H} (hH : az_HI P az_tb h) (v : Int32) (hv : v = 0 ∨ v = 1) : az_X P d 15 0 (lv_args 0 [.ref (P.1 + 5), .int v]) [] h (fun rv h' => h' = h ∧ jV rv (if v.toInt = 1 then 2 * ja h 1 1 else ja h 1 1)) := by
  obtain ⟨⟨M, hM, eM⟩, bM⟩ := jt_ok hH (i := 1) (k := 0) rfl
  obtain ⟨⟨R, hR, eR⟩, bR⟩ := jt_ok hH (i := 1) (k := 1) rfl
  have eM' : ja h 1 0 = M.toInt := eM.symm
  have eR' : ja h 1 1 = R.toInt := eR.symm
  have b1 : 4 ≤ ji h 1 0 ∧ ji h 1 0 ≤ 60 := bM
  have b2 : 2 ≤ ji h 1 1 ∧ ji h 1 1 ≤ 24 := bR
  rw [eR']
  have bp := nm_mulnn (a := 4) (b := 60) (c := 2) (d := 24) (x := M.toInt) (y := R.toInt) (by decide) (by decide) (by omega) (by omega) (by omega) (by omega)
  have ep : (M * R).toInt = M.toInt * R.toInt := nm_mul (by omega) (by omega)
  have hv' : v.toInt = 0 ∨ v.toInt = 1 := hv.elim (fun e => Or.inl (by rw [e]; decide)) (fun e => Or.inr (by rw [e]; decide))
  have z2 : (2 : Int32).toInt = 2 := by decide
  have e2 : (2 * R).toInt = 2 * R.toInt := by rw [nm_mul (by rw [z2]; omega) (by rw [z2]; omega), z2]
  refine az_X_step (pc' := 1) (ls' := [(0, .ref (P.1 + 5)), (1, .int v)]) (st' := [.int v]) (h' := h) rfl rfl rfl ?_
  refine jx_if (t := 16) rfl rfl rfl (fun hc1 => ?_) (fun hc1 => ?_)
  · have g1 := jc1_eq_t hc1
    refine az_X_step (pc' := 17) (ls' := [(0, .ref (P.1 + 5)), (1, .int v)]) (st' := [.ref (P.1 + 5)]) (h' := h) rfl rfl rfl ?_
    refine jx_gf (i := 5) rfl rfl hH (by decide) (hH.2 5 _ rfl).1 rfl (jx_rf hH rfl rfl) ?_
    refine jx_gf (i := 1) rfl rfl hH (by decide) (hH.2 1 _ rfl).1 rfl hR ?_
    refine jx_ret rfl rfl rfl ?_
    exact ⟨rfl, R, rfl, by split <;> omega⟩
  · have g1 := jc1_eq_f hc1
    refine az_X_step (pc' := 5) (ls' := [(0, .ref (P.1 + 5)), (1, .int v)]) (st' := [.int 2]) (h' := h) rfl rfl rfl ?_
    refine az_X_step (pc' := 6) (ls' := [(0, .ref (P.1 + 5)), (1, .int v)]) (st' := [.ref (P.1 + 5), .int 2]) (h' := h) rfl rfl rfl ?_
    refine jx_gf (i := 5) rfl rfl hH (by decide) (hH.2 5 _ rfl).1 rfl (jx_rf hH rfl rfl) ?_
    refine jx_gf (i := 1) rfl rfl hH (by decide) (hH.2 1 _ rfl).1 rfl hR ?_
    refine az_X_step (pc' := 13) (ls' := [(0, .ref (P.1 + 5)), (1, .int v)]) (st' := [.int (2 * R)]) (h' := h) rfl rfl rfl ?_
    refine az_X_step (pc' := 23) (ls' := [(0, .ref (P.1 + 5)), (1, .int v)]) (st' := [.int (2 * R)]) (h' := h) rfl rfl rfl ?_
    refine jx_ret rfl rfl rfl ?_
    exact ⟨rfl, 2 * R, rfl, by split <;> omega⟩
theorem tofm_ok {P : si_P} {d : Nat} {h : si_H} (hH : az_HI P az_tb h) (i v : Int32) (hv : v = 0 ∨ v = 1) (hi : 0 ≤ i.toInt) : az_X P (d + 1) 16 0 (lv_args 0 [.ref (P.1 + 5), .int i, .int v]) [] h (fun rv h' => h' = h ∧ jV rv (jtof (ja h 1 0) v.toInt (i.toInt % (if v.toInt = 1 then 2 * ja h 1 1 else ja h 1 1)))) := by
  obtain ⟨⟨M, hM, eM⟩, bM⟩ := jt_ok hH (i := 1) (k := 0) rfl
  obtain ⟨⟨R, hR, eR⟩, bR⟩ := jt_ok hH (i := 1) (k := 1) rfl
  have eM' : ja h 1 0 = M.toInt := eM.symm
  have eR' : ja h 1 1 = R.toInt := eR.symm
  have b1 : 4 ≤ ji h 1 0 ∧ ji h 1 0 ≤ 60 := bM
  have b2 : 2 ≤ ji h 1 1 ∧ ji h 1 1 ≤ 24 := bR
  have bp := nm_mulnn (a := 4) (b := 60) (c := 2) (d := 24) (x := M.toInt) (y := R.toInt) (by decide) (by decide) (by omega) (by omega) (by omega) (by omega)
  have ep : (M * R).toInt = M.toInt * R.toInt := nm_mul (by omega) (by omega)
  have hv' : v.toInt = 0 ∨ v.toInt = 1 := hv.elim (fun e => Or.inl (by rw [e]; decide)) (fun e => Or.inr (by rw [e]; decide))
  have z2 : (2 : Int32).toInt = 2 := by decide
  have N2 : 2 ≤ (if v.toInt = 1 then 2 * ja h 1 1 else ja h 1 1) ∧ (if v.toInt = 1 then 2 * ja h 1 1 else ja h 1 1) ≤ 48 := by rw [eR']; split <;> omega
  have eh : (M / 2).toInt = M.toInt / 2 := by rw [nm_div (by decide), nm_tdiv_nn (by omega), z2]
  generalize hN : (if v.toInt = 1 then 2 * ja h 1 1 else ja h 1 1) = N at N2
  have i0 := Int.emod_nonneg i.toInt (b := N) (by omega)
  have i1 := Int.emod_lt_of_pos i.toInt (b := N) (by omega)
  refine az_X_step (pc' := 1) (ls' := [(0, .ref (P.1 + 5)), (1, .int i), (2, .int v)]) (st' := [.int i]) (h' := h) rfl rfl rfl ?_
  refine az_X_step (pc' := 2) (ls' := [(0, .ref (P.1 + 5)), (1, .int i), (2, .int v)]) (st' := [.ref (P.1 + 5), .int i]) (h' := h) rfl rfl rfl ?_
  refine az_X_step (pc' := 3) (ls' := [(0, .ref (P.1 + 5)), (1, .int i), (2, .int v)]) (st' := [.int v, .ref (P.1 + 5), .int i]) (h' := h) rfl rfl rfl ?_
  refine az_X_call (m' := 15) (as := [.ref (P.1 + 5), .int v]) (rest := [.int i]) rfl rfl rfl rfl rfl ?_ ?_
  · unfold si_call
    dsimp only
    rw [if_pos ⟨rfl, rfl⟩]
    show (match si_ix P h (P.1 + 5) with | some i => _ | none => none) = _
    rw [jix hH (by decide)]
    dsimp only
    rw [(hH.2 5 _ rfl).1]
    rfl
  refine (smany_ok hH v hv).mono ?_
  rintro rv3 h3 ⟨q3, z3, rfl, ez3⟩
  subst h3
  rw [hN] at ez3
  show az_X P _ 16 6 [(0, .ref (P.1 + 5)), (1, .int i), (2, .int v)] [.int z3, .int i] _ _
  refine az_X_call (m' := 200) (as := [.int i, .int z3]) (rest := []) rfl rfl rfl rfl rfl rfl ?_
  refine (modulo_ok i z3 (by rw [ez3]; omega)).mono ?_
  rintro rv6 h6 ⟨q6, z6, rfl, ez6⟩
  subst h6
  have ej : z6.toInt = i.toInt % N := by rw [ez6, ez3]
  show az_X P _ 16 9 [(0, .ref (P.1 + 5)), (1, .int i), (2, .int v)] [.int z6] _ _
  refine az_X_step (pc' := 10) (ls' := [(3, .int z6), (0, .ref (P.1 + 5)), (1, .int i), (2, .int v)]) (st' := []) (h' := h) rfl rfl rfl ?_
  refine az_X_step (pc' := 11) (ls' := [(3, .int z6), (0, .ref (P.1 + 5)), (1, .int i), (2, .int v)]) (st' := [.int v]) (h' := h) rfl rfl rfl ?_
  refine jx_if (t := 24) rfl rfl rfl (fun hc11 => ?_) (fun hc11 => ?_)
  · have g11 := jc1_ne_t hc11
    refine az_X_step (pc' := 25) (ls' := [(3, .int z6), (0, .ref (P.1 + 5)), (1, .int i), (2, .int v)]) (st' := [.int z6]) (h' := h) rfl rfl rfl ?_
    refine az_X_step (pc' := 26) (ls' := [(3, .int z6), (0, .ref (P.1 + 5)), (1, .int i), (2, .int v)]) (st' := [.int 2, .int z6]) (h' := h) rfl rfl rfl ?_
    refine jx_div rfl rfl (by decide) ?_
    refine az_X_step (pc' := 28) (ls' := [(3, .int z6), (0, .ref (P.1 + 5)), (1, .int i), (2, .int v)]) (st' := [.ref (P.1 + 5), .int (z6 / 2)]) (h' := h) rfl rfl rfl ?_
    refine jx_gf (i := 5) rfl rfl hH (by decide) (hH.2 5 _ rfl).1 rfl (jx_rf hH rfl rfl) ?_
    refine jx_gf (i := 1) rfl rfl hH (by decide) (hH.2 1 _ rfl).1 rfl hM ?_
    refine az_X_step (pc' := 35) (ls' := [(3, .int z6), (0, .ref (P.1 + 5)), (1, .int i), (2, .int v)]) (st' := [.int ((z6 / 2) * M)]) (h' := h) rfl rfl rfl ?_
    refine az_X_step (pc' := 36) (ls' := [(3, .int z6), (0, .ref (P.1 + 5)), (1, .int i), (2, .int v)]) (st' := [.int z6, .int ((z6 / 2) * M)]) (h' := h) rfl rfl rfl ?_
    refine az_X_step (pc' := 37) (ls' := [(3, .int z6), (0, .ref (P.1 + 5)), (1, .int i), (2, .int v)]) (st' := [.int 2, .int z6, .int ((z6 / 2) * M)]) (h' := h) rfl rfl rfl ?_
    refine jx_rem rfl rfl (by decide) ?_
    refine az_X_step (pc' := 39) (ls' := [(3, .int z6), (0, .ref (P.1 + 5)), (1, .int i), (2, .int v)]) (st' := [.ref (P.1 + 5), .int (z6 - z6 / 2 * 2), .int ((z6 / 2) * M)]) (h' := h) rfl rfl rfl ?_
    refine jx_gf (i := 5) rfl rfl hH (by decide) (hH.2 5 _ rfl).1 rfl (jx_rf hH rfl rfl) ?_
    refine jx_gf (i := 1) rfl rfl hH (by decide) (hH.2 1 _ rfl).1 rfl hM ?_
    refine az_X_step (pc' := 46) (ls' := [(3, .int z6), (0, .ref (P.1 + 5)), (1, .int i), (2, .int v)]) (st' := [.int 2, .int M, .int (z6 - z6 / 2 * 2), .int ((z6 / 2) * M)]) (h' := h) rfl rfl rfl ?_
    refine jx_div rfl rfl (by decide) ?_
    refine az_X_step (pc' := 48) (ls' := [(3, .int z6), (0, .ref (P.1 + 5)), (1, .int i), (2, .int v)]) (st' := [.int ((z6 - z6 / 2 * 2) * (M / 2)), .int ((z6 / 2) * M)]) (h' := h) rfl rfl rfl ?_
    refine az_X_step (pc' := 49) (ls' := [(3, .int z6), (0, .ref (P.1 + 5)), (1, .int i), (2, .int v)]) (st' := [.int (((z6 / 2) * M) + ((z6 - z6 / 2 * 2) * (M / 2)))]) (h' := h) rfl rfl rfl ?_
    refine jx_ret rfl rfl rfl ?_
    exact ⟨rfl, ((z6 / 2) * M) + ((z6 - z6 / 2 * 2) * (M / 2)), rfl, by
      have q1 : (z6 / 2).toInt = i.toInt % N / 2 := by rw [nm_div (by decide), nm_tdiv_nn (by omega), z2, ej]
      have q2 : (z6 - z6 / 2 * 2).toInt = i.toInt % N % 2 := by rw [nm_rem (by decide), z2, Int.tmod_eq_emod_of_nonneg (by omega), ej]
      have m1 := nm_mulnn (a := 0) (b := 24) (c := 4) (d := 60) (x := i.toInt % N / 2) (y := M.toInt) (by decide) (by decide) (by omega) (by omega) (by omega) (by omega)
      have m2 := nm_mulnn (a := 0) (b := 1) (c := 2) (d := 30) (x := i.toInt % N % 2) (y := M.toInt / 2) (by decide) (by decide) (by omega) (by omega) (by omega) (by omega)
      have p1 : (z6 / 2 * M).toInt = i.toInt % N / 2 * M.toInt := by rw [nm_mul (by rw [q1]; omega) (by rw [q1]; omega), q1]
      have p2 : ((z6 - z6 / 2 * 2) * (M / 2)).toInt = i.toInt % N % 2 * (M.toInt / 2) := by rw [nm_mul (by rw [q2, eh]; omega) (by rw [q2, eh]; omega), q2, eh]
      rw [nm_add (by rw [p1, p2]; omega) (by rw [p1, p2]; omega), p1, p2, eM']
      unfold jtof
      rw [if_pos (by omega)]⟩
  · have g11 := jc1_ne_f hc11
    refine az_X_step (pc' := 15) (ls' := [(3, .int z6), (0, .ref (P.1 + 5)), (1, .int i), (2, .int v)]) (st' := [.int z6]) (h' := h) rfl rfl rfl ?_
    refine az_X_step (pc' := 16) (ls' := [(3, .int z6), (0, .ref (P.1 + 5)), (1, .int i), (2, .int v)]) (st' := [.ref (P.1 + 5), .int z6]) (h' := h) rfl rfl rfl ?_
    refine jx_gf (i := 5) rfl rfl hH (by decide) (hH.2 5 _ rfl).1 rfl (jx_rf hH rfl rfl) ?_
    refine jx_gf (i := 1) rfl rfl hH (by decide) (hH.2 1 _ rfl).1 rfl hM ?_
    refine az_X_step (pc' := 23) (ls' := [(3, .int z6), (0, .ref (P.1 + 5)), (1, .int i), (2, .int v)]) (st' := [.int (z6 * M)]) (h' := h) rfl rfl rfl ?_
    refine jx_ret rfl rfl rfl ?_
    exact ⟨rfl, z6 * M, rfl, by
      have m1 := nm_mulnn (a := 0) (b := 48) (c := 4) (d := 60) (x := z6.toInt) (y := M.toInt) (by decide) (by decide) (by omega) (by omega) (by omega) (by omega)
      rw [nm_mul (by omega) (by omega), ej, eM']
      unfold jtof
      rw [if_neg (by omega)]⟩
/-- from a strike to the next -/
def jqg (m v y N k : Int) : Int := (jtof m v ((k + 1) % N) - jtof m v k) % y
theorem jt_mul {k m X : Int} (e : X = k / 2 * m) : ((k + 1) / 2 * m = X ∧ k % 2 = 0 ∧ (k + 1) % 2 = 1) ∨ ((k + 1) / 2 * m = X + m ∧ k % 2 = 1 ∧ (k + 1) % 2 = 0) := by
  subst e
  rcases (by omega : k % 2 = 0 ∨ k % 2 = 1) with h | h
  · left
    rw [show (k + 1) / 2 = k / 2 by omega]
    exact ⟨rfl, h, by omega⟩
  · right
    rw [show (k + 1) / 2 = k / 2 + 1 by omega, Int.add_mul, Int.one_mul]
    exact ⟨rfl, h, by omega⟩
theorem jt_up {m v k : Int} (hm : 4 ≤ m) : jtof m v k < jtof m v (k + 1) := by
  unfold jtof
  split
  · rcases jt_mul (k := k) (m := m) rfl with ⟨a, b, c⟩ | ⟨a, b, c⟩
    · rw [a, b, c, Int.zero_mul, Int.one_mul]; omega
    · rw [a, b, c, Int.zero_mul, Int.one_mul]; omega
  · rw [Int.add_mul, Int.one_mul]; omega
theorem jt_0 {m v : Int} : jtof m v 0 = 0 := by
  unfold jtof
  split
  · rw [show (0 : Int) / 2 = 0 from rfl, show (0 : Int) % 2 = 0 from rfl, Int.zero_mul, Int.zero_mul]; rfl
  · exact Int.zero_mul _
theorem jt_pos {m v : Int} (hm : 4 ≤ m) : ∀ k : Nat, 0 ≤ jtof m v k ∧ (1 ≤ k → 1 ≤ jtof m v k)
  | 0 => ⟨by rw [show ((0 : Nat) : Int) = 0 from rfl, jt_0]; exact Int.le_refl _, fun h => absurd h (by omega)⟩
  | k + 1 => by
    have i := jt_pos (v := v) hm k
    have u := jt_up (v := v) (k := (k : Int)) hm
    rw [show ((k + 1 : Nat) : Int) = (k : Int) + 1 by omega]
    omega
theorem jt_lt {m r v k : Int} (hm : 4 ≤ m) (hk : 0 ≤ k) (hv : v = 0 ∨ v = 1) (hk2 : k < (if v = 1 then 2 * r else r)) : jtof m v k < m * r := by
  unfold jtof
  rcases hv with rfl | rfl
  · rw [if_neg (by decide)] at hk2 ⊢
    have : (k + 1) * m ≤ r * m := Int.mul_le_mul_of_nonneg_right (by omega) (by omega)
    rw [Int.add_mul, Int.one_mul] at this
    rw [Int.mul_comm m r]
    omega
  · rw [if_pos rfl] at hk2 ⊢
    have : (k / 2 + 1) * m ≤ r * m := Int.mul_le_mul_of_nonneg_right (by omega) (by omega)
    rw [Int.add_mul, Int.one_mul] at this
    rw [Int.mul_comm m r]
    rcases (by omega : k % 2 = 0 ∨ k % 2 = 1) with h | h
    · rw [h, Int.zero_mul]; omega
    · rw [h, Int.one_mul]; omega
/-- the reference's way of saying it -/
theorem jqg_eq {m r v k N : Int} (hm : 4 ≤ m) (hr : 2 ≤ r) (hv : v = 0 ∨ v = 1) (hN : N = if v = 1 then 2 * r else r) (h0 : 0 ≤ k) (h1 : k < N) : jqg m v (m * r) N k = if 0 < jtof m v ((k + 1) % N) - jtof m v k then jtof m v ((k + 1) % N) - jtof m v k else jtof m v ((k + 1) % N) - jtof m v k + m * r := by
  have N2 : 2 ≤ N := by rw [hN]; split <;> omega
  have p0 := jt_pos (m := m) (v := v) hm k.toNat
  rw [show ((k.toNat : Nat) : Int) = k by omega] at p0
  have l0 := jt_lt (m := m) (r := r) (v := v) (k := k) hm h0 hv (by rw [← hN]; exact h1)
  unfold jqg
  by_cases e : k + 1 < N
  · rw [Int.emod_eq_of_lt (by omega) e]
    have u := jt_up (m := m) (v := v) (k := k) hm
    have l1 := jt_lt (m := m) (r := r) (v := v) (k := k + 1) hm (by omega) hv (by rw [← hN]; exact e)
    rw [if_pos (by omega), Int.emod_eq_of_lt (by omega) (by omega)]
  · rw [show k + 1 = N by omega, Int.emod_self, jt_0]
    rw [if_neg (by omega)]
    have : (0 - jtof m v k) % (m * r) = (0 - jtof m v k + m * r) % (m * r) := (Int.add_emod_right _ _).symm
    rw [this, Int.emod_eq_of_lt (by omega) (by omega)]
theorem quiet_l {P : si_P} {d : Nat} {h : si_H} (hH : az_HI P az_tb h) (v K : Int32) (hv : v = 0 ∨ v = 1) (hK : K.toInt = (if v.toInt = 1 then 2 * ja h 1 1 else ja h 1 1)) : ∀ (k n : Nat) (C T : Int32) (ls : si_L), jM [(4, .int T), (3, .int K), (2, .int C), (0, .ref (P.1 + 5)), (1, .int v)] ls → T.toInt = n → (n : Int) + k = K.toInt → C.toInt = jtM (jqg (ja h 1 0) v.toInt (ja h 1 0 * ja h 1 1) (if v.toInt = 1 then 2 * ja h 1 1 else ja h 1 1)) n → az_X P (d + 2) 20 11 ls [] h (fun rv h' => h' = h ∧ jV rv (jtM (jqg (ja h 1 0) v.toInt (ja h 1 0 * ja h 1 1) (if v.toInt = 1 then 2 * ja h 1 1 else ja h 1 1)) (n + k))) := by
  obtain ⟨⟨M, hM, eM⟩, bM⟩ := jt_ok hH (i := 1) (k := 0) rfl
  obtain ⟨⟨R, hR, eR⟩, bR⟩ := jt_ok hH (i := 1) (k := 1) rfl
  have eM' : ja h 1 0 = M.toInt := eM.symm
  have eR' : ja h 1 1 = R.toInt := eR.symm
  have b1 : 4 ≤ ji h 1 0 ∧ ji h 1 0 ≤ 60 := bM
  have b2 : 2 ≤ ji h 1 1 ∧ ji h 1 1 ≤ 24 := bR
  have bp := nm_mulnn (a := 4) (b := 60) (c := 2) (d := 24) (x := M.toInt) (y := R.toInt) (by decide) (by decide) (by omega) (by omega) (by omega) (by omega)
  have ep : (M * R).toInt = M.toInt * R.toInt := nm_mul (by omega) (by omega)
  have hv' : v.toInt = 0 ∨ v.toInt = 1 := hv.elim (fun e => Or.inl (by rw [e]; decide)) (fun e => Or.inr (by rw [e]; decide))
  have z1 : (1 : Int32).toInt = 1 := by decide
  have K48 : 2 ≤ K.toInt ∧ K.toInt ≤ 48 := by rw [hK, eR']; split <;> omega
  intro k
  induction k with
  | zero =>
    intro n C T ls hl' eT hn eC
    refine jm_iload (x := T) rfl rfl (jM_at hl' 0 rfl) ?_
    refine jm_iload_n (x := K) rfl rfl (jM_at hl' 1 rfl) ?_
    refine jx_ic (t := 56) rfl rfl rfl (fun hc14 => ?_) (fun hc14 => ?_)
    · have g14 := jc2_ge_t hc14
      refine jm_iload_n (x := C) rfl rfl (jM_at hl' 2 rfl) ?_
      refine jx_ret rfl rfl rfl ?_
      exact ⟨rfl, C, rfl, eC⟩
    · have g14 := jc2_ge_f hc14
      exact absurd eT (by omega)
  | succ k ih =>
    intro n C T ls hl' eT hn eC
    have eT1 : (T + 1).toInt = (n + 1 : Nat) := by rw [nm_add (by omega) (by omega)]; omega
    have eT2 : (T + 1).toInt = T.toInt + 1 := by rw [nm_add (by omega) (by omega), z1]
    have m0 := Int.emod_nonneg (T.toInt + 1) (b := (if v.toInt = 1 then 2 * ja h 1 1 else ja h 1 1)) (by rw [← hK]; omega)
    have m1 := Int.emod_lt_of_pos (T.toInt + 1) (b := (if v.toInt = 1 then 2 * ja h 1 1 else ja h 1 1)) (by rw [← hK]; omega)
    have p1 := jt_pos (m := ja h 1 0) (v := v.toInt) (by rw [eM']; omega) ((T.toInt + 1) % (if v.toInt = 1 then 2 * ja h 1 1 else ja h 1 1)).toNat
    rw [Int.toNat_of_nonneg m0] at p1
    have p2 := jt_lt (m := ja h 1 0) (r := ja h 1 1) (v := v.toInt) (k := (T.toInt + 1) % (if v.toInt = 1 then 2 * ja h 1 1 else ja h 1 1)) (by rw [eM']; omega) m0 hv' m1
    have p3 := jt_pos (m := ja h 1 0) (v := v.toInt) (by rw [eM']; omega) T.toInt.toNat
    rw [Int.toNat_of_nonneg (by omega : 0 ≤ T.toInt)] at p3
    have p4 := jt_lt (m := ja h 1 0) (r := ja h 1 1) (v := v.toInt) (k := T.toInt) (by rw [eM']; omega) (by omega) hv' (by rw [← hK]; omega)
    rw [eM', eR'] at p1 p2 p4
    rw [eM'] at p3
    refine jm_iload (x := T) rfl rfl (jM_at hl' 0 rfl) ?_
    refine jm_iload_n (x := K) rfl rfl (jM_at hl' 1 rfl) ?_
    refine jx_ic (t := 56) rfl rfl rfl (fun hc14 => ?_) (fun hc14 => ?_)
    · have g14 := jc2_ge_t hc14
      refine jm_iload_n (x := C) rfl rfl (jM_at hl' 2 rfl) ?_
      refine jx_ret rfl rfl rfl ?_
      exact absurd eT (by omega)
    · have g14 := jc2_ge_f hc14
      refine jm_aload_n (x := P.1 + 5) rfl rfl (jM_at hl' 3 rfl) ?_
      refine jm_iload (x := T) rfl rfl (jM_at hl' 0 rfl) ?_
      refine az_X_step (pc' := 21) (ls' := ls) (st' := [.int 1, .int T, .ref (P.1 + 5)]) (h' := h) rfl rfl rfl ?_
      refine az_X_step (pc' := 22) (ls' := ls) (st' := [.int (T + 1), .ref (P.1 + 5)]) (h' := h) rfl rfl rfl ?_
      refine jm_iload_n (x := v) rfl rfl (jM_at hl' 4 rfl) ?_
      refine az_X_call (m' := 16) (as := [.ref (P.1 + 5), .int (T + 1), .int v]) (rest := []) rfl rfl rfl rfl rfl ?_ ?_
      · unfold si_call
        dsimp only
        rw [if_pos ⟨rfl, rfl⟩]
        show (match si_ix P h (P.1 + 5) with | some i => _ | none => none) = _
        rw [jix hH (by decide)]
        dsimp only
        rw [(hH.2 5 _ rfl).1]
        rfl
      refine (tofm_ok hH (T + 1) v hv (by omega)).mono ?_
      rintro rv23 h23 ⟨q23, z23, rfl, ez23⟩
      subst h23
      show az_X P _ 20 26 ls [.int z23] _ _
      refine jm_aload_n (x := P.1 + 5) rfl rfl (jM_at hl' 3 rfl) ?_
      refine jm_iload (x := T) rfl rfl (jM_at hl' 0 rfl) ?_
      refine jm_iload_n (x := v) rfl rfl (jM_at hl' 4 rfl) ?_
      refine az_X_call (m' := 16) (as := [.ref (P.1 + 5), .int T, .int v]) (rest := [.int z23]) rfl rfl rfl rfl rfl ?_ ?_
      · unfold si_call
        dsimp only
        rw [if_pos ⟨rfl, rfl⟩]
        show (match si_ix P h (P.1 + 5) with | some i => _ | none => none) = _
        rw [jix hH (by decide)]
        dsimp only
        rw [(hH.2 5 _ rfl).1]
        rfl
      refine (tofm_ok hH T v hv (by omega)).mono ?_
      rintro rv30 h30 ⟨q30, z30, rfl, ez30⟩
      subst h30
      have eTm : T.toInt % (if v.toInt = 1 then 2 * ja h 1 1 else ja h 1 1) = T.toInt := Int.emod_eq_of_lt (by omega) (by rw [← hK]; omega)
      have es : (z23 - z30).toInt = z23.toInt - z30.toInt := nm_sub (by rw [ez23, ez30, eT2, eTm, eM', eR']; omega) (by rw [ez23, ez30, eT2, eTm, eM', eR']; omega)
      show az_X P _ 20 33 ls [.int z30, .int z23] _ _
      refine az_X_step (pc' := 34) (ls' := ls) (st' := [.int (z23 - z30)]) (h' := h) rfl rfl rfl ?_
      refine jm_istore (l' := [(5, .int (z23 - z30)), (4, .int T), (3, .int K), (2, .int C), (0, .ref (P.1 + 5)), (1, .int v)]) rfl rfl (by decide) hl' rfl rfl (fun ls34_1 hl34_1 => ?_)
      refine jm_iload_n (x := C) rfl rfl (jM_at hl34_1 3 rfl) ?_
      refine jm_aload_n (x := P.1 + 5) rfl rfl (jM_at hl34_1 4 rfl) ?_
      refine jx_gf (i := 5) rfl rfl hH (by decide) (hH.2 5 _ rfl).1 rfl (jx_rf hH rfl rfl) ?_
      refine jm_iload (x := z23 - z30) rfl rfl (jM_at hl34_1 0 rfl) ?_
      refine az_X_call (m' := 75) (as := [.ref (P.1 + 1), .int (z23 - z30)]) (rest := [.int C]) rfl rfl rfl rfl rfl ?_ ?_
      · unfold si_call
        dsimp only
        rw [if_pos ⟨rfl, rfl⟩]
        show (match si_ix P h (P.1 + 1) with | some i => _ | none => none) = _
        rw [jix hH (by decide)]
        dsimp only
        rw [(hH.2 1 _ rfl).1]
        rfl
      refine (taround_ok hH (z23 - z30)).mono ?_
      rintro rv43 h43 ⟨q43, z43, rfl, ez43⟩
      subst h43
      show az_X P _ 20 46 ls34_1 [.int z43, .int C] _ _
      refine az_X_call (m' := 343) (as := [.int C, .int z43]) (rest := []) rfl rfl rfl rfl rfl rfl ?_
      refine (cmax_ok C z43).mono ?_
      rintro rv46 h46 ⟨q46, z46, rfl, ez46⟩
      subst h46
      show az_X P _ 20 49 ls34_1 [.int z46] _ _
      refine jm_istore_n (l' := [(2, .int z46), (5, .int (z23 - z30)), (4, .int T), (3, .int K), (0, .ref (P.1 + 5)), (1, .int v)]) rfl rfl (by decide) hl34_1 rfl rfl (fun ls49_2 hl49_2 => ?_)
      refine jm_iinc (x := T) (x' := T + 1) (l' := [(4, .int (T + 1)), (2, .int z46), (5, .int (z23 - z30)), (3, .int K), (0, .ref (P.1 + 5)), (1, .int v)]) rfl rfl (by decide) (jM_at hl49_2 2 rfl) rfl hl49_2 rfl rfl (fun ls50_3 hl50_3 => ?_)
      refine az_X_step (pc' := 11) (ls' := ls50_3) (st' := []) (h' := h) rfl rfl rfl ?_
      have e4 : z43.toInt = (jqg (ja h 1 0) v.toInt (ja h 1 0 * ja h 1 1) (if v.toInt = 1 then 2 * ja h 1 1 else ja h 1 1)) (n : Int) := by
        rw [ez43, es, ez23, ez30, eT2, eTm, eT]
        rfl
      have := ih (n + 1) z46 (T + 1) ls50_3 (jM_pick hl50_3 [0, 3, 1, 4, 5] rfl) eT1 (by omega) (by rw [ez46, eC, e4]; rfl)
      rw [show n + (k + 1) = n + 1 + k by omega]
      exact this
theorem cquiet_ok {P : si_P} {d : Nat} {h : si_H} (hH : az_HI P az_tb h) (v : Int32) (hv : v = 0 ∨ v = 1) : az_X P (d + 2) 20 0 (lv_args 0 [.ref (P.1 + 5), .int v]) [] h (fun rv h' => h' = h ∧ jV rv (jtM (jqg (ja h 1 0) v.toInt (ja h 1 0 * ja h 1 1) (if v.toInt = 1 then 2 * ja h 1 1 else ja h 1 1)) (if v.toInt = 1 then 2 * ja h 1 1 else ja h 1 1).toNat)) := by
  have br : 2 ≤ ja h 1 1 ∧ ja h 1 1 ≤ 24 := ja_bd hH (i := 1) (k := 1) rfl
  have hl' : jM [(0, .ref (P.1 + 5)), (1, .int v)] (lv_args 0 [.ref (P.1 + 5), .int v]) := jM_args [0, 1] rfl (by decide)
  generalize lv_args 0 [.ref (P.1 + 5), .int v] = ls at hl'
  refine az_X_step (pc' := 1) (ls' := ls) (st' := [.int 0]) (h' := h) rfl rfl rfl ?_
  refine jm_istore_n (l' := [(2, .int 0), (0, .ref (P.1 + 5)), (1, .int v)]) rfl rfl (by decide) hl' rfl rfl (fun ls1_1 hl1_1 => ?_)
  refine jm_aload_n (x := P.1 + 5) rfl rfl (jM_at hl1_1 1 rfl) ?_
  refine jm_iload_n (x := v) rfl rfl (jM_at hl1_1 2 rfl) ?_
  refine az_X_call (m' := 15) (as := [.ref (P.1 + 5), .int v]) (rest := []) rfl rfl rfl rfl rfl ?_ ?_
  · unfold si_call
    dsimp only
    rw [if_pos ⟨rfl, rfl⟩]
    show (match si_ix P h (P.1 + 5) with | some i => _ | none => none) = _
    rw [jix hH (by decide)]
    dsimp only
    rw [(hH.2 5 _ rfl).1]
    rfl
  refine (smany_ok hH v hv).mono ?_
  rintro rv4 h4 ⟨q4, z4, rfl, ez4⟩
  subst h4
  show az_X P _ 20 7 ls1_1 [.int z4] _ _
  refine jm_istore_n (l' := [(3, .int z4), (2, .int 0), (0, .ref (P.1 + 5)), (1, .int v)]) rfl rfl (by decide) hl1_1 rfl rfl (fun ls7_2 hl7_2 => ?_)
  refine az_X_step (pc' := 9) (ls' := ls7_2) (st' := [.int 0]) (h' := h) rfl rfl rfl ?_
  refine jm_istore (l' := [(4, .int 0), (3, .int z4), (2, .int 0), (0, .ref (P.1 + 5)), (1, .int v)]) rfl rfl (by decide) hl7_2 rfl rfl (fun ls9_3 hl9_3 => ?_)
  have hn : 0 ≤ z4.toInt := by rw [ez4]; split <;> omega
  have := quiet_l (d := d) hH v z4 hv ez4 z4.toInt.toNat 0 0 0 ls9_3 (jM_pick hl9_3 [0, 1, 2, 3, 4] rfl) (by decide) (by omega) (by show (0 : Int32).toInt = 0; decide)
  rw [Nat.zero_add, ez4] at this
  exact this
theorem quiet0_ok {P : si_P} {d : Nat} {h : si_H} (hH : az_HI P az_tb h) (v : Int32) (hv : v = 0 ∨ v = 1) : az_X P (d + 3) 160 0 (lv_args 0 [.ref (P.1 + 0), .int v]) [] h (fun rv h' => h' = h ∧ jV rv (jtM (jqg (ja h 1 0) v.toInt (ja h 1 0 * ja h 1 1) (if v.toInt = 1 then 2 * ja h 1 1 else ja h 1 1)) (if v.toInt = 1 then 2 * ja h 1 1 else ja h 1 1).toNat)) := by
  refine az_X_step (pc' := 1) (ls' := [(0, .ref (P.1 + 0)), (1, .int v)]) (st' := [.ref (P.1 + 0)]) (h' := h) rfl rfl rfl ?_
  refine jx_gf (i := 0) rfl rfl hH (by decide) (hH.2 0 _ rfl).1 rfl (jx_rf hH rfl rfl) ?_
  refine az_X_step (pc' := 5) (ls' := [(0, .ref (P.1 + 0)), (1, .int v)]) (st' := [.int v, .ref (P.1 + 5)]) (h' := h) rfl rfl rfl ?_
  refine az_X_call (m' := 20) (as := [.ref (P.1 + 5), .int v]) (rest := []) rfl rfl rfl rfl rfl ?_ ?_
  · unfold si_call
    dsimp only
    rw [if_pos ⟨rfl, rfl⟩]
    show (match si_ix P h (P.1 + 5) with | some i => _ | none => none) = _
    rw [jix hH (by decide)]
    dsimp only
    rw [(hH.2 5 _ rfl).1]
    rfl
  refine (cquiet_ok hH v hv).mono ?_
  rintro rv5 h5 ⟨q5, z5, rfl, ez5⟩
  subst h5
  show az_X P _ 160 8 [(0, .ref (P.1 + 0)), (1, .int v)] [.int z5] _ _
  refine jx_ret rfl rfl rfl ?_
  exact ⟨rfl, z5, rfl, ez5⟩
theorem sg_sk4 : az_sgm az_tb [] [214, 215, 216, 203, 204, 202, 211, 220, 287, 239, 272] [7, 27] jm_sk jm_sk [(287, 43)] 400 true 6 ([(4, 60), (2, 24), (8, 1440), (0, 1), (0, 1440), (0, 59)], [([(2, 1), (4, (-1))], 0)], [(3, ([(4, 1)], 0), ([(0, 1)], 0), ([(5, 1)], 0))], [(60, ([], 7), ([(0, 1)], 0)), (60, ([], 8), ([(1, 1)], 0)), (60, ([], 9), ([(2, 1)], 0))]) 289 7 [(0, .inr (.inr (.inl 60))), (1, .inl ([(3, 1)], 0)), (2, .inl ([(4, 1)], 0))] [] [] [] = some [(([(4, 60), (2, 24), (8, 1440), (0, 1), (8, 1440), (0, 59)], [([(2, (-1)), (4, 1)], 0), ([(2, 1), (4, (-1))], 0)], [(3, ([(4, 1)], 0), ([(0, 1)], 0), ([(5, 1)], 0))], [(60, ([], 7), ([(0, 1)], 0)), (60, ([], 8), ([(1, 1)], 0)), (60, ([], 9), ([(2, 1)], 0))]), [], .inr none),
  (([(4, 60), (2, 24), (8, 1440), (0, 0), (0, 1439), (1, 59)], [([(2, 1), (4, (-1))], (-1)), ([(2, 1), (4, (-1))], 0)], [(3, ([(4, 1)], 0), ([(0, 1)], 0), ([(5, 1)], 0))], [(60, ([], 7), ([(0, 1)], 0)), (60, ([], 8), ([(1, 1)], 0)), (60, ([], 9), ([(2, 1)], 0))]), [], .inl (7, [(2, .inl ([(4, 1)], 1)), (0, .inr (.inr (.inl 60))), (1, .inl ([(3, 1)], 0))], [])),
  (([(4, 60), (2, 24), (8, 1440), (1, 1), (0, 1439), (1, 59), (0, 30)], [([(6, (-1)), (5, 1)], (-1)), ([(0, (-1)), (6, 2)], 1), ([(6, (-2)), (0, 1)], 0), ([(2, 1), (4, (-1))], (-1)), ([(2, 1), (4, (-1))], 0)], [(1, ([(0, 1)], 0), ([], 2), ([(6, 1)], 0)), (3, ([(4, 1)], 0), ([(0, 1)], 0), ([(5, 1)], 0))], [(60, ([], 7), ([(0, 1)], 0)), (60, ([], 8), ([(1, 1)], 0)), (60, ([], 9), ([(2, 1)], 0))]), [], .inl (7, [(2, .inl ([(4, 1)], 1)), (0, .inr (.inr (.inl 60))), (1, .inl ([(3, 1)], 0))], [])),
  (([(4, 60), (2, 24), (8, 1440), (1, 1), (0, 1439), (1, 29), (2, 30)], [([(6, 1), (5, (-1))], (-1)), ([(0, (-1)), (6, 2)], 1), ([(6, (-2)), (0, 1)], 0), ([(2, 1), (4, (-1))], (-1)), ([(2, 1), (4, (-1))], 0)], [(1, ([(0, 1)], 0), ([], 2), ([(6, 1)], 0)), (3, ([(4, 1)], 0), ([(0, 1)], 0), ([(5, 1)], 0))], [(60, ([], 7), ([(0, 1)], 0)), (60, ([], 8), ([(1, 1)], 0)), (60, ([], 9), ([(2, 1)], 0))]), [], .inl (7, [(2, .inl ([(4, 1)], 1)), (0, .inr (.inr (.inl 60))), (1, .inl ([(3, 1)], 0))], [])),
  (([(4, 60), (2, 24), (8, 1440), (1, 1), (0, 1439), (1, 30), (1, 30)], [([(6, 1), (5, (-1))], 0), ([(6, (-1)), (5, 1)], 0), ([(0, (-1)), (6, 2)], 1), ([(6, (-2)), (0, 1)], 0), ([(2, 1), (4, (-1))], (-1)), ([(2, 1), (4, (-1))], 0)], [(1, ([(0, 1)], 0), ([], 2), ([(6, 1)], 0)), (3, ([(4, 1)], 0), ([(0, 1)], 0), ([(5, 1)], 0))], [(60, ([], 7), ([(0, 1)], 0)), (60, ([], 8), ([(1, 1)], 0)), (60, ([], 9), ([(2, 1)], 0))]), [], .inl (27, [(0, .inr (.inr (.inl 60))), (1, .inl ([(3, 1)], 0)), (2, .inl ([(4, 1)], 0))], [])),
  (([(4, 60), (2, 24), (8, 1440), (0, 1), (1, 1439), (0, 0), (1, 359)], [([(6, (-1)), (4, 1)], 0), ([(2, 1), (4, (-1))], (-1)), ([(2, 1), (4, (-1))], 0)], [(1, ([(4, 1)], 0), ([(0, 1)], 0), ([(6, 1)], 0)), (3, ([(4, 1)], 0), ([(0, 1)], 0), ([(5, 1)], 0))], [(60, ([], 7), ([(0, 1)], 0)), (60, ([], 8), ([(1, 1)], 0)), (60, ([], 9), ([(2, 1)], 0))]), [], .inl (27, [(0, .inr (.inr (.inl 60))), (1, .inl ([(3, 1)], 0)), (2, .inl ([(4, 1)], 0))], [])),
  (([(4, 60), (2, 24), (8, 1440), (0, 1), (1, 1439), (0, 0), (0, 0)], [([(6, (-1)), (4, 1)], 0), ([(2, 1), (4, (-1))], (-1)), ([(2, 1), (4, (-1))], 0)], [(1, ([(4, 1)], 0), ([(0, 1)], 0), ([(6, 1)], 0)), (3, ([(4, 1)], 0), ([(0, 1)], 0), ([(5, 1)], 0))], [(60, ([], 7), ([(0, 1)], 0)), (60, ([], 8), ([(1, 1)], 0)), (60, ([], 9), ([(2, 1)], 0))]), [], .inl (7, [(2, .inl ([(4, 1)], 1)), (0, .inr (.inr (.inl 60))), (1, .inl ([(3, 1)], 0))], [])),
  (([(4, 60), (2, 24), (8, 1440), (0, 1), (0, 0), (0, 0)], [([(2, 1), (4, (-1))], (-1)), ([(2, 1), (4, (-1))], 0)], [(3, ([(4, 1)], 0), ([(0, 1)], 0), ([(5, 1)], 0))], [(60, ([], 7), ([(0, 1)], 0)), (60, ([], 8), ([(1, 1)], 0)), (60, ([], 9), ([(2, 1)], 0))]), [], .inl (27, [(0, .inr (.inr (.inl 60))), (1, .inl ([(3, 1)], 0)), (2, .inl ([(4, 1)], 0))], []))] := jdo (by decide +kernel)
theorem sx_sk4 {P : si_P} (hxa : P.2.1 < P.1) {Q : Option Value → si_H → Prop} {d : Nat} (hd : 6 ≤ d) {h : si_H} {ls : si_L} {m r y v t a : Int} (hH : az_HI P az_tb h) (v0 : 4 ≤ m ∧ m ≤ 60) (v1 : 2 ≤ r ∧ r ≤ 24) (v2 : 8 ≤ y ∧ y ≤ 1440) (v3 : 0 ≤ v ∧ v ≤ 1) (v4 : 0 ≤ t ∧ t ≤ 1440) (v5 : 0 ≤ a ∧ a ≤ 59) (f0 : 0 ≤ y + (-1) * t) (n0 : 0 ≤ t ∧ 1 ≤ m ∧ a = (t) % (m)) (t0 : ja h 60 (7) = m) (t1 : ja h 60 (8) = r) (t2 : ja h 60 (9) = y) (l0 : jR P ls 0 60) (l1 : jI ls 1 (v)) (l2 : jI ls 2 (t))
  (a0 : ∀ (τ : Nat → Int) (h' : si_H), τ 0 = m → τ 1 = r → τ 2 = y → τ 3 = v → τ 4 = t → τ 5 = a → az_HI P az_tb h' → az_same_out jm_sk h h' → (∀ (i : Nat) (k : Int), 0 ≤ k → ja h' i k = ja h i k) → ((4 ≤ τ 0 ∧ τ 0 ≤ 60) ∧ (2 ≤ τ 1 ∧ τ 1 ≤ 24) ∧ (8 ≤ τ 2 ∧ τ 2 ≤ 1440) ∧ (0 ≤ τ 3 ∧ τ 3 ≤ 1) ∧ (8 ≤ τ 4 ∧ τ 4 ≤ 1440) ∧ (0 ≤ τ 5 ∧ τ 5 ≤ 59) ∧ True) → (0 ≤ (((-1) * τ 2 + (1 * τ 4 + 0)) + 0) ∧ 0 ≤ ((1 * τ 2 + ((-1) * τ 4 + 0)) + 0) ∧ True) → ((0 ≤ ((1 * τ 4 + 0) + 0) ∧ (1 : Int) ≤ ((1 * τ 0 + 0) + 0) ∧ ((1 * τ 5 + 0) + 0) = ((1 * τ 4 + 0) + 0) % ((1 * τ 0 + 0) + 0)) ∧ True) → (∀ k : Int, k = (7 : Int) → ja h' 60 k = ((1 * τ 0 + 0) + 0)) → (∀ k : Int, k = (8 : Int) → ja h' 60 k = ((1 * τ 1 + 0) + 0)) → (∀ k : Int, k = (9 : Int) → ja h' 60 k = ((1 * τ 2 + 0) + 0)) → Q none h')
  (a1 : ∀ (τ : Nat → Int) (h' : si_H) (ls' : si_L), τ 0 = m → τ 1 = r → τ 2 = y → τ 3 = v → τ 4 = t → τ 5 = a → az_HI P az_tb h' → az_same_out jm_sk h h' → (∀ (i : Nat) (k : Int), 0 ≤ k → ja h' i k = ja h i k) → ((4 ≤ τ 0 ∧ τ 0 ≤ 60) ∧ (2 ≤ τ 1 ∧ τ 1 ≤ 24) ∧ (8 ≤ τ 2 ∧ τ 2 ≤ 1440) ∧ (0 ≤ τ 3 ∧ τ 3 ≤ 0) ∧ (0 ≤ τ 4 ∧ τ 4 ≤ 1439) ∧ (1 ≤ τ 5 ∧ τ 5 ≤ 59) ∧ True) → (0 ≤ ((1 * τ 2 + ((-1) * τ 4 + 0)) + (-1)) ∧ 0 ≤ ((1 * τ 2 + ((-1) * τ 4 + 0)) + 0) ∧ True) → ((0 ≤ ((1 * τ 4 + 0) + 0) ∧ (1 : Int) ≤ ((1 * τ 0 + 0) + 0) ∧ ((1 * τ 5 + 0) + 0) = ((1 * τ 4 + 0) + 0) % ((1 * τ 0 + 0) + 0)) ∧ True) → (∀ k : Int, k = (7 : Int) → ja h' 60 k = ((1 * τ 0 + 0) + 0)) → (∀ k : Int, k = (8 : Int) → ja h' 60 k = ((1 * τ 1 + 0) + 0)) → (∀ k : Int, k = (9 : Int) → ja h' 60 k = ((1 * τ 2 + 0) + 0)) → jI ls' 2 ((1 * τ 4 + 0) + 1) → jR P ls' 0 60 → jI ls' 1 ((1 * τ 3 + 0) + 0) → az_X P d 289 7 ls' [] h' Q)
  (a2 : ∀ (τ : Nat → Int) (h' : si_H) (ls' : si_L), τ 0 = m → τ 1 = r → τ 2 = y → τ 3 = v → τ 4 = t → τ 5 = a → az_HI P az_tb h' → az_same_out jm_sk h h' → (∀ (i : Nat) (k : Int), 0 ≤ k → ja h' i k = ja h i k) → ((4 ≤ τ 0 ∧ τ 0 ≤ 60) ∧ (2 ≤ τ 1 ∧ τ 1 ≤ 24) ∧ (8 ≤ τ 2 ∧ τ 2 ≤ 1440) ∧ (1 ≤ τ 3 ∧ τ 3 ≤ 1) ∧ (0 ≤ τ 4 ∧ τ 4 ≤ 1439) ∧ (1 ≤ τ 5 ∧ τ 5 ≤ 59) ∧ (0 ≤ τ 6 ∧ τ 6 ≤ 30) ∧ True) → (0 ≤ (((-1) * τ 6 + (1 * τ 5 + 0)) + (-1)) ∧ 0 ≤ (((-1) * τ 0 + (2 * τ 6 + 0)) + 1) ∧ 0 ≤ (((-2) * τ 6 + (1 * τ 0 + 0)) + 0) ∧ 0 ≤ ((1 * τ 2 + ((-1) * τ 4 + 0)) + (-1)) ∧ 0 ≤ ((1 * τ 2 + ((-1) * τ 4 + 0)) + 0) ∧ True) → ((0 ≤ ((1 * τ 0 + 0) + 0) ∧ (1 : Int) ≤ (2 : Int) ∧ ((1 * τ 6 + 0) + 0) = ((1 * τ 0 + 0) + 0) / (2 : Int)) ∧ (0 ≤ ((1 * τ 4 + 0) + 0) ∧ (1 : Int) ≤ ((1 * τ 0 + 0) + 0) ∧ ((1 * τ 5 + 0) + 0) = ((1 * τ 4 + 0) + 0) % ((1 * τ 0 + 0) + 0)) ∧ True) → (∀ k : Int, k = (7 : Int) → ja h' 60 k = ((1 * τ 0 + 0) + 0)) → (∀ k : Int, k = (8 : Int) → ja h' 60 k = ((1 * τ 1 + 0) + 0)) → (∀ k : Int, k = (9 : Int) → ja h' 60 k = ((1 * τ 2 + 0) + 0)) → jI ls' 2 ((1 * τ 4 + 0) + 1) → jR P ls' 0 60 → jI ls' 1 ((1 * τ 3 + 0) + 0) → az_X P d 289 7 ls' [] h' Q)
  (a3 : ∀ (τ : Nat → Int) (h' : si_H) (ls' : si_L), τ 0 = m → τ 1 = r → τ 2 = y → τ 3 = v → τ 4 = t → τ 5 = a → az_HI P az_tb h' → az_same_out jm_sk h h' → (∀ (i : Nat) (k : Int), 0 ≤ k → ja h' i k = ja h i k) → ((4 ≤ τ 0 ∧ τ 0 ≤ 60) ∧ (2 ≤ τ 1 ∧ τ 1 ≤ 24) ∧ (8 ≤ τ 2 ∧ τ 2 ≤ 1440) ∧ (1 ≤ τ 3 ∧ τ 3 ≤ 1) ∧ (0 ≤ τ 4 ∧ τ 4 ≤ 1439) ∧ (1 ≤ τ 5 ∧ τ 5 ≤ 29) ∧ (2 ≤ τ 6 ∧ τ 6 ≤ 30) ∧ True) → (0 ≤ ((1 * τ 6 + ((-1) * τ 5 + 0)) + (-1)) ∧ 0 ≤ (((-1) * τ 0 + (2 * τ 6 + 0)) + 1) ∧ 0 ≤ (((-2) * τ 6 + (1 * τ 0 + 0)) + 0) ∧ 0 ≤ ((1 * τ 2 + ((-1) * τ 4 + 0)) + (-1)) ∧ 0 ≤ ((1 * τ 2 + ((-1) * τ 4 + 0)) + 0) ∧ True) → ((0 ≤ ((1 * τ 0 + 0) + 0) ∧ (1 : Int) ≤ (2 : Int) ∧ ((1 * τ 6 + 0) + 0) = ((1 * τ 0 + 0) + 0) / (2 : Int)) ∧ (0 ≤ ((1 * τ 4 + 0) + 0) ∧ (1 : Int) ≤ ((1 * τ 0 + 0) + 0) ∧ ((1 * τ 5 + 0) + 0) = ((1 * τ 4 + 0) + 0) % ((1 * τ 0 + 0) + 0)) ∧ True) → (∀ k : Int, k = (7 : Int) → ja h' 60 k = ((1 * τ 0 + 0) + 0)) → (∀ k : Int, k = (8 : Int) → ja h' 60 k = ((1 * τ 1 + 0) + 0)) → (∀ k : Int, k = (9 : Int) → ja h' 60 k = ((1 * τ 2 + 0) + 0)) → jI ls' 2 ((1 * τ 4 + 0) + 1) → jR P ls' 0 60 → jI ls' 1 ((1 * τ 3 + 0) + 0) → az_X P d 289 7 ls' [] h' Q)
  (a4 : ∀ (τ : Nat → Int) (h' : si_H) (ls' : si_L), τ 0 = m → τ 1 = r → τ 2 = y → τ 3 = v → τ 4 = t → τ 5 = a → az_HI P az_tb h' → az_same_out jm_sk h h' → (∀ (i : Nat) (k : Int), 0 ≤ k → ja h' i k = ja h i k) → ((4 ≤ τ 0 ∧ τ 0 ≤ 60) ∧ (2 ≤ τ 1 ∧ τ 1 ≤ 24) ∧ (8 ≤ τ 2 ∧ τ 2 ≤ 1440) ∧ (1 ≤ τ 3 ∧ τ 3 ≤ 1) ∧ (0 ≤ τ 4 ∧ τ 4 ≤ 1439) ∧ (1 ≤ τ 5 ∧ τ 5 ≤ 30) ∧ (1 ≤ τ 6 ∧ τ 6 ≤ 30) ∧ True) → (0 ≤ ((1 * τ 6 + ((-1) * τ 5 + 0)) + 0) ∧ 0 ≤ (((-1) * τ 6 + (1 * τ 5 + 0)) + 0) ∧ 0 ≤ (((-1) * τ 0 + (2 * τ 6 + 0)) + 1) ∧ 0 ≤ (((-2) * τ 6 + (1 * τ 0 + 0)) + 0) ∧ 0 ≤ ((1 * τ 2 + ((-1) * τ 4 + 0)) + (-1)) ∧ 0 ≤ ((1 * τ 2 + ((-1) * τ 4 + 0)) + 0) ∧ True) → ((0 ≤ ((1 * τ 0 + 0) + 0) ∧ (1 : Int) ≤ (2 : Int) ∧ ((1 * τ 6 + 0) + 0) = ((1 * τ 0 + 0) + 0) / (2 : Int)) ∧ (0 ≤ ((1 * τ 4 + 0) + 0) ∧ (1 : Int) ≤ ((1 * τ 0 + 0) + 0) ∧ ((1 * τ 5 + 0) + 0) = ((1 * τ 4 + 0) + 0) % ((1 * τ 0 + 0) + 0)) ∧ True) → (∀ k : Int, k = (7 : Int) → ja h' 60 k = ((1 * τ 0 + 0) + 0)) → (∀ k : Int, k = (8 : Int) → ja h' 60 k = ((1 * τ 1 + 0) + 0)) → (∀ k : Int, k = (9 : Int) → ja h' 60 k = ((1 * τ 2 + 0) + 0)) → jR P ls' 0 60 → jI ls' 1 ((1 * τ 3 + 0) + 0) → jI ls' 2 ((1 * τ 4 + 0) + 0) → az_X P d 289 27 ls' [] h' Q)
  (a5 : ∀ (τ : Nat → Int) (h' : si_H) (ls' : si_L), τ 0 = m → τ 1 = r → τ 2 = y → τ 3 = v → τ 4 = t → τ 5 = a → az_HI P az_tb h' → az_same_out jm_sk h h' → (∀ (i : Nat) (k : Int), 0 ≤ k → ja h' i k = ja h i k) → ((4 ≤ τ 0 ∧ τ 0 ≤ 60) ∧ (2 ≤ τ 1 ∧ τ 1 ≤ 24) ∧ (8 ≤ τ 2 ∧ τ 2 ≤ 1440) ∧ (0 ≤ τ 3 ∧ τ 3 ≤ 1) ∧ (1 ≤ τ 4 ∧ τ 4 ≤ 1439) ∧ (0 ≤ τ 5 ∧ τ 5 ≤ 0) ∧ (1 ≤ τ 6 ∧ τ 6 ≤ 359) ∧ True) → (0 ≤ (((-1) * τ 6 + (1 * τ 4 + 0)) + 0) ∧ 0 ≤ ((1 * τ 2 + ((-1) * τ 4 + 0)) + (-1)) ∧ 0 ≤ ((1 * τ 2 + ((-1) * τ 4 + 0)) + 0) ∧ True) → ((0 ≤ ((1 * τ 4 + 0) + 0) ∧ (1 : Int) ≤ ((1 * τ 0 + 0) + 0) ∧ ((1 * τ 6 + 0) + 0) = ((1 * τ 4 + 0) + 0) / ((1 * τ 0 + 0) + 0)) ∧ (0 ≤ ((1 * τ 4 + 0) + 0) ∧ (1 : Int) ≤ ((1 * τ 0 + 0) + 0) ∧ ((1 * τ 5 + 0) + 0) = ((1 * τ 4 + 0) + 0) % ((1 * τ 0 + 0) + 0)) ∧ True) → (∀ k : Int, k = (7 : Int) → ja h' 60 k = ((1 * τ 0 + 0) + 0)) → (∀ k : Int, k = (8 : Int) → ja h' 60 k = ((1 * τ 1 + 0) + 0)) → (∀ k : Int, k = (9 : Int) → ja h' 60 k = ((1 * τ 2 + 0) + 0)) → jR P ls' 0 60 → jI ls' 1 ((1 * τ 3 + 0) + 0) → jI ls' 2 ((1 * τ 4 + 0) + 0) → az_X P d 289 27 ls' [] h' Q)
  (a6 : ∀ (τ : Nat → Int) (h' : si_H) (ls' : si_L), τ 0 = m → τ 1 = r → τ 2 = y → τ 3 = v → τ 4 = t → τ 5 = a → az_HI P az_tb h' → az_same_out jm_sk h h' → (∀ (i : Nat) (k : Int), 0 ≤ k → ja h' i k = ja h i k) → ((4 ≤ τ 0 ∧ τ 0 ≤ 60) ∧ (2 ≤ τ 1 ∧ τ 1 ≤ 24) ∧ (8 ≤ τ 2 ∧ τ 2 ≤ 1440) ∧ (0 ≤ τ 3 ∧ τ 3 ≤ 1) ∧ (1 ≤ τ 4 ∧ τ 4 ≤ 1439) ∧ (0 ≤ τ 5 ∧ τ 5 ≤ 0) ∧ (0 ≤ τ 6 ∧ τ 6 ≤ 0) ∧ True) → (0 ≤ (((-1) * τ 6 + (1 * τ 4 + 0)) + 0) ∧ 0 ≤ ((1 * τ 2 + ((-1) * τ 4 + 0)) + (-1)) ∧ 0 ≤ ((1 * τ 2 + ((-1) * τ 4 + 0)) + 0) ∧ True) → ((0 ≤ ((1 * τ 4 + 0) + 0) ∧ (1 : Int) ≤ ((1 * τ 0 + 0) + 0) ∧ ((1 * τ 6 + 0) + 0) = ((1 * τ 4 + 0) + 0) / ((1 * τ 0 + 0) + 0)) ∧ (0 ≤ ((1 * τ 4 + 0) + 0) ∧ (1 : Int) ≤ ((1 * τ 0 + 0) + 0) ∧ ((1 * τ 5 + 0) + 0) = ((1 * τ 4 + 0) + 0) % ((1 * τ 0 + 0) + 0)) ∧ True) → (∀ k : Int, k = (7 : Int) → ja h' 60 k = ((1 * τ 0 + 0) + 0)) → (∀ k : Int, k = (8 : Int) → ja h' 60 k = ((1 * τ 1 + 0) + 0)) → (∀ k : Int, k = (9 : Int) → ja h' 60 k = ((1 * τ 2 + 0) + 0)) → jI ls' 2 ((1 * τ 4 + 0) + 1) → jR P ls' 0 60 → jI ls' 1 ((1 * τ 3 + 0) + 0) → az_X P d 289 7 ls' [] h' Q)
  (a7 : ∀ (τ : Nat → Int) (h' : si_H) (ls' : si_L), τ 0 = m → τ 1 = r → τ 2 = y → τ 3 = v → τ 4 = t → τ 5 = a → az_HI P az_tb h' → az_same_out jm_sk h h' → (∀ (i : Nat) (k : Int), 0 ≤ k → ja h' i k = ja h i k) → ((4 ≤ τ 0 ∧ τ 0 ≤ 60) ∧ (2 ≤ τ 1 ∧ τ 1 ≤ 24) ∧ (8 ≤ τ 2 ∧ τ 2 ≤ 1440) ∧ (0 ≤ τ 3 ∧ τ 3 ≤ 1) ∧ (0 ≤ τ 4 ∧ τ 4 ≤ 0) ∧ (0 ≤ τ 5 ∧ τ 5 ≤ 0) ∧ True) → (0 ≤ ((1 * τ 2 + ((-1) * τ 4 + 0)) + (-1)) ∧ 0 ≤ ((1 * τ 2 + ((-1) * τ 4 + 0)) + 0) ∧ True) → ((0 ≤ ((1 * τ 4 + 0) + 0) ∧ (1 : Int) ≤ ((1 * τ 0 + 0) + 0) ∧ ((1 * τ 5 + 0) + 0) = ((1 * τ 4 + 0) + 0) % ((1 * τ 0 + 0) + 0)) ∧ True) → (∀ k : Int, k = (7 : Int) → ja h' 60 k = ((1 * τ 0 + 0) + 0)) → (∀ k : Int, k = (8 : Int) → ja h' 60 k = ((1 * τ 1 + 0) + 0)) → (∀ k : Int, k = (9 : Int) → ja h' 60 k = ((1 * τ 2 + 0) + 0)) → jR P ls' 0 60 → jI ls' 1 ((1 * τ 3 + 0) + 0) → jI ls' 2 ((1 * τ 4 + 0) + 0) → az_X P d 289 27 ls' [] h' Q) : az_X P d 289 7 ls [] h Q := by
  have ρe : ∀ i, jρ [m, r, y, v, t, a] i = [m, r, y, v, t, a].getD i 0 := fun _ => rfl
  refine jseg (ρ := jρ [m, r, y, v, t, a]) hxa (by decide) az_fn sg_sk4 hd hH (jg_mk hH (by decide) (by decide) ⟨v0, v1, v2, v3, v4, v5, trivial⟩ ?gF ?gN ?gT) (jL_ref l0 (jL_int (l1.cg (by simp only [az_ev, az_evL, jρ, List.getD_cons_zero, List.getD_cons_succ]; omega)) (by decide) (jL_int (l2.cg (by simp only [az_ev, az_evL, jρ, List.getD_cons_zero, List.getD_cons_succ]; omega)) (by decide) jL_nil))) trivial ⟨fun τ h' hx hH' hso hfr hI hF hN hT w hw => jO_none hw ▸ a0 τ h' (hx 0 (by decide)) (hx 1 (by decide)) (hx 2 (by decide)) (hx 3 (by decide)) (hx 4 (by decide)) (hx 5 (by decide)) hH' hso (fun i k h0 => hfr i k h0 trivial) hI hF ⟨hN.1.2.2.2.1 rfl, trivial⟩ (fun k hk => (congrArg (ja h' 60) hk).trans (hT.1 (by decide))) (fun k hk => (congrArg (ja h' 60) hk).trans (hT.2.1 (by decide))) (fun k hk => (congrArg (ja h' 60) hk).trans (hT.2.2.1 (by decide))), fun τ h' hx hH' hso hfr hI hF hN hT ls' st' hL hS => jS_nil hS ▸ a1 τ h' ls' (hx 0 (by decide)) (hx 1 (by decide)) (hx 2 (by decide)) (hx 3 (by decide)) (hx 4 (by decide)) (hx 5 (by decide)) hH' hso (fun i k h0 => hfr i k h0 trivial) hI hF ⟨hN.1.2.2.2.1 rfl, trivial⟩ (fun k hk => (congrArg (ja h' 60) hk).trans (hT.1 (by decide))) (fun k hk => (congrArg (ja h' 60) hk).trans (hT.2.1 (by decide))) (fun k hk => (congrArg (ja h' 60) hk).trans (hT.2.2.1 (by decide))) (jI.of (k := 2) (a := ([(4, 1)], 1)) hL rfl) (jR.of (k := 0) (c := 60) hL rfl) (jI.of (k := 1) (a := ([(3, 1)], 0)) hL rfl), fun τ h' hx hH' hso hfr hI hF hN hT ls' st' hL hS => jS_nil hS ▸ a2 τ h' ls' (hx 0 (by decide)) (hx 1 (by decide)) (hx 2 (by decide)) (hx 3 (by decide)) (hx 4 (by decide)) (hx 5 (by decide)) hH' hso (fun i k h0 => hfr i k h0 trivial) hI hF ⟨hN.1.2.1 rfl, hN.2.1.2.2.2.1 rfl, trivial⟩ (fun k hk => (congrArg (ja h' 60) hk).trans (hT.1 (by decide))) (fun k hk => (congrArg (ja h' 60) hk).trans (hT.2.1 (by decide))) (fun k hk => (congrArg (ja h' 60) hk).trans (hT.2.2.1 (by decide))) (jI.of (k := 2) (a := ([(4, 1)], 1)) hL rfl) (jR.of (k := 0) (c := 60) hL rfl) (jI.of (k := 1) (a := ([(3, 1)], 0)) hL rfl), fun τ h' hx hH' hso hfr hI hF hN hT ls' st' hL hS => jS_nil hS ▸ a3 τ h' ls' (hx 0 (by decide)) (hx 1 (by decide)) (hx 2 (by decide)) (hx 3 (by decide)) (hx 4 (by decide)) (hx 5 (by decide)) hH' hso (fun i k h0 => hfr i k h0 trivial) hI hF ⟨hN.1.2.1 rfl, hN.2.1.2.2.2.1 rfl, trivial⟩ (fun k hk => (congrArg (ja h' 60) hk).trans (hT.1 (by decide))) (fun k hk => (congrArg (ja h' 60) hk).trans (hT.2.1 (by decide))) (fun k hk => (congrArg (ja h' 60) hk).trans (hT.2.2.1 (by decide))) (jI.of (k := 2) (a := ([(4, 1)], 1)) hL rfl) (jR.of (k := 0) (c := 60) hL rfl) (jI.of (k := 1) (a := ([(3, 1)], 0)) hL rfl), fun τ h' hx hH' hso hfr hI hF hN hT ls' st' hL hS => jS_nil hS ▸ a4 τ h' ls' (hx 0 (by decide)) (hx 1 (by decide)) (hx 2 (by decide)) (hx 3 (by decide)) (hx 4 (by decide)) (hx 5 (by decide)) hH' hso (fun i k h0 => hfr i k h0 trivial) hI hF ⟨hN.1.2.1 rfl, hN.2.1.2.2.2.1 rfl, trivial⟩ (fun k hk => (congrArg (ja h' 60) hk).trans (hT.1 (by decide))) (fun k hk => (congrArg (ja h' 60) hk).trans (hT.2.1 (by decide))) (fun k hk => (congrArg (ja h' 60) hk).trans (hT.2.2.1 (by decide))) (jR.of (k := 0) (c := 60) hL rfl) (jI.of (k := 1) (a := ([(3, 1)], 0)) hL rfl) (jI.of (k := 2) (a := ([(4, 1)], 0)) hL rfl), fun τ h' hx hH' hso hfr hI hF hN hT ls' st' hL hS => jS_nil hS ▸ a5 τ h' ls' (hx 0 (by decide)) (hx 1 (by decide)) (hx 2 (by decide)) (hx 3 (by decide)) (hx 4 (by decide)) (hx 5 (by decide)) hH' hso (fun i k h0 => hfr i k h0 trivial) hI hF ⟨hN.1.2.1 rfl, hN.2.1.2.2.2.1 rfl, trivial⟩ (fun k hk => (congrArg (ja h' 60) hk).trans (hT.1 (by decide))) (fun k hk => (congrArg (ja h' 60) hk).trans (hT.2.1 (by decide))) (fun k hk => (congrArg (ja h' 60) hk).trans (hT.2.2.1 (by decide))) (jR.of (k := 0) (c := 60) hL rfl) (jI.of (k := 1) (a := ([(3, 1)], 0)) hL rfl) (jI.of (k := 2) (a := ([(4, 1)], 0)) hL rfl), fun τ h' hx hH' hso hfr hI hF hN hT ls' st' hL hS => jS_nil hS ▸ a6 τ h' ls' (hx 0 (by decide)) (hx 1 (by decide)) (hx 2 (by decide)) (hx 3 (by decide)) (hx 4 (by decide)) (hx 5 (by decide)) hH' hso (fun i k h0 => hfr i k h0 trivial) hI hF ⟨hN.1.2.1 rfl, hN.2.1.2.2.2.1 rfl, trivial⟩ (fun k hk => (congrArg (ja h' 60) hk).trans (hT.1 (by decide))) (fun k hk => (congrArg (ja h' 60) hk).trans (hT.2.1 (by decide))) (fun k hk => (congrArg (ja h' 60) hk).trans (hT.2.2.1 (by decide))) (jI.of (k := 2) (a := ([(4, 1)], 1)) hL rfl) (jR.of (k := 0) (c := 60) hL rfl) (jI.of (k := 1) (a := ([(3, 1)], 0)) hL rfl), fun τ h' hx hH' hso hfr hI hF hN hT ls' st' hL hS => jS_nil hS ▸ a7 τ h' ls' (hx 0 (by decide)) (hx 1 (by decide)) (hx 2 (by decide)) (hx 3 (by decide)) (hx 4 (by decide)) (hx 5 (by decide)) hH' hso (fun i k h0 => hfr i k h0 trivial) hI hF ⟨hN.1.2.2.2.1 rfl, trivial⟩ (fun k hk => (congrArg (ja h' 60) hk).trans (hT.1 (by decide))) (fun k hk => (congrArg (ja h' 60) hk).trans (hT.2.1 (by decide))) (fun k hk => (congrArg (ja h' 60) hk).trans (hT.2.2.1 (by decide))) (jR.of (k := 0) (c := 60) hL rfl) (jI.of (k := 1) (a := ([(3, 1)], 0)) hL rfl) (jI.of (k := 2) (a := ([(4, 1)], 0)) hL rfl), trivial⟩
  case gF => simp only [jgF, jgN, jgS, jn1, az_ev, az_evL, jρ, List.getD_cons_zero, List.getD_cons_succ, and_true]; omega
  case gN => exact ⟨(by simpa [jn1, az_ev, az_evL, jρ] using n0), trivial⟩
  case gT => exact ⟨⟨by decide, (by show (0 : Int) ≤ 7; decide), (by show (jt 60 7).isSome = true; decide), (by have h1 := t0; simp only [az_ev, az_evL, jρ, List.getD_cons_zero, List.getD_cons_succ]; exact h1.trans (by omega))⟩, ⟨by decide, (by show (0 : Int) ≤ 8; decide), (by show (jt 60 8).isSome = true; decide), (by have h1 := t1; simp only [az_ev, az_evL, jρ, List.getD_cons_zero, List.getD_cons_succ]; exact h1.trans (by omega))⟩, ⟨by decide, (by show (0 : Int) ≤ 9; decide), (by show (jt 60 9).isSome = true; decide), (by have h1 := t2; simp only [az_ev, az_evL, jρ, List.getD_cons_zero, List.getD_cons_succ]; exact h1.trans (by omega))⟩, trivial⟩
/-- before a time that strikes: as many strikes as its number says -/
theorem jtC_at {m r v : Int} {w : Nat} (hw : m = w) (hm : 4 ≤ m) (hr : 2 ≤ r) (hv : v = 0 ∨ v = 1) (t : Nat) (ht : 0 < jst m r t v) : jtof m v (jtC (fun x => decide (0 < jst m r x v)) 0 t) = t := by
  have e := jemx (a := (t : Int)) (m := m) (by omega)
  have q0 : 0 ≤ (t : Int) / m := Int.ediv_nonneg (by omega) (by omega)
  obtain ⟨k, hk⟩ : ∃ k : Nat, (t : Int) / m = k := ⟨((t : Int) / m).toNat, by omega⟩
  obtain ⟨j, hj⟩ : ∃ j : Nat, (t : Int) % m = j := ⟨((t : Int) % m).toNat, by omega⟩
  rw [hk, hj] at e
  have eA : ((w * k : Nat) : Int) = m * k := by rw [hw]; exact Int.natCast_mul w k
  have et : t = w * k + j := by omega
  have b := (jst_blk (m := m) (r := r) (v := v) (k := k) (j := j) hm hr (by omega) (by omega) (by omega)).mp (by rw [e.1]; exact ht)
  have c0 := jtw (m := m) (r := r) (v := v) (w := w) hw hm hr (fun _ => true) k
  have c1 : jtC (fun i => (fun _ => true) (jtof m v i)) 0 (jsn v k) = jsn v k := by
    generalize jsn v k = n
    induction n with
    | zero => rfl
    | succ n ih =>
      show jtC _ 0 n + (if true = true then 1 else 0) = _
      rw [ih, if_pos rfl]
      omega
  have c2 : jtC (fun x => decide (0 < jst m r x v) && (fun _ => true) x) 0 (w * k) = jtC (fun x => decide (0 < jst m r x v)) 0 (w * k) := jtC_cg _ (fun j _ => Bool.and_true _)
  rw [c2, c1] at c0
  rw [et, jtC_add, c0, Int.zero_add]
  rw [← et]
  rcases b with b | ⟨b1, b2⟩
  · have : j = 0 := by omega
    subst this
    show jtof m v ((jsn v k : Int) + 0) = _
    rw [Int.add_zero]
    unfold jtof jsn
    rcases hv with rfl | rfl
    · rw [if_neg (by decide), if_neg (by decide), Int.mul_comm]; omega
    · rw [if_pos rfl, if_pos rfl, show ((2 * k : Nat) : Int) / 2 = k by omega, show ((2 * k : Nat) : Int) % 2 = 0 by omega, Int.zero_mul, Int.mul_comm]; omega
  · have c3 : jtC (fun x => decide (0 < jst m r x v)) ((w * k : Nat) : Int) j = 1 := by
      have : jtC (fun x => decide (0 < jst m r x v)) ((w * k : Nat) : Int) j = jtC (fun t => decide (t = ((w * k : Nat) : Int) + (0 : Nat)) && (fun _ => true) t) ((w * k : Nat) : Int) j := by
        apply jtC_cg
        intro i hi
        have b3 := jst_blk (m := m) (r := r) (v := v) (k := k) (j := i) hm hr (by omega) (by omega) (by omega)
        show decide (0 < jst m r (((w * k : Nat) : Int) + i) v) = (decide (((w * k : Nat) : Int) + (i : Int) = ((w * k : Nat) : Int) + ((0 : Nat) : Int)) && true)
        rw [Bool.and_true, eA]
        exact decide_eq_decide.mpr (b3.trans (by omega))
      rw [this, jtC_one, if_pos (by omega), if_pos rfl]
    rw [c3]
    unfold jtof jsn
    rw [if_pos b1, if_pos b1, show (((2 * k : Nat) : Int) + 1) / 2 = k by omega, show (((2 * k : Nat) : Int) + 1) % 2 = 1 by omega, Int.one_mul, Int.mul_comm]
    omega
section Strikes2
variable {P : si_P} {d : Nat}
def skR (P : si_P) (h0 : si_H) (m r v : Int) (y : Nat) (rv : Option Value) (h' : si_H) : Prop := rv = none ∧ az_HI P az_tb h' ∧ az_same_out jm_sk h0 h' ∧ ja h' 60 58 = jtC (fun x => decide (0 < jst m r x v)) 0 y ∧ ∀ i : Nat, (i : Int) < ja h' 60 58 → ja h' 99 i = jtof m v i
theorem lays2_7 (hxa : P.2.1 < P.1) (hd : 6 ≤ d) {h0 : si_H} {m r : Int} {y : Nat} (hm : 4 ≤ m ∧ m ≤ 60) (hr : 2 ≤ r ∧ r ≤ 24) (hy : 8 ≤ y ∧ y ≤ 1440) (hp : m * r = y) {v : Int} (hv : 0 ≤ v ∧ v ≤ 1) : ∀ (n t : Nat) (h : si_H) (ls : si_L), t + n = y → az_HI P az_tb h → az_same_out jm_sk h0 h → ja h 60 7 = m → ja h 60 8 = r → ja h 60 9 = y → ja h 60 58 ≤ jB m t → ja h 60 58 = jtC (fun x => decide (0 < jst m r x v)) 0 t → (∀ i : Nat, (i : Int) < ja h 60 58 → ja h 99 i = jtof m v i) → jR P ls 0 60 → jI ls 1 v → jI ls 2 t → az_X P d 289 7 ls [] h (skR P h0 m r v y) := by
  obtain ⟨w, hw⟩ : ∃ w : Nat, m = w := ⟨m.toNat, by omega⟩
  intro n
  induction n with
  | zero =>
    intro t h ls hn hH hs t7 t8 t9 hB hC hA l0 l1 l2
    have h2 := Int.emod_nonneg (t : Int) (Int.ne_of_gt (show 0 < m by omega))
    have h3 := Int.emod_lt_of_pos (t : Int) (show 0 < m by omega)
    have hty : t = y := by omega
    apply sx_sk4 hxa (by omega) hH (m := m) (r := r) (y := y) (v := v) (t := t) (a := (t : Int) % m) hm hr (by omega) hv (by omega) (by omega) (by omega) ⟨by omega, by omega, rfl⟩ t7 t8 t9 l0 l1 l2
    all_goals first
      | (intro τ h2 e0 e1 e2 e3 e4 e5 hH2 hs2 fr2 iv2 fs2 nn2 t0 t1 t2
         refine ⟨rfl, hH2, hs.tr hs2, ?_, fun i hi => ?_⟩
         · rw [fr2 _ _ (by omega), hC, hty]
         · rw [fr2 _ _ (by omega)] at hi
           rw [fr2 _ _ (by omega)]
           exact hA i hi)
      | (intro τ h2 ls2 e0 e1 e2 e3 e4 e5 hH2 hs2 fr2 iv2 fs2
         exfalso
         omega)
  | succ n ih =>
    intro t h ls hn hH hs t7 t8 t9 hB hC hA l0 l1 l2
    have g2 := Int.emod_nonneg (t : Int) (Int.ne_of_gt (show 0 < m by omega))
    have g3 := Int.emod_lt_of_pos (t : Int) (show 0 < m by omega)
    have g4 : (t : Int) / m < r := Int.ediv_lt_of_lt_mul (by omega) (by rw [Int.mul_comm, hp]; omega)
    have g7 : 0 ≤ (t : Int) / m := Int.ediv_nonneg (by omega) (by omega)
    have g5 := jB_up (t : Int) hm.1
    have c1 : ((t + 1 : Nat) : Int) = (t : Int) + 1 := by omega
    have nx : ∀ b : Bool, decide (0 < jst m r t v) = b → jtC (fun x => decide (0 < jst m r x v)) 0 (t + 1) = jtC (fun x => decide (0 < jst m r x v)) 0 t + (if b then 1 else 0) := by
      intro b hb
      show jtC _ 0 t + (if decide (0 < jst m r (0 + (t : Int)) v) = true then 1 else 0) = _
      rw [Int.zero_add, hb]
    have qt : ¬ ((t : Int) % m = 0 ∨ (v = 1 ∧ (t : Int) % m = m / 2)) → jtC (fun x => decide (0 < jst m r x v)) 0 (t + 1) = jtC (fun x => decide (0 < jst m r x v)) 0 t := by
      intro hc
      rw [nx false (decide_eq_false (by unfold jst; rw [if_neg (by omega), if_neg (by omega)]; omega))]
      simp
    have sk : ((t : Int) % m = 0 ∨ (v = 1 ∧ (t : Int) % m = m / 2)) → 0 < jst m r t v := by
      intro hc
      unfold jst
      repeat' split
      all_goals omega
    have h27 : ∀ (h2 : si_H) (ls2 : si_L), az_HI P az_tb h2 → az_same_out jm_sk h h2 → (∀ (i : Nat) (k : Int), 0 ≤ k → ja h2 i k = ja h i k) → ((t : Int) % m = 0 ∨ (v = 1 ∧ (t : Int) % m = m / 2)) → jR P ls2 0 60 → jI ls2 1 v → jI ls2 2 t → az_X P d 289 27 ls2 [] h2 (skR P h0 m r v y) := by
      intro h2 ls2 hH2 hs2 fr2 hc m0 m1 m2
      have b := ja_bd hH2 (i := 60) (k := 58) rfl
      have b1 : 0 ≤ ja h2 60 58 := b.1
      have e58 : ja h2 60 58 = ja h 60 58 := fr2 _ _ (by omega)
      have b2 : jB m t ≤ 47 := by
        unfold jB
        split <;> split <;> omega
      have hpos := sk hc
      have hat := jtC_at (m := m) (r := r) (v := v) hw hm.1 hr.1 (by omega) t hpos
      have hn1 := nx true (decide_eq_true hpos)
      rw [if_pos rfl] at hn1
      apply sx_sk2 hxa (by omega) hH2 (m := m) (r := r) (y := y) (v := v) (t := t) (s := ja h2 60 58) hm hr (by omega) hv (by omega) (by omega) ((fr2 _ _ (by omega)).trans t7) ((fr2 _ _ (by omega)).trans t8) ((fr2 _ _ (by omega)).trans t9) rfl m0 m1 m2
      intro τ h3 ls3 e0 e1 e2 e3 e4 e5 hH3 hs3 fr3 iv3 fs3 nn3 t0 t1 t2 t3 t4 t5 o2 o0 o1
      have g6 := g5.2 (by omega)
      have s3 : ja h3 60 58 = ja h 60 58 + 1 := by rw [t0 58 rfl]; omega
      refine ih (t + 1) h3 ls3 (by omega) hH3 ((hs.tr hs2).tr hs3) ((t3 7 rfl).trans (by omega)) ((t4 8 rfl).trans (by omega)) ((t5 9 rfl).trans (by omega)) (by rw [s3, c1]; omega) (by rw [s3, hn1, hC]) ?_ o0 (o1.cg (by omega)) (o2.cg (by omega))
      intro i hi
      rw [s3] at hi
      by_cases hi2 : (i : Int) < ja h 60 58
      · rw [fr3 99 i (by omega) (by omega) (by omega) (by omega), fr2 _ _ (by omega)]
        exact hA i hi2
      · rw [t2 i (by omega), show (i : Int) = ja h 60 58 by omega, hC, hat]
        omega
    apply sx_sk4 hxa (by omega) hH (m := m) (r := r) (y := y) (v := v) (t := t) (a := (t : Int) % m) hm hr (by omega) hv (by omega) (by omega) (by omega) ⟨by omega, by omega, rfl⟩ t7 t8 t9 l0 l1 l2
    all_goals first
      | (intro τ h2 e0 e1 e2 e3 e4 e5 hH2 hs2 fr2 iv2 fs2
         exfalso
         omega)
      | (intro τ h2 ls2 e0 e1 e2 e3 e4 e5 hH2 hs2 fr2 iv2 fs2 nn2 t0 t1 t2 m2 m0 m1
         have q := qt (by omega)
         refine ih (t + 1) h2 ls2 (by omega) hH2 (hs.tr hs2) ((fr2 _ _ (by omega)).trans t7) ((fr2 _ _ (by omega)).trans t8) ((fr2 _ _ (by omega)).trans t9) (by rw [fr2 _ _ (by omega), c1]; omega) (by rw [fr2 _ _ (by omega), q]; exact hC) (fun i hi => ?_) m0 (m1.cg (by omega)) (m2.cg (by omega))
         rw [fr2 _ _ (by omega)] at hi
         rw [fr2 _ _ (by omega)]
         exact hA i hi)
      | (intro τ h2 ls2 e0 e1 e2 e3 e4 e5 hH2 hs2 fr2 iv2 fs2 nn2 t0 t1 t2 m0 m1 m2
         exact h27 h2 ls2 hH2 hs2 fr2 (by omega) m0 (m1.cg (by omega)) (m2.cg (by omega)))
      | (intro τ h2 ls2 e0 e1 e2 e3 e4 e5 hH2 hs2 fr2 iv2 fs2 nn2 t0 t1 t2 m2 m0 m1
         exfalso
         have e10 := nn2.1.2.2
         have e11 : (1 * τ 4 + 0 + 0) / (1 * τ 0 + 0 + 0) * (1 * τ 0 + 0 + 0) + (1 * τ 4 + 0 + 0) % (1 * τ 0 + 0 + 0) = (1 * τ 4 + 0 + 0) := Int.ediv_mul_add_emod _ _
         rw [← e10, ← nn2.2.1.2.2, show (1 * τ 6 + 0 + 0) = 0 by omega, Int.zero_mul] at e11
         omega)
end Strikes2
theorem lays2_ok {P : si_P} (hxa : P.2.1 < P.1) {d : Nat} (hd : 6 ≤ d) {h : si_H} (hH : az_HI P az_tb h) (hJ : js_J h) (v : Int32) (hv : v = 0 ∨ v = 1) : az_X P d 289 0 (lv_args 0 [.ref (P.1 + 60), .int v]) [] h (fun rv h1 => rv = none ∧ az_HI P az_tb h1 ∧ az_same_out jm_sk h h1 ∧ ja h1 60 58 = (if v.toInt = 1 then 2 * ja h 60 8 else ja h 60 8) ∧ ∀ i : Nat, (i : Int) < ja h1 60 58 → ja h1 99 i = jtof (ja h 60 7) v.toInt i) := by
  have hI : 0 ≤ v.toInt ∧ v.toInt ≤ 1 := by rcases hv with rfl | rfl <;> decide
  obtain ⟨b1, b2, b3⟩ := dial_bd hH
  have hY : ja h 60 9 = ((ja h 60 9).toNat : Nat) := by omega
  apply sx_sk0 hxa (by omega) hH (v := v.toInt) hI (ls := lv_args 0 [.ref (P.1 + 60), .int v]) rfl ⟨v, rfl, rfl⟩
  intro τ h2 ls2 e0 hH2 hs2 fr2 iv2 fs2 nn2 t0 m2 m0 m1
  have hB : jB (ja h 60 7) ((0 : Nat) : Int) = 0 := by
    unfold jB
    rw [show ((0 : Nat) : Int) = 0 from rfl, Int.zero_ediv, Int.zero_emod, if_neg (by omega), if_neg (by omega)]
    rfl
  refine (lays2_7 hxa hd (h0 := h) (y := (ja h 60 9).toNat) b1 b2 (by omega) (hJ.1.1.symm.trans hY) hI (ja h 60 9).toNat 0 h2 ls2 (by omega) hH2 hs2 (fr2 _ _ (by omega) (by omega)) (fr2 _ _ (by omega) (by omega)) ((fr2 _ _ (by omega) (by omega)).trans hY) (by rw [t0 58 rfl, hB]; omega) (by rw [t0 58 rfl]; rfl) (fun i hi => absurd hi (by rw [t0 58 rfl]; omega)) m0 (m1.cg (by omega)) m2).mono ?_
  rintro rv h1 ⟨rfl, z1, z3, z4, z5⟩
  refine ⟨rfl, z1, z3, ?_, z5⟩
  rw [z4]
  have c0 := jtw (m := ja h 60 7) (r := ja h 60 8) (v := v.toInt) (w := (ja h 60 7).toNat) (by omega) b1.1 b2.1 (fun _ => true) (ja h 60 8).toNat
  have c1 : ∀ n : Nat, jtC (fun i => (fun _ => true) (jtof (ja h 60 7) v.toInt i)) 0 n = n := by
    intro n
    induction n with
    | zero => rfl
    | succ n ih =>
      show jtC _ 0 n + (if true = true then 1 else 0) = _
      rw [ih, if_pos rfl]
      omega
  have c2 : jtC (fun x => decide (0 < jst (ja h 60 7) (ja h 60 8) x v.toInt) && (fun _ => true) x) 0 ((ja h 60 7).toNat * (ja h 60 8).toNat) = jtC (fun x => decide (0 < jst (ja h 60 7) (ja h 60 8) x v.toInt)) 0 ((ja h 60 7).toNat * (ja h 60 8).toNat) := jtC_cg _ (fun j _ => Bool.and_true _)
  rw [c2, c1] at c0
  have e1 : (ja h 60 7).toNat * (ja h 60 8).toNat = (ja h 60 9).toNat := by rw [hJ.1.1]; exact (Int.toNat_mul (by omega) (by omega)).symm
  rw [← e1, c0]
  unfold jsn
  split <;> omega
theorem rquiet_l {P : si_P} (hxa : P.2.1 < P.1) {d : Nat} {h : si_H} (hH : az_HI P az_tb h) (v : Int32) (hv : v = 0 ∨ v = 1) {m r N : Int} (hm : 4 ≤ m ∧ m ≤ 60) (hr : 2 ≤ r ∧ r ≤ 24) (hN : N = if v.toInt = 1 then 2 * r else r) (h9 : ja h 60 9 = m * r) (h58 : ja h 60 58 = N) (hA : ∀ i : Nat, (i : Int) < N → ja h 99 i = jtof m v.toInt i) : ∀ (k n : Nat) (C T : Int32) (ls : si_L), jM [(3, .int T), (2, .int C), (0, .ref (P.1 + 60)), (1, .int v)] ls → T.toInt = n → (n : Int) + k = N → C.toInt = jtM (jqg m v.toInt (m * r) N) n → az_X P (d + 1) 290 9 ls [] h (fun rv h' => h' = h ∧ jV rv (jtM (jqg m v.toInt (m * r) N) (n + k))) := by
  have hv' : v.toInt = 0 ∨ v.toInt = 1 := hv.elim (fun e => Or.inl (by rw [e]; decide)) (fun e => Or.inr (by rw [e]; decide))
  obtain ⟨⟨S, hS, eS⟩, bS⟩ := jt_ok hH (i := 60) (k := 58) rfl
  have eS' : ja h 60 58 = S.toInt := eS.symm
  obtain ⟨⟨Y, hY, eY⟩, bY⟩ := jt_ok hH (i := 60) (k := 9) rfl
  have eY' : ja h 60 9 = Y.toInt := eY.symm
  have bY' : 8 ≤ ji h 60 9 ∧ ji h 60 9 ≤ 1440 := bY
  have z1 : (1 : Int32).toInt = 1 := by decide
  have z0 : (0 : Int32).toInt = 0 := by decide
  have N2 : 2 ≤ N ∧ N ≤ 48 := by rw [hN]; split <;> omega
  have eSN : S.toInt = N := by rw [← eS', h58]
  have hS0 : S ≠ 0 := fun e => by rw [e, z0] at eSN; omega
  intro k
  induction k with
  | zero =>
    intro n C T ls hl' eT hn eC
    refine jm_iload_n (x := T) rfl rfl (jM_at hl' 0 rfl) ?_
    refine jm_aload_n (x := P.1 + 60) rfl rfl (jM_at hl' 2 rfl) ?_
    refine jx_gf (i := 60) rfl rfl hH (by decide) (hH.2 60 _ rfl).1 rfl hS ?_
    refine jx_ic (t := 67) rfl rfl rfl (fun hc14 => ?_) (fun hc14 => ?_)
    · have g14 := jc2_ge_t hc14
      refine jm_iload_n (x := C) rfl rfl (jM_at hl' 1 rfl) ?_
      refine jx_ret rfl rfl rfl ?_
      exact ⟨rfl, C, rfl, eC⟩
    · have g14 := jc2_ge_f hc14
      exact absurd eT (by omega)
  | succ k ih =>
    intro n C T ls hl' eT hn eC
    have eT1 : (T + 1).toInt = (n + 1 : Nat) := by rw [nm_add (by omega) (by omega)]; omega
    have eT2 : (T + 1).toInt = T.toInt + 1 := by rw [nm_add (by omega) (by omega), z1]
    have ex : (T + 1 - (T + 1) / S * S).toInt = (T.toInt + 1) % N := by rw [nm_rem (by omega), Int.tmod_eq_emod_of_nonneg (by omega), eT2, eSN]
    have m0 := Int.emod_nonneg (T.toInt + 1) (b := N) (by omega)
    have m1 := Int.emod_lt_of_pos (T.toInt + 1) (b := N) (by omega)
    have a1 := hA ((T.toInt + 1) % N).toNat (by omega)
    rw [Int.toNat_of_nonneg m0] at a1
    have a2 := hA n (by omega)
    rw [← eT] at a2
    have key := jqg_eq (m := m) (r := r) (v := v.toInt) (k := T.toInt) (N := N) hm.1 hr.1 hv' hN (by omega) (by omega)
    refine jm_iload_n (x := T) rfl rfl (jM_at hl' 0 rfl) ?_
    refine jm_aload_n (x := P.1 + 60) rfl rfl (jM_at hl' 2 rfl) ?_
    refine jx_gf (i := 60) rfl rfl hH (by decide) (hH.2 60 _ rfl).1 rfl hS ?_
    refine jx_ic (t := 67) rfl rfl rfl (fun hc14 => ?_) (fun hc14 => ?_)
    · have g14 := jc2_ge_t hc14
      refine jm_iload_n (x := C) rfl rfl (jM_at hl' 1 rfl) ?_
      refine jx_ret rfl rfl rfl ?_
      exact absurd eT (by omega)
    · have g14 := jc2_ge_f hc14
      refine jm_aload_n (x := P.1 + 60) rfl rfl (jM_at hl' 2 rfl) ?_
      refine jx_gf (i := 60) rfl rfl hH (by decide) (hH.2 60 _ rfl).1 rfl (jx_rf hH rfl rfl) ?_
      refine jm_iload_n (x := T) rfl rfl (jM_at hl' 0 rfl) ?_
      refine az_X_step (pc' := 23) (ls' := ls) (st' := [.int 1, .int T, .ref (P.1 + 99)]) (h' := h) rfl rfl rfl ?_
      refine az_X_step (pc' := 24) (ls' := ls) (st' := [.int (T + 1), .ref (P.1 + 99)]) (h' := h) rfl rfl rfl ?_
      refine jm_aload_n (x := P.1 + 60) rfl rfl (jM_at hl' 2 rfl) ?_
      refine jx_gf (i := 60) rfl rfl hH (by decide) (hH.2 60 _ rfl).1 rfl hS ?_
      refine jx_rem rfl rfl hS0 ?_
      refine jx_ial (i := 99) (x := (T + 1) - (T + 1) / S * S) rfl rfl hxa hH (by decide) rfl (by rw [ex]; omega) (by rw [ex]; show (T.toInt + 1) % N < ((48 : Nat) : Int); omega) (fun z29 ez29 bz29 => ?_)
      refine jm_aload_n (x := P.1 + 60) rfl rfl (jM_at hl' 2 rfl) ?_
      refine jx_gf (i := 60) rfl rfl hH (by decide) (hH.2 60 _ rfl).1 rfl (jx_rf hH rfl rfl) ?_
      refine jm_iload_n (x := T) rfl rfl (jM_at hl' 0 rfl) ?_
      refine jx_ial (i := 99) (x := T) rfl rfl hxa hH (by decide) rfl (by omega) (by show T.toInt < ((48 : Nat) : Int); omega) (fun z35 ez35 bz35 => ?_)
      have es : (z29 - z35).toInt = z29.toInt - z35.toInt := nm_sub (by omega) (by omega)
      refine az_X_step (pc' := 37) (ls' := ls) (st' := [.int (z29 - z35)]) (h' := h) rfl rfl rfl ?_
      refine jm_istore (l' := [(4, .int (z29 - z35)), (3, .int T), (2, .int C), (0, .ref (P.1 + 60)), (1, .int v)]) rfl rfl (by decide) hl' rfl rfl (fun ls37_1 hl37_1 => ?_)
      refine jm_iload_n (x := C) rfl rfl (jM_at hl37_1 2 rfl) ?_
      refine jm_iload (x := z29 - z35) rfl rfl (jM_at hl37_1 0 rfl) ?_
      refine jx_if (t := 50) rfl rfl rfl (fun hc42 => ?_) (fun hc42 => ?_)
      · have g42 := jc1_le_t hc42
        refine jm_iload (x := z29 - z35) rfl rfl (jM_at hl37_1 0 rfl) ?_
        refine jm_aload_n (x := P.1 + 60) rfl rfl (jM_at hl37_1 3 rfl) ?_
        refine jx_gf (i := 60) rfl rfl hH (by decide) (hH.2 60 _ rfl).1 rfl hY ?_
        refine az_X_step (pc' := 57) (ls' := ls37_1) (st' := [.int ((z29 - z35) + Y), .int C]) (h' := h) rfl rfl rfl ?_
        refine az_X_call (m' := 204) (as := [.int C, .int ((z29 - z35) + Y)]) (rest := []) rfl rfl rfl rfl rfl rfl ?_
        refine (rmax_ok C ((z29 - z35) + Y)).mono ?_
        rintro rv57 h57 ⟨q57, z57, rfl, ez57⟩
        subst h57
        show az_X P _ 290 60 ls37_1 [.int z57] _ _
        refine jm_istore_n (l' := [(2, .int z57), (4, .int (z29 - z35)), (3, .int T), (0, .ref (P.1 + 60)), (1, .int v)]) rfl rfl (by decide) hl37_1 rfl rfl (fun ls60_2 hl60_2 => ?_)
        refine jm_iinc (x := T) (x' := T + 1) (l' := [(3, .int (T + 1)), (2, .int z57), (4, .int (z29 - z35)), (0, .ref (P.1 + 60)), (1, .int v)]) rfl rfl (by decide) (jM_at hl60_2 2 rfl) rfl hl60_2 rfl rfl (fun ls61_3 hl61_3 => ?_)
        refine az_X_step (pc' := 9) (ls' := ls61_3) (st' := []) (h' := h) rfl rfl rfl ?_
        have e4 : (z29 - z35 + Y).toInt = (jqg m v.toInt (m * r) N) (n : Int) := by
          rw [nm_add (by rw [es]; omega) (by rw [es]; omega), es, ez29, ez35, ex, a1, a2, ← eY', h9, ← eT, key, if_neg (by rw [← a1, ← a2, ← ex, ← ez29, ← ez35, ← es]; omega)]
        have := ih (n + 1) z57 (T + 1) ls61_3 (jM_pick hl61_3 [0, 1, 3, 4] rfl) eT1 (by omega) (by rw [ez57, eC, e4]; rfl)
        rw [show n + (k + 1) = n + 1 + k by omega]
        exact this
      · have g42 := jc1_le_f hc42
        refine jm_iload (x := z29 - z35) rfl rfl (jM_at hl37_1 0 rfl) ?_
        refine az_X_step (pc' := 57) (ls' := ls37_1) (st' := [.int (z29 - z35), .int C]) (h' := h) rfl rfl rfl ?_
        refine az_X_call (m' := 204) (as := [.int C, .int (z29 - z35)]) (rest := []) rfl rfl rfl rfl rfl rfl ?_
        refine (rmax_ok C (z29 - z35)).mono ?_
        rintro rv57 h57 ⟨q57, z57, rfl, ez57⟩
        subst h57
        show az_X P _ 290 60 ls37_1 [.int z57] _ _
        refine jm_istore_n (l' := [(2, .int z57), (4, .int (z29 - z35)), (3, .int T), (0, .ref (P.1 + 60)), (1, .int v)]) rfl rfl (by decide) hl37_1 rfl rfl (fun ls60_4 hl60_4 => ?_)
        refine jm_iinc (x := T) (x' := T + 1) (l' := [(3, .int (T + 1)), (2, .int z57), (4, .int (z29 - z35)), (0, .ref (P.1 + 60)), (1, .int v)]) rfl rfl (by decide) (jM_at hl60_4 2 rfl) rfl hl60_4 rfl rfl (fun ls61_5 hl61_5 => ?_)
        refine az_X_step (pc' := 9) (ls' := ls61_5) (st' := []) (h' := h) rfl rfl rfl ?_
        have e4 : (z29 - z35).toInt = (jqg m v.toInt (m * r) N) (n : Int) := by
          rw [es, ez29, ez35, ex, a1, a2, ← eT, key, if_pos (by rw [← a1, ← a2, ← ex, ← ez29, ← ez35, ← es]; omega)]
        have := ih (n + 1) z57 (T + 1) ls61_5 (jM_pick hl61_5 [0, 1, 3, 4] rfl) eT1 (by omega) (by rw [ez57, eC, e4]; rfl)
        rw [show n + (k + 1) = n + 1 + k by omega]
        exact this
theorem quiet1_ok {P : si_P} (hxa : P.2.1 < P.1) {d : Nat} (hd : 6 ≤ d) {h : si_H} (hH : az_HI P az_tb h) (hJ : js_J h) (v : Int32) (hv : v = 0 ∨ v = 1) : az_X P (d + 1) 290 0 (lv_args 0 [.ref (P.1 + 60), .int v]) [] h (fun rv h' => az_HI P az_tb h' ∧ az_same_out jm_sk h h' ∧ jV rv (jtM (jqg (ja h 60 7) v.toInt (ja h 60 7 * ja h 60 8) (if v.toInt = 1 then 2 * ja h 60 8 else ja h 60 8)) (if v.toInt = 1 then 2 * ja h 60 8 else ja h 60 8).toNat)) := by
  obtain ⟨b1, b2, b3⟩ := dial_bd hH
  have hp : ja h 60 9 = ja h 60 7 * ja h 60 8 := hJ.1.1
  have hl' : jM [(0, .ref (P.1 + 60)), (1, .int v)] (lv_args 0 [.ref (P.1 + 60), .int v]) := jM_args [0, 1] rfl (by decide)
  generalize lv_args 0 [.ref (P.1 + 60), .int v] = ls at hl'
  refine jm_aload_n (x := P.1 + 60) rfl rfl (jM_at hl' 0 rfl) ?_
  refine jm_iload_n (x := v) rfl rfl (jM_at hl' 1 rfl) ?_
  refine az_X_call (m' := 289) (as := [.ref (P.1 + 60), .int v]) (rest := []) rfl rfl rfl rfl rfl ?_ ?_
  · unfold si_call
    dsimp only
    rw [if_pos ⟨rfl, rfl⟩]
    show (match si_ix P h (P.1 + 60) with | some i => _ | none => none) = _
    rw [jix hH (by decide)]
    dsimp only
    rw [(hH.2 60 _ rfl).1]
    rfl
  refine (lays2_ok hxa hd hH hJ v hv).mono ?_
  rintro rv2 h2 ⟨rfl, hH2, hs2, hn2, hc2⟩
  show az_X P _ 290 5 ls [] h2 _
  refine az_X_step (pc' := 6) (ls' := ls) (st' := [.int 0]) (h' := h2) rfl rfl rfl ?_
  refine jm_istore_n (l' := [(2, .int 0), (0, .ref (P.1 + 60)), (1, .int v)]) rfl rfl (by decide) hl' rfl rfl (fun ls6_1 hl6_1 => ?_)
  refine az_X_step (pc' := 8) (ls' := ls6_1) (st' := [.int 0]) (h' := h2) rfl rfl rfl ?_
  refine jm_istore_n (l' := [(3, .int 0), (2, .int 0), (0, .ref (P.1 + 60)), (1, .int v)]) rfl rfl (by decide) hl6_1 rfl rfl (fun ls8_2 hl8_2 => ?_)
  have N0 : 0 ≤ (if v.toInt = 1 then 2 * ja h 60 8 else ja h 60 8) := by split <;> omega
  have e9 : ja h2 60 9 = ja h 60 7 * ja h 60 8 := (jso hs2 (by decide)).trans hp
  refine (rquiet_l hxa hH2 v hv (m := ja h 60 7) (r := ja h 60 8) (N := if v.toInt = 1 then 2 * ja h 60 8 else ja h 60 8) b1 b2 rfl e9 hn2 (fun i hi => hc2 i (by rw [hn2]; exact hi)) (if v.toInt = 1 then 2 * ja h 60 8 else ja h 60 8).toNat 0 0 0 ls8_2 (jM_pick hl8_2 [0, 1, 2, 3] rfl) (by decide) (by omega) (by show (0 : Int32).toInt = 0; decide)).mono ?_
  rintro rv h3 ⟨q, q2⟩
  subst q
  rw [Nat.zero_add] at q2
  exact ⟨hH2, hs2, q2⟩
