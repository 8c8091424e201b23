/-! locals of which some are known -/
def jM (l : List (Nat × Value)) (ls : si_L) : Prop := ∀ q ∈ l, si_ld q.1 ls = some q.2
theorem jM_at {l : List (Nat × Value)} {ls : si_L} (h : jM l ls) (i : Nat) {k : Nat} {v : Value} (hi : l[i]? = some (k, v)) : si_ld k ls = some v := h (k, v) (List.mem_of_getElem? hi)
theorem jM_args {l : List (Nat × Value)} (ks : List Nat) (he : l.map (fun q => q.1) = ks) (hd : ks.Nodup) : jM l l := by
  subst he
  intro q hq
  induction l with
  | nil => cases hq
  | cons a r ih =>
    unfold si_ld
    rcases List.mem_cons.mp hq with rfl | hq
    · exact if_pos rfl
    · rw [List.map_cons, List.nodup_cons] at hd
      rw [if_neg]
      · exact ih hd.2 hq
      · intro e
        exact hd.1 (e ▸ List.mem_map.mpr ⟨q, hq, rfl⟩)
theorem si_ld_f {k : Nat} {v : Value} {f : Nat × Value → Bool} : ∀ {l : si_L}, (∀ w, (k, w) ∈ l → si_ld k l = some w → f (k, w) = true) → si_ld k l = some v → si_ld k (l.filter f) = some v
  | [], _, h => by cases h
  | q :: r, hf, h => by
    unfold si_ld at h
    split at h
    · rename_i e
      cases h
      have hq : f q = true := by
        have := hf q.2 (by rw [← e]; exact List.mem_cons_self) (by unfold si_ld; rw [if_pos e])
        rw [← e] at this
        exact this
      rw [List.filter_cons, if_pos hq]
      unfold si_ld
      exact if_pos e
    · rename_i e
      have ih := si_ld_f (l := r) (fun w hw hl => hf w (List.mem_cons_of_mem _ hw) (by unfold si_ld; rw [if_neg e]; exact hl)) h
      rw [List.filter_cons]
      split
      · unfold si_ld
        rw [if_neg e]
        exact ih
      · exact ih
theorem jM_st {l l' : List (Nat × Value)} {ls : si_L} {k : Nat} {v : Value} (h : jM l ls) (h' : l' = (k, v) :: l.filter (fun q => !(q.1 == k))) (hc : l.all (fun q => q.2.category == 1) = true) : jM l' (si_st1 ls k v) := by
  subst h'
  intro q hq
  unfold si_st1
  rcases List.mem_cons.mp hq with rfl | hq
  · unfold si_ld
    exact if_pos rfl
  · obtain ⟨h1, h2⟩ := List.mem_filter.mp hq
    have h3 : ¬ q.1 = k := by simpa using h2
    have h4 : q.2.category = 1 := by
      have := List.all_eq_true.mp hc q h1
      simpa using this
    unfold si_ld
    rw [if_neg (fun e => h3 e.symm)]
    refine si_ld_f (fun w hw hl => ?_) (h q h1)
    have h5 : w = q.2 := by
      have := h q h1
      rw [hl] at this
      exact Option.some.inj this
    subst h5
    simp [h3, h4]
section Jm
variable {P : si_P} {d mi pc : Nat} {y : si_M} {ls : si_L} {st : List Value} {h : si_H} {Q : Option Value → si_H → Prop} {q : Nat × Nat × Nat}
theorem jm_iload_n {k : Fin 4} {x : Int32} (hy : si_m mi = some y) (he : si_fetch mi pc = some (.iload_n k, 1, q)) (L : si_ld (k : Nat) ls = some (.int x)) (kk : az_X P d mi (pc + 1) ls (.int x :: st) h Q) : az_X P d mi pc ls st h Q := by
  refine az_X_step (pc' := pc + 1) (ls' := ls) (st' := .int x :: st) (h' := h) hy he ?_ kk
  unfold si_step
  dsimp only
  show (match si_ld (k : Nat) ls with | some v => if si_kd v 0 = true then some (pc + 1, ls, v :: st, h) else none | none => none) = _
  rw [L]
  all_goals rfl
theorem jm_iload {k : Nat} {x : Int32} (hy : si_m mi = some y) (he : si_fetch mi pc = some (.iload k, 2, q)) (L : si_ld k ls = some (.int x)) (kk : az_X P d mi (pc + 2) ls (.int x :: st) h Q) : az_X P d mi pc ls st h Q := by
  refine az_X_step (pc' := pc + 2) (ls' := ls) (st' := .int x :: st) (h' := h) hy he ?_ kk
  unfold si_step
  dsimp only
  show (match si_ld (k : Nat) ls with | some v => if si_kd v 0 = true then some (pc + 2, ls, v :: st, h) else none | none => none) = _
  rw [L]
  all_goals rfl
theorem jm_aload_n {k : Fin 4} {x : Nat} (hy : si_m mi = some y) (he : si_fetch mi pc = some (.aload_n k, 1, q)) (L : si_ld (k : Nat) ls = some (.ref x)) (kk : az_X P d mi (pc + 1) ls (.ref x :: st) h Q) : az_X P d mi pc ls st h Q := by
  refine az_X_step (pc' := pc + 1) (ls' := ls) (st' := .ref x :: st) (h' := h) hy he ?_ kk
  unfold si_step
  dsimp only
  show (match si_ld (k : Nat) ls with | some v => if si_kd v 2 = true then some (pc + 1, ls, v :: st, h) else none | none => none) = _
  rw [L]
  all_goals rfl
theorem jm_istore_n {k : Fin 4} {x : Int32} {l l' : List (Nat × Value)} (hy : si_m mi = some y) (he : si_fetch mi pc = some (.istore_n k, 1, q)) (hk : (k : Nat) + 1 ≤ y.2.2.2.1) (hl : jM l ls) (h' : l' = ((k : Nat), Value.int x) :: l.filter (fun q => !(q.1 == (k : Nat)))) (hc : l.all (fun q => q.2.category == 1) = true) (kk : ∀ ls' : si_L, jM l' ls' → az_X P d mi (pc + 1) ls' st h Q) : az_X P d mi pc ls (.int x :: st) h Q := by
  refine az_X_step (pc' := pc + 1) (ls' := si_st1 ls k (.int x)) (st' := st) (h' := h) hy he ?_ (kk _ (jM_st hl h' hc))
  unfold si_step
  dsimp only
  show (if si_kd (.int x) 0 = true ∧ (k : Nat) + (Value.int x).category ≤ y.2.2.2.1 then some (pc + 1, if (Value.int x).category = 2 then si_st2 ls k (.int x) else si_st1 ls k (.int x), st, h) else none) = _
  rw [if_pos ⟨rfl, hk⟩]
  all_goals rfl
theorem jm_istore {k : Nat} {x : Int32} {l l' : List (Nat × Value)} (hy : si_m mi = some y) (he : si_fetch mi pc = some (.istore k, 2, q)) (hk : k + 1 ≤ y.2.2.2.1) (hl : jM l ls) (h' : l' = (k, Value.int x) :: l.filter (fun q => !(q.1 == k))) (hc : l.all (fun q => q.2.category == 1) = true) (kk : ∀ ls' : si_L, jM l' ls' → az_X P d mi (pc + 2) ls' st h Q) : az_X P d mi pc ls (.int x :: st) h Q := by
  refine az_X_step (pc' := pc + 2) (ls' := si_st1 ls k (.int x)) (st' := st) (h' := h) hy he ?_ (kk _ (jM_st hl h' hc))
  unfold si_step
  dsimp only
  show (if si_kd (.int x) 0 = true ∧ (k : Nat) + (Value.int x).category ≤ y.2.2.2.1 then some (pc + 2, if (Value.int x).category = 2 then si_st2 ls k (.int x) else si_st1 ls k (.int x), st, h) else none) = _
  rw [if_pos ⟨rfl, hk⟩]
  all_goals rfl
theorem jm_iinc {k : Nat} {n : Int} {x x' : Int32} {l l' : List (Nat × Value)} (hy : si_m mi = some y) (he : si_fetch mi pc = some (.iinc k n, 3, q)) (hk : k < y.2.2.2.1) (L : si_ld k ls = some (.int x)) (hx : x + Int32.ofInt n = x') (hl : jM l ls) (h' : l' = (k, Value.int x') :: l.filter (fun q => !(q.1 == k))) (hc : l.all (fun q => q.2.category == 1) = true) (kk : ∀ ls' : si_L, jM l' ls' → az_X P d mi (pc + 3) ls' st h Q) : az_X P d mi pc ls st h Q := by
  subst hx
  refine az_X_step (pc' := pc + 3) (ls' := si_st1 ls k (.int (x + Int32.ofInt n))) (st' := st) (h' := h) hy he ?_ (kk _ (jM_st hl h' hc))
  unfold si_step
  dsimp only
  rw [if_pos ⟨rfl, hk⟩, L]
  all_goals rfl
theorem jx_ial {i n : Nat} {lo hi : Int} {x : Int32} (hy : si_m mi = some y) (he : si_fetch mi pc = some (.iaload, 1, q)) (hxa : P.2.1 < P.1) (hH : az_HI P az_tb h) (hi' : i < az_tb.length) (ht : az_tb[i]? = some (.inr (.int, n, lo, hi))) (h0 : 0 ≤ x.toInt) (h1 : x.toInt < n) (kk : ∀ z : Int32, z.toInt = ja h i x.toInt → lo ≤ z.toInt ∧ z.toInt ≤ hi → az_X P d mi (pc + 1) ls (.int z :: st) h Q) : az_X P d mi pc ls (.int x :: .ref (P.1 + i) :: st) h Q := by
  have hc : x.toNatClampNeg = x.toInt.toNat := rfl
  obtain ⟨hs, hr⟩ := hH.2 i _ ht
  have h3 := hr x.toInt.toNat (by show x.toInt.toNat < n; omega)
  unfold az_aok at h3
  rw [if_neg (fun e => by cases e)] at h3
  obtain ⟨z, hz, hz1, hz2⟩ := h3
  have hin : si_in x n = true := by
    unfold si_in
    rw [Bool.and_eq_true, decide_eq_true_eq, decide_eq_true_eq]
    exact ⟨(nm_leI 0 x).mpr (by have : (0 : Int32).toInt = 0 := by decide
                                omega), by omega⟩
  refine az_X_step (pc' := pc + 1) (ls' := ls) (st' := .int z :: st) (h' := h) hy he ?_ (kk z ?_ ⟨hz1, hz2⟩)
  · unfold si_step
    dsimp only
    rw [if_pos rfl, if_neg (show ¬ (P.1 + i = P.2.1) by omega)]
    unfold si_ald
    rw [jix hH hi']
    dsimp only
    rw [hs]
    dsimp only
    rw [if_pos ⟨hin, List.mem_singleton.mpr rfl⟩, hc, hz]
  · show z.toInt = ji h i x.toInt.toNat
    unfold ji
    rw [hz]
end Jm
/-! TOWERS -/
set_option maxRecDepth 100000
theorem jM_pick {l l' : List (Nat × Value)} {ls : si_L} (h : jM l ls) (is : List Nat) (he : is.filterMap (fun i => l[i]?) = l') : jM l' ls := by
  intro q hq
  rw [← he] at hq
  obtain ⟨i, -, hi⟩ := List.mem_filterMap.mp hq
  exact h q (List.mem_of_getElem? hi)
/-- how many of the numbers a, a + 1, .. -/
def jtC (p : Int → Bool) (a : Int) : Nat → Int
  | 0 => 0
  | n + 1 => jtC p a n + (if p (a + n) then 1 else 0)
theorem jtC_bd {p : Int → Bool} {a : Int} : ∀ n : Nat, 0 ≤ jtC p a n ∧ jtC p a n ≤ n
  | 0 => by unfold jtC; omega
  | n + 1 => by
    have i := jtC_bd (p := p) (a := a) n
    unfold jtC
    split <;> omega
theorem jtC_add {p : Int → Bool} {a : Int} (n : Nat) : ∀ k : Nat, jtC p a (n + k) = jtC p a n + jtC p (a + n) k
  | 0 => (Int.add_zero _).symm
  | k + 1 => by
    show jtC p a (n + k) + (if p (a + (n + k : Nat)) then 1 else 0) = jtC p a n + (jtC p (a + n) k + (if p (a + n + k) then 1 else 0))
    rw [jtC_add n k, show a + ((n + k : Nat) : Int) = a + n + k by omega]
    exact Int.add_assoc _ _ _
theorem jtC_cg {p q : Int → Bool} {a : Int} : ∀ n : Nat, (∀ j : Nat, j < n → p (a + j) = q (a + j)) → jtC p a n = jtC q a n
  | 0, _ => rfl
  | n + 1, h => by
    unfold jtC
    rw [jtC_cg n (fun j hj => h j (by omega)), h n (by omega)]
theorem jtC_one {q : Int → Bool} {a : Int} {c : Nat} : ∀ n : Nat, jtC (fun t => decide (t = a + c) && q t) a n = if c < n then (if q (a + c) then 1 else 0) else 0
  | 0 => by
    rw [if_neg (by omega)]
    rfl
  | n + 1 => by
    show jtC (fun t => decide (t = a + c) && q t) a n + (if (decide (a + (n : Int) = a + c) && q (a + n)) = true then 1 else 0) = _
    rw [jtC_one n]
    by_cases h : n = c
    · subst h
      rw [if_neg (by omega), if_pos (show n < n + 1 by omega), decide_eq_true rfl, Bool.true_and, Int.zero_add]
    · have e : decide (a + (n : Int) = a + c) = false := decide_eq_false (by omega)
      rw [e, Bool.false_and, if_neg (show ¬ (false = true) by decide), Int.add_zero]
      by_cases h2 : c < n
      · rw [if_pos h2, if_pos (show c < n + 1 by omega)]
      · rw [if_neg h2, if_neg (show ¬ c < n + 1 by omega)]
theorem jtC_or {p p1 p2 : Int → Bool} {a : Int} : ∀ n : Nat, (∀ j : Nat, j < n → (if p (a + j) then (1 : Int) else 0) = (if p1 (a + j) then 1 else 0) + (if p2 (a + j) then 1 else 0)) → jtC p a n = jtC p1 a n + jtC p2 a n
  | 0, _ => rfl
  | n + 1, h => by
    have i := jtC_or n (fun j hj => h j (by omega))
    have k := h n (by omega)
    unfold jtC
    rw [i, k]
    generalize (if p1 (a + n) = true then (1 : Int) else 0) = x
    generalize (if p2 (a + n) = true then (1 : Int) else 0) = y
    omega
theorem jst_blk {m r v k j : Int} (hm : 4 ≤ m) (hr : 2 ≤ r) (hk : 0 ≤ k) (hj : 0 ≤ j) (hj2 : j < m) : 0 < jst m r (m * k + j) v ↔ (j = 0 ∨ (v = 1 ∧ j = m / 2)) := by
  have e1 : (m * k + j) % m = j := by rw [Int.add_comm, Int.add_mul_emod_self_left]; exact Int.emod_eq_of_lt hj hj2
  have e2 : (m * k + j) / m = k := by rw [Int.add_comm, Int.add_mul_ediv_left _ _ (by omega), Int.ediv_eq_zero_of_lt hj hj2, Int.zero_add]
  unfold jst
  rw [e1, e2]
  repeat' split
  all_goals omega
/-- the time of a strike; how many strikes -/
def jtof (m v i : Int) : Int := if v = 1 then i / 2 * m + i % 2 * (m / 2) else i * m
def jsn (v : Int) (k : Nat) : Nat := if v = 1 then 2 * k else k
theorem jtw {m r v : Int} {w : Nat} (hw : m = w) (hm : 4 ≤ m) (hr : 2 ≤ r) (q : Int → Bool) : ∀ k : Nat, jtC (fun t => decide (0 < jst m r t v) && q t) 0 (w * k) = jtC (fun i => q (jtof m v i)) 0 (jsn v k)
  | 0 => by
    unfold jsn
    split <;> rfl
  | k + 1 => by
    have ih := jtw (r := r) (v := v) hw hm hr q k
    have eA : ((w * k : Nat) : Int) = m * k := by rw [hw]; exact Int.natCast_mul w k
    rw [Nat.mul_succ, jtC_add, ih, Int.zero_add]
    generalize ((w * k : Nat) : Int) = A at eA
    by_cases hv : v = 1
    · have e0 : jtC (fun t => decide (0 < jst m r t v) && q t) A w = jtC (fun t => decide (t = A + (0 : Nat)) && q t) A w + jtC (fun t => decide (t = A + (w / 2 : Nat)) && q t) A w := by
        apply jtC_or
        intro j hj
        have b := jst_blk (v := v) (k := k) (j := j) hm hr (by omega) (by omega) (by omega)
        rw [← eA] at b
        have d0 : decide (A + (j : Int) = A + ((0 : Nat) : Int)) = decide (j = 0) := decide_eq_decide.mpr (by omega)
        have d1 : decide (A + (j : Int) = A + ((w / 2 : Nat) : Int)) = decide (j = w / 2) := decide_eq_decide.mpr (by omega)
        have d2 : decide (0 < jst m r (A + j) v) = (decide (j = 0) || decide (j = w / 2)) := by
          rw [← Bool.decide_or]
          exact decide_eq_decide.mpr (b.trans (by omega))
        show (if (decide (0 < jst m r (A + j) v) && q (A + j)) = true then (1 : Int) else 0) = (if (decide (A + (j : Int) = A + ((0 : Nat) : Int)) && q (A + j)) = true then 1 else 0) + (if (decide (A + (j : Int) = A + ((w / 2 : Nat) : Int)) && q (A + j)) = true then 1 else 0)
        rw [d0, d1, d2]
        have hx : (decide (j = 0) && decide (j = w / 2)) = false := by
          rw [← Bool.decide_and]
          exact decide_eq_false (by omega)
        generalize decide (j = 0) = x at hx
        generalize decide (j = w / 2) = y at hx
        cases x <;> cases y <;> cases q (A + j) <;> first | rfl | exact absurd hx (by decide)
      have n1 : jsn v (k + 1) = jsn v k + 1 + 1 := by unfold jsn; rw [if_pos hv, if_pos hv]; omega
      have n0 : jsn v k = 2 * k := by unfold jsn; rw [if_pos hv]
      have f0 : jtof m v (0 + ((2 * k : Nat) : Int)) = A + ((0 : Nat) : Int) := by
        unfold jtof
        rw [if_pos hv, show (0 + ((2 * k : Nat) : Int)) / 2 = k by omega, show (0 + ((2 * k : Nat) : Int)) % 2 = 0 by omega, Int.zero_mul, eA, Int.mul_comm]
        omega
      have f1 : jtof m v (0 + ((2 * k + 1 : Nat) : Int)) = A + ((w / 2 : Nat) : Int) := by
        unfold jtof
        rw [if_pos hv, show (0 + ((2 * k + 1 : Nat) : Int)) / 2 = k by omega, show (0 + ((2 * k + 1 : Nat) : Int)) % 2 = 1 by omega, Int.one_mul, eA, Int.mul_comm]
        omega
      rw [e0, jtC_one, jtC_one, if_pos (show 0 < w by omega), if_pos (show w / 2 < w by omega), n1, n0]
      show _ = jtC (fun i => q (jtof m v i)) 0 (2 * k) + (if q (jtof m v (0 + ((2 * k : Nat) : Int))) = true then 1 else 0) + (if q (jtof m v (0 + ((2 * k + 1 : Nat) : Int))) = true then 1 else 0)
      rw [f0, f1]
      exact (Int.add_assoc _ _ _).symm
    · have e0 : jtC (fun t => decide (0 < jst m r t v) && q t) A w = jtC (fun t => decide (t = A + (0 : Nat)) && q t) A w := by
        apply jtC_cg
        intro j hj
        have b := jst_blk (v := v) (k := k) (j := j) hm hr (by omega) (by omega) (by omega)
        rw [← eA] at b
        show (decide (0 < jst m r (A + j) v) && q (A + j)) = (decide (A + (j : Int) = A + ((0 : Nat) : Int)) && q (A + j))
        rw [show decide (0 < jst m r (A + j) v) = decide (A + (j : Int) = A + ((0 : Nat) : Int)) from decide_eq_decide.mpr (b.trans (by omega))]
      have n1 : jsn v (k + 1) = jsn v k + 1 := by unfold jsn; rw [if_neg hv, if_neg hv]
      have n0 : jsn v k = k := by unfold jsn; rw [if_neg hv]
      have f0 : jtof m v (0 + (k : Int)) = A + ((0 : Nat) : Int) := by
        unfold jtof
        rw [if_neg hv, Int.zero_add, eA, Int.mul_comm]
        omega
      rw [e0, jtC_one, if_pos (show 0 < w by omega), n1, n0]
      show _ = jtC (fun i => q (jtof m v i)) 0 k + (if q (jtof m v (0 + (k : Int))) = true then 1 else 0)
      rw [f0]
/-- the most of the numbers g 0, g 1, .. (0 if none is above) -/
def jtM (g : Int → Int) : Nat → Int
  | 0 => 0
  | n + 1 => max (jtM g n) (g n)
theorem jtM_bd {g : Int → Int} {b : Int} (hb : 0 ≤ b) : ∀ n : Nat, (∀ j : Nat, j < n → g j ≤ b) → 0 ≤ jtM g n ∧ jtM g n ≤ b
  | 0, _ => ⟨Int.le_refl _, hb⟩
  | n + 1, h => by
    have i := jtM_bd (g := g) hb n (fun j hj => h j (by omega))
    have k := h n (by omega)
    unfold jtM
    omega
/-- what towers answers -/
def jtwg (m r v l : Int) (t : Int) : Int := jst m r t v + jst m r ((t - l) % (m * r)) v
def jtwq (m r v l : Int) (t : Int) : Bool := decide (0 < jst m r ((t - l) % (m * r)) v)
def jtwF (m r l v w : Int) : Int := if 0 ≤ l ∧ l < m * r ∧ (w = 0 ∨ w = 1) then (if w = 0 then jtC (fun t => decide (0 < jst m r t v) && jtwq m r v l t) 0 (m * r).toNat else jtM (jtwg m r v l) (m * r).toNat) else -1
theorem rmax_ok {P : si_P} {d : Nat} {h : si_H} (a b : Int32) : az_X P d 204 0 (lv_args 0 [.int a, .int b]) [] h (fun rv h' => h' = h ∧ jV rv (max a.toInt b.toInt)) := by
  refine az_X_step (pc' := 1) (ls' := [(0, .int a), (1, .int b)]) (st' := [.int a]) (h' := h) rfl rfl rfl ?_
  refine az_X_step (pc' := 2) (ls' := [(0, .int a), (1, .int b)]) (st' := [.int b, .int a]) (h' := h) rfl rfl rfl ?_
  refine jx_ic (t := 9) rfl rfl rfl (fun hc2 => ?_) (fun hc2 => ?_)
  · have g2 := jc2_le_t hc2
    refine az_X_step (pc' := 10) (ls' := [(0, .int a), (1, .int b)]) (st' := [.int b]) (h' := h) rfl rfl rfl ?_
    refine jx_ret rfl rfl rfl ?_
    exact ⟨rfl, b, rfl, by omega⟩
  · have g2 := jc2_le_f hc2
    refine az_X_step (pc' := 6) (ls' := [(0, .int a), (1, .int b)]) (st' := [.int a]) (h' := h) rfl rfl rfl ?_
    refine az_X_step (pc' := 10) (ls' := [(0, .int a), (1, .int b)]) (st' := [.int a]) (h' := h) rfl rfl rfl ?_
    refine jx_ret rfl rfl rfl ?_
    exact ⟨rfl, a, rfl, by omega⟩
theorem cmax_ok {P : si_P} {d : Nat} {h : si_H} (a b : Int32) : az_X P d 343 0 (lv_args 0 [.int a, .int b]) [] h (fun rv h' => h' = h ∧ jV rv (max a.toInt b.toInt)) := by
  refine az_X_step (pc' := 1) (ls' := [(0, .int a), (1, .int b)]) (st' := [.int a]) (h' := h) rfl rfl rfl ?_
  refine az_X_step (pc' := 2) (ls' := [(0, .int a), (1, .int b)]) (st' := [.int b, .int a]) (h' := h) rfl rfl rfl ?_
  refine jx_ic (t := 9) rfl rfl rfl (fun hc2 => ?_) (fun hc2 => ?_)
  · have g2 := jc2_lt_t hc2
    refine az_X_step (pc' := 10) (ls' := [(0, .int a), (1, .int b)]) (st' := [.int b]) (h' := h) rfl rfl rfl ?_
    refine jx_ret rfl rfl rfl ?_
    exact ⟨rfl, b, rfl, by omega⟩
  · have g2 := jc2_lt_f hc2
    refine az_X_step (pc' := 6) (ls' := [(0, .int a), (1, .int b)]) (st' := [.int a]) (h' := h) rfl rfl rfl ?_
    refine az_X_step (pc' := 10) (ls' := [(0, .int a), (1, .int b)]) (st' := [.int a]) (h' := h) rfl rfl rfl ?_
    refine jx_ret rfl rfl rfl ?_
    exact ⟨rfl, a, rfl, by omega⟩
theorem ctwo_ok {P : si_P} {d : Nat} {h : si_H} (a : Int32) : az_X P d 188 0 (lv_args 0 [.int a]) [] h (fun rv h' => h' = h ∧ ∃ z : Int32, rv = some (.int z) ∧ ((z.toInt = 1 ∧ (a.toInt = 0 ∨ a.toInt = 1)) ∨ (z.toInt = 0 ∧ a.toInt ≠ 0 ∧ a.toInt ≠ 1))) := by
  have z0 : (0 : Int32).toInt = 0 := by decide
  have z1 : (1 : Int32).toInt = 1 := by decide
  refine az_X_step (pc' := 1) (ls' := [(0, .int a)]) (st' := [.int a]) (h' := h) rfl rfl rfl ?_
  refine jx_if (t := 9) rfl rfl rfl (fun hc1 => ?_) (fun hc1 => ?_)
  · have g1 := jc1_eq_t hc1
    refine az_X_step (pc' := 10) (ls' := [(0, .int a)]) (st' := [.int 1]) (h' := h) rfl rfl rfl ?_
    refine az_X_step (pc' := 14) (ls' := [(0, .int a)]) (st' := [.int 1]) (h' := h) rfl rfl rfl ?_
    refine jx_retz rfl rfl rfl (by decide) ?_
    exact ⟨rfl, 1, rfl, by omega⟩
  · have g1 := jc1_eq_f hc1
    refine az_X_step (pc' := 5) (ls' := [(0, .int a)]) (st' := [.int a]) (h' := h) rfl rfl rfl ?_
    refine az_X_step (pc' := 6) (ls' := [(0, .int a)]) (st' := [.int 1, .int a]) (h' := h) rfl rfl rfl ?_
    refine jx_ic (t := 13) rfl rfl rfl (fun hc6 => ?_) (fun hc6 => ?_)
    · have g6 := jc2_ne_t hc6
      refine az_X_step (pc' := 14) (ls' := [(0, .int a)]) (st' := [.int 0]) (h' := h) rfl rfl rfl ?_
      refine jx_retz rfl rfl rfl (by decide) ?_
      exact ⟨rfl, 0, rfl, by omega⟩
    · have g6 := jc2_ne_f hc6
      refine az_X_step (pc' := 10) (ls' := [(0, .int a)]) (st' := [.int 1]) (h' := h) rfl rfl rfl ?_
      refine az_X_step (pc' := 14) (ls' := [(0, .int a)]) (st' := [.int 1]) (h' := h) rfl rfl rfl ?_
      refine jx_retz rfl rfl rfl (by decide) ?_
      exact ⟨rfl, 1, rfl, by omega⟩
theorem tround_ok {P : si_P} {d : Nat} {h : si_H} (hH : az_HI P az_tb h) : az_X P d 73 0 (lv_args 0 [.ref (P.1 + 1)]) [] h (fun rv h' => h' = h ∧ jV rv (ja h 1 0 * ja h 1 1)) := by
  obtain ⟨⟨M, hM, eM⟩, bM⟩ := jt_ok hH (i := 1) (k := 0) rfl
  obtain ⟨⟨R, hR, eR⟩, bR⟩ := jt_ok hH (i := 1) (k := 1) rfl
  have eM' : ja h 1 0 = M.toInt := eM.symm
  have eR' : ja h 1 1 = R.toInt := eR.symm
  have b1 : 4 ≤ ji h 1 0 ∧ ji h 1 0 ≤ 60 := bM
  have b2 : 2 ≤ ji h 1 1 ∧ ji h 1 1 ≤ 24 := bR
  rw [eM', eR']
  have bp := nm_mulnn (a := 4) (b := 60) (c := 2) (d := 24) (x := M.toInt) (y := R.toInt) (by decide) (by decide) (by omega) (by omega) (by omega) (by omega)
  have ep : (M * R).toInt = M.toInt * R.toInt := nm_mul (by omega) (by omega)
  refine az_X_step (pc' := 1) (ls' := [(0, .ref (P.1 + 1))]) (st' := [.ref (P.1 + 1)]) (h' := h) rfl rfl rfl ?_
  refine jx_gf (i := 1) rfl rfl hH (by decide) (hH.2 1 _ rfl).1 rfl hM ?_
  refine az_X_step (pc' := 5) (ls' := [(0, .ref (P.1 + 1))]) (st' := [.ref (P.1 + 1), .int M]) (h' := h) rfl rfl rfl ?_
  refine jx_gf (i := 1) rfl rfl hH (by decide) (hH.2 1 _ rfl).1 rfl hR ?_
  refine az_X_step (pc' := 9) (ls' := [(0, .ref (P.1 + 1))]) (st' := [.int (M * R)]) (h' := h) rfl rfl rfl ?_
  refine jx_ret rfl rfl rfl ?_
  exact ⟨rfl, M * R, rfl, ep⟩
theorem taround_ok {P : si_P} {d : Nat} {h : si_H} (hH : az_HI P az_tb h) (t : Int32) : az_X P (d + 1) 75 0 (lv_args 0 [.ref (P.1 + 1), .int t]) [] h (fun rv h' => h' = h ∧ jV rv (t.toInt % (ja h 1 0 * ja h 1 1))) := by
  obtain ⟨⟨M, hM, eM⟩, bM⟩ := jt_ok hH (i := 1) (k := 0) rfl
  obtain ⟨⟨R, hR, eR⟩, bR⟩ := jt_ok hH (i := 1) (k := 1) rfl
  have eM' : ja h 1 0 = M.toInt := eM.symm
  have eR' : ja h 1 1 = R.toInt := eR.symm
  have b1 : 4 ≤ ji h 1 0 ∧ ji h 1 0 ≤ 60 := bM
  have b2 : 2 ≤ ji h 1 1 ∧ ji h 1 1 ≤ 24 := bR
  rw [eM', eR']
  have bp := nm_mulnn (a := 4) (b := 60) (c := 2) (d := 24) (x := M.toInt) (y := R.toInt) (by decide) (by decide) (by omega) (by omega) (by omega) (by omega)
  have ep : (M * R).toInt = M.toInt * R.toInt := nm_mul (by omega) (by omega)
  refine az_X_step (pc' := 1) (ls' := [(0, .ref (P.1 + 1)), (1, .int t)]) (st' := [.int t]) (h' := h) rfl rfl rfl ?_
  refine az_X_step (pc' := 2) (ls' := [(0, .ref (P.1 + 1)), (1, .int t)]) (st' := [.ref (P.1 + 1), .int t]) (h' := h) rfl rfl rfl ?_
  refine jx_gf (i := 1) rfl rfl hH (by decide) (hH.2 1 _ rfl).1 rfl hM ?_
  refine az_X_step (pc' := 6) (ls' := [(0, .ref (P.1 + 1)), (1, .int t)]) (st' := [.ref (P.1 + 1), .int M, .int t]) (h' := h) rfl rfl rfl ?_
  refine jx_gf (i := 1) rfl rfl hH (by decide) (hH.2 1 _ rfl).1 rfl hR ?_
  refine az_X_step (pc' := 10) (ls' := [(0, .ref (P.1 + 1)), (1, .int t)]) (st' := [.int (M * R), .int t]) (h' := h) rfl rfl rfl ?_
  refine az_X_call (m' := 200) (as := [.int t, .int (M * R)]) (rest := []) rfl rfl rfl rfl rfl rfl ?_
  refine (modulo_ok t (M * R) (by omega)).mono ?_
  rintro rv10 h10 ⟨q10, z10, rfl, ez10⟩
  subst h10
  show az_X P _ 75 13 [(0, .ref (P.1 + 1)), (1, .int t)] [.int z10] _ _
  refine jx_ret rfl rfl rfl ?_
  exact ⟨rfl, z10, rfl, by rw [← ep]; exact ez10⟩
theorem smany_ok {P : si_P} {d : Nat} {h : si_H} (hH : az_HI P az_tb h) (v : Int32) (hv : v = 0 ∨ v = 1) : az_X P d 15 0 (lv_args 0 [.ref (P.1 + 5), .int v]) [] h (fun rv h' => h' = h ∧ jV rv (if v.toInt = 1 then 2 * ja h 1 1 else ja h 1 1)) := by
  obtain ⟨⟨M, hM, eM⟩, bM⟩ := jt_ok hH (i := 1) (k := 0) rfl
  obtain ⟨⟨R, hR, eR⟩, bR⟩ := jt_ok hH (i := 1) (k := 1) rfl
  have eM' : ja h 1 0 = M.toInt := eM.symm
  have eR' : ja h 1 1 = R.toInt := eR.symm
  have b1 : 4 ≤ ji h 1 0 ∧ ji h 1 0 ≤ 60 := bM
  have b2 : 2 ≤ ji h 1 1 ∧ ji h 1 1 ≤ 24 := bR
  rw [eR']
  have bp := nm_mulnn (a := 4) (b := 60) (c := 2) (d := 24) (x := M.toInt) (y := R.toInt) (by decide) (by decide) (by omega) (by omega) (by omega) (by omega)
  have ep : (M * R).toInt = M.toInt * R.toInt := nm_mul (by omega) (by omega)
  have hv' : v.toInt = 0 ∨ v.toInt = 1 := hv.elim (fun e => Or.inl (by rw [e]; decide)) (fun e => Or.inr (by rw [e]; decide))
  have z2 : (2 : Int32).toInt = 2 := by decide
  have e2 : (2 * R).toInt = 2 * R.toInt := by rw [nm_mul (by rw [z2]; omega) (by rw [z2]; omega), z2]
  refine az_X_step (pc' := 1) (ls' := [(0, .ref (P.1 + 5)), (1, .int v)]) (st' := [.int v]) (h' := h) rfl rfl rfl ?_
  refine jx_if (t := 16) rfl rfl rfl (fun hc1 => ?_) (fun hc1 => ?_)
  · have g1 := jc1_eq_t hc1
    refine az_X_step (pc' := 17) (ls' := [(0, .ref (P.1 + 5)), (1, .int v)]) (st' := [.ref (P.1 + 5)]) (h' := h) rfl rfl rfl ?_
    refine jx_gf (i := 5) rfl rfl hH (by decide) (hH.2 5 _ rfl).1 rfl (jx_rf hH rfl rfl) ?_
    refine jx_gf (i := 1) rfl rfl hH (by decide) (hH.2 1 _ rfl).1 rfl hR ?_
    refine jx_ret rfl rfl rfl ?_
    exact ⟨rfl, R, rfl, by split <;> omega⟩
  · have g1 := jc1_eq_f hc1
    refine az_X_step (pc' := 5) (ls' := [(0, .ref (P.1 + 5)), (1, .int v)]) (st' := [.int 2]) (h' := h) rfl rfl rfl ?_
    refine az_X_step (pc' := 6) (ls' := [(0, .ref (P.1 + 5)), (1, .int v)]) (st' := [.ref (P.1 + 5), .int 2]) (h' := h) rfl rfl rfl ?_
    refine jx_gf (i := 5) rfl rfl hH (by decide) (hH.2 5 _ rfl).1 rfl (jx_rf hH rfl rfl) ?_
    refine jx_gf (i := 1) rfl rfl hH (by decide) (hH.2 1 _ rfl).1 rfl hR ?_
    refine az_X_step (pc' := 13) (ls' := [(0, .ref (P.1 + 5)), (1, .int v)]) (st' := [.int (2 * R)]) (h' := h) rfl rfl rfl ?_
    refine az_X_step (pc' := 23) (ls' := [(0, .ref (P.1 + 5)), (1, .int v)]) (st' := [.int (2 * R)]) (h' := h) rfl rfl rfl ?_
    refine jx_ret rfl rfl rfl ?_
    exact ⟨rfl, 2 * R, rfl, by split <;> omega⟩
theorem tof_ok {P : si_P} {d : Nat} {h : si_H} (hH : az_HI P az_tb h) (i v : Int32) (hv : v = 0 ∨ v = 1) (hi : 0 ≤ i.toInt) (hi2 : i.toInt < (if v.toInt = 1 then 2 * ja h 1 1 else ja h 1 1)) : az_X P (d + 1) 16 0 (lv_args 0 [.ref (P.1 + 5), .int i, .int v]) [] h (fun rv h' => h' = h ∧ jV rv (jtof (ja h 1 0) v.toInt i.toInt)) := by
  obtain ⟨⟨M, hM, eM⟩, bM⟩ := jt_ok hH (i := 1) (k := 0) rfl
  obtain ⟨⟨R, hR, eR⟩, bR⟩ := jt_ok hH (i := 1) (k := 1) rfl
  have eM' : ja h 1 0 = M.toInt := eM.symm
  have eR' : ja h 1 1 = R.toInt := eR.symm
  have b1 : 4 ≤ ji h 1 0 ∧ ji h 1 0 ≤ 60 := bM
  have b2 : 2 ≤ ji h 1 1 ∧ ji h 1 1 ≤ 24 := bR
  have bp := nm_mulnn (a := 4) (b := 60) (c := 2) (d := 24) (x := M.toInt) (y := R.toInt) (by decide) (by decide) (by omega) (by omega) (by omega) (by omega)
  have ep : (M * R).toInt = M.toInt * R.toInt := nm_mul (by omega) (by omega)
  have hv' : v.toInt = 0 ∨ v.toInt = 1 := hv.elim (fun e => Or.inl (by rw [e]; decide)) (fun e => Or.inr (by rw [e]; decide))
  have z2 : (2 : Int32).toInt = 2 := by decide
  have i48 : i.toInt ≤ 48 := by split at hi2 <;> omega
  have eh : (M / 2).toInt = M.toInt / 2 := by rw [nm_div (by decide), nm_tdiv_nn (by omega), z2]
  refine az_X_step (pc' := 1) (ls' := [(0, .ref (P.1 + 5)), (1, .int i), (2, .int v)]) (st' := [.int i]) (h' := h) rfl rfl rfl ?_
  refine az_X_step (pc' := 2) (ls' := [(0, .ref (P.1 + 5)), (1, .int i), (2, .int v)]) (st' := [.ref (P.1 + 5), .int i]) (h' := h) rfl rfl rfl ?_
  refine az_X_step (pc' := 3) (ls' := [(0, .ref (P.1 + 5)), (1, .int i), (2, .int v)]) (st' := [.int v, .ref (P.1 + 5), .int i]) (h' := h) rfl rfl rfl ?_
  refine az_X_call (m' := 15) (as := [.ref (P.1 + 5), .int v]) (rest := [.int i]) rfl rfl rfl rfl rfl ?_ ?_
  · unfold si_call
    dsimp only
    rw [if_pos ⟨rfl, rfl⟩]
    show (match si_ix P h (P.1 + 5) with | some i => _ | none => none) = _
    rw [jix hH (by decide)]
    dsimp only
    rw [(hH.2 5 _ rfl).1]
    rfl
  refine (smany_ok hH v hv).mono ?_
  rintro rv3 h3 ⟨q3, z3, rfl, ez3⟩
  subst h3
  show az_X P _ 16 6 [(0, .ref (P.1 + 5)), (1, .int i), (2, .int v)] [.int z3, .int i] _ _
  refine az_X_call (m' := 200) (as := [.int i, .int z3]) (rest := []) rfl rfl rfl rfl rfl rfl ?_
  refine (modulo_ok i z3 (by rw [ez3]; split <;> omega)).mono ?_
  rintro rv6 h6 ⟨q6, z6, rfl, ez6⟩
  subst h6
  have ej : z6.toInt = i.toInt := by rw [ez6]; exact Int.emod_eq_of_lt hi (by rw [ez3]; exact hi2)
  show az_X P _ 16 9 [(0, .ref (P.1 + 5)), (1, .int i), (2, .int v)] [.int z6] _ _
  refine az_X_step (pc' := 10) (ls' := [(3, .int z6), (0, .ref (P.1 + 5)), (1, .int i), (2, .int v)]) (st' := []) (h' := h) rfl rfl rfl ?_
  refine az_X_step (pc' := 11) (ls' := [(3, .int z6), (0, .ref (P.1 + 5)), (1, .int i), (2, .int v)]) (st' := [.int v]) (h' := h) rfl rfl rfl ?_
  refine jx_if (t := 24) rfl rfl rfl (fun hc11 => ?_) (fun hc11 => ?_)
  · have g11 := jc1_ne_t hc11
    refine az_X_step (pc' := 25) (ls' := [(3, .int z6), (0, .ref (P.1 + 5)), (1, .int i), (2, .int v)]) (st' := [.int z6]) (h' := h) rfl rfl rfl ?_
    refine az_X_step (pc' := 26) (ls' := [(3, .int z6), (0, .ref (P.1 + 5)), (1, .int i), (2, .int v)]) (st' := [.int 2, .int z6]) (h' := h) rfl rfl rfl ?_
    refine jx_div rfl rfl (by decide) ?_
    refine az_X_step (pc' := 28) (ls' := [(3, .int z6), (0, .ref (P.1 + 5)), (1, .int i), (2, .int v)]) (st' := [.ref (P.1 + 5), .int (z6 / 2)]) (h' := h) rfl rfl rfl ?_
    refine jx_gf (i := 5) rfl rfl hH (by decide) (hH.2 5 _ rfl).1 rfl (jx_rf hH rfl rfl) ?_
    refine jx_gf (i := 1) rfl rfl hH (by decide) (hH.2 1 _ rfl).1 rfl hM ?_
    refine az_X_step (pc' := 35) (ls' := [(3, .int z6), (0, .ref (P.1 + 5)), (1, .int i), (2, .int v)]) (st' := [.int ((z6 / 2) * M)]) (h' := h) rfl rfl rfl ?_
    refine az_X_step (pc' := 36) (ls' := [(3, .int z6), (0, .ref (P.1 + 5)), (1, .int i), (2, .int v)]) (st' := [.int z6, .int ((z6 / 2) * M)]) (h' := h) rfl rfl rfl ?_
    refine az_X_step (pc' := 37) (ls' := [(3, .int z6), (0, .ref (P.1 + 5)), (1, .int i), (2, .int v)]) (st' := [.int 2, .int z6, .int ((z6 / 2) * M)]) (h' := h) rfl rfl rfl ?_
    refine jx_rem rfl rfl (by decide) ?_
    refine az_X_step (pc' := 39) (ls' := [(3, .int z6), (0, .ref (P.1 + 5)), (1, .int i), (2, .int v)]) (st' := [.ref (P.1 + 5), .int (z6 - z6 / 2 * 2), .int ((z6 / 2) * M)]) (h' := h) rfl rfl rfl ?_
    refine jx_gf (i := 5) rfl rfl hH (by decide) (hH.2 5 _ rfl).1 rfl (jx_rf hH rfl rfl) ?_
    refine jx_gf (i := 1) rfl rfl hH (by decide) (hH.2 1 _ rfl).1 rfl hM ?_
    refine az_X_step (pc' := 46) (ls' := [(3, .int z6), (0, .ref (P.1 + 5)), (1, .int i), (2, .int v)]) (st' := [.int 2, .int M, .int (z6 - z6 / 2 * 2), .int ((z6 / 2) * M)]) (h' := h) rfl rfl rfl ?_
    refine jx_div rfl rfl (by decide) ?_
    refine az_X_step (pc' := 48) (ls' := [(3, .int z6), (0, .ref (P.1 + 5)), (1, .int i), (2, .int v)]) (st' := [.int ((z6 - z6 / 2 * 2) * (M / 2)), .int ((z6 / 2) * M)]) (h' := h) rfl rfl rfl ?_
    refine az_X_step (pc' := 49) (ls' := [(3, .int z6), (0, .ref (P.1 + 5)), (1, .int i), (2, .int v)]) (st' := [.int (((z6 / 2) * M) + ((z6 - z6 / 2 * 2) * (M / 2)))]) (h' := h) rfl rfl rfl ?_
    refine jx_ret rfl rfl rfl ?_
    exact ⟨rfl, ((z6 / 2) * M) + ((z6 - z6 / 2 * 2) * (M / 2)), rfl, by
      have q1 : (z6 / 2).toInt = i.toInt / 2 := by rw [nm_div (by decide), nm_tdiv_nn (by omega), z2, ej]
      have q2 : (z6 - z6 / 2 * 2).toInt = i.toInt % 2 := by rw [nm_rem (by decide), z2, Int.tmod_eq_emod_of_nonneg (by omega), ej]
      have m1 := nm_mulnn (a := 0) (b := 24) (c := 4) (d := 60) (x := i.toInt / 2) (y := M.toInt) (by decide) (by decide) (by omega) (by omega) (by omega) (by omega)
      have m2 := nm_mulnn (a := 0) (b := 1) (c := 2) (d := 30) (x := i.toInt % 2) (y := M.toInt / 2) (by decide) (by decide) (by omega) (by omega) (by omega) (by omega)
      have p1 : (z6 / 2 * M).toInt = i.toInt / 2 * M.toInt := by rw [nm_mul (by rw [q1]; omega) (by rw [q1]; omega), q1]
      have p2 : ((z6 - z6 / 2 * 2) * (M / 2)).toInt = i.toInt % 2 * (M.toInt / 2) := by rw [nm_mul (by rw [q2, eh]; omega) (by rw [q2, eh]; omega), q2, eh]
      rw [nm_add (by rw [p1, p2]; omega) (by rw [p1, p2]; omega), p1, p2, eM']
      unfold jtof
      rw [if_pos (by omega)]⟩
  · have g11 := jc1_ne_f hc11
    refine az_X_step (pc' := 15) (ls' := [(3, .int z6), (0, .ref (P.1 + 5)), (1, .int i), (2, .int v)]) (st' := [.int z6]) (h' := h) rfl rfl rfl ?_
    refine az_X_step (pc' := 16) (ls' := [(3, .int z6), (0, .ref (P.1 + 5)), (1, .int i), (2, .int v)]) (st' := [.ref (P.1 + 5), .int z6]) (h' := h) rfl rfl rfl ?_
    refine jx_gf (i := 5) rfl rfl hH (by decide) (hH.2 5 _ rfl).1 rfl (jx_rf hH rfl rfl) ?_
    refine jx_gf (i := 1) rfl rfl hH (by decide) (hH.2 1 _ rfl).1 rfl hM ?_
    refine az_X_step (pc' := 23) (ls' := [(3, .int z6), (0, .ref (P.1 + 5)), (1, .int i), (2, .int v)]) (st' := [.int (z6 * M)]) (h' := h) rfl rfl rfl ?_
    refine jx_ret rfl rfl rfl ?_
    exact ⟨rfl, z6 * M, rfl, by
      have m1 := nm_mulnn (a := 0) (b := 48) (c := 4) (d := 60) (x := z6.toInt) (y := M.toInt) (by decide) (by decide) (by omega) (by omega) (by omega) (by omega)
      rw [nm_mul (by omega) (by omega), ej, eM']
      unfold jtof
      rw [if_neg (by omega)]⟩
theorem both_l {P : si_P} {d : Nat} {h : si_H} (hH : az_HI P az_tb h) (l v K : Int32) (hv : v = 0 ∨ v = 1) (hl : 0 ≤ l.toInt ∧ l.toInt ≤ 1440) (hK : K.toInt = if v.toInt = 1 then 2 * ja h 1 1 else ja h 1 1) : ∀ (k n : Nat) (C T : Int32) (ls : si_L), jM [(5, .int T), (4, .int C), (3, .int K), (0, .ref (P.1 + 5)), (1, .int l), (2, .int v)] ls → T.toInt = n → (n : Int) + k = K.toInt → C.toInt = jtC (fun i => jtwq (ja h 1 0) (ja h 1 1) v.toInt l.toInt (jtof (ja h 1 0) v.toInt i)) 0 n → az_X P (d + 2) 26 12 ls [] h (fun rv h' => h' = h ∧ jV rv (jtC (fun i => jtwq (ja h 1 0) (ja h 1 1) v.toInt l.toInt (jtof (ja h 1 0) v.toInt i)) 0 (n + k))) := by
  obtain ⟨⟨M, hM, eM⟩, bM⟩ := jt_ok hH (i := 1) (k := 0) rfl
  obtain ⟨⟨R, hR, eR⟩, bR⟩ := jt_ok hH (i := 1) (k := 1) rfl
  have eM' : ja h 1 0 = M.toInt := eM.symm
  have eR' : ja h 1 1 = R.toInt := eR.symm
  have b1 : 4 ≤ ji h 1 0 ∧ ji h 1 0 ≤ 60 := bM
  have b2 : 2 ≤ ji h 1 1 ∧ ji h 1 1 ≤ 24 := bR
  have bp := nm_mulnn (a := 4) (b := 60) (c := 2) (d := 24) (x := M.toInt) (y := R.toInt) (by decide) (by decide) (by omega) (by omega) (by omega) (by omega)
  have ep : (M * R).toInt = M.toInt * R.toInt := nm_mul (by omega) (by omega)
  have hv' : v.toInt = 0 ∨ v.toInt = 1 := hv.elim (fun e => Or.inl (by rw [e]; decide)) (fun e => Or.inr (by rw [e]; decide))
  have z1 : (1 : Int32).toInt = 1 := by decide
  have K48 : K.toInt ≤ 48 := by rw [hK]; split <;> omega
  intro k
  induction k with
  | zero =>
    intro n C T ls hl' eT hn eC
    refine jm_iload (x := T) rfl rfl (jM_at hl' 0 rfl) ?_
    refine jm_iload_n (x := K) rfl rfl (jM_at hl' 2 rfl) ?_
    refine jx_ic (t := 51) rfl rfl rfl (fun hc15 => ?_) (fun hc15 => ?_)
    · have g15 := jc2_ge_t hc15
      refine jm_iload (x := C) rfl rfl (jM_at hl' 1 rfl) ?_
      refine jx_ret rfl rfl rfl ?_
      exact ⟨rfl, C, rfl, eC⟩
    · have g15 := jc2_ge_f hc15
      exact absurd eT (by omega)
  | succ k ih =>
    intro n C T ls hl' eT hn eC
    have bd := jtC_bd (p := fun i => jtwq (ja h 1 0) (ja h 1 1) v.toInt l.toInt (jtof (ja h 1 0) v.toInt i)) (a := 0) n
    have eT1 : (T + 1).toInt = (n + 1 : Nat) := by rw [nm_add (by omega) (by omega)]; omega
    have bt : 0 ≤ jtof (ja h 1 0) v.toInt T.toInt ∧ jtof (ja h 1 0) v.toInt T.toInt ≤ 10000 := by
      have m1 := nm_mulnn (a := 0) (b := 48) (c := 4) (d := 60) (x := T.toInt) (y := M.toInt) (by decide) (by decide) (by omega) (by omega) (by omega) (by omega)
      have m2 := nm_mulnn (a := 0) (b := 24) (c := 4) (d := 60) (x := T.toInt / 2) (y := M.toInt) (by decide) (by decide) (by omega) (by omega) (by omega) (by omega)
      have m3 := nm_mulnn (a := 0) (b := 1) (c := 2) (d := 30) (x := T.toInt % 2) (y := M.toInt / 2) (by decide) (by decide) (by omega) (by omega) (by omega) (by omega)
      rw [eM']
      unfold jtof
      split <;> omega
    have nx : ∀ b : Bool, jtwq (ja h 1 0) (ja h 1 1) v.toInt l.toInt (jtof (ja h 1 0) v.toInt T.toInt) = b → jtC (fun i => jtwq (ja h 1 0) (ja h 1 1) v.toInt l.toInt (jtof (ja h 1 0) v.toInt i)) 0 (n + 1) = C.toInt + (if b then 1 else 0) := by
      intro b hb
      show jtC _ 0 n + (if jtwq (ja h 1 0) (ja h 1 1) v.toInt l.toInt (jtof (ja h 1 0) v.toInt (0 + (n : Int))) = true then 1 else 0) = _
      rw [show (0 + (n : Int)) = T.toInt by omega, hb, eC]
    refine jm_iload (x := T) rfl rfl (jM_at hl' 0 rfl) ?_
    refine jm_iload_n (x := K) rfl rfl (jM_at hl' 2 rfl) ?_
    refine jx_ic (t := 51) rfl rfl rfl (fun hc15 => ?_) (fun hc15 => ?_)
    · have g15 := jc2_ge_t hc15
      refine jm_iload (x := C) rfl rfl (jM_at hl' 1 rfl) ?_
      refine jx_ret rfl rfl rfl ?_
      exact absurd eT (by omega)
    · have g15 := jc2_ge_f hc15
      refine jm_aload_n (x := P.1 + 5) rfl rfl (jM_at hl' 3 rfl) ?_
      refine jm_aload_n (x := P.1 + 5) rfl rfl (jM_at hl' 3 rfl) ?_
      refine jx_gf (i := 5) rfl rfl hH (by decide) (hH.2 5 _ rfl).1 rfl (jx_rf hH rfl rfl) ?_
      refine jm_aload_n (x := P.1 + 5) rfl rfl (jM_at hl' 3 rfl) ?_
      refine jm_iload (x := T) rfl rfl (jM_at hl' 0 rfl) ?_
      refine jm_iload_n (x := v) rfl rfl (jM_at hl' 5 rfl) ?_
      refine az_X_call (m' := 16) (as := [.ref (P.1 + 5), .int T, .int v]) (rest := [.ref (P.1 + 1), .ref (P.1 + 5)]) rfl rfl rfl rfl rfl ?_ ?_
      · unfold si_call
        dsimp only
        rw [if_pos ⟨rfl, rfl⟩]
        show (match si_ix P h (P.1 + 5) with | some i => _ | none => none) = _
        rw [jix hH (by decide)]
        dsimp only
        rw [(hH.2 5 _ rfl).1]
        rfl
      refine (tof_ok hH T v hv (by omega) (by rw [← hK]; omega)).mono ?_
      rintro rv27 h27 ⟨q27, z27, rfl, ez27⟩
      subst h27
      have es : (z27 - l).toInt = z27.toInt - l.toInt := nm_sub (by rw [ez27]; omega) (by rw [ez27]; omega)
      show az_X P _ 26 30 ls [.int z27, .ref (P.1 + 1), .ref (P.1 + 5)] _ _
      refine jm_iload_n (x := l) rfl rfl (jM_at hl' 4 rfl) ?_
      refine az_X_step (pc' := 32) (ls' := ls) (st' := [.int (z27 - l), .ref (P.1 + 1), .ref (P.1 + 5)]) (h' := h) rfl rfl rfl ?_
      refine az_X_call (m' := 75) (as := [.ref (P.1 + 1), .int (z27 - l)]) (rest := [.ref (P.1 + 5)]) rfl rfl rfl rfl rfl ?_ ?_
      · unfold si_call
        dsimp only
        rw [if_pos ⟨rfl, rfl⟩]
        show (match si_ix P h (P.1 + 1) with | some i => _ | none => none) = _
        rw [jix hH (by decide)]
        dsimp only
        rw [(hH.2 1 _ rfl).1]
        rfl
      refine (taround_ok hH (z27 - l)).mono ?_
      rintro rv32 h32 ⟨q32, z32, rfl, ez32⟩
      subst h32
      show az_X P _ 26 35 ls [.int z32, .ref (P.1 + 5)] _ _
      refine jm_iload_n (x := v) rfl rfl (jM_at hl' 5 rfl) ?_
      refine az_X_call (m' := 17) (as := [.ref (P.1 + 5), .int z32, .int v]) (rest := []) rfl rfl rfl rfl rfl ?_ ?_
      · unfold si_call
        dsimp only
        rw [if_pos ⟨rfl, rfl⟩]
        show (match si_ix P h (P.1 + 5) with | some i => _ | none => none) = _
        rw [jix hH (by decide)]
        dsimp only
        rw [(hH.2 5 _ rfl).1]
        rfl
      refine (strk0_ok hH z32 v (by rw [ez32, eM', eR']; have := Int.emod_nonneg (z27 - l).toInt (b := M.toInt * R.toInt) (by omega); have := Int.emod_lt_of_pos (z27 - l).toInt (b := M.toInt * R.toInt) (by omega); omega) hv).mono ?_
      rintro rv36 h36 ⟨q36, z36, rfl, ez36⟩
      subst h36
      show az_X P _ 26 39 ls [.int z36] _ _
      refine jx_if (t := 45) rfl rfl rfl (fun hc39 => ?_) (fun hc39 => ?_)
      · have g39 := jc1_le_t hc39
        refine jm_iinc (x := T) (x' := T + 1) (l' := [(5, .int (T + 1)), (4, .int C), (3, .int K), (0, .ref (P.1 + 5)), (1, .int l), (2, .int v)]) rfl rfl (by decide) (jM_at hl' 0 rfl) rfl hl' rfl rfl (fun ls45_1 hl45_1 => ?_)
        refine az_X_step (pc' := 12) (ls' := ls45_1) (st' := []) (h' := h) rfl rfl rfl ?_
        have ev : z36.toInt = jst (ja h 1 0) (ja h 1 1) ((jtof (ja h 1 0) v.toInt T.toInt - l.toInt) % (ja h 1 0 * ja h 1 1)) v.toInt := by rw [ez36, ez32, es, ez27]
        have hb : jtwq (ja h 1 0) (ja h 1 1) v.toInt l.toInt (jtof (ja h 1 0) v.toInt T.toInt) = false := decide_eq_false (by rw [← ev]; omega)
        have := ih (n + 1) C (T + 1) ls45_1 (jM_pick hl45_1 [0, 1, 2, 3, 4, 5] rfl) eT1 (by omega) (by rw [nx _ hb]; simp)
        rw [show n + (k + 1) = n + 1 + k by omega]
        exact this
      · have g39 := jc1_le_f hc39
        refine jm_iinc (x := C) (x' := C + 1) (l' := [(4, .int (C + 1)), (5, .int T), (3, .int K), (0, .ref (P.1 + 5)), (1, .int l), (2, .int v)]) rfl rfl (by decide) (jM_at hl' 1 rfl) rfl hl' rfl rfl (fun ls42_2 hl42_2 => ?_)
        refine jm_iinc (x := T) (x' := T + 1) (l' := [(5, .int (T + 1)), (4, .int (C + 1)), (3, .int K), (0, .ref (P.1 + 5)), (1, .int l), (2, .int v)]) rfl rfl (by decide) (jM_at hl42_2 1 rfl) rfl hl42_2 rfl rfl (fun ls45_3 hl45_3 => ?_)
        refine az_X_step (pc' := 12) (ls' := ls45_3) (st' := []) (h' := h) rfl rfl rfl ?_
        have ev : z36.toInt = jst (ja h 1 0) (ja h 1 1) ((jtof (ja h 1 0) v.toInt T.toInt - l.toInt) % (ja h 1 0 * ja h 1 1)) v.toInt := by rw [ez36, ez32, es, ez27]
        have hb : jtwq (ja h 1 0) (ja h 1 1) v.toInt l.toInt (jtof (ja h 1 0) v.toInt T.toInt) = true := decide_eq_true (by rw [← ev]; omega)
        have := ih (n + 1) (C + 1) (T + 1) ls45_3 (jM_pick hl45_3 [0, 1, 2, 3, 4, 5] rfl) eT1 (by omega) (by rw [nx _ hb, nm_add (by omega) (by omega), z1]; simp)
        rw [show n + (k + 1) = n + 1 + k by omega]
        exact this
theorem both_ok {P : si_P} {d : Nat} {h : si_H} (hH : az_HI P az_tb h) (l v : Int32) (hv : v = 0 ∨ v = 1) (hl : 0 ≤ l.toInt ∧ l.toInt ≤ 1440) : az_X P (d + 2) 26 0 (lv_args 0 [.ref (P.1 + 5), .int l, .int v]) [] h (fun rv h' => h' = h ∧ jV rv (jtC (fun i => jtwq (ja h 1 0) (ja h 1 1) v.toInt l.toInt (jtof (ja h 1 0) v.toInt i)) 0 (if v.toInt = 1 then 2 * ja h 1 1 else ja h 1 1).toNat)) := by
  have br : 2 ≤ ja h 1 1 ∧ ja h 1 1 ≤ 24 := ja_bd hH (i := 1) (k := 1) rfl
  have hl' : jM [(0, .ref (P.1 + 5)), (1, .int l), (2, .int v)] (lv_args 0 [.ref (P.1 + 5), .int l, .int v]) := jM_args [0, 1, 2] rfl (by decide)
  generalize lv_args 0 [.ref (P.1 + 5), .int l, .int v] = ls at hl'
  refine jm_aload_n (x := P.1 + 5) rfl rfl (jM_at hl' 0 rfl) ?_
  refine jm_iload_n (x := v) rfl rfl (jM_at hl' 2 rfl) ?_
  refine az_X_call (m' := 15) (as := [.ref (P.1 + 5), .int v]) (rest := []) rfl rfl rfl rfl rfl ?_ ?_
  · unfold si_call
    dsimp only
    rw [if_pos ⟨rfl, rfl⟩]
    show (match si_ix P h (P.1 + 5) with | some i => _ | none => none) = _
    rw [jix hH (by decide)]
    dsimp only
    rw [(hH.2 5 _ rfl).1]
    rfl
  refine (smany_ok hH v hv).mono ?_
  rintro rv2 h2 ⟨q2, z2, rfl, ez2⟩
  subst h2
  show az_X P _ 26 5 ls [.int z2] _ _
  refine jm_istore_n (l' := [(3, .int z2), (0, .ref (P.1 + 5)), (1, .int l), (2, .int v)]) rfl rfl (by decide) hl' rfl rfl (fun ls5_1 hl5_1 => ?_)
  refine az_X_step (pc' := 7) (ls' := ls5_1) (st' := [.int 0]) (h' := h) rfl rfl rfl ?_
  refine jm_istore (l' := [(4, .int 0), (3, .int z2), (0, .ref (P.1 + 5)), (1, .int l), (2, .int v)]) rfl rfl (by decide) hl5_1 rfl rfl (fun ls7_2 hl7_2 => ?_)
  refine az_X_step (pc' := 10) (ls' := ls7_2) (st' := [.int 0]) (h' := h) rfl rfl rfl ?_
  refine jm_istore (l' := [(5, .int 0), (4, .int 0), (3, .int z2), (0, .ref (P.1 + 5)), (1, .int l), (2, .int v)]) rfl rfl (by decide) hl7_2 rfl rfl (fun ls10_3 hl10_3 => ?_)
  have hn : 0 ≤ z2.toInt := by rw [ez2]; split <;> omega
  have := both_l (d := d) hH l v z2 hv hl ez2 z2.toInt.toNat 0 0 0 ls10_3 (jM_pick hl10_3 [0, 1, 2, 3, 4, 5] rfl) (by decide) (by omega) (by show (0 : Int32).toInt = 0; decide)
  rw [Nat.zero_add, ez2] at this
  exact this
theorem loud_l {P : si_P} {d : Nat} {h : si_H} (hH : az_HI P az_tb h) (l v Y : Int32) (hv : v = 0 ∨ v = 1) (hl : 0 ≤ l.toInt ∧ l.toInt ≤ 1440) (hY : Y.toInt = ja h 1 0 * ja h 1 1) : ∀ (k n : Nat) (C T : Int32) (ls : si_L), jM [(5, .int T), (4, .int C), (3, .int Y), (0, .ref (P.1 + 5)), (1, .int l), (2, .int v)] ls → T.toInt = n → (n : Int) + k = Y.toInt → C.toInt = jtM (jtwg (ja h 1 0) (ja h 1 1) v.toInt l.toInt) n → az_X P (d + 2) 27 14 ls [] h (fun rv h' => h' = h ∧ jV rv (jtM (jtwg (ja h 1 0) (ja h 1 1) v.toInt l.toInt) (n + k))) := by
  obtain ⟨⟨M, hM, eM⟩, bM⟩ := jt_ok hH (i := 1) (k := 0) rfl
  obtain ⟨⟨R, hR, eR⟩, bR⟩ := jt_ok hH (i := 1) (k := 1) rfl
  have eM' : ja h 1 0 = M.toInt := eM.symm
  have eR' : ja h 1 1 = R.toInt := eR.symm
  have b1 : 4 ≤ ji h 1 0 ∧ ji h 1 0 ≤ 60 := bM
  have b2 : 2 ≤ ji h 1 1 ∧ ji h 1 1 ≤ 24 := bR
  have bp := nm_mulnn (a := 4) (b := 60) (c := 2) (d := 24) (x := M.toInt) (y := R.toInt) (by decide) (by decide) (by omega) (by omega) (by omega) (by omega)
  have ep : (M * R).toInt = M.toInt * R.toInt := nm_mul (by omega) (by omega)
  have z1 : (1 : Int32).toInt = 1 := by decide
  have Y2 : Y.toInt ≤ 1440 := by rw [hY, eM', eR']; omega
  intro k
  induction k with
  | zero =>
    intro n C T ls hl' eT hn eC
    refine jm_iload (x := T) rfl rfl (jM_at hl' 0 rfl) ?_
    refine jm_iload_n (x := Y) rfl rfl (jM_at hl' 2 rfl) ?_
    refine jx_ic (t := 61) rfl rfl rfl (fun hc17 => ?_) (fun hc17 => ?_)
    · have g17 := jc2_ge_t hc17
      refine jm_iload (x := C) rfl rfl (jM_at hl' 1 rfl) ?_
      refine jx_ret rfl rfl rfl ?_
      exact ⟨rfl, C, rfl, eC⟩
    · have g17 := jc2_ge_f hc17
      exact absurd eT (by omega)
  | succ k ih =>
    intro n C T ls hl' eT hn eC
    have eT1 : (T + 1).toInt = (n + 1 : Nat) := by rw [nm_add (by omega) (by omega)]; omega
    have es : (T - l).toInt = T.toInt - l.toInt := nm_sub (by omega) (by omega)
    have b0 := jst_bd (m := ja h 1 0) (r := ja h 1 1) (v := v.toInt) (t := T.toInt) (by rw [eM']; omega) (by rw [eR']; omega) (by omega)
    have e1 := Int.emod_nonneg (T.toInt - l.toInt) (b := ja h 1 0 * ja h 1 1) (by omega)
    have e2 := Int.emod_lt_of_pos (T.toInt - l.toInt) (b := ja h 1 0 * ja h 1 1) (by omega)
    have b3 := jst_bd (m := ja h 1 0) (r := ja h 1 1) (v := v.toInt) (t := (T.toInt - l.toInt) % (ja h 1 0 * ja h 1 1)) (by rw [eM']; omega) (by rw [eR']; omega) (by omega)
    refine jm_iload (x := T) rfl rfl (jM_at hl' 0 rfl) ?_
    refine jm_iload_n (x := Y) rfl rfl (jM_at hl' 2 rfl) ?_
    refine jx_ic (t := 61) rfl rfl rfl (fun hc17 => ?_) (fun hc17 => ?_)
    · have g17 := jc2_ge_t hc17
      refine jm_iload (x := C) rfl rfl (jM_at hl' 1 rfl) ?_
      refine jx_ret rfl rfl rfl ?_
      exact absurd eT (by omega)
    · have g17 := jc2_ge_f hc17
      refine jm_aload_n (x := P.1 + 5) rfl rfl (jM_at hl' 3 rfl) ?_
      refine jm_iload (x := T) rfl rfl (jM_at hl' 0 rfl) ?_
      refine jm_iload_n (x := v) rfl rfl (jM_at hl' 5 rfl) ?_
      refine az_X_call (m' := 17) (as := [.ref (P.1 + 5), .int T, .int v]) (rest := []) rfl rfl rfl rfl rfl ?_ ?_
      · unfold si_call
        dsimp only
        rw [if_pos ⟨rfl, rfl⟩]
        show (match si_ix P h (P.1 + 5) with | some i => _ | none => none) = _
        rw [jix hH (by decide)]
        dsimp only
        rw [(hH.2 5 _ rfl).1]
        rfl
      refine (strk0_ok hH T v (by omega) hv).mono ?_
      rintro rv24 h24 ⟨q24, z24, rfl, ez24⟩
      subst h24
      show az_X P _ 27 27 ls [.int z24] _ _
      refine jm_aload_n (x := P.1 + 5) rfl rfl (jM_at hl' 3 rfl) ?_
      refine jm_aload_n (x := P.1 + 5) rfl rfl (jM_at hl' 3 rfl) ?_
      refine jx_gf (i := 5) rfl rfl hH (by decide) (hH.2 5 _ rfl).1 rfl (jx_rf hH rfl rfl) ?_
      refine jm_iload (x := T) rfl rfl (jM_at hl' 0 rfl) ?_
      refine jm_iload_n (x := l) rfl rfl (jM_at hl' 4 rfl) ?_
      refine az_X_step (pc' := 36) (ls' := ls) (st' := [.int (T - l), .ref (P.1 + 1), .ref (P.1 + 5), .int z24]) (h' := h) rfl rfl rfl ?_
      refine az_X_call (m' := 75) (as := [.ref (P.1 + 1), .int (T - l)]) (rest := [.ref (P.1 + 5), .int z24]) rfl rfl rfl rfl rfl ?_ ?_
      · unfold si_call
        dsimp only
        rw [if_pos ⟨rfl, rfl⟩]
        show (match si_ix P h (P.1 + 1) with | some i => _ | none => none) = _
        rw [jix hH (by decide)]
        dsimp only
        rw [(hH.2 1 _ rfl).1]
        rfl
      refine (taround_ok hH (T - l)).mono ?_
      rintro rv36 h36 ⟨q36, z36, rfl, ez36⟩
      subst h36
      show az_X P _ 27 39 ls [.int z36, .ref (P.1 + 5), .int z24] _ _
      refine jm_iload_n (x := v) rfl rfl (jM_at hl' 5 rfl) ?_
      refine az_X_call (m' := 17) (as := [.ref (P.1 + 5), .int z36, .int v]) (rest := [.int z24]) rfl rfl rfl rfl rfl ?_ ?_
      · unfold si_call
        dsimp only
        rw [if_pos ⟨rfl, rfl⟩]
        show (match si_ix P h (P.1 + 5) with | some i => _ | none => none) = _
        rw [jix hH (by decide)]
        dsimp only
        rw [(hH.2 5 _ rfl).1]
        rfl
      refine (strk0_ok hH z36 v (by rw [ez36, es]; omega) hv).mono ?_
      rintro rv40 h40 ⟨q40, z40, rfl, ez40⟩
      subst h40
      show az_X P _ 27 43 ls [.int z40, .int z24] _ _
      refine az_X_step (pc' := 44) (ls' := ls) (st' := [.int (z24 + z40)]) (h' := h) rfl rfl rfl ?_
      refine jm_istore (l' := [(6, .int (z24 + z40)), (5, .int T), (4, .int C), (3, .int Y), (0, .ref (P.1 + 5)), (1, .int l), (2, .int v)]) rfl rfl (by decide) hl' rfl rfl (fun ls44_1 hl44_1 => ?_)
      refine jm_iload (x := C) rfl rfl (jM_at hl44_1 2 rfl) ?_
      refine jm_iload (x := z24 + z40) rfl rfl (jM_at hl44_1 0 rfl) ?_
      refine az_X_call (m' := 343) (as := [.int C, .int (z24 + z40)]) (rest := []) rfl rfl rfl rfl rfl rfl ?_
      refine (cmax_ok C (z24 + z40)).mono ?_
      rintro rv50 h50 ⟨q50, z50, rfl, ez50⟩
      subst h50
      show az_X P _ 27 53 ls44_1 [.int z50] _ _
      refine jm_istore (l' := [(4, .int z50), (6, .int (z24 + z40)), (5, .int T), (3, .int Y), (0, .ref (P.1 + 5)), (1, .int l), (2, .int v)]) rfl rfl (by decide) hl44_1 rfl rfl (fun ls53_2 hl53_2 => ?_)
      refine jm_iinc (x := T) (x' := T + 1) (l' := [(5, .int (T + 1)), (4, .int z50), (6, .int (z24 + z40)), (3, .int Y), (0, .ref (P.1 + 5)), (1, .int l), (2, .int v)]) rfl rfl (by decide) (jM_at hl53_2 2 rfl) rfl hl53_2 rfl rfl (fun ls55_3 hl55_3 => ?_)
      refine az_X_step (pc' := 14) (ls' := ls55_3) (st' := []) (h' := h) rfl rfl rfl ?_
      have e4 : (z24 + z40).toInt = jtwg (ja h 1 0) (ja h 1 1) v.toInt l.toInt (n : Int) := by
        rw [nm_add (by rw [ez24, ez40, ez36, es]; omega) (by rw [ez24, ez40, ez36, es]; omega), ez24, ez40, ez36, es, eT]
        rfl
      have := ih (n + 1) z50 (T + 1) ls55_3 (jM_pick hl55_3 [0, 1, 3, 4, 5, 6] rfl) eT1 (by omega) (by rw [ez50, eC, e4]; rfl)
      rw [show n + (k + 1) = n + 1 + k by omega]
      exact this
theorem loud_ok {P : si_P} {d : Nat} {h : si_H} (hH : az_HI P az_tb h) (l v : Int32) (hv : v = 0 ∨ v = 1) (hl : 0 ≤ l.toInt ∧ l.toInt ≤ 1440) : az_X P (d + 2) 27 0 (lv_args 0 [.ref (P.1 + 5), .int l, .int v]) [] h (fun rv h' => h' = h ∧ jV rv (jtM (jtwg (ja h 1 0) (ja h 1 1) v.toInt l.toInt) (ja h 1 0 * ja h 1 1).toNat)) := by
  obtain ⟨⟨M, hM, eM⟩, bM⟩ := jt_ok hH (i := 1) (k := 0) rfl
  obtain ⟨⟨R, hR, eR⟩, bR⟩ := jt_ok hH (i := 1) (k := 1) rfl
  have eM' : ja h 1 0 = M.toInt := eM.symm
  have eR' : ja h 1 1 = R.toInt := eR.symm
  have b1 : 4 ≤ ji h 1 0 ∧ ji h 1 0 ≤ 60 := bM
  have b2 : 2 ≤ ji h 1 1 ∧ ji h 1 1 ≤ 24 := bR
  have bp := nm_mulnn (a := 4) (b := 60) (c := 2) (d := 24) (x := M.toInt) (y := R.toInt) (by decide) (by decide) (by omega) (by omega) (by omega) (by omega)
  have ep : (M * R).toInt = M.toInt * R.toInt := nm_mul (by omega) (by omega)
  have hl' : jM [(0, .ref (P.1 + 5)), (1, .int l), (2, .int v)] (lv_args 0 [.ref (P.1 + 5), .int l, .int v]) := jM_args [0, 1, 2] rfl (by decide)
  generalize lv_args 0 [.ref (P.1 + 5), .int l, .int v] = ls at hl'
  refine jm_aload_n (x := P.1 + 5) rfl rfl (jM_at hl' 0 rfl) ?_
  refine jx_gf (i := 5) rfl rfl hH (by decide) (hH.2 5 _ rfl).1 rfl (jx_rf hH rfl rfl) ?_
  refine az_X_call (m' := 73) (as := [.ref (P.1 + 1)]) (rest := []) rfl rfl rfl rfl rfl ?_ ?_
  · unfold si_call
    dsimp only
    rw [if_pos ⟨rfl, rfl⟩]
    show (match si_ix P h (P.1 + 1) with | some i => _ | none => none) = _
    rw [jix hH (by decide)]
    dsimp only
    rw [(hH.2 1 _ rfl).1]
    rfl
  refine (tround_ok hH).mono ?_
  rintro rv4 h4 ⟨q4, z4, rfl, ez4⟩
  subst h4
  show az_X P _ 27 7 ls [.int z4] _ _
  refine jm_istore_n (l' := [(3, .int z4), (0, .ref (P.1 + 5)), (1, .int l), (2, .int v)]) rfl rfl (by decide) hl' rfl rfl (fun ls7_1 hl7_1 => ?_)
  refine az_X_step (pc' := 9) (ls' := ls7_1) (st' := [.int 0]) (h' := h) rfl rfl rfl ?_
  refine jm_istore (l' := [(4, .int 0), (3, .int z4), (0, .ref (P.1 + 5)), (1, .int l), (2, .int v)]) rfl rfl (by decide) hl7_1 rfl rfl (fun ls9_2 hl9_2 => ?_)
  refine az_X_step (pc' := 12) (ls' := ls9_2) (st' := [.int 0]) (h' := h) rfl rfl rfl ?_
  refine jm_istore (l' := [(5, .int 0), (4, .int 0), (3, .int z4), (0, .ref (P.1 + 5)), (1, .int l), (2, .int v)]) rfl rfl (by decide) hl9_2 rfl rfl (fun ls12_3 hl12_3 => ?_)
  have hn : 0 ≤ z4.toInt := by rw [ez4, eM', eR']; omega
  have := loud_l (d := d) hH l v z4 hv hl ez4 z4.toInt.toNat 0 0 0 ls12_3 (jM_pick hl12_3 [0, 1, 2, 3, 4, 5] rfl) (by decide) (by omega) (by show (0 : Int32).toInt = 0; decide)
  rw [Nat.zero_add, ez4] at this
  exact this
theorem towers0_ok {P : si_P} {d : Nat} {h : si_H} (hH : az_HI P az_tb h) (l v w : Int32) (hv : v = 0 ∨ v = 1) : az_X P (d + 3) 165 0 (lv_args 0 [.ref (P.1 + 0), .int l, .int v, .int w]) [] h (fun rv h' => h' = h ∧ jV rv (jtwF (ja h 1 0) (ja h 1 1) l.toInt v.toInt w.toInt)) := by
  have bm : 4 ≤ ja h 1 0 ∧ ja h 1 0 ≤ 60 := ja_bd hH (i := 1) (k := 0) rfl
  have br : 2 ≤ ja h 1 1 ∧ ja h 1 1 ≤ 24 := ja_bd hH (i := 1) (k := 1) rfl
  have bp := nm_mulnn (a := 4) (b := 60) (c := 2) (d := 24) (x := ja h 1 0) (y := ja h 1 1) (by decide) (by decide) bm.1 bm.2 br.1 br.2
  refine az_X_step (pc' := 1) (ls' := [(0, .ref (P.1 + 0)), (1, .int l), (2, .int v), (3, .int w)]) (st' := [.ref (P.1 + 0)]) (h' := h) rfl rfl rfl ?_
  refine jx_gf (i := 0) rfl rfl hH (by decide) (hH.2 0 _ rfl).1 rfl (jx_rf hH rfl rfl) ?_
  refine az_X_step (pc' := 5) (ls' := [(0, .ref (P.1 + 0)), (1, .int l), (2, .int v), (3, .int w)]) (st' := [.int l, .ref (P.1 + 1)]) (h' := h) rfl rfl rfl ?_
  refine az_X_call (m' := 74) (as := [.ref (P.1 + 1), .int l]) (rest := []) rfl rfl rfl rfl rfl ?_ ?_
  · unfold si_call
    dsimp only
    rw [if_pos ⟨rfl, rfl⟩]
    show (match si_ix P h (P.1 + 1) with | some i => _ | none => none) = _
    rw [jix hH (by decide)]
    dsimp only
    rw [(hH.2 1 _ rfl).1]
    rfl
  refine (istime0_ok hH l).mono ?_
  rintro rv5 h5 ⟨q5, z5, rfl, ez5⟩
  subst h5
  show az_X P _ 165 8 [(0, .ref (P.1 + 0)), (1, .int l), (2, .int v), (3, .int w)] [.int z5] _ _
  refine jx_if (t := 18) rfl rfl rfl (fun hc8 => ?_) (fun hc8 => ?_)
  · have g8 := jc1_eq_t hc8
    refine az_X_step (pc' := 19) (ls' := [(0, .ref (P.1 + 0)), (1, .int l), (2, .int v), (3, .int w)]) (st' := [.int (-1)]) (h' := h) rfl rfl rfl ?_
    refine jx_ret rfl rfl rfl ?_
    exact ⟨rfl, -1, rfl, by unfold jtwF; rw [if_neg (by omega)]; decide⟩
  · have g8 := jc1_eq_f hc8
    refine az_X_step (pc' := 12) (ls' := [(0, .ref (P.1 + 0)), (1, .int l), (2, .int v), (3, .int w)]) (st' := [.int w]) (h' := h) rfl rfl rfl ?_
    refine az_X_call (m' := 188) (as := [.int w]) (rest := []) rfl rfl rfl rfl rfl rfl ?_
    refine (ctwo_ok w).mono ?_
    rintro rv12 h12 ⟨q12, z12, rfl, ez12⟩
    subst h12
    show az_X P _ 165 15 [(0, .ref (P.1 + 0)), (1, .int l), (2, .int v), (3, .int w)] [.int z12] _ _
    refine jx_if (t := 20) rfl rfl rfl (fun hc15 => ?_) (fun hc15 => ?_)
    · have g15 := jc1_ne_t hc15
      refine az_X_step (pc' := 21) (ls' := [(0, .ref (P.1 + 0)), (1, .int l), (2, .int v), (3, .int w)]) (st' := [.int w]) (h' := h) rfl rfl rfl ?_
      refine jx_if (t := 36) rfl rfl rfl (fun hc21 => ?_) (fun hc21 => ?_)
      · have g21 := jc1_ne_t hc21
        refine az_X_step (pc' := 37) (ls' := [(0, .ref (P.1 + 0)), (1, .int l), (2, .int v), (3, .int w)]) (st' := [.ref (P.1 + 0)]) (h' := h) rfl rfl rfl ?_
        refine jx_gf (i := 0) rfl rfl hH (by decide) (hH.2 0 _ rfl).1 rfl (jx_rf hH rfl rfl) ?_
        refine az_X_step (pc' := 41) (ls' := [(0, .ref (P.1 + 0)), (1, .int l), (2, .int v), (3, .int w)]) (st' := [.int l, .ref (P.1 + 5)]) (h' := h) rfl rfl rfl ?_
        refine az_X_step (pc' := 42) (ls' := [(0, .ref (P.1 + 0)), (1, .int l), (2, .int v), (3, .int w)]) (st' := [.int v, .int l, .ref (P.1 + 5)]) (h' := h) rfl rfl rfl ?_
        refine az_X_call (m' := 27) (as := [.ref (P.1 + 5), .int l, .int v]) (rest := []) rfl rfl rfl rfl rfl ?_ ?_
        · unfold si_call
          dsimp only
          rw [if_pos ⟨rfl, rfl⟩]
          show (match si_ix P h (P.1 + 5) with | some i => _ | none => none) = _
          rw [jix hH (by decide)]
          dsimp only
          rw [(hH.2 5 _ rfl).1]
          rfl
        refine (loud_ok hH l v hv (by omega)).mono ?_
        rintro rv42 h42 ⟨q42, z42, rfl, ez42⟩
        subst h42
        show az_X P _ 165 45 [(0, .ref (P.1 + 0)), (1, .int l), (2, .int v), (3, .int w)] [.int z42] _ _
        refine jx_ret rfl rfl rfl ?_
        exact ⟨rfl, z42, rfl, by unfold jtwF; rw [if_pos (by omega), if_neg (by omega)]; exact ez42⟩
      · have g21 := jc1_ne_f hc21
        refine az_X_step (pc' := 25) (ls' := [(0, .ref (P.1 + 0)), (1, .int l), (2, .int v), (3, .int w)]) (st' := [.ref (P.1 + 0)]) (h' := h) rfl rfl rfl ?_
        refine jx_gf (i := 0) rfl rfl hH (by decide) (hH.2 0 _ rfl).1 rfl (jx_rf hH rfl rfl) ?_
        refine az_X_step (pc' := 29) (ls' := [(0, .ref (P.1 + 0)), (1, .int l), (2, .int v), (3, .int w)]) (st' := [.int l, .ref (P.1 + 5)]) (h' := h) rfl rfl rfl ?_
        refine az_X_step (pc' := 30) (ls' := [(0, .ref (P.1 + 0)), (1, .int l), (2, .int v), (3, .int w)]) (st' := [.int v, .int l, .ref (P.1 + 5)]) (h' := h) rfl rfl rfl ?_
        refine az_X_call (m' := 26) (as := [.ref (P.1 + 5), .int l, .int v]) (rest := []) rfl rfl rfl rfl rfl ?_ ?_
        · unfold si_call
          dsimp only
          rw [if_pos ⟨rfl, rfl⟩]
          show (match si_ix P h (P.1 + 5) with | some i => _ | none => none) = _
          rw [jix hH (by decide)]
          dsimp only
          rw [(hH.2 5 _ rfl).1]
          rfl
        refine (both_ok hH l v hv (by omega)).mono ?_
        rintro rv30 h30 ⟨q30, z30, rfl, ez30⟩
        subst h30
        show az_X P _ 165 33 [(0, .ref (P.1 + 0)), (1, .int l), (2, .int v), (3, .int w)] [.int z30] _ _
        refine az_X_step (pc' := 45) (ls' := [(0, .ref (P.1 + 0)), (1, .int l), (2, .int v), (3, .int w)]) (st' := [.int z30]) (h' := h) rfl rfl rfl ?_
        refine jx_ret rfl rfl rfl ?_
        exact ⟨rfl, z30, rfl, by
          unfold jtwF
          rw [if_pos (by omega), if_pos (by omega), ez30]
          have e := jtw (v := v.toInt) (r := ja h 1 1) (w := (ja h 1 0).toNat) (m := ja h 1 0) (by omega) bm.1 br.1 (jtwq (ja h 1 0) (ja h 1 1) v.toInt l.toInt) (ja h 1 1).toNat
          have e1 : (ja h 1 0).toNat * (ja h 1 1).toNat = (ja h 1 0 * ja h 1 1).toNat := (Int.toNat_mul (by omega) (by omega)).symm
          have e2 : jsn v.toInt (ja h 1 1).toNat = (if v.toInt = 1 then 2 * ja h 1 1 else ja h 1 1).toNat := by
            unfold jsn
            split <;> omega
          rw [e1, e2] at e
          exact e.symm⟩
    · have g15 := jc1_ne_f hc15
      refine az_X_step (pc' := 19) (ls' := [(0, .ref (P.1 + 0)), (1, .int l), (2, .int v), (3, .int w)]) (st' := [.int (-1)]) (h' := h) rfl rfl rfl ?_
      refine jx_ret rfl rfl rfl ?_
      exact ⟨rfl, -1, rfl, by unfold jtwF; rw [if_neg (by omega)]; decide⟩
theorem rtow_l {P : si_P} {d : Nat} {h : si_H} (hH : az_HI P az_tb h) (hJ : js_J h) (l v w : Int32) (hv : v = 0 ∨ v = 1) (hl : 0 ≤ l.toInt ∧ l.toInt ≤ 1440) : ∀ (k n : Nat) (C F T : Int32) (ls : si_L), jM [(6, .int T), (5, .int F), (4, .int C), (0, .ref (P.1 + 60)), (1, .int l), (2, .int v), (3, .int w)] ls → T.toInt = n → (n : Int) + k = ja h 60 9 → C.toInt = jtC (fun t => decide (0 < jst (ja h 60 7) (ja h 60 8) t v.toInt) && jtwq (ja h 60 7) (ja h 60 8) v.toInt l.toInt t) 0 n → F.toInt = jtM (jtwg (ja h 60 7) (ja h 60 8) v.toInt l.toInt) n → az_X P (d + 2) 296 28 ls [] h (fun rv h' => h' = h ∧ jV rv (if w.toInt = 0 then jtC (fun t => decide (0 < jst (ja h 60 7) (ja h 60 8) t v.toInt) && jtwq (ja h 60 7) (ja h 60 8) v.toInt l.toInt t) 0 (n + k) else jtM (jtwg (ja h 60 7) (ja h 60 8) v.toInt l.toInt) (n + k))) := by
  obtain ⟨⟨M, hM, eM⟩, bM⟩ := jt_ok hH (i := 60) (k := 7) rfl
  obtain ⟨⟨R, hR, eR⟩, bR⟩ := jt_ok hH (i := 60) (k := 8) rfl
  have eM' : ja h 60 7 = M.toInt := eM.symm
  have eR' : ja h 60 8 = R.toInt := eR.symm
  have b1 : 4 ≤ ji h 60 7 ∧ ji h 60 7 ≤ 60 := bM
  have b2 : 2 ≤ ji h 60 8 ∧ ji h 60 8 ≤ 24 := bR
  have bp := nm_mulnn (a := 4) (b := 60) (c := 2) (d := 24) (x := M.toInt) (y := R.toInt) (by decide) (by decide) (by omega) (by omega) (by omega) (by omega)
  have ep : (M * R).toInt = M.toInt * R.toInt := nm_mul (by omega) (by omega)
  have z1 : (1 : Int32).toInt = 1 := by decide
  obtain ⟨⟨Y, hY, eY⟩, bY⟩ := jt_ok hH (i := 60) (k := 9) rfl
  have eY' : ja h 60 9 = Y.toInt := eY.symm
  have bY' : 8 ≤ ji h 60 9 ∧ ji h 60 9 ≤ 1440 := bY
  have hp : ja h 60 9 = ja h 60 7 * ja h 60 8 := hJ.1.1
  intro k
  induction k with
  | zero =>
    intro n C F T ls hl' eT hn eC eF
    refine jm_iload (x := T) rfl rfl (jM_at hl' 0 rfl) ?_
    refine jm_aload_n (x := P.1 + 60) rfl rfl (jM_at hl' 3 rfl) ?_
    refine jx_gf (i := 60) rfl rfl hH (by decide) (hH.2 60 _ rfl).1 rfl hY ?_
    refine jx_ic (t := 98) rfl rfl rfl (fun hc34 => ?_) (fun hc34 => ?_)
    · have g34 := jc2_ge_t hc34
      refine jm_iload_n (x := w) rfl rfl (jM_at hl' 6 rfl) ?_
      refine jx_if (t := 107) rfl rfl rfl (fun hc99 => ?_) (fun hc99 => ?_)
      · have g99 := jc1_ne_t hc99
        refine jm_iload (x := F) rfl rfl (jM_at hl' 1 rfl) ?_
        refine jx_ret rfl rfl rfl ?_
        exact ⟨rfl, F, rfl, by rw [if_neg g99]; exact eF⟩
      · have g99 := jc1_ne_f hc99
        refine jm_iload (x := C) rfl rfl (jM_at hl' 2 rfl) ?_
        refine az_X_step (pc' := 109) (ls' := ls) (st' := [.int C]) (h' := h) rfl rfl rfl ?_
        refine jx_ret rfl rfl rfl ?_
        exact ⟨rfl, C, rfl, by rw [if_pos g99]; exact eC⟩
    · have g34 := jc2_ge_f hc34
      exact absurd eT (by omega)
  | succ k ih =>
    intro n C F T ls hl' eT hn eC eF
    have bd := jtC_bd (p := (fun t => decide (0 < jst (ja h 60 7) (ja h 60 8) t v.toInt) && jtwq (ja h 60 7) (ja h 60 8) v.toInt l.toInt t)) (a := 0) n
    have eT1 : (T + 1).toInt = (n + 1 : Nat) := by rw [nm_add (by omega) (by omega)]; omega
    have es : (T - l).toInt = T.toInt - l.toInt := nm_sub (by omega) (by omega)
    have b0 := jst_bd (m := ja h 60 7) (r := ja h 60 8) (v := v.toInt) (t := T.toInt) (by rw [eM']; omega) (by rw [eR']; omega) (by omega)
    have e1 := Int.emod_nonneg (T.toInt - l.toInt) (b := ja h 60 9) (by omega)
    have e2 := Int.emod_lt_of_pos (T.toInt - l.toInt) (b := ja h 60 9) (by omega)
    have b3 := jst_bd (m := ja h 60 7) (r := ja h 60 8) (v := v.toInt) (t := (T.toInt - l.toInt) % ja h 60 9) (by rw [eM']; omega) (by rw [eR']; omega) (by omega)
    have nx : ∀ x : Int, (if (decide (0 < jst (ja h 60 7) (ja h 60 8) T.toInt v.toInt) && jtwq (ja h 60 7) (ja h 60 8) v.toInt l.toInt T.toInt) = true then (1 : Int) else 0) = x → jtC (fun t => decide (0 < jst (ja h 60 7) (ja h 60 8) t v.toInt) && jtwq (ja h 60 7) (ja h 60 8) v.toInt l.toInt t) 0 (n + 1) = C.toInt + x := by
      intro x hx
      show jtC _ 0 n + (if (decide (0 < jst (ja h 60 7) (ja h 60 8) (0 + (n : Int)) v.toInt) && jtwq (ja h 60 7) (ja h 60 8) v.toInt l.toInt (0 + (n : Int))) = true then 1 else 0) = _
      rw [show (0 + (n : Int)) = T.toInt by omega, hx, eC]
    refine jm_iload (x := T) rfl rfl (jM_at hl' 0 rfl) ?_
    refine jm_aload_n (x := P.1 + 60) rfl rfl (jM_at hl' 3 rfl) ?_
    refine jx_gf (i := 60) rfl rfl hH (by decide) (hH.2 60 _ rfl).1 rfl hY ?_
    refine jx_ic (t := 98) rfl rfl rfl (fun hc34 => ?_) (fun hc34 => ?_)
    · have g34 := jc2_ge_t hc34
      exact absurd eT (by omega)
    · have g34 := jc2_ge_f hc34
      refine jm_aload_n (x := P.1 + 60) rfl rfl (jM_at hl' 3 rfl) ?_
      refine jm_iload (x := T) rfl rfl (jM_at hl' 0 rfl) ?_
      refine jm_iload_n (x := v) rfl rfl (jM_at hl' 5 rfl) ?_
      refine az_X_call (m' := 287) (as := [.ref (P.1 + 60), .int T, .int v]) (rest := []) rfl rfl rfl rfl rfl ?_ ?_
      · unfold si_call
        dsimp only
        rw [if_pos ⟨rfl, rfl⟩]
        show (match si_ix P h (P.1 + 60) with | some i => _ | none => none) = _
        rw [jix hH (by decide)]
        dsimp only
        rw [(hH.2 60 _ rfl).1]
        rfl
      refine (strk1_ok hH T v (by omega) hv).mono ?_
      rintro rv41 h41 ⟨q41, z41, rfl, ez41⟩
      subst h41
      show az_X P _ 296 44 ls [.int z41] _ _
      refine jm_istore (l' := [(7, .int z41), (6, .int T), (5, .int F), (4, .int C), (0, .ref (P.1 + 60)), (1, .int l), (2, .int v), (3, .int w)]) rfl rfl (by decide) hl' rfl rfl (fun ls44_1 hl44_1 => ?_)
      refine jm_aload_n (x := P.1 + 60) rfl rfl (jM_at hl44_1 4 rfl) ?_
      refine jm_iload (x := T) rfl rfl (jM_at hl44_1 1 rfl) ?_
      refine jm_iload_n (x := l) rfl rfl (jM_at hl44_1 5 rfl) ?_
      refine az_X_step (pc' := 51) (ls' := ls44_1) (st' := [.int (T - l), .ref (P.1 + 60)]) (h' := h) rfl rfl rfl ?_
      refine jm_aload_n (x := P.1 + 60) rfl rfl (jM_at hl44_1 4 rfl) ?_
      refine jx_gf (i := 60) rfl rfl hH (by decide) (hH.2 60 _ rfl).1 rfl hY ?_
      refine az_X_call (m' := 208) (as := [.int (T - l), .int Y]) (rest := [.ref (P.1 + 60)]) rfl rfl rfl rfl rfl rfl ?_
      refine (rmod_ok (T - l) Y (by omega) (by omega) (by rw [es]; omega)).mono ?_
      rintro rv55 h55 ⟨q55, z55, rfl, ez55⟩
      subst h55
      show az_X P _ 296 58 ls44_1 [.int z55, .ref (P.1 + 60)] _ _
      refine jm_iload_n (x := v) rfl rfl (jM_at hl44_1 6 rfl) ?_
      refine az_X_call (m' := 287) (as := [.ref (P.1 + 60), .int z55, .int v]) (rest := []) rfl rfl rfl rfl rfl ?_ ?_
      · unfold si_call
        dsimp only
        rw [if_pos ⟨rfl, rfl⟩]
        show (match si_ix P h (P.1 + 60) with | some i => _ | none => none) = _
        rw [jix hH (by decide)]
        dsimp only
        rw [(hH.2 60 _ rfl).1]
        rfl
      refine (strk1_ok hH z55 v (by rw [ez55, es, ← eY']; omega) hv).mono ?_
      rintro rv59 h59 ⟨q59, z59, rfl, ez59⟩
      subst h59
      show az_X P _ 296 62 ls44_1 [.int z59] _ _
      refine jm_istore (l' := [(8, .int z59), (7, .int z41), (6, .int T), (5, .int F), (4, .int C), (0, .ref (P.1 + 60)), (1, .int l), (2, .int v), (3, .int w)]) rfl rfl (by decide) hl44_1 rfl rfl (fun ls62_2 hl62_2 => ?_)
      refine jm_iload (x := z41) rfl rfl (jM_at hl62_2 1 rfl) ?_
      refine jx_if (t := 80) rfl rfl rfl (fun hc66 => ?_) (fun hc66 => ?_)
      · have g66 := jc1_le_t hc66
        refine jm_iload (x := F) rfl rfl (jM_at hl62_2 3 rfl) ?_
        refine jm_iload (x := z41) rfl rfl (jM_at hl62_2 1 rfl) ?_
        refine jm_iload (x := z59) rfl rfl (jM_at hl62_2 0 rfl) ?_
        refine az_X_step (pc' := 87) (ls' := ls62_2) (st' := [.int (z41 + z59), .int F]) (h' := h) rfl rfl rfl ?_
        refine az_X_call (m' := 204) (as := [.int F, .int (z41 + z59)]) (rest := []) rfl rfl rfl rfl rfl rfl ?_
        refine (rmax_ok F (z41 + z59)).mono ?_
        rintro rv87 h87 ⟨q87, z87, rfl, ez87⟩
        subst h87
        show az_X P _ 296 90 ls62_2 [.int z87] _ _
        refine jm_istore (l' := [(5, .int z87), (8, .int z59), (7, .int z41), (6, .int T), (4, .int C), (0, .ref (P.1 + 60)), (1, .int l), (2, .int v), (3, .int w)]) rfl rfl (by decide) hl62_2 rfl rfl (fun ls90_3 hl90_3 => ?_)
        refine jm_iinc (x := T) (x' := T + 1) (l' := [(6, .int (T + 1)), (5, .int z87), (8, .int z59), (7, .int z41), (4, .int C), (0, .ref (P.1 + 60)), (1, .int l), (2, .int v), (3, .int w)]) rfl rfl (by decide) (jM_at hl90_3 3 rfl) rfl hl90_3 rfl rfl (fun ls92_4 hl92_4 => ?_)
        refine az_X_step (pc' := 28) (ls' := ls92_4) (st' := []) (h' := h) rfl rfl rfl ?_
        have v0 : z59.toInt = jst (ja h 60 7) (ja h 60 8) ((T.toInt - l.toInt) % (ja h 60 7 * ja h 60 8)) v.toInt := by rw [ez59, ez55, es, ← eY', hp]
        have e4 : (z41 + z59).toInt = jtwg (ja h 60 7) (ja h 60 8) v.toInt l.toInt (n : Int) := by
          rw [nm_add (by rw [ez41, v0, ← hp]; omega) (by rw [ez41, v0, ← hp]; omega), ez41, v0, eT]
          rfl
        have hx := nx 0 (if_neg (fun q => by rw [Bool.and_eq_true] at q; exact absurd (of_decide_eq_true q.1) (by omega)))
        have := ih (n + 1) C z87 (T + 1) ls92_4 (jM_pick hl92_4 [0, 1, 4, 5, 6, 7, 8] rfl) eT1 (by omega) (by rw [hx]; omega) (by rw [ez87, eF, e4]; rfl)
        rw [show n + (k + 1) = n + 1 + k by omega]
        exact this
      · have g66 := jc1_le_f hc66
        refine jm_iload (x := z59) rfl rfl (jM_at hl62_2 0 rfl) ?_
        refine jx_if (t := 80) rfl rfl rfl (fun hc71 => ?_) (fun hc71 => ?_)
        · have g71 := jc1_le_t hc71
          refine jm_iload (x := F) rfl rfl (jM_at hl62_2 3 rfl) ?_
          refine jm_iload (x := z41) rfl rfl (jM_at hl62_2 1 rfl) ?_
          refine jm_iload (x := z59) rfl rfl (jM_at hl62_2 0 rfl) ?_
          refine az_X_step (pc' := 87) (ls' := ls62_2) (st' := [.int (z41 + z59), .int F]) (h' := h) rfl rfl rfl ?_
          refine az_X_call (m' := 204) (as := [.int F, .int (z41 + z59)]) (rest := []) rfl rfl rfl rfl rfl rfl ?_
          refine (rmax_ok F (z41 + z59)).mono ?_
          rintro rv87 h87 ⟨q87, z87, rfl, ez87⟩
          subst h87
          show az_X P _ 296 90 ls62_2 [.int z87] _ _
          refine jm_istore (l' := [(5, .int z87), (8, .int z59), (7, .int z41), (6, .int T), (4, .int C), (0, .ref (P.1 + 60)), (1, .int l), (2, .int v), (3, .int w)]) rfl rfl (by decide) hl62_2 rfl rfl (fun ls90_5 hl90_5 => ?_)
          refine jm_iinc (x := T) (x' := T + 1) (l' := [(6, .int (T + 1)), (5, .int z87), (8, .int z59), (7, .int z41), (4, .int C), (0, .ref (P.1 + 60)), (1, .int l), (2, .int v), (3, .int w)]) rfl rfl (by decide) (jM_at hl90_5 3 rfl) rfl hl90_5 rfl rfl (fun ls92_6 hl92_6 => ?_)
          refine az_X_step (pc' := 28) (ls' := ls92_6) (st' := []) (h' := h) rfl rfl rfl ?_
          have v0 : z59.toInt = jst (ja h 60 7) (ja h 60 8) ((T.toInt - l.toInt) % (ja h 60 7 * ja h 60 8)) v.toInt := by rw [ez59, ez55, es, ← eY', hp]
          have e4 : (z41 + z59).toInt = jtwg (ja h 60 7) (ja h 60 8) v.toInt l.toInt (n : Int) := by
            rw [nm_add (by rw [ez41, v0, ← hp]; omega) (by rw [ez41, v0, ← hp]; omega), ez41, v0, eT]
            rfl
          have hx := nx 0 (if_neg (fun q => by rw [Bool.and_eq_true] at q; exact absurd (of_decide_eq_true q.2) (by omega)))
          have := ih (n + 1) C z87 (T + 1) ls92_6 (jM_pick hl92_6 [0, 1, 4, 5, 6, 7, 8] rfl) eT1 (by omega) (by rw [hx]; omega) (by rw [ez87, eF, e4]; rfl)
          rw [show n + (k + 1) = n + 1 + k by omega]
          exact this
        · have g71 := jc1_le_f hc71
          refine jm_iload (x := C) rfl rfl (jM_at hl62_2 4 rfl) ?_
          refine az_X_step (pc' := 77) (ls' := ls62_2) (st' := [.int 1, .int C]) (h' := h) rfl rfl rfl ?_
          refine az_X_step (pc' := 78) (ls' := ls62_2) (st' := [.int (C + 1)]) (h' := h) rfl rfl rfl ?_
          refine jm_istore (l' := [(4, .int (C + 1)), (8, .int z59), (7, .int z41), (6, .int T), (5, .int F), (0, .ref (P.1 + 60)), (1, .int l), (2, .int v), (3, .int w)]) rfl rfl (by decide) hl62_2 rfl rfl (fun ls78_7 hl78_7 => ?_)
          refine jm_iload (x := F) rfl rfl (jM_at hl78_7 4 rfl) ?_
          refine jm_iload (x := z41) rfl rfl (jM_at hl78_7 2 rfl) ?_
          refine jm_iload (x := z59) rfl rfl (jM_at hl78_7 1 rfl) ?_
          refine az_X_step (pc' := 87) (ls' := ls78_7) (st' := [.int (z41 + z59), .int F]) (h' := h) rfl rfl rfl ?_
          refine az_X_call (m' := 204) (as := [.int F, .int (z41 + z59)]) (rest := []) rfl rfl rfl rfl rfl rfl ?_
          refine (rmax_ok F (z41 + z59)).mono ?_
          rintro rv87 h87 ⟨q87, z87, rfl, ez87⟩
          subst h87
          show az_X P _ 296 90 ls78_7 [.int z87] _ _
          refine jm_istore (l' := [(5, .int z87), (4, .int (C + 1)), (8, .int z59), (7, .int z41), (6, .int T), (0, .ref (P.1 + 60)), (1, .int l), (2, .int v), (3, .int w)]) rfl rfl (by decide) hl78_7 rfl rfl (fun ls90_8 hl90_8 => ?_)
          refine jm_iinc (x := T) (x' := T + 1) (l' := [(6, .int (T + 1)), (5, .int z87), (4, .int (C + 1)), (8, .int z59), (7, .int z41), (0, .ref (P.1 + 60)), (1, .int l), (2, .int v), (3, .int w)]) rfl rfl (by decide) (jM_at hl90_8 4 rfl) rfl hl90_8 rfl rfl (fun ls92_9 hl92_9 => ?_)
          refine az_X_step (pc' := 28) (ls' := ls92_9) (st' := []) (h' := h) rfl rfl rfl ?_
          have v0 : z59.toInt = jst (ja h 60 7) (ja h 60 8) ((T.toInt - l.toInt) % (ja h 60 7 * ja h 60 8)) v.toInt := by rw [ez59, ez55, es, ← eY', hp]
          have e4 : (z41 + z59).toInt = jtwg (ja h 60 7) (ja h 60 8) v.toInt l.toInt (n : Int) := by
            rw [nm_add (by rw [ez41, v0, ← hp]; omega) (by rw [ez41, v0, ← hp]; omega), ez41, v0, eT]
            rfl
          have hx := nx 1 (if_pos (by rw [Bool.and_eq_true]; exact ⟨decide_eq_true (by omega), decide_eq_true (by omega)⟩))
          have := ih (n + 1) (C + 1) z87 (T + 1) ls92_9 (jM_pick hl92_9 [0, 1, 2, 5, 6, 7, 8] rfl) eT1 (by omega) (by rw [hx, nm_add (by omega) (by omega), z1]) (by rw [ez87, eF, e4]; rfl)
          rw [show n + (k + 1) = n + 1 + k by omega]
          exact this
theorem towers1_ok {P : si_P} {d : Nat} {h : si_H} (hH : az_HI P az_tb h) (hJ : js_J h) (l v w : Int32) (hv : v = 0 ∨ v = 1) : az_X P (d + 2) 296 0 (lv_args 0 [.ref (P.1 + 60), .int l, .int v, .int w]) [] h (fun rv h' => h' = h ∧ jV rv (jtwF (ja h 60 7) (ja h 60 8) l.toInt v.toInt w.toInt)) := by
  have bY : 8 ≤ ja h 60 9 ∧ ja h 60 9 ≤ 1440 := ja_bd hH (i := 60) (k := 9) rfl
  have hp : ja h 60 9 = ja h 60 7 * ja h 60 8 := hJ.1.1
  have z0 : (0 : Int32).toInt = 0 := by decide
  have z1 : (1 : Int32).toInt = 1 := by decide
  have hl' : jM [(0, .ref (P.1 + 60)), (1, .int l), (2, .int v), (3, .int w)] (lv_args 0 [.ref (P.1 + 60), .int l, .int v, .int w]) := jM_args [0, 1, 2, 3] rfl (by decide)
  generalize lv_args 0 [.ref (P.1 + 60), .int l, .int v, .int w] = ls at hl'
  refine jm_aload_n (x := P.1 + 60) rfl rfl (jM_at hl' 0 rfl) ?_
  refine jm_iload_n (x := l) rfl rfl (jM_at hl' 1 rfl) ?_
  refine az_X_call (m' := 211) (as := [.ref (P.1 + 60), .int l]) (rest := []) rfl rfl rfl rfl rfl ?_ ?_
  · unfold si_call
    dsimp only
    rw [if_pos ⟨rfl, rfl⟩]
    show (match si_ix P h (P.1 + 60) with | some i => _ | none => none) = _
    rw [jix hH (by decide)]
    dsimp only
    rw [(hH.2 60 _ rfl).1]
    rfl
  refine (ristime_ok hH l).mono ?_
  rintro rv2 h2 ⟨q2, z2, rfl, ez2⟩
  subst h2
  show az_X P _ 296 5 ls [.int z2] _ _
  refine jx_if (t := 17) rfl rfl rfl (fun hc5 => ?_) (fun hc5 => ?_)
  · have g5 := jc1_eq_t hc5
    refine az_X_step (pc' := 18) (ls' := ls) (st' := [.int (-1)]) (h' := h) rfl rfl rfl ?_
    refine jx_ret rfl rfl rfl ?_
    exact ⟨rfl, -1, rfl, by unfold jtwF; rw [if_neg (by omega)]; decide⟩
  · have g5 := jc1_eq_f hc5
    refine jm_iload_n (x := w) rfl rfl (jM_at hl' 3 rfl) ?_
    refine az_X_step (pc' := 10) (ls' := ls) (st' := [.int 0, .int w]) (h' := h) rfl rfl rfl ?_
    refine az_X_step (pc' := 11) (ls' := ls) (st' := [.int 1, .int 0, .int w]) (h' := h) rfl rfl rfl ?_
    refine az_X_call (m' := 202) (as := [.int w, .int 0, .int 1]) (rest := []) rfl rfl rfl rfl rfl rfl ?_
    refine (rin_ok w 0 1).mono ?_
    rintro rv11 h11 ⟨q11, z11, rfl, ez11⟩
    subst h11
    show az_X P _ 296 14 ls [.int z11] _ _
    refine jx_if (t := 19) rfl rfl rfl (fun hc14 => ?_) (fun hc14 => ?_)
    · have g14 := jc1_ne_t hc14
      refine az_X_step (pc' := 20) (ls' := ls) (st' := [.int 0]) (h' := h) rfl rfl rfl ?_
      refine jm_istore (l' := [(4, .int 0), (0, .ref (P.1 + 60)), (1, .int l), (2, .int v), (3, .int w)]) rfl rfl (by decide) hl' rfl rfl (fun ls20_1 hl20_1 => ?_)
      refine az_X_step (pc' := 23) (ls' := ls20_1) (st' := [.int 0]) (h' := h) rfl rfl rfl ?_
      refine jm_istore (l' := [(5, .int 0), (4, .int 0), (0, .ref (P.1 + 60)), (1, .int l), (2, .int v), (3, .int w)]) rfl rfl (by decide) hl20_1 rfl rfl (fun ls23_2 hl23_2 => ?_)
      refine az_X_step (pc' := 26) (ls' := ls23_2) (st' := [.int 0]) (h' := h) rfl rfl rfl ?_
      refine jm_istore (l' := [(6, .int 0), (5, .int 0), (4, .int 0), (0, .ref (P.1 + 60)), (1, .int l), (2, .int v), (3, .int w)]) rfl rfl (by decide) hl23_2 rfl rfl (fun ls26_3 hl26_3 => ?_)
      have := rtow_l (d := d) hH hJ l v w hv (by omega) (ja h 60 9).toNat 0 0 0 0 ls26_3 (jM_pick hl26_3 [0, 1, 2, 3, 4, 5, 6] rfl) (by decide) (by omega) (by show (0 : Int32).toInt = 0; decide) (by show (0 : Int32).toInt = 0; decide)
      rw [Nat.zero_add, hp] at this
      unfold jtwF
      rw [if_pos (by omega)]
      exact this
    · have g14 := jc1_ne_f hc14
      refine az_X_step (pc' := 18) (ls' := ls) (st' := [.int (-1)]) (h' := h) rfl rfl rfl ?_
      refine jx_ret rfl rfl rfl ?_
      exact ⟨rfl, -1, rfl, by unfold jtwF; rw [if_neg (by omega)]; decide⟩
