/-! locals of which some are known -/
def jM (l : List (Nat × Value)) (ls : si_L) : Prop := ∀ q ∈ l, si_ld q.1 ls = some q.2
theorem jM_at {l : List (Nat × Value)} {ls : si_L} (h : jM l ls) (i : Nat) {k : Nat} {v : Value} (hi : l[i]? = some (k, v)) : si_ld k ls = some v := h (k, v) (List.mem_of_getElem? hi)
theorem jM_args {l : List (Nat × Value)} (ks : List Nat) (he : l.map (fun q => q.1) = ks) (hd : ks.Nodup) : jM l l := by
  subst he
  intro q hq
  induction l with
  | nil => cases hq
  | cons a r ih =>
    unfold si_ld
    rcases List.mem_cons.mp hq with rfl | hq
    · exact if_pos rfl
    · rw [List.map_cons, List.nodup_cons] at hd
      rw [if_neg]
      · exact ih hd.2 hq
      · intro e
        exact hd.1 (e ▸ List.mem_map.mpr ⟨q, hq, rfl⟩)
theorem si_ld_f {k : Nat} {v : Value} {f : Nat × Value → Bool} : ∀ {l : si_L}, (∀ w, (k, w) ∈ l → si_ld k l = some w → f (k, w) = true) → si_ld k l = some v → si_ld k (l.filter f) = some v
  | [], _, h => by cases h
  | q :: r, hf, h => by
    unfold si_ld at h
    split at h
    · rename_i e
      cases h
      have hq : f q = true := by
        have := hf q.2 (by rw [← e]; exact List.mem_cons_self) (by unfold si_ld; rw [if_pos e])
        rw [← e] at this
        exact this
      rw [List.filter_cons, if_pos hq]
      unfold si_ld
      exact if_pos e
    · rename_i e
      have ih := si_ld_f (l := r) (fun w hw hl => hf w (List.mem_cons_of_mem _ hw) (by unfold si_ld; rw [if_neg e]; exact hl)) h
      rw [List.filter_cons]
      split
      · unfold si_ld
        rw [if_neg e]
        exact ih
      · exact ih
theorem jM_st {l l' : List (Nat × Value)} {ls : si_L} {k : Nat} {v : Value} (h : jM l ls) (h' : l' = (k, v) :: l.filter (fun q => !(q.1 == k))) (hc : l.all (fun q => q.2.category == 1) = true) : jM l' (si_st1 ls k v) := by
  subst h'
  intro q hq
  unfold si_st1
  rcases List.mem_cons.mp hq with rfl | hq
  · unfold si_ld
    exact if_pos rfl
  · obtain ⟨h1, h2⟩ := List.mem_filter.mp hq
    have h3 : ¬ q.1 = k := by simpa using h2
    have h4 : q.2.category = 1 := by
      have := List.all_eq_true.mp hc q h1
      simpa using this
    unfold si_ld
    rw [if_neg (fun e => h3 e.symm)]
    refine si_ld_f (fun w hw hl => ?_) (h q h1)
    have h5 : w = q.2 := by
      have := h q h1
      rw [hl] at this
      exact Option.some.inj this
    subst h5
    simp [h3, h4]
section Jm
variable {P : si_P} {d mi pc : Nat} {y : si_M} {ls : si_L} {st : List Value} {h : si_H} {Q : Option Value → si_H → Prop} {q : Nat × Nat × Nat}
theorem jm_iload_n {k : Fin 4} {x : Int32} (hy : si_m mi = some y) (he : si_fetch mi pc = some (.iload_n k, 1, q)) (L : si_ld (k : Nat) ls = some (.int x)) (kk : az_X P d mi (pc + 1) ls (.int x :: st) h Q) : az_X P d mi pc ls st h Q := by
  refine az_X_step (pc' := pc + 1) (ls' := ls) (st' := .int x :: st) (h' := h) hy he ?_ kk
  unfold si_step
  dsimp only
  show (match si_ld (k : Nat) ls with | some v => if si_kd v 0 = true then some (pc + 1, ls, v :: st, h) else none | none => none) = _
  rw [L]
  all_goals rfl
theorem jm_iload {k : Nat} {x : Int32} (hy : si_m mi = some y) (he : si_fetch mi pc = some (.iload k, 2, q)) (L : si_ld k ls = some (.int x)) (kk : az_X P d mi (pc + 2) ls (.int x :: st) h Q) : az_X P d mi pc ls st h Q := by
  refine az_X_step (pc' := pc + 2) (ls' := ls) (st' := .int x :: st) (h' := h) hy he ?_ kk
  unfold si_step
  dsimp only
  show (match si_ld (k : Nat) ls with | some v => if si_kd v 0 = true then some (pc + 2, ls, v :: st, h) else none | none => none) = _
  rw [L]
  all_goals rfl
theorem jm_aload_n {k : Fin 4} {x : Nat} (hy : si_m mi = some y) (he : si_fetch mi pc = some (.aload_n k, 1, q)) (L : si_ld (k : Nat) ls = some (.ref x)) (kk : az_X P d mi (pc + 1) ls (.ref x :: st) h Q) : az_X P d mi pc ls st h Q := by
  refine az_X_step (pc' := pc + 1) (ls' := ls) (st' := .ref x :: st) (h' := h) hy he ?_ kk
  unfold si_step
  dsimp only
  show (match si_ld (k : Nat) ls with | some v => if si_kd v 2 = true then some (pc + 1, ls, v :: st, h) else none | none => none) = _
  rw [L]
  all_goals rfl
theorem jm_istore_n {k : Fin 4} {x : Int32} {l l' : List (Nat × Value)} (hy : si_m mi = some y) (he : si_fetch mi pc = some (.istore_n k, 1, q)) (hk : (k : Nat) + 1 ≤ y.2.2.2.1) (hl : jM l ls) (h' : l' = ((k : Nat), Value.int x) :: l.filter (fun q => !(q.1 == (k : Nat)))) (hc : l.all (fun q => q.2.category == 1) = true) (kk : ∀ ls' : si_L, jM l' ls' → az_X P d mi (pc + 1) ls' st h Q) : az_X P d mi pc ls (.int x :: st) h Q := by
  refine az_X_step (pc' := pc + 1) (ls' := si_st1 ls k (.int x)) (st' := st) (h' := h) hy he ?_ (kk _ (jM_st hl h' hc))
  unfold si_step
  dsimp only
  show (if si_kd (.int x) 0 = true ∧ (k : Nat) + (Value.int x).category ≤ y.2.2.2.1 then some (pc + 1, if (Value.int x).category = 2 then si_st2 ls k (.int x) else si_st1 ls k (.int x), st, h) else none) = _
  rw [if_pos ⟨rfl, hk⟩]
  all_goals rfl
theorem jm_istore {k : Nat} {x : Int32} {l l' : List (Nat × Value)} (hy : si_m mi = some y) (he : si_fetch mi pc = some (.istore k, 2, q)) (hk : k + 1 ≤ y.2.2.2.1) (hl : jM l ls) (h' : l' = (k, Value.int x) :: l.filter (fun q => !(q.1 == k))) (hc : l.all (fun q => q.2.category == 1) = true) (kk : ∀ ls' : si_L, jM l' ls' → az_X P d mi (pc + 2) ls' st h Q) : az_X P d mi pc ls (.int x :: st) h Q := by
  refine az_X_step (pc' := pc + 2) (ls' := si_st1 ls k (.int x)) (st' := st) (h' := h) hy he ?_ (kk _ (jM_st hl h' hc))
  unfold si_step
  dsimp only
  show (if si_kd (.int x) 0 = true ∧ (k : Nat) + (Value.int x).category ≤ y.2.2.2.1 then some (pc + 2, if (Value.int x).category = 2 then si_st2 ls k (.int x) else si_st1 ls k (.int x), st, h) else none) = _
  rw [if_pos ⟨rfl, hk⟩]
  all_goals rfl
theorem jm_iinc {k : Nat} {n : Int} {x x' : Int32} {l l' : List (Nat × Value)} (hy : si_m mi = some y) (he : si_fetch mi pc = some (.iinc k n, 3, q)) (hk : k < y.2.2.2.1) (L : si_ld k ls = some (.int x)) (hx : x + Int32.ofInt n = x') (hl : jM l ls) (h' : l' = (k, Value.int x') :: l.filter (fun q => !(q.1 == k))) (hc : l.all (fun q => q.2.category == 1) = true) (kk : ∀ ls' : si_L, jM l' ls' → az_X P d mi (pc + 3) ls' st h Q) : az_X P d mi pc ls st h Q := by
  subst hx
  refine az_X_step (pc' := pc + 3) (ls' := si_st1 ls k (.int (x + Int32.ofInt n))) (st' := st) (h' := h) hy he ?_ (kk _ (jM_st hl h' hc))
  unfold si_step
  dsimp only
  rw [if_pos ⟨rfl, hk⟩, L]
  all_goals rfl
theorem jx_ial {i n : Nat} {lo hi : Int} {x : Int32} (hy : si_m mi = some y) (he : si_fetch mi pc = some (.iaload, 1, q)) (hxa : P.2.1 < P.1) (hH : az_HI P az_tb h) (hi' : i < az_tb.length) (ht : az_tb[i]? = some (.inr (.int, n, lo, hi))) (h0 : 0 ≤ x.toInt) (h1 : x.toInt < n) (kk : ∀ z : Int32, z.toInt = ja h i x.toInt → lo ≤ z.toInt ∧ z.toInt ≤ hi → az_X P d mi (pc + 1) ls (.int z :: st) h Q) : az_X P d mi pc ls (.int x :: .ref (P.1 + i) :: st) h Q := by
  have hc : x.toNatClampNeg = x.toInt.toNat := rfl
  obtain ⟨hs, hr⟩ := hH.2 i _ ht
  have h3 := hr x.toInt.toNat (by show x.toInt.toNat < n; omega)
  unfold az_aok at h3
  rw [if_neg (fun e => by cases e)] at h3
  obtain ⟨z, hz, hz1, hz2⟩ := h3
  have hin : si_in x n = true := by
    unfold si_in
    rw [Bool.and_eq_true, decide_eq_true_eq, decide_eq_true_eq]
    exact ⟨(nm_leI 0 x).mpr (by have : (0 : Int32).toInt = 0 := by decide
                                omega), by omega⟩
  refine az_X_step (pc' := pc + 1) (ls' := ls) (st' := .int z :: st) (h' := h) hy he ?_ (kk z ?_ ⟨hz1, hz2⟩)
  · unfold si_step
    dsimp only
    rw [if_pos rfl, if_neg (show ¬ (P.1 + i = P.2.1) by omega)]
    unfold si_ald
    rw [jix hH hi']
    dsimp only
    rw [hs]
    dsimp only
    rw [if_pos ⟨hin, List.mem_singleton.mpr rfl⟩, hc, hz]
  · show z.toInt = ji h i x.toInt.toNat
    unfold ji
    rw [hz]
end Jm
/-! WHEELS -/
set_option maxRecDepth 100000
theorem jM_pick {l l' : List (Nat × Value)} {ls : si_L} (h : jM l ls) (is : List Nat) (he : is.filterMap (fun i => l[i]?) = l') : jM l' ls := by
  intro q hq
  rw [← he] at hq
  obtain ⟨i, -, hi⟩ := List.mem_filterMap.mp hq
  exact h q (List.mem_of_getElem? hi)
/-- one wheel more is tried: how many ways, the fewest teeth -/
def jw0 (r a c l u b : Int) (s : Int × Int) : Int × Int := if r * a * c / b * b = r * a * c ∧ l ≤ r * a * c / b ∧ r * a * c / b ≤ u then (s.1 + 1, if s.1 = 0 then a + b + c + r * a * c / b else min s.2 (a + b + c + r * a * c / b)) else s
def jwB (r a c l u : Int) : Nat → Int × Int → Int × Int
  | 0, s => s
  | n + 1, s => jw0 r a c l u (l + n) (jwB r a c l u n s)
def jwC (r a l u : Int) (K : Nat) : Nat → Int × Int → Int × Int
  | 0, s => s
  | n + 1, s => jwB r a (l + n) l u K (jwC r a l u K n s)
def jwA (r l u : Int) (K : Nat) : Nat → Int × Int → Int × Int
  | 0, s => s
  | n + 1, s => jwC r (l + n) l u K K (jwA r l u K n s)
theorem jw0_b {r a c l u b : Int} {s : Int × Int} : s.1 ≤ (jw0 r a c l u b s).1 ∧ (jw0 r a c l u b s).1 ≤ s.1 + 1 := by
  unfold jw0
  split
  · constructor <;> show _ ≤ _ <;> dsimp only <;> omega
  · omega
theorem jwB_b {r a c l u : Int} {s : Int × Int} : ∀ n : Nat, s.1 ≤ (jwB r a c l u n s).1 ∧ (jwB r a c l u n s).1 ≤ s.1 + n
  | 0 => by unfold jwB; omega
  | n + 1 => by
    have h1 := jwB_b (r := r) (a := a) (c := c) (l := l) (u := u) (s := s) n
    have h2 := jw0_b (r := r) (a := a) (c := c) (l := l) (u := u) (b := l + n) (s := jwB r a c l u n s)
    unfold jwB
    omega
theorem jwC_b {r a l u : Int} {K : Nat} (hK : K ≤ 35) {s : Int × Int} : ∀ n : Nat, s.1 ≤ (jwC r a l u K n s).1 ∧ (jwC r a l u K n s).1 ≤ s.1 + 35 * n
  | 0 => by unfold jwC; omega
  | n + 1 => by
    have h1 := jwC_b (r := r) (a := a) (l := l) (u := u) hK (s := s) n
    have h2 := jwB_b (r := r) (a := a) (c := l + n) (l := l) (u := u) (s := jwC r a l u K n s) K
    unfold jwC
    omega
theorem jwA_b {r l u : Int} {K : Nat} (hK : K ≤ 35) {s : Int × Int} : ∀ n : Nat, s.1 ≤ (jwA r l u K n s).1 ∧ (jwA r l u K n s).1 ≤ s.1 + 1225 * n
  | 0 => by unfold jwA; omega
  | n + 1 => by
    have h1 := jwA_b (r := r) (l := l) (u := u) hK (s := s) n
    have h2 := jwC_b (r := r) (a := l + n) (l := l) (u := u) hK (s := jwA r l u K n s) K
    unfold jwA
    omega
theorem jwB_big {r a c l u : Int} {s : Int × Int} (hl : 1 ≤ l) (hp : u * u < r * a * c) : ∀ n : Nat, l + n ≤ u + 1 → jwB r a c l u n s = s
  | 0, _ => rfl
  | n + 1, h => by
    unfold jwB
    rw [jwB_big hl hp n (by omega)]
    unfold jw0
    rw [if_neg]
    rintro ⟨h1, h2, h3⟩
    have h4 : r * a * c / (l + n) * (l + n) ≤ u * u := Int.mul_le_mul h3 (by omega) (by omega) (by omega)
    omega
theorem jw0_z {r a c l u b : Int} {s : Int × Int} (hs : 0 ≤ s.1) (h : (jw0 r a c l u b s).1 = 0) : jw0 r a c l u b s = s := by
  unfold jw0 at h ⊢
  split
  · rename_i q
    rw [if_pos q] at h
    have h : s.1 + 1 = 0 := h
    omega
  · rfl
theorem jwB_z {r a c l u : Int} {s : Int × Int} (hs : 0 ≤ s.1) : ∀ n : Nat, (jwB r a c l u n s).1 = 0 → jwB r a c l u n s = s
  | 0, _ => rfl
  | n + 1, h => by
    have b := jwB_b (r := r) (a := a) (c := c) (l := l) (u := u) (s := s) n
    unfold jwB at h ⊢
    have e := jw0_z (by omega) h
    rw [e]
    rw [e] at h
    exact jwB_z hs n h
theorem jwC_z {r a l u : Int} {K : Nat} (hK : K ≤ 35) {s : Int × Int} (hs : 0 ≤ s.1) : ∀ n : Nat, (jwC r a l u K n s).1 = 0 → jwC r a l u K n s = s
  | 0, _ => rfl
  | n + 1, h => by
    have b := jwC_b (r := r) (a := a) (l := l) (u := u) hK (s := s) n
    unfold jwC at h ⊢
    have e := jwB_z (by omega) K h
    rw [e]
    rw [e] at h
    exact jwC_z hK hs n h
theorem jwA_z0 {r l u : Int} {K : Nat} (hK : K ≤ 35) : ∀ n : Nat, (jwA r l u K n (0, -2)).1 = 0 → jwA r l u K n (0, -2) = (0, -2)
  | 0, _ => rfl
  | n + 1, h => by
    have b := jwA_b (r := r) (l := l) (u := u) hK (s := (0, -2)) n
    have b1 : 0 ≤ (jwA r l u K n (0, -2)).1 := b.1
    unfold jwA at h ⊢
    have e := jwC_z hK b1 K h
    rw [e]
    rw [e] at h
    exact jwA_z0 hK n h
theorem jwA_z {r l u : Int} {K : Nat} (hK : K ≤ 35) (h : (jwA r l u K K (0, -2)).1 = 0) : (jwA r l u K K (0, -2)).2 = -2 := by
  rw [jwA_z0 hK K h]
theorem rmin_ok {P : si_P} {d : Nat} {h : si_H} (a b : Int32) : az_X P d 203 0 (lv_args 0 [.int a, .int b]) [] h (fun rv h' => h' = h ∧ jV rv (min a.toInt b.toInt)) := by
  refine az_X_step (pc' := 1) (ls' := [(0, .int a), (1, .int b)]) (st' := [.int a]) (h' := h) rfl rfl rfl ?_
  refine az_X_step (pc' := 2) (ls' := [(0, .int a), (1, .int b)]) (st' := [.int b, .int a]) (h' := h) rfl rfl rfl ?_
  refine jx_ic (t := 9) rfl rfl rfl (fun hc2 => ?_) (fun hc2 => ?_)
  · have g2 := jc2_ge_t hc2
    refine az_X_step (pc' := 10) (ls' := [(0, .int a), (1, .int b)]) (st' := [.int b]) (h' := h) rfl rfl rfl ?_
    refine jx_ret rfl rfl rfl ?_
    exact ⟨rfl, b, rfl, by omega⟩
  · have g2 := jc2_ge_f hc2
    refine az_X_step (pc' := 6) (ls' := [(0, .int a), (1, .int b)]) (st' := [.int a]) (h' := h) rfl rfl rfl ?_
    refine az_X_step (pc' := 10) (ls' := [(0, .int a), (1, .int b)]) (st' := [.int a]) (h' := h) rfl rfl rfl ?_
    refine jx_ret rfl rfl rfl ?_
    exact ⟨rfl, a, rfl, by omega⟩
theorem cmin_ok {P : si_P} {d : Nat} {h : si_H} (a b : Int32) : az_X P d 344 0 (lv_args 0 [.int a, .int b]) [] h (fun rv h' => h' = h ∧ jV rv (min a.toInt b.toInt)) := by
  refine az_X_step (pc' := 1) (ls' := [(0, .int a), (1, .int b)]) (st' := [.int a]) (h' := h) rfl rfl rfl ?_
  refine az_X_step (pc' := 2) (ls' := [(0, .int a), (1, .int b)]) (st' := [.int b, .int a]) (h' := h) rfl rfl rfl ?_
  refine jx_ic (t := 9) rfl rfl rfl (fun hc2 => ?_) (fun hc2 => ?_)
  · have g2 := jc2_gt_t hc2
    refine az_X_step (pc' := 10) (ls' := [(0, .int a), (1, .int b)]) (st' := [.int b]) (h' := h) rfl rfl rfl ?_
    refine jx_ret rfl rfl rfl ?_
    exact ⟨rfl, b, rfl, by omega⟩
  · have g2 := jc2_gt_f hc2
    refine az_X_step (pc' := 6) (ls' := [(0, .int a), (1, .int b)]) (st' := [.int a]) (h' := h) rfl rfl rfl ?_
    refine az_X_step (pc' := 10) (ls' := [(0, .int a), (1, .int b)]) (st' := [.int a]) (h' := h) rfl rfl rfl ?_
    refine jx_ret rfl rfl rfl ?_
    exact ⟨rfl, a, rfl, by omega⟩
theorem twof_ok {P : si_P} {d : Nat} {h : si_H} (a : Int32) : az_X P d 188 0 (lv_args 0 [.int a]) [] h (fun rv h' => h' = h ∧ ∃ z : Int32, rv = some (.int z) ∧ ((z.toInt = 1 ∧ (a.toInt = 0 ∨ a.toInt = 1)) ∨ (z.toInt = 0 ∧ a.toInt ≠ 0 ∧ a.toInt ≠ 1))) := by
  have z0 : (0 : Int32).toInt = 0 := by decide
  have z1 : (1 : Int32).toInt = 1 := by decide
  refine az_X_step (pc' := 1) (ls' := [(0, .int a)]) (st' := [.int a]) (h' := h) rfl rfl rfl ?_
  refine jx_if (t := 9) rfl rfl rfl (fun hc1 => ?_) (fun hc1 => ?_)
  · have g1 := jc1_eq_t hc1
    refine az_X_step (pc' := 10) (ls' := [(0, .int a)]) (st' := [.int 1]) (h' := h) rfl rfl rfl ?_
    refine az_X_step (pc' := 14) (ls' := [(0, .int a)]) (st' := [.int 1]) (h' := h) rfl rfl rfl ?_
    refine jx_retz rfl rfl rfl (by decide) ?_
    exact ⟨rfl, 1, rfl, by omega⟩
  · have g1 := jc1_eq_f hc1
    refine az_X_step (pc' := 5) (ls' := [(0, .int a)]) (st' := [.int a]) (h' := h) rfl rfl rfl ?_
    refine az_X_step (pc' := 6) (ls' := [(0, .int a)]) (st' := [.int 1, .int a]) (h' := h) rfl rfl rfl ?_
    refine jx_ic (t := 13) rfl rfl rfl (fun hc6 => ?_) (fun hc6 => ?_)
    · have g6 := jc2_ne_t hc6
      refine az_X_step (pc' := 14) (ls' := [(0, .int a)]) (st' := [.int 0]) (h' := h) rfl rfl rfl ?_
      refine jx_retz rfl rfl rfl (by decide) ?_
      exact ⟨rfl, 0, rfl, by omega⟩
    · have g6 := jc2_ne_f hc6
      refine az_X_step (pc' := 10) (ls' := [(0, .int a)]) (st' := [.int 1]) (h' := h) rfl rfl rfl ?_
      refine az_X_step (pc' := 14) (ls' := [(0, .int a)]) (st' := [.int 1]) (h' := h) rfl rfl rfl ?_
      refine jx_retz rfl rfl rfl (by decide) ?_
      exact ⟨rfl, 1, rfl, by omega⟩
theorem wB0 {P : si_P} {d : Nat} {h : si_H} {Q : Option Value → si_H → Prop} (l u w A C p : Int32) (hl : 6 ≤ l.toInt) (hlu : l.toInt ≤ u.toInt) (hu : u.toInt ≤ 40) {K : Nat} (hK : l.toInt + K = u.toInt + 1) {r : Int} (ep : p.toInt = r * A.toInt * C.toInt) (bp : 0 ≤ p.toInt ∧ p.toInt ≤ 100000) (bA : A.toInt ≤ 40) (bC : C.toInt ≤ 40) (bA0 : 0 ≤ A.toInt) (bC0 : 0 ≤ C.toInt) (s : Int × Int) (hs : 0 ≤ s.1 ∧ s.1 ≤ 100000)
    (cont : ∀ (N F : Int32) (ls : si_L), jM [(7, .int C), (6, .int A), (5, .int F), (4, .int N), (0, .ref (P.1 + 0)), (1, .int l), (2, .int u), (3, .int w)] ls → N.toInt = (jwB r A.toInt C.toInt l.toInt u.toInt K s).1 → F.toInt = (jwB r A.toInt C.toInt l.toInt u.toInt K s).2 → az_X P (d + 1) 194 129 ls [] h Q) : ∀ (k n : Nat) (N F B : Int32) (ls : si_L), jM [(9, .int B), (8, .int p), (7, .int C), (6, .int A), (5, .int F), (4, .int N), (0, .ref (P.1 + 0)), (1, .int l), (2, .int u), (3, .int w)] ls → B.toInt = l.toInt + n → n + k = K → N.toInt = (jwB r A.toInt C.toInt l.toInt u.toInt n s).1 → F.toInt = (jwB r A.toInt C.toInt l.toInt u.toInt n s).2 → az_X P (d + 1) 194 43 ls [] h Q := by
  have euu : (u * u).toInt = u.toInt * u.toInt := by
    have := nm_mulnn (a := 0) (b := 40) (c := 0) (d := 40) (x := u.toInt) (y := u.toInt) (by decide) (by decide) (by omega) hu (by omega) hu
    exact nm_mul (by omega) (by omega)
  have z1 : (1 : Int32).toInt = 1 := by decide
  intro k
  induction k with
  | zero =>
    intro n N F B ls hl' eB hn eN eF
    have hnK : n = K := by omega
    subst hnK
    refine jm_iload (x := B) rfl rfl (jM_at hl' 0 rfl) ?_
    refine jm_iload_n (x := u) rfl rfl (jM_at hl' 8 rfl) ?_
    refine jx_ic (t := 129) rfl rfl rfl (fun hc46 => ?_) (fun hc46 => ?_)
    · have g46 := jc2_gt_t hc46
      exact cont N F ls (jM_pick hl' [2, 3, 4, 5, 6, 7, 8, 9] rfl) eN eF
    · have g46 := jc2_gt_f hc46
      exact absurd eB (by omega)
  | succ k ih =>
    intro n N F B ls hl' eB hn eN eF
    have bd := jwB_b (r := r) (a := A.toInt) (c := C.toInt) (l := l.toInt) (u := u.toInt) (s := s) n
    have eB1 : (B + 1).toInt = l.toInt + (n + 1 : Nat) := by rw [nm_add (by omega) (by omega)]; omega
    have nx : jwB r A.toInt C.toInt l.toInt u.toInt (n + 1) s = jw0 r A.toInt C.toInt l.toInt u.toInt B.toInt (jwB r A.toInt C.toInt l.toInt u.toInt n s) := by rw [eB]; rfl
    have dq := jemx (a := p.toInt) (m := B.toInt) (by omega)
    have dn : 0 ≤ p.toInt / B.toInt := Int.ediv_nonneg bp.1 (by omega)
    have dl : p.toInt / B.toInt ≤ p.toInt := Int.ediv_le_self _ bp.1
    have em : ∀ z : Int32, z.toInt = p.toInt / B.toInt → (z * B).toInt = p.toInt / B.toInt * B.toInt := by
      intro z hz
      rw [nm_mul (by rw [hz, Int.mul_comm]; omega) (by rw [hz, Int.mul_comm]; omega), hz]
    refine jm_iload (x := B) rfl rfl (jM_at hl' 0 rfl) ?_
    refine jm_iload_n (x := u) rfl rfl (jM_at hl' 8 rfl) ?_
    refine jx_ic (t := 129) rfl rfl rfl (fun hc46 => ?_) (fun hc46 => ?_)
    · have g46 := jc2_gt_t hc46
      exact absurd eB (by omega)
    · have g46 := jc2_gt_f hc46
      refine jm_iload (x := p) rfl rfl (jM_at hl' 1 rfl) ?_
      refine jm_iload_n (x := u) rfl rfl (jM_at hl' 8 rfl) ?_
      refine jm_iload_n (x := u) rfl rfl (jM_at hl' 8 rfl) ?_
      refine az_X_step (pc' := 54) (ls' := ls) (st' := [.int (u * u), .int p]) (h' := h) rfl rfl rfl ?_
      refine jx_ic (t := 129) rfl rfl rfl (fun hc54 => ?_) (fun hc54 => ?_)
      · have g54 := jc2_gt_t hc54
        have big := jwB_big (r := r) (a := A.toInt) (c := C.toInt) (l := l.toInt) (u := u.toInt) (s := s) (by omega) (by rw [← ep, ← euu]; exact g54)
        rw [big n (by omega)] at eN eF
        exact cont N F ls (jM_pick hl' [2, 3, 4, 5, 6, 7, 8, 9] rfl) (by rw [big K (by omega)]; exact eN) (by rw [big K (by omega)]; exact eF)
      · have g54 := jc2_gt_f hc54
        refine jm_iload (x := p) rfl rfl (jM_at hl' 1 rfl) ?_
        refine jm_iload (x := B) rfl rfl (jM_at hl' 0 rfl) ?_
        refine az_X_call (m' := 199) (as := [.int p, .int B]) (rest := []) rfl rfl rfl rfl rfl rfl ?_
        refine (through_ok p B bp.1 (by omega)).mono ?_
        rintro rv61 h61 ⟨q61, z61, rfl, ez61⟩
        subst h61
        show az_X P _ 194 64 ls [.int z61] _ _
        refine jm_istore (l' := [(10, .int z61), (9, .int B), (8, .int p), (7, .int C), (6, .int A), (5, .int F), (4, .int N), (0, .ref (P.1 + 0)), (1, .int l), (2, .int u), (3, .int w)]) rfl rfl (by decide) hl' rfl rfl (fun ls64_1 hl64_1 => ?_)
        refine jm_iload (x := z61) rfl rfl (jM_at hl64_1 0 rfl) ?_
        refine jm_iload (x := B) rfl rfl (jM_at hl64_1 1 rfl) ?_
        refine az_X_step (pc' := 71) (ls' := ls64_1) (st' := [.int (z61 * B)]) (h' := h) rfl rfl rfl ?_
        refine jm_iload (x := p) rfl rfl (jM_at hl64_1 2 rfl) ?_
        refine jx_ic (t := 123) rfl rfl rfl (fun hc73 => ?_) (fun hc73 => ?_)
        · have g73 := jc2_ne_t hc73
          refine jm_iinc (x := B) (x' := B + 1) (l' := [(9, .int (B + 1)), (10, .int z61), (8, .int p), (7, .int C), (6, .int A), (5, .int F), (4, .int N), (0, .ref (P.1 + 0)), (1, .int l), (2, .int u), (3, .int w)]) rfl rfl (by decide) (jM_at hl64_1 1 rfl) rfl hl64_1 rfl rfl (fun ls123_2 hl123_2 => ?_)
          refine az_X_step (pc' := 43) (ls' := ls123_2) (st' := []) (h' := h) rfl rfl rfl ?_
          refine ih (n + 1) N F (B + 1) ls123_2 (jM_pick hl123_2 [0, 2, 3, 4, 5, 6, 7, 8, 9, 10] rfl) eB1 (by omega) ?_ ?_
          · rw [nx]
            unfold jw0
            rw [if_neg (fun q => g73 (by rw [em z61 ez61]; rw [ep]; exact q.1))]
            exact eN
          · rw [nx]
            unfold jw0
            rw [if_neg (fun q => g73 (by rw [em z61 ez61]; rw [ep]; exact q.1))]
            exact eF
        · have g73 := jc2_ne_f hc73
          refine jm_iload (x := z61) rfl rfl (jM_at hl64_1 0 rfl) ?_
          refine jm_iload_n (x := l) rfl rfl (jM_at hl64_1 8 rfl) ?_
          refine jx_ic (t := 123) rfl rfl rfl (fun hc79 => ?_) (fun hc79 => ?_)
          · have g79 := jc2_lt_t hc79
            refine jm_iinc (x := B) (x' := B + 1) (l' := [(9, .int (B + 1)), (10, .int z61), (8, .int p), (7, .int C), (6, .int A), (5, .int F), (4, .int N), (0, .ref (P.1 + 0)), (1, .int l), (2, .int u), (3, .int w)]) rfl rfl (by decide) (jM_at hl64_1 1 rfl) rfl hl64_1 rfl rfl (fun ls123_3 hl123_3 => ?_)
            refine az_X_step (pc' := 43) (ls' := ls123_3) (st' := []) (h' := h) rfl rfl rfl ?_
            refine ih (n + 1) N F (B + 1) ls123_3 (jM_pick hl123_3 [0, 2, 3, 4, 5, 6, 7, 8, 9, 10] rfl) eB1 (by omega) ?_ ?_
            · rw [nx]
              unfold jw0
              rw [if_neg (fun q => absurd q.2.1 (by rw [← ep, ← ez61]; omega))]
              exact eN
            · rw [nx]
              unfold jw0
              rw [if_neg (fun q => absurd q.2.1 (by rw [← ep, ← ez61]; omega))]
              exact eF
          · have g79 := jc2_lt_f hc79
            refine jm_iload (x := z61) rfl rfl (jM_at hl64_1 0 rfl) ?_
            refine jm_iload_n (x := u) rfl rfl (jM_at hl64_1 9 rfl) ?_
            refine jx_ic (t := 123) rfl rfl rfl (fun hc85 => ?_) (fun hc85 => ?_)
            · have g85 := jc2_gt_t hc85
              refine jm_iinc (x := B) (x' := B + 1) (l' := [(9, .int (B + 1)), (10, .int z61), (8, .int p), (7, .int C), (6, .int A), (5, .int F), (4, .int N), (0, .ref (P.1 + 0)), (1, .int l), (2, .int u), (3, .int w)]) rfl rfl (by decide) (jM_at hl64_1 1 rfl) rfl hl64_1 rfl rfl (fun ls123_4 hl123_4 => ?_)
              refine az_X_step (pc' := 43) (ls' := ls123_4) (st' := []) (h' := h) rfl rfl rfl ?_
              refine ih (n + 1) N F (B + 1) ls123_4 (jM_pick hl123_4 [0, 2, 3, 4, 5, 6, 7, 8, 9, 10] rfl) eB1 (by omega) ?_ ?_
              · rw [nx]
                unfold jw0
                rw [if_neg (fun q => absurd q.2.2 (by rw [← ep, ← ez61]; omega))]
                exact eN
              · rw [nx]
                unfold jw0
                rw [if_neg (fun q => absurd q.2.2 (by rw [← ep, ← ez61]; omega))]
                exact eF
            · have g85 := jc2_gt_f hc85
              refine jm_iload (x := A) rfl rfl (jM_at hl64_1 4 rfl) ?_
              refine jm_iload (x := B) rfl rfl (jM_at hl64_1 1 rfl) ?_
              refine az_X_step (pc' := 93) (ls' := ls64_1) (st' := [.int (A + B)]) (h' := h) rfl rfl rfl ?_
              refine jm_iload (x := C) rfl rfl (jM_at hl64_1 3 rfl) ?_
              refine az_X_step (pc' := 96) (ls' := ls64_1) (st' := [.int ((A + B) + C)]) (h' := h) rfl rfl rfl ?_
              refine jm_iload (x := z61) rfl rfl (jM_at hl64_1 0 rfl) ?_
              refine az_X_step (pc' := 99) (ls' := ls64_1) (st' := [.int (((A + B) + C) + z61)]) (h' := h) rfl rfl rfl ?_
              refine jm_istore (l' := [(11, .int (((A + B) + C) + z61)), (10, .int z61), (9, .int B), (8, .int p), (7, .int C), (6, .int A), (5, .int F), (4, .int N), (0, .ref (P.1 + 0)), (1, .int l), (2, .int u), (3, .int w)]) rfl rfl (by decide) hl64_1 rfl rfl (fun ls99_5 hl99_5 => ?_)
              refine jm_iload (x := N) rfl rfl (jM_at hl99_5 7 rfl) ?_
              refine jx_if (t := 111) rfl rfl rfl (fun hc103 => ?_) (fun hc103 => ?_)
              · have g103 := jc1_ne_t hc103
                refine jm_iload (x := F) rfl rfl (jM_at hl99_5 6 rfl) ?_
                refine jm_iload (x := ((A + B) + C) + z61) rfl rfl (jM_at hl99_5 0 rfl) ?_
                refine az_X_call (m' := 344) (as := [.int F, .int (((A + B) + C) + z61)]) (rest := []) rfl rfl rfl rfl rfl rfl ?_
                refine (cmin_ok F (((A + B) + C) + z61)).mono ?_
                rintro rv115 h115 ⟨q115, z115, rfl, ez115⟩
                subst h115
                show az_X P _ 194 118 ls99_5 [.int z115] _ _
                refine jm_istore (l' := [(5, .int z115), (11, .int (((A + B) + C) + z61)), (10, .int z61), (9, .int B), (8, .int p), (7, .int C), (6, .int A), (4, .int N), (0, .ref (P.1 + 0)), (1, .int l), (2, .int u), (3, .int w)]) rfl rfl (by decide) hl99_5 rfl rfl (fun ls118_6 hl118_6 => ?_)
                refine jm_iinc (x := N) (x' := N + 1) (l' := [(4, .int (N + 1)), (5, .int z115), (11, .int (((A + B) + C) + z61)), (10, .int z61), (9, .int B), (8, .int p), (7, .int C), (6, .int A), (0, .ref (P.1 + 0)), (1, .int l), (2, .int u), (3, .int w)]) rfl rfl (by decide) (jM_at hl118_6 7 rfl) rfl hl118_6 rfl rfl (fun ls120_7 hl120_7 => ?_)
                refine jm_iinc (x := B) (x' := B + 1) (l' := [(9, .int (B + 1)), (4, .int (N + 1)), (5, .int z115), (11, .int (((A + B) + C) + z61)), (10, .int z61), (8, .int p), (7, .int C), (6, .int A), (0, .ref (P.1 + 0)), (1, .int l), (2, .int u), (3, .int w)]) rfl rfl (by decide) (jM_at hl120_7 4 rfl) rfl hl120_7 rfl rfl (fun ls123_8 hl123_8 => ?_)
                refine az_X_step (pc' := 43) (ls' := ls123_8) (st' := []) (h' := h) rfl rfl rfl ?_
                have q : r * A.toInt * C.toInt / B.toInt * B.toInt = r * A.toInt * C.toInt ∧ l.toInt ≤ r * A.toInt * C.toInt / B.toInt ∧ r * A.toInt * C.toInt / B.toInt ≤ u.toInt := by
                  rw [← ep, ← ez61]
                  rw [em z61 ez61, ← ez61] at g73
                  exact ⟨g73, by omega, by omega⟩
                have e1 : (A + B).toInt = A.toInt + B.toInt := nm_add (by omega) (by omega)
                have e2 : (A + B + C).toInt = A.toInt + B.toInt + C.toInt := by rw [nm_add (by omega) (by omega), e1]
                have e3 : (A + B + C + z61).toInt = A.toInt + B.toInt + C.toInt + r * A.toInt * C.toInt / B.toInt := by rw [nm_add (by omega) (by omega), e2, ez61, ep]
                refine ih (n + 1) (N + 1) z115 (B + 1) ls123_8 (jM_pick hl123_8 [0, 5, 6, 7, 2, 1, 8, 9, 10, 11] rfl) eB1 (by omega) ?_ ?_
                · rw [nx]
                  unfold jw0
                  rw [if_pos q]
                  show (N + 1).toInt = _ + 1
                  rw [nm_add (by omega) (by omega), eN, z1]
                · rw [nx]
                  unfold jw0
                  rw [if_pos q]
                  show _ = if _ then _ else _
                  rw [if_neg (by rw [← eN]; exact g103), ez115, e3, eF]
              · have g103 := jc1_ne_f hc103
                refine jm_iload (x := ((A + B) + C) + z61) rfl rfl (jM_at hl99_5 0 rfl) ?_
                refine az_X_step (pc' := 118) (ls' := ls99_5) (st' := [.int (((A + B) + C) + z61)]) (h' := h) rfl rfl rfl ?_
                refine jm_istore (l' := [(5, .int (((A + B) + C) + z61)), (11, .int (((A + B) + C) + z61)), (10, .int z61), (9, .int B), (8, .int p), (7, .int C), (6, .int A), (4, .int N), (0, .ref (P.1 + 0)), (1, .int l), (2, .int u), (3, .int w)]) rfl rfl (by decide) hl99_5 rfl rfl (fun ls118_9 hl118_9 => ?_)
                refine jm_iinc (x := N) (x' := N + 1) (l' := [(4, .int (N + 1)), (5, .int (((A + B) + C) + z61)), (11, .int (((A + B) + C) + z61)), (10, .int z61), (9, .int B), (8, .int p), (7, .int C), (6, .int A), (0, .ref (P.1 + 0)), (1, .int l), (2, .int u), (3, .int w)]) rfl rfl (by decide) (jM_at hl118_9 7 rfl) rfl hl118_9 rfl rfl (fun ls120_10 hl120_10 => ?_)
                refine jm_iinc (x := B) (x' := B + 1) (l' := [(9, .int (B + 1)), (4, .int (N + 1)), (5, .int (((A + B) + C) + z61)), (11, .int (((A + B) + C) + z61)), (10, .int z61), (8, .int p), (7, .int C), (6, .int A), (0, .ref (P.1 + 0)), (1, .int l), (2, .int u), (3, .int w)]) rfl rfl (by decide) (jM_at hl120_10 4 rfl) rfl hl120_10 rfl rfl (fun ls123_11 hl123_11 => ?_)
                refine az_X_step (pc' := 43) (ls' := ls123_11) (st' := []) (h' := h) rfl rfl rfl ?_
                have q : r * A.toInt * C.toInt / B.toInt * B.toInt = r * A.toInt * C.toInt ∧ l.toInt ≤ r * A.toInt * C.toInt / B.toInt ∧ r * A.toInt * C.toInt / B.toInt ≤ u.toInt := by
                  rw [← ep, ← ez61]
                  rw [em z61 ez61, ← ez61] at g73
                  exact ⟨g73, by omega, by omega⟩
                have e1 : (A + B).toInt = A.toInt + B.toInt := nm_add (by omega) (by omega)
                have e2 : (A + B + C).toInt = A.toInt + B.toInt + C.toInt := by rw [nm_add (by omega) (by omega), e1]
                have e3 : (A + B + C + z61).toInt = A.toInt + B.toInt + C.toInt + r * A.toInt * C.toInt / B.toInt := by rw [nm_add (by omega) (by omega), e2, ez61, ep]
                refine ih (n + 1) (N + 1) (((A + B) + C) + z61) (B + 1) ls123_11 (jM_pick hl123_11 [0, 5, 6, 7, 2, 1, 8, 9, 10, 11] rfl) eB1 (by omega) ?_ ?_
                · rw [nx]
                  unfold jw0
                  rw [if_pos q]
                  show (N + 1).toInt = _ + 1
                  rw [nm_add (by omega) (by omega), eN, z1]
                · rw [nx]
                  unfold jw0
                  rw [if_pos q]
                  show _ = if _ then _ else _
                  rw [if_pos (by rw [← eN]; exact g103), e3]
theorem wC0 {P : si_P} {d : Nat} {h : si_H} (hH : az_HI P az_tb h) {Q : Option Value → si_H → Prop} (l u w A : Int32) (hl : 6 ≤ l.toInt) (hlu : l.toInt ≤ u.toInt) (hu : u.toInt ≤ 40) {K : Nat} (hK : l.toInt + K = u.toInt + 1) (bA : A.toInt ≤ 40) (bA0 : 0 ≤ A.toInt) (s : Int × Int) (hs : 0 ≤ s.1 ∧ s.1 ≤ 50000)
    (cont : ∀ (N F : Int32) (ls : si_L), jM [(6, .int A), (5, .int F), (4, .int N), (0, .ref (P.1 + 0)), (1, .int l), (2, .int u), (3, .int w)] ls → N.toInt = (jwC (ja h 1 1) A.toInt l.toInt u.toInt K K s).1 → F.toInt = (jwC (ja h 1 1) A.toInt l.toInt u.toInt K K s).2 → az_X P (d + 1) 194 135 ls [] h Q) : ∀ (k n : Nat) (N F C : Int32) (ls : si_L), jM [(7, .int C), (6, .int A), (5, .int F), (4, .int N), (0, .ref (P.1 + 0)), (1, .int l), (2, .int u), (3, .int w)] ls → C.toInt = l.toInt + n → n + k = K → N.toInt = (jwC (ja h 1 1) A.toInt l.toInt u.toInt K n s).1 → F.toInt = (jwC (ja h 1 1) A.toInt l.toInt u.toInt K n s).2 → az_X P (d + 1) 194 19 ls [] h Q := by
  obtain ⟨⟨R, hR, eR⟩, bR⟩ := jt_ok hH (i := 1) (k := 1) rfl
  have eR' : ja h 1 1 = R.toInt := eR.symm
  have br : 2 ≤ R.toInt ∧ R.toInt ≤ 24 := by rw [eR]; exact bR
  have z1 : (1 : Int32).toInt = 1 := by decide
  intro k
  induction k with
  | zero =>
    intro n N F C ls hl' eC hn eN eF
    have hnK : n = K := by omega
    subst hnK
    refine jm_iload (x := C) rfl rfl (jM_at hl' 0 rfl) ?_
    refine jm_iload_n (x := u) rfl rfl (jM_at hl' 6 rfl) ?_
    refine jx_ic (t := 135) rfl rfl rfl (fun hc22 => ?_) (fun hc22 => ?_)
    · have g22 := jc2_gt_t hc22
      exact cont N F ls (jM_pick hl' [1, 2, 3, 4, 5, 6, 7] rfl) eN eF
    · have g22 := jc2_gt_f hc22
      exact absurd eC (by omega)
  | succ k ih =>
    intro n N F C ls hl' eC hn eN eF
    have bd := jwC_b (r := ja h 1 1) (a := A.toInt) (l := l.toInt) (u := u.toInt) (K := K) (by omega) (s := s) n
    have m1 := nm_mulnn (a := 2) (b := 24) (c := 0) (d := 40) (x := R.toInt) (y := A.toInt) (by decide) (by decide) br.1 br.2 bA0 bA
    have e1 : (R * A).toInt = R.toInt * A.toInt := nm_mul (by omega) (by omega)
    have m2 := nm_mulnn (a := 0) (b := 960) (c := 0) (d := 40) (x := R.toInt * A.toInt) (y := C.toInt) (by decide) (by decide) (by omega) (by omega) (by omega) (by omega)
    have e2 : (R * A * C).toInt = ja h 1 1 * A.toInt * C.toInt := by rw [nm_mul (by rw [e1]; omega) (by rw [e1]; omega), e1, eR']
    have eC1 : (C + 1).toInt = l.toInt + (n + 1 : Nat) := by rw [nm_add (by omega) (by omega)]; omega
    refine jm_iload (x := C) rfl rfl (jM_at hl' 0 rfl) ?_
    refine jm_iload_n (x := u) rfl rfl (jM_at hl' 6 rfl) ?_
    refine jx_ic (t := 135) rfl rfl rfl (fun hc22 => ?_) (fun hc22 => ?_)
    · have g22 := jc2_gt_t hc22
      exact absurd eC (by omega)
    · have g22 := jc2_gt_f hc22
      refine jm_aload_n (x := P.1 + 0) rfl rfl (jM_at hl' 4 rfl) ?_
      refine jx_gf (i := 0) rfl rfl hH (by decide) (hH.2 0 _ rfl).1 rfl (jx_rf hH rfl rfl) ?_
      refine jx_gf (i := 1) rfl rfl hH (by decide) (hH.2 1 _ rfl).1 rfl hR ?_
      refine jm_iload (x := A) rfl rfl (jM_at hl' 1 rfl) ?_
      refine az_X_step (pc' := 35) (ls' := ls) (st' := [.int (R * A)]) (h' := h) rfl rfl rfl ?_
      refine jm_iload (x := C) rfl rfl (jM_at hl' 0 rfl) ?_
      refine az_X_step (pc' := 38) (ls' := ls) (st' := [.int ((R * A) * C)]) (h' := h) rfl rfl rfl ?_
      refine jm_istore (l' := [(8, .int ((R * A) * C)), (7, .int C), (6, .int A), (5, .int F), (4, .int N), (0, .ref (P.1 + 0)), (1, .int l), (2, .int u), (3, .int w)]) rfl rfl (by decide) hl' rfl rfl (fun ls38_1 hl38_1 => ?_)
      refine jm_iload_n (x := l) rfl rfl (jM_at hl38_1 6 rfl) ?_
      refine jm_istore (l' := [(9, .int l), (8, .int ((R * A) * C)), (7, .int C), (6, .int A), (5, .int F), (4, .int N), (0, .ref (P.1 + 0)), (1, .int l), (2, .int u), (3, .int w)]) rfl rfl (by decide) hl38_1 rfl rfl (fun ls41_2 hl41_2 => ?_)
      refine wB0 l u w A C (R * A * C) hl hlu hu hK (r := ja h 1 1) e2 (by rw [e2, eR']; omega) bA (by omega) bA0 (by omega) (jwC (ja h 1 1) A.toInt l.toInt u.toInt K n s) (by omega) (fun N1 F1 ls1 hl1 eN1 eF1 => ?_) K 0 N F l ls41_2 (jM_pick hl41_2 [0, 1, 2, 3, 4, 5, 6, 7, 8, 9] rfl) (by omega) (by omega) eN eF
      refine jm_iinc (x := C) (x' := C + 1) (l' := [(7, .int (C + 1)), (6, .int A), (5, .int F1), (4, .int N1), (0, .ref (P.1 + 0)), (1, .int l), (2, .int u), (3, .int w)]) rfl rfl (by decide) (jM_at hl1 0 rfl) rfl hl1 rfl rfl (fun ls129_1 hl129_1 => ?_)
      refine az_X_step (pc' := 19) (ls' := ls129_1) (st' := []) (h' := h) rfl rfl rfl ?_
      refine ih (n + 1) N1 F1 (C + 1) ls129_1 (jM_pick hl129_1 [0, 1, 2, 3, 4, 5, 6, 7] rfl) eC1 (by omega) ?_ ?_
      · show _ = (jwB _ _ _ _ _ _ _).1
        rw [← eC]
        exact eN1
      · show _ = (jwB _ _ _ _ _ _ _).2
        rw [← eC]
        exact eF1
theorem wA0 {P : si_P} {d : Nat} {h : si_H} (hH : az_HI P az_tb h) {Q : Option Value → si_H → Prop} (l u w : Int32) (hl : 6 ≤ l.toInt) (hlu : l.toInt ≤ u.toInt) (hu : u.toInt ≤ 40) {K : Nat} (hK : l.toInt + K = u.toInt + 1)
    (cont : ∀ (N F : Int32) (ls : si_L), jM [(5, .int F), (4, .int N), (0, .ref (P.1 + 0)), (1, .int l), (2, .int u), (3, .int w)] ls → N.toInt = (jwA (ja h 1 1) l.toInt u.toInt K K (0, -2)).1 → F.toInt = (jwA (ja h 1 1) l.toInt u.toInt K K (0, -2)).2 → az_X P (d + 1) 194 141 ls [] h Q) : ∀ (k n : Nat) (N F A : Int32) (ls : si_L), jM [(6, .int A), (5, .int F), (4, .int N), (0, .ref (P.1 + 0)), (1, .int l), (2, .int u), (3, .int w)] ls → A.toInt = l.toInt + n → n + k = K → N.toInt = (jwA (ja h 1 1) l.toInt u.toInt K n (0, -2)).1 → F.toInt = (jwA (ja h 1 1) l.toInt u.toInt K n (0, -2)).2 → az_X P (d + 1) 194 10 ls [] h Q := by
  have z1 : (1 : Int32).toInt = 1 := by decide
  intro k
  induction k with
  | zero =>
    intro n N F A ls hl' eA hn eN eF
    have hnK : n = K := by omega
    subst hnK
    refine jm_iload (x := A) rfl rfl (jM_at hl' 0 rfl) ?_
    refine jm_iload_n (x := u) rfl rfl (jM_at hl' 5 rfl) ?_
    refine jx_ic (t := 141) rfl rfl rfl (fun hc13 => ?_) (fun hc13 => ?_)
    · have g13 := jc2_gt_t hc13
      exact cont N F ls (jM_pick hl' [1, 2, 3, 4, 5, 6] rfl) eN eF
    · have g13 := jc2_gt_f hc13
      exact absurd eA (by omega)
  | succ k ih =>
    intro n N F A ls hl' eA hn eN eF
    have bd := jwA_b (r := ja h 1 1) (l := l.toInt) (u := u.toInt) (K := K) (by omega) (s := (0, -2)) n
    have bd2 : (jwA (ja h 1 1) l.toInt u.toInt K n (0, -2)).1 ≤ 0 + 1225 * n := bd.2
    have bd1 : 0 ≤ (jwA (ja h 1 1) l.toInt u.toInt K n (0, -2)).1 := bd.1
    have eA1 : (A + 1).toInt = l.toInt + (n + 1 : Nat) := by rw [nm_add (by omega) (by omega)]; omega
    refine jm_iload (x := A) rfl rfl (jM_at hl' 0 rfl) ?_
    refine jm_iload_n (x := u) rfl rfl (jM_at hl' 5 rfl) ?_
    refine jx_ic (t := 141) rfl rfl rfl (fun hc13 => ?_) (fun hc13 => ?_)
    · have g13 := jc2_gt_t hc13
      exact absurd eA (by omega)
    · have g13 := jc2_gt_f hc13
      refine jm_iload_n (x := l) rfl rfl (jM_at hl' 4 rfl) ?_
      refine jm_istore (l' := [(7, .int l), (6, .int A), (5, .int F), (4, .int N), (0, .ref (P.1 + 0)), (1, .int l), (2, .int u), (3, .int w)]) rfl rfl (by decide) hl' rfl rfl (fun ls17_1 hl17_1 => ?_)
      refine wC0 hH l u w A hl hlu hu hK (by omega) (by omega) (jwA (ja h 1 1) l.toInt u.toInt K n (0, -2)) (by omega) (fun N1 F1 ls1 hl1 eN1 eF1 => ?_) K 0 N F l ls17_1 (jM_pick hl17_1 [0, 1, 2, 3, 4, 5, 6, 7] rfl) (by omega) (by omega) eN eF
      refine jm_iinc (x := A) (x' := A + 1) (l' := [(6, .int (A + 1)), (5, .int F1), (4, .int N1), (0, .ref (P.1 + 0)), (1, .int l), (2, .int u), (3, .int w)]) rfl rfl (by decide) (jM_at hl1 0 rfl) rfl hl1 rfl rfl (fun ls135_1 hl135_1 => ?_)
      refine az_X_step (pc' := 10) (ls' := ls135_1) (st' := []) (h' := h) rfl rfl rfl ?_
      refine ih (n + 1) N1 F1 (A + 1) ls135_1 (jM_pick hl135_1 [0, 1, 2, 3, 4, 5, 6] rfl) eA1 (by omega) ?_ ?_
      · show _ = (jwC _ _ _ _ _ _ _).1
        rw [← eA]
        exact eN1
      · show _ = (jwC _ _ _ _ _ _ _).2
        rw [← eA]
        exact eF1
def jwF (r l u w : Int) : Int := if 6 ≤ l ∧ l ≤ u ∧ u ≤ 40 ∧ (w = 0 ∨ w = 1) then (if w = 0 then (jwA r l u (u + 1 - l).toNat (u + 1 - l).toNat (0, -2)).1 else (jwA r l u (u + 1 - l).toNat (u + 1 - l).toNat (0, -2)).2) else -1
theorem cw_ok {P : si_P} {d : Nat} {h : si_H} (hH : az_HI P az_tb h) (l u w : Int32) (hl : 6 ≤ l.toInt) (hlu : l.toInt ≤ u.toInt) (hu : u.toInt ≤ 40) : az_X P (d + 1) 194 0 (lv_args 0 [.ref (P.1 + 0), .int l, .int u, .int w]) [] h (fun rv h' => h' = h ∧ jV rv (if w.toInt = 0 then (jwA (ja h 1 1) l.toInt u.toInt (u.toInt + 1 - l.toInt).toNat (u.toInt + 1 - l.toInt).toNat (0, -2)).1 else (jwA (ja h 1 1) l.toInt u.toInt (u.toInt + 1 - l.toInt).toNat (u.toInt + 1 - l.toInt).toNat (0, -2)).2)) := by
  have hl' : jM [(0, .ref (P.1 + 0)), (1, .int l), (2, .int u), (3, .int w)] (lv_args 0 [.ref (P.1 + 0), .int l, .int u, .int w]) := jM_args [0, 1, 2, 3] rfl (by decide)
  generalize lv_args 0 [.ref (P.1 + 0), .int l, .int u, .int w] = ls at hl'
  refine az_X_step (pc' := 1) (ls' := ls) (st' := [.int 0]) (h' := h) rfl rfl rfl ?_
  refine jm_istore (l' := [(4, .int 0), (0, .ref (P.1 + 0)), (1, .int l), (2, .int u), (3, .int w)]) rfl rfl (by decide) hl' rfl rfl (fun ls1_1 hl1_1 => ?_)
  refine az_X_step (pc' := 5) (ls' := ls1_1) (st' := [.int (-2)]) (h' := h) rfl rfl rfl ?_
  refine jm_istore (l' := [(5, .int (-2)), (4, .int 0), (0, .ref (P.1 + 0)), (1, .int l), (2, .int u), (3, .int w)]) rfl rfl (by decide) hl1_1 rfl rfl (fun ls5_2 hl5_2 => ?_)
  refine jm_iload_n (x := l) rfl rfl (jM_at hl5_2 3 rfl) ?_
  refine jm_istore (l' := [(6, .int l), (5, .int (-2)), (4, .int 0), (0, .ref (P.1 + 0)), (1, .int l), (2, .int u), (3, .int w)]) rfl rfl (by decide) hl5_2 rfl rfl (fun ls8_3 hl8_3 => ?_)
  refine wA0 hH l u w hl hlu hu (K := (u.toInt + 1 - l.toInt).toNat) (by omega) (fun N1 F1 ls1 hl1 eN1 eF1 => ?_) (u.toInt + 1 - l.toInt).toNat 0 0 (-2) l ls8_3 (jM_pick hl8_3 [0, 1, 2, 3, 4, 5, 6] rfl) (by omega) (by omega) (by show (0 : Int32).toInt = 0; decide) (by show (-2 : Int32).toInt = -2; decide)
  refine jm_iload_n (x := w) rfl rfl (jM_at hl1 5 rfl) ?_
  refine jx_if (t := 150) rfl rfl rfl (fun hc142 => ?_) (fun hc142 => ?_)
  · have g142 := jc1_ne_t hc142
    refine jm_iload (x := F1) rfl rfl (jM_at hl1 0 rfl) ?_
    refine jx_ret rfl rfl rfl ?_
    exact ⟨rfl, F1, rfl, by rw [if_neg g142]; exact eF1⟩
  · have g142 := jc1_ne_f hc142
    refine jm_iload (x := N1) rfl rfl (jM_at hl1 1 rfl) ?_
    refine az_X_step (pc' := 152) (ls' := ls1) (st' := [.int N1]) (h' := h) rfl rfl rfl ?_
    refine jx_ret rfl rfl rfl ?_
    exact ⟨rfl, N1, rfl, by rw [if_pos g142]; exact eN1⟩
theorem wheels0_ok {P : si_P} {d : Nat} {h : si_H} (hH : az_HI P az_tb h) (l u w : Int32) : az_X P (d + 2) 166 0 (lv_args 0 [.ref (P.1 + 0), .int l, .int u, .int w]) [] h (fun rv h' => h' = h ∧ jV rv (jwF (ja h 1 1) l.toInt u.toInt w.toInt)) := by
  have z6 : (6 : Int32).toInt = 6 := by decide
  have z40 : (40 : Int32).toInt = 40 := by decide
  refine az_X_step (pc' := 1) (ls' := [(0, .ref (P.1 + 0)), (1, .int l), (2, .int u), (3, .int w)]) (st' := [.int l]) (h' := h) rfl rfl rfl ?_
  refine az_X_step (pc' := 3) (ls' := [(0, .ref (P.1 + 0)), (1, .int l), (2, .int u), (3, .int w)]) (st' := [.int 6, .int l]) (h' := h) rfl rfl rfl ?_
  refine jx_ic (t := 24) rfl rfl rfl (fun hc3 => ?_) (fun hc3 => ?_)
  · have g3 := jc2_lt_t hc3
    refine az_X_step (pc' := 25) (ls' := [(0, .ref (P.1 + 0)), (1, .int l), (2, .int u), (3, .int w)]) (st' := [.int (-1)]) (h' := h) rfl rfl rfl ?_
    refine jx_ret rfl rfl rfl ?_
    exact ⟨rfl, -1, rfl, by unfold jwF; rw [if_neg (by omega)]; decide⟩
  · have g3 := jc2_lt_f hc3
    refine az_X_step (pc' := 7) (ls' := [(0, .ref (P.1 + 0)), (1, .int l), (2, .int u), (3, .int w)]) (st' := [.int u]) (h' := h) rfl rfl rfl ?_
    refine az_X_step (pc' := 9) (ls' := [(0, .ref (P.1 + 0)), (1, .int l), (2, .int u), (3, .int w)]) (st' := [.int 40, .int u]) (h' := h) rfl rfl rfl ?_
    refine jx_ic (t := 24) rfl rfl rfl (fun hc9 => ?_) (fun hc9 => ?_)
    · have g9 := jc2_gt_t hc9
      refine az_X_step (pc' := 25) (ls' := [(0, .ref (P.1 + 0)), (1, .int l), (2, .int u), (3, .int w)]) (st' := [.int (-1)]) (h' := h) rfl rfl rfl ?_
      refine jx_ret rfl rfl rfl ?_
      exact ⟨rfl, -1, rfl, by unfold jwF; rw [if_neg (by omega)]; decide⟩
    · have g9 := jc2_gt_f hc9
      refine az_X_step (pc' := 13) (ls' := [(0, .ref (P.1 + 0)), (1, .int l), (2, .int u), (3, .int w)]) (st' := [.int u]) (h' := h) rfl rfl rfl ?_
      refine az_X_step (pc' := 14) (ls' := [(0, .ref (P.1 + 0)), (1, .int l), (2, .int u), (3, .int w)]) (st' := [.int l, .int u]) (h' := h) rfl rfl rfl ?_
      refine jx_ic (t := 24) rfl rfl rfl (fun hc14 => ?_) (fun hc14 => ?_)
      · have g14 := jc2_lt_t hc14
        refine az_X_step (pc' := 25) (ls' := [(0, .ref (P.1 + 0)), (1, .int l), (2, .int u), (3, .int w)]) (st' := [.int (-1)]) (h' := h) rfl rfl rfl ?_
        refine jx_ret rfl rfl rfl ?_
        exact ⟨rfl, -1, rfl, by unfold jwF; rw [if_neg (by omega)]; decide⟩
      · have g14 := jc2_lt_f hc14
        refine az_X_step (pc' := 18) (ls' := [(0, .ref (P.1 + 0)), (1, .int l), (2, .int u), (3, .int w)]) (st' := [.int w]) (h' := h) rfl rfl rfl ?_
        refine az_X_call (m' := 188) (as := [.int w]) (rest := []) rfl rfl rfl rfl rfl rfl ?_
        refine (twof_ok w).mono ?_
        rintro rv18 h18 ⟨q18, z18, rfl, ez18⟩
        subst h18
        show az_X P _ 166 21 [(0, .ref (P.1 + 0)), (1, .int l), (2, .int u), (3, .int w)] [.int z18] _ _
        refine jx_if (t := 26) rfl rfl rfl (fun hc21 => ?_) (fun hc21 => ?_)
        · have g21 := jc1_ne_t hc21
          refine az_X_step (pc' := 27) (ls' := [(0, .ref (P.1 + 0)), (1, .int l), (2, .int u), (3, .int w)]) (st' := [.ref (P.1 + 0)]) (h' := h) rfl rfl rfl ?_
          refine az_X_step (pc' := 28) (ls' := [(0, .ref (P.1 + 0)), (1, .int l), (2, .int u), (3, .int w)]) (st' := [.int l, .ref (P.1 + 0)]) (h' := h) rfl rfl rfl ?_
          refine az_X_step (pc' := 29) (ls' := [(0, .ref (P.1 + 0)), (1, .int l), (2, .int u), (3, .int w)]) (st' := [.int u, .int l, .ref (P.1 + 0)]) (h' := h) rfl rfl rfl ?_
          refine az_X_step (pc' := 30) (ls' := [(0, .ref (P.1 + 0)), (1, .int l), (2, .int u), (3, .int w)]) (st' := [.int w, .int u, .int l, .ref (P.1 + 0)]) (h' := h) rfl rfl rfl ?_
          refine az_X_call (m' := 194) (as := [.ref (P.1 + 0), .int l, .int u, .int w]) (rest := []) rfl rfl rfl rfl rfl ?_ ?_
          · unfold si_call
            dsimp only
            rw [if_pos ⟨rfl, rfl⟩]
            show (match si_ix P h (P.1 + 0) with | some i => _ | none => none) = _
            rw [jix hH (by decide)]
            dsimp only
            rw [(hH.2 0 _ rfl).1]
            rfl
          refine (cw_ok hH l u w (by omega) (by omega) (by omega)).mono ?_
          rintro rv30 h30 ⟨q30, z30, rfl, ez30⟩
          subst h30
          show az_X P _ 166 33 [(0, .ref (P.1 + 0)), (1, .int l), (2, .int u), (3, .int w)] [.int z30] _ _
          refine jx_ret rfl rfl rfl ?_
          exact ⟨rfl, z30, rfl, by unfold jwF; rw [if_pos (by omega)]; exact ez30⟩
        · have g21 := jc1_ne_f hc21
          refine az_X_step (pc' := 25) (ls' := [(0, .ref (P.1 + 0)), (1, .int l), (2, .int u), (3, .int w)]) (st' := [.int (-1)]) (h' := h) rfl rfl rfl ?_
          refine jx_ret rfl rfl rfl ?_
          exact ⟨rfl, -1, rfl, by unfold jwF; rw [if_neg (by omega)]; decide⟩
theorem wB1 {P : si_P} {d : Nat} {h : si_H} (hH : az_HI P az_tb h) {Q : Option Value → si_H → Prop} (l u w A C : Int32) (hl : 6 ≤ l.toInt) (hlu : l.toInt ≤ u.toInt) (hu : u.toInt ≤ 40) {K : Nat} (hK : l.toInt + K = u.toInt + 1) (bA : A.toInt ≤ 40) (bC : C.toInt ≤ 40) (bA0 : 0 ≤ A.toInt) (bC0 : 0 ≤ C.toInt) (s : Int × Int) (hs : 0 ≤ s.1 ∧ s.1 ≤ 100000)
    (cont : ∀ (N F : Int32) (ls : si_L), jM [(7, .int C), (6, .int A), (5, .int F), (4, .int N), (0, .ref (P.1 + 60)), (1, .int l), (2, .int u), (3, .int w)] ls → N.toInt = (jwB (ja h 60 8) A.toInt C.toInt l.toInt u.toInt K s).1 → F.toInt = (if (jwB (ja h 60 8) A.toInt C.toInt l.toInt u.toInt K s).1 = 0 then 100000000 else (jwB (ja h 60 8) A.toInt C.toInt l.toInt u.toInt K s).2) → az_X P (d + 1) 297 143 ls [] h Q) : ∀ (k n : Nat) (N F B : Int32) (ls : si_L), jM [(8, .int B), (7, .int C), (6, .int A), (5, .int F), (4, .int N), (0, .ref (P.1 + 60)), (1, .int l), (2, .int u), (3, .int w)] ls → B.toInt = l.toInt + n → n + k = K → N.toInt = (jwB (ja h 60 8) A.toInt C.toInt l.toInt u.toInt n s).1 → F.toInt = (if (jwB (ja h 60 8) A.toInt C.toInt l.toInt u.toInt n s).1 = 0 then 100000000 else (jwB (ja h 60 8) A.toInt C.toInt l.toInt u.toInt n s).2) → az_X P (d + 1) 297 61 ls [] h Q := by
  obtain ⟨⟨R, hR, eR⟩, bR⟩ := jt_ok hH (i := 60) (k := 8) rfl
  have eR' : ja h 60 8 = R.toInt := eR.symm
  have br : 2 ≤ R.toInt ∧ R.toInt ≤ 24 := by rw [eR]; exact bR
  have z1 : (1 : Int32).toInt = 1 := by decide
  have z0 : (0 : Int32).toInt = 0 := by decide
  have m1 := nm_mulnn (a := 2) (b := 24) (c := 0) (d := 40) (x := R.toInt) (y := A.toInt) (by decide) (by decide) br.1 br.2 bA0 bA
  have e1 : (R * A).toInt = R.toInt * A.toInt := nm_mul (by omega) (by omega)
  have m2 := nm_mulnn (a := 0) (b := 960) (c := 0) (d := 40) (x := R.toInt * A.toInt) (y := C.toInt) (by decide) (by decide) (by omega) (by omega) (by omega) (by omega)
  have ep : (R * A * C).toInt = ja h 60 8 * A.toInt * C.toInt := by rw [nm_mul (by rw [e1]; omega) (by rw [e1]; omega), e1, eR']
  have bp : 0 ≤ (R * A * C).toInt ∧ (R * A * C).toInt ≤ 100000 := by rw [ep, eR']; omega
  intro k
  induction k with
  | zero =>
    intro n N F B ls hl' eB hn eN eF
    have hnK : n = K := by omega
    subst hnK
    refine jm_iload (x := B) rfl rfl (jM_at hl' 0 rfl) ?_
    refine jm_iload_n (x := u) rfl rfl (jM_at hl' 7 rfl) ?_
    refine jx_ic (t := 143) rfl rfl rfl (fun hc64 => ?_) (fun hc64 => ?_)
    · have g64 := jc2_gt_t hc64
      exact cont N F ls (jM_pick hl' [1, 2, 3, 4, 5, 6, 7, 8] rfl) eN eF
    · have g64 := jc2_gt_f hc64
      exact absurd eB (by omega)
  | succ k ih =>
    intro n N F B ls hl' eB hn eN eF
    have bd := jwB_b (r := ja h 60 8) (a := A.toInt) (c := C.toInt) (l := l.toInt) (u := u.toInt) (s := s) n
    have eB1 : (B + 1).toInt = l.toInt + (n + 1 : Nat) := by rw [nm_add (by omega) (by omega)]; omega
    have hB0 : B ≠ 0 := fun e => by rw [e, z0] at eB; omega
    have nx : jwB (ja h 60 8) A.toInt C.toInt l.toInt u.toInt (n + 1) s = jw0 (ja h 60 8) A.toInt C.toInt l.toInt u.toInt B.toInt (jwB (ja h 60 8) A.toInt C.toInt l.toInt u.toInt n s) := by rw [eB]; rfl
    have dq := jemx (a := (R * A * C).toInt) (m := B.toInt) (by omega)
    have dn : 0 ≤ (R * A * C).toInt / B.toInt := Int.ediv_nonneg bp.1 (by omega)
    have dl : (R * A * C).toInt / B.toInt ≤ (R * A * C).toInt := Int.ediv_le_self _ bp.1
    have ed : (R * A * C / B).toInt = (R * A * C).toInt / B.toInt := by rw [nm_div (by omega), nm_tdiv_nn bp.1]
    have em : (B * (R * A * C / B)).toInt = (R * A * C).toInt / B.toInt * B.toInt := by rw [nm_mul (by rw [ed]; omega) (by rw [ed]; omega), ed, Int.mul_comm]
    refine jm_iload (x := B) rfl rfl (jM_at hl' 0 rfl) ?_
    refine jm_iload_n (x := u) rfl rfl (jM_at hl' 7 rfl) ?_
    refine jx_ic (t := 143) rfl rfl rfl (fun hc64 => ?_) (fun hc64 => ?_)
    · have g64 := jc2_gt_t hc64
      exact absurd eB (by omega)
    · have g64 := jc2_gt_f hc64
      refine jm_aload_n (x := P.1 + 60) rfl rfl (jM_at hl' 5 rfl) ?_
      refine jx_gf (i := 60) rfl rfl hH (by decide) (hH.2 60 _ rfl).1 rfl hR ?_
      refine jm_iload (x := A) rfl rfl (jM_at hl' 2 rfl) ?_
      refine az_X_step (pc' := 74) (ls' := ls) (st' := [.int (R * A)]) (h' := h) rfl rfl rfl ?_
      refine jm_iload (x := C) rfl rfl (jM_at hl' 1 rfl) ?_
      refine az_X_step (pc' := 77) (ls' := ls) (st' := [.int ((R * A) * C)]) (h' := h) rfl rfl rfl ?_
      refine jm_iload (x := B) rfl rfl (jM_at hl' 0 rfl) ?_
      refine jx_div rfl rfl hB0 ?_
      refine jm_istore (l' := [(9, .int (((R * A) * C) / B)), (8, .int B), (7, .int C), (6, .int A), (5, .int F), (4, .int N), (0, .ref (P.1 + 60)), (1, .int l), (2, .int u), (3, .int w)]) rfl rfl (by decide) hl' rfl rfl (fun ls80_1 hl80_1 => ?_)
      refine jm_iload (x := B) rfl rfl (jM_at hl80_1 1 rfl) ?_
      refine jm_iload (x := ((R * A) * C) / B) rfl rfl (jM_at hl80_1 0 rfl) ?_
      refine az_X_step (pc' := 87) (ls' := ls80_1) (st' := [.int (B * (((R * A) * C) / B))]) (h' := h) rfl rfl rfl ?_
      refine jm_aload_n (x := P.1 + 60) rfl rfl (jM_at hl80_1 6 rfl) ?_
      refine jx_gf (i := 60) rfl rfl hH (by decide) (hH.2 60 _ rfl).1 rfl hR ?_
      refine jm_iload (x := A) rfl rfl (jM_at hl80_1 3 rfl) ?_
      refine az_X_step (pc' := 94) (ls' := ls80_1) (st' := [.int (R * A), .int (B * (((R * A) * C) / B))]) (h' := h) rfl rfl rfl ?_
      refine jm_iload (x := C) rfl rfl (jM_at hl80_1 2 rfl) ?_
      refine az_X_step (pc' := 97) (ls' := ls80_1) (st' := [.int ((R * A) * C), .int (B * (((R * A) * C) / B))]) (h' := h) rfl rfl rfl ?_
      refine jx_ic (t := 137) rfl rfl rfl (fun hc97 => ?_) (fun hc97 => ?_)
      · have g97 := jc2_ne_t hc97
        refine jm_iinc (x := B) (x' := B + 1) (l' := [(8, .int (B + 1)), (9, .int (((R * A) * C) / B)), (7, .int C), (6, .int A), (5, .int F), (4, .int N), (0, .ref (P.1 + 60)), (1, .int l), (2, .int u), (3, .int w)]) rfl rfl (by decide) (jM_at hl80_1 1 rfl) rfl hl80_1 rfl rfl (fun ls137_2 hl137_2 => ?_)
        refine az_X_step (pc' := 61) (ls' := ls137_2) (st' := []) (h' := h) rfl rfl rfl ?_
        have hx : jw0 (ja h 60 8) A.toInt C.toInt l.toInt u.toInt B.toInt (jwB (ja h 60 8) A.toInt C.toInt l.toInt u.toInt n s) = jwB (ja h 60 8) A.toInt C.toInt l.toInt u.toInt n s := if_neg (fun q => g97 (by rw [em]; rw [ep]; exact q.1))
        refine ih (n + 1) N F (B + 1) ls137_2 (jM_pick hl137_2 [0, 2, 3, 4, 5, 6, 7, 8, 9] rfl) eB1 (by omega) ?_ ?_
        · rw [nx, hx]
          exact eN
        · rw [nx, hx]
          exact eF
      · have g97 := jc2_ne_f hc97
        refine jm_iload (x := ((R * A) * C) / B) rfl rfl (jM_at hl80_1 0 rfl) ?_
        refine jm_iload_n (x := l) rfl rfl (jM_at hl80_1 7 rfl) ?_
        refine jm_iload_n (x := u) rfl rfl (jM_at hl80_1 8 rfl) ?_
        refine az_X_call (m' := 202) (as := [.int (((R * A) * C) / B), .int l, .int u]) (rest := []) rfl rfl rfl rfl rfl rfl ?_
        refine (rin_ok (R * A * C / B) l u).mono ?_
        rintro rv104 h104 ⟨q104, z104, rfl, ez104⟩
        subst h104
        show az_X P _ 297 107 ls80_1 [.int z104] _ _
        refine jx_if (t := 113) rfl rfl rfl (fun hc107 => ?_) (fun hc107 => ?_)
        · have g107 := jc1_ne_t hc107
          refine jm_iload (x := N) rfl rfl (jM_at hl80_1 5 rfl) ?_
          refine az_X_step (pc' := 116) (ls' := ls80_1) (st' := [.int 1, .int N]) (h' := h) rfl rfl rfl ?_
          refine az_X_step (pc' := 117) (ls' := ls80_1) (st' := [.int (N + 1)]) (h' := h) rfl rfl rfl ?_
          refine jm_istore (l' := [(4, .int (N + 1)), (9, .int (((R * A) * C) / B)), (8, .int B), (7, .int C), (6, .int A), (5, .int F), (0, .ref (P.1 + 60)), (1, .int l), (2, .int u), (3, .int w)]) rfl rfl (by decide) hl80_1 rfl rfl (fun ls117_3 hl117_3 => ?_)
          refine jm_iload (x := F) rfl rfl (jM_at hl117_3 5 rfl) ?_
          refine jm_iload (x := A) rfl rfl (jM_at hl117_3 4 rfl) ?_
          refine jm_iload (x := B) rfl rfl (jM_at hl117_3 2 rfl) ?_
          refine az_X_step (pc' := 126) (ls' := ls117_3) (st' := [.int (A + B), .int F]) (h' := h) rfl rfl rfl ?_
          refine jm_iload (x := C) rfl rfl (jM_at hl117_3 3 rfl) ?_
          refine az_X_step (pc' := 129) (ls' := ls117_3) (st' := [.int ((A + B) + C), .int F]) (h' := h) rfl rfl rfl ?_
          refine jm_iload (x := ((R * A) * C) / B) rfl rfl (jM_at hl117_3 1 rfl) ?_
          refine az_X_step (pc' := 132) (ls' := ls117_3) (st' := [.int (((A + B) + C) + (((R * A) * C) / B)), .int F]) (h' := h) rfl rfl rfl ?_
          refine az_X_call (m' := 203) (as := [.int F, .int (((A + B) + C) + (((R * A) * C) / B))]) (rest := []) rfl rfl rfl rfl rfl rfl ?_
          refine (rmin_ok F (((A + B) + C) + (((R * A) * C) / B))).mono ?_
          rintro rv132 h132 ⟨q132, z132, rfl, ez132⟩
          subst h132
          show az_X P _ 297 135 ls117_3 [.int z132] _ _
          refine jm_istore (l' := [(5, .int z132), (4, .int (N + 1)), (9, .int (((R * A) * C) / B)), (8, .int B), (7, .int C), (6, .int A), (0, .ref (P.1 + 60)), (1, .int l), (2, .int u), (3, .int w)]) rfl rfl (by decide) hl117_3 rfl rfl (fun ls135_4 hl135_4 => ?_)
          refine jm_iinc (x := B) (x' := B + 1) (l' := [(8, .int (B + 1)), (5, .int z132), (4, .int (N + 1)), (9, .int (((R * A) * C) / B)), (7, .int C), (6, .int A), (0, .ref (P.1 + 60)), (1, .int l), (2, .int u), (3, .int w)]) rfl rfl (by decide) (jM_at hl135_4 3 rfl) rfl hl135_4 rfl rfl (fun ls137_5 hl137_5 => ?_)
          refine az_X_step (pc' := 61) (ls' := ls137_5) (st' := []) (h' := h) rfl rfl rfl ?_
          have q : ja h 60 8 * A.toInt * C.toInt / B.toInt * B.toInt = ja h 60 8 * A.toInt * C.toInt ∧ l.toInt ≤ ja h 60 8 * A.toInt * C.toInt / B.toInt ∧ ja h 60 8 * A.toInt * C.toInt / B.toInt ≤ u.toInt := by
            rw [em] at g97
            rw [← ep, ← ed]
            rw [ed]
            exact ⟨g97, by omega, by omega⟩
          have e4 : (A + B).toInt = A.toInt + B.toInt := nm_add (by omega) (by omega)
          have e2 : (A + B + C).toInt = A.toInt + B.toInt + C.toInt := by rw [nm_add (by omega) (by omega), e4]
          have e3 : (A + B + C + R * A * C / B).toInt = A.toInt + B.toInt + C.toInt + ja h 60 8 * A.toInt * C.toInt / B.toInt := by rw [nm_add (by omega) (by omega), e2, ed, ep]
          refine ih (n + 1) (N + 1) z132 (B + 1) ls137_5 (jM_pick hl137_5 [0, 4, 5, 1, 2, 6, 7, 8, 9] rfl) eB1 (by omega) ?_ ?_
          · rw [nx]
            unfold jw0
            rw [if_pos q]
            show (N + 1).toInt = _ + 1
            rw [nm_add (by omega) (by omega), eN, z1]
          · rw [nx]
            unfold jw0
            rw [if_pos q]
            show _ = if (_ + 1 : Int) = 0 then _ else (if _ then _ else _)
            rw [if_neg (by omega), ez132, e3, eF]
            by_cases hz : (jwB (ja h 60 8) A.toInt C.toInt l.toInt u.toInt n s).1 = 0
            · rw [if_pos hz, if_pos hz, Int.min_eq_right (by omega)]
            · rw [if_neg hz, if_neg hz]
        · have g107 := jc1_ne_f hc107
          refine az_X_step (pc' := 137) (ls' := ls80_1) (st' := []) (h' := h) rfl rfl rfl ?_
          refine jm_iinc (x := B) (x' := B + 1) (l' := [(8, .int (B + 1)), (9, .int (((R * A) * C) / B)), (7, .int C), (6, .int A), (5, .int F), (4, .int N), (0, .ref (P.1 + 60)), (1, .int l), (2, .int u), (3, .int w)]) rfl rfl (by decide) (jM_at hl80_1 1 rfl) rfl hl80_1 rfl rfl (fun ls137_6 hl137_6 => ?_)
          refine az_X_step (pc' := 61) (ls' := ls137_6) (st' := []) (h' := h) rfl rfl rfl ?_
          have hx : jw0 (ja h 60 8) A.toInt C.toInt l.toInt u.toInt B.toInt (jwB (ja h 60 8) A.toInt C.toInt l.toInt u.toInt n s) = jwB (ja h 60 8) A.toInt C.toInt l.toInt u.toInt n s := if_neg (fun q => absurd q.2 (by rw [← ep, ← ed]; omega))
          refine ih (n + 1) N F (B + 1) ls137_6 (jM_pick hl137_6 [0, 2, 3, 4, 5, 6, 7, 8, 9] rfl) eB1 (by omega) ?_ ?_
          · rw [nx, hx]
            exact eN
          · rw [nx, hx]
            exact eF
theorem wC1 {P : si_P} {d : Nat} {h : si_H} (hH : az_HI P az_tb h) {Q : Option Value → si_H → Prop} (l u w A : Int32) (hl : 6 ≤ l.toInt) (hlu : l.toInt ≤ u.toInt) (hu : u.toInt ≤ 40) {K : Nat} (hK : l.toInt + K = u.toInt + 1) (bA : A.toInt ≤ 40) (bA0 : 0 ≤ A.toInt) (s : Int × Int) (hs : 0 ≤ s.1 ∧ s.1 ≤ 50000)
    (cont : ∀ (N F : Int32) (ls : si_L), jM [(6, .int A), (5, .int F), (4, .int N), (0, .ref (P.1 + 60)), (1, .int l), (2, .int u), (3, .int w)] ls → N.toInt = (jwC (ja h 60 8) A.toInt l.toInt u.toInt K K s).1 → F.toInt = (if (jwC (ja h 60 8) A.toInt l.toInt u.toInt K K s).1 = 0 then 100000000 else (jwC (ja h 60 8) A.toInt l.toInt u.toInt K K s).2) → az_X P (d + 1) 297 149 ls [] h Q) : ∀ (k n : Nat) (N F C : Int32) (ls : si_L), jM [(7, .int C), (6, .int A), (5, .int F), (4, .int N), (0, .ref (P.1 + 60)), (1, .int l), (2, .int u), (3, .int w)] ls → C.toInt = l.toInt + n → n + k = K → N.toInt = (jwC (ja h 60 8) A.toInt l.toInt u.toInt K n s).1 → F.toInt = (if (jwC (ja h 60 8) A.toInt l.toInt u.toInt K n s).1 = 0 then 100000000 else (jwC (ja h 60 8) A.toInt l.toInt u.toInt K n s).2) → az_X P (d + 1) 297 52 ls [] h Q := by
  have z1 : (1 : Int32).toInt = 1 := by decide
  intro k
  induction k with
  | zero =>
    intro n N F C ls hl' eC hn eN eF
    have hnK : n = K := by omega
    subst hnK
    refine jm_iload (x := C) rfl rfl (jM_at hl' 0 rfl) ?_
    refine jm_iload_n (x := u) rfl rfl (jM_at hl' 6 rfl) ?_
    refine jx_ic (t := 149) rfl rfl rfl (fun hc55 => ?_) (fun hc55 => ?_)
    · have g55 := jc2_gt_t hc55
      exact cont N F ls (jM_pick hl' [1, 2, 3, 4, 5, 6, 7] rfl) eN eF
    · have g55 := jc2_gt_f hc55
      exact absurd eC (by omega)
  | succ k ih =>
    intro n N F C ls hl' eC hn eN eF
    have bd := jwC_b (r := ja h 60 8) (a := A.toInt) (l := l.toInt) (u := u.toInt) (K := K) (by omega) (s := s) n
    have eC1 : (C + 1).toInt = l.toInt + (n + 1 : Nat) := by rw [nm_add (by omega) (by omega)]; omega
    refine jm_iload (x := C) rfl rfl (jM_at hl' 0 rfl) ?_
    refine jm_iload_n (x := u) rfl rfl (jM_at hl' 6 rfl) ?_
    refine jx_ic (t := 149) rfl rfl rfl (fun hc55 => ?_) (fun hc55 => ?_)
    · have g55 := jc2_gt_t hc55
      exact absurd eC (by omega)
    · have g55 := jc2_gt_f hc55
      refine jm_iload_n (x := l) rfl rfl (jM_at hl' 5 rfl) ?_
      refine jm_istore (l' := [(8, .int l), (7, .int C), (6, .int A), (5, .int F), (4, .int N), (0, .ref (P.1 + 60)), (1, .int l), (2, .int u), (3, .int w)]) rfl rfl (by decide) hl' rfl rfl (fun ls59_1 hl59_1 => ?_)
      refine wB1 hH l u w A C hl hlu hu hK bA (by omega) bA0 (by omega) (jwC (ja h 60 8) A.toInt l.toInt u.toInt K n s) (by omega) (fun N1 F1 ls1 hl1 eN1 eF1 => ?_) K 0 N F l ls59_1 (jM_pick hl59_1 [0, 1, 2, 3, 4, 5, 6, 7, 8] rfl) (by omega) (by omega) eN eF
      refine jm_iinc (x := C) (x' := C + 1) (l' := [(7, .int (C + 1)), (6, .int A), (5, .int F1), (4, .int N1), (0, .ref (P.1 + 60)), (1, .int l), (2, .int u), (3, .int w)]) rfl rfl (by decide) (jM_at hl1 0 rfl) rfl hl1 rfl rfl (fun ls143_1 hl143_1 => ?_)
      refine az_X_step (pc' := 52) (ls' := ls143_1) (st' := []) (h' := h) rfl rfl rfl ?_
      refine ih (n + 1) N1 F1 (C + 1) ls143_1 (jM_pick hl143_1 [0, 1, 2, 3, 4, 5, 6, 7] rfl) eC1 (by omega) ?_ ?_
      · show _ = (jwB _ _ _ _ _ _ _).1
        rw [← eC]
        exact eN1
      · show _ = if (jwB _ _ _ _ _ _ _).1 = 0 then _ else (jwB _ _ _ _ _ _ _).2
        rw [← eC]
        exact eF1
theorem wA1 {P : si_P} {d : Nat} {h : si_H} (hH : az_HI P az_tb h) {Q : Option Value → si_H → Prop} (l u w : Int32) (hl : 6 ≤ l.toInt) (hlu : l.toInt ≤ u.toInt) (hu : u.toInt ≤ 40) {K : Nat} (hK : l.toInt + K = u.toInt + 1)
    (cont : ∀ (N F : Int32) (ls : si_L), jM [(5, .int F), (4, .int N), (0, .ref (P.1 + 60)), (1, .int l), (2, .int u), (3, .int w)] ls → N.toInt = (jwA (ja h 60 8) l.toInt u.toInt K K (0, -2)).1 → F.toInt = (if (jwA (ja h 60 8) l.toInt u.toInt K K (0, -2)).1 = 0 then 100000000 else (jwA (ja h 60 8) l.toInt u.toInt K K (0, -2)).2) → az_X P (d + 1) 297 155 ls [] h Q) : ∀ (k n : Nat) (N F A : Int32) (ls : si_L), jM [(6, .int A), (5, .int F), (4, .int N), (0, .ref (P.1 + 60)), (1, .int l), (2, .int u), (3, .int w)] ls → A.toInt = l.toInt + n → n + k = K → N.toInt = (jwA (ja h 60 8) l.toInt u.toInt K n (0, -2)).1 → F.toInt = (if (jwA (ja h 60 8) l.toInt u.toInt K n (0, -2)).1 = 0 then 100000000 else (jwA (ja h 60 8) l.toInt u.toInt K n (0, -2)).2) → az_X P (d + 1) 297 43 ls [] h Q := by
  have z1 : (1 : Int32).toInt = 1 := by decide
  intro k
  induction k with
  | zero =>
    intro n N F A ls hl' eA hn eN eF
    have hnK : n = K := by omega
    subst hnK
    refine jm_iload (x := A) rfl rfl (jM_at hl' 0 rfl) ?_
    refine jm_iload_n (x := u) rfl rfl (jM_at hl' 5 rfl) ?_
    refine jx_ic (t := 155) rfl rfl rfl (fun hc46 => ?_) (fun hc46 => ?_)
    · have g46 := jc2_gt_t hc46
      exact cont N F ls (jM_pick hl' [1, 2, 3, 4, 5, 6] rfl) eN eF
    · have g46 := jc2_gt_f hc46
      exact absurd eA (by omega)
  | succ k ih =>
    intro n N F A ls hl' eA hn eN eF
    have bd := jwA_b (r := ja h 60 8) (l := l.toInt) (u := u.toInt) (K := K) (by omega) (s := (0, -2)) n
    have bd2 : (jwA (ja h 60 8) l.toInt u.toInt K n (0, -2)).1 ≤ 0 + 1225 * n := bd.2
    have bd1 : 0 ≤ (jwA (ja h 60 8) l.toInt u.toInt K n (0, -2)).1 := bd.1
    have eA1 : (A + 1).toInt = l.toInt + (n + 1 : Nat) := by rw [nm_add (by omega) (by omega)]; omega
    refine jm_iload (x := A) rfl rfl (jM_at hl' 0 rfl) ?_
    refine jm_iload_n (x := u) rfl rfl (jM_at hl' 5 rfl) ?_
    refine jx_ic (t := 155) rfl rfl rfl (fun hc46 => ?_) (fun hc46 => ?_)
    · have g46 := jc2_gt_t hc46
      exact absurd eA (by omega)
    · have g46 := jc2_gt_f hc46
      refine jm_iload_n (x := l) rfl rfl (jM_at hl' 4 rfl) ?_
      refine jm_istore (l' := [(7, .int l), (6, .int A), (5, .int F), (4, .int N), (0, .ref (P.1 + 60)), (1, .int l), (2, .int u), (3, .int w)]) rfl rfl (by decide) hl' rfl rfl (fun ls50_1 hl50_1 => ?_)
      refine wC1 hH l u w A hl hlu hu hK (by omega) (by omega) (jwA (ja h 60 8) l.toInt u.toInt K n (0, -2)) (by omega) (fun N1 F1 ls1 hl1 eN1 eF1 => ?_) K 0 N F l ls50_1 (jM_pick hl50_1 [0, 1, 2, 3, 4, 5, 6, 7] rfl) (by omega) (by omega) eN eF
      refine jm_iinc (x := A) (x' := A + 1) (l' := [(6, .int (A + 1)), (5, .int F1), (4, .int N1), (0, .ref (P.1 + 60)), (1, .int l), (2, .int u), (3, .int w)]) rfl rfl (by decide) (jM_at hl1 0 rfl) rfl hl1 rfl rfl (fun ls149_1 hl149_1 => ?_)
      refine az_X_step (pc' := 43) (ls' := ls149_1) (st' := []) (h' := h) rfl rfl rfl ?_
      refine ih (n + 1) N1 F1 (A + 1) ls149_1 (jM_pick hl149_1 [0, 1, 2, 3, 4, 5, 6] rfl) eA1 (by omega) ?_ ?_
      · show _ = (jwC _ _ _ _ _ _ _).1
        rw [← eA]
        exact eN1
      · show _ = if (jwC _ _ _ _ _ _ _).1 = 0 then _ else (jwC _ _ _ _ _ _ _).2
        rw [← eA]
        exact eF1
theorem wheels1_ok {P : si_P} {d : Nat} {h : si_H} (hH : az_HI P az_tb h) (l u w : Int32) : az_X P (d + 2) 297 0 (lv_args 0 [.ref (P.1 + 60), .int l, .int u, .int w]) [] h (fun rv h' => h' = h ∧ jV rv (jwF (ja h 60 8) l.toInt u.toInt w.toInt)) := by
  have z6 : (6 : Int32).toInt = 6 := by decide
  have z40 : (40 : Int32).toInt = 40 := by decide
  have z0 : (0 : Int32).toInt = 0 := by decide
  have z1 : (1 : Int32).toInt = 1 := by decide
  have hl' : jM [(0, .ref (P.1 + 60)), (1, .int l), (2, .int u), (3, .int w)] (lv_args 0 [.ref (P.1 + 60), .int l, .int u, .int w]) := jM_args [0, 1, 2, 3] rfl (by decide)
  generalize lv_args 0 [.ref (P.1 + 60), .int l, .int u, .int w] = ls at hl'
  refine jm_iload_n (x := l) rfl rfl (jM_at hl' 1 rfl) ?_
  refine az_X_step (pc' := 3) (ls' := ls) (st' := [.int 6, .int l]) (h' := h) rfl rfl rfl ?_
  refine az_X_step (pc' := 5) (ls' := ls) (st' := [.int 40, .int 6, .int l]) (h' := h) rfl rfl rfl ?_
  refine az_X_call (m' := 202) (as := [.int l, .int 6, .int 40]) (rest := []) rfl rfl rfl rfl rfl rfl ?_
  refine (rin_ok l 6 40).mono ?_
  rintro rv5 h5 ⟨q5, z5, rfl, ez5⟩
  subst h5
  show az_X P _ 297 8 ls [.int z5] _ _
  refine jx_if (t := 30) rfl rfl rfl (fun hc8 => ?_) (fun hc8 => ?_)
  · have g8 := jc1_eq_t hc8
    refine az_X_step (pc' := 31) (ls' := ls) (st' := [.int (-1)]) (h' := h) rfl rfl rfl ?_
    refine jx_ret rfl rfl rfl ?_
    exact ⟨rfl, -1, rfl, by unfold jwF; rw [if_neg (by omega)]; decide⟩
  · have g8 := jc1_eq_f hc8
    refine jm_iload_n (x := u) rfl rfl (jM_at hl' 2 rfl) ?_
    refine jm_iload_n (x := l) rfl rfl (jM_at hl' 1 rfl) ?_
    refine az_X_step (pc' := 15) (ls' := ls) (st' := [.int 40, .int l, .int u]) (h' := h) rfl rfl rfl ?_
    refine az_X_call (m' := 202) (as := [.int u, .int l, .int 40]) (rest := []) rfl rfl rfl rfl rfl rfl ?_
    refine (rin_ok u l 40).mono ?_
    rintro rv15 h15 ⟨q15, z15, rfl, ez15⟩
    subst h15
    show az_X P _ 297 18 ls [.int z15] _ _
    refine jx_if (t := 30) rfl rfl rfl (fun hc18 => ?_) (fun hc18 => ?_)
    · have g18 := jc1_eq_t hc18
      refine az_X_step (pc' := 31) (ls' := ls) (st' := [.int (-1)]) (h' := h) rfl rfl rfl ?_
      refine jx_ret rfl rfl rfl ?_
      exact ⟨rfl, -1, rfl, by unfold jwF; rw [if_neg (by omega)]; decide⟩
    · have g18 := jc1_eq_f hc18
      refine jm_iload_n (x := w) rfl rfl (jM_at hl' 3 rfl) ?_
      refine az_X_step (pc' := 23) (ls' := ls) (st' := [.int 0, .int w]) (h' := h) rfl rfl rfl ?_
      refine az_X_step (pc' := 24) (ls' := ls) (st' := [.int 1, .int 0, .int w]) (h' := h) rfl rfl rfl ?_
      refine az_X_call (m' := 202) (as := [.int w, .int 0, .int 1]) (rest := []) rfl rfl rfl rfl rfl rfl ?_
      refine (rin_ok w 0 1).mono ?_
      rintro rv24 h24 ⟨q24, z24, rfl, ez24⟩
      subst h24
      show az_X P _ 297 27 ls [.int z24] _ _
      refine jx_if (t := 32) rfl rfl rfl (fun hc27 => ?_) (fun hc27 => ?_)
      · have g27 := jc1_ne_t hc27
        refine az_X_step (pc' := 33) (ls' := ls) (st' := [.int 0]) (h' := h) rfl rfl rfl ?_
        refine jm_istore (l' := [(4, .int 0), (0, .ref (P.1 + 60)), (1, .int l), (2, .int u), (3, .int w)]) rfl rfl (by decide) hl' rfl rfl (fun ls33_1 hl33_1 => ?_)
        refine az_X_step (pc' := 38) (ls' := ls33_1) (st' := [.int 100000000]) (h' := h) rfl rfl rfl ?_
        refine jm_istore (l' := [(5, .int 100000000), (4, .int 0), (0, .ref (P.1 + 60)), (1, .int l), (2, .int u), (3, .int w)]) rfl rfl (by decide) hl33_1 rfl rfl (fun ls38_2 hl38_2 => ?_)
        refine jm_iload_n (x := l) rfl rfl (jM_at hl38_2 3 rfl) ?_
        refine jm_istore (l' := [(6, .int l), (5, .int 100000000), (4, .int 0), (0, .ref (P.1 + 60)), (1, .int l), (2, .int u), (3, .int w)]) rfl rfl (by decide) hl38_2 rfl rfl (fun ls41_3 hl41_3 => ?_)
        refine wA1 hH l u w (by omega) (by omega) (by omega) (K := (u.toInt + 1 - l.toInt).toNat) (by omega) (fun N1 F1 ls1 hl1 eN1 eF1 => ?_) (u.toInt + 1 - l.toInt).toNat 0 0 100000000 l ls41_3 (jM_pick hl41_3 [0, 1, 2, 3, 4, 5, 6] rfl) (by omega) (by omega) (by show (0 : Int32).toInt = 0; decide) (by show (100000000 : Int32).toInt = if (0 : Int) = 0 then 100000000 else -2; decide)
        refine jm_iload_n (x := w) rfl rfl (jM_at hl1 5 rfl) ?_
        refine jx_if (t := 164) rfl rfl rfl (fun hc156 => ?_) (fun hc156 => ?_)
        · have g156 := jc1_ne_t hc156
          refine jm_iload (x := N1) rfl rfl (jM_at hl1 1 rfl) ?_
          refine jx_if (t := 174) rfl rfl rfl (fun hc166 => ?_) (fun hc166 => ?_)
          · have g166 := jc1_ne_t hc166
            refine jm_iload (x := F1) rfl rfl (jM_at hl1 0 rfl) ?_
            refine jx_ret rfl rfl rfl ?_
            exact ⟨rfl, F1, rfl, by
              unfold jwF
              rw [if_pos (by omega), if_neg g156]
              rw [if_neg (by rw [← eN1]; exact g166)] at eF1
              exact eF1⟩
          · have g166 := jc1_ne_f hc166
            refine az_X_step (pc' := 171) (ls' := ls1) (st' := [.int (-2)]) (h' := h) rfl rfl rfl ?_
            refine az_X_step (pc' := 176) (ls' := ls1) (st' := [.int (-2)]) (h' := h) rfl rfl rfl ?_
            refine jx_ret rfl rfl rfl ?_
            exact ⟨rfl, -2, rfl, by
              unfold jwF
              rw [if_pos (by omega), if_neg g156, jwA_z (by omega) (by rw [← eN1]; exact g166)]
              decide⟩
        · have g156 := jc1_ne_f hc156
          refine jm_iload (x := N1) rfl rfl (jM_at hl1 1 rfl) ?_
          refine az_X_step (pc' := 176) (ls' := ls1) (st' := [.int N1]) (h' := h) rfl rfl rfl ?_
          refine jx_ret rfl rfl rfl ?_
          exact ⟨rfl, N1, rfl, by
            unfold jwF
            rw [if_pos (by omega), if_pos g156]
            exact eN1⟩
      · have g27 := jc1_ne_f hc27
        refine az_X_step (pc' := 31) (ls' := ls) (st' := [.int (-1)]) (h' := h) rfl rfl rfl ?_
        refine jx_ret rfl rfl rfl ?_
        exact ⟨rfl, -1, rfl, by unfold jwF; rw [if_neg (by omega)]; decide⟩
