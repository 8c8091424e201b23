/-! locals of which some are known -/
def jM (l : List (Nat × Value)) (ls : si_L) : Prop := ∀ q ∈ l, si_ld q.1 ls = some q.2
theorem jM_at {l : List (Nat × Value)} {ls : si_L} (h : jM l ls) (i : Nat) {k : Nat} {v : Value} (hi : l[i]? = some (k, v)) : si_ld k ls = some v := h (k, v) (List.mem_of_getElem? hi)
theorem jM_args {l : List (Nat × Value)} (ks : List Nat) (he : l.map (fun q => q.1) = ks) (hd : ks.Nodup) : jM l l := by
  subst he
  intro q hq
  induction l with
  | nil => cases hq
  | cons a r ih =>
    unfold si_ld
    rcases List.mem_cons.mp hq with rfl | hq
    · exact if_pos rfl
    · rw [List.map_cons, List.nodup_cons] at hd
      rw [if_neg]
      · exact ih hd.2 hq
      · intro e
        exact hd.1 (e ▸ List.mem_map.mpr ⟨q, hq, rfl⟩)
theorem si_ld_f {k : Nat} {v : Value} {f : Nat × Value → Bool} : ∀ {l : si_L}, (∀ w, (k, w) ∈ l → si_ld k l = some w → f (k, w) = true) → si_ld k l = some v → si_ld k (l.filter f) = some v
  | [], _, h => by cases h
  | q :: r, hf, h => by
    unfold si_ld at h
    split at h
    · rename_i e
      cases h
      have hq : f q = true := by
        have := hf q.2 (by rw [← e]; exact List.mem_cons_self) (by unfold si_ld; rw [if_pos e])
        rw [← e] at this
        exact this
      rw [List.filter_cons, if_pos hq]
      unfold si_ld
      exact if_pos e
    · rename_i e
      have ih := si_ld_f (l := r) (fun w hw hl => hf w (List.mem_cons_of_mem _ hw) (by unfold si_ld; rw [if_neg e]; exact hl)) h
      rw [List.filter_cons]
      split
      · unfold si_ld
        rw [if_neg e]
        exact ih
      · exact ih
theorem jM_st {l l' : List (Nat × Value)} {ls : si_L} {k : Nat} {v : Value} (h : jM l ls) (h' : l' = (k, v) :: l.filter (fun q => !(q.1 == k))) (hc : l.all (fun q => q.2.category == 1) = true) : jM l' (si_st1 ls k v) := by
  subst h'
  intro q hq
  unfold si_st1
  rcases List.mem_cons.mp hq with rfl | hq
  · unfold si_ld
    exact if_pos rfl
  · obtain ⟨h1, h2⟩ := List.mem_filter.mp hq
    have h3 : ¬ q.1 = k := by simpa using h2
    have h4 : q.2.category = 1 := by
      have := List.all_eq_true.mp hc q h1
      simpa using this
    unfold si_ld
    rw [if_neg (fun e => h3 e.symm)]
    refine si_ld_f (fun w hw hl => ?_) (h q h1)
    have h5 : w = q.2 := by
      have := h q h1
      rw [hl] at this
      exact Option.some.inj this
    subst h5
    simp [h3, h4]
section Jm
variable {P : si_P} {d mi pc : Nat} {y : si_M} {ls : si_L} {st : List Value} {h : si_H} {Q : Option Value → si_H → Prop} {q : Nat × Nat × Nat}
theorem jm_iload_n {k : Fin 4} {x : Int32} (hy : si_m mi = some y) (he : si_fetch mi pc = some (.iload_n k, 1, q)) (L : si_ld (k : Nat) ls = some (.int x)) (kk : az_X P d mi (pc + 1) ls (.int x :: st) h Q) : az_X P d mi pc ls st h Q := by
  refine az_X_step (pc' := pc + 1) (ls' := ls) (st' := .int x :: st) (h' := h) hy he ?_ kk
  unfold si_step
  dsimp only
  show (match si_ld (k : Nat) ls with | some v => if si_kd v 0 = true then some (pc + 1, ls, v :: st, h) else none | none => none) = _
  rw [L]
  all_goals rfl
theorem jm_iload {k : Nat} {x : Int32} (hy : si_m mi = some y) (he : si_fetch mi pc = some (.iload k, 2, q)) (L : si_ld k ls = some (.int x)) (kk : az_X P d mi (pc + 2) ls (.int x :: st) h Q) : az_X P d mi pc ls st h Q := by
  refine az_X_step (pc' := pc + 2) (ls' := ls) (st' := .int x :: st) (h' := h) hy he ?_ kk
  unfold si_step
  dsimp only
  show (match si_ld (k : Nat) ls with | some v => if si_kd v 0 = true then some (pc + 2, ls, v :: st, h) else none | none => none) = _
  rw [L]
  all_goals rfl
theorem jm_aload_n {k : Fin 4} {x : Nat} (hy : si_m mi = some y) (he : si_fetch mi pc = some (.aload_n k, 1, q)) (L : si_ld (k : Nat) ls = some (.ref x)) (kk : az_X P d mi (pc + 1) ls (.ref x :: st) h Q) : az_X P d mi pc ls st h Q := by
  refine az_X_step (pc' := pc + 1) (ls' := ls) (st' := .ref x :: st) (h' := h) hy he ?_ kk
  unfold si_step
  dsimp only
  show (match si_ld (k : Nat) ls with | some v => if si_kd v 2 = true then some (pc + 1, ls, v :: st, h) else none | none => none) = _
  rw [L]
  all_goals rfl
theorem jm_istore_n {k : Fin 4} {x : Int32} {l l' : List (Nat × Value)} (hy : si_m mi = some y) (he : si_fetch mi pc = some (.istore_n k, 1, q)) (hk : (k : Nat) + 1 ≤ y.2.2.2.1) (hl : jM l ls) (h' : l' = ((k : Nat), Value.int x) :: l.filter (fun q => !(q.1 == (k : Nat)))) (hc : l.all (fun q => q.2.category == 1) = true) (kk : ∀ ls' : si_L, jM l' ls' → az_X P d mi (pc + 1) ls' st h Q) : az_X P d mi pc ls (.int x :: st) h Q := by
  refine az_X_step (pc' := pc + 1) (ls' := si_st1 ls k (.int x)) (st' := st) (h' := h) hy he ?_ (kk _ (jM_st hl h' hc))
  unfold si_step
  dsimp only
  show (if si_kd (.int x) 0 = true ∧ (k : Nat) + (Value.int x).category ≤ y.2.2.2.1 then some (pc + 1, if (Value.int x).category = 2 then si_st2 ls k (.int x) else si_st1 ls k (.int x), st, h) else none) = _
  rw [if_pos ⟨rfl, hk⟩]
  all_goals rfl
theorem jm_istore {k : Nat} {x : Int32} {l l' : List (Nat × Value)} (hy : si_m mi = some y) (he : si_fetch mi pc = some (.istore k, 2, q)) (hk : k + 1 ≤ y.2.2.2.1) (hl : jM l ls) (h' : l' = (k, Value.int x) :: l.filter (fun q => !(q.1 == k))) (hc : l.all (fun q => q.2.category == 1) = true) (kk : ∀ ls' : si_L, jM l' ls' → az_X P d mi (pc + 2) ls' st h Q) : az_X P d mi pc ls (.int x :: st) h Q := by
  refine az_X_step (pc' := pc + 2) (ls' := si_st1 ls k (.int x)) (st' := st) (h' := h) hy he ?_ (kk _ (jM_st hl h' hc))
  unfold si_step
  dsimp only
  show (if si_kd (.int x) 0 = true ∧ (k : Nat) + (Value.int x).category ≤ y.2.2.2.1 then some (pc + 2, if (Value.int x).category = 2 then si_st2 ls k (.int x) else si_st1 ls k (.int x), st, h) else none) = _
  rw [if_pos ⟨rfl, hk⟩]
  all_goals rfl
theorem jm_iinc {k : Nat} {n : Int} {x x' : Int32} {l l' : List (Nat × Value)} (hy : si_m mi = some y) (he : si_fetch mi pc = some (.iinc k n, 3, q)) (hk : k < y.2.2.2.1) (L : si_ld k ls = some (.int x)) (hx : x + Int32.ofInt n = x') (hl : jM l ls) (h' : l' = (k, Value.int x') :: l.filter (fun q => !(q.1 == k))) (hc : l.all (fun q => q.2.category == 1) = true) (kk : ∀ ls' : si_L, jM l' ls' → az_X P d mi (pc + 3) ls' st h Q) : az_X P d mi pc ls st h Q := by
  subst hx
  refine az_X_step (pc' := pc + 3) (ls' := si_st1 ls k (.int (x + Int32.ofInt n))) (st' := st) (h' := h) hy he ?_ (kk _ (jM_st hl h' hc))
  unfold si_step
  dsimp only
  rw [if_pos ⟨rfl, hk⟩, L]
  all_goals rfl
theorem jx_ial {i n : Nat} {lo hi : Int} {x : Int32} (hy : si_m mi = some y) (he : si_fetch mi pc = some (.iaload, 1, q)) (hxa : P.2.1 < P.1) (hH : az_HI P az_tb h) (hi' : i < az_tb.length) (ht : az_tb[i]? = some (.inr (.int, n, lo, hi))) (h0 : 0 ≤ x.toInt) (h1 : x.toInt < n) (kk : ∀ z : Int32, z.toInt = ja h i x.toInt → lo ≤ z.toInt ∧ z.toInt ≤ hi → az_X P d mi (pc + 1) ls (.int z :: st) h Q) : az_X P d mi pc ls (.int x :: .ref (P.1 + i) :: st) h Q := by
  have hc : x.toNatClampNeg = x.toInt.toNat := rfl
  obtain ⟨hs, hr⟩ := hH.2 i _ ht
  have h3 := hr x.toInt.toNat (by show x.toInt.toNat < n; omega)
  unfold az_aok at h3
  rw [if_neg (fun e => by cases e)] at h3
  obtain ⟨z, hz, hz1, hz2⟩ := h3
  have hin : si_in x n = true := by
    unfold si_in
    rw [Bool.and_eq_true, decide_eq_true_eq, decide_eq_true_eq]
    exact ⟨(nm_leI 0 x).mpr (by have : (0 : Int32).toInt = 0 := by decide
                                omega), by omega⟩
  refine az_X_step (pc' := pc + 1) (ls' := ls) (st' := .int z :: st) (h' := h) hy he ?_ (kk z ?_ ⟨hz1, hz2⟩)
  · unfold si_step
    dsimp only
    rw [if_pos rfl, if_neg (show ¬ (P.1 + i = P.2.1) by omega)]
    unfold si_ald
    rw [jix hH hi']
    dsimp only
    rw [hs]
    dsimp only
    rw [if_pos ⟨hin, List.mem_singleton.mpr rfl⟩, hc, hz]
  · show z.toInt = ji h i x.toInt.toNat
    unfold ji
    rw [hz]
end Jm
/-! STROKES TILL -/
set_option maxRecDepth 100000
theorem jM_pick {l l' : List (Nat × Value)} {ls : si_L} (h : jM l ls) (is : List Nat) (he : is.filterMap (fun i => l[i]?) = l') : jM l' ls := by
  intro q hq
  rw [← he] at hq
  obtain ⟨i, -, hi⟩ := List.mem_filterMap.mp hq
  exact h q (List.mem_of_getElem? hi)
/-- strokes from a time on, round the dial -/
def jsr (m r v y a : Int) : Nat → Int
  | 0 => 0
  | n + 1 => jsr m r v y a n + jst m r ((a + n) % y) v
theorem jsr_bd {m r v y a : Int} (hm : 4 ≤ m) (hr : 0 ≤ r ∧ r ≤ 24) (hy : 1 ≤ y ∧ y ≤ 1440) : ∀ n : Nat, 0 ≤ jsr m r v y a n ∧ jsr m r v y a n ≤ 1440 * n
  | 0 => ⟨Int.le_refl _, Int.le_refl _⟩
  | n + 1 => by
    have i := jsr_bd (v := v) (a := a) hm hr hy n
    have e1 := Int.emod_nonneg (a + n) (b := y) (by omega)
    have e2 := Int.emod_lt_of_pos (a + n) (b := y) (by omega)
    have j := jst_bd (m := m) (r := r) (v := v) (t := (a + n) % y) hm hr (by omega)
    unfold jsr
    omega
theorem jsr_mono {m r v y a : Int} (hm : 4 ≤ m) (hr : 0 ≤ r ∧ r ≤ 24) (hy : 1 ≤ y ∧ y ≤ 1440) (n : Nat) : ∀ k : Nat, jsr m r v y a n ≤ jsr m r v y a (n + k)
  | 0 => Int.le_refl _
  | k + 1 => by
    have i := jsr_mono (v := v) (a := a) hm hr hy n k
    have e1 := Int.emod_nonneg (a + (n + k : Nat)) (b := y) (by omega)
    have e2 := Int.emod_lt_of_pos (a + (n + k : Nat)) (b := y) (by omega)
    have j := jst_bd (m := m) (r := r) (v := v) (t := (a + (n + k : Nat)) % y) hm hr (by omega)
    show _ ≤ jsr m r v y a (n + k) + jst m r ((a + (n + k : Nat)) % y) v
    omega
theorem jsr_front {m r v y a : Int} : ∀ n : Nat, jsr m r v y a (n + 1) = jst m r (a % y) v + jsr m r v y (a + 1) n
  | 0 => by
    show 0 + jst m r ((a + ((0 : Nat) : Int)) % y) v = jst m r (a % y) v + 0
    rw [Int.zero_add, Int.add_zero, show a + ((0 : Nat) : Int) = a by omega]
  | n + 1 => by
    show jsr m r v y a (n + 1) + jst m r ((a + ((n + 1 : Nat) : Int)) % y) v = jst m r (a % y) v + (jsr m r v y (a + 1) n + jst m r ((a + 1 + n) % y) v)
    rw [jsr_front n, show a + ((n + 1 : Nat) : Int) = a + 1 + n by omega]
    exact Int.add_assoc _ _ _
theorem jsr_add {m r v y a : Int} (n : Nat) : ∀ k : Nat, jsr m r v y a (n + k) = jsr m r v y a n + jsr m r v y (a + n) k
  | 0 => (Int.add_zero _).symm
  | k + 1 => by
    show jsr m r v y a (n + k) + jst m r ((a + ((n + k : Nat) : Int)) % y) v = jsr m r v y a n + (jsr m r v y (a + n) k + jst m r ((a + n + k) % y) v)
    rw [jsr_add n k, show a + ((n + k : Nat) : Int) = a + n + k by omega]
    exact Int.add_assoc _ _ _
theorem jsr_per {m r v y a q : Int} : ∀ n : Nat, jsr m r v y (a + y * q) n = jsr m r v y a n
  | 0 => rfl
  | n + 1 => by
    unfold jsr
    rw [jsr_per n, show a + y * q + (n : Int) = a + n + y * q by omega, Int.add_mul_emod_self_left]
theorem jsr_rnd {m r v y : Int} {Y : Nat} (hY : y = Y) : ∀ a : Nat, jsr m r v y a Y = jsr m r v y 0 Y
  | 0 => rfl
  | a + 1 => by
    have i := jsr_rnd (m := m) (r := r) (v := v) hY a
    have f := jsr_front (m := m) (r := r) (v := v) (y := y) (a := (a : Int)) Y
    have g : jsr m r v y (a : Int) (Y + 1) = jsr m r v y a Y + jst m r (((a : Int) + Y) % y) v := rfl
    rw [← hY, Int.add_emod_right] at g
    rw [show ((a + 1 : Nat) : Int) = (a : Int) + 1 by omega]
    omega
theorem jsr_q {m r v y : Int} {Y : Nat} (hY : y = Y) (a : Nat) : ∀ q : Nat, jsr m r v y a (Y * q) = q * jsr m r v y 0 Y
  | 0 => by
    show (0 : Int) = ((0 : Nat) : Int) * _
    rw [show ((0 : Nat) : Int) = 0 from rfl, Int.zero_mul]
  | q + 1 => by
    rw [Nat.mul_succ, jsr_add, jsr_q hY a q]
    have i := jsr_rnd (m := m) (r := r) (v := v) hY (a + Y * q)
    rw [show ((a + Y * q : Nat) : Int) = (a : Int) + ((Y * q : Nat) : Int) by omega] at i
    rw [i, show ((q + 1 : Nat) : Int) = (q : Int) + 1 by omega, Int.add_mul, Int.one_mul]
theorem jsr_all {m r v y : Int} {Y : Nat} (hY : y = Y) (a : Nat) (q n : Nat) : jsr m r v y a (Y * q + n) = q * jsr m r v y 0 Y + jsr m r v y a n := by
  rw [jsr_add, jsr_q hY a q]
  have : ((Y * q : Nat) : Int) = y * q := by rw [hY]; exact Int.natCast_mul Y q
  rw [this, jsr_per]
theorem jsr_0 {m r v y : Int} : ∀ n : Nat, (n : Int) ≤ y → jsr m r v y 0 n = jss m r v 0 n
  | 0, _ => rfl
  | n + 1, h => by
    unfold jsr jss
    rw [jsr_0 n (by omega), Int.emod_eq_of_lt (a := 0 + (n : Int)) (by omega) (by omega)]
theorem jsr_pos {m r v y : Int} (hm : 4 ≤ m) (hr : 0 ≤ r ∧ r ≤ 24) (hy : 1 ≤ y ∧ y ≤ 1440) (hr2 : 2 ≤ r) {Y : Nat} (hY : 1 ≤ Y) : 2 ≤ jsr m r v y 0 Y := by
  obtain ⟨k, rfl⟩ : ∃ k, Y = 1 + k := ⟨Y - 1, by omega⟩
  have i := jsr_mono (v := v) (a := 0) hm hr hy 1 k
  have e : jsr m r v y 0 1 = r := by
    show 0 + jst m r ((0 + ((0 : Nat) : Int)) % y) v = r
    rw [show (0 : Int) + ((0 : Nat) : Int) = 0 by omega, Int.zero_emod, Int.zero_add]
    unfold jst
    rw [Int.zero_emod, Int.zero_ediv, if_pos rfl, if_pos rfl]
  omega
/-- the tick at which so many are heard -/
def jtl (m r v y a w : Int) (z : Int) : Prop := ∃ j : Nat, z = j ∧ jsr m r v y a j < w ∧ w ≤ jsr m r v y a (j + 1)
theorem jtl_un {m r v y a w z z' : Int} (hm : 4 ≤ m) (hr : 0 ≤ r ∧ r ≤ 24) (hy : 1 ≤ y ∧ y ≤ 1440) (h1 : jtl m r v y a w z) (h2 : jtl m r v y a w z') : z = z' := by
  obtain ⟨j, rfl, p1, p2⟩ := h1
  obtain ⟨i, rfl, q1, q2⟩ := h2
  rcases Nat.lt_trichotomy j i with e | e | e
  · have := jsr_mono (v := v) (a := a) hm hr hy (j + 1) (i - (j + 1))
    rw [show j + 1 + (i - (j + 1)) = i by omega] at this
    omega
  · omega
  · have := jsr_mono (v := v) (a := a) hm hr hy (i + 1) (j - (i + 1))
    rw [show i + 1 + (j - (i + 1)) = j by omega] at this
    omega
/-- by whole rounds, and the rest -/
theorem jtl_rest {m r v y a w E q : Int} {Y j : Nat} (hY : y = Y) (ha : 0 ≤ a) (hq : 0 ≤ q) (hE : E = w - q * jsr m r v y 0 Y) (h1 : jsr m r v y a j < E) (h2 : E ≤ jsr m r v y a (j + 1)) : jtl m r v y a w (q * y + j) := by
  obtain ⟨a, rfl⟩ : ∃ n : Nat, a = n := ⟨a.toNat, by omega⟩
  obtain ⟨q, rfl⟩ : ∃ n : Nat, q = n := ⟨q.toNat, by omega⟩
  refine ⟨Y * q + j, ?_, ?_, ?_⟩
  · rw [hY, show ((Y * q + j : Nat) : Int) = ((Y * q : Nat) : Int) + j by omega, Int.natCast_mul, Int.mul_comm]
  · rw [jsr_all hY]; omega
  · rw [show Y * q + j + 1 = Y * q + (j + 1) by omega, jsr_all hY]; omega
theorem jtl_ex {m r v y a w : Int} (hm : 4 ≤ m) (hr : 0 ≤ r ∧ r ≤ 24) (hy : 1 ≤ y ∧ y ≤ 1440) (hr2 : 2 ≤ r) (ha : 0 ≤ a) (hw : 1 ≤ w) {Y : Nat} (hY : y = Y) : ∃ z : Int, jtl m r v y a w z ∧ z ≤ w * y + y := by
  have T2 := jsr_pos (v := v) (Y := Y) hm hr hy hr2 (by omega)
  have e := jemx (a := w - 1) (m := jsr m r v y 0 Y) (by omega)
  have q0 : 0 ≤ (w - 1) / jsr m r v y 0 Y := Int.ediv_nonneg (by omega) (by omega)
  have q1 : (w - 1) / jsr m r v y 0 Y ≤ w - 1 := Int.ediv_le_self _ (by omega)
  obtain ⟨n, hn⟩ : ∃ n : Nat, a = n := ⟨a.toNat, by omega⟩
  have full : jsr m r v y a Y = jsr m r v y 0 Y := by rw [hn]; exact jsr_rnd hY n
  have key : ∀ k : Nat, k ≤ Y → w - (w - 1) / jsr m r v y 0 Y * jsr m r v y 0 Y ≤ jsr m r v y a k → ∃ j : Nat, j < k ∧ jsr m r v y a j < w - (w - 1) / jsr m r v y 0 Y * jsr m r v y 0 Y ∧ w - (w - 1) / jsr m r v y 0 Y * jsr m r v y 0 Y ≤ jsr m r v y a (j + 1) := by
    intro k
    induction k with
    | zero =>
      intro _ hk
      have : jsr m r v y a 0 = 0 := rfl
      rw [Int.mul_comm] at hk
      omega
    | succ k ih =>
      intro hk h2
      by_cases h3 : w - (w - 1) / jsr m r v y 0 Y * jsr m r v y 0 Y ≤ jsr m r v y a k
      · obtain ⟨j, j1, j2⟩ := ih (by omega) h3
        exact ⟨j, by omega, j2⟩
      · exact ⟨k, by omega, by omega, h2⟩
  obtain ⟨j, j1, j2, j3⟩ := key Y (Nat.le_refl _) (by rw [full, Int.mul_comm]; omega)
  refine ⟨_, jtl_rest hY ha q0 rfl j2 j3, ?_⟩
  have : (w - 1) / jsr m r v y 0 Y * y ≤ w * y := Int.mul_le_mul_of_nonneg_right (by omega) (by omega)
  omega
theorem tround_ok {P : si_P} {d : Nat} {h : si_H} (hH : az_HI P az_tb h) : az_X P d 73 0 (lv_args 0 [.ref (P.1 + 1)]) [] h (fun rv h' => h' = h ∧ jV rv (ja h 1 0 * ja h 1 1)) := by
  obtain ⟨⟨M, hM, eM⟩, bM⟩ := jt_ok hH (i := 1) (k := 0) rfl
  obtain ⟨⟨R, hR, eR⟩, bR⟩ := jt_ok hH (i := 1) (k := 1) rfl
  have eM' : ja h 1 0 = M.toInt := eM.symm
  have eR' : ja h 1 1 = R.toInt := eR.symm
  have b1 : 4 ≤ ji h 1 0 ∧ ji h 1 0 ≤ 60 := bM
  have b2 : 2 ≤ ji h 1 1 ∧ ji h 1 1 ≤ 24 := bR
  rw [eM', eR']
  have bp := nm_mulnn (a := 4) (b := 60) (c := 2) (d := 24) (x := M.toInt) (y := R.toInt) (by decide) (by decide) (by omega) (by omega) (by omega) (by omega)
  have ep : (M * R).toInt = M.toInt * R.toInt := nm_mul (by omega) (by omega)
  refine az_X_step (pc' := 1) (ls' := [(0, .ref (P.1 + 1))]) (st' := [.ref (P.1 + 1)]) (h' := h) rfl rfl rfl ?_
  refine jx_gf (i := 1) rfl rfl hH (by decide) (hH.2 1 _ rfl).1 rfl hM ?_
  refine az_X_step (pc' := 5) (ls' := [(0, .ref (P.1 + 1))]) (st' := [.ref (P.1 + 1), .int M]) (h' := h) rfl rfl rfl ?_
  refine jx_gf (i := 1) rfl rfl hH (by decide) (hH.2 1 _ rfl).1 rfl hR ?_
  refine az_X_step (pc' := 9) (ls' := [(0, .ref (P.1 + 1))]) (st' := [.int (M * R)]) (h' := h) rfl rfl rfl ?_
  refine jx_ret rfl rfl rfl ?_
  exact ⟨rfl, M * R, rfl, ep⟩
theorem taround_ok {P : si_P} {d : Nat} {h : si_H} (hH : az_HI P az_tb h) (t : Int32) : az_X P (d + 1) 75 0 (lv_args 0 [.ref (P.1 + 1), .int t]) [] h (fun rv h' => h' = h ∧ jV rv (t.toInt % (ja h 1 0 * ja h 1 1))) := by
  obtain ⟨⟨M, hM, eM⟩, bM⟩ := jt_ok hH (i := 1) (k := 0) rfl
  obtain ⟨⟨R, hR, eR⟩, bR⟩ := jt_ok hH (i := 1) (k := 1) rfl
  have eM' : ja h 1 0 = M.toInt := eM.symm
  have eR' : ja h 1 1 = R.toInt := eR.symm
  have b1 : 4 ≤ ji h 1 0 ∧ ji h 1 0 ≤ 60 := bM
  have b2 : 2 ≤ ji h 1 1 ∧ ji h 1 1 ≤ 24 := bR
  rw [eM', eR']
  have bp := nm_mulnn (a := 4) (b := 60) (c := 2) (d := 24) (x := M.toInt) (y := R.toInt) (by decide) (by decide) (by omega) (by omega) (by omega) (by omega)
  have ep : (M * R).toInt = M.toInt * R.toInt := nm_mul (by omega) (by omega)
  refine az_X_step (pc' := 1) (ls' := [(0, .ref (P.1 + 1)), (1, .int t)]) (st' := [.int t]) (h' := h) rfl rfl rfl ?_
  refine az_X_step (pc' := 2) (ls' := [(0, .ref (P.1 + 1)), (1, .int t)]) (st' := [.ref (P.1 + 1), .int t]) (h' := h) rfl rfl rfl ?_
  refine jx_gf (i := 1) rfl rfl hH (by decide) (hH.2 1 _ rfl).1 rfl hM ?_
  refine az_X_step (pc' := 6) (ls' := [(0, .ref (P.1 + 1)), (1, .int t)]) (st' := [.ref (P.1 + 1), .int M, .int t]) (h' := h) rfl rfl rfl ?_
  refine jx_gf (i := 1) rfl rfl hH (by decide) (hH.2 1 _ rfl).1 rfl hR ?_
  refine az_X_step (pc' := 10) (ls' := [(0, .ref (P.1 + 1)), (1, .int t)]) (st' := [.int (M * R), .int t]) (h' := h) rfl rfl rfl ?_
  refine az_X_call (m' := 200) (as := [.int t, .int (M * R)]) (rest := []) rfl rfl rfl rfl rfl rfl ?_
  refine (modulo_ok t (M * R) (by omega)).mono ?_
  rintro rv10 h10 ⟨q10, z10, rfl, ez10⟩
  subst h10
  show az_X P _ 75 13 [(0, .ref (P.1 + 1)), (1, .int t)] [.int z10] _ _
  refine jx_ret rfl rfl rfl ?_
  exact ⟨rfl, z10, rfl, by rw [← ep]; exact ez10⟩
theorem till_l {P : si_P} {d : Nat} {h : si_H} (hH : az_HI P az_tb h) (a w v Y G Q E : Int32) (hv : v = 0 ∨ v = 1) (ha : 0 ≤ a.toInt ∧ a.toInt ≤ 1440) (hY : Y.toInt = ja h 1 0 * ja h 1 1) (hQ : 0 ≤ Q.toInt ∧ Q.toInt ≤ 10000) (hE : E.toInt ≤ jsr (ja h 1 0) (ja h 1 1) v.toInt (ja h 1 0 * ja h 1 1) a.toInt Y.toInt.toNat) : ∀ (k n : Nat) (H K : Int32) (ls : si_L), jM [(9, .int K), (8, .int H), (7, .int E), (6, .int Q), (5, .int G), (4, .int Y), (0, .ref (P.1 + 5)), (1, .int a), (2, .int w), (3, .int v)] ls → K.toInt = n → (n : Int) + k = Y.toInt → H.toInt = jsr (ja h 1 0) (ja h 1 1) v.toInt (ja h 1 0 * ja h 1 1) a.toInt n → H.toInt < E.toInt → az_X P (d + 2) 21 46 ls [] h (fun rv h' => h' = h ∧ ∃ z : Int32, rv = some (.int z) ∧ ∃ j : Nat, z.toInt = Q.toInt * Y.toInt + j ∧ jsr (ja h 1 0) (ja h 1 1) v.toInt (ja h 1 0 * ja h 1 1) a.toInt j < E.toInt ∧ E.toInt ≤ jsr (ja h 1 0) (ja h 1 1) v.toInt (ja h 1 0 * ja h 1 1) a.toInt (j + 1)) := by
  obtain ⟨⟨M, hM, eM⟩, bM⟩ := jt_ok hH (i := 1) (k := 0) rfl
  obtain ⟨⟨R, hR, eR⟩, bR⟩ := jt_ok hH (i := 1) (k := 1) rfl
  have eM' : ja h 1 0 = M.toInt := eM.symm
  have eR' : ja h 1 1 = R.toInt := eR.symm
  have b1 : 4 ≤ ji h 1 0 ∧ ji h 1 0 ≤ 60 := bM
  have b2 : 2 ≤ ji h 1 1 ∧ ji h 1 1 ≤ 24 := bR
  have bp := nm_mulnn (a := 4) (b := 60) (c := 2) (d := 24) (x := M.toInt) (y := R.toInt) (by decide) (by decide) (by omega) (by omega) (by omega) (by omega)
  have ep : (M * R).toInt = M.toInt * R.toInt := nm_mul (by omega) (by omega)
  have z1 : (1 : Int32).toInt = 1 := by decide
  have Y2 : 8 ≤ Y.toInt ∧ Y.toInt ≤ 1440 := by rw [hY, eM', eR']; omega
  have mq := nm_mulnn (a := 0) (b := 10000) (c := 8) (d := 1440) (x := Q.toInt) (y := Y.toInt) (by decide) (by decide) (by omega) (by omega) (by omega) (by omega)
  intro k
  induction k with
  | zero =>
    intro n H K ls hl' eK hn eH hlt
    have hnY : Y.toInt.toNat = n := by omega
    rw [hnY] at hE
    refine jm_iload (x := K) rfl rfl (jM_at hl' 0 rfl) ?_
    refine jm_iload (x := Y) rfl rfl (jM_at hl' 5 rfl) ?_
    refine jx_ic (t := 96) rfl rfl rfl (fun hc50 => ?_) (fun hc50 => ?_)
    · have g50 := jc2_ge_t hc50
      refine az_X_step (pc' := 98) (ls' := ls) (st' := [.int (-2)]) (h' := h) rfl rfl rfl ?_
      refine jx_ret rfl rfl rfl ?_
      exact absurd hE (by omega)
    · have g50 := jc2_ge_f hc50
      exact absurd eK (by omega)
  | succ k ih =>
    intro n H K ls hl' eK hn eH hlt
    have bd := jsr_bd (m := ja h 1 0) (r := ja h 1 1) (v := v.toInt) (y := ja h 1 0 * ja h 1 1) (a := a.toInt) (by rw [eM']; omega) (by rw [eR']; omega) (by omega) n
    have bd' := jsr_bd (m := ja h 1 0) (r := ja h 1 1) (v := v.toInt) (y := ja h 1 0 * ja h 1 1) (a := a.toInt) (by rw [eM']; omega) (by rw [eR']; omega) (by omega) (n + 1)
    have eK1 : (K + 1).toInt = (n + 1 : Nat) := by rw [nm_add (by omega) (by omega)]; omega
    have ea : (a + K).toInt = a.toInt + n := by rw [nm_add (by omega) (by omega), eK]
    have m1 := Int.emod_nonneg (a.toInt + n) (b := ja h 1 0 * ja h 1 1) (by omega)
    have m2 := Int.emod_lt_of_pos (a.toInt + n) (b := ja h 1 0 * ja h 1 1) (by omega)
    have nx : jsr (ja h 1 0) (ja h 1 1) v.toInt (ja h 1 0 * ja h 1 1) a.toInt (n + 1) = jsr (ja h 1 0) (ja h 1 1) v.toInt (ja h 1 0 * ja h 1 1) a.toInt n + jst (ja h 1 0) (ja h 1 1) ((a.toInt + n) % (ja h 1 0 * ja h 1 1)) v.toInt := rfl
    refine jm_iload (x := K) rfl rfl (jM_at hl' 0 rfl) ?_
    refine jm_iload (x := Y) rfl rfl (jM_at hl' 5 rfl) ?_
    refine jx_ic (t := 96) rfl rfl rfl (fun hc50 => ?_) (fun hc50 => ?_)
    · have g50 := jc2_ge_t hc50
      refine az_X_step (pc' := 98) (ls' := ls) (st' := [.int (-2)]) (h' := h) rfl rfl rfl ?_
      refine jx_ret rfl rfl rfl ?_
      exact absurd eK (by omega)
    · have g50 := jc2_ge_f hc50
      refine jm_iload (x := H) rfl rfl (jM_at hl' 1 rfl) ?_
      refine jm_aload_n (x := P.1 + 5) rfl rfl (jM_at hl' 6 rfl) ?_
      refine jm_aload_n (x := P.1 + 5) rfl rfl (jM_at hl' 6 rfl) ?_
      refine jx_gf (i := 5) rfl rfl hH (by decide) (hH.2 5 _ rfl).1 rfl (jx_rf hH rfl rfl) ?_
      refine jm_iload_n (x := a) rfl rfl (jM_at hl' 7 rfl) ?_
      refine jm_iload (x := K) rfl rfl (jM_at hl' 0 rfl) ?_
      refine az_X_step (pc' := 64) (ls' := ls) (st' := [.int (a + K), .ref (P.1 + 1), .ref (P.1 + 5), .int H]) (h' := h) rfl rfl rfl ?_
      refine az_X_call (m' := 75) (as := [.ref (P.1 + 1), .int (a + K)]) (rest := [.ref (P.1 + 5), .int H]) rfl rfl rfl rfl rfl ?_ ?_
      · unfold si_call
        dsimp only
        rw [if_pos ⟨rfl, rfl⟩]
        show (match si_ix P h (P.1 + 1) with | some i => _ | none => none) = _
        rw [jix hH (by decide)]
        dsimp only
        rw [(hH.2 1 _ rfl).1]
        rfl
      refine (taround_ok hH (a + K)).mono ?_
      rintro rv64 h64 ⟨q64, z64, rfl, ez64⟩
      subst h64
      show az_X P _ 21 67 ls [.int z64, .ref (P.1 + 5), .int H] _ _
      refine jm_iload_n (x := v) rfl rfl (jM_at hl' 9 rfl) ?_
      refine az_X_call (m' := 17) (as := [.ref (P.1 + 5), .int z64, .int v]) (rest := [.int H]) rfl rfl rfl rfl rfl ?_ ?_
      · unfold si_call
        dsimp only
        rw [if_pos ⟨rfl, rfl⟩]
        show (match si_ix P h (P.1 + 5) with | some i => _ | none => none) = _
        rw [jix hH (by decide)]
        dsimp only
        rw [(hH.2 5 _ rfl).1]
        rfl
      refine (strk0_ok hH z64 v (by rw [ez64, ea]; omega) hv).mono ?_
      rintro rv68 h68 ⟨q68, z68, rfl, ez68⟩
      subst h68
      show az_X P _ 21 71 ls [.int z68, .int H] _ _
      refine az_X_step (pc' := 72) (ls' := ls) (st' := [.int (H + z68)]) (h' := h) rfl rfl rfl ?_
      refine jm_istore (l' := [(8, .int (H + z68)), (9, .int K), (7, .int E), (6, .int Q), (5, .int G), (4, .int Y), (0, .ref (P.1 + 5)), (1, .int a), (2, .int w), (3, .int v)]) rfl rfl (by decide) hl' rfl rfl (fun ls72_1 hl72_1 => ?_)
      refine jm_iload (x := H + z68) rfl rfl (jM_at hl72_1 0 rfl) ?_
      refine jm_iload (x := E) rfl rfl (jM_at hl72_1 2 rfl) ?_
      refine jx_ic (t := 90) rfl rfl rfl (fun hc78 => ?_) (fun hc78 => ?_)
      · have g78 := jc2_lt_t hc78
        refine jm_iinc (x := K) (x' := K + 1) (l' := [(9, .int (K + 1)), (8, .int (H + z68)), (7, .int E), (6, .int Q), (5, .int G), (4, .int Y), (0, .ref (P.1 + 5)), (1, .int a), (2, .int w), (3, .int v)]) rfl rfl (by decide) (jM_at hl72_1 1 rfl) rfl hl72_1 rfl rfl (fun ls90_2 hl90_2 => ?_)
        refine az_X_step (pc' := 46) (ls' := ls90_2) (st' := []) (h' := h) rfl rfl rfl ?_
        have e5 : (H + z68).toInt = jsr (ja h 1 0) (ja h 1 1) v.toInt (ja h 1 0 * ja h 1 1) a.toInt (n + 1) := by
          have e6 : z68.toInt = jst (ja h 1 0) (ja h 1 1) ((a.toInt + n) % (ja h 1 0 * ja h 1 1)) v.toInt := by rw [ez68, ez64, ea]
          rw [nm_add (by omega) (by omega), nx, eH, e6]
        exact ih (n + 1) (H + z68) (K + 1) ls90_2 (jM_pick hl90_2 [0, 1, 2, 3, 4, 5, 6, 7, 8, 9] rfl) eK1 (by omega) e5 g78
      · have g78 := jc2_lt_f hc78
        refine jm_iload (x := Q) rfl rfl (jM_at hl72_1 3 rfl) ?_
        refine jm_iload (x := Y) rfl rfl (jM_at hl72_1 5 rfl) ?_
        refine az_X_step (pc' := 86) (ls' := ls72_1) (st' := [.int (Q * Y)]) (h' := h) rfl rfl rfl ?_
        refine jm_iload (x := K) rfl rfl (jM_at hl72_1 1 rfl) ?_
        refine az_X_step (pc' := 89) (ls' := ls72_1) (st' := [.int ((Q * Y) + K)]) (h' := h) rfl rfl rfl ?_
        refine jx_ret rfl rfl rfl ?_
        have e5 : (H + z68).toInt = jsr (ja h 1 0) (ja h 1 1) v.toInt (ja h 1 0 * ja h 1 1) a.toInt (n + 1) := by
          have e6 : z68.toInt = jst (ja h 1 0) (ja h 1 1) ((a.toInt + n) % (ja h 1 0 * ja h 1 1)) v.toInt := by rw [ez68, ez64, ea]
          rw [nm_add (by omega) (by omega), nx, eH, e6]
        exact ⟨rfl, Q * Y + K, rfl, n, by
          have e7 : (Q * Y).toInt = Q.toInt * Y.toInt := nm_mul (by omega) (by omega)
          rw [nm_add (by rw [e7]; omega) (by rw [e7]; omega), e7, eK], by omega, by omega⟩
theorem cstill_ok {P : si_P} {d : Nat} {h : si_H} (hH : az_HI P az_tb h) (a w v : Int32) (hv : v = 0 ∨ v = 1) (ha : 0 ≤ a.toInt ∧ a.toInt ≤ 1440) (hw : 1 ≤ w.toInt ∧ w.toInt ≤ 9999) : az_X P (d + 3) 21 0 (lv_args 0 [.ref (P.1 + 5), .int a, .int w, .int v]) [] h (fun rv h' => h' = h ∧ ∃ z : Int32, rv = some (.int z) ∧ jtl (ja h 1 0) (ja h 1 1) v.toInt (ja h 1 0 * ja h 1 1) a.toInt w.toInt z.toInt) := by
  obtain ⟨⟨M, hM, eM⟩, bM⟩ := jt_ok hH (i := 1) (k := 0) rfl
  obtain ⟨⟨R, hR, eR⟩, bR⟩ := jt_ok hH (i := 1) (k := 1) rfl
  have eM' : ja h 1 0 = M.toInt := eM.symm
  have eR' : ja h 1 1 = R.toInt := eR.symm
  have b1 : 4 ≤ ji h 1 0 ∧ ji h 1 0 ≤ 60 := bM
  have b2 : 2 ≤ ji h 1 1 ∧ ji h 1 1 ≤ 24 := bR
  have bp := nm_mulnn (a := 4) (b := 60) (c := 2) (d := 24) (x := M.toInt) (y := R.toInt) (by decide) (by decide) (by omega) (by omega) (by omega) (by omega)
  have ep : (M * R).toInt = M.toInt * R.toInt := nm_mul (by omega) (by omega)
  have z1 : (1 : Int32).toInt = 1 := by decide
  have z0 : (0 : Int32).toInt = 0 := by decide
  have e1 : (w - 1).toInt = w.toInt - 1 := by rw [nm_sub (by omega) (by omega), z1]
  have bp' : 8 ≤ ja h 1 0 * ja h 1 1 ∧ ja h 1 0 * ja h 1 1 ≤ 1440 := by rw [eM', eR']; omega
  have T2 := jsr_pos (m := ja h 1 0) (r := ja h 1 1) (v := v.toInt) (y := ja h 1 0 * ja h 1 1) (Y := (ja h 1 0 * ja h 1 1).toNat) (by rw [eM']; omega) (by rw [eR']; omega) (by omega) (by rw [eR']; omega) (by omega)
  have TB := jsr_bd (m := ja h 1 0) (r := ja h 1 1) (v := v.toInt) (y := ja h 1 0 * ja h 1 1) (a := 0) (by rw [eM']; omega) (by rw [eR']; omega) (by omega) (ja h 1 0 * ja h 1 1).toNat
  have T0 := jsr_0 (m := ja h 1 0) (r := ja h 1 1) (v := v.toInt) (y := ja h 1 0 * ja h 1 1) (ja h 1 0 * ja h 1 1).toNat (by omega)
  have qd := jemx (a := w.toInt - 1) (m := jsr (ja h 1 0) (ja h 1 1) v.toInt (ja h 1 0 * ja h 1 1) 0 (ja h 1 0 * ja h 1 1).toNat) (by omega)
  have q0 : 0 ≤ (w.toInt - 1) / jsr (ja h 1 0) (ja h 1 1) v.toInt (ja h 1 0 * ja h 1 1) 0 (ja h 1 0 * ja h 1 1).toNat := Int.ediv_nonneg (by omega) (by omega)
  have q1 : (w.toInt - 1) / jsr (ja h 1 0) (ja h 1 1) v.toInt (ja h 1 0 * ja h 1 1) 0 (ja h 1 0 * ja h 1 1).toNat ≤ w.toInt - 1 := Int.ediv_le_self _ (by omega)
  have full : jsr (ja h 1 0) (ja h 1 1) v.toInt (ja h 1 0 * ja h 1 1) a.toInt (ja h 1 0 * ja h 1 1).toNat = jsr (ja h 1 0) (ja h 1 1) v.toInt (ja h 1 0 * ja h 1 1) 0 (ja h 1 0 * ja h 1 1).toNat := by
    have := jsr_rnd (m := ja h 1 0) (r := ja h 1 1) (v := v.toInt) (y := ja h 1 0 * ja h 1 1) (Y := (ja h 1 0 * ja h 1 1).toNat) (by omega) a.toInt.toNat
    rw [show ((a.toInt.toNat : Nat) : Int) = a.toInt by omega] at this
    exact this
  generalize hT : jsr (ja h 1 0) (ja h 1 1) v.toInt (ja h 1 0 * ja h 1 1) 0 (ja h 1 0 * ja h 1 1).toNat = T at T2 TB T0 qd q0 q1 full
  have hl' : jM [(0, .ref (P.1 + 5)), (1, .int a), (2, .int w), (3, .int v)] (lv_args 0 [.ref (P.1 + 5), .int a, .int w, .int v]) := jM_args [0, 1, 2, 3] rfl (by decide)
  generalize lv_args 0 [.ref (P.1 + 5), .int a, .int w, .int v] = ls at hl'
  refine jm_aload_n (x := P.1 + 5) rfl rfl (jM_at hl' 0 rfl) ?_
  refine jx_gf (i := 5) rfl rfl hH (by decide) (hH.2 5 _ rfl).1 rfl (jx_rf hH rfl rfl) ?_
  refine az_X_call (m' := 73) (as := [.ref (P.1 + 1)]) (rest := []) rfl rfl rfl rfl rfl ?_ ?_
  · unfold si_call
    dsimp only
    rw [if_pos ⟨rfl, rfl⟩]
    show (match si_ix P h (P.1 + 1) with | some i => _ | none => none) = _
    rw [jix hH (by decide)]
    dsimp only
    rw [(hH.2 1 _ rfl).1]
    rfl
  refine (tround_ok hH).mono ?_
  rintro rv4 h4 ⟨q4, z4, rfl, ez4⟩
  subst h4
  have e41 : (z4 - 1).toInt = ja h 1 0 * ja h 1 1 - 1 := by rw [nm_sub (by rw [ez4]; omega) (by rw [ez4]; omega), ez4, z1]
  show az_X P _ 21 7 ls [.int z4] _ _
  refine jm_istore (l' := [(4, .int z4), (0, .ref (P.1 + 5)), (1, .int a), (2, .int w), (3, .int v)]) rfl rfl (by decide) hl' rfl rfl (fun ls7_1 hl7_1 => ?_)
  refine jm_aload_n (x := P.1 + 5) rfl rfl (jM_at hl7_1 1 rfl) ?_
  refine az_X_step (pc' := 11) (ls' := ls7_1) (st' := [.int 0, .ref (P.1 + 5)]) (h' := h) rfl rfl rfl ?_
  refine jm_iload (x := z4) rfl rfl (jM_at hl7_1 0 rfl) ?_
  refine az_X_step (pc' := 14) (ls' := ls7_1) (st' := [.int 1, .int z4, .int 0, .ref (P.1 + 5)]) (h' := h) rfl rfl rfl ?_
  refine az_X_step (pc' := 15) (ls' := ls7_1) (st' := [.int (z4 - 1), .int 0, .ref (P.1 + 5)]) (h' := h) rfl rfl rfl ?_
  refine jm_iload_n (x := v) rfl rfl (jM_at hl7_1 4 rfl) ?_
  refine az_X_call (m' := 19) (as := [.ref (P.1 + 5), .int 0, .int (z4 - 1), .int v]) (rest := []) rfl rfl rfl rfl rfl ?_ ?_
  · unfold si_call
    dsimp only
    rw [if_pos ⟨rfl, rfl⟩]
    show (match si_ix P h (P.1 + 5) with | some i => _ | none => none) = _
    rw [jix hH (by decide)]
    dsimp only
    rw [(hH.2 5 _ rfl).1]
    rfl
  refine (sbtw0_ok hH 0 (z4 - 1) v (by decide) (by rw [e41, z0]; omega) (by rw [e41]; omega) hv).mono ?_
  rintro rv16 h16 ⟨q16, z16, rfl, ez16⟩
  subst h16
  have e9 : ((z4 - 1).toInt + 1 - (0 : Int32).toInt).toNat = (ja h 1 0 * ja h 1 1).toNat := by
    rw [e41, z0]
    congr 1
    omega
  have eG : z16.toInt = T := by
    rw [ez16, e9, z0]
    exact T0.symm
  show az_X P _ 21 19 ls7_1 [.int z16] _ _
  refine jm_istore (l' := [(5, .int z16), (4, .int z4), (0, .ref (P.1 + 5)), (1, .int a), (2, .int w), (3, .int v)]) rfl rfl (by decide) hl7_1 rfl rfl (fun ls19_2 hl19_2 => ?_)
  refine jm_iload_n (x := w) rfl rfl (jM_at hl19_2 4 rfl) ?_
  refine az_X_step (pc' := 23) (ls' := ls19_2) (st' := [.int 1, .int w]) (h' := h) rfl rfl rfl ?_
  refine az_X_step (pc' := 24) (ls' := ls19_2) (st' := [.int (w - 1)]) (h' := h) rfl rfl rfl ?_
  refine jm_iload (x := z16) rfl rfl (jM_at hl19_2 0 rfl) ?_
  refine az_X_call (m' := 199) (as := [.int (w - 1), .int z16]) (rest := []) rfl rfl rfl rfl rfl rfl ?_
  refine (through_ok (w - 1) z16 (by rw [e1]; omega) (by rw [eG]; omega)).mono ?_
  rintro rv26 h26 ⟨q26, z26, rfl, ez26⟩
  subst h26
  show az_X P _ 21 29 ls19_2 [.int z26] _ _
  refine jm_istore (l' := [(6, .int z26), (5, .int z16), (4, .int z4), (0, .ref (P.1 + 5)), (1, .int a), (2, .int w), (3, .int v)]) rfl rfl (by decide) hl19_2 rfl rfl (fun ls29_3 hl29_3 => ?_)
  refine jm_iload_n (x := w) rfl rfl (jM_at hl29_3 5 rfl) ?_
  refine jm_iload (x := z26) rfl rfl (jM_at hl29_3 0 rfl) ?_
  refine jm_iload (x := z16) rfl rfl (jM_at hl29_3 1 rfl) ?_
  refine az_X_step (pc' := 37) (ls' := ls29_3) (st' := [.int (z26 * z16), .int w]) (h' := h) rfl rfl rfl ?_
  refine az_X_step (pc' := 38) (ls' := ls29_3) (st' := [.int (w - (z26 * z16))]) (h' := h) rfl rfl rfl ?_
  refine jm_istore (l' := [(7, .int (w - (z26 * z16))), (6, .int z26), (5, .int z16), (4, .int z4), (0, .ref (P.1 + 5)), (1, .int a), (2, .int w), (3, .int v)]) rfl rfl (by decide) hl29_3 rfl rfl (fun ls38_4 hl38_4 => ?_)
  refine az_X_step (pc' := 41) (ls' := ls38_4) (st' := [.int 0]) (h' := h) rfl rfl rfl ?_
  refine jm_istore (l' := [(8, .int 0), (7, .int (w - (z26 * z16))), (6, .int z26), (5, .int z16), (4, .int z4), (0, .ref (P.1 + 5)), (1, .int a), (2, .int w), (3, .int v)]) rfl rfl (by decide) hl38_4 rfl rfl (fun ls41_5 hl41_5 => ?_)
  refine az_X_step (pc' := 44) (ls' := ls41_5) (st' := [.int 0]) (h' := h) rfl rfl rfl ?_
  refine jm_istore (l' := [(9, .int 0), (8, .int 0), (7, .int (w - (z26 * z16))), (6, .int z26), (5, .int z16), (4, .int z4), (0, .ref (P.1 + 5)), (1, .int a), (2, .int w), (3, .int v)]) rfl rfl (by decide) hl41_5 rfl rfl (fun ls44_6 hl44_6 => ?_)
  have eQ : z26.toInt = (w.toInt - 1) / T := by rw [ez26, eG, e1]
  have eQG : (z26 * z16).toInt = T * ((w.toInt - 1) / T) := by
    rw [nm_mul (by rw [eQ, eG, Int.mul_comm]; omega) (by rw [eQ, eG, Int.mul_comm]; omega), eQ, eG, Int.mul_comm]
  have eE : (w - z26 * z16).toInt = w.toInt - T * ((w.toInt - 1) / T) := by rw [nm_sub (by rw [eQG]; omega) (by rw [eQG]; omega), eQG]
  have fin : ∀ j : Nat, jsr (ja h 1 0) (ja h 1 1) v.toInt (ja h 1 0 * ja h 1 1) a.toInt j < (w - z26 * z16).toInt → (w - z26 * z16).toInt ≤ jsr (ja h 1 0) (ja h 1 1) v.toInt (ja h 1 0 * ja h 1 1) a.toInt (j + 1) → jtl (ja h 1 0) (ja h 1 1) v.toInt (ja h 1 0 * ja h 1 1) a.toInt w.toInt (z26.toInt * z4.toInt + j) := fun j j2 j3 => by
    rw [eQ, ez4]
    exact jtl_rest (Y := (ja h 1 0 * ja h 1 1).toNat) (by omega) ha.1 q0 (by rw [hT, eE, Int.mul_comm]) j2 j3
  refine (till_l (d := d + 1) hH a w v z4 z16 z26 (w - z26 * z16) hv ha ez4 (by rw [eQ]; omega) (by rw [ez4, full, eE]; omega) z4.toInt.toNat 0 0 0 ls44_6 (jM_pick hl44_6 [0, 1, 2, 3, 4, 5, 6, 7, 8, 9] rfl) (by decide) (by omega) (by show (0 : Int32).toInt = 0; decide) (by rw [eE, z0]; omega)).mono ?_
  rintro rv h1 ⟨q, z, rfl, j, j1, j2, j3⟩
  exact ⟨q, z, rfl, by rw [j1]; exact fin j j2 j3⟩
def jtlS (m r a w v z : Int) : Prop := ((0 ≤ a ∧ a < m * r ∧ 1 ≤ w ∧ w ≤ 9999) ∧ jtl m r v (m * r) a w z) ∨ (¬ (0 ≤ a ∧ a < m * r ∧ 1 ≤ w ∧ w ≤ 9999) ∧ z = -1)
theorem jtlS_un {m r a w v z z' : Int} (hm : 4 ≤ m) (hr : 0 ≤ r ∧ r ≤ 24) (hy : 1 ≤ m * r ∧ m * r ≤ 1440) (h1 : jtlS m r a w v z) (h2 : jtlS m r a w v z') : z = z' := by
  rcases h1 with ⟨p, q⟩ | ⟨p, q⟩ <;> rcases h2 with ⟨p', q'⟩ | ⟨p', q'⟩
  · exact jtl_un hm hr hy q q'
  · exact absurd p p'
  · exact absurd p' p
  · omega
theorem still0_ok {P : si_P} {d : Nat} {h : si_H} (hH : az_HI P az_tb h) (a w v : Int32) (hv : v = 0 ∨ v = 1) : az_X P (d + 4) 161 0 (lv_args 0 [.ref (P.1 + 0), .int a, .int w, .int v]) [] h (fun rv h' => h' = h ∧ ∃ z : Int32, rv = some (.int z) ∧ jtlS (ja h 1 0) (ja h 1 1) a.toInt w.toInt v.toInt z.toInt) := by
  have bm : 4 ≤ ja h 1 0 ∧ ja h 1 0 ≤ 60 := ja_bd hH (i := 1) (k := 0) rfl
  have br : 2 ≤ ja h 1 1 ∧ ja h 1 1 ≤ 24 := ja_bd hH (i := 1) (k := 1) rfl
  have bp := nm_mulnn (a := 4) (b := 60) (c := 2) (d := 24) (x := ja h 1 0) (y := ja h 1 1) (by decide) (by decide) bm.1 bm.2 br.1 br.2
  have z1 : (1 : Int32).toInt = 1 := by decide
  have z9 : (9999 : Int32).toInt = 9999 := by decide
  refine az_X_step (pc' := 1) (ls' := [(0, .ref (P.1 + 0)), (1, .int a), (2, .int w), (3, .int v)]) (st' := [.ref (P.1 + 0)]) (h' := h) rfl rfl rfl ?_
  refine jx_gf (i := 0) rfl rfl hH (by decide) (hH.2 0 _ rfl).1 rfl (jx_rf hH rfl rfl) ?_
  refine az_X_step (pc' := 5) (ls' := [(0, .ref (P.1 + 0)), (1, .int a), (2, .int w), (3, .int v)]) (st' := [.int a, .ref (P.1 + 1)]) (h' := h) rfl rfl rfl ?_
  refine az_X_call (m' := 74) (as := [.ref (P.1 + 1), .int a]) (rest := []) rfl rfl rfl rfl rfl ?_ ?_
  · unfold si_call
    dsimp only
    rw [if_pos ⟨rfl, rfl⟩]
    show (match si_ix P h (P.1 + 1) with | some i => _ | none => none) = _
    rw [jix hH (by decide)]
    dsimp only
    rw [(hH.2 1 _ rfl).1]
    rfl
  refine (istime0_ok hH a).mono ?_
  rintro rv5 h5 ⟨q5, z5, rfl, ez5⟩
  subst h5
  show az_X P _ 161 8 [(0, .ref (P.1 + 0)), (1, .int a), (2, .int w), (3, .int v)] [.int z5] _ _
  refine jx_if (t := 23) rfl rfl rfl (fun hc8 => ?_) (fun hc8 => ?_)
  · have g8 := jc1_eq_t hc8
    refine az_X_step (pc' := 24) (ls' := [(0, .ref (P.1 + 0)), (1, .int a), (2, .int w), (3, .int v)]) (st' := [.int (-1)]) (h' := h) rfl rfl rfl ?_
    refine jx_ret rfl rfl rfl ?_
    exact ⟨rfl, -1, rfl, Or.inr ⟨by omega, by decide⟩⟩
  · have g8 := jc1_eq_f hc8
    refine az_X_step (pc' := 12) (ls' := [(0, .ref (P.1 + 0)), (1, .int a), (2, .int w), (3, .int v)]) (st' := [.int w]) (h' := h) rfl rfl rfl ?_
    refine az_X_step (pc' := 13) (ls' := [(0, .ref (P.1 + 0)), (1, .int a), (2, .int w), (3, .int v)]) (st' := [.int 1, .int w]) (h' := h) rfl rfl rfl ?_
    refine jx_ic (t := 23) rfl rfl rfl (fun hc13 => ?_) (fun hc13 => ?_)
    · have g13 := jc2_lt_t hc13
      refine az_X_step (pc' := 24) (ls' := [(0, .ref (P.1 + 0)), (1, .int a), (2, .int w), (3, .int v)]) (st' := [.int (-1)]) (h' := h) rfl rfl rfl ?_
      refine jx_ret rfl rfl rfl ?_
      exact ⟨rfl, -1, rfl, Or.inr ⟨by omega, by decide⟩⟩
    · have g13 := jc2_lt_f hc13
      refine az_X_step (pc' := 17) (ls' := [(0, .ref (P.1 + 0)), (1, .int a), (2, .int w), (3, .int v)]) (st' := [.int w]) (h' := h) rfl rfl rfl ?_
      refine az_X_step (pc' := 20) (ls' := [(0, .ref (P.1 + 0)), (1, .int a), (2, .int w), (3, .int v)]) (st' := [.int 9999, .int w]) (h' := h) rfl rfl rfl ?_
      refine jx_ic (t := 25) rfl rfl rfl (fun hc20 => ?_) (fun hc20 => ?_)
      · have g20 := jc2_le_t hc20
        refine az_X_step (pc' := 26) (ls' := [(0, .ref (P.1 + 0)), (1, .int a), (2, .int w), (3, .int v)]) (st' := [.ref (P.1 + 0)]) (h' := h) rfl rfl rfl ?_
        refine jx_gf (i := 0) rfl rfl hH (by decide) (hH.2 0 _ rfl).1 rfl (jx_rf hH rfl rfl) ?_
        refine az_X_step (pc' := 30) (ls' := [(0, .ref (P.1 + 0)), (1, .int a), (2, .int w), (3, .int v)]) (st' := [.int a, .ref (P.1 + 5)]) (h' := h) rfl rfl rfl ?_
        refine az_X_step (pc' := 31) (ls' := [(0, .ref (P.1 + 0)), (1, .int a), (2, .int w), (3, .int v)]) (st' := [.int w, .int a, .ref (P.1 + 5)]) (h' := h) rfl rfl rfl ?_
        refine az_X_step (pc' := 32) (ls' := [(0, .ref (P.1 + 0)), (1, .int a), (2, .int w), (3, .int v)]) (st' := [.int v, .int w, .int a, .ref (P.1 + 5)]) (h' := h) rfl rfl rfl ?_
        refine az_X_call (m' := 21) (as := [.ref (P.1 + 5), .int a, .int w, .int v]) (rest := []) rfl rfl rfl rfl rfl ?_ ?_
        · unfold si_call
          dsimp only
          rw [if_pos ⟨rfl, rfl⟩]
          show (match si_ix P h (P.1 + 5) with | some i => _ | none => none) = _
          rw [jix hH (by decide)]
          dsimp only
          rw [(hH.2 5 _ rfl).1]
          rfl
        refine (cstill_ok hH a w v hv (by omega) (by omega)).mono ?_
        rintro rv32 h32 ⟨q32, z32, rfl, ez32⟩
        subst h32
        show az_X P _ 161 35 [(0, .ref (P.1 + 0)), (1, .int a), (2, .int w), (3, .int v)] [.int z32] _ _
        refine jx_ret rfl rfl rfl ?_
        exact ⟨rfl, z32, rfl, Or.inl ⟨by omega, ez32⟩⟩
      · have g20 := jc2_le_f hc20
        refine az_X_step (pc' := 24) (ls' := [(0, .ref (P.1 + 0)), (1, .int a), (2, .int w), (3, .int v)]) (st' := [.int (-1)]) (h' := h) rfl rfl rfl ?_
        refine jx_ret rfl rfl rfl ?_
        exact ⟨rfl, -1, rfl, Or.inr ⟨by omega, by decide⟩⟩
theorem rstill_l {P : si_P} {d : Nat} {h : si_H} (hH : az_HI P az_tb h) (hJ : js_J h) (a w v : Int32) (hv : v = 0 ∨ v = 1) (ha : 0 ≤ a.toInt ∧ a.toInt ≤ 1440) (hw : 1 ≤ w.toInt ∧ w.toInt ≤ 9999) {N : Nat} (hN : N ≤ 100000000) (hN2 : w.toInt ≤ jsr (ja h 60 7) (ja h 60 8) v.toInt (ja h 60 7 * ja h 60 8) a.toInt (N + 1)) : ∀ (k n : Nat) (H K : Int32) (ls : si_L), jM [(5, .int K), (4, .int H), (0, .ref (P.1 + 60)), (1, .int a), (2, .int w), (3, .int v)] ls → K.toInt = n → n + k = N → H.toInt = jsr (ja h 60 7) (ja h 60 8) v.toInt (ja h 60 7 * ja h 60 8) a.toInt n → H.toInt < w.toInt → az_X P (d + 2) 291 27 ls [] h (fun rv h' => h' = h ∧ ∃ z : Int32, rv = some (.int z) ∧ jtl (ja h 60 7) (ja h 60 8) v.toInt (ja h 60 7 * ja h 60 8) a.toInt w.toInt z.toInt) := by
  obtain ⟨⟨M, hM, eM⟩, bM⟩ := jt_ok hH (i := 60) (k := 7) rfl
  obtain ⟨⟨R, hR, eR⟩, bR⟩ := jt_ok hH (i := 60) (k := 8) rfl
  have eM' : ja h 60 7 = M.toInt := eM.symm
  have eR' : ja h 60 8 = R.toInt := eR.symm
  have b1 : 4 ≤ ji h 60 7 ∧ ji h 60 7 ≤ 60 := bM
  have b2 : 2 ≤ ji h 60 8 ∧ ji h 60 8 ≤ 24 := bR
  have bp := nm_mulnn (a := 4) (b := 60) (c := 2) (d := 24) (x := M.toInt) (y := R.toInt) (by decide) (by decide) (by omega) (by omega) (by omega) (by omega)
  have ep : (M * R).toInt = M.toInt * R.toInt := nm_mul (by omega) (by omega)
  have z1 : (1 : Int32).toInt = 1 := by decide
  have z0 : (0 : Int32).toInt = 0 := by decide
  obtain ⟨⟨Y, hY, eY⟩, bY⟩ := jt_ok hH (i := 60) (k := 9) rfl
  have eY' : ja h 60 9 = Y.toInt := eY.symm
  have bY' : 8 ≤ ji h 60 9 ∧ ji h 60 9 ≤ 1440 := bY
  have hp : ja h 60 9 = ja h 60 7 * ja h 60 8 := hJ.1.1
  have hY0 : Y ≠ 0 := fun e => by rw [e, z0] at eY; omega
  have bp' : 8 ≤ ja h 60 7 * ja h 60 8 ∧ ja h 60 7 * ja h 60 8 ≤ 1440 := by rw [← hp]; omega
  have hm4 : 4 ≤ ja h 60 7 := by rw [eM']; omega
  have hr24 : 0 ≤ ja h 60 8 ∧ ja h 60 8 ≤ 24 := by rw [eR']; omega
  have step : ∀ (n : Nat) (K : Int32), K.toInt = n → n ≤ N → (a + K - (a + K) / Y * Y).toInt = (a.toInt + n) % (ja h 60 7 * ja h 60 8) := by
    intro n K eK hn
    have ea : (a + K).toInt = a.toInt + n := by rw [nm_add (by omega) (by omega), eK]
    rw [nm_rem (by omega), Int.tmod_eq_emod_of_nonneg (by omega), ea, ← eY', hp]
  intro k
  induction k with
  | zero =>
    intro n H K ls hl' eK hn eH hlt
    have hnN : n = N := by omega
    subst hnN
    have m1 := Int.emod_nonneg (a.toInt + n) (b := ja h 60 7 * ja h 60 8) (by omega)
    have m2 := Int.emod_lt_of_pos (a.toInt + n) (b := ja h 60 7 * ja h 60 8) (by omega)
    have es := step n K eK (by omega)
    have bj := jst_bd (m := ja h 60 7) (r := ja h 60 8) (v := v.toInt) (t := (a.toInt + n) % (ja h 60 7 * ja h 60 8)) hm4 hr24 (by omega)
    have bn := jsr_bd (m := ja h 60 7) (r := ja h 60 8) (v := v.toInt) (y := ja h 60 7 * ja h 60 8) (a := a.toInt) hm4 hr24 (by omega) n
    have nx : jsr (ja h 60 7) (ja h 60 8) v.toInt (ja h 60 7 * ja h 60 8) a.toInt (n + 1) = jsr (ja h 60 7) (ja h 60 8) v.toInt (ja h 60 7 * ja h 60 8) a.toInt n + jst (ja h 60 7) (ja h 60 8) ((a.toInt + n) % (ja h 60 7 * ja h 60 8)) v.toInt := rfl
    have sm : ∀ z : Int32, z.toInt = jst (ja h 60 7) (ja h 60 8) ((a.toInt + n) % (ja h 60 7 * ja h 60 8)) v.toInt → (H + z).toInt = jsr (ja h 60 7) (ja h 60 8) v.toInt (ja h 60 7 * ja h 60 8) a.toInt (n + 1) := by
      intro z hz
      rw [nm_add (by omega) (by omega), nx, eH, hz]
    refine jm_iload (x := H) rfl rfl (jM_at hl' 1 rfl) ?_
    refine jm_aload_n (x := P.1 + 60) rfl rfl (jM_at hl' 2 rfl) ?_
    refine jm_iload_n (x := a) rfl rfl (jM_at hl' 3 rfl) ?_
    refine jm_iload (x := K) rfl rfl (jM_at hl' 0 rfl) ?_
    refine az_X_step (pc' := 34) (ls' := ls) (st' := [.int (a + K), .ref (P.1 + 60), .int H]) (h' := h) rfl rfl rfl ?_
    refine jm_aload_n (x := P.1 + 60) rfl rfl (jM_at hl' 2 rfl) ?_
    refine jx_gf (i := 60) rfl rfl hH (by decide) (hH.2 60 _ rfl).1 rfl hY ?_
    refine jx_rem rfl rfl hY0 ?_
    refine jm_iload_n (x := v) rfl rfl (jM_at hl' 5 rfl) ?_
    refine az_X_call (m' := 287) (as := [.ref (P.1 + 60), .int ((a + K) - (a + K) / Y * Y), .int v]) (rest := [.int H]) rfl rfl rfl rfl rfl ?_ ?_
    · unfold si_call
      dsimp only
      rw [if_pos ⟨rfl, rfl⟩]
      show (match si_ix P h (P.1 + 60) with | some i => _ | none => none) = _
      rw [jix hH (by decide)]
      dsimp only
      rw [(hH.2 60 _ rfl).1]
      rfl
    refine (strk1_ok hH (a + K - (a + K) / Y * Y) v (by rw [es]; omega) hv).mono ?_
    rintro rv40 h40 ⟨q40, z40, rfl, ez40⟩
    subst h40
    show az_X P _ 291 43 ls [.int z40, .int H] _ _
    refine az_X_step (pc' := 44) (ls' := ls) (st' := [.int (H + z40)]) (h' := h) rfl rfl rfl ?_
    refine jm_iload_n (x := w) rfl rfl (jM_at hl' 4 rfl) ?_
    refine jx_ic (t := 76) rfl rfl rfl (fun hc45 => ?_) (fun hc45 => ?_)
    · have g45 := jc2_ge_t hc45
      refine jm_iload (x := K) rfl rfl (jM_at hl' 0 rfl) ?_
      refine jx_ret rfl rfl rfl ?_
      rw [sm z40 (by rw [ez40, es])] at g45
      exact ⟨rfl, K, rfl, n, eK, by omega, by omega⟩
    · have g45 := jc2_ge_f hc45
      rw [sm z40 (by rw [ez40, es])] at g45
      exact absurd hN2 (by omega)
  | succ k ih =>
    intro n H K ls hl' eK hn eH hlt
    have m1 := Int.emod_nonneg (a.toInt + n) (b := ja h 60 7 * ja h 60 8) (by omega)
    have m2 := Int.emod_lt_of_pos (a.toInt + n) (b := ja h 60 7 * ja h 60 8) (by omega)
    have es := step n K eK (by omega)
    have bj := jst_bd (m := ja h 60 7) (r := ja h 60 8) (v := v.toInt) (t := (a.toInt + n) % (ja h 60 7 * ja h 60 8)) hm4 hr24 (by omega)
    have bn := jsr_bd (m := ja h 60 7) (r := ja h 60 8) (v := v.toInt) (y := ja h 60 7 * ja h 60 8) (a := a.toInt) hm4 hr24 (by omega) n
    have nx : jsr (ja h 60 7) (ja h 60 8) v.toInt (ja h 60 7 * ja h 60 8) a.toInt (n + 1) = jsr (ja h 60 7) (ja h 60 8) v.toInt (ja h 60 7 * ja h 60 8) a.toInt n + jst (ja h 60 7) (ja h 60 8) ((a.toInt + n) % (ja h 60 7 * ja h 60 8)) v.toInt := rfl
    have sm : ∀ z : Int32, z.toInt = jst (ja h 60 7) (ja h 60 8) ((a.toInt + n) % (ja h 60 7 * ja h 60 8)) v.toInt → (H + z).toInt = jsr (ja h 60 7) (ja h 60 8) v.toInt (ja h 60 7 * ja h 60 8) a.toInt (n + 1) := by
      intro z hz
      rw [nm_add (by omega) (by omega), nx, eH, hz]
    have eK1 : (K + 1).toInt = (n + 1 : Nat) := by rw [nm_add (by omega) (by omega)]; omega
    refine jm_iload (x := H) rfl rfl (jM_at hl' 1 rfl) ?_
    refine jm_aload_n (x := P.1 + 60) rfl rfl (jM_at hl' 2 rfl) ?_
    refine jm_iload_n (x := a) rfl rfl (jM_at hl' 3 rfl) ?_
    refine jm_iload (x := K) rfl rfl (jM_at hl' 0 rfl) ?_
    refine az_X_step (pc' := 34) (ls' := ls) (st' := [.int (a + K), .ref (P.1 + 60), .int H]) (h' := h) rfl rfl rfl ?_
    refine jm_aload_n (x := P.1 + 60) rfl rfl (jM_at hl' 2 rfl) ?_
    refine jx_gf (i := 60) rfl rfl hH (by decide) (hH.2 60 _ rfl).1 rfl hY ?_
    refine jx_rem rfl rfl hY0 ?_
    refine jm_iload_n (x := v) rfl rfl (jM_at hl' 5 rfl) ?_
    refine az_X_call (m' := 287) (as := [.ref (P.1 + 60), .int ((a + K) - (a + K) / Y * Y), .int v]) (rest := [.int H]) rfl rfl rfl rfl rfl ?_ ?_
    · unfold si_call
      dsimp only
      rw [if_pos ⟨rfl, rfl⟩]
      show (match si_ix P h (P.1 + 60) with | some i => _ | none => none) = _
      rw [jix hH (by decide)]
      dsimp only
      rw [(hH.2 60 _ rfl).1]
      rfl
    refine (strk1_ok hH (a + K - (a + K) / Y * Y) v (by rw [es]; omega) hv).mono ?_
    rintro rv40 h40 ⟨q40, z40, rfl, ez40⟩
    subst h40
    show az_X P _ 291 43 ls [.int z40, .int H] _ _
    refine az_X_step (pc' := 44) (ls' := ls) (st' := [.int (H + z40)]) (h' := h) rfl rfl rfl ?_
    refine jm_iload_n (x := w) rfl rfl (jM_at hl' 4 rfl) ?_
    refine jx_ic (t := 76) rfl rfl rfl (fun hc45 => ?_) (fun hc45 => ?_)
    · have g45 := jc2_ge_t hc45
      refine jm_iload (x := K) rfl rfl (jM_at hl' 0 rfl) ?_
      refine jx_ret rfl rfl rfl ?_
      rw [sm z40 (by rw [ez40, es])] at g45
      exact ⟨rfl, K, rfl, n, eK, by omega, by omega⟩
    · have g45 := jc2_ge_f hc45
      refine jm_iload (x := H) rfl rfl (jM_at hl' 1 rfl) ?_
      refine jm_aload_n (x := P.1 + 60) rfl rfl (jM_at hl' 2 rfl) ?_
      refine jm_iload_n (x := a) rfl rfl (jM_at hl' 3 rfl) ?_
      refine jm_iload (x := K) rfl rfl (jM_at hl' 0 rfl) ?_
      refine az_X_step (pc' := 55) (ls' := ls) (st' := [.int (a + K), .ref (P.1 + 60), .int H]) (h' := h) rfl rfl rfl ?_
      refine jm_aload_n (x := P.1 + 60) rfl rfl (jM_at hl' 2 rfl) ?_
      refine jx_gf (i := 60) rfl rfl hH (by decide) (hH.2 60 _ rfl).1 rfl hY ?_
      refine jx_rem rfl rfl hY0 ?_
      refine jm_iload_n (x := v) rfl rfl (jM_at hl' 5 rfl) ?_
      refine az_X_call (m' := 287) (as := [.ref (P.1 + 60), .int ((a + K) - (a + K) / Y * Y), .int v]) (rest := [.int H]) rfl rfl rfl rfl rfl ?_ ?_
      · unfold si_call
        dsimp only
        rw [if_pos ⟨rfl, rfl⟩]
        show (match si_ix P h (P.1 + 60) with | some i => _ | none => none) = _
        rw [jix hH (by decide)]
        dsimp only
        rw [(hH.2 60 _ rfl).1]
        rfl
      refine (strk1_ok hH (a + K - (a + K) / Y * Y) v (by rw [es]; omega) hv).mono ?_
      rintro rv61 h61 ⟨q61, z61, rfl, ez61⟩
      subst h61
      show az_X P _ 291 64 ls [.int z61, .int H] _ _
      refine az_X_step (pc' := 65) (ls' := ls) (st' := [.int (H + z61)]) (h' := h) rfl rfl rfl ?_
      refine jm_istore (l' := [(4, .int (H + z61)), (5, .int K), (0, .ref (P.1 + 60)), (1, .int a), (2, .int w), (3, .int v)]) rfl rfl (by decide) hl' rfl rfl (fun ls65_1 hl65_1 => ?_)
      refine jm_iload (x := K) rfl rfl (jM_at hl65_1 1 rfl) ?_
      refine az_X_step (pc' := 70) (ls' := ls65_1) (st' := [.int 1, .int K]) (h' := h) rfl rfl rfl ?_
      refine az_X_step (pc' := 71) (ls' := ls65_1) (st' := [.int (K + 1)]) (h' := h) rfl rfl rfl ?_
      refine jm_istore (l' := [(5, .int (K + 1)), (4, .int (H + z61)), (0, .ref (P.1 + 60)), (1, .int a), (2, .int w), (3, .int v)]) rfl rfl (by decide) hl65_1 rfl rfl (fun ls71_2 hl71_2 => ?_)
      refine az_X_step (pc' := 27) (ls' := ls71_2) (st' := []) (h' := h) rfl rfl rfl ?_
      rw [sm z40 (by rw [ez40, es])] at g45
      have e9 := sm z61 (by rw [ez61, es])
      exact ih (n + 1) (H + z61) (K + 1) ls71_2 (jM_pick hl71_2 [0, 1, 2, 3, 4, 5] rfl) eK1 (by omega) e9 (by rw [e9]; omega)
theorem still1_ok {P : si_P} {d : Nat} {h : si_H} (hH : az_HI P az_tb h) (hJ : js_J h) (a w v : Int32) (hv : v = 0 ∨ v = 1) : az_X P (d + 2) 291 0 (lv_args 0 [.ref (P.1 + 60), .int a, .int w, .int v]) [] h (fun rv h' => h' = h ∧ ∃ z : Int32, rv = some (.int z) ∧ jtlS (ja h 60 7) (ja h 60 8) a.toInt w.toInt v.toInt z.toInt) := by
  have bm : 4 ≤ ja h 60 7 ∧ ja h 60 7 ≤ 60 := ja_bd hH (i := 60) (k := 7) rfl
  have br : 2 ≤ ja h 60 8 ∧ ja h 60 8 ≤ 24 := ja_bd hH (i := 60) (k := 8) rfl
  have bY : 8 ≤ ja h 60 9 ∧ ja h 60 9 ≤ 1440 := ja_bd hH (i := 60) (k := 9) rfl
  have hp : ja h 60 9 = ja h 60 7 * ja h 60 8 := hJ.1.1
  have z0 : (0 : Int32).toInt = 0 := by decide
  have z1 : (1 : Int32).toInt = 1 := by decide
  have z9 : (9999 : Int32).toInt = 9999 := by decide
  have hl' : jM [(0, .ref (P.1 + 60)), (1, .int a), (2, .int w), (3, .int v)] (lv_args 0 [.ref (P.1 + 60), .int a, .int w, .int v]) := jM_args [0, 1, 2, 3] rfl (by decide)
  generalize lv_args 0 [.ref (P.1 + 60), .int a, .int w, .int v] = ls at hl'
  refine jm_aload_n (x := P.1 + 60) rfl rfl (jM_at hl' 0 rfl) ?_
  refine jm_iload_n (x := a) rfl rfl (jM_at hl' 1 rfl) ?_
  refine az_X_call (m' := 211) (as := [.ref (P.1 + 60), .int a]) (rest := []) rfl rfl rfl rfl rfl ?_ ?_
  · unfold si_call
    dsimp only
    rw [if_pos ⟨rfl, rfl⟩]
    show (match si_ix P h (P.1 + 60) with | some i => _ | none => none) = _
    rw [jix hH (by decide)]
    dsimp only
    rw [(hH.2 60 _ rfl).1]
    rfl
  refine (ristime_ok hH a).mono ?_
  rintro rv2 h2 ⟨q2, z2, rfl, ez2⟩
  subst h2
  show az_X P _ 291 5 ls [.int z2] _ _
  refine jx_if (t := 19) rfl rfl rfl (fun hc5 => ?_) (fun hc5 => ?_)
  · have g5 := jc1_eq_t hc5
    refine az_X_step (pc' := 20) (ls' := ls) (st' := [.int (-1)]) (h' := h) rfl rfl rfl ?_
    refine jx_ret rfl rfl rfl ?_
    exact ⟨rfl, -1, rfl, Or.inr ⟨by omega, by decide⟩⟩
  · have g5 := jc1_eq_f hc5
    refine jm_iload_n (x := w) rfl rfl (jM_at hl' 2 rfl) ?_
    refine az_X_step (pc' := 10) (ls' := ls) (st' := [.int 1, .int w]) (h' := h) rfl rfl rfl ?_
    refine az_X_step (pc' := 13) (ls' := ls) (st' := [.int 9999, .int 1, .int w]) (h' := h) rfl rfl rfl ?_
    refine az_X_call (m' := 202) (as := [.int w, .int 1, .int 9999]) (rest := []) rfl rfl rfl rfl rfl rfl ?_
    refine (rin_ok w 1 9999).mono ?_
    rintro rv13 h13 ⟨q13, z13, rfl, ez13⟩
    subst h13
    show az_X P _ 291 16 ls [.int z13] _ _
    refine jx_if (t := 21) rfl rfl rfl (fun hc16 => ?_) (fun hc16 => ?_)
    · have g16 := jc1_ne_t hc16
      refine az_X_step (pc' := 22) (ls' := ls) (st' := [.int 0]) (h' := h) rfl rfl rfl ?_
      refine jm_istore (l' := [(4, .int 0), (0, .ref (P.1 + 60)), (1, .int a), (2, .int w), (3, .int v)]) rfl rfl (by decide) hl' rfl rfl (fun ls22_1 hl22_1 => ?_)
      refine az_X_step (pc' := 25) (ls' := ls22_1) (st' := [.int 0]) (h' := h) rfl rfl rfl ?_
      refine jm_istore (l' := [(5, .int 0), (4, .int 0), (0, .ref (P.1 + 60)), (1, .int a), (2, .int w), (3, .int v)]) rfl rfl (by decide) hl22_1 rfl rfl (fun ls25_2 hl25_2 => ?_)
      obtain ⟨z, ⟨N, rfl, n1, n2⟩, n3⟩ := jtl_ex (m := ja h 60 7) (r := ja h 60 8) (v := v.toInt) (y := ja h 60 7 * ja h 60 8) (a := a.toInt) (w := w.toInt) (Y := (ja h 60 7 * ja h 60 8).toNat) bm.1 (by omega) (by omega) br.1 (by omega) (by omega) (by omega)
      have mb := nm_mulnn (a := 1) (b := 9999) (c := 8) (d := 1440) (x := w.toInt) (y := ja h 60 7 * ja h 60 8) (by decide) (by decide) (by omega) (by omega) (by omega) (by omega)
      refine (rstill_l (d := d) hH hJ a w v hv (by omega) (by omega) (N := N) (by omega) n2 N 0 0 0 ls25_2 (jM_pick hl25_2 [0, 1, 2, 3, 4, 5] rfl) (by decide) (by omega) (by show (0 : Int32).toInt = 0; decide) (by rw [z0]; omega)).mono ?_
      rintro rv h1 ⟨q1, z, rfl, q⟩
      exact ⟨q1, z, rfl, Or.inl ⟨by omega, q⟩⟩
    · have g16 := jc1_ne_f hc16
      refine az_X_step (pc' := 20) (ls' := ls) (st' := [.int (-1)]) (h' := h) rfl rfl rfl ?_
      refine jx_ret rfl rfl rfl ?_
      exact ⟨rfl, -1, rfl, Or.inr ⟨by omega, by decide⟩⟩
