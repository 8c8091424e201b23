set_option maxRecDepth 100000
/-! THE LAW'S CASES: what a case does, control alone -/
theorem jix {P : si_P} {h : si_H} (hH : az_HI P az_tb h) {i : Nat} (hi : i < az_tb.length) : si_ix P h (P.1 + i) = some i := by
  unfold si_ix
  rw [hH.1, if_pos ⟨Nat.le_add_right _ _, by omega⟩, Nat.add_sub_cancel_left]
theorem jsh0 {P : si_P} {h : si_H} (hH : az_HI P az_tb h) : h.2.1 0 = .inl (10, 20) := (hH.2 0 _ rfl).1
theorem jsh60 {P : si_P} {h : si_H} (hH : az_HI P az_tb h) : h.2.1 60 = .inl (11, 66) := (hH.2 60 _ rfl).1
/-- a script's int, as it is read at a case -/
def jsv (P : si_P) (x : Int32) (j : Int32) : Int32 := P.2.2.2.1 (x + j).toNatClampNeg
def jsb (P : si_P) (x : Int32) (j : Int32) : Int32 := if jsv P x j = 0 then 0 else 1
theorem jsb_01 (P : si_P) (x j : Int32) : jsb P x j = 0 ∨ jsb P x j = 1 := by
  unfold jsb
  split
  · exact Or.inl rfl
  · exact Or.inr rfl
/-! single steps -/
theorem jx_gf {P : si_P} {d mi pc i k ci n idx q : Nat} {y : si_M} {ls : si_L} {st : List Value} {h : si_H} {Q : Option Value → si_H → Prop} {v : Value} (hy : si_m mi = some y) (he : si_fetch mi pc = some (.getfield idx, 3, ci, k, q)) (hH : az_HI P az_tb h) (hi : i < az_tb.length) (hs : h.2.1 i = .inl (ci, n)) (hn : ((si_cl[ci]?).map (fun q => q.2.2)).getD 0 = n) (hv : h.2.2 i k = v) (kk : az_X P d mi (pc + 3) ls (v :: st) h Q) : az_X P d mi pc ls (.ref (P.1 + i) :: st) h Q := by
  refine az_X_step (pc' := pc + 3) (ls' := ls) (st' := v :: st) (h' := h) hy he ?_ kk
  unfold si_step
  dsimp only
  rw [if_pos rfl]
  rw [jix hH hi]
  dsimp only
  rw [hs, hn, if_pos rfl, hv]
theorem jx_retz {P : si_P} {d mi pc : Nat} {y : si_M} {ls : si_L} {h : si_H} {Q : Option Value → si_H → Prop} {q : Nat × Nat × Nat} {a : Int32} (hy : si_m mi = some y) (he : si_fetch mi pc = some (.ireturn, 1, q)) (hr : y.2.2.2.2.1 = some .boolean) (hn : narrow .boolean (.int a) = .int a) (k : Q (some (.int a)) h) : az_X P d mi pc ls [.int a] h Q := by
  refine az_X_ret (rv := some (.int a)) hy he ?_ ?_ k
  · unfold si_step
    rfl
  · unfold si_ret
    dsimp only
    rw [hr]
    dsimp only
    rw [if_pos ⟨rfl, hn⟩]
theorem jbz {z : Int32} (h : z.toInt = 0 ∨ z.toInt = 1) : narrow .boolean (.int z) = .int z := by
  rcases h with h | h
  · have e : z = 0 := Int32.toInt_inj.mp (h.trans (by decide))
    subst e
    decide
  · have e : z = 1 := Int32.toInt_inj.mp (h.trans (by decide))
    subst e
    decide
theorem jx_rf {P : si_P} {h : si_H} (hH : az_HI P az_tb h) {i k c ci : Nat} {l : List az_Q} (he : az_tb[i]? = some (.inl (ci, l))) (hq : l[k]? = some (.inr [c])) : h.2.2 i k = .ref (P.1 + c) := by
  obtain ⟨-, h2⟩ := hH.2 i _ he
  obtain ⟨j, hj, hv⟩ := h2 k _ hq
  rcases List.mem_singleton.mp hj with rfl
  exact hv
theorem jc1_eq_t {a : Int32} (h : si_c1 .eq a = true) : a.toInt = 0 := by
  have z0 : (0 : Int32).toInt = 0 := by decide
  have h := of_decide_eq_true h
  simp only [nm_eqI, nm_ltI, nm_leI, z0, Decidable.not_not] at h
  omega
theorem jc2_eq_t {a b : Int32} (h : si_c2 .eq a b = true) : a.toInt = b.toInt := by
  have h := of_decide_eq_true h
  simp only [nm_eqI, nm_ltI, nm_leI, Decidable.not_not] at h
  omega
theorem jc1_eq_f {a : Int32} (h : si_c1 .eq a = false) : a.toInt ≠ 0 := by
  have z0 : (0 : Int32).toInt = 0 := by decide
  have h := of_decide_eq_false h
  simp only [nm_eqI, nm_ltI, nm_leI, z0, Decidable.not_not] at h
  omega
theorem jc2_eq_f {a b : Int32} (h : si_c2 .eq a b = false) : a.toInt ≠ b.toInt := by
  have h := of_decide_eq_false h
  simp only [nm_eqI, nm_ltI, nm_leI, Decidable.not_not] at h
  omega
theorem jc1_ne_t {a : Int32} (h : si_c1 .ne a = true) : a.toInt ≠ 0 := by
  have z0 : (0 : Int32).toInt = 0 := by decide
  have h := of_decide_eq_true h
  simp only [nm_eqI, nm_ltI, nm_leI, z0, Decidable.not_not] at h
  omega
theorem jc2_ne_t {a b : Int32} (h : si_c2 .ne a b = true) : a.toInt ≠ b.toInt := by
  have h := of_decide_eq_true h
  simp only [nm_eqI, nm_ltI, nm_leI, Decidable.not_not] at h
  omega
theorem jc1_ne_f {a : Int32} (h : si_c1 .ne a = false) : a.toInt = 0 := by
  have z0 : (0 : Int32).toInt = 0 := by decide
  have h := of_decide_eq_false h
  simp only [nm_eqI, nm_ltI, nm_leI, z0, Decidable.not_not] at h
  omega
theorem jc2_ne_f {a b : Int32} (h : si_c2 .ne a b = false) : a.toInt = b.toInt := by
  have h := of_decide_eq_false h
  simp only [nm_eqI, nm_ltI, nm_leI, Decidable.not_not] at h
  omega
theorem jc1_lt_t {a : Int32} (h : si_c1 .lt a = true) : a.toInt < 0 := by
  have z0 : (0 : Int32).toInt = 0 := by decide
  have h := of_decide_eq_true h
  simp only [nm_eqI, nm_ltI, nm_leI, z0, Decidable.not_not] at h
  omega
theorem jc2_lt_t {a b : Int32} (h : si_c2 .lt a b = true) : a.toInt < b.toInt := by
  have h := of_decide_eq_true h
  simp only [nm_eqI, nm_ltI, nm_leI, Decidable.not_not] at h
  omega
theorem jc1_lt_f {a : Int32} (h : si_c1 .lt a = false) : 0 ≤ a.toInt := by
  have z0 : (0 : Int32).toInt = 0 := by decide
  have h := of_decide_eq_false h
  simp only [nm_eqI, nm_ltI, nm_leI, z0, Decidable.not_not] at h
  omega
theorem jc2_lt_f {a b : Int32} (h : si_c2 .lt a b = false) : b.toInt ≤ a.toInt := by
  have h := of_decide_eq_false h
  simp only [nm_eqI, nm_ltI, nm_leI, Decidable.not_not] at h
  omega
theorem jc1_ge_t {a : Int32} (h : si_c1 .ge a = true) : 0 ≤ a.toInt := by
  have z0 : (0 : Int32).toInt = 0 := by decide
  have h := of_decide_eq_true h
  simp only [nm_eqI, nm_ltI, nm_leI, z0, Decidable.not_not] at h
  omega
theorem jc2_ge_t {a b : Int32} (h : si_c2 .ge a b = true) : b.toInt ≤ a.toInt := by
  have h := of_decide_eq_true h
  simp only [nm_eqI, nm_ltI, nm_leI, Decidable.not_not] at h
  omega
theorem jc1_ge_f {a : Int32} (h : si_c1 .ge a = false) : a.toInt < 0 := by
  have z0 : (0 : Int32).toInt = 0 := by decide
  have h := of_decide_eq_false h
  simp only [nm_eqI, nm_ltI, nm_leI, z0, Decidable.not_not] at h
  omega
theorem jc2_ge_f {a b : Int32} (h : si_c2 .ge a b = false) : a.toInt < b.toInt := by
  have h := of_decide_eq_false h
  simp only [nm_eqI, nm_ltI, nm_leI, Decidable.not_not] at h
  omega
theorem jc1_gt_t {a : Int32} (h : si_c1 .gt a = true) : 0 < a.toInt := by
  have z0 : (0 : Int32).toInt = 0 := by decide
  have h := of_decide_eq_true h
  simp only [nm_eqI, nm_ltI, nm_leI, z0, Decidable.not_not] at h
  omega
theorem jc2_gt_t {a b : Int32} (h : si_c2 .gt a b = true) : b.toInt < a.toInt := by
  have h := of_decide_eq_true h
  simp only [nm_eqI, nm_ltI, nm_leI, Decidable.not_not] at h
  omega
theorem jc1_gt_f {a : Int32} (h : si_c1 .gt a = false) : a.toInt ≤ 0 := by
  have z0 : (0 : Int32).toInt = 0 := by decide
  have h := of_decide_eq_false h
  simp only [nm_eqI, nm_ltI, nm_leI, z0, Decidable.not_not] at h
  omega
theorem jc2_gt_f {a b : Int32} (h : si_c2 .gt a b = false) : a.toInt ≤ b.toInt := by
  have h := of_decide_eq_false h
  simp only [nm_eqI, nm_ltI, nm_leI, Decidable.not_not] at h
  omega
theorem jc1_le_t {a : Int32} (h : si_c1 .le a = true) : a.toInt ≤ 0 := by
  have z0 : (0 : Int32).toInt = 0 := by decide
  have h := of_decide_eq_true h
  simp only [nm_eqI, nm_ltI, nm_leI, z0, Decidable.not_not] at h
  omega
theorem jc2_le_t {a b : Int32} (h : si_c2 .le a b = true) : a.toInt ≤ b.toInt := by
  have h := of_decide_eq_true h
  simp only [nm_eqI, nm_ltI, nm_leI, Decidable.not_not] at h
  omega
theorem jc1_le_f {a : Int32} (h : si_c1 .le a = false) : 0 < a.toInt := by
  have z0 : (0 : Int32).toInt = 0 := by decide
  have h := of_decide_eq_false h
  simp only [nm_eqI, nm_ltI, nm_leI, z0, Decidable.not_not] at h
  omega
theorem jc2_le_f {a b : Int32} (h : si_c2 .le a b = false) : b.toInt < a.toInt := by
  have h := of_decide_eq_false h
  simp only [nm_eqI, nm_ltI, nm_leI, Decidable.not_not] at h
  omega
