set_option maxRecDepth 100000
/-! single steps whose results are known by their integers, and steps that write -/
section Jn
variable {P : si_P} {d mi pc : Nat} {y : si_M} {ls : si_L} {st : List Value} {h : si_H} {Q : Option Value → si_H → Prop} {q : Nat × Nat × Nat}
theorem jn_add {a b : Int32} (hy : si_m mi = some y) (he : si_fetch mi pc = some (.iadd, 1, q)) (h1 : -2147483648 ≤ a.toInt + b.toInt) (h2 : a.toInt + b.toInt ≤ 2147483647) (kk : ∀ z : Int32, z.toInt = a.toInt + b.toInt → az_X P d mi (pc + 1) ls (.int z :: st) h Q) : az_X P d mi pc ls (.int b :: .int a :: st) h Q := az_X_step (pc' := pc + 1) (ls' := ls) (st' := .int (a + b) :: st) (h' := h) hy he rfl (kk _ (nm_add h1 h2))
theorem jn_sub {a b : Int32} (hy : si_m mi = some y) (he : si_fetch mi pc = some (.isub, 1, q)) (h1 : -2147483648 ≤ a.toInt - b.toInt) (h2 : a.toInt - b.toInt ≤ 2147483647) (kk : ∀ z : Int32, z.toInt = a.toInt - b.toInt → az_X P d mi (pc + 1) ls (.int z :: st) h Q) : az_X P d mi pc ls (.int b :: .int a :: st) h Q := az_X_step (pc' := pc + 1) (ls' := ls) (st' := .int (a - b) :: st) (h' := h) hy he rfl (kk _ (nm_sub h1 h2))
theorem jn_mul {a b : Int32} (hy : si_m mi = some y) (he : si_fetch mi pc = some (.imul, 1, q)) (h1 : -2147483648 ≤ a.toInt * b.toInt) (h2 : a.toInt * b.toInt ≤ 2147483647) (kk : ∀ z : Int32, z.toInt = a.toInt * b.toInt → az_X P d mi (pc + 1) ls (.int z :: st) h Q) : az_X P d mi pc ls (.int b :: .int a :: st) h Q := az_X_step (pc' := pc + 1) (ls' := ls) (st' := .int (a * b) :: st) (h' := h) hy he rfl (kk _ (nm_mul h1 h2))
theorem jn_neg {a : Int32} (hy : si_m mi = some y) (he : si_fetch mi pc = some (.ineg, 1, q)) (h1 : -2147483648 ≤ -a.toInt) (h2 : -a.toInt ≤ 2147483647) (kk : ∀ z : Int32, z.toInt = -a.toInt → az_X P d mi (pc + 1) ls (.int z :: st) h Q) : az_X P d mi pc ls (.int a :: st) h Q := az_X_step (pc' := pc + 1) (ls' := ls) (st' := .int (-a) :: st) (h' := h) hy he rfl (kk _ (nm_neg h1 h2))
theorem jn_nz {b : Int32} (hb : 1 ≤ b.toInt) : b ≠ 0 := fun e => by
  subst e
  have : (0 : Int32).toInt = 0 := by decide
  omega
theorem jn_div {a b : Int32} (hy : si_m mi = some y) (he : si_fetch mi pc = some (.idiv, 1, q)) (ha : 0 ≤ a.toInt) (hb : 1 ≤ b.toInt) (kk : ∀ z : Int32, z.toInt = a.toInt / b.toInt → az_X P d mi (pc + 1) ls (.int z :: st) h Q) : az_X P d mi pc ls (.int b :: .int a :: st) h Q := jx_div hy he (jn_nz hb) (kk _ (by rw [nm_div hb, nm_tdiv_nn ha]))
theorem jn_rem {a b : Int32} (hy : si_m mi = some y) (he : si_fetch mi pc = some (.irem, 1, q)) (ha : 0 ≤ a.toInt) (hb : 1 ≤ b.toInt) (kk : ∀ z : Int32, z.toInt = a.toInt % b.toInt → 0 ≤ z.toInt → z.toInt < b.toInt → az_X P d mi (pc + 1) ls (.int z :: st) h Q) : az_X P d mi pc ls (.int b :: .int a :: st) h Q := by
  have e : (a - a / b * b).toInt = a.toInt % b.toInt := by rw [nm_rem hb, Int.tmod_eq_emod_of_nonneg ha]
  have e1 := Int.emod_nonneg a.toInt (b := b.toInt) (by omega)
  have e2 := Int.emod_lt_of_pos a.toInt (b := b.toInt) (by omega)
  exact jx_rem hy he (jn_nz hb) (kk _ e (by omega) (by omega))
theorem jn_icd {k : ClassFile.Cond} {off : Int} {t : Nat} {a b : Int32} {c : Bool} (hy : si_m mi = some y) (he : si_fetch mi pc = some (.if_icmp k off, 3, q)) (ht : si_tgt pc off = some t) (hc : si_c2 k a b = c) (kk : az_X P d mi (if c = true then t else pc + 3) ls st h Q) : az_X P d mi pc ls (.int b :: .int a :: st) h Q := by
  refine jx_ic hy he ht (fun e => ?_) (fun e => ?_)
  · rw [hc] at e
    subst e
    exact kk
  · rw [hc] at e
    subst e
    exact kk
theorem jn_ifd {k : ClassFile.Cond} {off : Int} {t : Nat} {a : Int32} {c : Bool} (hy : si_m mi = some y) (he : si_fetch mi pc = some (.ifCond k off, 3, q)) (ht : si_tgt pc off = some t) (hc : si_c1 k a = c) (kk : az_X P d mi (if c = true then t else pc + 3) ls st h Q) : az_X P d mi pc ls (.int a :: st) h Q := by
  refine jx_if hy he ht (fun e => ?_) (fun e => ?_)
  · rw [hc] at e
    subst e
    exact kk
  · rw [hc] at e
    subst e
    exact kk
theorem jn_iinc {k : Nat} {n : Int} {x : Int32} {l : List (Nat × Value)} (hy : si_m mi = some y) (he : si_fetch mi pc = some (.iinc k n, 3, q)) (hk : k < y.2.2.2.1) (L : si_ld k ls = some (.int x)) (hl : jM l ls) (hc : l.all (fun q => q.2.category == 1) = true) (hn : -2147483648 ≤ n ∧ n ≤ 2147483647) (h1 : -2147483648 ≤ x.toInt + n) (h2 : x.toInt + n ≤ 2147483647) (kk : ∀ z : Int32, z.toInt = x.toInt + n → ∀ ls' : si_L, jM ((k, Value.int z) :: l.filter (fun q => !(q.1 == k))) ls' → az_X P d mi (pc + 3) ls' st h Q) : az_X P d mi pc ls st h Q := by
  have e : (Int32.ofInt n).toInt = n := nm_ofInt hn.1 hn.2
  exact jm_iinc hy he hk L rfl hl rfl hc (kk _ (by rw [nm_add (by omega) (by omega), e]))
theorem jm_aload {k : Nat} {x : Nat} (hy : si_m mi = some y) (he : si_fetch mi pc = some (.aload k, 2, q)) (L : si_ld k ls = some (.ref x)) (kk : az_X P d mi (pc + 2) ls (.ref x :: st) h Q) : az_X P d mi pc ls st h Q := by
  refine az_X_step (pc' := pc + 2) (ls' := ls) (st' := .ref x :: st) (h' := h) hy he ?_ kk
  unfold si_step
  dsimp only
  show (match si_ld (k : Nat) ls with | some v => if si_kd v 2 = true then some (pc + 2, ls, v :: st, h) else none | none => none) = _
  rw [L]
  all_goals rfl
theorem jn_gf {i k ci n idx q' : Nat} {b : Int × Int} (hy : si_m mi = some y) (he : si_fetch mi pc = some (.getfield idx, 3, ci, k, q')) (hH : az_HI P az_tb h) (hi : i < az_tb.length) (hs : h.2.1 i = .inl (ci, n)) (hn : ((si_cl[ci]?).map (fun q => q.2.2)).getD 0 = n) (ht : jt i k = some b) (kk : ∀ z : Int32, z.toInt = ja h i k → b.1 ≤ z.toInt ∧ z.toInt ≤ b.2 → az_X P d mi (pc + 3) ls (.int z :: st) h Q) : az_X P d mi pc ls (.ref (P.1 + i) :: st) h Q := by
  obtain ⟨⟨z, hz, ez⟩, b1, b2⟩ := jt_ok hH ht
  exact jx_gf hy he hH hi hs hn hz (kk z ez ⟨ez ▸ b1, ez ▸ b2⟩)
theorem jn_pf {i k ci n idx q' c : Nat} {l : List az_Q} {lo hi : Int} {x : Int32} (hy : si_m mi = some y) (he : si_fetch mi pc = some (.putfield idx, 3, ci, k, q')) (hH : az_HI P az_tb h) (hi' : i < az_tb.length) (hb : az_tb[i]? = some (.inl (ci, l))) (hs : h.2.1 i = .inl (ci, n)) (hn : ((si_cl[ci]?).map (fun q => q.2.2)).getD 0 = n) (hq : l[k]? = some (.inl (c, lo, hi))) (hty : si_fty ci k = .int) (hfin : si_fin ci k = false) (h1 : lo ≤ x.toInt) (h2 : x.toInt ≤ hi) (kk : ∀ h' : si_H, az_HI P az_tb h' → az_same_out [(i, k)] h h' → ja h' i k = x.toInt → az_X P d mi (pc + 3) ls st h' Q) : az_X P d mi pc ls (.int x :: .ref (P.1 + i) :: st) h Q := by
  refine az_X_step (pc' := pc + 3) (ls' := ls) (st' := st) (h' := (h.1, h.2.1, si_set h.2.2 i k (.int x))) hy he ?_ (kk _ (az_HI_set hH hb (fun q2 hq2 => ?_)) (az_out_set (by unfold az_in; rw [Bool.or_eq_true]; exact Or.inl (by simp))) ?_)
  · unfold si_step
    dsimp only
    rw [if_pos rfl, jix hH hi']
    dsimp only
    rw [if_pos ⟨by rw [hs, hn], by rw [hty]; exact vp_nar_int x, by rw [hty]; rfl, Or.inl hfin⟩]
  · cases hq.symm.trans hq2
    exact ⟨x, rfl, h1, h2⟩
  · show ji (h.1, h.2.1, si_set h.2.2 i k (.int x)) i k = x.toInt
    unfold ji si_set
    dsimp only
    rw [if_pos rfl, if_pos rfl]
theorem jn_in {x : Int32} {n : Nat} (h0 : 0 ≤ x.toInt) (h1 : x.toInt < n) : si_in x n = true := by
  have hc : x.toNatClampNeg = x.toInt.toNat := rfl
  unfold si_in
  rw [Bool.and_eq_true, decide_eq_true_eq, decide_eq_true_eq]
  exact ⟨(nm_leI 0 x).mpr (by have : (0 : Int32).toInt = 0 := by decide
                              omega), by omega⟩
theorem jn_set {i : Nat} {x : Int} {v : Int32} (h0 : 0 ≤ x) : ja (h.1, h.2.1, si_set h.2.2 i x.toNat (.int v)) i x = v.toInt ∧ ∀ j : Int, 0 ≤ j → j ≠ x → ja (h.1, h.2.1, si_set h.2.2 i x.toNat (.int v)) i j = ja h i j := by
  constructor
  · show ji (h.1, h.2.1, si_set h.2.2 i x.toNat (.int v)) i x.toNat = v.toInt
    unfold ji si_set
    dsimp only
    rw [if_pos rfl, if_pos rfl]
  · intro j hj hn
    show ji (h.1, h.2.1, si_set h.2.2 i x.toNat (.int v)) i j.toNat = ji h i j.toNat
    unfold ji si_set
    dsimp only
    rw [if_pos rfl, if_neg (by omega)]
theorem jn_ias {i n : Nat} {lo hi : Int} {x v : Int32} (hy : si_m mi = some y) (he : si_fetch mi pc = some (.iastore, 1, q)) (hH : az_HI P az_tb h) (hi' : i < az_tb.length) (ht : az_tb[i]? = some (.inr (.int, n, lo, hi))) (h0 : 0 ≤ x.toInt) (h1 : x.toInt < n) (v1 : lo ≤ v.toInt) (v2 : v.toInt ≤ hi) (kk : ∀ h' : si_H, az_HI P az_tb h' → az_same_out [(i, 1000000)] h h' → ja h' i x.toInt = v.toInt → (∀ j : Int, 0 ≤ j → j ≠ x.toInt → ja h' i j = ja h i j) → az_X P d mi (pc + 1) ls st h' Q) : az_X P d mi pc ls (.int v :: .int x :: .ref (P.1 + i) :: st) h Q := by
  have hc : x.toNatClampNeg = x.toInt.toNat := rfl
  refine az_X_step (pc' := pc + 1) (ls' := ls) (st' := st) (h' := (h.1, h.2.1, si_set h.2.2 i x.toInt.toNat (.int v))) hy he ?_ (kk _ (az_HI_set hH ht (fun _ => ?_)) (az_out_set (by unfold az_in; rw [Bool.or_eq_true]; exact Or.inr (by simp))) (jn_set h0).1 (jn_set h0).2)
  · unfold si_step
    dsimp only
    rw [if_pos rfl]
    unfold si_ast
    rw [jix hH hi']
    dsimp only
    rw [(hH.2 i _ ht).1]
    dsimp only
    rw [if_pos ⟨jn_in h0 h1, List.mem_singleton.mpr rfl⟩, hc]
    all_goals rfl
  · unfold az_aok
    rw [if_neg (fun e => by cases e)]
    exact ⟨v, rfl, v1, v2⟩
theorem jn_bas {i n : Nat} {lo hi : Int} {x v : Int32} (hy : si_m mi = some y) (he : si_fetch mi pc = some (.bastore, 1, q)) (hH : az_HI P az_tb h) (hi' : i < az_tb.length) (ht : az_tb[i]? = some (.inr (.byte, n, lo, hi))) (h0 : 0 ≤ x.toInt) (h1 : x.toInt < n) (v1 : lo ≤ -128) (v2 : 127 ≤ hi) (kk : ∀ h' : si_H, az_HI P az_tb h' → az_same_out [(i, 1000000)] h h' → ja h' i x.toInt = v.toInt8.toInt32.toInt → (∀ j : Int, 0 ≤ j → j ≠ x.toInt → ja h' i j = ja h i j) → az_X P d mi (pc + 1) ls st h' Q) : az_X P d mi pc ls (.int v :: .int x :: .ref (P.1 + i) :: st) h Q := by
  have hc : x.toNatClampNeg = x.toInt.toNat := rfl
  refine az_X_step (pc' := pc + 1) (ls' := ls) (st' := st) (h' := (h.1, h.2.1, si_set h.2.2 i x.toInt.toNat (.int v.toInt8.toInt32))) hy he ?_ (kk _ (az_HI_set hH ht (fun _ => ?_)) (az_out_set (by unfold az_in; rw [Bool.or_eq_true]; exact Or.inr (by simp))) (jn_set h0).1 (jn_set h0).2)
  · unfold si_step
    dsimp only
    rw [if_pos rfl]
    unfold si_ast
    rw [jix hH hi']
    dsimp only
    rw [(hH.2 i _ ht).1]
    dsimp only
    rw [if_pos ⟨jn_in h0 h1, by decide⟩, hc]
    all_goals rfl
  · unfold az_aok
    rw [if_neg (fun e => by cases e)]
    have := nm_i2b v
    exact ⟨v.toInt8.toInt32, rfl, by show lo ≤ _; omega, by show _ ≤ hi; omega⟩
theorem jn_bal {i n : Nat} {lo hi : Int} {x : Int32} (hy : si_m mi = some y) (he : si_fetch mi pc = some (.baload, 1, q)) (hH : az_HI P az_tb h) (hi' : i < az_tb.length) (ht : az_tb[i]? = some (.inr (.byte, n, lo, hi))) (h0 : 0 ≤ x.toInt) (h1 : x.toInt < n) (kk : ∀ z : Int32, z.toInt = ja h i x.toInt → lo ≤ z.toInt ∧ z.toInt ≤ hi → az_X P d mi (pc + 1) ls (.int z :: st) h Q) : az_X P d mi pc ls (.int x :: .ref (P.1 + i) :: st) h Q := by
  have hc : x.toNatClampNeg = x.toInt.toNat := rfl
  obtain ⟨hs, hr⟩ := hH.2 i _ ht
  have h3 := hr x.toInt.toNat (by show x.toInt.toNat < n; omega)
  unfold az_aok at h3
  rw [if_neg (fun e => by cases e)] at h3
  obtain ⟨z, hz, hz1, hz2⟩ := h3
  refine az_X_step (pc' := pc + 1) (ls' := ls) (st' := .int z :: st) (h' := h) hy he ?_ (kk z ?_ ⟨hz1, hz2⟩)
  · unfold si_step
    dsimp only
    rw [if_pos rfl]
    unfold si_ald
    rw [jix hH hi']
    dsimp only
    rw [hs]
    dsimp only
    rw [if_pos ⟨jn_in h0 h1, by decide⟩, hc, hz]
  · show z.toInt = ji h i x.toInt.toNat
    unfold ji
    rw [hz]
theorem jn_len {i n : Nat} {ty : FieldType} {lo hi : Int} {x : Int32} (hy : si_m mi = some y) (he : si_fetch mi pc = some (.arraylength, 1, q)) (hxa : P.2.1 < P.1) (hH : az_HI P az_tb h) (hi' : i < az_tb.length) (ht : az_tb[i]? = some (.inr (ty, n, lo, hi))) (hx : Int32.ofNat n = x) (kk : az_X P d mi (pc + 1) ls (.int x :: st) h Q) : az_X P d mi pc ls (.ref (P.1 + i) :: st) h Q := by
  subst hx
  refine az_X_step (pc' := pc + 1) (ls' := ls) (st' := .int (Int32.ofNat n) :: st) (h' := h) hy he ?_ kk
  unfold si_step
  dsimp only
  rw [if_pos rfl, if_neg (show ¬ (P.1 + i = P.2.1) by omega), jix hH hi']
  dsimp only
  rw [(hH.2 i _ ht).1]
theorem jn_retv (hy : si_m mi = some y) (he : si_fetch mi pc = some (.return_, 1, q)) (hr : y.2.2.2.2.1 = none) (k : Q none h) : az_X P d mi pc ls [] h Q := by
  refine az_X_ret (rv := none) hy he ?_ ?_ k
  · unfold si_step
    rfl
  · unfold si_ret
    dsimp only
    rw [if_pos ⟨rfl, hr⟩]
end Jn
theorem az_X.and {P : si_P} {d mi pc : Nat} {ls : si_L} {st : List Value} {h : si_H} {Q R : Option Value → si_H → Prop} (h1 : az_X P d mi pc ls st h Q) (h2 : az_X P d mi pc ls st h R) : az_X P d mi pc ls st h (fun rv h' => Q rv h' ∧ R rv h') := by
  obtain ⟨n, rv, h', e, q⟩ := h1
  obtain ⟨k, rv2, h2', e2, q2⟩ := h2
  have a1 := si_run_le (k := n + k) (by omega) e
  have a2 := si_run_le (k := n + k) (by omega) e2
  rw [a1] at a2
  cases a2
  exact ⟨n + k, rv, h', a1, q, q2⟩
/-! THE BYTES OF A TAPE -/
set_option maxRecDepth 100000
theorem jn_a255 (y : Int32) : (y &&& 255).toInt = y.toInt % 256 := by
  have h1 : (y &&& 255).toBitVec.toNat = y.toBitVec.toNat % 256 := by
    rw [show (y &&& 255).toBitVec = y.toBitVec &&& (255 : Int32).toBitVec from rfl, BitVec.toNat_and]
    exact Nat.and_two_pow_sub_one_eq_mod _ 8
  have h2 := nm_ofnat (x := y &&& 255) (by rw [h1]; omega)
  have hl := y.toBitVec.isLt
  rw [h2, h1]
  have e : y.toInt = y.toBitVec.toInt := rfl
  rw [e, BitVec.toInt_eq_toNat_cond]
  split <;> omega
theorem jn_b256 (y : Int32) : y.toInt8.toInt32.toInt % 256 = y.toInt % 256 := by
  rw [Int8.toInt_toInt32, Int32.toInt_toInt8]
  exact @Int.bmod_emod y.toInt 256
theorem jn_a255b (y : Int32) : 0 ≤ (y &&& 255).toInt ∧ (y &&& 255).toInt ≤ 255 := by
  rw [jn_a255]
  omega
def jby (x : Int32) : Nat → Int
  | 0 => (x >>> (24 &&& 31)).toInt % 256
  | 1 => (x >>> (16 &&& 31)).toInt % 256
  | 2 => (x >>> (8 &&& 31)).toInt % 256
  | _ => (x >>> (0 &&& 31)).toInt % 256
def jap (A : Nat → Int) (L : Int) (x : Int32) (i : Nat) : Int := if (i : Int) < L then A i else jby x ((i : Int) - L).toNat
theorem jap_0 {f A : Nat → Int} {L : Int} {x : Int32} (hA : ∀ i : Nat, (i : Int) < L → f i = A i) : ∀ i : Nat, (i : Int) < L + ((0 : Nat) : Int) → f i = jap A L x i := fun i hi => by
  unfold jap
  rw [if_pos (by omega)]
  exact hA i (by omega)
theorem jap_s {g : Int → Int} {c : Nat} {h h1 h2 : si_H} {md : List (Nat × Nat)} {A : Nat → Int} {L : Int} {x : Int32} {k : Nat} {z : Int} (hF : ∀ i : Nat, (i : Int) < L + (k : Int) → g (ja h c i) = jap A L x i) (hL : 0 ≤ L) (ez : z = L + k) (t : g (ja h1 c z) = jby x k) (u : ∀ j : Int, 0 ≤ j → j ≠ z → ja h1 c j = ja h c j) (hs : az_same_out md h1 h2) (hm : md.all (fun x => decide (x.1 ≠ c)) = true) : ∀ i : Nat, (i : Int) < L + ((k + 1 : Nat) : Int) → g (ja h2 c i) = jap A L x i := by
  intro i hi
  rw [jso_row hs hm]
  by_cases e : (i : Int) = z
  · rw [e, t]
    unfold jap
    rw [if_neg (by omega), show ((i : Int) - L).toNat = k by omega]
  · rw [u i (by omega) e]
    exact hF i (by omega)
theorem tadd_ok {P : si_P} {d : Nat} {h : si_H} (hH : az_HI P az_tb h) (x : Int32) {A : Nat → Int} (hl0 : ja h 12 1 ≤ 256) (hA : ∀ i : Nat, (i : Int) < ja h 12 1 → ja h 13 i = A i) : az_X P d 140 0 (lv_args 0 [.ref (P.1 + 12), .int x]) [] h (fun rv h' => rv = none ∧ az_HI P az_tb h' ∧ az_same_out [(12, 1), (13, 1000000)] h h' ∧ ja h' 12 1 = ja h 12 1 + 4 ∧ ∀ i : Nat, (i : Int) < ja h 12 1 + 4 → ja h' 13 i = jap A (ja h 12 1) x i) := by
  have b0 : 0 ≤ ja h 12 1 ∧ ja h 12 1 ≤ 260 := ja_bd hH (i := 12) (k := 1) rfl
  have F0 := jap_0 (f := fun i => ja h 13 i) (x := x) hA
  have hl : jM [(0, .ref (P.1 + 12)), (1, .int x)] (lv_args 0 [.ref (P.1 + 12), .int x]) := jM_args [0, 1] rfl (by decide)
  generalize lv_args 0 [.ref (P.1 + 12), .int x] = ls at hl
  have km8 : ((-8) : Int32).toInt = (-8) := by decide
  have k0 : (0 : Int32).toInt = 0 := by decide
  have k1 : (1 : Int32).toInt = 1 := by decide
  have k8 : (8 : Int32).toInt = 8 := by decide
  have k16 : (16 : Int32).toInt = 16 := by decide
  have k24 : (24 : Int32).toInt = 24 := by decide
  have k255 : (255 : Int32).toInt = 255 := by decide
  have k260 : (260 : Int32).toInt = 260 := by decide
  refine az_X_step (pc' := 2) (ls' := ls) (st' := [.int 24]) (h' := h) rfl rfl rfl ?_
  refine jm_istore_n (l' := [(2, .int 24), (0, .ref (P.1 + 12)), (1, .int x)]) rfl rfl (by decide) hl rfl rfl (fun ls2 hl2 => ?_)
  refine jm_iload_n (x := 24) rfl rfl (jM_at hl2 0 rfl) ?_
  refine jn_ifd (t := 49) (c := false) rfl rfl rfl (by decide) ?_
  show az_X P _ 140 7 ls2 [] _ _
  refine jm_aload_n (x := P.1 + 12) rfl rfl (jM_at hl2 1 rfl) ?_
  refine jn_gf (i := 12) (k := 1) rfl rfl hH (by decide) (hH.2 12 _ rfl).1 rfl rfl (fun z8 (ez8 : z8.toInt = ja h 12 1) (bz8 : 0 ≤ z8.toInt ∧ z8.toInt ≤ 260) => ?_)
  refine az_X_step (pc' := 14) (ls' := ls2) (st' := [.int 260, .int z8]) (h' := h) rfl rfl rfl ?_
  refine jx_ic (t := 49) rfl rfl rfl (fun hc14 => ?_) (fun hc14 => ?_)
  · have g14 := jc2_ge_t hc14
    refine jn_retv rfl rfl rfl ?_
    exfalso
    omega
  · have g14 := jc2_ge_f hc14
    refine jm_aload_n (x := P.1 + 12) rfl rfl (jM_at hl2 1 rfl) ?_
    refine jx_gf (i := 12) rfl rfl hH (by decide) (hH.2 12 _ rfl).1 rfl (jx_rf hH rfl rfl) ?_
    refine jm_aload_n (x := P.1 + 12) rfl rfl (jM_at hl2 1 rfl) ?_
    refine jn_gf (i := 12) (k := 1) rfl rfl hH (by decide) (hH.2 12 _ rfl).1 rfl rfl (fun z22 (ez22 : z22.toInt = ja h 12 1) (bz22 : 0 ≤ z22.toInt ∧ z22.toInt ≤ 260) => ?_)
    refine jm_iload_n (x := x) rfl rfl (jM_at hl2 2 rfl) ?_
    refine jm_iload_n (x := 24) rfl rfl (jM_at hl2 0 rfl) ?_
    refine az_X_step (pc' := 28) (ls' := ls2) (st' := [.int (x >>> (24 &&& 31)), .int z22, .ref (P.1 + 13)]) (h' := h) rfl rfl rfl ?_
    refine az_X_step (pc' := 31) (ls' := ls2) (st' := [.int 255, .int (x >>> (24 &&& 31)), .int z22, .ref (P.1 + 13)]) (h' := h) rfl rfl rfl ?_
    refine az_X_step (pc' := 32) (ls' := ls2) (st' := [.int ((x >>> (24 &&& 31)) &&& 255), .int z22, .ref (P.1 + 13)]) (h' := h) rfl rfl rfl ?_
    refine jn_ias (i := 13) (x := z22) (v := ((x >>> (24 &&& 31)) &&& 255)) rfl rfl hH (by decide) rfl (by omega) (by show _ < ((260 : Nat) : Int); omega) (jn_a255b _).1 (jn_a255b _).2 (fun h32 hH32 hs32 t32 u32 => ?_)
    refine jm_aload_n (x := P.1 + 12) rfl rfl (jM_at hl2 1 rfl) ?_
    refine az_X_step (pc' := 35) (ls' := ls2) (st' := [.ref (P.1 + 12), .ref (P.1 + 12)]) (h' := h32) rfl rfl rfl ?_
    refine jn_gf (i := 12) (k := 1) rfl rfl hH32 (by decide) (hH32.2 12 _ rfl).1 rfl rfl (fun z35 (ez35 : z35.toInt = ja h32 12 1) (bz35 : 0 ≤ z35.toInt ∧ z35.toInt ≤ 260) => ?_)
    replace ez35 : z35.toInt = ja h 12 1 := ez35.trans (jso hs32 (by decide))
    refine az_X_step (pc' := 39) (ls' := ls2) (st' := [.int 1, .int z35, .ref (P.1 + 12)]) (h' := h32) rfl rfl rfl ?_
    refine jn_add (a := z35) (b := 1) rfl rfl (by omega) (by omega) (fun z39 ez39 => ?_)
    rw [show (1 : Int32).toInt = 1 by decide] at ez39
    refine jn_pf (i := 12) (k := 1) (x := z39) rfl rfl hH32 (by decide) rfl (hH32.2 12 _ rfl).1 rfl rfl (by decide) (by decide) (by show 0 ≤ _; omega) (by show _ ≤ 260; omega) (fun h40 hH40 hs40 (t40 : ja h40 12 1 = z39.toInt) => ?_)
    have F1 := jap_s (g := fun x => x) (c := 13) (k := 0) F0 b0.1 (show z22.toInt = ja h 12 1 + ((0 : Nat) : Int) by omega) (t32.trans (jn_a255 _)) u32 hs40 (by decide)
    refine jm_iinc (x := 24) (x' := 16) (l' := [(2, .int 16), (0, .ref (P.1 + 12)), (1, .int x)]) rfl rfl (by decide) (jM_at hl2 0 rfl) (by decide) hl2 rfl rfl (fun ls43 hl43 => ?_)
    refine az_X_step (pc' := 3) (ls' := ls43) (st' := []) (h' := h40) rfl rfl rfl ?_
    refine jm_iload_n (x := 16) rfl rfl (jM_at hl43 0 rfl) ?_
    refine jn_ifd (t := 49) (c := false) rfl rfl rfl (by decide) ?_
    show az_X P _ 140 7 ls43 [] _ _
    refine jm_aload_n (x := P.1 + 12) rfl rfl (jM_at hl43 1 rfl) ?_
    refine jn_gf (i := 12) (k := 1) rfl rfl hH40 (by decide) (hH40.2 12 _ rfl).1 rfl rfl (fun z8_2 (ez8_2 : z8_2.toInt = ja h40 12 1) (bz8_2 : 0 ≤ z8_2.toInt ∧ z8_2.toInt ≤ 260) => ?_)
    replace ez8_2 : z8_2.toInt = z39.toInt := ez8_2.trans t40
    refine az_X_step (pc' := 14) (ls' := ls43) (st' := [.int 260, .int z8_2]) (h' := h40) rfl rfl rfl ?_
    refine jx_ic (t := 49) rfl rfl rfl (fun hc14_2 => ?_) (fun hc14_2 => ?_)
    · have g14_2 := jc2_ge_t hc14_2
      refine jn_retv rfl rfl rfl ?_
      exfalso
      omega
    · have g14_2 := jc2_ge_f hc14_2
      refine jm_aload_n (x := P.1 + 12) rfl rfl (jM_at hl43 1 rfl) ?_
      refine jx_gf (i := 12) rfl rfl hH40 (by decide) (hH40.2 12 _ rfl).1 rfl (jx_rf hH40 rfl rfl) ?_
      refine jm_aload_n (x := P.1 + 12) rfl rfl (jM_at hl43 1 rfl) ?_
      refine jn_gf (i := 12) (k := 1) rfl rfl hH40 (by decide) (hH40.2 12 _ rfl).1 rfl rfl (fun z22_2 (ez22_2 : z22_2.toInt = ja h40 12 1) (bz22_2 : 0 ≤ z22_2.toInt ∧ z22_2.toInt ≤ 260) => ?_)
      replace ez22_2 : z22_2.toInt = z39.toInt := ez22_2.trans t40
      refine jm_iload_n (x := x) rfl rfl (jM_at hl43 2 rfl) ?_
      refine jm_iload_n (x := 16) rfl rfl (jM_at hl43 0 rfl) ?_
      refine az_X_step (pc' := 28) (ls' := ls43) (st' := [.int (x >>> (16 &&& 31)), .int z22_2, .ref (P.1 + 13)]) (h' := h40) rfl rfl rfl ?_
      refine az_X_step (pc' := 31) (ls' := ls43) (st' := [.int 255, .int (x >>> (16 &&& 31)), .int z22_2, .ref (P.1 + 13)]) (h' := h40) rfl rfl rfl ?_
      refine az_X_step (pc' := 32) (ls' := ls43) (st' := [.int ((x >>> (16 &&& 31)) &&& 255), .int z22_2, .ref (P.1 + 13)]) (h' := h40) rfl rfl rfl ?_
      refine jn_ias (i := 13) (x := z22_2) (v := ((x >>> (16 &&& 31)) &&& 255)) rfl rfl hH40 (by decide) rfl (by omega) (by show _ < ((260 : Nat) : Int); omega) (jn_a255b _).1 (jn_a255b _).2 (fun h32_2 hH32_2 hs32_2 t32_2 u32_2 => ?_)
      refine jm_aload_n (x := P.1 + 12) rfl rfl (jM_at hl43 1 rfl) ?_
      refine az_X_step (pc' := 35) (ls' := ls43) (st' := [.ref (P.1 + 12), .ref (P.1 + 12)]) (h' := h32_2) rfl rfl rfl ?_
      refine jn_gf (i := 12) (k := 1) rfl rfl hH32_2 (by decide) (hH32_2.2 12 _ rfl).1 rfl rfl (fun z35_2 (ez35_2 : z35_2.toInt = ja h32_2 12 1) (bz35_2 : 0 ≤ z35_2.toInt ∧ z35_2.toInt ≤ 260) => ?_)
      replace ez35_2 : z35_2.toInt = z39.toInt := ez35_2.trans ((jso hs32_2 (by decide)).trans t40)
      refine az_X_step (pc' := 39) (ls' := ls43) (st' := [.int 1, .int z35_2, .ref (P.1 + 12)]) (h' := h32_2) rfl rfl rfl ?_
      refine jn_add (a := z35_2) (b := 1) rfl rfl (by omega) (by omega) (fun z39_2 ez39_2 => ?_)
      rw [show (1 : Int32).toInt = 1 by decide] at ez39_2
      refine jn_pf (i := 12) (k := 1) (x := z39_2) rfl rfl hH32_2 (by decide) rfl (hH32_2.2 12 _ rfl).1 rfl rfl (by decide) (by decide) (by show 0 ≤ _; omega) (by show _ ≤ 260; omega) (fun h40_2 hH40_2 hs40_2 (t40_2 : ja h40_2 12 1 = z39_2.toInt) => ?_)
      have F2 := jap_s (g := fun x => x) (c := 13) (k := 1) F1 b0.1 (show z22_2.toInt = ja h 12 1 + ((1 : Nat) : Int) by omega) (t32_2.trans (jn_a255 _)) u32_2 hs40_2 (by decide)
      refine jm_iinc (x := 16) (x' := 8) (l' := [(2, .int 8), (0, .ref (P.1 + 12)), (1, .int x)]) rfl rfl (by decide) (jM_at hl43 0 rfl) (by decide) hl43 rfl rfl (fun ls43_2 hl43_2 => ?_)
      refine az_X_step (pc' := 3) (ls' := ls43_2) (st' := []) (h' := h40_2) rfl rfl rfl ?_
      refine jm_iload_n (x := 8) rfl rfl (jM_at hl43_2 0 rfl) ?_
      refine jn_ifd (t := 49) (c := false) rfl rfl rfl (by decide) ?_
      show az_X P _ 140 7 ls43_2 [] _ _
      refine jm_aload_n (x := P.1 + 12) rfl rfl (jM_at hl43_2 1 rfl) ?_
      refine jn_gf (i := 12) (k := 1) rfl rfl hH40_2 (by decide) (hH40_2.2 12 _ rfl).1 rfl rfl (fun z8_3 (ez8_3 : z8_3.toInt = ja h40_2 12 1) (bz8_3 : 0 ≤ z8_3.toInt ∧ z8_3.toInt ≤ 260) => ?_)
      replace ez8_3 : z8_3.toInt = z39_2.toInt := ez8_3.trans t40_2
      refine az_X_step (pc' := 14) (ls' := ls43_2) (st' := [.int 260, .int z8_3]) (h' := h40_2) rfl rfl rfl ?_
      refine jx_ic (t := 49) rfl rfl rfl (fun hc14_3 => ?_) (fun hc14_3 => ?_)
      · have g14_3 := jc2_ge_t hc14_3
        refine jn_retv rfl rfl rfl ?_
        exfalso
        omega
      · have g14_3 := jc2_ge_f hc14_3
        refine jm_aload_n (x := P.1 + 12) rfl rfl (jM_at hl43_2 1 rfl) ?_
        refine jx_gf (i := 12) rfl rfl hH40_2 (by decide) (hH40_2.2 12 _ rfl).1 rfl (jx_rf hH40_2 rfl rfl) ?_
        refine jm_aload_n (x := P.1 + 12) rfl rfl (jM_at hl43_2 1 rfl) ?_
        refine jn_gf (i := 12) (k := 1) rfl rfl hH40_2 (by decide) (hH40_2.2 12 _ rfl).1 rfl rfl (fun z22_3 (ez22_3 : z22_3.toInt = ja h40_2 12 1) (bz22_3 : 0 ≤ z22_3.toInt ∧ z22_3.toInt ≤ 260) => ?_)
        replace ez22_3 : z22_3.toInt = z39_2.toInt := ez22_3.trans t40_2
        refine jm_iload_n (x := x) rfl rfl (jM_at hl43_2 2 rfl) ?_
        refine jm_iload_n (x := 8) rfl rfl (jM_at hl43_2 0 rfl) ?_
        refine az_X_step (pc' := 28) (ls' := ls43_2) (st' := [.int (x >>> (8 &&& 31)), .int z22_3, .ref (P.1 + 13)]) (h' := h40_2) rfl rfl rfl ?_
        refine az_X_step (pc' := 31) (ls' := ls43_2) (st' := [.int 255, .int (x >>> (8 &&& 31)), .int z22_3, .ref (P.1 + 13)]) (h' := h40_2) rfl rfl rfl ?_
        refine az_X_step (pc' := 32) (ls' := ls43_2) (st' := [.int ((x >>> (8 &&& 31)) &&& 255), .int z22_3, .ref (P.1 + 13)]) (h' := h40_2) rfl rfl rfl ?_
        refine jn_ias (i := 13) (x := z22_3) (v := ((x >>> (8 &&& 31)) &&& 255)) rfl rfl hH40_2 (by decide) rfl (by omega) (by show _ < ((260 : Nat) : Int); omega) (jn_a255b _).1 (jn_a255b _).2 (fun h32_3 hH32_3 hs32_3 t32_3 u32_3 => ?_)
        refine jm_aload_n (x := P.1 + 12) rfl rfl (jM_at hl43_2 1 rfl) ?_
        refine az_X_step (pc' := 35) (ls' := ls43_2) (st' := [.ref (P.1 + 12), .ref (P.1 + 12)]) (h' := h32_3) rfl rfl rfl ?_
        refine jn_gf (i := 12) (k := 1) rfl rfl hH32_3 (by decide) (hH32_3.2 12 _ rfl).1 rfl rfl (fun z35_3 (ez35_3 : z35_3.toInt = ja h32_3 12 1) (bz35_3 : 0 ≤ z35_3.toInt ∧ z35_3.toInt ≤ 260) => ?_)
        replace ez35_3 : z35_3.toInt = z39_2.toInt := ez35_3.trans ((jso hs32_3 (by decide)).trans t40_2)
        refine az_X_step (pc' := 39) (ls' := ls43_2) (st' := [.int 1, .int z35_3, .ref (P.1 + 12)]) (h' := h32_3) rfl rfl rfl ?_
        refine jn_add (a := z35_3) (b := 1) rfl rfl (by omega) (by omega) (fun z39_3 ez39_3 => ?_)
        rw [show (1 : Int32).toInt = 1 by decide] at ez39_3
        refine jn_pf (i := 12) (k := 1) (x := z39_3) rfl rfl hH32_3 (by decide) rfl (hH32_3.2 12 _ rfl).1 rfl rfl (by decide) (by decide) (by show 0 ≤ _; omega) (by show _ ≤ 260; omega) (fun h40_3 hH40_3 hs40_3 (t40_3 : ja h40_3 12 1 = z39_3.toInt) => ?_)
        have F3 := jap_s (g := fun x => x) (c := 13) (k := 2) F2 b0.1 (show z22_3.toInt = ja h 12 1 + ((2 : Nat) : Int) by omega) (t32_3.trans (jn_a255 _)) u32_3 hs40_3 (by decide)
        refine jm_iinc (x := 8) (x' := 0) (l' := [(2, .int 0), (0, .ref (P.1 + 12)), (1, .int x)]) rfl rfl (by decide) (jM_at hl43_2 0 rfl) (by decide) hl43_2 rfl rfl (fun ls43_3 hl43_3 => ?_)
        refine az_X_step (pc' := 3) (ls' := ls43_3) (st' := []) (h' := h40_3) rfl rfl rfl ?_
        refine jm_iload_n (x := 0) rfl rfl (jM_at hl43_3 0 rfl) ?_
        refine jn_ifd (t := 49) (c := false) rfl rfl rfl (by decide) ?_
        show az_X P _ 140 7 ls43_3 [] _ _
        refine jm_aload_n (x := P.1 + 12) rfl rfl (jM_at hl43_3 1 rfl) ?_
        refine jn_gf (i := 12) (k := 1) rfl rfl hH40_3 (by decide) (hH40_3.2 12 _ rfl).1 rfl rfl (fun z8_4 (ez8_4 : z8_4.toInt = ja h40_3 12 1) (bz8_4 : 0 ≤ z8_4.toInt ∧ z8_4.toInt ≤ 260) => ?_)
        replace ez8_4 : z8_4.toInt = z39_3.toInt := ez8_4.trans t40_3
        refine az_X_step (pc' := 14) (ls' := ls43_3) (st' := [.int 260, .int z8_4]) (h' := h40_3) rfl rfl rfl ?_
        refine jx_ic (t := 49) rfl rfl rfl (fun hc14_4 => ?_) (fun hc14_4 => ?_)
        · have g14_4 := jc2_ge_t hc14_4
          refine jn_retv rfl rfl rfl ?_
          exfalso
          omega
        · have g14_4 := jc2_ge_f hc14_4
          refine jm_aload_n (x := P.1 + 12) rfl rfl (jM_at hl43_3 1 rfl) ?_
          refine jx_gf (i := 12) rfl rfl hH40_3 (by decide) (hH40_3.2 12 _ rfl).1 rfl (jx_rf hH40_3 rfl rfl) ?_
          refine jm_aload_n (x := P.1 + 12) rfl rfl (jM_at hl43_3 1 rfl) ?_
          refine jn_gf (i := 12) (k := 1) rfl rfl hH40_3 (by decide) (hH40_3.2 12 _ rfl).1 rfl rfl (fun z22_4 (ez22_4 : z22_4.toInt = ja h40_3 12 1) (bz22_4 : 0 ≤ z22_4.toInt ∧ z22_4.toInt ≤ 260) => ?_)
          replace ez22_4 : z22_4.toInt = z39_3.toInt := ez22_4.trans t40_3
          refine jm_iload_n (x := x) rfl rfl (jM_at hl43_3 2 rfl) ?_
          refine jm_iload_n (x := 0) rfl rfl (jM_at hl43_3 0 rfl) ?_
          refine az_X_step (pc' := 28) (ls' := ls43_3) (st' := [.int (x >>> (0 &&& 31)), .int z22_4, .ref (P.1 + 13)]) (h' := h40_3) rfl rfl rfl ?_
          refine az_X_step (pc' := 31) (ls' := ls43_3) (st' := [.int 255, .int (x >>> (0 &&& 31)), .int z22_4, .ref (P.1 + 13)]) (h' := h40_3) rfl rfl rfl ?_
          refine az_X_step (pc' := 32) (ls' := ls43_3) (st' := [.int ((x >>> (0 &&& 31)) &&& 255), .int z22_4, .ref (P.1 + 13)]) (h' := h40_3) rfl rfl rfl ?_
          refine jn_ias (i := 13) (x := z22_4) (v := ((x >>> (0 &&& 31)) &&& 255)) rfl rfl hH40_3 (by decide) rfl (by omega) (by show _ < ((260 : Nat) : Int); omega) (jn_a255b _).1 (jn_a255b _).2 (fun h32_4 hH32_4 hs32_4 t32_4 u32_4 => ?_)
          refine jm_aload_n (x := P.1 + 12) rfl rfl (jM_at hl43_3 1 rfl) ?_
          refine az_X_step (pc' := 35) (ls' := ls43_3) (st' := [.ref (P.1 + 12), .ref (P.1 + 12)]) (h' := h32_4) rfl rfl rfl ?_
          refine jn_gf (i := 12) (k := 1) rfl rfl hH32_4 (by decide) (hH32_4.2 12 _ rfl).1 rfl rfl (fun z35_4 (ez35_4 : z35_4.toInt = ja h32_4 12 1) (bz35_4 : 0 ≤ z35_4.toInt ∧ z35_4.toInt ≤ 260) => ?_)
          replace ez35_4 : z35_4.toInt = z39_3.toInt := ez35_4.trans ((jso hs32_4 (by decide)).trans t40_3)
          refine az_X_step (pc' := 39) (ls' := ls43_3) (st' := [.int 1, .int z35_4, .ref (P.1 + 12)]) (h' := h32_4) rfl rfl rfl ?_
          refine jn_add (a := z35_4) (b := 1) rfl rfl (by omega) (by omega) (fun z39_4 ez39_4 => ?_)
          rw [show (1 : Int32).toInt = 1 by decide] at ez39_4
          refine jn_pf (i := 12) (k := 1) (x := z39_4) rfl rfl hH32_4 (by decide) rfl (hH32_4.2 12 _ rfl).1 rfl rfl (by decide) (by decide) (by show 0 ≤ _; omega) (by show _ ≤ 260; omega) (fun h40_4 hH40_4 hs40_4 (t40_4 : ja h40_4 12 1 = z39_4.toInt) => ?_)
          have F4 := jap_s (g := fun x => x) (c := 13) (k := 3) F3 b0.1 (show z22_4.toInt = ja h 12 1 + ((3 : Nat) : Int) by omega) (t32_4.trans (jn_a255 _)) u32_4 hs40_4 (by decide)
          refine jm_iinc (x := 0) (x' := (-8)) (l' := [(2, .int (-8)), (0, .ref (P.1 + 12)), (1, .int x)]) rfl rfl (by decide) (jM_at hl43_3 0 rfl) (by decide) hl43_3 rfl rfl (fun ls43_4 hl43_4 => ?_)
          refine az_X_step (pc' := 3) (ls' := ls43_4) (st' := []) (h' := h40_4) rfl rfl rfl ?_
          refine jm_iload_n (x := (-8)) rfl rfl (jM_at hl43_4 0 rfl) ?_
          refine jn_ifd (t := 49) (c := true) rfl rfl rfl (by decide) ?_
          show az_X P _ 140 49 ls43_4 [] _ _
          refine jn_retv rfl rfl rfl ?_
          exact ⟨rfl, hH40_4, ((hs32.sub (by decide)).tr ((hs40.sub (by decide)).tr ((hs32_2.sub (by decide)).tr ((hs40_2.sub (by decide)).tr ((hs32_3.sub (by decide)).tr ((hs40_3.sub (by decide)).tr ((hs32_4.sub (by decide)).tr (hs40_4.sub (by decide))))))))), t40_4.trans (by omega), fun i hi => F4 i (by omega)⟩
theorem rtypes_ok {P : si_P} {d : Nat} {h : si_H} (hH : az_HI P az_tb h) (x : Int32) {A : Nat → Int} (hl0 : ja h 60 16 ≤ 256) (hA : ∀ i : Nat, (i : Int) < ja h 60 16 → ja h 71 i % 256 = A i) : az_X P d 237 0 (lv_args 0 [.ref (P.1 + 60), .int x]) [] h (fun rv h' => rv = none ∧ az_HI P az_tb h' ∧ az_same_out [(60, 16), (71, 1000000)] h h' ∧ ja h' 60 16 = ja h 60 16 + 4 ∧ ∀ i : Nat, (i : Int) < ja h 60 16 + 4 → ja h' 71 i % 256 = jap A (ja h 60 16) x i) := by
  have b0 : 0 ≤ ja h 60 16 ∧ ja h 60 16 ≤ 260 := ja_bd hH (i := 60) (k := 16) rfl
  have F0 := jap_0 (f := fun i => ja h 71 i % 256) (x := x) hA
  have hl : jM [(0, .ref (P.1 + 60)), (1, .int x)] (lv_args 0 [.ref (P.1 + 60), .int x]) := jM_args [0, 1] rfl (by decide)
  generalize lv_args 0 [.ref (P.1 + 60), .int x] = ls at hl
  have km1 : ((-1) : Int32).toInt = (-1) := by decide
  have k0 : (0 : Int32).toInt = 0 := by decide
  have k1 : (1 : Int32).toInt = 1 := by decide
  have k2 : (2 : Int32).toInt = 2 := by decide
  have k3 : (3 : Int32).toInt = 3 := by decide
  have k8 : (8 : Int32).toInt = 8 := by decide
  have k16 : (16 : Int32).toInt = 16 := by decide
  have k24 : (24 : Int32).toInt = 24 := by decide
  refine az_X_step (pc' := 1) (ls' := ls) (st' := [.int 3]) (h' := h) rfl rfl rfl ?_
  refine jm_istore_n (l' := [(2, .int 3), (0, .ref (P.1 + 60)), (1, .int x)]) rfl rfl (by decide) hl rfl rfl (fun ls1 hl1 => ?_)
  refine jm_iload_n (x := 3) rfl rfl (jM_at hl1 0 rfl) ?_
  refine jn_ifd (t := 38) (c := false) rfl rfl rfl (by decide) ?_
  show az_X P _ 237 6 ls1 [] _ _
  refine jm_aload_n (x := P.1 + 60) rfl rfl (jM_at hl1 1 rfl) ?_
  refine jx_gf (i := 60) rfl rfl hH (by decide) (hH.2 60 _ rfl).1 rfl (jx_rf hH rfl rfl) ?_
  refine jm_aload_n (x := P.1 + 60) rfl rfl (jM_at hl1 1 rfl) ?_
  refine jn_gf (i := 60) (k := 16) rfl rfl hH (by decide) (hH.2 60 _ rfl).1 rfl rfl (fun z11 (ez11 : z11.toInt = ja h 60 16) (bz11 : 0 ≤ z11.toInt ∧ z11.toInt ≤ 260) => ?_)
  refine jm_iload_n (x := x) rfl rfl (jM_at hl1 2 rfl) ?_
  refine az_X_step (pc' := 17) (ls' := ls1) (st' := [.int 8, .int x, .int z11, .ref (P.1 + 71)]) (h' := h) rfl rfl rfl ?_
  refine jm_iload_n (x := 3) rfl rfl (jM_at hl1 0 rfl) ?_
  refine az_X_step (pc' := 19) (ls' := ls1) (st' := [.int 24, .int x, .int z11, .ref (P.1 + 71)]) (h' := h) rfl rfl (show some (_, _, Value.int (8 * 3) :: _, _) = _ by rw [show (8 * 3 : Int32) = 24 by decide]) ?_
  refine az_X_step (pc' := 20) (ls' := ls1) (st' := [.int (x >>> (24 &&& 31)), .int z11, .ref (P.1 + 71)]) (h' := h) rfl rfl rfl ?_
  refine az_X_step (pc' := 21) (ls' := ls1) (st' := [.int ((x >>> (24 &&& 31)).toInt8.toInt32), .int z11, .ref (P.1 + 71)]) (h' := h) rfl rfl rfl ?_
  refine jn_bas (i := 71) (x := z11) (v := ((x >>> (24 &&& 31)).toInt8.toInt32)) rfl rfl hH (by decide) rfl (by omega) (by show _ < ((260 : Nat) : Int); omega) (by decide) (by decide) (fun h21 hH21 hs21 t21 u21 => ?_)
  refine jm_aload_n (x := P.1 + 60) rfl rfl (jM_at hl1 1 rfl) ?_
  refine jm_aload_n (x := P.1 + 60) rfl rfl (jM_at hl1 1 rfl) ?_
  refine jn_gf (i := 60) (k := 16) rfl rfl hH21 (by decide) (hH21.2 60 _ rfl).1 rfl rfl (fun z24 (ez24 : z24.toInt = ja h21 60 16) (bz24 : 0 ≤ z24.toInt ∧ z24.toInt ≤ 260) => ?_)
  replace ez24 : z24.toInt = ja h 60 16 := ez24.trans (jso hs21 (by decide))
  refine az_X_step (pc' := 28) (ls' := ls1) (st' := [.int 1, .int z24, .ref (P.1 + 60)]) (h' := h21) rfl rfl rfl ?_
  refine jn_add (a := z24) (b := 1) rfl rfl (by omega) (by omega) (fun z28 ez28 => ?_)
  rw [show (1 : Int32).toInt = 1 by decide] at ez28
  refine jn_pf (i := 60) (k := 16) (x := z28) rfl rfl hH21 (by decide) rfl (hH21.2 60 _ rfl).1 rfl rfl (by decide) (by decide) (by show 0 ≤ _; omega) (by show _ ≤ 260; omega) (fun h29 hH29 hs29 (t29 : ja h29 60 16 = z28.toInt) => ?_)
  have F1 := jap_s (g := fun x => x % 256) (c := 71) (k := 0) F0 b0.1 (show z11.toInt = ja h 60 16 + ((0 : Nat) : Int) by omega) (by show ja _ _ _ % 256 = _; rw [t21, jn_b256, jn_b256]; rfl) u21 hs29 (by decide)
  refine jm_iinc (x := 3) (x' := 2) (l' := [(2, .int 2), (0, .ref (P.1 + 60)), (1, .int x)]) rfl rfl (by decide) (jM_at hl1 0 rfl) (by decide) hl1 rfl rfl (fun ls32 hl32 => ?_)
  refine az_X_step (pc' := 2) (ls' := ls32) (st' := []) (h' := h29) rfl rfl rfl ?_
  refine jm_iload_n (x := 2) rfl rfl (jM_at hl32 0 rfl) ?_
  refine jn_ifd (t := 38) (c := false) rfl rfl rfl (by decide) ?_
  show az_X P _ 237 6 ls32 [] _ _
  refine jm_aload_n (x := P.1 + 60) rfl rfl (jM_at hl32 1 rfl) ?_
  refine jx_gf (i := 60) rfl rfl hH29 (by decide) (hH29.2 60 _ rfl).1 rfl (jx_rf hH29 rfl rfl) ?_
  refine jm_aload_n (x := P.1 + 60) rfl rfl (jM_at hl32 1 rfl) ?_
  refine jn_gf (i := 60) (k := 16) rfl rfl hH29 (by decide) (hH29.2 60 _ rfl).1 rfl rfl (fun z11_2 (ez11_2 : z11_2.toInt = ja h29 60 16) (bz11_2 : 0 ≤ z11_2.toInt ∧ z11_2.toInt ≤ 260) => ?_)
  replace ez11_2 : z11_2.toInt = z28.toInt := ez11_2.trans t29
  refine jm_iload_n (x := x) rfl rfl (jM_at hl32 2 rfl) ?_
  refine az_X_step (pc' := 17) (ls' := ls32) (st' := [.int 8, .int x, .int z11_2, .ref (P.1 + 71)]) (h' := h29) rfl rfl rfl ?_
  refine jm_iload_n (x := 2) rfl rfl (jM_at hl32 0 rfl) ?_
  refine az_X_step (pc' := 19) (ls' := ls32) (st' := [.int 16, .int x, .int z11_2, .ref (P.1 + 71)]) (h' := h29) rfl rfl (show some (_, _, Value.int (8 * 2) :: _, _) = _ by rw [show (8 * 2 : Int32) = 16 by decide]) ?_
  refine az_X_step (pc' := 20) (ls' := ls32) (st' := [.int (x >>> (16 &&& 31)), .int z11_2, .ref (P.1 + 71)]) (h' := h29) rfl rfl rfl ?_
  refine az_X_step (pc' := 21) (ls' := ls32) (st' := [.int ((x >>> (16 &&& 31)).toInt8.toInt32), .int z11_2, .ref (P.1 + 71)]) (h' := h29) rfl rfl rfl ?_
  refine jn_bas (i := 71) (x := z11_2) (v := ((x >>> (16 &&& 31)).toInt8.toInt32)) rfl rfl hH29 (by decide) rfl (by omega) (by show _ < ((260 : Nat) : Int); omega) (by decide) (by decide) (fun h21_2 hH21_2 hs21_2 t21_2 u21_2 => ?_)
  refine jm_aload_n (x := P.1 + 60) rfl rfl (jM_at hl32 1 rfl) ?_
  refine jm_aload_n (x := P.1 + 60) rfl rfl (jM_at hl32 1 rfl) ?_
  refine jn_gf (i := 60) (k := 16) rfl rfl hH21_2 (by decide) (hH21_2.2 60 _ rfl).1 rfl rfl (fun z24_2 (ez24_2 : z24_2.toInt = ja h21_2 60 16) (bz24_2 : 0 ≤ z24_2.toInt ∧ z24_2.toInt ≤ 260) => ?_)
  replace ez24_2 : z24_2.toInt = z28.toInt := ez24_2.trans ((jso hs21_2 (by decide)).trans t29)
  refine az_X_step (pc' := 28) (ls' := ls32) (st' := [.int 1, .int z24_2, .ref (P.1 + 60)]) (h' := h21_2) rfl rfl rfl ?_
  refine jn_add (a := z24_2) (b := 1) rfl rfl (by omega) (by omega) (fun z28_2 ez28_2 => ?_)
  rw [show (1 : Int32).toInt = 1 by decide] at ez28_2
  refine jn_pf (i := 60) (k := 16) (x := z28_2) rfl rfl hH21_2 (by decide) rfl (hH21_2.2 60 _ rfl).1 rfl rfl (by decide) (by decide) (by show 0 ≤ _; omega) (by show _ ≤ 260; omega) (fun h29_2 hH29_2 hs29_2 (t29_2 : ja h29_2 60 16 = z28_2.toInt) => ?_)
  have F2 := jap_s (g := fun x => x % 256) (c := 71) (k := 1) F1 b0.1 (show z11_2.toInt = ja h 60 16 + ((1 : Nat) : Int) by omega) (by show ja _ _ _ % 256 = _; rw [t21_2, jn_b256, jn_b256]; rfl) u21_2 hs29_2 (by decide)
  refine jm_iinc (x := 2) (x' := 1) (l' := [(2, .int 1), (0, .ref (P.1 + 60)), (1, .int x)]) rfl rfl (by decide) (jM_at hl32 0 rfl) (by decide) hl32 rfl rfl (fun ls32_2 hl32_2 => ?_)
  refine az_X_step (pc' := 2) (ls' := ls32_2) (st' := []) (h' := h29_2) rfl rfl rfl ?_
  refine jm_iload_n (x := 1) rfl rfl (jM_at hl32_2 0 rfl) ?_
  refine jn_ifd (t := 38) (c := false) rfl rfl rfl (by decide) ?_
  show az_X P _ 237 6 ls32_2 [] _ _
  refine jm_aload_n (x := P.1 + 60) rfl rfl (jM_at hl32_2 1 rfl) ?_
  refine jx_gf (i := 60) rfl rfl hH29_2 (by decide) (hH29_2.2 60 _ rfl).1 rfl (jx_rf hH29_2 rfl rfl) ?_
  refine jm_aload_n (x := P.1 + 60) rfl rfl (jM_at hl32_2 1 rfl) ?_
  refine jn_gf (i := 60) (k := 16) rfl rfl hH29_2 (by decide) (hH29_2.2 60 _ rfl).1 rfl rfl (fun z11_3 (ez11_3 : z11_3.toInt = ja h29_2 60 16) (bz11_3 : 0 ≤ z11_3.toInt ∧ z11_3.toInt ≤ 260) => ?_)
  replace ez11_3 : z11_3.toInt = z28_2.toInt := ez11_3.trans t29_2
  refine jm_iload_n (x := x) rfl rfl (jM_at hl32_2 2 rfl) ?_
  refine az_X_step (pc' := 17) (ls' := ls32_2) (st' := [.int 8, .int x, .int z11_3, .ref (P.1 + 71)]) (h' := h29_2) rfl rfl rfl ?_
  refine jm_iload_n (x := 1) rfl rfl (jM_at hl32_2 0 rfl) ?_
  refine az_X_step (pc' := 19) (ls' := ls32_2) (st' := [.int 8, .int x, .int z11_3, .ref (P.1 + 71)]) (h' := h29_2) rfl rfl (show some (_, _, Value.int (8 * 1) :: _, _) = _ by rw [show (8 * 1 : Int32) = 8 by decide]) ?_
  refine az_X_step (pc' := 20) (ls' := ls32_2) (st' := [.int (x >>> (8 &&& 31)), .int z11_3, .ref (P.1 + 71)]) (h' := h29_2) rfl rfl rfl ?_
  refine az_X_step (pc' := 21) (ls' := ls32_2) (st' := [.int ((x >>> (8 &&& 31)).toInt8.toInt32), .int z11_3, .ref (P.1 + 71)]) (h' := h29_2) rfl rfl rfl ?_
  refine jn_bas (i := 71) (x := z11_3) (v := ((x >>> (8 &&& 31)).toInt8.toInt32)) rfl rfl hH29_2 (by decide) rfl (by omega) (by show _ < ((260 : Nat) : Int); omega) (by decide) (by decide) (fun h21_3 hH21_3 hs21_3 t21_3 u21_3 => ?_)
  refine jm_aload_n (x := P.1 + 60) rfl rfl (jM_at hl32_2 1 rfl) ?_
  refine jm_aload_n (x := P.1 + 60) rfl rfl (jM_at hl32_2 1 rfl) ?_
  refine jn_gf (i := 60) (k := 16) rfl rfl hH21_3 (by decide) (hH21_3.2 60 _ rfl).1 rfl rfl (fun z24_3 (ez24_3 : z24_3.toInt = ja h21_3 60 16) (bz24_3 : 0 ≤ z24_3.toInt ∧ z24_3.toInt ≤ 260) => ?_)
  replace ez24_3 : z24_3.toInt = z28_2.toInt := ez24_3.trans ((jso hs21_3 (by decide)).trans t29_2)
  refine az_X_step (pc' := 28) (ls' := ls32_2) (st' := [.int 1, .int z24_3, .ref (P.1 + 60)]) (h' := h21_3) rfl rfl rfl ?_
  refine jn_add (a := z24_3) (b := 1) rfl rfl (by omega) (by omega) (fun z28_3 ez28_3 => ?_)
  rw [show (1 : Int32).toInt = 1 by decide] at ez28_3
  refine jn_pf (i := 60) (k := 16) (x := z28_3) rfl rfl hH21_3 (by decide) rfl (hH21_3.2 60 _ rfl).1 rfl rfl (by decide) (by decide) (by show 0 ≤ _; omega) (by show _ ≤ 260; omega) (fun h29_3 hH29_3 hs29_3 (t29_3 : ja h29_3 60 16 = z28_3.toInt) => ?_)
  have F3 := jap_s (g := fun x => x % 256) (c := 71) (k := 2) F2 b0.1 (show z11_3.toInt = ja h 60 16 + ((2 : Nat) : Int) by omega) (by show ja _ _ _ % 256 = _; rw [t21_3, jn_b256, jn_b256]; rfl) u21_3 hs29_3 (by decide)
  refine jm_iinc (x := 1) (x' := 0) (l' := [(2, .int 0), (0, .ref (P.1 + 60)), (1, .int x)]) rfl rfl (by decide) (jM_at hl32_2 0 rfl) (by decide) hl32_2 rfl rfl (fun ls32_3 hl32_3 => ?_)
  refine az_X_step (pc' := 2) (ls' := ls32_3) (st' := []) (h' := h29_3) rfl rfl rfl ?_
  refine jm_iload_n (x := 0) rfl rfl (jM_at hl32_3 0 rfl) ?_
  refine jn_ifd (t := 38) (c := false) rfl rfl rfl (by decide) ?_
  show az_X P _ 237 6 ls32_3 [] _ _
  refine jm_aload_n (x := P.1 + 60) rfl rfl (jM_at hl32_3 1 rfl) ?_
  refine jx_gf (i := 60) rfl rfl hH29_3 (by decide) (hH29_3.2 60 _ rfl).1 rfl (jx_rf hH29_3 rfl rfl) ?_
  refine jm_aload_n (x := P.1 + 60) rfl rfl (jM_at hl32_3 1 rfl) ?_
  refine jn_gf (i := 60) (k := 16) rfl rfl hH29_3 (by decide) (hH29_3.2 60 _ rfl).1 rfl rfl (fun z11_4 (ez11_4 : z11_4.toInt = ja h29_3 60 16) (bz11_4 : 0 ≤ z11_4.toInt ∧ z11_4.toInt ≤ 260) => ?_)
  replace ez11_4 : z11_4.toInt = z28_3.toInt := ez11_4.trans t29_3
  refine jm_iload_n (x := x) rfl rfl (jM_at hl32_3 2 rfl) ?_
  refine az_X_step (pc' := 17) (ls' := ls32_3) (st' := [.int 8, .int x, .int z11_4, .ref (P.1 + 71)]) (h' := h29_3) rfl rfl rfl ?_
  refine jm_iload_n (x := 0) rfl rfl (jM_at hl32_3 0 rfl) ?_
  refine az_X_step (pc' := 19) (ls' := ls32_3) (st' := [.int 0, .int x, .int z11_4, .ref (P.1 + 71)]) (h' := h29_3) rfl rfl (show some (_, _, Value.int (8 * 0) :: _, _) = _ by rw [show (8 * 0 : Int32) = 0 by decide]) ?_
  refine az_X_step (pc' := 20) (ls' := ls32_3) (st' := [.int (x >>> (0 &&& 31)), .int z11_4, .ref (P.1 + 71)]) (h' := h29_3) rfl rfl rfl ?_
  refine az_X_step (pc' := 21) (ls' := ls32_3) (st' := [.int ((x >>> (0 &&& 31)).toInt8.toInt32), .int z11_4, .ref (P.1 + 71)]) (h' := h29_3) rfl rfl rfl ?_
  refine jn_bas (i := 71) (x := z11_4) (v := ((x >>> (0 &&& 31)).toInt8.toInt32)) rfl rfl hH29_3 (by decide) rfl (by omega) (by show _ < ((260 : Nat) : Int); omega) (by decide) (by decide) (fun h21_4 hH21_4 hs21_4 t21_4 u21_4 => ?_)
  refine jm_aload_n (x := P.1 + 60) rfl rfl (jM_at hl32_3 1 rfl) ?_
  refine jm_aload_n (x := P.1 + 60) rfl rfl (jM_at hl32_3 1 rfl) ?_
  refine jn_gf (i := 60) (k := 16) rfl rfl hH21_4 (by decide) (hH21_4.2 60 _ rfl).1 rfl rfl (fun z24_4 (ez24_4 : z24_4.toInt = ja h21_4 60 16) (bz24_4 : 0 ≤ z24_4.toInt ∧ z24_4.toInt ≤ 260) => ?_)
  replace ez24_4 : z24_4.toInt = z28_3.toInt := ez24_4.trans ((jso hs21_4 (by decide)).trans t29_3)
  refine az_X_step (pc' := 28) (ls' := ls32_3) (st' := [.int 1, .int z24_4, .ref (P.1 + 60)]) (h' := h21_4) rfl rfl rfl ?_
  refine jn_add (a := z24_4) (b := 1) rfl rfl (by omega) (by omega) (fun z28_4 ez28_4 => ?_)
  rw [show (1 : Int32).toInt = 1 by decide] at ez28_4
  refine jn_pf (i := 60) (k := 16) (x := z28_4) rfl rfl hH21_4 (by decide) rfl (hH21_4.2 60 _ rfl).1 rfl rfl (by decide) (by decide) (by show 0 ≤ _; omega) (by show _ ≤ 260; omega) (fun h29_4 hH29_4 hs29_4 (t29_4 : ja h29_4 60 16 = z28_4.toInt) => ?_)
  have F4 := jap_s (g := fun x => x % 256) (c := 71) (k := 3) F3 b0.1 (show z11_4.toInt = ja h 60 16 + ((3 : Nat) : Int) by omega) (by show ja _ _ _ % 256 = _; rw [t21_4, jn_b256, jn_b256]; rfl) u21_4 hs29_4 (by decide)
  refine jm_iinc (x := 0) (x' := (-1)) (l' := [(2, .int (-1)), (0, .ref (P.1 + 60)), (1, .int x)]) rfl rfl (by decide) (jM_at hl32_3 0 rfl) (by decide) hl32_3 rfl rfl (fun ls32_4 hl32_4 => ?_)
  refine az_X_step (pc' := 2) (ls' := ls32_4) (st' := []) (h' := h29_4) rfl rfl rfl ?_
  refine jm_iload_n (x := (-1)) rfl rfl (jM_at hl32_4 0 rfl) ?_
  refine jn_ifd (t := 38) (c := true) rfl rfl rfl (by decide) ?_
  show az_X P _ 237 38 ls32_4 [] _ _
  refine jn_retv rfl rfl rfl ?_
  exact ⟨rfl, hH29_4, ((hs21.sub (by decide)).tr ((hs29.sub (by decide)).tr ((hs21_2.sub (by decide)).tr ((hs29_2.sub (by decide)).tr ((hs21_3.sub (by decide)).tr ((hs29_3.sub (by decide)).tr ((hs21_4.sub (by decide)).tr (hs29_4.sub (by decide))))))))), t29_4.trans (by omega), fun i hi => F4 i (by omega)⟩
theorem troom_ok {P : si_P} {d : Nat} {h : si_H} (hH : az_HI P az_tb h) (n : Int32) (hn : 0 ≤ n.toInt ∧ n.toInt ≤ 1000) : az_X P d 139 0 (lv_args 0 [.ref (P.1 + 12), .int n]) [] h (fun rv h' => h' = h ∧ ∃ z : Int32, rv = some (.int z) ∧ ((z.toInt = 1 ∧ ja h 12 1 + n.toInt ≤ 260) ∨ (z.toInt = 0 ∧ 260 < ja h 12 1 + n.toInt))) := by
  have hl : jM [(0, .ref (P.1 + 12)), (1, .int n)] (lv_args 0 [.ref (P.1 + 12), .int n]) := jM_args [0, 1] rfl (by decide)
  generalize lv_args 0 [.ref (P.1 + 12), .int n] = ls at hl
  have k0 : (0 : Int32).toInt = 0 := by decide
  have k1 : (1 : Int32).toInt = 1 := by decide
  have k260 : (260 : Int32).toInt = 260 := by decide
  refine jm_aload_n (x := P.1 + 12) rfl rfl (jM_at hl 0 rfl) ?_
  refine jn_gf (i := 12) (k := 1) rfl rfl hH (by decide) (hH.2 12 _ rfl).1 rfl rfl (fun z1 (ez1 : z1.toInt = ja h 12 1) (bz1 : 0 ≤ z1.toInt ∧ z1.toInt ≤ 260) => ?_)
  refine jm_iload_n (x := n) rfl rfl (jM_at hl 1 rfl) ?_
  refine jn_add (a := z1) (b := n) rfl rfl (by omega) (by omega) (fun z5 ez5 => ?_)
  refine az_X_step (pc' := 9) (ls' := ls) (st' := [.int 260, .int z5]) (h' := h) rfl rfl rfl ?_
  refine jx_ic (t := 16) rfl rfl rfl (fun hc9 => ?_) (fun hc9 => ?_)
  · have g9 := jc2_gt_t hc9
    refine az_X_step (pc' := 17) (ls' := ls) (st' := [.int 0]) (h' := h) rfl rfl rfl ?_
    refine jx_retz rfl rfl rfl (by decide) ?_
    exact ⟨rfl, 0, rfl, by omega⟩
  · have g9 := jc2_gt_f hc9
    refine az_X_step (pc' := 13) (ls' := ls) (st' := [.int 1]) (h' := h) rfl rfl rfl ?_
    refine az_X_step (pc' := 17) (ls' := ls) (st' := [.int 1]) (h' := h) rfl rfl rfl ?_
    refine jx_retz rfl rfl rfl (by decide) ?_
    exact ⟨rfl, 1, rfl, by omega⟩
theorem tsize_ok {P : si_P} {d : Nat} {h : si_H} (hH : az_HI P az_tb h) : az_X P d 137 0 (lv_args 0 [.ref (P.1 + 12)]) [] h (fun rv h' => h' = h ∧ jV rv (ja h 12 1)) := by
  have hl : jM [(0, .ref (P.1 + 12))] (lv_args 0 [.ref (P.1 + 12)]) := jM_args [0] rfl (by decide)
  generalize lv_args 0 [.ref (P.1 + 12)] = ls at hl
  refine jm_aload_n (x := P.1 + 12) rfl rfl (jM_at hl 0 rfl) ?_
  refine jn_gf (i := 12) (k := 1) rfl rfl hH (by decide) (hH.2 12 _ rfl).1 rfl rfl (fun z1 (ez1 : z1.toInt = ja h 12 1) (bz1 : 0 ≤ z1.toInt ∧ z1.toInt ≤ 260) => ?_)
  refine jx_ret rfl rfl rfl ?_
  exact ⟨rfl, z1, rfl, ez1⟩
theorem feed0b_ok {P : si_P} {d : Nat} {h : si_H} (hH : az_HI P az_tb h) (a b c v x : Int32) {A : Nat → Int} (hA : ∀ i : Nat, (i : Int) < ja h 12 1 → ja h 13 i = A i) : az_X P (d + 1) 145 0 (lv_args 0 [.ref (P.1 + 0), .int a, .int b, .int c, .int v, .int x]) [] h (fun rv h1 => ∃ w : Int32, rv = some (.int w) ∧ az_HI P az_tb h1 ∧ az_same_out [(12, 1), (13, 1000000)] h h1 ∧ ((ja h 12 1 ≤ 240 ∧ w.toInt = ja h 12 1 + 20 ∧ ja h1 12 1 = ja h 12 1 + 20 ∧ ∀ i : Nat, (i : Int) < ja h 12 1 + 20 → ja h1 13 i = jap (jap (jap (jap (jap A (ja h 12 1) a) ((ja h 12 1) + 4) b) ((ja h 12 1) + 8) c) ((ja h 12 1) + 12) v) ((ja h 12 1) + 16) x i) ∨ (240 < ja h 12 1 ∧ w.toInt = -1 ∧ h1 = h))) := by
  have b0 : 0 ≤ ja h 12 1 ∧ ja h 12 1 ≤ 260 := ja_bd hH (i := 12) (k := 1) rfl
  have hl : jM [(0, .ref (P.1 + 0)), (1, .int a), (2, .int b), (3, .int c), (4, .int v), (5, .int x)] (lv_args 0 [.ref (P.1 + 0), .int a, .int b, .int c, .int v, .int x]) := jM_args [0, 1, 2, 3, 4, 5] rfl (by decide)
  generalize lv_args 0 [.ref (P.1 + 0), .int a, .int b, .int c, .int v, .int x] = ls at hl
  have km1 : ((-1) : Int32).toInt = (-1) := by decide
  have k0 : (0 : Int32).toInt = 0 := by decide
  have k20 : (20 : Int32).toInt = 20 := by decide
  refine jm_aload_n (x := P.1 + 0) rfl rfl (jM_at hl 0 rfl) ?_
  refine jx_gf (i := 0) rfl rfl hH (by decide) (hH.2 0 _ rfl).1 rfl (jx_rf hH rfl rfl) ?_
  refine az_X_step (pc' := 6) (ls' := ls) (st' := [.int 20, .ref (P.1 + 12)]) (h' := h) rfl rfl rfl ?_
  refine az_X_call (m' := 139) (as := [.ref (P.1 + 12), .int 20]) (rest := []) rfl rfl rfl rfl rfl ?_ ?_
  · unfold si_call
    dsimp only
    rw [if_pos ⟨rfl, rfl⟩]
    show (match si_ix P h (P.1 + 12) with | some i => _ | none => none) = _
    rw [jix hH (by decide)]
    dsimp only
    rw [(hH.2 12 _ rfl).1]
    rfl
  refine (troom_ok hH 20 (by decide)).mono ?_
  rintro rv6 h6 ⟨q6, z6, rfl, ez6⟩
  subst h6
  show az_X P _ 145 9 ls [.int z6] _ _
  refine jx_if (t := 14) rfl rfl rfl (fun hc9 => ?_) (fun hc9 => ?_)
  · have g9 := jc1_ne_t hc9
    refine jm_aload_n (x := P.1 + 0) rfl rfl (jM_at hl 0 rfl) ?_
    refine jx_gf (i := 0) rfl rfl hH (by decide) (hH.2 0 _ rfl).1 rfl (jx_rf hH rfl rfl) ?_
    refine jm_iload_n (x := a) rfl rfl (jM_at hl 1 rfl) ?_
    refine az_X_call (m' := 140) (as := [.ref (P.1 + 12), .int a]) (rest := []) rfl rfl rfl rfl rfl ?_ ?_
    · unfold si_call
      dsimp only
      rw [if_pos ⟨rfl, rfl⟩]
      show (match si_ix P h (P.1 + 12) with | some i => _ | none => none) = _
      rw [jix hH (by decide)]
      dsimp only
      rw [(hH.2 12 _ rfl).1]
      rfl
    refine (tadd_ok hH a (by omega) hA).mono ?_
    rintro rv19 h19 ⟨rfl, hH19, hs19, f19⟩
    show az_X P _ 145 22 ls [] _ _
    refine jm_aload_n (x := P.1 + 0) rfl rfl (jM_at hl 0 rfl) ?_
    refine jx_gf (i := 0) rfl rfl hH19 (by decide) (hH19.2 0 _ rfl).1 rfl (jx_rf hH19 rfl rfl) ?_
    refine jm_iload_n (x := b) rfl rfl (jM_at hl 2 rfl) ?_
    refine az_X_call (m' := 140) (as := [.ref (P.1 + 12), .int b]) (rest := []) rfl rfl rfl rfl rfl ?_ ?_
    · unfold si_call
      dsimp only
      rw [if_pos ⟨rfl, rfl⟩]
      show (match si_ix P h19 (P.1 + 12) with | some i => _ | none => none) = _
      rw [jix hH19 (by decide)]
      dsimp only
      rw [(hH19.2 12 _ rfl).1]
      rfl
    refine (tadd_ok hH19 b (by omega) (fun i hi => f19.2 i (by omega))).mono ?_
    rintro rv27 h27 ⟨rfl, hH27, hs27, f27⟩
    show az_X P _ 145 30 ls [] _ _
    refine jm_aload_n (x := P.1 + 0) rfl rfl (jM_at hl 0 rfl) ?_
    refine jx_gf (i := 0) rfl rfl hH27 (by decide) (hH27.2 0 _ rfl).1 rfl (jx_rf hH27 rfl rfl) ?_
    refine jm_iload_n (x := c) rfl rfl (jM_at hl 3 rfl) ?_
    refine az_X_call (m' := 140) (as := [.ref (P.1 + 12), .int c]) (rest := []) rfl rfl rfl rfl rfl ?_ ?_
    · unfold si_call
      dsimp only
      rw [if_pos ⟨rfl, rfl⟩]
      show (match si_ix P h27 (P.1 + 12) with | some i => _ | none => none) = _
      rw [jix hH27 (by decide)]
      dsimp only
      rw [(hH27.2 12 _ rfl).1]
      rfl
    refine (tadd_ok hH27 c (by omega) (fun i hi => f27.2 i (by omega))).mono ?_
    rintro rv35 h35 ⟨rfl, hH35, hs35, f35⟩
    show az_X P _ 145 38 ls [] _ _
    refine jm_aload_n (x := P.1 + 0) rfl rfl (jM_at hl 0 rfl) ?_
    refine jx_gf (i := 0) rfl rfl hH35 (by decide) (hH35.2 0 _ rfl).1 rfl (jx_rf hH35 rfl rfl) ?_
    refine jm_iload (x := v) rfl rfl (jM_at hl 4 rfl) ?_
    refine az_X_call (m' := 140) (as := [.ref (P.1 + 12), .int v]) (rest := []) rfl rfl rfl rfl rfl ?_ ?_
    · unfold si_call
      dsimp only
      rw [if_pos ⟨rfl, rfl⟩]
      show (match si_ix P h35 (P.1 + 12) with | some i => _ | none => none) = _
      rw [jix hH35 (by decide)]
      dsimp only
      rw [(hH35.2 12 _ rfl).1]
      rfl
    refine (tadd_ok hH35 v (by omega) (fun i hi => f35.2 i (by omega))).mono ?_
    rintro rv44 h44 ⟨rfl, hH44, hs44, f44⟩
    show az_X P _ 145 47 ls [] _ _
    refine jm_aload_n (x := P.1 + 0) rfl rfl (jM_at hl 0 rfl) ?_
    refine jx_gf (i := 0) rfl rfl hH44 (by decide) (hH44.2 0 _ rfl).1 rfl (jx_rf hH44 rfl rfl) ?_
    refine jm_iload (x := x) rfl rfl (jM_at hl 5 rfl) ?_
    refine az_X_call (m' := 140) (as := [.ref (P.1 + 12), .int x]) (rest := []) rfl rfl rfl rfl rfl ?_ ?_
    · unfold si_call
      dsimp only
      rw [if_pos ⟨rfl, rfl⟩]
      show (match si_ix P h44 (P.1 + 12) with | some i => _ | none => none) = _
      rw [jix hH44 (by decide)]
      dsimp only
      rw [(hH44.2 12 _ rfl).1]
      rfl
    refine (tadd_ok hH44 x (by omega) (fun i hi => f44.2 i (by omega))).mono ?_
    rintro rv53 h53 ⟨rfl, hH53, hs53, f53⟩
    show az_X P _ 145 56 ls [] _ _
    refine jm_aload_n (x := P.1 + 0) rfl rfl (jM_at hl 0 rfl) ?_
    refine jx_gf (i := 0) rfl rfl hH53 (by decide) (hH53.2 0 _ rfl).1 rfl (jx_rf hH53 rfl rfl) ?_
    refine az_X_call (m' := 137) (as := [.ref (P.1 + 12)]) (rest := []) rfl rfl rfl rfl rfl ?_ ?_
    · unfold si_call
      dsimp only
      rw [if_pos ⟨rfl, rfl⟩]
      show (match si_ix P h53 (P.1 + 12) with | some i => _ | none => none) = _
      rw [jix hH53 (by decide)]
      dsimp only
      rw [(hH53.2 12 _ rfl).1]
      rfl
    refine (tsize_ok hH53).mono ?_
    rintro rv60 h60 ⟨q60, z60, rfl, ez60⟩
    subst h60
    show az_X P _ 145 63 ls [.int z60] _ _
    refine jx_ret rfl rfl rfl ?_
    have l1 : ja h19 12 1 = ja h 12 1 + 4 := by have := f19.1; omega
    have l2 : ja h27 12 1 = ja h 12 1 + 8 := by have := f27.1; omega
    have l3 : ja h35 12 1 = ja h 12 1 + 12 := by have := f35.1; omega
    have l4 : ja h44 12 1 = ja h 12 1 + 16 := by have := f44.1; omega
    have l5 : ja h53 12 1 = ja h 12 1 + 20 := by have := f53.1; omega
    refine ⟨z60, rfl, hH53, ((hs19.sub (by decide)).tr ((hs27.sub (by decide)).tr ((hs35.sub (by decide)).tr ((hs44.sub (by decide)).tr (hs53.sub (by decide)))))), Or.inl ⟨by omega, by omega, l5, fun i hi => ?_⟩⟩
    have q := f53.2 i (by omega)
    rw [l1, l2, l3, l4] at q
    exact q
  · have g9 := jc1_ne_f hc9
    refine az_X_step (pc' := 13) (ls' := ls) (st' := [.int (-1)]) (h' := h) rfl rfl rfl ?_
    refine jx_ret rfl rfl rfl ?_
    exact ⟨_, rfl, hH, az_same_out.rf, Or.inr ⟨by omega, by decide, rfl⟩⟩
theorem feed1b_ok {P : si_P} {d : Nat} {h : si_H} (hH : az_HI P az_tb h) (a b c v x : Int32) {A : Nat → Int} (hA : ∀ i : Nat, (i : Int) < ja h 60 16 → ja h 71 i % 256 = A i) : az_X P (d + 1) 238 0 (lv_args 0 [.ref (P.1 + 60), .int a, .int b, .int c, .int v, .int x]) [] h (fun rv h1 => ∃ w : Int32, rv = some (.int w) ∧ az_HI P az_tb h1 ∧ az_same_out [(60, 16), (71, 1000000)] h h1 ∧ ((ja h 60 16 ≤ 240 ∧ w.toInt = ja h 60 16 + 20 ∧ ja h1 60 16 = ja h 60 16 + 20 ∧ ∀ i : Nat, (i : Int) < ja h 60 16 + 20 → ja h1 71 i % 256 = jap (jap (jap (jap (jap A (ja h 60 16) a) ((ja h 60 16) + 4) b) ((ja h 60 16) + 8) c) ((ja h 60 16) + 12) v) ((ja h 60 16) + 16) x i) ∨ (240 < ja h 60 16 ∧ w.toInt = -1 ∧ h1 = h))) := by
  have b0 : 0 ≤ ja h 60 16 ∧ ja h 60 16 ≤ 260 := ja_bd hH (i := 60) (k := 16) rfl
  have hl : jM [(0, .ref (P.1 + 60)), (1, .int a), (2, .int b), (3, .int c), (4, .int v), (5, .int x)] (lv_args 0 [.ref (P.1 + 60), .int a, .int b, .int c, .int v, .int x]) := jM_args [0, 1, 2, 3, 4, 5] rfl (by decide)
  generalize lv_args 0 [.ref (P.1 + 60), .int a, .int b, .int c, .int v, .int x] = ls at hl
  have km1 : ((-1) : Int32).toInt = (-1) := by decide
  have k20 : (20 : Int32).toInt = 20 := by decide
  have k260 : (260 : Int32).toInt = 260 := by decide
  refine jm_aload_n (x := P.1 + 60) rfl rfl (jM_at hl 0 rfl) ?_
  refine jn_gf (i := 60) (k := 16) rfl rfl hH (by decide) (hH.2 60 _ rfl).1 rfl rfl (fun z1 (ez1 : z1.toInt = ja h 60 16) (bz1 : 0 ≤ z1.toInt ∧ z1.toInt ≤ 260) => ?_)
  refine az_X_step (pc' := 6) (ls' := ls) (st' := [.int 20, .int z1]) (h' := h) rfl rfl rfl ?_
  refine jn_add (a := z1) (b := 20) rfl rfl (by omega) (by omega) (fun z6 ez6 => ?_)
  rw [show (20 : Int32).toInt = 20 by decide] at ez6
  refine az_X_step (pc' := 10) (ls' := ls) (st' := [.int 260, .int z6]) (h' := h) rfl rfl rfl ?_
  refine jx_ic (t := 15) rfl rfl rfl (fun hc10 => ?_) (fun hc10 => ?_)
  · have g10 := jc2_le_t hc10
    refine jm_aload_n (x := P.1 + 60) rfl rfl (jM_at hl 0 rfl) ?_
    refine jm_iload_n (x := a) rfl rfl (jM_at hl 1 rfl) ?_
    refine az_X_call (m' := 237) (as := [.ref (P.1 + 60), .int a]) (rest := []) rfl rfl rfl rfl rfl ?_ ?_
    · unfold si_call
      dsimp only
      rw [if_pos ⟨rfl, rfl⟩]
      show (match si_ix P h (P.1 + 60) with | some i => _ | none => none) = _
      rw [jix hH (by decide)]
      dsimp only
      rw [(hH.2 60 _ rfl).1]
      rfl
    refine (rtypes_ok hH a (by omega) hA).mono ?_
    rintro rv17 h17 ⟨rfl, hH17, hs17, f17⟩
    show az_X P _ 238 20 ls [] _ _
    refine jm_aload_n (x := P.1 + 60) rfl rfl (jM_at hl 0 rfl) ?_
    refine jm_iload_n (x := b) rfl rfl (jM_at hl 2 rfl) ?_
    refine az_X_call (m' := 237) (as := [.ref (P.1 + 60), .int b]) (rest := []) rfl rfl rfl rfl rfl ?_ ?_
    · unfold si_call
      dsimp only
      rw [if_pos ⟨rfl, rfl⟩]
      show (match si_ix P h17 (P.1 + 60) with | some i => _ | none => none) = _
      rw [jix hH17 (by decide)]
      dsimp only
      rw [(hH17.2 60 _ rfl).1]
      rfl
    refine (rtypes_ok hH17 b (by omega) (fun i hi => f17.2 i (by omega))).mono ?_
    rintro rv22 h22 ⟨rfl, hH22, hs22, f22⟩
    show az_X P _ 238 25 ls [] _ _
    refine jm_aload_n (x := P.1 + 60) rfl rfl (jM_at hl 0 rfl) ?_
    refine jm_iload_n (x := c) rfl rfl (jM_at hl 3 rfl) ?_
    refine az_X_call (m' := 237) (as := [.ref (P.1 + 60), .int c]) (rest := []) rfl rfl rfl rfl rfl ?_ ?_
    · unfold si_call
      dsimp only
      rw [if_pos ⟨rfl, rfl⟩]
      show (match si_ix P h22 (P.1 + 60) with | some i => _ | none => none) = _
      rw [jix hH22 (by decide)]
      dsimp only
      rw [(hH22.2 60 _ rfl).1]
      rfl
    refine (rtypes_ok hH22 c (by omega) (fun i hi => f22.2 i (by omega))).mono ?_
    rintro rv27 h27 ⟨rfl, hH27, hs27, f27⟩
    show az_X P _ 238 30 ls [] _ _
    refine jm_aload_n (x := P.1 + 60) rfl rfl (jM_at hl 0 rfl) ?_
    refine jm_iload (x := v) rfl rfl (jM_at hl 4 rfl) ?_
    refine az_X_call (m' := 237) (as := [.ref (P.1 + 60), .int v]) (rest := []) rfl rfl rfl rfl rfl ?_ ?_
    · unfold si_call
      dsimp only
      rw [if_pos ⟨rfl, rfl⟩]
      show (match si_ix P h27 (P.1 + 60) with | some i => _ | none => none) = _
      rw [jix hH27 (by decide)]
      dsimp only
      rw [(hH27.2 60 _ rfl).1]
      rfl
    refine (rtypes_ok hH27 v (by omega) (fun i hi => f27.2 i (by omega))).mono ?_
    rintro rv33 h33 ⟨rfl, hH33, hs33, f33⟩
    show az_X P _ 238 36 ls [] _ _
    refine jm_aload_n (x := P.1 + 60) rfl rfl (jM_at hl 0 rfl) ?_
    refine jm_iload (x := x) rfl rfl (jM_at hl 5 rfl) ?_
    refine az_X_call (m' := 237) (as := [.ref (P.1 + 60), .int x]) (rest := []) rfl rfl rfl rfl rfl ?_ ?_
    · unfold si_call
      dsimp only
      rw [if_pos ⟨rfl, rfl⟩]
      show (match si_ix P h33 (P.1 + 60) with | some i => _ | none => none) = _
      rw [jix hH33 (by decide)]
      dsimp only
      rw [(hH33.2 60 _ rfl).1]
      rfl
    refine (rtypes_ok hH33 x (by omega) (fun i hi => f33.2 i (by omega))).mono ?_
    rintro rv39 h39 ⟨rfl, hH39, hs39, f39⟩
    show az_X P _ 238 42 ls [] _ _
    refine jm_aload_n (x := P.1 + 60) rfl rfl (jM_at hl 0 rfl) ?_
    refine jn_gf (i := 60) (k := 16) rfl rfl hH39 (by decide) (hH39.2 60 _ rfl).1 rfl rfl (fun z43 (ez43 : z43.toInt = ja h39 60 16) (bz43 : 0 ≤ z43.toInt ∧ z43.toInt ≤ 260) => ?_)
    replace ez43 : z43.toInt = ja h33 60 16 + 4 := ez43.trans f39.1
    refine jx_ret rfl rfl rfl ?_
    have l1 : ja h17 60 16 = ja h 60 16 + 4 := by have := f17.1; omega
    have l2 : ja h22 60 16 = ja h 60 16 + 8 := by have := f22.1; omega
    have l3 : ja h27 60 16 = ja h 60 16 + 12 := by have := f27.1; omega
    have l4 : ja h33 60 16 = ja h 60 16 + 16 := by have := f33.1; omega
    have l5 : ja h39 60 16 = ja h 60 16 + 20 := by have := f39.1; omega
    refine ⟨z43, rfl, hH39, ((hs17.sub (by decide)).tr ((hs22.sub (by decide)).tr ((hs27.sub (by decide)).tr ((hs33.sub (by decide)).tr (hs39.sub (by decide)))))), Or.inl ⟨by omega, by omega, l5, fun i hi => ?_⟩⟩
    have q := f39.2 i (by omega)
    rw [l1, l2, l3, l4] at q
    exact q
  · have g10 := jc2_le_f hc10
    refine az_X_step (pc' := 14) (ls' := ls) (st' := [.int (-1)]) (h' := h) rfl rfl rfl ?_
    refine jx_ret rfl rfl rfl ?_
    exact ⟨_, rfl, hH, az_same_out.rf, Or.inr ⟨by omega, by decide, rfl⟩⟩
/-! which strikes were heard -/
/-- which can be the first; how many, and the first of them -/
def jhp (A : Nat → Int) (F : Int → Int) (n k : Nat) : Bool := (List.range n).all (fun i => A i == F ((k : Int) + i))
theorem jhp_iff {A : Nat → Int} {F : Int → Int} {n k : Nat} : jhp A F n k = true ↔ ∀ i : Nat, i < n → A i = F ((k : Int) + i) := by
  unfold jhp
  rw [List.all_eq_true]
  constructor
  · intro h i hi
    have := h i (List.mem_range.mpr hi)
    simpa using this
  · intro h i hi
    have := h i (List.mem_range.mp hi)
    simpa using this
theorem jhp_cg {A B : Nat → Int} {F : Int → Int} {n : Nat} (h : ∀ i : Nat, i < n → A i = B i) : jhp A F n = jhp B F n := by
  funext k
  have e : jhp A F n k = true ↔ jhp B F n k = true := by
    rw [jhp_iff, jhp_iff]
    exact ⟨fun q i hi => (h i hi).symm.trans (q i hi), fun q i hi => (h i hi).trans (q i hi)⟩
  cases h1 : jhp A F n k <;> cases h2 : jhp B F n k
  · rfl
  · rw [h1, h2] at e; exact absurd (e.mpr rfl) (by decide)
  · rw [h1, h2] at e; exact absurd (e.mp rfl) (by decide)
  · rfl
def jhm (p : Nat → Bool) : Nat → Int × Int
  | 0 => (0, -2)
  | k + 1 => if p k = true then ((jhm p k).1 + 1, if (jhm p k).1 = 0 then (k : Int) else (jhm p k).2) else jhm p k
theorem jhm_bd (p : Nat → Bool) : ∀ k : Nat, 0 ≤ (jhm p k).1 ∧ (jhm p k).1 ≤ k ∧ -2 ≤ (jhm p k).2 ∧ (jhm p k).2 < k + 1 ∧ (0 < (jhm p k).1 → 0 ≤ (jhm p k).2 ∧ (jhm p k).2 < k)
  | 0 => by
    show 0 ≤ (0 : Int) ∧ (0 : Int) ≤ ((0 : Nat) : Int) ∧ -2 ≤ (-2 : Int) ∧ (-2 : Int) < ((0 : Nat) : Int) + 1 ∧ (0 < (0 : Int) → 0 ≤ (-2 : Int) ∧ (-2 : Int) < ((0 : Nat) : Int))
    omega
  | k + 1 => by
    have i := jhm_bd p k
    unfold jhm
    split
    · dsimp only
      split <;> omega
    · omega
theorem jhm_t {p : Nat → Bool} {k : Nat} (hp : p k = true) : jhm p (k + 1) = ((jhm p k).1 + 1, if (jhm p k).1 = 0 then (k : Int) else (jhm p k).2) := if_pos hp
theorem jhm_f {p : Nat → Bool} {k : Nat} (hp : ¬ p k = true) : jhm p (k + 1) = jhm p k := if_neg hp
theorem az_X.and4 {P : si_P} {d mi pc : Nat} {ls : si_L} {st : List Value} {h : si_H} {md : List (Nat × Nat)} {A B : si_H → Prop} (h1 : az_X P d mi pc ls st h (fun rv h' => rv = none ∧ az_HI P az_tb h' ∧ az_same_out md h h' ∧ A h')) (h2 : az_X P d mi pc ls st h (fun rv h' => rv = none ∧ az_HI P az_tb h' ∧ az_same_out md h h' ∧ B h')) : az_X P d mi pc ls st h (fun rv h' => rv = none ∧ az_HI P az_tb h' ∧ az_same_out md h h' ∧ A h' ∧ B h') := (h1.and h2).mono (fun _ _ q => ⟨q.1.1, q.1.2.1, q.1.2.2.1, q.1.2.2.2, q.2.2.2.2⟩)
def jhl (T : Int → Int) (n : Int) (x : Int × Int) : Int := if x.1 = 0 then -4 else if x.1 = 1 then T (x.2 + n - 1) else -2
theorem tat_ok {P : si_P} (hxa : P.2.1 < P.1) {d : Nat} {h : si_H} (hH : az_HI P az_tb h) (i : Int32) (hi : 0 ≤ i.toInt ∧ i.toInt < ja h 12 1) : az_X P d 141 0 (lv_args 0 [.ref (P.1 + 12), .int i]) [] h (fun rv h' => h' = h ∧ jV rv (ja h 13 i.toInt)) := by
  have hl : jM [(0, .ref (P.1 + 12)), (1, .int i)] (lv_args 0 [.ref (P.1 + 12), .int i]) := jM_args [0, 1] rfl (by decide)
  generalize lv_args 0 [.ref (P.1 + 12), .int i] = ls at hl
  have km1 : ((-1) : Int32).toInt = (-1) := by decide
  have k0 : (0 : Int32).toInt = 0 := by decide
  have b0 : 0 ≤ ja h 12 1 ∧ ja h 12 1 ≤ 260 := ja_bd hH (i := 12) (k := 1) rfl
  refine jm_iload_n (x := i) rfl rfl (jM_at hl 1 rfl) ?_
  refine jx_if (t := 21) rfl rfl rfl (fun hc1 => ?_) (fun hc1 => ?_)
  · have g1 := jc1_lt_t hc1
    refine az_X_step (pc' := 22) (ls' := ls) (st' := [.int (-1)]) (h' := h) rfl rfl rfl ?_
    refine jx_ret rfl rfl rfl ?_
    exfalso
    omega
  · have g1 := jc1_lt_f hc1
    refine jm_iload_n (x := i) rfl rfl (jM_at hl 1 rfl) ?_
    refine jm_aload_n (x := P.1 + 12) rfl rfl (jM_at hl 0 rfl) ?_
    refine jn_gf (i := 12) (k := 1) rfl rfl hH (by decide) (hH.2 12 _ rfl).1 rfl rfl (fun z6 (ez6 : z6.toInt = ja h 12 1) (bz6 : 0 ≤ z6.toInt ∧ z6.toInt ≤ 260) => ?_)
    refine jx_ic (t := 21) rfl rfl rfl (fun hc9 => ?_) (fun hc9 => ?_)
    · have g9 := jc2_ge_t hc9
      refine az_X_step (pc' := 22) (ls' := ls) (st' := [.int (-1)]) (h' := h) rfl rfl rfl ?_
      refine jx_ret rfl rfl rfl ?_
      exfalso
      omega
    · have g9 := jc2_ge_f hc9
      refine jm_aload_n (x := P.1 + 12) rfl rfl (jM_at hl 0 rfl) ?_
      refine jx_gf (i := 12) rfl rfl hH (by decide) (hH.2 12 _ rfl).1 rfl (jx_rf hH rfl rfl) ?_
      refine jm_iload_n (x := i) rfl rfl (jM_at hl 1 rfl) ?_
      refine jx_ial (i := 13) (x := i) rfl rfl hxa hH (by decide) rfl (by omega) (by show _ < ((260 : Nat) : Int); omega) (fun z17 ez17 bz17 => ?_)
      refine az_X_step (pc' := 22) (ls' := ls) (st' := [.int z17]) (h' := h) rfl rfl rfl ?_
      refine jx_ret rfl rfl rfl ?_
      exact ⟨rfl, z17, rfl, ez17⟩
theorem thas_ok {P : si_P} {d : Nat} {h : si_H} (hH : az_HI P az_tb h) (i : Int32) : az_X P d 138 0 (lv_args 0 [.ref (P.1 + 12), .int i]) [] h (fun rv h' => h' = h ∧ ∃ z : Int32, rv = some (.int z) ∧ ((z.toInt = 1 ∧ i.toInt ≤ ja h 12 1) ∨ (z.toInt = 0 ∧ ja h 12 1 < i.toInt))) := by
  have hl : jM [(0, .ref (P.1 + 12)), (1, .int i)] (lv_args 0 [.ref (P.1 + 12), .int i]) := jM_args [0, 1] rfl (by decide)
  generalize lv_args 0 [.ref (P.1 + 12), .int i] = ls at hl
  have k0 : (0 : Int32).toInt = 0 := by decide
  have k1 : (1 : Int32).toInt = 1 := by decide
  refine jm_iload_n (x := i) rfl rfl (jM_at hl 1 rfl) ?_
  refine jm_aload_n (x := P.1 + 12) rfl rfl (jM_at hl 0 rfl) ?_
  refine jn_gf (i := 12) (k := 1) rfl rfl hH (by decide) (hH.2 12 _ rfl).1 rfl rfl (fun z2 (ez2 : z2.toInt = ja h 12 1) (bz2 : 0 ≤ z2.toInt ∧ z2.toInt ≤ 260) => ?_)
  refine jx_ic (t := 12) rfl rfl rfl (fun hc5 => ?_) (fun hc5 => ?_)
  · have g5 := jc2_gt_t hc5
    refine az_X_step (pc' := 13) (ls' := ls) (st' := [.int 0]) (h' := h) rfl rfl rfl ?_
    refine jx_retz rfl rfl rfl (by decide) ?_
    exact ⟨rfl, 0, rfl, by omega⟩
  · have g5 := jc2_gt_f hc5
    refine az_X_step (pc' := 9) (ls' := ls) (st' := [.int 1]) (h' := h) rfl rfl rfl ?_
    refine az_X_step (pc' := 13) (ls' := ls) (st' := [.int 1]) (h' := h) rfl rfl rfl ?_
    refine jx_retz rfl rfl rfl (by decide) ?_
    exact ⟨rfl, 1, rfl, by omega⟩
theorem ctwo_ok {P : si_P} {d : Nat} {h : si_H} (i : Int32) : az_X P d 188 0 (lv_args 0 [.int i]) [] h (fun rv h' => h' = h ∧ ∃ z : Int32, rv = some (.int z) ∧ ((z.toInt = 1 ∧ 0 ≤ i.toInt ∧ i.toInt ≤ 1) ∨ (z.toInt = 0 ∧ ¬ (0 ≤ i.toInt ∧ i.toInt ≤ 1)))) := by
  have hl : jM [(0, .int i)] (lv_args 0 [.int i]) := jM_args [0] rfl (by decide)
  generalize lv_args 0 [.int i] = ls at hl
  have k0 : (0 : Int32).toInt = 0 := by decide
  have k1 : (1 : Int32).toInt = 1 := by decide
  refine jm_iload_n (x := i) rfl rfl (jM_at hl 0 rfl) ?_
  refine jx_if (t := 9) rfl rfl rfl (fun hc1 => ?_) (fun hc1 => ?_)
  · have g1 := jc1_eq_t hc1
    refine az_X_step (pc' := 10) (ls' := ls) (st' := [.int 1]) (h' := h) rfl rfl rfl ?_
    refine az_X_step (pc' := 14) (ls' := ls) (st' := [.int 1]) (h' := h) rfl rfl rfl ?_
    refine jx_retz rfl rfl rfl (by decide) ?_
    exact ⟨rfl, 1, rfl, by omega⟩
  · have g1 := jc1_eq_f hc1
    refine jm_iload_n (x := i) rfl rfl (jM_at hl 0 rfl) ?_
    refine az_X_step (pc' := 6) (ls' := ls) (st' := [.int 1, .int i]) (h' := h) rfl rfl rfl ?_
    refine jx_ic (t := 13) rfl rfl rfl (fun hc6 => ?_) (fun hc6 => ?_)
    · have g6 := jc2_ne_t hc6
      refine az_X_step (pc' := 14) (ls' := ls) (st' := [.int 0]) (h' := h) rfl rfl rfl ?_
      refine jx_retz rfl rfl rfl (by decide) ?_
      exact ⟨rfl, 0, rfl, by omega⟩
    · have g6 := jc2_ne_f hc6
      refine az_X_step (pc' := 10) (ls' := ls) (st' := [.int 1]) (h' := h) rfl rfl rfl ?_
      refine az_X_step (pc' := 14) (ls' := ls) (st' := [.int 1]) (h' := h) rfl rfl rfl ?_
      refine jx_retz rfl rfl rfl (by decide) ?_
      exact ⟨rfl, 1, rfl, by omega⟩
theorem tymany_ok {P : si_P} {d : Nat} {h : si_H} (hH : az_HI P az_tb h) : az_X P d 133 0 (lv_args 0 [.ref (P.1 + 15)]) [] h (fun rv h' => h' = h ∧ jV rv (ja h 15 0)) := by
  have hl : jM [(0, .ref (P.1 + 15))] (lv_args 0 [.ref (P.1 + 15)]) := jM_args [0] rfl (by decide)
  generalize lv_args 0 [.ref (P.1 + 15)] = ls at hl
  refine jm_aload_n (x := P.1 + 15) rfl rfl (jM_at hl 0 rfl) ?_
  refine jn_gf (i := 15) (k := 0) rfl rfl hH (by decide) (hH.2 15 _ rfl).1 rfl rfl (fun z1 (ez1 : z1.toInt = ja h 15 0) (bz1 : (-2147483648) ≤ z1.toInt ∧ z1.toInt ≤ 2147483647) => ?_)
  refine jx_ret rfl rfl rfl ?_
  exact ⟨rfl, z1, rfl, ez1⟩
theorem tyfirst_ok {P : si_P} {d : Nat} {h : si_H} (hH : az_HI P az_tb h) : az_X P d 134 0 (lv_args 0 [.ref (P.1 + 15)]) [] h (fun rv h' => h' = h ∧ jV rv (ja h 15 1)) := by
  have hl : jM [(0, .ref (P.1 + 15))] (lv_args 0 [.ref (P.1 + 15)]) := jM_args [0] rfl (by decide)
  generalize lv_args 0 [.ref (P.1 + 15)] = ls at hl
  refine jm_aload_n (x := P.1 + 15) rfl rfl (jM_at hl 0 rfl) ?_
  refine jn_gf (i := 15) (k := 1) rfl rfl hH (by decide) (hH.2 15 _ rfl).1 rfl rfl (fun z1 (ez1 : z1.toInt = ja h 15 1) (bz1 : (-2) ≤ z1.toInt ∧ z1.toInt ≤ 1439) => ?_)
  refine jx_ret rfl rfl rfl ?_
  exact ⟨rfl, z1, rfl, ez1⟩
theorem tempty_ok {P : si_P} {d : Nat} {h : si_H} (hH : az_HI P az_tb h) : az_X P d 142 0 (lv_args 0 [.ref (P.1 + 12)]) [] h (fun rv h' => rv = none ∧ az_HI P az_tb h' ∧ az_same_out [(12, 1)] h h' ∧ ja h' 12 1 = 0) := by
  have hl : jM [(0, .ref (P.1 + 12))] (lv_args 0 [.ref (P.1 + 12)]) := jM_args [0] rfl (by decide)
  generalize lv_args 0 [.ref (P.1 + 12)] = ls at hl
  have k0 : (0 : Int32).toInt = 0 := by decide
  refine jm_aload_n (x := P.1 + 12) rfl rfl (jM_at hl 0 rfl) ?_
  refine az_X_step (pc' := 2) (ls' := ls) (st' := [.int 0, .ref (P.1 + 12)]) (h' := h) rfl rfl rfl ?_
  refine jn_pf (i := 12) (k := 1) (x := 0) rfl rfl hH (by decide) rfl (hH.2 12 _ rfl).1 rfl rfl (by decide) (by decide) (by show 0 ≤ _; omega) (by show _ ≤ 260; omega) (fun h2 hH2 hs2 (t2 : ja h2 12 1 = (0 : Int32).toInt) => ?_)
  replace t2 : ja h2 12 1 = 0 := t2.trans (by decide)
  refine jn_retv rfl rfl rfl ?_
  exact ⟨rfl, hH2, (hs2.sub (by decide)), t2⟩
theorem tybegin_ok {P : si_P} {d : Nat} {h : si_H} (hH : az_HI P az_tb h) : az_X P d 131 0 (lv_args 0 [.ref (P.1 + 15)]) [] h (fun rv h' => rv = none ∧ az_HI P az_tb h' ∧ az_same_out [(15, 0), (15, 1)] h h' ∧ ja h' 15 0 = 0 ∧ ja h' 15 1 = -2) := by
  have hl : jM [(0, .ref (P.1 + 15))] (lv_args 0 [.ref (P.1 + 15)]) := jM_args [0] rfl (by decide)
  generalize lv_args 0 [.ref (P.1 + 15)] = ls at hl
  have km2 : ((-2) : Int32).toInt = (-2) := by decide
  have k0 : (0 : Int32).toInt = 0 := by decide
  refine jm_aload_n (x := P.1 + 15) rfl rfl (jM_at hl 0 rfl) ?_
  refine az_X_step (pc' := 2) (ls' := ls) (st' := [.int 0, .ref (P.1 + 15)]) (h' := h) rfl rfl rfl ?_
  refine jn_pf (i := 15) (k := 0) (x := 0) rfl rfl hH (by decide) rfl (hH.2 15 _ rfl).1 rfl rfl (by decide) (by decide) (by show (-2147483648) ≤ _; omega) (by show _ ≤ 2147483647; omega) (fun h2 hH2 hs2 (t2 : ja h2 15 0 = (0 : Int32).toInt) => ?_)
  replace t2 : ja h2 15 0 = 0 := t2.trans (by decide)
  refine jm_aload_n (x := P.1 + 15) rfl rfl (jM_at hl 0 rfl) ?_
  refine az_X_step (pc' := 8) (ls' := ls) (st' := [.int (-2), .ref (P.1 + 15)]) (h' := h2) rfl rfl rfl ?_
  refine jn_pf (i := 15) (k := 1) (x := (-2)) rfl rfl hH2 (by decide) rfl (hH2.2 15 _ rfl).1 rfl rfl (by decide) (by decide) (by show (-2) ≤ _; omega) (by show _ ≤ 1439; omega) (fun h8 hH8 hs8 (t8 : ja h8 15 1 = ((-2) : Int32).toInt) => ?_)
  replace t8 : ja h8 15 1 = (-2) := t8.trans (by decide)
  refine jn_retv rfl rfl rfl ?_
  exact ⟨rfl, hH8, ((hs2.sub (by decide)).tr (hs8.sub (by decide))), ((jso hs8 (by decide)).trans t2), t8⟩
theorem tyadd_ok {P : si_P} {d : Nat} {h : si_H} (hH : az_HI P az_tb h) (x : Int32) (hx : 0 ≤ x.toInt ∧ x.toInt ≤ 1439) (hc : 0 ≤ ja h 15 0 ∧ ja h 15 0 ≤ 2000) : az_X P d 132 0 (lv_args 0 [.ref (P.1 + 15), .int x]) [] h (fun rv h' => rv = none ∧ az_HI P az_tb h' ∧ az_same_out [(15, 0), (15, 1)] h h' ∧ ja h' 15 0 = ja h 15 0 + 1 ∧ ja h' 15 1 = (if ja h 15 0 = 0 then x.toInt else ja h 15 1)) := by
  have hl : jM [(0, .ref (P.1 + 15)), (1, .int x)] (lv_args 0 [.ref (P.1 + 15), .int x]) := jM_args [0, 1] rfl (by decide)
  generalize lv_args 0 [.ref (P.1 + 15), .int x] = ls at hl
  have k0 : (0 : Int32).toInt = 0 := by decide
  have k1 : (1 : Int32).toInt = 1 := by decide
  refine jm_aload_n (x := P.1 + 15) rfl rfl (jM_at hl 0 rfl) ?_
  refine jn_gf (i := 15) (k := 0) rfl rfl hH (by decide) (hH.2 15 _ rfl).1 rfl rfl (fun z1 (ez1 : z1.toInt = ja h 15 0) (bz1 : (-2147483648) ≤ z1.toInt ∧ z1.toInt ≤ 2147483647) => ?_)
  refine jx_if (t := 12) rfl rfl rfl (fun hc4 => ?_) (fun hc4 => ?_)
  · have g4 := jc1_ne_t hc4
    refine jm_aload_n (x := P.1 + 15) rfl rfl (jM_at hl 0 rfl) ?_
    refine az_X_step (pc' := 14) (ls' := ls) (st' := [.ref (P.1 + 15), .ref (P.1 + 15)]) (h' := h) rfl rfl rfl ?_
    refine jn_gf (i := 15) (k := 0) rfl rfl hH (by decide) (hH.2 15 _ rfl).1 rfl rfl (fun z14 (ez14 : z14.toInt = ja h 15 0) (bz14 : (-2147483648) ≤ z14.toInt ∧ z14.toInt ≤ 2147483647) => ?_)
    refine az_X_step (pc' := 18) (ls' := ls) (st' := [.int 1, .int z14, .ref (P.1 + 15)]) (h' := h) rfl rfl rfl ?_
    refine jn_add (a := z14) (b := 1) rfl rfl (by omega) (by omega) (fun z18 ez18 => ?_)
    rw [show (1 : Int32).toInt = 1 by decide] at ez18
    refine jn_pf (i := 15) (k := 0) (x := z18) rfl rfl hH (by decide) rfl (hH.2 15 _ rfl).1 rfl rfl (by decide) (by decide) (by show (-2147483648) ≤ _; omega) (by show _ ≤ 2147483647; omega) (fun h19 hH19 hs19 (t19 : ja h19 15 0 = z18.toInt) => ?_)
    refine jn_retv rfl rfl rfl ?_
    exact ⟨rfl, hH19, (hs19.sub (by decide)), t19.trans (by omega), (jso hs19 (by decide)).trans (if_neg (by omega)).symm⟩
  · have g4 := jc1_ne_f hc4
    refine jm_aload_n (x := P.1 + 15) rfl rfl (jM_at hl 0 rfl) ?_
    refine jm_iload_n (x := x) rfl rfl (jM_at hl 1 rfl) ?_
    refine jn_pf (i := 15) (k := 1) (x := x) rfl rfl hH (by decide) rfl (hH.2 15 _ rfl).1 rfl rfl (by decide) (by decide) (by show (-2) ≤ _; omega) (by show _ ≤ 1439; omega) (fun h9 hH9 hs9 (t9 : ja h9 15 1 = x.toInt) => ?_)
    refine jm_aload_n (x := P.1 + 15) rfl rfl (jM_at hl 0 rfl) ?_
    refine az_X_step (pc' := 14) (ls' := ls) (st' := [.ref (P.1 + 15), .ref (P.1 + 15)]) (h' := h9) rfl rfl rfl ?_
    refine jn_gf (i := 15) (k := 0) rfl rfl hH9 (by decide) (hH9.2 15 _ rfl).1 rfl rfl (fun z14 (ez14 : z14.toInt = ja h9 15 0) (bz14 : (-2147483648) ≤ z14.toInt ∧ z14.toInt ≤ 2147483647) => ?_)
    replace ez14 : z14.toInt = ja h 15 0 := ez14.trans (jso hs9 (by decide))
    refine az_X_step (pc' := 18) (ls' := ls) (st' := [.int 1, .int z14, .ref (P.1 + 15)]) (h' := h9) rfl rfl rfl ?_
    refine jn_add (a := z14) (b := 1) rfl rfl (by omega) (by omega) (fun z18 ez18 => ?_)
    rw [show (1 : Int32).toInt = 1 by decide] at ez18
    refine jn_pf (i := 15) (k := 0) (x := z18) rfl rfl hH9 (by decide) rfl (hH9.2 15 _ rfl).1 rfl rfl (by decide) (by decide) (by show (-2147483648) ≤ _; omega) (by show _ ≤ 2147483647; omega) (fun h19 hH19 hs19 (t19 : ja h19 15 0 = z18.toInt) => ?_)
    refine jn_retv rfl rfl rfl ?_
    exact ⟨rfl, hH19, ((hs9.sub (by decide)).tr (hs19.sub (by decide))), t19.trans (by omega), ((jso hs19 (by decide)).trans t9).trans (if_pos (by omega)).symm⟩
theorem match_i {P : si_P} (hxa : P.2.1 < P.1) {d : Nat} {h : si_H} (hH : az_HI P az_tb h) (n v F N : Int32) (hv : v = 0 ∨ v = 1) (hn : 1 ≤ n.toInt ∧ n.toInt ≤ 12) (hn2 : n.toInt ≤ ja h 12 1) (hF : 0 ≤ F.toInt ∧ F.toInt ≤ 1000) {Q : Option Value → si_H → Prop} (cont : ∀ (U : Int32) (ls : si_L), jM [(7, .int U), (6, .int F), (5, .int N), (0, .ref (P.1 + 5)), (1, .ref (P.1 + 12)), (2, .int n), (3, .int v), (4, .ref (P.1 + 15))] ls → ((U.toInt = 1 ∧ ∀ i : Nat, (i : Int) < n.toInt → ja h 13 i = (jF (ja h 1 0) (ja h 1 1) v.toInt (if v.toInt = 1 then 2 * ja h 1 1 else ja h 1 1)) (F.toInt + i)) ∨ (U.toInt = 0 ∧ ¬ (∀ i : Nat, (i : Int) < n.toInt → ja h 13 i = (jF (ja h 1 0) (ja h 1 1) v.toInt (if v.toInt = 1 then 2 * ja h 1 1 else ja h 1 1)) (F.toInt + i)))) → az_X P (d + 3) 22 71 ls [] h Q) : ∀ (k j : Nat) (T U : Int32) (ls : si_L), jM [(8, .int T), (7, .int U), (6, .int F), (5, .int N), (0, .ref (P.1 + 5)), (1, .ref (P.1 + 12)), (2, .int n), (3, .int v), (4, .ref (P.1 + 15))] ls → T.toInt = j → (j : Int) + k = n.toInt → ((U.toInt = 1 ∧ ∀ i : Nat, (i : Int) < j → ja h 13 i = (jF (ja h 1 0) (ja h 1 1) v.toInt (if v.toInt = 1 then 2 * ja h 1 1 else ja h 1 1)) (F.toInt + i)) ∨ (U.toInt = 0 ∧ ¬ (∀ i : Nat, (i : Int) < n.toInt → ja h 13 i = (jF (ja h 1 0) (ja h 1 1) v.toInt (if v.toInt = 1 then 2 * ja h 1 1 else ja h 1 1)) (F.toInt + i)))) → az_X P (d + 3) 22 28 ls [] h Q := by
  intro k
  induction k with
  | zero =>
    intro j T U ls hl eT hj hs
    refine jm_iload (x := T) rfl rfl (jM_at hl 0 rfl) ?_
    refine jm_iload_n (x := n) rfl rfl (jM_at hl 6 rfl) ?_
    refine jx_ic (t := 71) rfl rfl rfl (fun hc31 => ?_) (fun hc31 => ?_)
    · have g31 := jc2_ge_t hc31
      exact cont U ls (jM_pick hl [1, 2, 3, 4, 5, 6, 7, 8] rfl) (by rw [show (j : Int) = n.toInt by omega] at hs; exact hs)
    · have g31 := jc2_ge_f hc31
      exfalso
      omega
  | succ k ih =>
    intro j T U ls hl eT hj hs
    have k0 : (0 : Int32).toInt = 0 := by decide
    have k1 : (1 : Int32).toInt = 1 := by decide
    refine jm_iload (x := T) rfl rfl (jM_at hl 0 rfl) ?_
    refine jm_iload_n (x := n) rfl rfl (jM_at hl 6 rfl) ?_
    refine jx_ic (t := 71) rfl rfl rfl (fun hc31 => ?_) (fun hc31 => ?_)
    · have g31 := jc2_ge_t hc31
      exfalso
      omega
    · have g31 := jc2_ge_f hc31
      refine jm_iload (x := U) rfl rfl (jM_at hl 1 rfl) ?_
      refine jx_if (t := 71) rfl rfl rfl (fun hc36 => ?_) (fun hc36 => ?_)
      · have g36 := jc1_eq_t hc36
        exact cont U ls (jM_pick hl [1, 2, 3, 4, 5, 6, 7, 8] rfl) (by
          rcases hs with ⟨q, -⟩ | q
          · exact absurd g36 (by omega)
          · exact Or.inr q)
      · have g36 := jc1_eq_f hc36
        refine jm_aload_n (x := P.1 + 12) rfl rfl (jM_at hl 5 rfl) ?_
        refine jm_iload (x := T) rfl rfl (jM_at hl 0 rfl) ?_
        refine az_X_call (m' := 141) (as := [.ref (P.1 + 12), .int T]) (rest := []) rfl rfl rfl rfl rfl ?_ ?_
        · unfold si_call
          dsimp only
          rw [if_pos ⟨rfl, rfl⟩]
          show (match si_ix P h (P.1 + 12) with | some i => _ | none => none) = _
          rw [jix hH (by decide)]
          dsimp only
          rw [(hH.2 12 _ rfl).1]
          rfl
        refine (tat_ok hxa hH T (by omega)).mono ?_
        rintro rv42 h42 ⟨q42, z42, rfl, ez42⟩
        subst h42
        show az_X P _ 22 45 ls [.int z42] _ _
        refine jm_aload_n (x := P.1 + 5) rfl rfl (jM_at hl 4 rfl) ?_
        refine jm_iload (x := F) rfl rfl (jM_at hl 2 rfl) ?_
        refine jm_iload (x := T) rfl rfl (jM_at hl 0 rfl) ?_
        refine jn_add (a := F) (b := T) rfl rfl (by omega) (by omega) (fun z50 ez50 => ?_)
        refine jm_iload_n (x := v) rfl rfl (jM_at hl 7 rfl) ?_
        refine az_X_call (m' := 18) (as := [.ref (P.1 + 5), .int z50, .int v]) (rest := [.int z42]) rfl rfl rfl rfl rfl ?_ ?_
        · unfold si_call
          dsimp only
          rw [if_pos ⟨rfl, rfl⟩]
          show (match si_ix P h (P.1 + 5) with | some i => _ | none => none) = _
          rw [jix hH (by decide)]
          dsimp only
          rw [(hH.2 5 _ rfl).1]
          rfl
        refine (stof_ok hH z50 v hv (by omega)).mono ?_
        rintro rv52 h52 ⟨q52, z52, rfl, ez52⟩
        subst h52
        show az_X P _ 22 55 ls [.int z52, .int z42] _ _
        refine jx_ic (t := 62) rfl rfl rfl (fun hc55 => ?_) (fun hc55 => ?_)
        · have g55 := jc2_ne_t hc55
          refine az_X_step (pc' := 63) (ls' := ls) (st' := [.int 0]) (h' := h) rfl rfl rfl ?_
          refine jm_istore (l' := [(7, .int 0), (8, .int T), (6, .int F), (5, .int N), (0, .ref (P.1 + 5)), (1, .ref (P.1 + 12)), (2, .int n), (3, .int v), (4, .ref (P.1 + 15))]) rfl rfl (by decide) hl rfl rfl (fun ls63 hl63 => ?_)
          refine jn_iinc (x := T) rfl rfl (by decide) (jM_at hl63 1 rfl) hl63 rfl (by decide) (by omega) (by omega) (fun z65 (ez65 : z65.toInt = T.toInt + 1) ls65 (hl65 : jM [(8, .int z65), (7, .int 0), (6, .int F), (5, .int N), (0, .ref (P.1 + 5)), (1, .ref (P.1 + 12)), (2, .int n), (3, .int v), (4, .ref (P.1 + 15))] ls65) => ?_)
          refine az_X_step (pc' := 28) (ls' := ls65) (st' := []) (h' := h) rfl rfl rfl ?_
          have hs1 : U.toInt = 1 ∧ ∀ i : Nat, (i : Int) < j → ja h 13 i = (jF (ja h 1 0) (ja h 1 1) v.toInt (if v.toInt = 1 then 2 * ja h 1 1 else ja h 1 1)) (F.toInt + i) := by
            rcases hs with q | ⟨q, -⟩
            · exact q
            · exact absurd q g36
          rw [ez42, ez52, eT, show z50.toInt = F.toInt + j by omega] at g55
          exact ih (j + 1) z65 0 ls65 (jM_pick hl65 [0, 1, 2, 3, 4, 5, 6, 7, 8] rfl) (by omega) (by omega) (Or.inr ⟨by decide, fun q => g55 (q j (by omega))⟩)
        · have g55 := jc2_ne_f hc55
          refine az_X_step (pc' := 59) (ls' := ls) (st' := [.int 1]) (h' := h) rfl rfl rfl ?_
          refine az_X_step (pc' := 63) (ls' := ls) (st' := [.int 1]) (h' := h) rfl rfl rfl ?_
          refine jm_istore (l' := [(7, .int 1), (8, .int T), (6, .int F), (5, .int N), (0, .ref (P.1 + 5)), (1, .ref (P.1 + 12)), (2, .int n), (3, .int v), (4, .ref (P.1 + 15))]) rfl rfl (by decide) hl rfl rfl (fun ls63 hl63 => ?_)
          refine jn_iinc (x := T) rfl rfl (by decide) (jM_at hl63 1 rfl) hl63 rfl (by decide) (by omega) (by omega) (fun z65 (ez65 : z65.toInt = T.toInt + 1) ls65 (hl65 : jM [(8, .int z65), (7, .int 1), (6, .int F), (5, .int N), (0, .ref (P.1 + 5)), (1, .ref (P.1 + 12)), (2, .int n), (3, .int v), (4, .ref (P.1 + 15))] ls65) => ?_)
          refine az_X_step (pc' := 28) (ls' := ls65) (st' := []) (h' := h) rfl rfl rfl ?_
          have hs1 : U.toInt = 1 ∧ ∀ i : Nat, (i : Int) < j → ja h 13 i = (jF (ja h 1 0) (ja h 1 1) v.toInt (if v.toInt = 1 then 2 * ja h 1 1 else ja h 1 1)) (F.toInt + i) := by
            rcases hs with q | ⟨q, -⟩
            · exact q
            · exact absurd q g36
          rw [ez42, ez52, eT, show z50.toInt = F.toInt + j by omega] at g55
          refine ih (j + 1) z65 1 ls65 (jM_pick hl65 [0, 1, 2, 3, 4, 5, 6, 7, 8] rfl) (by omega) (by omega) (Or.inl ⟨by decide, fun i hi => ?_⟩)
          rcases Int.lt_or_le (i : Int) j with q | q
          · exact hs1.2 i q
          · rw [show i = j by omega]; exact g55
theorem match_o {P : si_P} (hxa : P.2.1 < P.1) {d : Nat} {h0 : si_H} (n v N : Int32) (hv : v = 0 ∨ v = 1) (hn : 1 ≤ n.toInt ∧ n.toInt ≤ 12) (hn2 : n.toInt ≤ ja h0 12 1) (hN : N.toInt = (if v.toInt = 1 then 2 * ja h0 1 1 else ja h0 1 1)) (hN2 : N.toInt ≤ 48) : ∀ (k j : Nat) (F : Int32) (h : si_H) (ls : si_L), jM [(6, .int F), (5, .int N), (0, .ref (P.1 + 5)), (1, .ref (P.1 + 12)), (2, .int n), (3, .int v), (4, .ref (P.1 + 15))] ls → az_HI P az_tb h → az_same_out [(15, 0), (15, 1)] h0 h → F.toInt = j → (j : Int) + k = N.toInt → ja h 15 0 = (jhm (jhp (fun i => ja h0 13 i) (jF (ja h0 1 0) (ja h0 1 1) v.toInt N.toInt) n.toInt.toNat) j).1 → ja h 15 1 = (jhm (jhp (fun i => ja h0 13 i) (jF (ja h0 1 0) (ja h0 1 1) v.toInt N.toInt) n.toInt.toNat) j).2 → az_X P (d + 3) 22 15 ls [] h (fun rv h' => rv = none ∧ az_HI P az_tb h' ∧ az_same_out [(15, 0), (15, 1)] h0 h' ∧ ja h' 15 0 = (jhm (jhp (fun i => ja h0 13 i) (jF (ja h0 1 0) (ja h0 1 1) v.toInt N.toInt) n.toInt.toNat) N.toInt.toNat).1 ∧ ja h' 15 1 = (jhm (jhp (fun i => ja h0 13 i) (jF (ja h0 1 0) (ja h0 1 1) v.toInt N.toInt) n.toInt.toNat) N.toInt.toNat).2) := by
  intro k
  induction k with
  | zero =>
    intro j F h ls hl hH hs eF hj h1 h2
    refine jm_iload (x := F) rfl rfl (jM_at hl 0 rfl) ?_
    refine jm_iload (x := N) rfl rfl (jM_at hl 1 rfl) ?_
    refine jx_ic (t := 89) rfl rfl rfl (fun hc19 => ?_) (fun hc19 => ?_)
    · have g19 := jc2_ge_t hc19
      refine jn_retv rfl rfl rfl ?_
      exact ⟨rfl, hH, hs, by rw [show N.toInt.toNat = j by omega]; exact h1, by rw [show N.toInt.toNat = j by omega]; exact h2⟩
    · have g19 := jc2_ge_f hc19
      exfalso
      omega
  | succ k ih =>
    intro j F h ls hl hH hs eF hj h1 h2
    have r10 : ja h 1 0 = ja h0 1 0 := jso hs (by decide)
    have r11 : ja h 1 1 = ja h0 1 1 := jso hs (by decide)
    have r12 : ja h 12 1 = ja h0 12 1 := jso hs (by decide)
    have r13 : ∀ i : Int, ja h 13 i = ja h0 13 i := fun i => jso_row hs (by decide) i
    have bd := jhm_bd (jhp (fun i => ja h0 13 i) (jF (ja h0 1 0) (ja h0 1 1) v.toInt N.toInt) n.toInt.toNat) j
    have pe : jhp (fun i => ja h0 13 i) (jF (ja h0 1 0) (ja h0 1 1) v.toInt N.toInt) n.toInt.toNat j = true ↔ (∀ i : Nat, (i : Int) < n.toInt → ja h 13 i = (jF (ja h 1 0) (ja h 1 1) v.toInt (if v.toInt = 1 then 2 * ja h 1 1 else ja h 1 1)) (F.toInt + i)) := by
      rw [jhp_iff]
      constructor
      · intro q i hi
        have q1 := q i (by omega)
        rw [r10, r11, r13, ← hN, eF]
        exact q1
      · intro q i hi
        have q1 := q i (by omega)
        rw [r10, r11, r13, ← hN, eF] at q1
        exact q1
    have k0 : (0 : Int32).toInt = 0 := by decide
    have k1 : (1 : Int32).toInt = 1 := by decide
    refine jm_iload (x := F) rfl rfl (jM_at hl 0 rfl) ?_
    refine jm_iload (x := N) rfl rfl (jM_at hl 1 rfl) ?_
    refine jx_ic (t := 89) rfl rfl rfl (fun hc19 => ?_) (fun hc19 => ?_)
    · have g19 := jc2_ge_t hc19
      refine jn_retv rfl rfl rfl ?_
      exfalso
      omega
    · have g19 := jc2_ge_f hc19
      refine az_X_step (pc' := 23) (ls' := ls) (st' := [.int 1]) (h' := h) rfl rfl rfl ?_
      refine jm_istore (l' := [(7, .int 1), (6, .int F), (5, .int N), (0, .ref (P.1 + 5)), (1, .ref (P.1 + 12)), (2, .int n), (3, .int v), (4, .ref (P.1 + 15))]) rfl rfl (by decide) hl rfl rfl (fun ls23 hl23 => ?_)
      refine az_X_step (pc' := 26) (ls' := ls23) (st' := [.int 0]) (h' := h) rfl rfl rfl ?_
      refine jm_istore (l' := [(8, .int 0), (7, .int 1), (6, .int F), (5, .int N), (0, .ref (P.1 + 5)), (1, .ref (P.1 + 12)), (2, .int n), (3, .int v), (4, .ref (P.1 + 15))]) rfl rfl (by decide) hl23 rfl rfl (fun ls26 hl26 => ?_)
      refine match_i hxa hH n v F N hv hn (by omega) (by omega) (fun U ls1 hl1 hU => ?_) n.toInt.toNat 0 0 1 ls26 (jM_pick hl26 [0, 1, 2, 3, 4, 5, 6, 7, 8] rfl) (by decide) (by omega) (Or.inl ⟨by decide, fun i hi => absurd hi (by omega)⟩)
      have k0 : (0 : Int32).toInt = 0 := by decide
      refine jm_iload (x := U) rfl rfl (jM_at hl1 0 rfl) ?_
      refine jx_if (t := 83) rfl rfl rfl (fun hc73 => ?_) (fun hc73 => ?_)
      · have g73 := jc1_eq_t hc73
        refine jn_iinc (x := F) rfl rfl (by decide) (jM_at hl1 1 rfl) hl1 rfl (by decide) (by omega) (by omega) (fun z83 (ez83 : z83.toInt = F.toInt + 1) ls83 (hl83 : jM [(6, .int z83), (7, .int U), (5, .int N), (0, .ref (P.1 + 5)), (1, .ref (P.1 + 12)), (2, .int n), (3, .int v), (4, .ref (P.1 + 15))] ls83) => ?_)
        refine az_X_step (pc' := 15) (ls' := ls83) (st' := []) (h' := h) rfl rfl rfl ?_
        have np : ¬ (jhp (fun i => ja h0 13 i) (jF (ja h0 1 0) (ja h0 1 1) v.toInt N.toInt) n.toInt.toNat) j = true := by
          rw [pe]
          rcases hU with ⟨q, -⟩ | ⟨-, q⟩
          · exact absurd g73 (by omega)
          · exact q
        exact ih (j + 1) z83 h ls83 (jM_pick hl83 [0, 2, 3, 4, 5, 6, 7] rfl) hH hs (by omega) (by omega) (by rw [h1, jhm_f np]) (by rw [h2, jhm_f np])
      · have g73 := jc1_eq_f hc73
        refine jm_aload (x := P.1 + 15) rfl rfl (jM_at hl1 7 rfl) ?_
        refine jm_iload (x := F) rfl rfl (jM_at hl1 1 rfl) ?_
        refine az_X_call (m' := 132) (as := [.ref (P.1 + 15), .int F]) (rest := []) rfl rfl rfl rfl rfl ?_ ?_
        · unfold si_call
          dsimp only
          rw [if_pos ⟨rfl, rfl⟩]
          show (match si_ix P h (P.1 + 15) with | some i => _ | none => none) = _
          rw [jix hH (by decide)]
          dsimp only
          rw [(hH.2 15 _ rfl).1]
          rfl
        refine (tyadd_ok hH F (by omega) (by omega)).mono ?_
        rintro rv80 h80 ⟨rfl, hH80, hs80, f80⟩
        show az_X P _ 22 83 ls1 [] _ _
        refine jn_iinc (x := F) rfl rfl (by decide) (jM_at hl1 1 rfl) hl1 rfl (by decide) (by omega) (by omega) (fun z83 (ez83 : z83.toInt = F.toInt + 1) ls83 (hl83 : jM [(6, .int z83), (7, .int U), (5, .int N), (0, .ref (P.1 + 5)), (1, .ref (P.1 + 12)), (2, .int n), (3, .int v), (4, .ref (P.1 + 15))] ls83) => ?_)
        refine az_X_step (pc' := 15) (ls' := ls83) (st' := []) (h' := h80) rfl rfl rfl ?_
        have np : (jhp (fun i => ja h0 13 i) (jF (ja h0 1 0) (ja h0 1 1) v.toInt N.toInt) n.toInt.toNat) j = true := by
          rw [pe]
          rcases hU with ⟨-, q⟩ | ⟨q, -⟩
          · exact q
          · exact absurd q g73
        exact ih (j + 1) z83 h80 ls83 (jM_pick hl83 [0, 2, 3, 4, 5, 6, 7] rfl) hH80 (hs.tr hs80) (by omega) (by omega) (by rw [f80.1, h1, jhm_t np]) (by rw [f80.2, h1, h2, eF, jhm_t np])
theorem match_ok {P : si_P} (hxa : P.2.1 < P.1) {d : Nat} {h : si_H} (hH : az_HI P az_tb h) (n v : Int32) (hv : v = 0 ∨ v = 1) (hn : 1 ≤ n.toInt ∧ n.toInt ≤ 12) (hn2 : n.toInt ≤ ja h 12 1) : az_X P (d + 3) 22 0 (lv_args 0 [.ref (P.1 + 5), .ref (P.1 + 12), .int n, .int v, .ref (P.1 + 15)]) [] h (fun rv h' => rv = none ∧ az_HI P az_tb h' ∧ az_same_out [(15, 0), (15, 1)] h h' ∧ ja h' 15 0 = (jhm (jhp (fun i => ja h 13 i) (jF (ja h 1 0) (ja h 1 1) v.toInt (if v.toInt = 1 then 2 * ja h 1 1 else ja h 1 1)) n.toInt.toNat) (if v.toInt = 1 then 2 * ja h 1 1 else ja h 1 1).toNat).1 ∧ ja h' 15 1 = (jhm (jhp (fun i => ja h 13 i) (jF (ja h 1 0) (ja h 1 1) v.toInt (if v.toInt = 1 then 2 * ja h 1 1 else ja h 1 1)) n.toInt.toNat) (if v.toInt = 1 then 2 * ja h 1 1 else ja h 1 1).toNat).2) := by
  have br : 2 ≤ ja h 1 1 ∧ ja h 1 1 ≤ 24 := ja_bd hH (i := 1) (k := 1) rfl
  have hl : jM [(0, .ref (P.1 + 5)), (1, .ref (P.1 + 12)), (2, .int n), (3, .int v), (4, .ref (P.1 + 15))] (lv_args 0 [.ref (P.1 + 5), .ref (P.1 + 12), .int n, .int v, .ref (P.1 + 15)]) := jM_args [0, 1, 2, 3, 4] rfl (by decide)
  generalize lv_args 0 [.ref (P.1 + 5), .ref (P.1 + 12), .int n, .int v, .ref (P.1 + 15)] = ls at hl
  have k0 : (0 : Int32).toInt = 0 := by decide
  refine jm_aload (x := P.1 + 15) rfl rfl (jM_at hl 4 rfl) ?_
  refine az_X_call (m' := 131) (as := [.ref (P.1 + 15)]) (rest := []) rfl rfl rfl rfl rfl ?_ ?_
  · unfold si_call
    dsimp only
    rw [if_pos ⟨rfl, rfl⟩]
    show (match si_ix P h (P.1 + 15) with | some i => _ | none => none) = _
    rw [jix hH (by decide)]
    dsimp only
    rw [(hH.2 15 _ rfl).1]
    rfl
  refine (tybegin_ok hH).mono ?_
  rintro rv2 h2 ⟨rfl, hH2, hs2, f2⟩
  show az_X P _ 22 5 ls [] _ _
  refine jm_aload_n (x := P.1 + 5) rfl rfl (jM_at hl 0 rfl) ?_
  refine jm_iload_n (x := v) rfl rfl (jM_at hl 3 rfl) ?_
  refine az_X_call (m' := 15) (as := [.ref (P.1 + 5), .int v]) (rest := []) rfl rfl rfl rfl rfl ?_ ?_
  · unfold si_call
    dsimp only
    rw [if_pos ⟨rfl, rfl⟩]
    show (match si_ix P h2 (P.1 + 5) with | some i => _ | none => none) = _
    rw [jix hH2 (by decide)]
    dsimp only
    rw [(hH2.2 5 _ rfl).1]
    rfl
  refine (smany_ok hH2 v hv).mono ?_
  rintro rv7 h7 ⟨q7, z7, rfl, ez7⟩
  subst h7
  show az_X P _ 22 10 ls [.int z7] _ _
  refine jm_istore (l' := [(5, .int z7), (0, .ref (P.1 + 5)), (1, .ref (P.1 + 12)), (2, .int n), (3, .int v), (4, .ref (P.1 + 15))]) rfl rfl (by decide) hl rfl rfl (fun ls10 hl10 => ?_)
  refine az_X_step (pc' := 13) (ls' := ls10) (st' := [.int 0]) (h' := h2) rfl rfl rfl ?_
  refine jm_istore (l' := [(6, .int 0), (5, .int z7), (0, .ref (P.1 + 5)), (1, .ref (P.1 + 12)), (2, .int n), (3, .int v), (4, .ref (P.1 + 15))]) rfl rfl (by decide) hl10 rfl rfl (fun ls13 hl13 => ?_)
  have N1 : ja h2 1 1 = ja h 1 1 := jso hs2 (by decide)
  have N0 : ja h2 1 0 = ja h 1 0 := jso hs2 (by decide)
  have N2 : 0 ≤ z7.toInt ∧ z7.toInt ≤ 48 := by rw [ez7, N1]; split <;> omega
  refine (match_o hxa (h0 := h2) n v z7 hv hn (by rw [jso hs2 (by decide)]; exact hn2) ez7 N2.2 z7.toInt.toNat 0 0 h2 ls13 (jM_pick hl13 [0, 1, 2, 3, 4, 5, 6] rfl) hH2 az_same_out.rf (by decide) (by omega) f2.1 f2.2).mono ?_
  rintro rv h9 ⟨q1, q2, q3, q4, q5⟩
  have eA : (fun i : Nat => ja h2 13 i) = (fun i : Nat => ja h 13 i) := funext (fun i => jso_row hs2 (by decide) i)
  rw [eA, N0, N1, show z7.toInt = (if v.toInt = 1 then 2 * ja h 1 1 else ja h 1 1) by rw [ez7, N1]] at q4 q5
  exact ⟨q1, q2, hs2.tr q3, q4, q5⟩
theorem heard0_ok {P : si_P} (hxa : P.2.1 < P.1) {d : Nat} {h : si_H} (hH : az_HI P az_tb h) (n v w : Int32) (hv : v = 0 ∨ v = 1) : az_X P (d + 4) 163 0 (lv_args 0 [.ref (P.1 + 0), .int n, .int v, .int w]) [] h (fun rv h' => ∃ z : Int32, rv = some (.int z) ∧ az_HI P az_tb h' ∧ az_same_out [(12, 1), (15, 0), (15, 1)] h h' ∧ (((1 ≤ n.toInt ∧ n.toInt ≤ 12 ∧ 0 ≤ w.toInt ∧ w.toInt ≤ 1 ∧ n.toInt ≤ ja h 12 1) ∧ ja h' 12 1 = 0 ∧ z.toInt = (if w.toInt = 0 then (jhm (jhp (fun i => ja h 13 i) (jF (ja h 1 0) (ja h 1 1) v.toInt (if v.toInt = 1 then 2 * ja h 1 1 else ja h 1 1)) n.toInt.toNat) (if v.toInt = 1 then 2 * ja h 1 1 else ja h 1 1).toNat).1 else jhl (fun i => jtof (ja h 1 0) v.toInt (i % (if v.toInt = 1 then 2 * ja h 1 1 else ja h 1 1))) n.toInt (jhm (jhp (fun i => ja h 13 i) (jF (ja h 1 0) (ja h 1 1) v.toInt (if v.toInt = 1 then 2 * ja h 1 1 else ja h 1 1)) n.toInt.toNat) (if v.toInt = 1 then 2 * ja h 1 1 else ja h 1 1).toNat))) ∨ (¬ (1 ≤ n.toInt ∧ n.toInt ≤ 12 ∧ 0 ≤ w.toInt ∧ w.toInt ≤ 1 ∧ n.toInt ≤ ja h 12 1) ∧ ja h' 12 1 = ja h 12 1 ∧ z.toInt = -1))) := by
  have bl : 0 ≤ ja h 12 1 ∧ ja h 12 1 ≤ 260 := ja_bd hH (i := 12) (k := 1) rfl
  have br : 2 ≤ ja h 1 1 ∧ ja h 1 1 ≤ 24 := ja_bd hH (i := 1) (k := 1) rfl
  have hl : jM [(0, .ref (P.1 + 0)), (1, .int n), (2, .int v), (3, .int w)] (lv_args 0 [.ref (P.1 + 0), .int n, .int v, .int w]) := jM_args [0, 1, 2, 3] rfl (by decide)
  generalize lv_args 0 [.ref (P.1 + 0), .int n, .int v, .int w] = ls at hl
  have km4 : ((-4) : Int32).toInt = (-4) := by decide
  have km2 : ((-2) : Int32).toInt = (-2) := by decide
  have km1 : ((-1) : Int32).toInt = (-1) := by decide
  have k0 : (0 : Int32).toInt = 0 := by decide
  have k1 : (1 : Int32).toInt = 1 := by decide
  have k12 : (12 : Int32).toInt = 12 := by decide
  refine jm_iload_n (x := n) rfl rfl (jM_at hl 1 rfl) ?_
  refine az_X_step (pc' := 2) (ls' := ls) (st' := [.int 1, .int n]) (h' := h) rfl rfl rfl ?_
  refine jx_ic (t := 29) rfl rfl rfl (fun hc2 => ?_) (fun hc2 => ?_)
  · have g2 := jc2_lt_t hc2
    refine az_X_step (pc' := 30) (ls' := ls) (st' := [.int (-1)]) (h' := h) rfl rfl rfl ?_
    refine jx_ret rfl rfl rfl ?_
    exact ⟨(-1), rfl, hH, az_same_out.rf, Or.inr ⟨by omega, rfl, by decide⟩⟩
  · have g2 := jc2_lt_f hc2
    refine jm_iload_n (x := n) rfl rfl (jM_at hl 1 rfl) ?_
    refine az_X_step (pc' := 8) (ls' := ls) (st' := [.int 12, .int n]) (h' := h) rfl rfl rfl ?_
    refine jx_ic (t := 29) rfl rfl rfl (fun hc8 => ?_) (fun hc8 => ?_)
    · have g8 := jc2_gt_t hc8
      refine az_X_step (pc' := 30) (ls' := ls) (st' := [.int (-1)]) (h' := h) rfl rfl rfl ?_
      refine jx_ret rfl rfl rfl ?_
      exact ⟨(-1), rfl, hH, az_same_out.rf, Or.inr ⟨by omega, rfl, by decide⟩⟩
    · have g8 := jc2_gt_f hc8
      refine jm_iload_n (x := w) rfl rfl (jM_at hl 3 rfl) ?_
      refine az_X_call (m' := 188) (as := [.int w]) (rest := []) rfl rfl rfl rfl rfl rfl ?_
      refine (ctwo_ok w).mono ?_
      rintro rv12 h12 ⟨q12, z12, rfl, ez12⟩
      subst h12
      show az_X P _ 163 15 ls [.int z12] _ _
      refine jx_if (t := 29) rfl rfl rfl (fun hc15 => ?_) (fun hc15 => ?_)
      · have g15 := jc1_eq_t hc15
        refine az_X_step (pc' := 30) (ls' := ls) (st' := [.int (-1)]) (h' := h) rfl rfl rfl ?_
        refine jx_ret rfl rfl rfl ?_
        exact ⟨(-1), rfl, hH, az_same_out.rf, Or.inr ⟨by omega, rfl, by decide⟩⟩
      · have g15 := jc1_eq_f hc15
        refine jm_aload_n (x := P.1 + 0) rfl rfl (jM_at hl 0 rfl) ?_
        refine jx_gf (i := 0) rfl rfl hH (by decide) (hH.2 0 _ rfl).1 rfl (jx_rf hH rfl rfl) ?_
        refine jm_iload_n (x := n) rfl rfl (jM_at hl 1 rfl) ?_
        refine az_X_call (m' := 138) (as := [.ref (P.1 + 12), .int n]) (rest := []) rfl rfl rfl rfl rfl ?_ ?_
        · unfold si_call
          dsimp only
          rw [if_pos ⟨rfl, rfl⟩]
          show (match si_ix P h (P.1 + 12) with | some i => _ | none => none) = _
          rw [jix hH (by decide)]
          dsimp only
          rw [(hH.2 12 _ rfl).1]
          rfl
        refine (thas_ok hH n).mono ?_
        rintro rv23 h23 ⟨q23, z23, rfl, ez23⟩
        subst h23
        show az_X P _ 163 26 ls [.int z23] _ _
        refine jx_if (t := 31) rfl rfl rfl (fun hc26 => ?_) (fun hc26 => ?_)
        · have g26 := jc1_ne_t hc26
          refine jm_aload_n (x := P.1 + 0) rfl rfl (jM_at hl 0 rfl) ?_
          refine jx_gf (i := 0) rfl rfl hH (by decide) (hH.2 0 _ rfl).1 rfl (jx_rf hH rfl rfl) ?_
          refine jm_aload_n (x := P.1 + 0) rfl rfl (jM_at hl 0 rfl) ?_
          refine jx_gf (i := 0) rfl rfl hH (by decide) (hH.2 0 _ rfl).1 rfl (jx_rf hH rfl rfl) ?_
          refine jm_iload_n (x := n) rfl rfl (jM_at hl 1 rfl) ?_
          refine jm_iload_n (x := v) rfl rfl (jM_at hl 2 rfl) ?_
          refine jm_aload_n (x := P.1 + 0) rfl rfl (jM_at hl 0 rfl) ?_
          refine jx_gf (i := 0) rfl rfl hH (by decide) (hH.2 0 _ rfl).1 rfl (jx_rf hH rfl rfl) ?_
          refine az_X_call (m' := 22) (as := [.ref (P.1 + 5), .ref (P.1 + 12), .int n, .int v, .ref (P.1 + 15)]) (rest := []) rfl rfl rfl rfl rfl ?_ ?_
          · unfold si_call
            dsimp only
            rw [if_pos ⟨rfl, rfl⟩]
            show (match si_ix P h (P.1 + 5) with | some i => _ | none => none) = _
            rw [jix hH (by decide)]
            dsimp only
            rw [(hH.2 5 _ rfl).1]
            rfl
          refine (match_ok hxa hH n v hv (by omega) (by omega)).mono ?_
          rintro rv45 h45 ⟨rfl, hH45, hs45, f45⟩
          show az_X P _ 163 48 ls [] _ _
          refine jm_aload_n (x := P.1 + 0) rfl rfl (jM_at hl 0 rfl) ?_
          refine jx_gf (i := 0) rfl rfl hH45 (by decide) (hH45.2 0 _ rfl).1 rfl (jx_rf hH45 rfl rfl) ?_
          refine az_X_call (m' := 142) (as := [.ref (P.1 + 12)]) (rest := []) rfl rfl rfl rfl rfl ?_ ?_
          · unfold si_call
            dsimp only
            rw [if_pos ⟨rfl, rfl⟩]
            show (match si_ix P h45 (P.1 + 12) with | some i => _ | none => none) = _
            rw [jix hH45 (by decide)]
            dsimp only
            rw [(hH45.2 12 _ rfl).1]
            rfl
          refine (tempty_ok hH45).mono ?_
          rintro rv52 h52 ⟨rfl, hH52, hs52, f52⟩
          show az_X P _ 163 55 ls [] _ _
          refine jm_iload_n (x := w) rfl rfl (jM_at hl 3 rfl) ?_
          refine jx_if (t := 67) rfl rfl rfl (fun hc56 => ?_) (fun hc56 => ?_)
          · have g56 := jc1_ne_t hc56
            refine jm_aload_n (x := P.1 + 0) rfl rfl (jM_at hl 0 rfl) ?_
            refine jx_gf (i := 0) rfl rfl hH52 (by decide) (hH52.2 0 _ rfl).1 rfl (jx_rf hH52 rfl rfl) ?_
            refine az_X_call (m' := 133) (as := [.ref (P.1 + 15)]) (rest := []) rfl rfl rfl rfl rfl ?_ ?_
            · unfold si_call
              dsimp only
              rw [if_pos ⟨rfl, rfl⟩]
              show (match si_ix P h52 (P.1 + 15) with | some i => _ | none => none) = _
              rw [jix hH52 (by decide)]
              dsimp only
              rw [(hH52.2 15 _ rfl).1]
              rfl
            refine (tymany_ok hH52).mono ?_
            rintro rv71 h71 ⟨q71, z71, rfl, ez71⟩
            subst h71
            replace ez71 : z71.toInt = ja h45 15 0 := ez71.trans (jso hs52 (by decide))
            show az_X P _ 163 74 ls [.int z71] _ _
            refine jx_if (t := 80) rfl rfl rfl (fun hc74 => ?_) (fun hc74 => ?_)
            · have g74 := jc1_ne_t hc74
              refine jm_aload_n (x := P.1 + 0) rfl rfl (jM_at hl 0 rfl) ?_
              refine jx_gf (i := 0) rfl rfl hH52 (by decide) (hH52.2 0 _ rfl).1 rfl (jx_rf hH52 rfl rfl) ?_
              refine az_X_call (m' := 133) (as := [.ref (P.1 + 15)]) (rest := []) rfl rfl rfl rfl rfl ?_ ?_
              · unfold si_call
                dsimp only
                rw [if_pos ⟨rfl, rfl⟩]
                show (match si_ix P h52 (P.1 + 15) with | some i => _ | none => none) = _
                rw [jix hH52 (by decide)]
                dsimp only
                rw [(hH52.2 15 _ rfl).1]
                rfl
              refine (tymany_ok hH52).mono ?_
              rintro rv84 h84 ⟨q84, z84, rfl, ez84⟩
              subst h84
              replace ez84 : z84.toInt = ja h45 15 0 := ez84.trans (jso hs52 (by decide))
              show az_X P _ 163 87 ls [.int z84] _ _
              refine az_X_step (pc' := 88) (ls' := ls) (st' := [.int 1, .int z84]) (h' := h52) rfl rfl rfl ?_
              refine jx_ic (t := 96) rfl rfl rfl (fun hc88 => ?_) (fun hc88 => ?_)
              · have g88 := jc2_le_t hc88
                refine jm_aload_n (x := P.1 + 0) rfl rfl (jM_at hl 0 rfl) ?_
                refine jx_gf (i := 0) rfl rfl hH52 (by decide) (hH52.2 0 _ rfl).1 rfl (jx_rf hH52 rfl rfl) ?_
                refine jm_aload_n (x := P.1 + 0) rfl rfl (jM_at hl 0 rfl) ?_
                refine jx_gf (i := 0) rfl rfl hH52 (by decide) (hH52.2 0 _ rfl).1 rfl (jx_rf hH52 rfl rfl) ?_
                refine az_X_call (m' := 134) (as := [.ref (P.1 + 15)]) (rest := [.ref (P.1 + 5)]) rfl rfl rfl rfl rfl ?_ ?_
                · unfold si_call
                  dsimp only
                  rw [if_pos ⟨rfl, rfl⟩]
                  show (match si_ix P h52 (P.1 + 15) with | some i => _ | none => none) = _
                  rw [jix hH52 (by decide)]
                  dsimp only
                  rw [(hH52.2 15 _ rfl).1]
                  rfl
                refine (tyfirst_ok hH52).mono ?_
                rintro rv104 h104 ⟨q104, z104, rfl, ez104⟩
                subst h104
                replace ez104 : z104.toInt = ja h45 15 1 := ez104.trans (jso hs52 (by decide))
                have bd := jhm_bd (jhp (fun i => ja h 13 i) (jF (ja h 1 0) (ja h 1 1) v.toInt (if v.toInt = 1 then 2 * ja h 1 1 else ja h 1 1)) n.toInt.toNat) (if v.toInt = 1 then 2 * ja h 1 1 else ja h 1 1).toNat
                rw [← f45.1, ← f45.2] at bd
                show az_X P _ 163 107 ls [.int z104, .ref (P.1 + 5)] _ _
                refine jm_iload_n (x := n) rfl rfl (jM_at hl 1 rfl) ?_
                refine jn_add (a := z104) (b := n) rfl rfl (by omega) (by omega) (fun z108 ez108 => ?_)
                refine az_X_step (pc' := 110) (ls' := ls) (st' := [.int 1, .int z108, .ref (P.1 + 5)]) (h' := h52) rfl rfl rfl ?_
                refine jn_sub (a := z108) (b := 1) rfl rfl (by omega) (by omega) (fun z110 ez110 => ?_)
                rw [show (1 : Int32).toInt = 1 by decide] at ez110
                refine jm_iload_n (x := v) rfl rfl (jM_at hl 2 rfl) ?_
                refine az_X_call (m' := 16) (as := [.ref (P.1 + 5), .int z110, .int v]) (rest := []) rfl rfl rfl rfl rfl ?_ ?_
                · unfold si_call
                  dsimp only
                  rw [if_pos ⟨rfl, rfl⟩]
                  show (match si_ix P h52 (P.1 + 5) with | some i => _ | none => none) = _
                  rw [jix hH52 (by decide)]
                  dsimp only
                  rw [(hH52.2 5 _ rfl).1]
                  rfl
                refine (tofm_ok hH52 z110 v hv (by omega)).mono ?_
                rintro rv112 h112 ⟨q112, z112, rfl, ez112⟩
                subst h112
                show az_X P _ 163 115 ls [.int z112] _ _
                refine jx_ret rfl rfl rfl ?_
                have bd := jhm_bd (jhp (fun i => ja h 13 i) (jF (ja h 1 0) (ja h 1 1) v.toInt (if v.toInt = 1 then 2 * ja h 1 1 else ja h 1 1)) n.toInt.toNat) (if v.toInt = 1 then 2 * ja h 1 1 else ja h 1 1).toNat
                refine ⟨z112, rfl, hH52, ((hs45.sub (by decide)).tr (hs52.sub (by decide))), Or.inl ⟨by omega, f52, ?_⟩⟩
                rw [if_neg (by omega)]
                unfold jhl
                rw [if_neg (by rw [← f45.1]; omega), if_pos (by rw [← f45.1]; omega), ez112]
                have r0 : ja h52 1 0 = ja h 1 0 := (jso hs52 (by decide)).trans (jso hs45 (by decide))
                have r1 : ja h52 1 1 = ja h 1 1 := (jso hs52 (by decide)).trans (jso hs45 (by decide))
                rw [r0, r1, show z110.toInt = (jhm (jhp (fun i => ja h 13 i) (jF (ja h 1 0) (ja h 1 1) v.toInt (if v.toInt = 1 then 2 * ja h 1 1 else ja h 1 1)) n.toInt.toNat) (if v.toInt = 1 then 2 * ja h 1 1 else ja h 1 1).toNat).2 + n.toInt - 1 by rw [← f45.2]; omega]
              · have g88 := jc2_le_f hc88
                refine az_X_step (pc' := 93) (ls' := ls) (st' := [.int (-2)]) (h' := h52) rfl rfl rfl ?_
                refine az_X_step (pc' := 115) (ls' := ls) (st' := [.int (-2)]) (h' := h52) rfl rfl rfl ?_
                refine jx_ret rfl rfl rfl ?_
                have bd := jhm_bd (jhp (fun i => ja h 13 i) (jF (ja h 1 0) (ja h 1 1) v.toInt (if v.toInt = 1 then 2 * ja h 1 1 else ja h 1 1)) n.toInt.toNat) (if v.toInt = 1 then 2 * ja h 1 1 else ja h 1 1).toNat
                refine ⟨(-2), rfl, hH52, ((hs45.sub (by decide)).tr (hs52.sub (by decide))), Or.inl ⟨by omega, f52, ?_⟩⟩
                rw [if_neg (by omega)]
                unfold jhl
                rw [if_neg (by rw [← f45.1]; omega), if_neg (by rw [← f45.1]; omega)]
                decide
            · have g74 := jc1_ne_f hc74
              refine az_X_step (pc' := 79) (ls' := ls) (st' := [.int (-4)]) (h' := h52) rfl rfl rfl ?_
              refine jx_ret rfl rfl rfl ?_
              have bd := jhm_bd (jhp (fun i => ja h 13 i) (jF (ja h 1 0) (ja h 1 1) v.toInt (if v.toInt = 1 then 2 * ja h 1 1 else ja h 1 1)) n.toInt.toNat) (if v.toInt = 1 then 2 * ja h 1 1 else ja h 1 1).toNat
              refine ⟨(-4), rfl, hH52, ((hs45.sub (by decide)).tr (hs52.sub (by decide))), Or.inl ⟨by omega, f52, ?_⟩⟩
              rw [if_neg (by omega)]
              unfold jhl
              rw [if_pos (by rw [← f45.1]; omega)]
              decide
          · have g56 := jc1_ne_f hc56
            refine jm_aload_n (x := P.1 + 0) rfl rfl (jM_at hl 0 rfl) ?_
            refine jx_gf (i := 0) rfl rfl hH52 (by decide) (hH52.2 0 _ rfl).1 rfl (jx_rf hH52 rfl rfl) ?_
            refine az_X_call (m' := 133) (as := [.ref (P.1 + 15)]) (rest := []) rfl rfl rfl rfl rfl ?_ ?_
            · unfold si_call
              dsimp only
              rw [if_pos ⟨rfl, rfl⟩]
              show (match si_ix P h52 (P.1 + 15) with | some i => _ | none => none) = _
              rw [jix hH52 (by decide)]
              dsimp only
              rw [(hH52.2 15 _ rfl).1]
              rfl
            refine (tymany_ok hH52).mono ?_
            rintro rv63 h63 ⟨q63, z63, rfl, ez63⟩
            subst h63
            replace ez63 : z63.toInt = ja h45 15 0 := ez63.trans (jso hs52 (by decide))
            show az_X P _ 163 66 ls [.int z63] _ _
            refine jx_ret rfl rfl rfl ?_
            have bd := jhm_bd (jhp (fun i => ja h 13 i) (jF (ja h 1 0) (ja h 1 1) v.toInt (if v.toInt = 1 then 2 * ja h 1 1 else ja h 1 1)) n.toInt.toNat) (if v.toInt = 1 then 2 * ja h 1 1 else ja h 1 1).toNat
            refine ⟨z63, rfl, hH52, ((hs45.sub (by decide)).tr (hs52.sub (by decide))), Or.inl ⟨by omega, f52, ?_⟩⟩
            rw [if_pos (by omega), ez63, ← f45.1]
        · have g26 := jc1_ne_f hc26
          refine az_X_step (pc' := 30) (ls' := ls) (st' := [.int (-1)]) (h' := h) rfl rfl rfl ?_
          refine jx_ret rfl rfl rfl ?_
          exact ⟨(-1), rfl, hH, az_same_out.rf, Or.inr ⟨by omega, rfl, by decide⟩⟩
theorem roctet_ok {P : si_P} {d : Nat} {h : si_H} (hH : az_HI P az_tb h) (i : Int32) (hi : 0 ≤ i.toInt ∧ i.toInt < 260) : az_X P d 239 0 (lv_args 0 [.ref (P.1 + 60), .int i]) [] h (fun rv h' => h' = h ∧ jV rv (ja h 71 i.toInt % 256)) := by
  have hl : jM [(0, .ref (P.1 + 60)), (1, .int i)] (lv_args 0 [.ref (P.1 + 60), .int i]) := jM_args [0, 1] rfl (by decide)
  generalize lv_args 0 [.ref (P.1 + 60), .int i] = ls at hl
  have k255 : (255 : Int32).toInt = 255 := by decide
  refine jm_aload_n (x := P.1 + 60) rfl rfl (jM_at hl 0 rfl) ?_
  refine jx_gf (i := 60) rfl rfl hH (by decide) (hH.2 60 _ rfl).1 rfl (jx_rf hH rfl rfl) ?_
  refine jm_iload_n (x := i) rfl rfl (jM_at hl 1 rfl) ?_
  refine jn_bal (i := 71) (x := i) rfl rfl hH (by decide) rfl (by omega) (by show _ < ((260 : Nat) : Int); omega) (fun z5 ez5 bz5 => ?_)
  refine az_X_step (pc' := 9) (ls' := ls) (st' := [.int 255, .int z5]) (h' := h) rfl rfl rfl ?_
  refine az_X_step (pc' := 10) (ls' := ls) (st' := [.int (z5 &&& 255)]) (h' := h) rfl rfl rfl ?_
  refine jx_ret rfl rfl rfl ?_
  exact ⟨rfl, _, rfl, by rw [jn_a255, ez5]⟩
theorem rhf_l {P : si_P} (hxa : P.2.1 < P.1) {d : Nat} {h : si_H} (hH : az_HI P az_tb h) {m r N : Int} {v : Int} (hN2 : 2 ≤ N ∧ N ≤ 48) (h58 : ja h 60 58 = N) (hA : ∀ i : Nat, (i : Int) < N → ja h 100 i = jst m r (jtof m v i) v) (s n : Int32) (hn : 1 ≤ n.toInt ∧ n.toInt ≤ 12) (hs0 : 0 ≤ s.toInt ∧ s.toInt ≤ 1000) : ∀ (k j : Nat) (T : Int32) (ls : si_L), jM [(3, .int T), (0, .ref (P.1 + 60)), (1, .int s), (2, .int n)] ls → T.toInt = j → (j : Int) + k = n.toInt → (∀ i : Nat, (i : Int) < j → ja h 71 i % 256 = jF m r v N (s.toInt + i)) → az_X P (d + 1) 292 2 ls [] h (fun rv h' => h' = h ∧ ∃ z : Int32, rv = some (.int z) ∧ ((z.toInt = 1 ∧ ∀ i : Nat, (i : Int) < n.toInt → ja h 71 i % 256 = jF m r v N (s.toInt + i)) ∨ (z.toInt = 0 ∧ ¬ (∀ i : Nat, (i : Int) < n.toInt → ja h 71 i % 256 = jF m r v N (s.toInt + i))))) := by
  intro k
  induction k with
  | zero =>
    intro j T ls hl eT hj hs
    have k1 : (1 : Int32).toInt = 1 := by decide
    refine jm_iload_n (x := T) rfl rfl (jM_at hl 0 rfl) ?_
    refine jm_iload_n (x := n) rfl rfl (jM_at hl 3 rfl) ?_
    refine jx_ic (t := 36) rfl rfl rfl (fun hc4 => ?_) (fun hc4 => ?_)
    · have g4 := jc2_ge_t hc4
      refine az_X_step (pc' := 37) (ls' := ls) (st' := [.int 1]) (h' := h) rfl rfl rfl ?_
      refine jx_retz rfl rfl rfl (by decide) ?_
      exact ⟨rfl, 1, rfl, Or.inl ⟨by decide, fun i hi => hs i (by omega)⟩⟩
    · have g4 := jc2_ge_f hc4
      exfalso
      omega
  | succ k ih =>
    intro j T ls hl eT hj hs
    have k0 : (0 : Int32).toInt = 0 := by decide
    have k1 : (1 : Int32).toInt = 1 := by decide
    refine jm_iload_n (x := T) rfl rfl (jM_at hl 0 rfl) ?_
    refine jm_iload_n (x := n) rfl rfl (jM_at hl 3 rfl) ?_
    refine jx_ic (t := 36) rfl rfl rfl (fun hc4 => ?_) (fun hc4 => ?_)
    · have g4 := jc2_ge_t hc4
      refine az_X_step (pc' := 37) (ls' := ls) (st' := [.int 1]) (h' := h) rfl rfl rfl ?_
      refine jx_retz rfl rfl rfl (by decide) ?_
      exfalso
      omega
    · have g4 := jc2_ge_f hc4
      refine jm_aload_n (x := P.1 + 60) rfl rfl (jM_at hl 1 rfl) ?_
      refine jx_gf (i := 60) rfl rfl hH (by decide) (hH.2 60 _ rfl).1 rfl (jx_rf hH rfl rfl) ?_
      refine jm_iload_n (x := s) rfl rfl (jM_at hl 2 rfl) ?_
      refine jm_iload_n (x := T) rfl rfl (jM_at hl 0 rfl) ?_
      refine jn_add (a := s) (b := T) rfl rfl (by omega) (by omega) (fun z13 ez13 => ?_)
      refine jm_aload_n (x := P.1 + 60) rfl rfl (jM_at hl 1 rfl) ?_
      refine jn_gf (i := 60) (k := 58) rfl rfl hH (by decide) (hH.2 60 _ rfl).1 rfl rfl (fun z15 (ez15 : z15.toInt = ja h 60 58) (bz15 : 0 ≤ z15.toInt ∧ z15.toInt ≤ 48) => ?_)
      refine jn_rem (a := z13) (b := z15) rfl rfl (by omega) (by omega) (fun z18 ez18 lz18 uz18 => ?_)
      refine jx_ial (i := 100) (x := z18) rfl rfl hxa hH (by decide) rfl (by omega) (by show _ < ((48 : Nat) : Int); omega) (fun z19 ez19 bz19 => ?_)
      refine jm_aload_n (x := P.1 + 60) rfl rfl (jM_at hl 1 rfl) ?_
      refine jm_iload_n (x := T) rfl rfl (jM_at hl 0 rfl) ?_
      refine az_X_call (m' := 239) (as := [.ref (P.1 + 60), .int T]) (rest := [.int z19]) rfl rfl rfl rfl rfl ?_ ?_
      · unfold si_call
        dsimp only
        rw [if_pos ⟨rfl, rfl⟩]
        show (match si_ix P h (P.1 + 60) with | some i => _ | none => none) = _
        rw [jix hH (by decide)]
        dsimp only
        rw [(hH.2 60 _ rfl).1]
        rfl
      refine (roctet_ok hH T (by omega)).mono ?_
      rintro rv22 h22 ⟨q22, z22, rfl, ez22⟩
      subst h22
      show az_X P _ 292 25 ls [.int z22, .int z19] _ _
      refine jx_ic (t := 30) rfl rfl rfl (fun hc25 => ?_) (fun hc25 => ?_)
      · have g25 := jc2_eq_t hc25
        refine jn_iinc (x := T) rfl rfl (by decide) (jM_at hl 0 rfl) hl rfl (by decide) (by omega) (by omega) (fun z30 (ez30 : z30.toInt = T.toInt + 1) ls30 (hl30 : jM [(3, .int z30), (0, .ref (P.1 + 60)), (1, .int s), (2, .int n)] ls30) => ?_)
        refine az_X_step (pc' := 2) (ls' := ls30) (st' := []) (h' := h) rfl rfl rfl ?_
        have ix : ja h 100 z18.toInt = jF m r v N (s.toInt + j) := by
          have q := hA z18.toInt.toNat (by omega)
          rw [Int.toNat_of_nonneg lz18, ez18, ez13, ez15, h58, eT] at q
          rw [ez18, ez13, ez15, h58, eT]
          exact q
        rw [ez19, ix, ez22, eT] at g25
        refine ih (j + 1) z30 ls30 (jM_pick hl30 [0, 1, 2, 3] rfl) (by omega) (by omega) (fun i hi => ?_)
        rcases Int.lt_or_le (i : Int) j with q | q
        · exact hs i q
        · rw [show i = j by omega]; exact g25.symm
      · have g25 := jc2_eq_f hc25
        refine az_X_step (pc' := 29) (ls' := ls) (st' := [.int 0]) (h' := h) rfl rfl rfl ?_
        refine jx_retz rfl rfl rfl (by decide) ?_
        have ix : ja h 100 z18.toInt = jF m r v N (s.toInt + j) := by
          have q := hA z18.toInt.toNat (by omega)
          rw [Int.toNat_of_nonneg lz18, ez18, ez13, ez15, h58, eT] at q
          rw [ez18, ez13, ez15, h58, eT]
          exact q
        rw [ez19, ix, ez22, eT] at g25
        exact ⟨rfl, 0, rfl, Or.inr ⟨by decide, fun q => g25 (q j (by omega)).symm⟩⟩
theorem rhf_ok {P : si_P} (hxa : P.2.1 < P.1) {d : Nat} {h : si_H} (hH : az_HI P az_tb h) {m r N : Int} {v : Int} (hN2 : 2 ≤ N ∧ N ≤ 48) (h58 : ja h 60 58 = N) (hA : ∀ i : Nat, (i : Int) < N → ja h 100 i = jst m r (jtof m v i) v) (s n : Int32) (hn : 1 ≤ n.toInt ∧ n.toInt ≤ 12) (hs0 : 0 ≤ s.toInt ∧ s.toInt ≤ 1000) : az_X P (d + 1) 292 0 (lv_args 0 [.ref (P.1 + 60), .int s, .int n]) [] h (fun rv h' => h' = h ∧ ∃ z : Int32, rv = some (.int z) ∧ ((z.toInt = 1 ∧ ∀ i : Nat, (i : Int) < n.toInt → ja h 71 i % 256 = jF m r v N (s.toInt + i)) ∨ (z.toInt = 0 ∧ ¬ (∀ i : Nat, (i : Int) < n.toInt → ja h 71 i % 256 = jF m r v N (s.toInt + i))))) := by
  have hl : jM [(0, .ref (P.1 + 60)), (1, .int s), (2, .int n)] (lv_args 0 [.ref (P.1 + 60), .int s, .int n]) := jM_args [0, 1, 2] rfl (by decide)
  generalize lv_args 0 [.ref (P.1 + 60), .int s, .int n] = ls at hl
  have k0 : (0 : Int32).toInt = 0 := by decide
  refine az_X_step (pc' := 1) (ls' := ls) (st' := [.int 0]) (h' := h) rfl rfl rfl ?_
  refine jm_istore_n (l' := [(3, .int 0), (0, .ref (P.1 + 60)), (1, .int s), (2, .int n)]) rfl rfl (by decide) hl rfl rfl (fun ls1 hl1 => ?_)
  exact rhf_l hxa hH hN2 h58 hA s n hn hs0 n.toInt.toNat 0 0 ls1 (jM_pick hl1 [0, 1, 2, 3] rfl) (by decide) (by omega) (fun i hi => absurd hi (by omega))
theorem rheard_l {P : si_P} (hxa : P.2.1 < P.1) {d : Nat} {h : si_H} (hH : az_HI P az_tb h) {m r N : Int} {v : Int} (hN2 : 2 ≤ N ∧ N ≤ 48) (h58 : ja h 60 58 = N) (hA : ∀ i : Nat, (i : Int) < N → ja h 100 i = jst m r (jtof m v i) v) (hB : ∀ i : Nat, (i : Int) < N → ja h 99 i = jtof m v i) (n b w : Int32) (hn : 1 ≤ n.toInt ∧ n.toInt ≤ 12) : ∀ (k j : Nat) (T A C : Int32) (ls : si_L), jM [(6, .int T), (5, .int A), (4, .int C), (0, .ref (P.1 + 60)), (1, .int n), (2, .int b), (3, .int w)] ls → T.toInt = j → (j : Int) + k = N → C.toInt = (jhm (jhp (fun i => ja h 71 i % 256) (jF m r v N) n.toInt.toNat) j).1 → A.toInt = jhl (fun i => jtof m v (i % N)) n.toInt (jhm (jhp (fun i => ja h 71 i % 256) (jF m r v N) n.toInt.toNat) j) → az_X P (d + 2) 293 49 ls [] h (fun rv h' => h' = h ∧ jV rv (if w.toInt = 0 then (jhm (jhp (fun i => ja h 71 i % 256) (jF m r v N) n.toInt.toNat) N.toNat).1 else jhl (fun i => jtof m v (i % N)) n.toInt (jhm (jhp (fun i => ja h 71 i % 256) (jF m r v N) n.toInt.toNat) N.toNat))) := by
  intro k
  induction k with
  | zero =>
    intro j T A C ls hl eT hj eC eA
    have k0 : (0 : Int32).toInt = 0 := by decide
    refine jm_iload (x := T) rfl rfl (jM_at hl 0 rfl) ?_
    refine jm_aload_n (x := P.1 + 60) rfl rfl (jM_at hl 3 rfl) ?_
    refine jn_gf (i := 60) (k := 58) rfl rfl hH (by decide) (hH.2 60 _ rfl).1 rfl rfl (fun z52 (ez52 : z52.toInt = ja h 60 58) (bz52 : 0 ≤ z52.toInt ∧ z52.toInt ≤ 48) => ?_)
    refine jx_ic (t := 112) rfl rfl rfl (fun hc55 => ?_) (fun hc55 => ?_)
    · have g55 := jc2_ge_t hc55
      refine jm_iload_n (x := w) rfl rfl (jM_at hl 6 rfl) ?_
      refine jx_if (t := 121) rfl rfl rfl (fun hc113 => ?_) (fun hc113 => ?_)
      · have g113 := jc1_ne_t hc113
        refine jm_iload (x := A) rfl rfl (jM_at hl 1 rfl) ?_
        refine jx_ret rfl rfl rfl ?_
        exact ⟨rfl, A, rfl, by rw [show N.toNat = j by omega, if_neg g113]; exact eA⟩
      · have g113 := jc1_ne_f hc113
        refine jm_iload (x := C) rfl rfl (jM_at hl 2 rfl) ?_
        refine az_X_step (pc' := 123) (ls' := ls) (st' := [.int C]) (h' := h) rfl rfl rfl ?_
        refine jx_ret rfl rfl rfl ?_
        exact ⟨rfl, C, rfl, by rw [show N.toNat = j by omega, if_pos g113]; exact eC⟩
    · have g55 := jc2_ge_f hc55
      exfalso
      omega
  | succ k ih =>
    intro j T A C ls hl eT hj eC eA
    have bd := jhm_bd (jhp (fun i => ja h 71 i % 256) (jF m r v N) n.toInt.toNat) j
    have pe : (jhp (fun i => ja h 71 i % 256) (jF m r v N) n.toInt.toNat) j = true ↔ (∀ i : Nat, (i : Int) < n.toInt → ja h 71 i % 256 = jF m r v N (T.toInt + i)) := by
      rw [jhp_iff]
      constructor
      · intro q i hi
        have q1 := q i (by omega)
        rw [eT]
        exact q1
      · intro q i hi
        have q1 := q i (by omega)
        rw [eT] at q1
        exact q1
    have km2 : ((-2) : Int32).toInt = (-2) := by decide
    have k0 : (0 : Int32).toInt = 0 := by decide
    have k1 : (1 : Int32).toInt = 1 := by decide
    refine jm_iload (x := T) rfl rfl (jM_at hl 0 rfl) ?_
    refine jm_aload_n (x := P.1 + 60) rfl rfl (jM_at hl 3 rfl) ?_
    refine jn_gf (i := 60) (k := 58) rfl rfl hH (by decide) (hH.2 60 _ rfl).1 rfl rfl (fun z52 (ez52 : z52.toInt = ja h 60 58) (bz52 : 0 ≤ z52.toInt ∧ z52.toInt ≤ 48) => ?_)
    refine jx_ic (t := 112) rfl rfl rfl (fun hc55 => ?_) (fun hc55 => ?_)
    · have g55 := jc2_ge_t hc55
      refine jm_iload_n (x := w) rfl rfl (jM_at hl 6 rfl) ?_
      refine jx_if (t := 121) rfl rfl rfl (fun hc113 => ?_) (fun hc113 => ?_)
      · have g113 := jc1_ne_t hc113
        refine jm_iload (x := A) rfl rfl (jM_at hl 1 rfl) ?_
        refine jx_ret rfl rfl rfl ?_
        exfalso
        omega
      · have g113 := jc1_ne_f hc113
        refine jm_iload (x := C) rfl rfl (jM_at hl 2 rfl) ?_
        refine az_X_step (pc' := 123) (ls' := ls) (st' := [.int C]) (h' := h) rfl rfl rfl ?_
        refine jx_ret rfl rfl rfl ?_
        exfalso
        omega
    · have g55 := jc2_ge_f hc55
      refine jm_aload_n (x := P.1 + 60) rfl rfl (jM_at hl 3 rfl) ?_
      refine jm_iload (x := T) rfl rfl (jM_at hl 0 rfl) ?_
      refine jm_iload_n (x := n) rfl rfl (jM_at hl 4 rfl) ?_
      refine az_X_call (m' := 292) (as := [.ref (P.1 + 60), .int T, .int n]) (rest := []) rfl rfl rfl rfl rfl ?_ ?_
      · unfold si_call
        dsimp only
        rw [if_pos ⟨rfl, rfl⟩]
        show (match si_ix P h (P.1 + 60) with | some i => _ | none => none) = _
        rw [jix hH (by decide)]
        dsimp only
        rw [(hH.2 60 _ rfl).1]
        rfl
      refine (rhf_ok hxa hH hN2 h58 hA T n hn (by omega)).mono ?_
      rintro rv62 h62 ⟨q62, z62, rfl, ez62⟩
      subst h62
      show az_X P _ 293 65 ls [.int z62] _ _
      refine jx_if (t := 71) rfl rfl rfl (fun hc65 => ?_) (fun hc65 => ?_)
      · have g65 := jc1_ne_t hc65
        refine jm_iload (x := C) rfl rfl (jM_at hl 2 rfl) ?_
        refine az_X_step (pc' := 74) (ls' := ls) (st' := [.int 1, .int C]) (h' := h) rfl rfl rfl ?_
        refine jn_add (a := C) (b := 1) rfl rfl (by omega) (by omega) (fun z74 ez74 => ?_)
        rw [show (1 : Int32).toInt = 1 by decide] at ez74
        refine jm_istore (l' := [(4, .int z74), (6, .int T), (5, .int A), (0, .ref (P.1 + 60)), (1, .int n), (2, .int b), (3, .int w)]) rfl rfl (by decide) hl rfl rfl (fun ls75 hl75 => ?_)
        refine jm_iload (x := z74) rfl rfl (jM_at hl75 0 rfl) ?_
        refine az_X_step (pc' := 80) (ls' := ls75) (st' := [.int 1, .int z74]) (h' := h) rfl rfl rfl ?_
        refine jx_ic (t := 88) rfl rfl rfl (fun hc80 => ?_) (fun hc80 => ?_)
        · have g80 := jc2_le_t hc80
          refine jm_aload_n (x := P.1 + 60) rfl rfl (jM_at hl75 3 rfl) ?_
          refine jx_gf (i := 60) rfl rfl hH (by decide) (hH.2 60 _ rfl).1 rfl (jx_rf hH rfl rfl) ?_
          refine jm_iload (x := T) rfl rfl (jM_at hl75 1 rfl) ?_
          refine jm_iload_n (x := n) rfl rfl (jM_at hl75 4 rfl) ?_
          refine jn_add (a := T) (b := n) rfl rfl (by omega) (by omega) (fun z95 ez95 => ?_)
          refine az_X_step (pc' := 97) (ls' := ls75) (st' := [.int 1, .int z95, .ref (P.1 + 99)]) (h' := h) rfl rfl rfl ?_
          refine jn_sub (a := z95) (b := 1) rfl rfl (by omega) (by omega) (fun z97 ez97 => ?_)
          rw [show (1 : Int32).toInt = 1 by decide] at ez97
          refine jm_aload_n (x := P.1 + 60) rfl rfl (jM_at hl75 3 rfl) ?_
          refine jn_gf (i := 60) (k := 58) rfl rfl hH (by decide) (hH.2 60 _ rfl).1 rfl rfl (fun z99 (ez99 : z99.toInt = ja h 60 58) (bz99 : 0 ≤ z99.toInt ∧ z99.toInt ≤ 48) => ?_)
          refine jn_rem (a := z97) (b := z99) rfl rfl (by omega) (by omega) (fun z102 ez102 lz102 uz102 => ?_)
          refine jx_ial (i := 99) (x := z102) rfl rfl hxa hH (by decide) rfl (by omega) (by show _ < ((48 : Nat) : Int); omega) (fun z103 ez103 bz103 => ?_)
          refine jm_istore (l' := [(5, .int z103), (4, .int z74), (6, .int T), (0, .ref (P.1 + 60)), (1, .int n), (2, .int b), (3, .int w)]) rfl rfl (by decide) hl75 rfl rfl (fun ls104 hl104 => ?_)
          refine jn_iinc (x := T) rfl rfl (by decide) (jM_at hl104 2 rfl) hl104 rfl (by decide) (by omega) (by omega) (fun z106 (ez106 : z106.toInt = T.toInt + 1) ls106 (hl106 : jM [(6, .int z106), (5, .int z103), (4, .int z74), (0, .ref (P.1 + 60)), (1, .int n), (2, .int b), (3, .int w)] ls106) => ?_)
          refine az_X_step (pc' := 49) (ls' := ls106) (st' := []) (h' := h) rfl rfl rfl ?_
          have np : (jhp (fun i => ja h 71 i % 256) (jF m r v N) n.toInt.toNat) j = true := by
            rw [pe]
            rcases ez62 with ⟨-, q⟩ | ⟨q, -⟩
            · exact q
            · exact absurd q g65
          refine ih (j + 1) z106 z103 z74 ls106 (jM_pick hl106 [0, 1, 2, 3, 4, 5, 6] rfl) (by omega) (by omega) (by rw [jhm_t np]; show _ = (jhm (jhp (fun i => ja h 71 i % 256) (jF m r v N) n.toInt.toNat) j).1 + 1; omega) ?_
          rw [jhm_t np]
          unfold jhl
          dsimp only
          rw [if_neg (by omega)]
          rw [if_pos (by omega), if_pos (by omega)]
          have q := hB z102.toInt.toNat (by omega)
          rw [Int.toNat_of_nonneg lz102] at q
          rw [ez103, q, ez102, ez99, h58, show z97.toInt = (j : Int) + n.toInt - 1 by omega]
        · have g80 := jc2_le_f hc80
          refine az_X_step (pc' := 85) (ls' := ls75) (st' := [.int (-2)]) (h' := h) rfl rfl rfl ?_
          refine az_X_step (pc' := 104) (ls' := ls75) (st' := [.int (-2)]) (h' := h) rfl rfl rfl ?_
          refine jm_istore (l' := [(5, .int (-2)), (4, .int z74), (6, .int T), (0, .ref (P.1 + 60)), (1, .int n), (2, .int b), (3, .int w)]) rfl rfl (by decide) hl75 rfl rfl (fun ls104 hl104 => ?_)
          refine jn_iinc (x := T) rfl rfl (by decide) (jM_at hl104 2 rfl) hl104 rfl (by decide) (by omega) (by omega) (fun z106 (ez106 : z106.toInt = T.toInt + 1) ls106 (hl106 : jM [(6, .int z106), (5, .int (-2)), (4, .int z74), (0, .ref (P.1 + 60)), (1, .int n), (2, .int b), (3, .int w)] ls106) => ?_)
          refine az_X_step (pc' := 49) (ls' := ls106) (st' := []) (h' := h) rfl rfl rfl ?_
          have np : (jhp (fun i => ja h 71 i % 256) (jF m r v N) n.toInt.toNat) j = true := by
            rw [pe]
            rcases ez62 with ⟨-, q⟩ | ⟨q, -⟩
            · exact q
            · exact absurd q g65
          refine ih (j + 1) z106 (-2) z74 ls106 (jM_pick hl106 [0, 1, 2, 3, 4, 5, 6] rfl) (by omega) (by omega) (by rw [jhm_t np]; show _ = (jhm (jhp (fun i => ja h 71 i % 256) (jF m r v N) n.toInt.toNat) j).1 + 1; omega) ?_
          rw [jhm_t np]
          unfold jhl
          dsimp only
          rw [if_neg (by omega)]
          rw [if_neg (by omega)]
          decide
      · have g65 := jc1_ne_f hc65
        refine az_X_step (pc' := 106) (ls' := ls) (st' := []) (h' := h) rfl rfl rfl ?_
        refine jn_iinc (x := T) rfl rfl (by decide) (jM_at hl 0 rfl) hl rfl (by decide) (by omega) (by omega) (fun z106 (ez106 : z106.toInt = T.toInt + 1) ls106 (hl106 : jM [(6, .int z106), (5, .int A), (4, .int C), (0, .ref (P.1 + 60)), (1, .int n), (2, .int b), (3, .int w)] ls106) => ?_)
        refine az_X_step (pc' := 49) (ls' := ls106) (st' := []) (h' := h) rfl rfl rfl ?_
        have np : ¬ (jhp (fun i => ja h 71 i % 256) (jF m r v N) n.toInt.toNat) j = true := by
          rw [pe]
          rcases ez62 with ⟨q, -⟩ | ⟨-, q⟩
          · exact absurd g65 (by omega)
          · exact q
        exact ih (j + 1) z106 A C ls106 (jM_pick hl106 [0, 1, 2, 3, 4, 5, 6] rfl) (by omega) (by omega) (by rw [eC, jhm_f np]) (by rw [eA, jhm_f np])
theorem heard1_ok {P : si_P} (hxa : P.2.1 < P.1) {d : Nat} (hd : 6 ≤ d) {h : si_H} (hH : az_HI P az_tb h) (hJ : js_J h) (n v w : Int32) (hv : v = 0 ∨ v = 1) : az_X P (d + 2) 293 0 (lv_args 0 [.ref (P.1 + 60), .int n, .int v, .int w]) [] h (fun rv h' => ∃ z : Int32, rv = some (.int z) ∧ az_HI P az_tb h' ∧ az_same_out ((60, 16) :: jm_sk) h h' ∧ (((1 ≤ n.toInt ∧ n.toInt ≤ 12 ∧ 0 ≤ w.toInt ∧ w.toInt ≤ 1 ∧ n.toInt ≤ ja h 60 16) ∧ ja h' 60 16 = 0 ∧ z.toInt = (if w.toInt = 0 then (jhm (jhp (fun i => ja h 71 i % 256) (jF (ja h 60 7) (ja h 60 8) v.toInt (if v.toInt = 1 then 2 * ja h 60 8 else ja h 60 8)) n.toInt.toNat) (if v.toInt = 1 then 2 * ja h 60 8 else ja h 60 8).toNat).1 else jhl (fun i => jtof (ja h 60 7) v.toInt (i % (if v.toInt = 1 then 2 * ja h 60 8 else ja h 60 8))) n.toInt (jhm (jhp (fun i => ja h 71 i % 256) (jF (ja h 60 7) (ja h 60 8) v.toInt (if v.toInt = 1 then 2 * ja h 60 8 else ja h 60 8)) n.toInt.toNat) (if v.toInt = 1 then 2 * ja h 60 8 else ja h 60 8).toNat))) ∨ (¬ (1 ≤ n.toInt ∧ n.toInt ≤ 12 ∧ 0 ≤ w.toInt ∧ w.toInt ≤ 1 ∧ n.toInt ≤ ja h 60 16) ∧ ja h' 60 16 = ja h 60 16 ∧ z.toInt = -1))) := by
  obtain ⟨b1, b2, b3⟩ := dial_bd hH
  have hl : jM [(0, .ref (P.1 + 60)), (1, .int n), (2, .int v), (3, .int w)] (lv_args 0 [.ref (P.1 + 60), .int n, .int v, .int w]) := jM_args [0, 1, 2, 3] rfl (by decide)
  generalize lv_args 0 [.ref (P.1 + 60), .int n, .int v, .int w] = ls at hl
  have km4 : ((-4) : Int32).toInt = (-4) := by decide
  have km1 : ((-1) : Int32).toInt = (-1) := by decide
  have k0 : (0 : Int32).toInt = 0 := by decide
  have k1 : (1 : Int32).toInt = 1 := by decide
  have k12 : (12 : Int32).toInt = 12 := by decide
  refine jm_iload_n (x := n) rfl rfl (jM_at hl 1 rfl) ?_
  refine az_X_step (pc' := 2) (ls' := ls) (st' := [.int 1, .int n]) (h' := h) rfl rfl rfl ?_
  refine az_X_step (pc' := 4) (ls' := ls) (st' := [.int 12, .int 1, .int n]) (h' := h) rfl rfl rfl ?_
  refine az_X_call (m' := 202) (as := [.int n, .int 1, .int 12]) (rest := []) rfl rfl rfl rfl rfl rfl ?_
  refine (rin_ok n 1 12).mono ?_
  rintro rv4 h4 ⟨q4, z4, rfl, ez4⟩
  subst h4
  show az_X P _ 293 7 ls [.int z4] _ _
  refine jx_if (t := 27) rfl rfl rfl (fun hc7 => ?_) (fun hc7 => ?_)
  · have g7 := jc1_eq_t hc7
    refine az_X_step (pc' := 28) (ls' := ls) (st' := [.int (-1)]) (h' := h) rfl rfl rfl ?_
    refine jx_ret rfl rfl rfl ?_
    exact ⟨(-1), rfl, hH, az_same_out.rf, Or.inr ⟨by omega, rfl, by decide⟩⟩
  · have g7 := jc1_eq_f hc7
    refine jm_iload_n (x := w) rfl rfl (jM_at hl 3 rfl) ?_
    refine az_X_step (pc' := 12) (ls' := ls) (st' := [.int 0, .int w]) (h' := h) rfl rfl rfl ?_
    refine az_X_step (pc' := 13) (ls' := ls) (st' := [.int 1, .int 0, .int w]) (h' := h) rfl rfl rfl ?_
    refine az_X_call (m' := 202) (as := [.int w, .int 0, .int 1]) (rest := []) rfl rfl rfl rfl rfl rfl ?_
    refine (rin_ok w 0 1).mono ?_
    rintro rv13 h13 ⟨q13, z13, rfl, ez13⟩
    subst h13
    show az_X P _ 293 16 ls [.int z13] _ _
    refine jx_if (t := 27) rfl rfl rfl (fun hc16 => ?_) (fun hc16 => ?_)
    · have g16 := jc1_eq_t hc16
      refine az_X_step (pc' := 28) (ls' := ls) (st' := [.int (-1)]) (h' := h) rfl rfl rfl ?_
      refine jx_ret rfl rfl rfl ?_
      exact ⟨(-1), rfl, hH, az_same_out.rf, Or.inr ⟨by omega, rfl, by decide⟩⟩
    · have g16 := jc1_eq_f hc16
      refine jm_iload_n (x := n) rfl rfl (jM_at hl 1 rfl) ?_
      refine jm_aload_n (x := P.1 + 60) rfl rfl (jM_at hl 0 rfl) ?_
      refine jn_gf (i := 60) (k := 16) rfl rfl hH (by decide) (hH.2 60 _ rfl).1 rfl rfl (fun z21 (ez21 : z21.toInt = ja h 60 16) (bz21 : 0 ≤ z21.toInt ∧ z21.toInt ≤ 260) => ?_)
      refine jx_ic (t := 29) rfl rfl rfl (fun hc24 => ?_) (fun hc24 => ?_)
      · have g24 := jc2_le_t hc24
        refine jm_aload_n (x := P.1 + 60) rfl rfl (jM_at hl 0 rfl) ?_
        refine az_X_step (pc' := 31) (ls' := ls) (st' := [.int 0, .ref (P.1 + 60)]) (h' := h) rfl rfl rfl ?_
        refine jn_pf (i := 60) (k := 16) (x := 0) rfl rfl hH (by decide) rfl (hH.2 60 _ rfl).1 rfl rfl (by decide) (by decide) (by show 0 ≤ _; omega) (by show _ ≤ 260; omega) (fun h31 hH31 hs31 (t31 : ja h31 60 16 = (0 : Int32).toInt) => ?_)
        replace t31 : ja h31 60 16 = 0 := t31.trans (by decide)
        refine jm_aload_n (x := P.1 + 60) rfl rfl (jM_at hl 0 rfl) ?_
        refine jm_iload_n (x := v) rfl rfl (jM_at hl 2 rfl) ?_
        refine az_X_call (m' := 289) (as := [.ref (P.1 + 60), .int v]) (rest := []) rfl rfl rfl rfl rfl ?_ ?_
        · unfold si_call
          dsimp only
          rw [if_pos ⟨rfl, rfl⟩]
          show (match si_ix P h31 (P.1 + 60) with | some i => _ | none => none) = _
          rw [jix hH31 (by decide)]
          dsimp only
          rw [(hH31.2 60 _ rfl).1]
          rfl
        refine ((lays2_ok hxa (by omega) hH31 ⟨js_1_so hs31 (by decide) (by decide) (by decide) (by decide) hJ.1, js_2_so hs31 (by decide) (by decide) (by decide) (by decide) (by decide) hJ.2⟩ v hv).and4 (lays3_ok hxa (by omega) hH31 ⟨js_1_so hs31 (by decide) (by decide) (by decide) (by decide) hJ.1, js_2_so hs31 (by decide) (by decide) (by decide) (by decide) (by decide) hJ.2⟩ v hv)).mono ?_
        rintro rv36 h36 ⟨rfl, hH36, hs36, f36⟩
        show az_X P _ 293 39 ls [] _ _
        refine az_X_step (pc' := 40) (ls' := ls) (st' := [.int 0]) (h' := h36) rfl rfl rfl ?_
        refine jm_istore (l' := [(4, .int 0), (0, .ref (P.1 + 60)), (1, .int n), (2, .int v), (3, .int w)]) rfl rfl (by decide) hl rfl rfl (fun ls40 hl40 => ?_)
        refine az_X_step (pc' := 44) (ls' := ls40) (st' := [.int (-4)]) (h' := h36) rfl rfl rfl ?_
        refine jm_istore (l' := [(5, .int (-4)), (4, .int 0), (0, .ref (P.1 + 60)), (1, .int n), (2, .int v), (3, .int w)]) rfl rfl (by decide) hl40 rfl rfl (fun ls44 hl44 => ?_)
        refine az_X_step (pc' := 47) (ls' := ls44) (st' := [.int 0]) (h' := h36) rfl rfl rfl ?_
        refine jm_istore (l' := [(6, .int 0), (5, .int (-4)), (4, .int 0), (0, .ref (P.1 + 60)), (1, .int n), (2, .int v), (3, .int w)]) rfl rfl (by decide) hl44 rfl rfl (fun ls47 hl47 => ?_)
        have s2 : js_J h31 := ⟨js_1_so hs31 (by decide) (by decide) (by decide) (by decide) hJ.1, js_2_so hs31 (by decide) (by decide) (by decide) (by decide) (by decide) hJ.2⟩
        obtain ⟨⟨f1, f2⟩, f3, f4⟩ := f36
        have r7 : ja h31 60 7 = ja h 60 7 := jso hs31 (by decide)
        have r8 : ja h31 60 8 = ja h 60 8 := jso hs31 (by decide)
        rw [r8] at f1
        have N0 : 2 ≤ (if v.toInt = 1 then 2 * ja h 60 8 else ja h 60 8) ∧ (if v.toInt = 1 then 2 * ja h 60 8 else ja h 60 8) ≤ 48 := by split <;> omega
        rw [f1] at f2 f4
        rw [r7, r8] at f4
        rw [r7] at f2
        have eA : (fun i : Nat => ja h36 71 i % 256) = (fun i : Nat => ja h 71 i % 256) := funext (fun i => by rw [jso_row (i := 71) hs36 (by decide) i, jso_row (i := 71) hs31 (by decide) i])
        refine (rheard_l hxa hH36 (m := ja h 60 7) (r := ja h 60 8) (v := v.toInt) N0 f1 f4 f2 n v w (by omega) (if v.toInt = 1 then 2 * ja h 60 8 else ja h 60 8).toNat 0 0 (-4) 0 ls47 (jM_pick hl47 [0, 1, 2, 3, 4, 5, 6] rfl) (by decide) (by omega) (by show _ = (0 : Int); decide) (by unfold jhl; rw [if_pos (show (jhm _ 0).1 = 0 from rfl)]; decide)).mono ?_
        rintro rv h9 ⟨q1, z, q2, q3⟩
        subst q1
        rw [eA] at q3
        exact ⟨z, q2, hH36, (hs31.sub (by decide)).tr (hs36.sub (by decide)), Or.inl ⟨by omega, (jso hs36 (by decide)).trans t31, q3⟩⟩
      · have g24 := jc2_le_f hc24
        refine az_X_step (pc' := 28) (ls' := ls) (st' := [.int (-1)]) (h' := h) rfl rfl rfl ?_
        refine jx_ret rfl rfl rfl ?_
        exact ⟨(-1), rfl, hH, az_same_out.rf, Or.inr ⟨by omega, rfl, by decide⟩⟩
