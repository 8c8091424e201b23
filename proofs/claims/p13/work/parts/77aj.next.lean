set_option maxRecDepth 100000
/-! READS, GLANCE -/
/-- the next that looks so -/
def jna (m r : Int) (y : Nat) (t z : Int) : Prop := ∃ k : Nat, 1 ≤ k ∧ k ≤ y ∧ z = (t + k) % (y : Int) ∧ jlk m r ((t + k) % (y : Int)) = jlk m r t ∧ ∀ j : Nat, 1 ≤ j → j < k → jlk m r ((t + j) % (y : Int)) ≠ jlk m r t
theorem jna_un {m r : Int} {y : Nat} {t z u : Int} (h1 : jna m r y t z) (h2 : jna m r y t u) : z = u := by
  obtain ⟨k, a1, a2, a3, a4, a5⟩ := h1
  obtain ⟨l, b1, b2, b3, b4, b5⟩ := h2
  rcases Nat.lt_trichotomy k l with c | c | c
  · exact absurd a4 (b5 k a1 c)
  · subst c
    rw [a3, b3]
  · exact absurd b4 (a5 l b1 c)
theorem jaddy {y : Nat} {t : Int} (ht : 0 ≤ t ∧ t < y) : (t + (y : Int)) % (y : Int) = t := by
  rw [show t + (y : Int) = t + (y : Int) * 1 by omega, Int.add_mul_emod_self_left, Int.emod_eq_of_lt ht.1 ht.2]
theorem jna_mk {m r : Int} {y : Nat} {t N : Int} (hy : 1 ≤ y) (ht : 0 ≤ t ∧ t < y) (n1 : 1 ≤ N ∧ N ≤ y) (h1 : N = y ∨ ∃ u : Nat, u < y ∧ jlk m r u = jlk m r t ∧ N = 1 + ((u : Int) - t - 1) % (y : Int)) (h2 : ∀ u : Nat, u < y → jlk m r u = jlk m r t → N ≤ 1 + ((u : Int) - t - 1) % (y : Int)) : jna m r y t ((t + N) % (y : Int)) := by
  refine ⟨N.toNat, by omega, by omega, by rw [Int.toNat_of_nonneg (by omega)], ?_, fun j j1 j2 hj => ?_⟩
  · rw [Int.toNat_of_nonneg (by omega)]
    rcases h1 with h1 | ⟨u, u1, u2, u3⟩
    · rw [h1, jaddy ht]
    · have e := Int.mul_ediv_add_emod ((u : Int) - t - 1) (y : Int)
      rw [u3, show t + (1 + ((u : Int) - t - 1) % (y : Int)) = u - (y : Int) * (((u : Int) - t - 1) / (y : Int)) by omega, Int.sub_mul_emod_self_left, Int.emod_eq_of_lt (by omega) (by omega)]
      exact u2
  · have b0 := Int.emod_nonneg (t + (j : Int)) (b := (y : Int)) (by omega)
    have b1 := Int.emod_lt_of_pos (t + (j : Int)) (b := (y : Int)) (by omega)
    have e := Int.mul_ediv_add_emod (t + (j : Int)) (y : Int)
    have q := h2 ((t + (j : Int)) % (y : Int)).toNat (by omega) (by rw [Int.toNat_of_nonneg b0]; exact hj)
    rw [Int.toNat_of_nonneg b0, show (t + (j : Int)) % (y : Int) - t - 1 = ((j : Int) - 1) - (y : Int) * ((t + (j : Int)) / (y : Int)) by omega, Int.sub_mul_emod_self_left, Int.emod_eq_of_lt (by omega) (by omega)] at q
    omega
theorem jfs_or {p q : Nat → Prop} {y : Nat} {a b : Int} (h1 : jfs p y a) (h2 : jfs q y b) : jfs (fun t => p t ∨ q t) y (if a < 0 ∨ b < 0 then max a b else min a b) := by
  rcases h1 with ⟨t, a1, a2, a3, a4⟩ | ⟨a1, a2⟩ <;> rcases h2 with ⟨u, b1, b2, b3, b4⟩ | ⟨b1, b2⟩
  · rw [if_neg (by omega)]
    rcases Nat.le_total t u with c | c
    · exact Or.inl ⟨t, a1, by omega, Or.inl a3, fun j hj hq => hq.elim (a4 j hj) (b4 j (by omega))⟩
    · exact Or.inl ⟨u, b1, by omega, Or.inr b3, fun j hj hq => hq.elim (a4 j (by omega)) (b4 j hj)⟩
  · rw [if_pos (by omega)]
    exact Or.inl ⟨t, a1, by omega, Or.inl a3, fun j hj hq => hq.elim (a4 j hj) (b2 j (by omega))⟩
  · rw [if_pos (by omega)]
    exact Or.inl ⟨u, b1, by omega, Or.inr b3, fun j hj hq => hq.elim (a2 j (by omega)) (b4 j hj)⟩
  · rw [if_pos (by omega)]
    exact Or.inr ⟨by omega, fun j hj hq => hq.elim (a2 j hj) (b2 j hj)⟩
theorem jfs_cg {p q : Nat → Prop} {y : Nat} {z : Int} (hpq : ∀ t : Nat, t < y → (p t ↔ q t)) (h : jfs p y z) : jfs q y z := by
  rcases h with ⟨t, a1, a2, a3, a4⟩ | ⟨a1, a2⟩
  · exact Or.inl ⟨t, a1, a2, (hpq t a1).mp a3, fun j hj hq => a4 j hj ((hpq j (by omega)).mpr hq)⟩
  · exact Or.inr ⟨a1, fun j hj hq => a2 j hj ((hpq j hj).mpr hq)⟩
theorem jlA_fs {m r t : Int} {y : Nat} (hm : 4 ≤ m ∧ m ≤ 60) (hr : 2 ≤ r ∧ r ≤ 24) (hy : m * r = y) : jfs (fun u : Nat => jlk m r u = jmL m r t) y (jlA m r ((m - t / r) % m) ((m - t % m) % m)) := by
  have d1 := jmdd (x := t / r) hm.1
  have d2 := jmdd (x := t % m) hm.1
  have q1 := jlw_fs0 hm hr hy d1.1 d1.2 d2.1 d2.2
  have q2 := jlw_fs0 hm hr hy d2.1 d2.2 d1.1 d1.2
  refine jfs_cg (fun u hu => ?_) (jfs_or q1 q2)
  have d := jdm (m := m) (r := r) (a := (u : Int)) hm hr (by omega) (by rw [hy]; omega)
  exact (jlk_so hm.2 d d1 d2).symm
/-- the shorter way between the hands -/
def jas (m r t : Int) : Int := min ((t % m - t / r) % m) (m - (t % m - t / r) % m)
theorem jneg {X m : Int} (hm : 1 ≤ m) : min (X % m) ((-X) % m) = min (X % m) (m - X % m) := by
  have e := Int.mul_ediv_add_emod X m
  have b0 := Int.emod_nonneg X (b := m) (by omega)
  have b1 := Int.emod_lt_of_pos X (b := m) (by omega)
  by_cases c : X % m = 0
  · have u := (Int.ediv_emod_unique (a := -X) (b := m) (r := 0) (q := -(X / m)) (by omega)).mpr ⟨by rw [Int.mul_neg]; omega, by omega, by omega⟩
    rw [u.2]
    omega
  · have u := (Int.ediv_emod_unique (a := -X) (b := m) (r := m - X % m) (q := -(X / m) - 1) (by omega)).mpr ⟨by rw [Int.mul_sub, Int.mul_neg, Int.mul_one]; omega, by omega, by omega⟩
    rw [u.2]
/-- what reads answers -/
def jre (m r : Int) (y : Nat) (t w z : Int) : Prop := (¬ (0 ≤ t ∧ t < y) ∧ z = -1) ∨ ((0 ≤ t ∧ t < y) ∧ ((w = 0 ∧ z = t / r) ∨ (w = 1 ∧ z = t % m) ∨ (w = 2 ∧ z = jam m r y (jlk m r t)) ∨ (w = 3 ∧ jna m r y t z) ∨ (w = 4 ∧ jfs (fun u : Nat => jlk m r u = jmL m r t) y z) ∨ (w = 5 ∧ z = jas m r t) ∨ ((w < 0 ∨ 5 < w) ∧ z = -1)))
theorem jre_un {m r : Int} {y : Nat} {t w z u : Int} (h1 : jre m r y t w z) (h2 : jre m r y t w u) : z = u := by
  rcases h1 with ⟨a, b⟩ | ⟨a, h1⟩ <;> rcases h2 with ⟨c, e⟩ | ⟨c, h2⟩
  · rw [b, e]
  · exact absurd c a
  · exact absurd a c
  · rcases h1 with ⟨a, b⟩ | ⟨a, b⟩ | ⟨a, b⟩ | ⟨a, b⟩ | ⟨a, b⟩ | ⟨a, b⟩ | ⟨a, b⟩ <;> rcases h2 with ⟨c, e⟩ | ⟨c, e⟩ | ⟨c, e⟩ | ⟨c, e⟩ | ⟨c, e⟩ | ⟨c, e⟩ | ⟨c, e⟩ <;> first
      | exact jna_un b e
      | exact jfs_un b e
      | exact b.trans e.symm
      | (exfalso
         omega)
/-- so many ticks later none that looked so looks so again -/
def jte (m r : Int) (y : Nat) (t k : Int) : Prop := ∀ u : Nat, u < y → (u : Int) ≠ t → jlk m r u = jlk m r t → jlk m r (((u : Int) + k) % (y : Int)) ≠ jlk m r ((t + k) % (y : Int))
def jf1 (p : Nat → Prop) (y : Nat) (z : Int) : Prop := (∃ k : Nat, 1 ≤ k ∧ k < y ∧ z = k ∧ p k ∧ ∀ j : Nat, 1 ≤ j → j < k → ¬ p j) ∨ (z = -2 ∧ ∀ j : Nat, 1 ≤ j → j < y → ¬ p j)
theorem jf1_un {p : Nat → Prop} {y : Nat} {z w : Int} (h1 : jf1 p y z) (h2 : jf1 p y w) : z = w := by
  rcases h1 with ⟨t, a0, a1, a2, a3, a4⟩ | ⟨a1, a2⟩ <;> rcases h2 with ⟨u, b0, b1, b2, b3, b4⟩ | ⟨b1, b2⟩
  · rcases Nat.lt_trichotomy t u with e | e | e
    · exact absurd a3 (b4 t a0 e)
    · omega
    · exact absurd b3 (a4 u b0 e)
  · exact absurd a3 (b2 t a0 a1)
  · exact absurd b3 (a2 u b0 b1)
  · omega
def jgl (m r : Int) (y : Nat) (t z : Int) : Prop := (¬ (0 ≤ t ∧ t < y) ∧ z = -1) ∨ ((0 ≤ t ∧ t < y) ∧ jf1 (fun k : Nat => jte m r y t k) y z)
theorem jgl_un {m r : Int} {y : Nat} {t z u : Int} (h1 : jgl m r y t z) (h2 : jgl m r y t u) : z = u := by
  rcases h1 with ⟨a, b⟩ | ⟨a, b⟩ <;> rcases h2 with ⟨c, e⟩ | ⟨c, e⟩
  · rw [b, e]
  · exact absurd c a
  · exact absurd a c
  · exact jf1_un b e
theorem jsh {y : Nat} {u t k : Int} (hu : 0 ≤ u ∧ u < y) (ht : 0 ≤ t ∧ t < y) : (u + k) % (y : Int) = (t + k) % (y : Int) ↔ u = t := by
  constructor
  · intro h
    have e := Int.emod_eq_emod_iff_emod_sub_eq_zero.mp h
    rw [show u + k - (t + k) = u - t by omega] at e
    have f := Int.mul_ediv_add_emod (u - t) (y : Int)
    rw [e, Int.add_zero] at f
    rcases Int.lt_trichotomy ((u - t) / (y : Int)) 0 with c | c | c
    · have := Int.mul_le_mul_of_nonneg_left (show (u - t) / (y : Int) ≤ -1 by omega) (show (0 : Int) ≤ y by omega)
      rw [Int.mul_neg, Int.mul_one] at this
      omega
    · rw [c, Int.mul_zero] at f
      omega
    · have := Int.mul_le_mul_of_nonneg_left (show 1 ≤ (u - t) / (y : Int) by omega) (show (0 : Int) ≤ y by omega)
      rw [Int.mul_one] at this
      omega
  · intro h
    rw [h]
theorem cnext_l {P : si_P} (hxa : P.2.1 < P.1) {d : Nat} {h : si_H} (hH : az_HI P az_tb h) (t K : Int32) (ht : 0 ≤ t.toInt ∧ t.toInt < ja h 1 0 * ja h 1 1) (hK : jLA h (ja h 1 0) (ja h 1 1) (jlk (ja h 1 0) (ja h 1 1) t.toInt) K.toInt) : ∀ (k j : Nat) (T N : Int32) (ls : si_L), jM [(4, .int T), (3, .int N), (2, .int K), (0, .ref (P.1 + 3)), (1, .int t)] ls → T.toInt = j → (j : Int) + k = K.toInt → (1 ≤ N.toInt ∧ N.toInt ≤ (((ja h 1 0 * ja h 1 1).toNat : Nat) : Int)) → (N.toInt = (((ja h 1 0 * ja h 1 1).toNat : Nat) : Int) ∨ ∃ u : Nat, u < (ja h 1 0 * ja h 1 1).toNat ∧ jlk (ja h 1 0) (ja h 1 1) u = jlk (ja h 1 0) (ja h 1 1) t.toInt ∧ N.toInt = 1 + ((u : Int) - t.toInt - 1) % (((ja h 1 0 * ja h 1 1).toNat : Nat) : Int)) → (∀ i : Nat, i < j → N.toInt ≤ 1 + (ja h 4 i - t.toInt - 1) % (((ja h 1 0 * ja h 1 1).toNat : Nat) : Int)) → az_X P (d + 2) 107 17 ls [] h (fun rv h' => h' = h ∧ ∃ z : Int32, rv = some (.int z) ∧ jna (ja h 1 0) (ja h 1 1) (ja h 1 0 * ja h 1 1).toNat t.toInt z.toInt) := by
  have bm : 4 ≤ ja h 1 0 ∧ ja h 1 0 ≤ 60 := ja_bd hH (i := 1) (k := 0) rfl
  have br : 2 ≤ ja h 1 1 ∧ ja h 1 1 ≤ 24 := ja_bd hH (i := 1) (k := 1) rfl
  have bp := nm_mulnn (a := 4) (b := 60) (c := 2) (d := 24) (x := ja h 1 0) (y := ja h 1 1) (by decide) (by decide) bm.1 bm.2 br.1 br.2
  have ey : ja h 1 0 * ja h 1 1 = (((ja h 1 0 * ja h 1 1).toNat : Nat) : Int) := by omega
  obtain ⟨k1, k2, k3, k4⟩ := hK
  intro k
  induction k with
  | zero =>
    intro j T N ls hl eT hj n1 n2 n3
    refine jm_iload (x := T) rfl rfl (jM_at hl 0 rfl) ?_
    refine jm_iload_n (x := K) rfl rfl (jM_at hl 2 rfl) ?_
    refine jx_ic (t := 54) rfl rfl rfl (fun hc20 => ?_) (fun hc20 => ?_)
    · have g20 := jc2_ge_t hc20
      refine jm_aload_n (x := P.1 + 3) rfl rfl (jM_at hl 3 rfl) ?_
      refine jx_gf (i := 3) rfl rfl hH (by decide) (hH.2 3 _ rfl).1 rfl (jx_rf hH rfl rfl) ?_
      refine jm_iload_n (x := t) rfl rfl (jM_at hl 4 rfl) ?_
      refine jm_iload_n (x := N) rfl rfl (jM_at hl 1 rfl) ?_
      refine jn_add (a := t) (b := N) rfl rfl (by omega) (by omega) (fun z60 ez60 => ?_)
      refine az_X_call (m' := 75) (as := [.ref (P.1 + 1), .int z60]) (rest := []) rfl rfl rfl rfl rfl ?_ ?_
      · unfold si_call
        dsimp only
        rw [if_pos ⟨rfl, rfl⟩]
        show (match si_ix P h (P.1 + 1) with | some i => _ | none => none) = _
        rw [jix hH (by decide)]
        dsimp only
        rw [(hH.2 1 _ rfl).1]
        rfl
      refine (taround_ok hH z60).mono ?_
      rintro rv61 h61 ⟨q61, z61, rfl, ez61⟩
      subst h61
      show az_X P _ 107 64 ls [.int z61] _ _
      refine jx_ret rfl rfl rfl ?_
      refine ⟨rfl, z61, rfl, ?_⟩
      rw [ez61, ez60, ey]
      refine jna_mk (by omega) (by omega) n1 n2 (fun u u1 u2 => ?_)
      obtain ⟨i, i1, i2⟩ := k4 u (by omega) u2
      rw [← i2]
      exact n3 i (by omega)
    · have g20 := jc2_ge_f hc20
      exfalso
      omega
  | succ k ih =>
    intro j T N ls hl eT hj n1 n2 n3
    obtain ⟨u0, u1, u2, u3⟩ := k3 j (by omega)
    have k1 : (1 : Int32).toInt = 1 := by decide
    refine jm_iload (x := T) rfl rfl (jM_at hl 0 rfl) ?_
    refine jm_iload_n (x := K) rfl rfl (jM_at hl 2 rfl) ?_
    refine jx_ic (t := 54) rfl rfl rfl (fun hc20 => ?_) (fun hc20 => ?_)
    · have g20 := jc2_ge_t hc20
      exfalso
      omega
    · have g20 := jc2_ge_f hc20
      refine jm_iload_n (x := N) rfl rfl (jM_at hl 1 rfl) ?_
      refine az_X_step (pc' := 25) (ls' := ls) (st' := [.int 1, .int N]) (h' := h) rfl rfl rfl ?_
      refine jm_aload_n (x := P.1 + 3) rfl rfl (jM_at hl 3 rfl) ?_
      refine jx_gf (i := 3) rfl rfl hH (by decide) (hH.2 3 _ rfl).1 rfl (jx_rf hH rfl rfl) ?_
      refine jm_aload_n (x := P.1 + 3) rfl rfl (jM_at hl 3 rfl) ?_
      refine jx_gf (i := 3) rfl rfl hH (by decide) (hH.2 3 _ rfl).1 rfl (jx_rf hH rfl rfl) ?_
      refine jm_iload (x := T) rfl rfl (jM_at hl 0 rfl) ?_
      refine jx_ial (i := 4) (x := T) rfl rfl hxa hH (by decide) rfl (by omega) (by show _ < ((12 : Nat) : Int); omega) (fun z35 ez35 bz35 => ?_)
      refine jm_iload_n (x := t) rfl rfl (jM_at hl 4 rfl) ?_
      refine jn_sub (a := z35) (b := t) rfl rfl (by omega) (by omega) (fun z37 ez37 => ?_)
      refine az_X_step (pc' := 39) (ls' := ls) (st' := [.int 1, .int z37, .ref (P.1 + 1), .int 1, .int N]) (h' := h) rfl rfl rfl ?_
      refine jn_sub (a := z37) (b := 1) rfl rfl (by omega) (by omega) (fun z39 ez39 => ?_)
      rw [show (1 : Int32).toInt = 1 by decide] at ez39
      refine az_X_call (m' := 75) (as := [.ref (P.1 + 1), .int z39]) (rest := [.int 1, .int N]) rfl rfl rfl rfl rfl ?_ ?_
      · unfold si_call
        dsimp only
        rw [if_pos ⟨rfl, rfl⟩]
        show (match si_ix P h (P.1 + 1) with | some i => _ | none => none) = _
        rw [jix hH (by decide)]
        dsimp only
        rw [(hH.2 1 _ rfl).1]
        rfl
      refine (taround_ok hH z39).mono ?_
      rintro rv40 h40 ⟨q40, z40, rfl, ez40⟩
      subst h40
      have bz40 : 0 ≤ z40.toInt ∧ z40.toInt < ja h 1 0 * ja h 1 1 := by
        rw [ez40]
        exact ⟨Int.emod_nonneg _ (by omega), Int.emod_lt_of_pos _ (by omega)⟩
      show az_X P _ 107 43 ls [.int z40, .int 1, .int N] _ _
      refine jn_add (a := 1) (b := z40) rfl rfl (by omega) (by omega) (fun z43 ez43 => ?_)
      rw [show (1 : Int32).toInt = 1 by decide] at ez43
      refine az_X_call (m' := 344) (as := [.int N, .int z43]) (rest := []) rfl rfl rfl rfl rfl rfl ?_
      refine (cmin2_ok N z43).mono ?_
      rintro rv44 h44 ⟨q44, z44, rfl, ez44⟩
      subst h44
      show az_X P _ 107 47 ls [.int z44] _ _
      refine jm_istore_n (l' := [(3, .int z44), (4, .int T), (2, .int K), (0, .ref (P.1 + 3)), (1, .int t)]) rfl rfl (by decide) hl rfl rfl (fun ls47 hl47 => ?_)
      refine jn_iinc (x := T) rfl rfl (by decide) (jM_at hl47 1 rfl) hl47 rfl (by decide) (by omega) (by omega) (fun z48 (ez48 : z48.toInt = T.toInt + 1) ls48 (hl48 : jM [(4, .int z48), (3, .int z44), (2, .int K), (0, .ref (P.1 + 3)), (1, .int t)] ls48) => ?_)
      refine az_X_step (pc' := 17) (ls' := ls48) (st' := []) (h' := h) rfl rfl rfl ?_
      have eu : z35.toInt = u0 := by rw [ez35, eT]; exact u1
      have e40 : z40.toInt = ((u0 : Int) - t.toInt - 1) % (((ja h 1 0 * ja h 1 1).toNat : Nat) : Int) := by rw [ez40, show z39.toInt = (u0 : Int) - t.toInt - 1 by omega, ← ey]
      refine ih (j + 1) z48 z44 ls48 (jM_pick hl48 [0, 1, 2, 3, 4] rfl) (by omega) (by omega) (by omega) ?_ (fun i hi => ?_)
      · rcases Int.le_total N.toInt z43.toInt with c | c
        · rw [show z44.toInt = N.toInt by omega]
          exact n2
        · exact Or.inr ⟨u0, by omega, u3, by omega⟩
      · rcases Nat.lt_or_ge i j with c | c
        · have := n3 i c
          omega
        · rw [show i = j by omega, u1]
          omega
theorem cnext_ok {P : si_P} (hxa : P.2.1 < P.1) {d : Nat} {h : si_H} (hH : az_HI P az_tb h) (t : Int32) (ht : 0 ≤ t.toInt ∧ t.toInt < ja h 1 0 * ja h 1 1) : az_X P (d + 5) 107 0 (lv_args 0 [.ref (P.1 + 3), .int t]) [] h (fun rv h' => ∃ z : Int32, rv = some (.int z) ∧ az_HI P az_tb h' ∧ az_same_out [(4, 1000000)] h h' ∧  jna (ja h 1 0) (ja h 1 1) (ja h 1 0 * ja h 1 1).toNat t.toInt z.toInt) := by
  have bm : 4 ≤ ja h 1 0 ∧ ja h 1 0 ≤ 60 := ja_bd hH (i := 1) (k := 0) rfl
  have br : 2 ≤ ja h 1 1 ∧ ja h 1 1 ≤ 24 := ja_bd hH (i := 1) (k := 1) rfl
  have bp := nm_mulnn (a := 4) (b := 60) (c := 2) (d := 24) (x := ja h 1 0) (y := ja h 1 1) (by decide) (by decide) bm.1 bm.2 br.1 br.2
  have hl : jM [(0, .ref (P.1 + 3)), (1, .int t)] (lv_args 0 [.ref (P.1 + 3), .int t]) := jM_args [0, 1] rfl (by decide)
  generalize lv_args 0 [.ref (P.1 + 3), .int t] = ls at hl
  have k0 : (0 : Int32).toInt = 0 := by decide
  refine jm_aload_n (x := P.1 + 3) rfl rfl (jM_at hl 0 rfl) ?_
  refine jm_iload_n (x := t) rfl rfl (jM_at hl 1 rfl) ?_
  refine az_X_call (m' := 106) (as := [.ref (P.1 + 3), .int t]) (rest := []) rfl rfl rfl rfl rfl ?_ ?_
  · unfold si_call
    dsimp only
    rw [if_pos ⟨rfl, rfl⟩]
    show (match si_ix P h (P.1 + 3) with | some i => _ | none => none) = _
    rw [jix hH (by decide)]
    dsimp only
    rw [(hH.2 3 _ rfl).1]
    rfl
  refine (calikes_ok hxa hH t ht).mono ?_
  rintro rv2 h2 ⟨z2, rfl, hH2, hs2, f2⟩
  show az_X P _ 107 5 ls [.int z2] _ _
  refine jm_istore_n (l' := [(2, .int z2), (0, .ref (P.1 + 3)), (1, .int t)]) rfl rfl (by decide) hl rfl rfl (fun ls5 hl5 => ?_)
  refine jm_aload_n (x := P.1 + 3) rfl rfl (jM_at hl5 1 rfl) ?_
  refine jx_gf (i := 3) rfl rfl hH2 (by decide) (hH2.2 3 _ rfl).1 rfl (jx_rf hH2 rfl rfl) ?_
  refine az_X_call (m' := 73) (as := [.ref (P.1 + 1)]) (rest := []) rfl rfl rfl rfl rfl ?_ ?_
  · unfold si_call
    dsimp only
    rw [if_pos ⟨rfl, rfl⟩]
    show (match si_ix P h2 (P.1 + 1) with | some i => _ | none => none) = _
    rw [jix hH2 (by decide)]
    dsimp only
    rw [(hH2.2 1 _ rfl).1]
    rfl
  refine (tround_ok hH2).mono ?_
  rintro rv10 h10 ⟨q10, z10, rfl, ez10⟩
  subst h10
  show az_X P _ 107 13 ls5 [.int z10] _ _
  refine jm_istore_n (l' := [(3, .int z10), (2, .int z2), (0, .ref (P.1 + 3)), (1, .int t)]) rfl rfl (by decide) hl5 rfl rfl (fun ls13 hl13 => ?_)
  refine az_X_step (pc' := 15) (ls' := ls13) (st' := [.int 0]) (h' := h2) rfl rfl rfl ?_
  refine jm_istore (l' := [(4, .int 0), (3, .int z10), (2, .int z2), (0, .ref (P.1 + 3)), (1, .int t)]) rfl rfl (by decide) hl13 rfl rfl (fun ls15 hl15 => ?_)
  have r0 : ja h2 1 0 = ja h 1 0 := jso hs2 (by decide)
  have r1 : ja h2 1 1 = ja h 1 1 := jso hs2 (by decide)
  have hz := f2.1
  rw [r0, r1] at ez10
  refine (cnext_l (d := d + 3) hxa hH2 t z2 (by rw [r0, r1]; exact ht) (by rw [r0, r1]; exact f2) z2.toInt.toNat 0 0 z10 ls15 (jM_pick hl15 [0, 1, 2, 3, 4] rfl) (by decide) (by omega) (by rw [r0, r1]; omega) (by rw [r0, r1]; exact Or.inl (by omega)) (fun i hi => absurd hi (by omega))).mono ?_
  rintro rv h9 ⟨q1, z, q2, q3⟩
  subst q1
  rw [r0, r1] at q3
  exact ⟨z, q2, hH2, hs2, q3⟩
theorem carp_ok {P : si_P} {d : Nat} {h : si_H} (hH : az_HI P az_tb h) (t : Int32) (ht : 0 ≤ t.toInt ∧ t.toInt < ja h 1 0 * ja h 1 1) : az_X P (d + 2) 80 0 (lv_args 0 [.ref (P.1 + 1), .int t]) [] h (fun rv h' => h' = h ∧ jV rv (jas (ja h 1 0) (ja h 1 1) t.toInt)) := by
  have bm : 4 ≤ ja h 1 0 ∧ ja h 1 0 ≤ 60 := ja_bd hH (i := 1) (k := 0) rfl
  have br : 2 ≤ ja h 1 1 ∧ ja h 1 1 ≤ 24 := ja_bd hH (i := 1) (k := 1) rfl
  have bp := nm_mulnn (a := 4) (b := 60) (c := 2) (d := 24) (x := ja h 1 0) (y := ja h 1 1) (by decide) (by decide) bm.1 bm.2 br.1 br.2
  have dm := jdm (m := ja h 1 0) (r := ja h 1 1) (a := t.toInt) bm br ht.1 ht.2
  have hl : jM [(0, .ref (P.1 + 1)), (1, .int t)] (lv_args 0 [.ref (P.1 + 1), .int t]) := jM_args [0, 1] rfl (by decide)
  generalize lv_args 0 [.ref (P.1 + 1), .int t] = ls at hl
  refine jm_aload_n (x := P.1 + 1) rfl rfl (jM_at hl 0 rfl) ?_
  refine jm_iload_n (x := t) rfl rfl (jM_at hl 1 rfl) ?_
  refine az_X_call (m' := 77) (as := [.ref (P.1 + 1), .int t]) (rest := []) rfl rfl rfl rfl rfl ?_ ?_
  · unfold si_call
    dsimp only
    rw [if_pos ⟨rfl, rfl⟩]
    show (match si_ix P h (P.1 + 1) with | some i => _ | none => none) = _
    rw [jix hH (by decide)]
    dsimp only
    rw [(hH.2 1 _ rfl).1]
    rfl
  refine (clong_ok hH t).mono ?_
  rintro rv2 h2 ⟨q2, z2, rfl, ez2⟩
  subst h2
  show az_X P _ 80 5 ls [.int z2] _ _
  refine jm_aload_n (x := P.1 + 1) rfl rfl (jM_at hl 0 rfl) ?_
  refine jm_iload_n (x := t) rfl rfl (jM_at hl 1 rfl) ?_
  refine az_X_call (m' := 76) (as := [.ref (P.1 + 1), .int t]) (rest := [.int z2]) rfl rfl rfl rfl rfl ?_ ?_
  · unfold si_call
    dsimp only
    rw [if_pos ⟨rfl, rfl⟩]
    show (match si_ix P h (P.1 + 1) with | some i => _ | none => none) = _
    rw [jix hH (by decide)]
    dsimp only
    rw [(hH.2 1 _ rfl).1]
    rfl
  refine (cshort_ok hH t ht.1).mono ?_
  rintro rv7 h7 ⟨q7, z7, rfl, ez7⟩
  subst h7
  show az_X P _ 80 10 ls [.int z7, .int z2] _ _
  refine jn_sub (a := z2) (b := z7) rfl rfl (by omega) (by omega) (fun z10 ez10 => ?_)
  refine jm_aload_n (x := P.1 + 1) rfl rfl (jM_at hl 0 rfl) ?_
  refine jn_gf (i := 1) (k := 0) rfl rfl hH (by decide) (hH.2 1 _ rfl).1 rfl rfl (fun z12 (ez12 : z12.toInt = ja h 1 0) (bz12 : 4 ≤ z12.toInt ∧ z12.toInt ≤ 60) => ?_)
  refine az_X_call (m' := 200) (as := [.int z10, .int z12]) (rest := []) rfl rfl rfl rfl rfl rfl ?_
  refine (modulo_ok z10 z12 (by omega)).mono ?_
  rintro rv15 h15 ⟨q15, z15, rfl, ez15⟩
  subst h15
  have bz15 := Int.emod_nonneg z10.toInt (b := z12.toInt) (by omega)
  have cz15 := Int.emod_lt_of_pos z10.toInt (b := z12.toInt) (by omega)
  show az_X P _ 80 18 ls [.int z15] _ _
  refine jm_istore_n (l' := [(2, .int z15), (0, .ref (P.1 + 1)), (1, .int t)]) rfl rfl (by decide) hl rfl rfl (fun ls18 hl18 => ?_)
  refine jm_iload_n (x := z15) rfl rfl (jM_at hl18 0 rfl) ?_
  refine jm_aload_n (x := P.1 + 1) rfl rfl (jM_at hl18 1 rfl) ?_
  refine jn_gf (i := 1) (k := 0) rfl rfl hH (by decide) (hH.2 1 _ rfl).1 rfl rfl (fun z21 (ez21 : z21.toInt = ja h 1 0) (bz21 : 4 ≤ z21.toInt ∧ z21.toInt ≤ 60) => ?_)
  refine jm_iload_n (x := z15) rfl rfl (jM_at hl18 0 rfl) ?_
  refine jn_sub (a := z21) (b := z15) rfl rfl (by omega) (by omega) (fun z25 ez25 => ?_)
  refine az_X_call (m' := 344) (as := [.int z15, .int z25]) (rest := []) rfl rfl rfl rfl rfl rfl ?_
  refine (cmin2_ok z15 z25).mono ?_
  rintro rv26 h26 ⟨q26, z26, rfl, ez26⟩
  subst h26
  show az_X P _ 80 29 ls18 [.int z26] _ _
  refine jx_ret rfl rfl rfl ?_
  refine ⟨rfl, z26, rfl, ?_⟩
  unfold jas
  rw [ez26, ez25, ez21, ez15, ez12, ez10, ez2, ez7]
theorem rnext_l {P : si_P} (hxa : P.2.1 < P.1) {d : Nat} {h : si_H} (hH : az_HI P az_tb h) {m r : Int} {y : Nat} (hm : 4 ≤ m ∧ m ≤ 60) (hr : 2 ≤ r ∧ r ≤ 24) (hy : 8 ≤ y ∧ y ≤ 1440) (hp : m * r = y) (hK : jLK h m r y) (t : Int32) (ht : 0 ≤ t.toInt ∧ t.toInt < y) : ∀ (n k : Nat) (T : Int32) (ls : si_L), jM [(2, .int T), (0, .ref (P.1 + 60)), (1, .int t)] ls → T.toInt = (t.toInt + k) % (y : Int) → k + n = y → 1 ≤ k → (∀ j : Nat, 1 ≤ j → j < k → jlk m r ((t.toInt + j) % (y : Int)) ≠ jlk m r t.toInt) → az_X P d 219 9 ls [] h (fun rv h' => h' = h ∧ ∃ z : Int32, rv = some (.int z) ∧ jna m r y t.toInt z.toInt) := by
  have hK' := hK
  obtain ⟨t7, t8, t9, h68, h69⟩ := hK'
  have q20 := h68 t.toInt.toNat (by omega)
  rw [Int.toNat_of_nonneg (by omega)] at q20
  intro n
  induction n with
  | zero =>
    intro k T ls hl eT hn kp hs
    have bT0 := Int.emod_nonneg (t.toInt + (k : Int)) (b := (y : Int)) (by omega)
    have bT1 := Int.emod_lt_of_pos (t.toInt + (k : Int)) (b := (y : Int)) (by omega)
    have q14 := h68 T.toInt.toNat (by omega)
    rw [Int.toNat_of_nonneg (by omega)] at q14
    refine jm_aload_n (x := P.1 + 60) rfl rfl (jM_at hl 1 rfl) ?_
    refine jx_gf (i := 60) rfl rfl hH (by decide) (hH.2 60 _ rfl).1 rfl (jx_rf hH rfl rfl) ?_
    refine jm_iload_n (x := T) rfl rfl (jM_at hl 0 rfl) ?_
    refine jx_ial (i := 68) (x := T) rfl rfl hxa hH (by decide) rfl (by omega) (by show _ < ((1440 : Nat) : Int); omega) (fun z14 ez14 bz14 => ?_)
    refine jm_aload_n (x := P.1 + 60) rfl rfl (jM_at hl 1 rfl) ?_
    refine jx_gf (i := 60) rfl rfl hH (by decide) (hH.2 60 _ rfl).1 rfl (jx_rf hH rfl rfl) ?_
    refine jm_iload_n (x := t) rfl rfl (jM_at hl 2 rfl) ?_
    refine jx_ial (i := 68) (x := t) rfl rfl hxa hH (by decide) rfl (by omega) (by show _ < ((1440 : Nat) : Int); omega) (fun z20 ez20 bz20 => ?_)
    refine jx_ic (t := 36) rfl rfl rfl (fun hc21 => ?_) (fun hc21 => ?_)
    · have g21 := jc2_eq_t hc21
      refine jm_iload_n (x := T) rfl rfl (jM_at hl 0 rfl) ?_
      refine jx_ret rfl rfl rfl ?_
      refine ⟨rfl, T, rfl, k, kp, by omega, eT, ?_, hs⟩
      rw [ez14, ez20, q14, q20, eT] at g21
      exact g21
    · have g21 := jc2_eq_f hc21
      exfalso
      rw [ez14, ez20, q14, q20, eT, show (k : Int) = y by omega, jaddy ht] at g21
      exact g21 rfl
  | succ n ih =>
    intro k T ls hl eT hn kp hs
    have bT0 := Int.emod_nonneg (t.toInt + (k : Int)) (b := (y : Int)) (by omega)
    have bT1 := Int.emod_lt_of_pos (t.toInt + (k : Int)) (b := (y : Int)) (by omega)
    have q14 := h68 T.toInt.toNat (by omega)
    rw [Int.toNat_of_nonneg (by omega)] at q14
    have k1 : (1 : Int32).toInt = 1 := by decide
    refine jm_aload_n (x := P.1 + 60) rfl rfl (jM_at hl 1 rfl) ?_
    refine jx_gf (i := 60) rfl rfl hH (by decide) (hH.2 60 _ rfl).1 rfl (jx_rf hH rfl rfl) ?_
    refine jm_iload_n (x := T) rfl rfl (jM_at hl 0 rfl) ?_
    refine jx_ial (i := 68) (x := T) rfl rfl hxa hH (by decide) rfl (by omega) (by show _ < ((1440 : Nat) : Int); omega) (fun z14 ez14 bz14 => ?_)
    refine jm_aload_n (x := P.1 + 60) rfl rfl (jM_at hl 1 rfl) ?_
    refine jx_gf (i := 60) rfl rfl hH (by decide) (hH.2 60 _ rfl).1 rfl (jx_rf hH rfl rfl) ?_
    refine jm_iload_n (x := t) rfl rfl (jM_at hl 2 rfl) ?_
    refine jx_ial (i := 68) (x := t) rfl rfl hxa hH (by decide) rfl (by omega) (by show _ < ((1440 : Nat) : Int); omega) (fun z20 ez20 bz20 => ?_)
    refine jx_ic (t := 36) rfl rfl rfl (fun hc21 => ?_) (fun hc21 => ?_)
    · have g21 := jc2_eq_t hc21
      refine jm_iload_n (x := T) rfl rfl (jM_at hl 0 rfl) ?_
      refine jx_ret rfl rfl rfl ?_
      refine ⟨rfl, T, rfl, k, kp, by omega, eT, ?_, hs⟩
      rw [ez14, ez20, q14, q20, eT] at g21
      exact g21
    · have g21 := jc2_eq_f hc21
      refine jm_iload_n (x := T) rfl rfl (jM_at hl 0 rfl) ?_
      refine az_X_step (pc' := 26) (ls' := ls) (st' := [.int 1, .int T]) (h' := h) rfl rfl rfl ?_
      refine jn_add (a := T) (b := 1) rfl rfl (by omega) (by omega) (fun z26 ez26 => ?_)
      rw [show (1 : Int32).toInt = 1 by decide] at ez26
      refine jm_aload_n (x := P.1 + 60) rfl rfl (jM_at hl 1 rfl) ?_
      refine jn_gf (i := 60) (k := 9) rfl rfl hH (by decide) (hH.2 60 _ rfl).1 rfl rfl (fun z28 (ez28 : z28.toInt = ja h 60 9) (bz28 : 8 ≤ z28.toInt ∧ z28.toInt ≤ 1440) => ?_)
      refine jn_rem (a := z26) (b := z28) rfl rfl (by omega) (by omega) (fun z31 ez31 lz31 uz31 => ?_)
      refine jm_istore_n (l' := [(2, .int z31), (0, .ref (P.1 + 60)), (1, .int t)]) rfl rfl (by decide) hl rfl rfl (fun ls32 hl32 => ?_)
      refine az_X_step (pc' := 9) (ls' := ls32) (st' := []) (h' := h) rfl rfl rfl ?_
      rw [ez14, ez20, q14, q20, eT] at g21
      refine ih (k + 1) z31 ls32 (jM_pick hl32 [0, 1, 2] rfl) ?_ (by omega) (by omega) (fun j j1 j2 => ?_)
      · rw [ez31, ez28, t9, ez26, eT, Int.emod_add_emod, show t.toInt + (k : Int) + 1 = t.toInt + ((k + 1 : Nat) : Int) by omega]
      · rcases Nat.lt_or_ge j k with c | c
        · exact hs j j1 c
        · rw [show j = k by omega]
          exact g21
theorem rnext_ok {P : si_P} (hxa : P.2.1 < P.1) {d : Nat} {h : si_H} (hH : az_HI P az_tb h) {m r : Int} {y : Nat} (hm : 4 ≤ m ∧ m ≤ 60) (hr : 2 ≤ r ∧ r ≤ 24) (hy : 8 ≤ y ∧ y ≤ 1440) (hp : m * r = y) (hK : jLK h m r y) (t : Int32) (ht : 0 ≤ t.toInt ∧ t.toInt < y) : az_X P d 219 0 (lv_args 0 [.ref (P.1 + 60), .int t]) [] h (fun rv h' => h' = h ∧ ∃ z : Int32, rv = some (.int z) ∧ jna m r y t.toInt z.toInt) := by
  have t9 := hK.2.2.1
  have hl : jM [(0, .ref (P.1 + 60)), (1, .int t)] (lv_args 0 [.ref (P.1 + 60), .int t]) := jM_args [0, 1] rfl (by decide)
  generalize lv_args 0 [.ref (P.1 + 60), .int t] = ls at hl
  have k1 : (1 : Int32).toInt = 1 := by decide
  refine jm_iload_n (x := t) rfl rfl (jM_at hl 1 rfl) ?_
  refine az_X_step (pc' := 2) (ls' := ls) (st' := [.int 1, .int t]) (h' := h) rfl rfl rfl ?_
  refine jn_add (a := t) (b := 1) rfl rfl (by omega) (by omega) (fun z2 ez2 => ?_)
  rw [show (1 : Int32).toInt = 1 by decide] at ez2
  refine jm_aload_n (x := P.1 + 60) rfl rfl (jM_at hl 0 rfl) ?_
  refine jn_gf (i := 60) (k := 9) rfl rfl hH (by decide) (hH.2 60 _ rfl).1 rfl rfl (fun z4 (ez4 : z4.toInt = ja h 60 9) (bz4 : 8 ≤ z4.toInt ∧ z4.toInt ≤ 1440) => ?_)
  refine jn_rem (a := z2) (b := z4) rfl rfl (by omega) (by omega) (fun z7 ez7 lz7 uz7 => ?_)
  refine jm_istore_n (l' := [(2, .int z7), (0, .ref (P.1 + 60)), (1, .int t)]) rfl rfl (by decide) hl rfl rfl (fun ls8 hl8 => ?_)
  exact rnext_l hxa hH hm hr hy hp hK t ht (y - 1) 1 z7 ls8 (jM_pick hl8 [0, 1, 2] rfl) (by rw [ez7, ez4, t9, ez2]; rfl) (by omega) (by omega) (fun j j1 j2 => absurd j2 (by omega))
theorem rlow_l {P : si_P} (hxa : P.2.1 < P.1) {d : Nat} {h : si_H} (hH : az_HI P az_tb h) {m r : Int} {y : Nat} (hm : 4 ≤ m ∧ m ≤ 60) (hr : 2 ≤ r ∧ r ≤ 24) (hy : 8 ≤ y ∧ y ≤ 1440) (hp : m * r = y) (hK : jLK h m r y) (g : Int32) : ∀ (k j : Nat) (T : Int32) (ls : si_L), jM [(2, .int T), (0, .ref (P.1 + 60)), (1, .int g)] ls → T.toInt = j → j + k = y → (∀ i : Nat, i < j → ¬ jlk m r i = g.toInt) → az_X P d 221 2 ls [] h (fun rv h' => h' = h ∧ ∃ z : Int32, rv = some (.int z) ∧ jfs (fun u : Nat => jlk m r u = g.toInt) y z.toInt) := by
  have hK' := hK
  obtain ⟨t7, t8, t9, h68, h69⟩ := hK'
  intro k
  induction k with
  | zero =>
    intro j T ls hl eT hj hs
    have km2 : ((-2) : Int32).toInt = (-2) := by decide
    refine jm_iload_n (x := T) rfl rfl (jM_at hl 0 rfl) ?_
    refine jm_aload_n (x := P.1 + 60) rfl rfl (jM_at hl 1 rfl) ?_
    refine jn_gf (i := 60) (k := 9) rfl rfl hH (by decide) (hH.2 60 _ rfl).1 rfl rfl (fun z4 (ez4 : z4.toInt = ja h 60 9) (bz4 : 8 ≤ z4.toInt ∧ z4.toInt ≤ 1440) => ?_)
    refine jx_ic (t := 28) rfl rfl rfl (fun hc7 => ?_) (fun hc7 => ?_)
    · have g7 := jc2_ge_t hc7
      refine az_X_step (pc' := 30) (ls' := ls) (st' := [.int (-2)]) (h' := h) rfl rfl rfl ?_
      refine jx_ret rfl rfl rfl ?_
      exact ⟨rfl, (-2), rfl, Or.inr ⟨by decide, fun i hi => hs i (by omega)⟩⟩
    · have g7 := jc2_ge_f hc7
      exfalso
      omega
  | succ k ih =>
    intro j T ls hl eT hj hs
    have q15 := h68 j (by omega)
    have km2 : ((-2) : Int32).toInt = (-2) := by decide
    refine jm_iload_n (x := T) rfl rfl (jM_at hl 0 rfl) ?_
    refine jm_aload_n (x := P.1 + 60) rfl rfl (jM_at hl 1 rfl) ?_
    refine jn_gf (i := 60) (k := 9) rfl rfl hH (by decide) (hH.2 60 _ rfl).1 rfl rfl (fun z4 (ez4 : z4.toInt = ja h 60 9) (bz4 : 8 ≤ z4.toInt ∧ z4.toInt ≤ 1440) => ?_)
    refine jx_ic (t := 28) rfl rfl rfl (fun hc7 => ?_) (fun hc7 => ?_)
    · have g7 := jc2_ge_t hc7
      refine az_X_step (pc' := 30) (ls' := ls) (st' := [.int (-2)]) (h' := h) rfl rfl rfl ?_
      refine jx_ret rfl rfl rfl ?_
      exfalso
      omega
    · have g7 := jc2_ge_f hc7
      refine jm_aload_n (x := P.1 + 60) rfl rfl (jM_at hl 1 rfl) ?_
      refine jx_gf (i := 60) rfl rfl hH (by decide) (hH.2 60 _ rfl).1 rfl (jx_rf hH rfl rfl) ?_
      refine jm_iload_n (x := T) rfl rfl (jM_at hl 0 rfl) ?_
      refine jx_ial (i := 68) (x := T) rfl rfl hxa hH (by decide) rfl (by omega) (by show _ < ((1440 : Nat) : Int); omega) (fun z15 ez15 bz15 => ?_)
      refine jm_iload_n (x := g) rfl rfl (jM_at hl 2 rfl) ?_
      refine jx_ic (t := 22) rfl rfl rfl (fun hc17 => ?_) (fun hc17 => ?_)
      · have g17 := jc2_ne_t hc17
        refine jn_iinc (x := T) rfl rfl (by decide) (jM_at hl 0 rfl) hl rfl (by decide) (by omega) (by omega) (fun z22 (ez22 : z22.toInt = T.toInt + 1) ls22 (hl22 : jM [(2, .int z22), (0, .ref (P.1 + 60)), (1, .int g)] ls22) => ?_)
        refine az_X_step (pc' := 2) (ls' := ls22) (st' := []) (h' := h) rfl rfl rfl ?_
        rw [ez15, eT, q15] at g17
        exact ih (j + 1) z22 ls22 (jM_pick hl22 [0, 1, 2] rfl) (by omega) (by omega) (fun i hi => by
          rcases Nat.lt_or_ge i j with q | q
          · exact hs i q
          · rw [show i = j by omega]; exact g17)
      · have g17 := jc2_ne_f hc17
        refine jm_iload_n (x := T) rfl rfl (jM_at hl 0 rfl) ?_
        refine jx_ret rfl rfl rfl ?_
        rw [ez15, eT, q15] at g17
        exact ⟨rfl, T, rfl, Or.inl ⟨j, by omega, eT, g17, hs⟩⟩
theorem rlow_ok {P : si_P} (hxa : P.2.1 < P.1) {d : Nat} {h : si_H} (hH : az_HI P az_tb h) {m r : Int} {y : Nat} (hm : 4 ≤ m ∧ m ≤ 60) (hr : 2 ≤ r ∧ r ≤ 24) (hy : 8 ≤ y ∧ y ≤ 1440) (hp : m * r = y) (hK : jLK h m r y) (g : Int32) : az_X P d 221 0 (lv_args 0 [.ref (P.1 + 60), .int g]) [] h (fun rv h' => h' = h ∧ ∃ z : Int32, rv = some (.int z) ∧ jfs (fun u : Nat => jlk m r u = g.toInt) y z.toInt) := by
  have hl : jM [(0, .ref (P.1 + 60)), (1, .int g)] (lv_args 0 [.ref (P.1 + 60), .int g]) := jM_args [0, 1] rfl (by decide)
  generalize lv_args 0 [.ref (P.1 + 60), .int g] = ls at hl
  have k0 : (0 : Int32).toInt = 0 := by decide
  refine az_X_step (pc' := 1) (ls' := ls) (st' := [.int 0]) (h' := h) rfl rfl rfl ?_
  refine jm_istore_n (l' := [(2, .int 0), (0, .ref (P.1 + 60)), (1, .int g)]) rfl rfl (by decide) hl rfl rfl (fun ls1 hl1 => ?_)
  exact rlow_l hxa hH hm hr hy hp hK g y 0 0 ls1 (jM_pick hl1 [0, 1, 2] rfl) (by decide) (by omega) (fun i hi => absurd hi (by omega))
theorem rshorter_ok {P : si_P} {d : Nat} {h : si_H} (a b c : Int32) (ha : 0 ≤ a.toInt ∧ a.toInt ≤ 100) (hb : 0 ≤ b.toInt ∧ b.toInt ≤ 100) (hc : 1 ≤ c.toInt ∧ c.toInt ≤ 100) : az_X P (d + 2) 209 0 (lv_args 0 [.int a, .int b, .int c]) [] h (fun rv h' => h' = h ∧ jV rv (min ((a.toInt - b.toInt) % c.toInt) (c.toInt - (a.toInt - b.toInt) % c.toInt))) := by
  have hl : jM [(0, .int a), (1, .int b), (2, .int c)] (lv_args 0 [.int a, .int b, .int c]) := jM_args [0, 1, 2] rfl (by decide)
  generalize lv_args 0 [.int a, .int b, .int c] = ls at hl
  refine jm_iload_n (x := a) rfl rfl (jM_at hl 0 rfl) ?_
  refine jm_iload_n (x := b) rfl rfl (jM_at hl 1 rfl) ?_
  refine jn_sub (a := a) (b := b) rfl rfl (by omega) (by omega) (fun z2 ez2 => ?_)
  refine jm_iload_n (x := c) rfl rfl (jM_at hl 2 rfl) ?_
  refine az_X_call (m' := 208) (as := [.int z2, .int c]) (rest := []) rfl rfl rfl rfl rfl rfl ?_
  refine (rmod_ok z2 c (by omega) (by omega) (by omega)).mono ?_
  rintro rv4 h4 ⟨q4, z4, rfl, ez4⟩
  subst h4
  show az_X P _ 209 7 ls [.int z4] _ _
  refine jm_iload_n (x := b) rfl rfl (jM_at hl 1 rfl) ?_
  refine jm_iload_n (x := a) rfl rfl (jM_at hl 0 rfl) ?_
  refine jn_sub (a := b) (b := a) rfl rfl (by omega) (by omega) (fun z9 ez9 => ?_)
  refine jm_iload_n (x := c) rfl rfl (jM_at hl 2 rfl) ?_
  refine az_X_call (m' := 208) (as := [.int z9, .int c]) (rest := [.int z4]) rfl rfl rfl rfl rfl rfl ?_
  refine (rmod_ok z9 c (by omega) (by omega) (by omega)).mono ?_
  rintro rv11 h11 ⟨q11, z11, rfl, ez11⟩
  subst h11
  show az_X P _ 209 14 ls [.int z11, .int z4] _ _
  refine az_X_call (m' := 203) (as := [.int z4, .int z11]) (rest := []) rfl rfl rfl rfl rfl rfl ?_
  refine (rmin2_ok z4 z11).mono ?_
  rintro rv14 h14 ⟨q14, z14, rfl, ez14⟩
  subst h14
  show az_X P _ 209 17 ls [.int z14] _ _
  refine jx_ret rfl rfl rfl ?_
  refine ⟨rfl, z14, rfl, ?_⟩
  rw [ez14, ez4, ez11, ez2, ez9, ← jneg hc.1, show -(a.toInt - b.toInt) = b.toInt - a.toInt by omega]
theorem carealike_ok {P : si_P} {d : Nat} {h : si_H} (hH : az_HI P az_tb h) (a b : Int32) (ha : 0 ≤ a.toInt ∧ a.toInt < ja h 1 0 * ja h 1 1) (hb : 0 ≤ b.toInt ∧ b.toInt < ja h 1 0 * ja h 1 1) : az_X P (d + 3) 81 0 (lv_args 0 [.ref (P.1 + 1), .int a, .int b]) [] h (fun rv h' => h' = h ∧ jV rv (jb (decide (jlk (ja h 1 0) (ja h 1 1) b.toInt = jlk (ja h 1 0) (ja h 1 1) a.toInt)))) := by
  have bm : 4 ≤ ja h 1 0 ∧ ja h 1 0 ≤ 60 := ja_bd hH (i := 1) (k := 0) rfl
  have br : 2 ≤ ja h 1 1 ∧ ja h 1 1 ≤ 24 := ja_bd hH (i := 1) (k := 1) rfl
  have bp := nm_mulnn (a := 4) (b := 60) (c := 2) (d := 24) (x := ja h 1 0) (y := ja h 1 1) (by decide) (by decide) bm.1 bm.2 br.1 br.2
  have dma := jdm (m := ja h 1 0) (r := ja h 1 1) (a := a.toInt) bm br ha.1 ha.2
  have hl : jM [(0, .ref (P.1 + 1)), (1, .int a), (2, .int b)] (lv_args 0 [.ref (P.1 + 1), .int a, .int b]) := jM_args [0, 1, 2] rfl (by decide)
  generalize lv_args 0 [.ref (P.1 + 1), .int a, .int b] = ls at hl
  refine jm_aload_n (x := P.1 + 1) rfl rfl (jM_at hl 0 rfl) ?_
  refine jm_iload_n (x := b) rfl rfl (jM_at hl 2 rfl) ?_
  refine jm_aload_n (x := P.1 + 1) rfl rfl (jM_at hl 0 rfl) ?_
  refine jm_iload_n (x := a) rfl rfl (jM_at hl 1 rfl) ?_
  refine az_X_call (m' := 76) (as := [.ref (P.1 + 1), .int a]) (rest := [.int b, .ref (P.1 + 1)]) rfl rfl rfl rfl rfl ?_ ?_
  · unfold si_call
    dsimp only
    rw [if_pos ⟨rfl, rfl⟩]
    show (match si_ix P h (P.1 + 1) with | some i => _ | none => none) = _
    rw [jix hH (by decide)]
    dsimp only
    rw [(hH.2 1 _ rfl).1]
    rfl
  refine (cshort_ok hH a ha.1).mono ?_
  rintro rv4 h4 ⟨q4, z4, rfl, ez4⟩
  subst h4
  show az_X P _ 81 7 ls [.int z4, .int b, .ref (P.1 + 1)] _ _
  refine jm_aload_n (x := P.1 + 1) rfl rfl (jM_at hl 0 rfl) ?_
  refine jm_iload_n (x := a) rfl rfl (jM_at hl 1 rfl) ?_
  refine az_X_call (m' := 77) (as := [.ref (P.1 + 1), .int a]) (rest := [.int z4, .int b, .ref (P.1 + 1)]) rfl rfl rfl rfl rfl ?_ ?_
  · unfold si_call
    dsimp only
    rw [if_pos ⟨rfl, rfl⟩]
    show (match si_ix P h (P.1 + 1) with | some i => _ | none => none) = _
    rw [jix hH (by decide)]
    dsimp only
    rw [(hH.2 1 _ rfl).1]
    rfl
  refine (clong_ok hH a).mono ?_
  rintro rv9 h9 ⟨q9, z9, rfl, ez9⟩
  subst h9
  show az_X P _ 81 12 ls [.int z9, .int z4, .int b, .ref (P.1 + 1)] _ _
  refine az_X_call (m' := 82) (as := [.ref (P.1 + 1), .int b, .int z4, .int z9]) (rest := []) rfl rfl rfl rfl rfl ?_ ?_
  · unfold si_call
    dsimp only
    rw [if_pos ⟨rfl, rfl⟩]
    show (match si_ix P h (P.1 + 1) with | some i => _ | none => none) = _
    rw [jix hH (by decide)]
    dsimp only
    rw [(hH.2 1 _ rfl).1]
    rfl
  refine (cisat_ok hH b z4 z9 hb.1).mono ?_
  rintro rv12 h12 ⟨q12, z12, rfl, ez12⟩
  subst h12
  show az_X P _ 81 15 ls [.int z12] _ _
  refine jx_retz rfl rfl rfl (jbz (by rw [ez12]; exact jb_01 _)) ?_
  refine ⟨rfl, z12, rfl, ?_⟩
  rw [ez12, ez4, ez9]
  have dmb := jdm (m := ja h 1 0) (r := ja h 1 1) (a := b.toInt) bm br hb.1 hb.2
  have i := jlk_so (m := ja h 1 0) (r := ja h 1 1) (u := b.toInt) (s := a.toInt / ja h 1 1) (l := a.toInt % ja h 1 0) bm.2 dmb dma.2 dma.1
  exact congrArg jb (decide_eq_decide.mpr i.symm)
theorem ctb_l {P : si_P} (hxa : P.2.1 < P.1) {d : Nat} {h : si_H} (hH : az_HI P az_tb h) (t k K : Int32) (ht : 0 ≤ t.toInt ∧ t.toInt < ja h 1 0 * ja h 1 1) (hk : 0 ≤ k.toInt ∧ k.toInt ≤ 2000) (hK : jLA h (ja h 1 0) (ja h 1 1) (jlk (ja h 1 0) (ja h 1 1) t.toInt) K.toInt) (U : Int32) (hU : U.toInt = (t.toInt + k.toInt) % (((ja h 1 0 * ja h 1 1).toNat : Nat) : Int)) : ∀ (n j : Nat) (T : Int32) (ls : si_L), jM [(5, .int T), (4, .int U), (0, .ref (P.1 + 3)), (1, .int t), (2, .int k), (3, .int K)] ls → T.toInt = j → (j : Int) + n = K.toInt → (∀ i : Nat, i < j → ja h 4 i ≠ t.toInt → jlk (ja h 1 0) (ja h 1 1) ((ja h 4 i + k.toInt) % (((ja h 1 0 * ja h 1 1).toNat : Nat) : Int)) ≠ jlk (ja h 1 0) (ja h 1 1) U.toInt) → az_X P (d + 4) 115 15 ls [] h (fun rv h' => h' = h ∧ ∃ z : Int32, rv = some (.int z) ∧ ((z.toInt = 1 ∧ jte (ja h 1 0) (ja h 1 1) (ja h 1 0 * ja h 1 1).toNat t.toInt k.toInt) ∨ (z.toInt = 0 ∧ ¬ (jte (ja h 1 0) (ja h 1 1) (ja h 1 0 * ja h 1 1).toNat t.toInt k.toInt)))) := by
  have bm : 4 ≤ ja h 1 0 ∧ ja h 1 0 ≤ 60 := ja_bd hH (i := 1) (k := 0) rfl
  have br : 2 ≤ ja h 1 1 ∧ ja h 1 1 ≤ 24 := ja_bd hH (i := 1) (k := 1) rfl
  have bp := nm_mulnn (a := 4) (b := 60) (c := 2) (d := 24) (x := ja h 1 0) (y := ja h 1 1) (by decide) (by decide) bm.1 bm.2 br.1 br.2
  have ey : ja h 1 0 * ja h 1 1 = (((ja h 1 0 * ja h 1 1).toNat : Nat) : Int) := by omega
  have bU0 := Int.emod_nonneg (t.toInt + k.toInt) (b := (((ja h 1 0 * ja h 1 1).toNat : Nat) : Int)) (by omega)
  have bU1 := Int.emod_lt_of_pos (t.toInt + k.toInt) (b := (((ja h 1 0 * ja h 1 1).toNat : Nat) : Int)) (by omega)
  obtain ⟨k1, k2, k3, k4⟩ := hK
  intro n
  induction n with
  | zero =>
    intro j T ls hl eT hj hs
    have k1 : (1 : Int32).toInt = 1 := by decide
    refine jm_iload (x := T) rfl rfl (jM_at hl 0 rfl) ?_
    refine jm_iload_n (x := K) rfl rfl (jM_at hl 5 rfl) ?_
    refine jx_ic (t := 68) rfl rfl rfl (fun hc18 => ?_) (fun hc18 => ?_)
    · have g18 := jc2_ge_t hc18
      refine az_X_step (pc' := 69) (ls' := ls) (st' := [.int 1]) (h' := h) rfl rfl rfl ?_
      refine jx_retz rfl rfl rfl (by decide) ?_
      refine ⟨rfl, 1, rfl, Or.inl ⟨by decide, fun u u1 u2 u3 => ?_⟩⟩
      obtain ⟨i, i1, i2⟩ := k4 u (by omega) u3
      have q := hs i (by omega) (by rw [i2]; exact u2)
      rw [i2, hU] at q
      exact q
    · have g18 := jc2_ge_f hc18
      exfalso
      omega
  | succ n ih =>
    intro j T ls hl eT hj hs
    obtain ⟨u0, u1, u2, u3⟩ := k3 j (by omega)
    have k0 : (0 : Int32).toInt = 0 := by decide
    have k1 : (1 : Int32).toInt = 1 := by decide
    refine jm_iload (x := T) rfl rfl (jM_at hl 0 rfl) ?_
    refine jm_iload_n (x := K) rfl rfl (jM_at hl 5 rfl) ?_
    refine jx_ic (t := 68) rfl rfl rfl (fun hc18 => ?_) (fun hc18 => ?_)
    · have g18 := jc2_ge_t hc18
      refine az_X_step (pc' := 69) (ls' := ls) (st' := [.int 1]) (h' := h) rfl rfl rfl ?_
      refine jx_retz rfl rfl rfl (by decide) ?_
      exfalso
      omega
    · have g18 := jc2_ge_f hc18
      refine jm_aload_n (x := P.1 + 3) rfl rfl (jM_at hl 2 rfl) ?_
      refine jx_gf (i := 3) rfl rfl hH (by decide) (hH.2 3 _ rfl).1 rfl (jx_rf hH rfl rfl) ?_
      refine jm_aload_n (x := P.1 + 3) rfl rfl (jM_at hl 2 rfl) ?_
      refine jx_gf (i := 3) rfl rfl hH (by decide) (hH.2 3 _ rfl).1 rfl (jx_rf hH rfl rfl) ?_
      refine jm_iload (x := T) rfl rfl (jM_at hl 0 rfl) ?_
      refine jx_ial (i := 4) (x := T) rfl rfl hxa hH (by decide) rfl (by omega) (by show _ < ((12 : Nat) : Int); omega) (fun z31 ez31 bz31 => ?_)
      refine jm_iload_n (x := k) rfl rfl (jM_at hl 4 rfl) ?_
      refine jn_add (a := z31) (b := k) rfl rfl (by omega) (by omega) (fun z33 ez33 => ?_)
      refine az_X_call (m' := 75) (as := [.ref (P.1 + 1), .int z33]) (rest := []) rfl rfl rfl rfl rfl ?_ ?_
      · unfold si_call
        dsimp only
        rw [if_pos ⟨rfl, rfl⟩]
        show (match si_ix P h (P.1 + 1) with | some i => _ | none => none) = _
        rw [jix hH (by decide)]
        dsimp only
        rw [(hH.2 1 _ rfl).1]
        rfl
      refine (taround_ok hH z33).mono ?_
      rintro rv34 h34 ⟨q34, z34, rfl, ez34⟩
      subst h34
      have bz34 : 0 ≤ z34.toInt ∧ z34.toInt < ja h 1 0 * ja h 1 1 := by
        rw [ez34]
        exact ⟨Int.emod_nonneg _ (by omega), Int.emod_lt_of_pos _ (by omega)⟩
      show az_X P _ 115 37 ls [.int z34] _ _
      refine jm_istore (l' := [(6, .int z34), (5, .int T), (4, .int U), (0, .ref (P.1 + 3)), (1, .int t), (2, .int k), (3, .int K)]) rfl rfl (by decide) hl rfl rfl (fun ls37 hl37 => ?_)
      refine jm_iload (x := z34) rfl rfl (jM_at hl37 0 rfl) ?_
      refine jm_iload (x := U) rfl rfl (jM_at hl37 2 rfl) ?_
      refine jx_ic (t := 62) rfl rfl rfl (fun hc43 => ?_) (fun hc43 => ?_)
      · have g43 := jc2_eq_t hc43
        refine jn_iinc (x := T) rfl rfl (by decide) (jM_at hl37 1 rfl) hl37 rfl (by decide) (by omega) (by omega) (fun z62 (ez62 : z62.toInt = T.toInt + 1) ls62 (hl62 : jM [(5, .int z62), (6, .int z34), (4, .int U), (0, .ref (P.1 + 3)), (1, .int t), (2, .int k), (3, .int K)] ls62) => ?_)
        refine az_X_step (pc' := 15) (ls' := ls62) (st' := []) (h' := h) rfl rfl rfl ?_
        have eu : z31.toInt = u0 := by rw [ez31, eT]; exact u1
        have eo : z34.toInt = ((u0 : Int) + k.toInt) % (((ja h 1 0 * ja h 1 1).toNat : Nat) : Int) := by rw [ez34, show z33.toInt = (u0 : Int) + k.toInt by omega, ← ey]
        have sh := jsh (y := (ja h 1 0 * ja h 1 1).toNat) (u := (u0 : Int)) (t := t.toInt) (k := k.toInt) (by omega) (by omega)
        refine ih (j + 1) z62 ls62 (jM_pick hl62 [0, 2, 3, 4, 5, 6] rfl) (by omega) (by omega) (fun i hi => ?_)
        rcases Nat.lt_or_ge i j with q | q
        · exact hs i q
        · rw [show i = j by omega, u1]
          intro hne
          exact absurd (sh.mp (by rw [← eo, ← hU]; exact g43)) hne
      · have g43 := jc2_eq_f hc43
        refine jm_aload_n (x := P.1 + 3) rfl rfl (jM_at hl37 3 rfl) ?_
        refine jx_gf (i := 3) rfl rfl hH (by decide) (hH.2 3 _ rfl).1 rfl (jx_rf hH rfl rfl) ?_
        refine jm_iload (x := U) rfl rfl (jM_at hl37 2 rfl) ?_
        refine jm_iload (x := z34) rfl rfl (jM_at hl37 0 rfl) ?_
        refine az_X_call (m' := 81) (as := [.ref (P.1 + 1), .int U, .int z34]) (rest := []) rfl rfl rfl rfl rfl ?_ ?_
        · unfold si_call
          dsimp only
          rw [if_pos ⟨rfl, rfl⟩]
          show (match si_ix P h (P.1 + 1) with | some i => _ | none => none) = _
          rw [jix hH (by decide)]
          dsimp only
          rw [(hH.2 1 _ rfl).1]
          rfl
        refine (carealike_ok hH U z34 (by omega) bz34).mono ?_
        rintro rv54 h54 ⟨q54, z54, rfl, ez54⟩
        subst h54
        show az_X P _ 115 57 ls37 [.int z54] _ _
        refine jx_if (t := 62) rfl rfl rfl (fun hc57 => ?_) (fun hc57 => ?_)
        · have g57 := jc1_eq_t hc57
          refine jn_iinc (x := T) rfl rfl (by decide) (jM_at hl37 1 rfl) hl37 rfl (by decide) (by omega) (by omega) (fun z62 (ez62 : z62.toInt = T.toInt + 1) ls62 (hl62 : jM [(5, .int z62), (6, .int z34), (4, .int U), (0, .ref (P.1 + 3)), (1, .int t), (2, .int k), (3, .int K)] ls62) => ?_)
          refine az_X_step (pc' := 15) (ls' := ls62) (st' := []) (h' := h) rfl rfl rfl ?_
          have eu : z31.toInt = u0 := by rw [ez31, eT]; exact u1
          have eo : z34.toInt = ((u0 : Int) + k.toInt) % (((ja h 1 0 * ja h 1 1).toNat : Nat) : Int) := by rw [ez34, show z33.toInt = (u0 : Int) + k.toInt by omega, ← ey]
          have sh := jsh (y := (ja h 1 0 * ja h 1 1).toNat) (u := (u0 : Int)) (t := t.toInt) (k := k.toInt) (by omega) (by omega)
          refine ih (j + 1) z62 ls62 (jM_pick hl62 [0, 2, 3, 4, 5, 6] rfl) (by omega) (by omega) (fun i hi => ?_)
          rcases Nat.lt_or_ge i j with q | q
          · exact hs i q
          · rw [show i = j by omega, u1]
            intro hne
            rw [ez54, eo] at g57
            unfold jb at g57
            intro he
            rw [decide_eq_true he] at g57
            exact absurd g57 (by decide)
        · have g57 := jc1_eq_f hc57
          refine az_X_step (pc' := 61) (ls' := ls37) (st' := [.int 0]) (h' := h) rfl rfl rfl ?_
          refine jx_retz rfl rfl rfl (by decide) ?_
          have eu : z31.toInt = u0 := by rw [ez31, eT]; exact u1
          have eo : z34.toInt = ((u0 : Int) + k.toInt) % (((ja h 1 0 * ja h 1 1).toNat : Nat) : Int) := by rw [ez34, show z33.toInt = (u0 : Int) + k.toInt by omega, ← ey]
          have sh := jsh (y := (ja h 1 0 * ja h 1 1).toNat) (u := (u0 : Int)) (t := t.toInt) (k := k.toInt) (by omega) (by omega)
          rw [ez54, eo] at g57
          unfold jb at g57
          refine ⟨rfl, 0, rfl, Or.inr ⟨by decide, fun hq => ?_⟩⟩
          have q := hq u0 (by omega) (fun e => g43 (by rw [eo, hU]; exact sh.mpr e)) u3
          rw [← hU] at q
          rw [decide_eq_false q] at g57
          exact absurd rfl g57
theorem ctb_ok {P : si_P} (hxa : P.2.1 < P.1) {d : Nat} {h : si_H} (hH : az_HI P az_tb h) (t k K : Int32) (ht : 0 ≤ t.toInt ∧ t.toInt < ja h 1 0 * ja h 1 1) (hk : 0 ≤ k.toInt ∧ k.toInt ≤ 2000) (hK : jLA h (ja h 1 0) (ja h 1 1) (jlk (ja h 1 0) (ja h 1 1) t.toInt) K.toInt) : az_X P (d + 4) 115 0 (lv_args 0 [.ref (P.1 + 3), .int t, .int k, .int K]) [] h (fun rv h' => h' = h ∧ ∃ z : Int32, rv = some (.int z) ∧ ((z.toInt = 1 ∧ jte (ja h 1 0) (ja h 1 1) (ja h 1 0 * ja h 1 1).toNat t.toInt k.toInt) ∨ (z.toInt = 0 ∧ ¬ (jte (ja h 1 0) (ja h 1 1) (ja h 1 0 * ja h 1 1).toNat t.toInt k.toInt)))) := by
  have bm : 4 ≤ ja h 1 0 ∧ ja h 1 0 ≤ 60 := ja_bd hH (i := 1) (k := 0) rfl
  have br : 2 ≤ ja h 1 1 ∧ ja h 1 1 ≤ 24 := ja_bd hH (i := 1) (k := 1) rfl
  have bp := nm_mulnn (a := 4) (b := 60) (c := 2) (d := 24) (x := ja h 1 0) (y := ja h 1 1) (by decide) (by decide) bm.1 bm.2 br.1 br.2
  have hl : jM [(0, .ref (P.1 + 3)), (1, .int t), (2, .int k), (3, .int K)] (lv_args 0 [.ref (P.1 + 3), .int t, .int k, .int K]) := jM_args [0, 1, 2, 3] rfl (by decide)
  generalize lv_args 0 [.ref (P.1 + 3), .int t, .int k, .int K] = ls at hl
  have k0 : (0 : Int32).toInt = 0 := by decide
  refine jm_aload_n (x := P.1 + 3) rfl rfl (jM_at hl 0 rfl) ?_
  refine jx_gf (i := 3) rfl rfl hH (by decide) (hH.2 3 _ rfl).1 rfl (jx_rf hH rfl rfl) ?_
  refine jm_iload_n (x := t) rfl rfl (jM_at hl 1 rfl) ?_
  refine jm_iload_n (x := k) rfl rfl (jM_at hl 2 rfl) ?_
  refine jn_add (a := t) (b := k) rfl rfl (by omega) (by omega) (fun z6 ez6 => ?_)
  refine az_X_call (m' := 75) (as := [.ref (P.1 + 1), .int z6]) (rest := []) rfl rfl rfl rfl rfl ?_ ?_
  · unfold si_call
    dsimp only
    rw [if_pos ⟨rfl, rfl⟩]
    show (match si_ix P h (P.1 + 1) with | some i => _ | none => none) = _
    rw [jix hH (by decide)]
    dsimp only
    rw [(hH.2 1 _ rfl).1]
    rfl
  refine (taround_ok hH z6).mono ?_
  rintro rv7 h7 ⟨q7, z7, rfl, ez7⟩
  subst h7
  show az_X P _ 115 10 ls [.int z7] _ _
  refine jm_istore (l' := [(4, .int z7), (0, .ref (P.1 + 3)), (1, .int t), (2, .int k), (3, .int K)]) rfl rfl (by decide) hl rfl rfl (fun ls10 hl10 => ?_)
  refine az_X_step (pc' := 13) (ls' := ls10) (st' := [.int 0]) (h' := h) rfl rfl rfl ?_
  refine jm_istore (l' := [(5, .int 0), (4, .int z7), (0, .ref (P.1 + 3)), (1, .int t), (2, .int k), (3, .int K)]) rfl rfl (by decide) hl10 rfl rfl (fun ls13 hl13 => ?_)
  exact ctb_l hxa hH t k K ht hk hK z7 (by rw [ez7, ez6, show (((ja h 1 0 * ja h 1 1).toNat : Nat) : Int) = ja h 1 0 * ja h 1 1 by omega]) K.toInt.toNat 0 0 ls13 (jM_pick hl13 [0, 1, 2, 3, 4, 5] rfl) (by decide) (by have := hK.1; omega) (fun i hi => absurd hi (by omega))
theorem csg_l {P : si_P} (hxa : P.2.1 < P.1) {d : Nat} {h : si_H} (hH : az_HI P az_tb h) (t K Y : Int32) (ht : 0 ≤ t.toInt ∧ t.toInt < ja h 1 0 * ja h 1 1) (hY : Y.toInt = ja h 1 0 * ja h 1 1) (hK : jLA h (ja h 1 0) (ja h 1 1) (jlk (ja h 1 0) (ja h 1 1) t.toInt) K.toInt) : ∀ (n j : Nat) (T : Int32) (ls : si_L), jM [(4, .int T), (3, .int Y), (2, .int K), (0, .ref (P.1 + 3)), (1, .int t)] ls → T.toInt = j → 1 ≤ j → (j : Int) + n = Y.toInt → (∀ i : Nat, 1 ≤ i → i < j → ¬ jte (ja h 1 0) (ja h 1 1) (ja h 1 0 * ja h 1 1).toNat t.toInt ((i : Nat) : Int)) → az_X P (d + 5) 114 17 ls [] h (fun rv h' => h' = h ∧ ∃ z : Int32, rv = some (.int z) ∧ jf1 (fun k : Nat => jte (ja h 1 0) (ja h 1 1) (ja h 1 0 * ja h 1 1).toNat t.toInt k) (ja h 1 0 * ja h 1 1).toNat z.toInt) := by
  have bm : 4 ≤ ja h 1 0 ∧ ja h 1 0 ≤ 60 := ja_bd hH (i := 1) (k := 0) rfl
  have br : 2 ≤ ja h 1 1 ∧ ja h 1 1 ≤ 24 := ja_bd hH (i := 1) (k := 1) rfl
  have bp := nm_mulnn (a := 4) (b := 60) (c := 2) (d := 24) (x := ja h 1 0) (y := ja h 1 1) (by decide) (by decide) bm.1 bm.2 br.1 br.2
  intro n
  induction n with
  | zero =>
    intro j T ls hl eT j1 hj hs
    have km2 : ((-2) : Int32).toInt = (-2) := by decide
    refine jm_iload (x := T) rfl rfl (jM_at hl 0 rfl) ?_
    refine jm_iload_n (x := Y) rfl rfl (jM_at hl 1 rfl) ?_
    refine jx_ic (t := 43) rfl rfl rfl (fun hc20 => ?_) (fun hc20 => ?_)
    · have g20 := jc2_ge_t hc20
      refine az_X_step (pc' := 45) (ls' := ls) (st' := [.int (-2)]) (h' := h) rfl rfl rfl ?_
      refine jx_ret rfl rfl rfl ?_
      exact ⟨rfl, (-2), rfl, Or.inr ⟨by decide, fun i i1 i2 => hs i i1 (by omega)⟩⟩
    · have g20 := jc2_ge_f hc20
      exfalso
      omega
  | succ n ih =>
    intro j T ls hl eT j1 hj hs
    have km2 : ((-2) : Int32).toInt = (-2) := by decide
    have k0 : (0 : Int32).toInt = 0 := by decide
    refine jm_iload (x := T) rfl rfl (jM_at hl 0 rfl) ?_
    refine jm_iload_n (x := Y) rfl rfl (jM_at hl 1 rfl) ?_
    refine jx_ic (t := 43) rfl rfl rfl (fun hc20 => ?_) (fun hc20 => ?_)
    · have g20 := jc2_ge_t hc20
      refine az_X_step (pc' := 45) (ls' := ls) (st' := [.int (-2)]) (h' := h) rfl rfl rfl ?_
      refine jx_ret rfl rfl rfl ?_
      exfalso
      omega
    · have g20 := jc2_ge_f hc20
      refine jm_aload_n (x := P.1 + 3) rfl rfl (jM_at hl 3 rfl) ?_
      refine jm_iload_n (x := t) rfl rfl (jM_at hl 4 rfl) ?_
      refine jm_iload (x := T) rfl rfl (jM_at hl 0 rfl) ?_
      refine jm_iload_n (x := K) rfl rfl (jM_at hl 2 rfl) ?_
      refine az_X_call (m' := 115) (as := [.ref (P.1 + 3), .int t, .int T, .int K]) (rest := []) rfl rfl rfl rfl rfl ?_ ?_
      · unfold si_call
        dsimp only
        rw [if_pos ⟨rfl, rfl⟩]
        show (match si_ix P h (P.1 + 3) with | some i => _ | none => none) = _
        rw [jix hH (by decide)]
        dsimp only
        rw [(hH.2 3 _ rfl).1]
        rfl
      refine (ctb_ok hxa hH t T K ht (by omega) hK).mono ?_
      rintro rv28 h28 ⟨q28, z28, rfl, ez28⟩
      subst h28
      show az_X P _ 114 31 ls [.int z28] _ _
      refine jx_if (t := 37) rfl rfl rfl (fun hc31 => ?_) (fun hc31 => ?_)
      · have g31 := jc1_eq_t hc31
        refine jn_iinc (x := T) rfl rfl (by decide) (jM_at hl 0 rfl) hl rfl (by decide) (by omega) (by omega) (fun z37 (ez37 : z37.toInt = T.toInt + 1) ls37 (hl37 : jM [(4, .int z37), (3, .int Y), (2, .int K), (0, .ref (P.1 + 3)), (1, .int t)] ls37) => ?_)
        refine az_X_step (pc' := 17) (ls' := ls37) (st' := []) (h' := h) rfl rfl rfl ?_
        refine ih (j + 1) z37 ls37 (jM_pick hl37 [0, 1, 2, 3, 4] rfl) (by omega) (by omega) (by omega) (fun i i1 i2 => ?_)
        rcases Nat.lt_or_ge i j with q | q
        · exact hs i i1 q
        · rw [show i = j by omega]
          rcases ez28 with ⟨q2, -⟩ | ⟨-, q2⟩
          · exact absurd g31 (by omega)
          · rw [eT] at q2; exact q2
      · have g31 := jc1_eq_f hc31
        refine jm_iload (x := T) rfl rfl (jM_at hl 0 rfl) ?_
        refine jx_ret rfl rfl rfl ?_
        refine ⟨rfl, T, rfl, Or.inl ⟨j, j1, by omega, eT, ?_, hs⟩⟩
        rcases ez28 with ⟨-, q⟩ | ⟨q, -⟩
        · rw [eT] at q; exact q
        · exact absurd q g31
theorem csg_ok {P : si_P} (hxa : P.2.1 < P.1) {d : Nat} {h : si_H} (hH : az_HI P az_tb h) (t : Int32) (ht : 0 ≤ t.toInt ∧ t.toInt < ja h 1 0 * ja h 1 1) : az_X P (d + 5) 114 0 (lv_args 0 [.ref (P.1 + 3), .int t]) [] h (fun rv h' => ∃ z : Int32, rv = some (.int z) ∧ az_HI P az_tb h' ∧ az_same_out [(4, 1000000)] h h' ∧  jf1 (fun k : Nat => jte (ja h 1 0) (ja h 1 1) (ja h 1 0 * ja h 1 1).toNat t.toInt k) (ja h 1 0 * ja h 1 1).toNat z.toInt) := by
  have bm : 4 ≤ ja h 1 0 ∧ ja h 1 0 ≤ 60 := ja_bd hH (i := 1) (k := 0) rfl
  have br : 2 ≤ ja h 1 1 ∧ ja h 1 1 ≤ 24 := ja_bd hH (i := 1) (k := 1) rfl
  have bp := nm_mulnn (a := 4) (b := 60) (c := 2) (d := 24) (x := ja h 1 0) (y := ja h 1 1) (by decide) (by decide) bm.1 bm.2 br.1 br.2
  have hl : jM [(0, .ref (P.1 + 3)), (1, .int t)] (lv_args 0 [.ref (P.1 + 3), .int t]) := jM_args [0, 1] rfl (by decide)
  generalize lv_args 0 [.ref (P.1 + 3), .int t] = ls at hl
  have k1 : (1 : Int32).toInt = 1 := by decide
  refine jm_aload_n (x := P.1 + 3) rfl rfl (jM_at hl 0 rfl) ?_
  refine jm_iload_n (x := t) rfl rfl (jM_at hl 1 rfl) ?_
  refine az_X_call (m' := 106) (as := [.ref (P.1 + 3), .int t]) (rest := []) rfl rfl rfl rfl rfl ?_ ?_
  · unfold si_call
    dsimp only
    rw [if_pos ⟨rfl, rfl⟩]
    show (match si_ix P h (P.1 + 3) with | some i => _ | none => none) = _
    rw [jix hH (by decide)]
    dsimp only
    rw [(hH.2 3 _ rfl).1]
    rfl
  refine (calikes_ok hxa hH t ht).mono ?_
  rintro rv2 h2 ⟨z2, rfl, hH2, hs2, f2⟩
  show az_X P _ 114 5 ls [.int z2] _ _
  refine jm_istore_n (l' := [(2, .int z2), (0, .ref (P.1 + 3)), (1, .int t)]) rfl rfl (by decide) hl rfl rfl (fun ls5 hl5 => ?_)
  refine jm_aload_n (x := P.1 + 3) rfl rfl (jM_at hl5 1 rfl) ?_
  refine jx_gf (i := 3) rfl rfl hH2 (by decide) (hH2.2 3 _ rfl).1 rfl (jx_rf hH2 rfl rfl) ?_
  refine az_X_call (m' := 73) (as := [.ref (P.1 + 1)]) (rest := []) rfl rfl rfl rfl rfl ?_ ?_
  · unfold si_call
    dsimp only
    rw [if_pos ⟨rfl, rfl⟩]
    show (match si_ix P h2 (P.1 + 1) with | some i => _ | none => none) = _
    rw [jix hH2 (by decide)]
    dsimp only
    rw [(hH2.2 1 _ rfl).1]
    rfl
  refine (tround_ok hH2).mono ?_
  rintro rv10 h10 ⟨q10, z10, rfl, ez10⟩
  subst h10
  show az_X P _ 114 13 ls5 [.int z10] _ _
  refine jm_istore_n (l' := [(3, .int z10), (2, .int z2), (0, .ref (P.1 + 3)), (1, .int t)]) rfl rfl (by decide) hl5 rfl rfl (fun ls13 hl13 => ?_)
  refine az_X_step (pc' := 15) (ls' := ls13) (st' := [.int 1]) (h' := h2) rfl rfl rfl ?_
  refine jm_istore (l' := [(4, .int 1), (3, .int z10), (2, .int z2), (0, .ref (P.1 + 3)), (1, .int t)]) rfl rfl (by decide) hl13 rfl rfl (fun ls15 hl15 => ?_)
  have r0 : ja h2 1 0 = ja h 1 0 := jso hs2 (by decide)
  have r1 : ja h2 1 1 = ja h 1 1 := jso hs2 (by decide)
  refine (csg_l (d := d) hxa hH2 t z2 z10 (by rw [r0, r1]; exact ht) ez10 (by rw [r0, r1]; exact f2) (z10.toInt.toNat - 1) 1 1 ls15 (jM_pick hl15 [0, 1, 2, 3, 4] rfl) (by decide) (by decide) (by rw [r0, r1] at ez10; omega) (fun i i1 i2 => absurd i2 (by omega))).mono ?_
  rintro rv h9 ⟨q1, z, q2, q3⟩
  subst q1
  rw [r0, r1] at q3
  exact ⟨z, q2, hH2, hs2, q3⟩
theorem glance0_ok {P : si_P} (hxa : P.2.1 < P.1) {d : Nat} {h : si_H} (hH : az_HI P az_tb h) (a : Int32) : az_X P (d + 6) 155 0 (lv_args 0 [.ref (P.1 + 0), .int a]) [] h (fun rv h' => ∃ z : Int32, rv = some (.int z) ∧ az_HI P az_tb h' ∧ az_same_out [(4, 1000000)] h h' ∧  jgl (ja h 1 0) (ja h 1 1) (ja h 1 0 * ja h 1 1).toNat a.toInt z.toInt) := by
  have bm : 4 ≤ ja h 1 0 ∧ ja h 1 0 ≤ 60 := ja_bd hH (i := 1) (k := 0) rfl
  have br : 2 ≤ ja h 1 1 ∧ ja h 1 1 ≤ 24 := ja_bd hH (i := 1) (k := 1) rfl
  have bp := nm_mulnn (a := 4) (b := 60) (c := 2) (d := 24) (x := ja h 1 0) (y := ja h 1 1) (by decide) (by decide) bm.1 bm.2 br.1 br.2
  have hl : jM [(0, .ref (P.1 + 0)), (1, .int a)] (lv_args 0 [.ref (P.1 + 0), .int a]) := jM_args [0, 1] rfl (by decide)
  generalize lv_args 0 [.ref (P.1 + 0), .int a] = ls at hl
  have km1 : ((-1) : Int32).toInt = (-1) := by decide
  have k0 : (0 : Int32).toInt = 0 := by decide
  refine jm_aload_n (x := P.1 + 0) rfl rfl (jM_at hl 0 rfl) ?_
  refine jx_gf (i := 0) rfl rfl hH (by decide) (hH.2 0 _ rfl).1 rfl (jx_rf hH rfl rfl) ?_
  refine jm_iload_n (x := a) rfl rfl (jM_at hl 1 rfl) ?_
  refine az_X_call (m' := 74) (as := [.ref (P.1 + 1), .int a]) (rest := []) rfl rfl rfl rfl rfl ?_ ?_
  · unfold si_call
    dsimp only
    rw [if_pos ⟨rfl, rfl⟩]
    show (match si_ix P h (P.1 + 1) with | some i => _ | none => none) = _
    rw [jix hH (by decide)]
    dsimp only
    rw [(hH.2 1 _ rfl).1]
    rfl
  refine (istime0_ok hH a).mono ?_
  rintro rv5 h5 ⟨q5, z5, rfl, ez5⟩
  subst h5
  show az_X P _ 155 8 ls [.int z5] _ _
  refine jx_if (t := 22) rfl rfl rfl (fun hc8 => ?_) (fun hc8 => ?_)
  · have g8 := jc1_eq_t hc8
    refine az_X_step (pc' := 23) (ls' := ls) (st' := [.int (-1)]) (h' := h) rfl rfl rfl ?_
    refine jx_ret rfl rfl rfl ?_
    exact ⟨(-1), rfl, hH, az_same_out.rf, Or.inl ⟨by omega, by decide⟩⟩
  · have g8 := jc1_eq_f hc8
    refine jm_aload_n (x := P.1 + 0) rfl rfl (jM_at hl 0 rfl) ?_
    refine jx_gf (i := 0) rfl rfl hH (by decide) (hH.2 0 _ rfl).1 rfl (jx_rf hH rfl rfl) ?_
    refine jm_iload_n (x := a) rfl rfl (jM_at hl 1 rfl) ?_
    refine az_X_call (m' := 114) (as := [.ref (P.1 + 3), .int a]) (rest := []) rfl rfl rfl rfl rfl ?_ ?_
    · unfold si_call
      dsimp only
      rw [if_pos ⟨rfl, rfl⟩]
      show (match si_ix P h (P.1 + 3) with | some i => _ | none => none) = _
      rw [jix hH (by decide)]
      dsimp only
      rw [(hH.2 3 _ rfl).1]
      rfl
    refine (csg_ok hxa hH a (by omega)).mono ?_
    rintro rv16 h16 ⟨z16, rfl, hH16, hs16, f16⟩
    show az_X P _ 155 19 ls [.int z16] _ _
    refine az_X_step (pc' := 23) (ls' := ls) (st' := [.int z16]) (h' := h16) rfl rfl rfl ?_
    refine jx_ret rfl rfl rfl ?_
    exact ⟨z16, rfl, hH16, hs16, Or.inr ⟨by omega, f16⟩⟩
theorem rtl_l {P : si_P} (hxa : P.2.1 < P.1) {d : Nat} {h : si_H} (hH : az_HI P az_tb h) {m r : Int} {y : Nat} (hm : 4 ≤ m ∧ m ≤ 60) (hr : 2 ≤ r ∧ r ≤ 24) (hy : 8 ≤ y ∧ y ≤ 1440) (hp : m * r = y) (hK : jLK h m r y) (t k : Int32) (ht : 0 ≤ t.toInt ∧ t.toInt < y) (hk : 0 ≤ k.toInt ∧ k.toInt ≤ 2000) : ∀ (n j : Nat) (T : Int32) (ls : si_L), jM [(3, .int T), (0, .ref (P.1 + 60)), (1, .int t), (2, .int k)] ls → T.toInt = j → j + n = y → (∀ u : Nat, u < j → (u : Int) ≠ t.toInt → jlk m r u = jlk m r t.toInt → jlk m r (((u : Int) + k.toInt) % (y : Int)) ≠ jlk m r ((t.toInt + k.toInt) % (y : Int))) → az_X P d 233 2 ls [] h (fun rv h' => h' = h ∧ ∃ z : Int32, rv = some (.int z) ∧ ((z.toInt = 1 ∧ jte m r y t.toInt k.toInt) ∨ (z.toInt = 0 ∧ ¬ (jte m r y t.toInt k.toInt)))) := by
  have hK' := hK
  obtain ⟨t7, t8, t9, h68, h69⟩ := hK'
  have q26 := h68 t.toInt.toNat (by omega)
  rw [Int.toNat_of_nonneg (by omega)] at q26
  intro n
  induction n with
  | zero =>
    intro j T ls hl eT hj hs
    have k1 : (1 : Int32).toInt = 1 := by decide
    refine jm_iload_n (x := T) rfl rfl (jM_at hl 0 rfl) ?_
    refine jm_aload_n (x := P.1 + 60) rfl rfl (jM_at hl 1 rfl) ?_
    refine jn_gf (i := 60) (k := 9) rfl rfl hH (by decide) (hH.2 60 _ rfl).1 rfl rfl (fun z4 (ez4 : z4.toInt = ja h 60 9) (bz4 : 8 ≤ z4.toInt ∧ z4.toInt ≤ 1440) => ?_)
    refine jx_ic (t := 67) rfl rfl rfl (fun hc7 => ?_) (fun hc7 => ?_)
    · have g7 := jc2_ge_t hc7
      refine az_X_step (pc' := 68) (ls' := ls) (st' := [.int 1]) (h' := h) rfl rfl rfl ?_
      refine jx_retz rfl rfl rfl (by decide) ?_
      exact ⟨rfl, 1, rfl, Or.inl ⟨by decide, fun u u1 => hs u (by omega)⟩⟩
    · have g7 := jc2_ge_f hc7
      exfalso
      omega
  | succ n ih =>
    intro j T ls hl eT hj hs
    have q20 := h68 j (by omega)
    have k0 : (0 : Int32).toInt = 0 := by decide
    have k1 : (1 : Int32).toInt = 1 := by decide
    refine jm_iload_n (x := T) rfl rfl (jM_at hl 0 rfl) ?_
    refine jm_aload_n (x := P.1 + 60) rfl rfl (jM_at hl 1 rfl) ?_
    refine jn_gf (i := 60) (k := 9) rfl rfl hH (by decide) (hH.2 60 _ rfl).1 rfl rfl (fun z4 (ez4 : z4.toInt = ja h 60 9) (bz4 : 8 ≤ z4.toInt ∧ z4.toInt ≤ 1440) => ?_)
    refine jx_ic (t := 67) rfl rfl rfl (fun hc7 => ?_) (fun hc7 => ?_)
    · have g7 := jc2_ge_t hc7
      refine az_X_step (pc' := 68) (ls' := ls) (st' := [.int 1]) (h' := h) rfl rfl rfl ?_
      refine jx_retz rfl rfl rfl (by decide) ?_
      exfalso
      omega
    · have g7 := jc2_ge_f hc7
      refine jm_iload_n (x := T) rfl rfl (jM_at hl 0 rfl) ?_
      refine jm_iload_n (x := t) rfl rfl (jM_at hl 2 rfl) ?_
      refine jx_ic (t := 61) rfl rfl rfl (fun hc12 => ?_) (fun hc12 => ?_)
      · have g12 := jc2_eq_t hc12
        refine jn_iinc (x := T) rfl rfl (by decide) (jM_at hl 0 rfl) hl rfl (by decide) (by omega) (by omega) (fun z61 (ez61 : z61.toInt = T.toInt + 1) ls61 (hl61 : jM [(3, .int z61), (0, .ref (P.1 + 60)), (1, .int t), (2, .int k)] ls61) => ?_)
        refine az_X_step (pc' := 2) (ls' := ls61) (st' := []) (h' := h) rfl rfl rfl ?_
        refine ih (j + 1) z61 ls61 (jM_pick hl61 [0, 1, 2, 3] rfl) (by omega) (by omega) (fun u u1 u2 u3 => ?_)
        rcases Nat.lt_or_ge u j with q | q
        · exact hs u q u2 u3
        · have eu : u = j := by omega
          subst eu
          exact absurd (by omega) u2
      · have g12 := jc2_eq_f hc12
        refine jm_aload_n (x := P.1 + 60) rfl rfl (jM_at hl 1 rfl) ?_
        refine jx_gf (i := 60) rfl rfl hH (by decide) (hH.2 60 _ rfl).1 rfl (jx_rf hH rfl rfl) ?_
        refine jm_iload_n (x := T) rfl rfl (jM_at hl 0 rfl) ?_
        refine jx_ial (i := 68) (x := T) rfl rfl hxa hH (by decide) rfl (by omega) (by show _ < ((1440 : Nat) : Int); omega) (fun z20 ez20 bz20 => ?_)
        refine jm_aload_n (x := P.1 + 60) rfl rfl (jM_at hl 1 rfl) ?_
        refine jx_gf (i := 60) rfl rfl hH (by decide) (hH.2 60 _ rfl).1 rfl (jx_rf hH rfl rfl) ?_
        refine jm_iload_n (x := t) rfl rfl (jM_at hl 2 rfl) ?_
        refine jx_ial (i := 68) (x := t) rfl rfl hxa hH (by decide) rfl (by omega) (by show _ < ((1440 : Nat) : Int); omega) (fun z26 ez26 bz26 => ?_)
        refine jx_ic (t := 61) rfl rfl rfl (fun hc27 => ?_) (fun hc27 => ?_)
        · have g27 := jc2_ne_t hc27
          refine jn_iinc (x := T) rfl rfl (by decide) (jM_at hl 0 rfl) hl rfl (by decide) (by omega) (by omega) (fun z61 (ez61 : z61.toInt = T.toInt + 1) ls61 (hl61 : jM [(3, .int z61), (0, .ref (P.1 + 60)), (1, .int t), (2, .int k)] ls61) => ?_)
          refine az_X_step (pc' := 2) (ls' := ls61) (st' := []) (h' := h) rfl rfl rfl ?_
          rw [ez20, ez26, q26, eT, q20] at g27
          refine ih (j + 1) z61 ls61 (jM_pick hl61 [0, 1, 2, 3] rfl) (by omega) (by omega) (fun u u1 u2 u3 => ?_)
          rcases Nat.lt_or_ge u j with q | q
          · exact hs u q u2 u3
          · have eu : u = j := by omega
            subst eu
            exact absurd u3 g27
        · have g27 := jc2_ne_f hc27
          refine jm_aload_n (x := P.1 + 60) rfl rfl (jM_at hl 1 rfl) ?_
          refine jx_gf (i := 60) rfl rfl hH (by decide) (hH.2 60 _ rfl).1 rfl (jx_rf hH rfl rfl) ?_
          refine jm_iload_n (x := T) rfl rfl (jM_at hl 0 rfl) ?_
          refine jm_iload_n (x := k) rfl rfl (jM_at hl 3 rfl) ?_
          refine jn_add (a := T) (b := k) rfl rfl (by omega) (by omega) (fun z36 ez36 => ?_)
          refine jm_aload_n (x := P.1 + 60) rfl rfl (jM_at hl 1 rfl) ?_
          refine jn_gf (i := 60) (k := 9) rfl rfl hH (by decide) (hH.2 60 _ rfl).1 rfl rfl (fun z38 (ez38 : z38.toInt = ja h 60 9) (bz38 : 8 ≤ z38.toInt ∧ z38.toInt ≤ 1440) => ?_)
          refine jn_rem (a := z36) (b := z38) rfl rfl (by omega) (by omega) (fun z41 ez41 lz41 uz41 => ?_)
          refine jx_ial (i := 68) (x := z41) rfl rfl hxa hH (by decide) rfl (by omega) (by show _ < ((1440 : Nat) : Int); omega) (fun z42 ez42 bz42 => ?_)
          refine jm_aload_n (x := P.1 + 60) rfl rfl (jM_at hl 1 rfl) ?_
          refine jx_gf (i := 60) rfl rfl hH (by decide) (hH.2 60 _ rfl).1 rfl (jx_rf hH rfl rfl) ?_
          refine jm_iload_n (x := t) rfl rfl (jM_at hl 2 rfl) ?_
          refine jm_iload_n (x := k) rfl rfl (jM_at hl 3 rfl) ?_
          refine jn_add (a := t) (b := k) rfl rfl (by omega) (by omega) (fun z49 ez49 => ?_)
          refine jm_aload_n (x := P.1 + 60) rfl rfl (jM_at hl 1 rfl) ?_
          refine jn_gf (i := 60) (k := 9) rfl rfl hH (by decide) (hH.2 60 _ rfl).1 rfl rfl (fun z51 (ez51 : z51.toInt = ja h 60 9) (bz51 : 8 ≤ z51.toInt ∧ z51.toInt ≤ 1440) => ?_)
          refine jn_rem (a := z49) (b := z51) rfl rfl (by omega) (by omega) (fun z54 ez54 lz54 uz54 => ?_)
          refine jx_ial (i := 68) (x := z54) rfl rfl hxa hH (by decide) rfl (by omega) (by show _ < ((1440 : Nat) : Int); omega) (fun z55 ez55 bz55 => ?_)
          refine jx_ic (t := 61) rfl rfl rfl (fun hc56 => ?_) (fun hc56 => ?_)
          · have g56 := jc2_ne_t hc56
            refine jn_iinc (x := T) rfl rfl (by decide) (jM_at hl 0 rfl) hl rfl (by decide) (by omega) (by omega) (fun z61 (ez61 : z61.toInt = T.toInt + 1) ls61 (hl61 : jM [(3, .int z61), (0, .ref (P.1 + 60)), (1, .int t), (2, .int k)] ls61) => ?_)
            refine az_X_step (pc' := 2) (ls' := ls61) (st' := []) (h' := h) rfl rfl rfl ?_
            have q42 := h68 z41.toInt.toNat (by omega)
            rw [Int.toNat_of_nonneg lz41] at q42
            have q55 := h68 z54.toInt.toNat (by omega)
            rw [Int.toNat_of_nonneg lz54] at q55
            rw [ez42, ez55, q42, q55, ez41, ez54, ez38, ez51, t9, show z36.toInt = (j : Int) + k.toInt by omega, show z49.toInt = t.toInt + k.toInt by omega] at g56
            refine ih (j + 1) z61 ls61 (jM_pick hl61 [0, 1, 2, 3] rfl) (by omega) (by omega) (fun u u1 u2 u3 => ?_)
            rcases Nat.lt_or_ge u j with q | q
            · exact hs u q u2 u3
            · have eu : u = j := by omega
              subst eu
              exact g56
          · have g56 := jc2_ne_f hc56
            refine az_X_step (pc' := 60) (ls' := ls) (st' := [.int 0]) (h' := h) rfl rfl rfl ?_
            refine jx_retz rfl rfl rfl (by decide) ?_
            rw [ez20, ez26, q26, eT, q20] at g27
            have q42 := h68 z41.toInt.toNat (by omega)
            rw [Int.toNat_of_nonneg lz41] at q42
            have q55 := h68 z54.toInt.toNat (by omega)
            rw [Int.toNat_of_nonneg lz54] at q55
            rw [ez42, ez55, q42, q55, ez41, ez54, ez38, ez51, t9, show z36.toInt = (j : Int) + k.toInt by omega, show z49.toInt = t.toInt + k.toInt by omega] at g56
            exact ⟨rfl, 0, rfl, Or.inr ⟨by decide, fun hq => hq j (by omega) (by omega) g27 g56⟩⟩
theorem rtl_ok {P : si_P} (hxa : P.2.1 < P.1) {d : Nat} {h : si_H} (hH : az_HI P az_tb h) {m r : Int} {y : Nat} (hm : 4 ≤ m ∧ m ≤ 60) (hr : 2 ≤ r ∧ r ≤ 24) (hy : 8 ≤ y ∧ y ≤ 1440) (hp : m * r = y) (hK : jLK h m r y) (t k : Int32) (ht : 0 ≤ t.toInt ∧ t.toInt < y) (hk : 0 ≤ k.toInt ∧ k.toInt ≤ 2000) : az_X P d 233 0 (lv_args 0 [.ref (P.1 + 60), .int t, .int k]) [] h (fun rv h' => h' = h ∧ ∃ z : Int32, rv = some (.int z) ∧ ((z.toInt = 1 ∧ jte m r y t.toInt k.toInt) ∨ (z.toInt = 0 ∧ ¬ (jte m r y t.toInt k.toInt)))) := by
  have hl : jM [(0, .ref (P.1 + 60)), (1, .int t), (2, .int k)] (lv_args 0 [.ref (P.1 + 60), .int t, .int k]) := jM_args [0, 1, 2] rfl (by decide)
  generalize lv_args 0 [.ref (P.1 + 60), .int t, .int k] = ls at hl
  have k0 : (0 : Int32).toInt = 0 := by decide
  refine az_X_step (pc' := 1) (ls' := ls) (st' := [.int 0]) (h' := h) rfl rfl rfl ?_
  refine jm_istore_n (l' := [(3, .int 0), (0, .ref (P.1 + 60)), (1, .int t), (2, .int k)]) rfl rfl (by decide) hl rfl rfl (fun ls1 hl1 => ?_)
  exact rtl_l hxa hH hm hr hy hp hK t k ht hk y 0 0 ls1 (jM_pick hl1 [0, 1, 2, 3] rfl) (by decide) (by omega) (fun u u1 => absurd u1 (by omega))
theorem rgl_l {P : si_P} (hxa : P.2.1 < P.1) {d : Nat} {h : si_H} (hH : az_HI P az_tb h) {m r : Int} {y : Nat} (hm : 4 ≤ m ∧ m ≤ 60) (hr : 2 ≤ r ∧ r ≤ 24) (hy : 8 ≤ y ∧ y ≤ 1440) (hp : m * r = y) (hK : jLK h m r y) (t : Int32) (ht : 0 ≤ t.toInt ∧ t.toInt < y) : ∀ (n j : Nat) (T : Int32) (ls : si_L), jM [(2, .int T), (0, .ref (P.1 + 60)), (1, .int t)] ls → T.toInt = j → 1 ≤ j → j + n = y → (∀ i : Nat, 1 ≤ i → i < j → ¬ jte m r y t.toInt ((i : Nat) : Int)) → az_X P (d + 1) 234 12 ls [] h (fun rv h' => h' = h ∧ ∃ z : Int32, rv = some (.int z) ∧ jf1 (fun k : Nat => jte m r y t.toInt k) y z.toInt) := by
  have t9 := hK.2.2.1
  intro n
  induction n with
  | zero =>
    intro j T ls hl eT j1 hj hs
    have km2 : ((-2) : Int32).toInt = (-2) := by decide
    refine jm_iload_n (x := T) rfl rfl (jM_at hl 0 rfl) ?_
    refine jm_aload_n (x := P.1 + 60) rfl rfl (jM_at hl 1 rfl) ?_
    refine jn_gf (i := 60) (k := 9) rfl rfl hH (by decide) (hH.2 60 _ rfl).1 rfl rfl (fun z14 (ez14 : z14.toInt = ja h 60 9) (bz14 : 8 ≤ z14.toInt ∧ z14.toInt ≤ 1440) => ?_)
    refine jx_ic (t := 37) rfl rfl rfl (fun hc17 => ?_) (fun hc17 => ?_)
    · have g17 := jc2_ge_t hc17
      refine az_X_step (pc' := 39) (ls' := ls) (st' := [.int (-2)]) (h' := h) rfl rfl rfl ?_
      refine jx_ret rfl rfl rfl ?_
      exact ⟨rfl, (-2), rfl, Or.inr ⟨by decide, fun i i1 i2 => hs i i1 (by omega)⟩⟩
    · have g17 := jc2_ge_f hc17
      exfalso
      omega
  | succ n ih =>
    intro j T ls hl eT j1 hj hs
    have km2 : ((-2) : Int32).toInt = (-2) := by decide
    have k0 : (0 : Int32).toInt = 0 := by decide
    refine jm_iload_n (x := T) rfl rfl (jM_at hl 0 rfl) ?_
    refine jm_aload_n (x := P.1 + 60) rfl rfl (jM_at hl 1 rfl) ?_
    refine jn_gf (i := 60) (k := 9) rfl rfl hH (by decide) (hH.2 60 _ rfl).1 rfl rfl (fun z14 (ez14 : z14.toInt = ja h 60 9) (bz14 : 8 ≤ z14.toInt ∧ z14.toInt ≤ 1440) => ?_)
    refine jx_ic (t := 37) rfl rfl rfl (fun hc17 => ?_) (fun hc17 => ?_)
    · have g17 := jc2_ge_t hc17
      refine az_X_step (pc' := 39) (ls' := ls) (st' := [.int (-2)]) (h' := h) rfl rfl rfl ?_
      refine jx_ret rfl rfl rfl ?_
      exfalso
      omega
    · have g17 := jc2_ge_f hc17
      refine jm_aload_n (x := P.1 + 60) rfl rfl (jM_at hl 1 rfl) ?_
      refine jm_iload_n (x := t) rfl rfl (jM_at hl 2 rfl) ?_
      refine jm_iload_n (x := T) rfl rfl (jM_at hl 0 rfl) ?_
      refine az_X_call (m' := 233) (as := [.ref (P.1 + 60), .int t, .int T]) (rest := []) rfl rfl rfl rfl rfl ?_ ?_
      · unfold si_call
        dsimp only
        rw [if_pos ⟨rfl, rfl⟩]
        show (match si_ix P h (P.1 + 60) with | some i => _ | none => none) = _
        rw [jix hH (by decide)]
        dsimp only
        rw [(hH.2 60 _ rfl).1]
        rfl
      refine (rtl_ok hxa hH hm hr hy hp hK t T ht (by omega)).mono ?_
      rintro rv23 h23 ⟨q23, z23, rfl, ez23⟩
      subst h23
      show az_X P _ 234 26 ls [.int z23] _ _
      refine jx_if (t := 31) rfl rfl rfl (fun hc26 => ?_) (fun hc26 => ?_)
      · have g26 := jc1_eq_t hc26
        refine jn_iinc (x := T) rfl rfl (by decide) (jM_at hl 0 rfl) hl rfl (by decide) (by omega) (by omega) (fun z31 (ez31 : z31.toInt = T.toInt + 1) ls31 (hl31 : jM [(2, .int z31), (0, .ref (P.1 + 60)), (1, .int t)] ls31) => ?_)
        refine az_X_step (pc' := 12) (ls' := ls31) (st' := []) (h' := h) rfl rfl rfl ?_
        refine ih (j + 1) z31 ls31 (jM_pick hl31 [0, 1, 2] rfl) (by omega) (by omega) (by omega) (fun i i1 i2 => ?_)
        rcases Nat.lt_or_ge i j with q | q
        · exact hs i i1 q
        · rw [show i = j by omega]
          rcases ez23 with ⟨q2, -⟩ | ⟨-, q2⟩
          · exact absurd g26 (by omega)
          · rw [eT] at q2; exact q2
      · have g26 := jc1_eq_f hc26
        refine jm_iload_n (x := T) rfl rfl (jM_at hl 0 rfl) ?_
        refine jx_ret rfl rfl rfl ?_
        refine ⟨rfl, T, rfl, Or.inl ⟨j, j1, by omega, eT, ?_, hs⟩⟩
        rcases ez23 with ⟨-, q⟩ | ⟨q, -⟩
        · rw [eT] at q; exact q
        · exact absurd q g26
theorem glance1_ok {P : si_P} (hxa : P.2.1 < P.1) {d : Nat} {h : si_H} (hH : az_HI P az_tb h) {m r : Int} {y : Nat} (hm : 4 ≤ m ∧ m ≤ 60) (hr : 2 ≤ r ∧ r ≤ 24) (hy : 8 ≤ y ∧ y ≤ 1440) (hp : m * r = y) (hK : jLK h m r y) (a : Int32) : az_X P (d + 2) 234 0 (lv_args 0 [.ref (P.1 + 60), .int a]) [] h (fun rv h' => h' = h ∧ ∃ z : Int32, rv = some (.int z) ∧ jgl m r y a.toInt z.toInt) := by
  have t9 := hK.2.2.1
  have hl : jM [(0, .ref (P.1 + 60)), (1, .int a)] (lv_args 0 [.ref (P.1 + 60), .int a]) := jM_args [0, 1] rfl (by decide)
  generalize lv_args 0 [.ref (P.1 + 60), .int a] = ls at hl
  have km1 : ((-1) : Int32).toInt = (-1) := by decide
  have k0 : (0 : Int32).toInt = 0 := by decide
  have k1 : (1 : Int32).toInt = 1 := by decide
  refine jm_aload_n (x := P.1 + 60) rfl rfl (jM_at hl 0 rfl) ?_
  refine jm_iload_n (x := a) rfl rfl (jM_at hl 1 rfl) ?_
  refine az_X_call (m' := 211) (as := [.ref (P.1 + 60), .int a]) (rest := []) rfl rfl rfl rfl rfl ?_ ?_
  · unfold si_call
    dsimp only
    rw [if_pos ⟨rfl, rfl⟩]
    show (match si_ix P h (P.1 + 60) with | some i => _ | none => none) = _
    rw [jix hH (by decide)]
    dsimp only
    rw [(hH.2 60 _ rfl).1]
    rfl
  refine (ristime_ok hH a).mono ?_
  rintro rv2 h2 ⟨q2, z2, rfl, ez2⟩
  subst h2
  show az_X P _ 234 5 ls [.int z2] _ _
  refine jx_if (t := 10) rfl rfl rfl (fun hc5 => ?_) (fun hc5 => ?_)
  · have g5 := jc1_ne_t hc5
    refine az_X_step (pc' := 11) (ls' := ls) (st' := [.int 1]) (h' := h) rfl rfl rfl ?_
    refine jm_istore_n (l' := [(2, .int 1), (0, .ref (P.1 + 60)), (1, .int a)]) rfl rfl (by decide) hl rfl rfl (fun ls11 hl11 => ?_)
    refine (rgl_l hxa hH hm hr hy hp hK a (by omega) (y - 1) 1 1 ls11 (jM_pick hl11 [0, 1, 2] rfl) (by decide) (by decide) (by omega) (fun i i1 i2 => absurd i2 (by omega))).mono ?_
    rintro rv h9 ⟨q1, z, q2, q3⟩
    exact ⟨q1, z, q2, Or.inr ⟨by omega, q3⟩⟩
  · have g5 := jc1_ne_f hc5
    refine az_X_step (pc' := 9) (ls' := ls) (st' := [.int (-1)]) (h' := h) rfl rfl rfl ?_
    refine jx_ret rfl rfl rfl ?_
    exact ⟨rfl, (-1), rfl, Or.inl ⟨by omega, by decide⟩⟩
