/-! REMAINDERS, by class and reference -/
set_option maxRecDepth 100000
theorem jso_nil {h h' : si_H} (hs : az_same_out [] h h') : h' = h := by
  obtain ⟨a, b, c⟩ := h
  obtain ⟨a', b', c'⟩ := h'
  obtain ⟨h1, h2, h3⟩ := hs
  dsimp only at h1 h2 h3
  subst h1 h2
  have : c' = c := by
    funext i k
    exact h3 i k rfl
  rw [this]
section Jx
variable {P : si_P} {d mi pc : Nat} {y : si_M} {ls : si_L} {st : List Value} {h : si_H} {Q : Option Value → si_H → Prop} {q : Nat × Nat × Nat}
theorem jx_ic {k : ClassFile.Cond} {off : Int} {t : Nat} {a b : Int32} (hy : si_m mi = some y) (he : si_fetch mi pc = some (.if_icmp k off, 3, q)) (ht : si_tgt pc off = some t) (h1 : si_c2 k a b = true → az_X P d mi t ls st h Q) (h2 : si_c2 k a b = false → az_X P d mi (pc + 3) ls st h Q) : az_X P d mi pc ls (.int b :: .int a :: st) h Q := by
  cases hc : si_c2 k a b
  · refine az_X_step (pc' := pc + 3) (ls' := ls) (st' := st) (h' := h) hy he ?_ (h2 hc)
    unfold si_step
    dsimp only
    rw [if_pos rfl, ht]
    dsimp only
    rw [hc]
    rfl
  · refine az_X_step (pc' := t) (ls' := ls) (st' := st) (h' := h) hy he ?_ (h1 hc)
    unfold si_step
    dsimp only
    rw [if_pos rfl, ht]
    dsimp only
    rw [hc]
    rfl
theorem jx_if {k : ClassFile.Cond} {off : Int} {t : Nat} {a : Int32} (hy : si_m mi = some y) (he : si_fetch mi pc = some (.ifCond k off, 3, q)) (ht : si_tgt pc off = some t) (h1 : si_c1 k a = true → az_X P d mi t ls st h Q) (h2 : si_c1 k a = false → az_X P d mi (pc + 3) ls st h Q) : az_X P d mi pc ls (.int a :: st) h Q := by
  cases hc : si_c1 k a
  · refine az_X_step (pc' := pc + 3) (ls' := ls) (st' := st) (h' := h) hy he ?_ (h2 hc)
    unfold si_step
    dsimp only
    rw [if_pos rfl, ht]
    dsimp only
    rw [hc]
    rfl
  · refine az_X_step (pc' := t) (ls' := ls) (st' := st) (h' := h) hy he ?_ (h1 hc)
    unfold si_step
    dsimp only
    rw [if_pos rfl, ht]
    dsimp only
    rw [hc]
    rfl
theorem jx_rem {a b : Int32} (hy : si_m mi = some y) (he : si_fetch mi pc = some (.irem, 1, q)) (hb : b ≠ 0) (k : az_X P d mi (pc + 1) ls (.int (a - a / b * b) :: st) h Q) : az_X P d mi pc ls (.int b :: .int a :: st) h Q := by
  refine az_X_step (pc' := pc + 1) (ls' := ls) (st' := .int (a - a / b * b) :: st) (h' := h) hy he ?_ k
  unfold si_step
  dsimp only
  rw [if_pos rfl]
  (try dsimp only)
  unfold si_bin
  (try dsimp only)
  rw [if_neg hb]
theorem jx_div {a b : Int32} (hy : si_m mi = some y) (he : si_fetch mi pc = some (.idiv, 1, q)) (hb : b ≠ 0) (k : az_X P d mi (pc + 1) ls (.int (a / b) :: st) h Q) : az_X P d mi pc ls (.int b :: .int a :: st) h Q := by
  refine az_X_step (pc' := pc + 1) (ls' := ls) (st' := .int (a / b) :: st) (h' := h) hy he ?_ k
  unfold si_step
  dsimp only
  rw [if_pos rfl]
  (try dsimp only)
  unfold si_bin
  (try dsimp only)
  rw [if_neg hb]
theorem jx_ret {a : Int32} (hy : si_m mi = some y) (he : si_fetch mi pc = some (.ireturn, 1, q)) (hr : y.2.2.2.2.1 = some .int) (k : Q (some (.int a)) h) : az_X P d mi pc ls [.int a] h Q := by
  refine az_X_ret (rv := some (.int a)) hy he ?_ ?_ k
  · unfold si_step
    rfl
  · unfold si_ret
    dsimp only
    rw [hr]
    dsimp only
    rw [if_pos ⟨rfl, rfl⟩]
end Jx
theorem jem_tm {a b : Int} (hb : 1 ≤ b) : (a.tmod b < 0 → a % b = a.tmod b + b) ∧ (0 ≤ a.tmod b → a % b = a.tmod b) := by
  have h1 := Int.emod_nonneg a (show b ≠ 0 by omega)
  have h2 := Int.emod_lt_of_pos a (show 0 < b by omega)
  have h3 : (b.natAbs : Int) = b := Int.natAbs_of_nonneg (by omega)
  have h4 := Int.tmod_eq_emod (a := a) (b := b)
  by_cases hc : 0 ≤ a ∨ b ∣ a
  · rw [if_pos hc] at h4
    constructor <;> intro <;> omega
  · rw [if_neg hc] at h4
    constructor <;> intro <;> omega
/-- the class's remainder: never below 0 -/
theorem modulo_ok {P : si_P} {d : Nat} {h : si_H} (x y : Int32) (hy : 1 ≤ y.toInt) : az_X P d 200 0 (lv_args 0 [.int x, .int y]) [] h (fun rv h' => h' = h ∧ jV rv (x.toInt % y.toInt)) := by
  have hy0 : y ≠ 0 := fun e => by rw [e] at hy; exact absurd hy (by decide)
  have hm := nm_rem (x := x) hy
  have hb := nm_tmod (a := x.toInt) hy
  have yh := nm_hi y
  refine az_X_step (pc' := 1) (ls' := lv_args 0 [.int x, .int y]) (st' := [.int y]) (h' := h) rfl rfl rfl ?_
  refine az_X_step (pc' := 2) (ls' := lv_args 0 [.int x, .int y]) (st' := [.int 1, .int y]) (h' := h) rfl rfl rfl ?_
  refine jx_ic (t := 9) rfl rfl rfl (fun _ => ?_) (fun hc => absurd ((nm_leI 1 y).mpr hy) (of_decide_eq_false hc))
  refine az_X_step (pc' := 10) (ls' := lv_args 0 [.int x, .int y]) (st' := [.int x]) (h' := h) rfl rfl rfl ?_
  refine az_X_step (pc' := 11) (ls' := lv_args 0 [.int x, .int y]) (st' := [.int y, .int x]) (h' := h) rfl rfl rfl ?_
  refine jx_rem rfl rfl hy0 ?_
  generalize x - x / y * y = z at hm
  refine az_X_step (pc' := 13) (ls' := [(2, .int z), (0, .int x), (1, .int y)]) (st' := []) (h' := h) rfl rfl rfl ?_
  refine az_X_step (pc' := 14) (ls' := [(2, .int z), (0, .int x), (1, .int y)]) (st' := [.int z]) (h' := h) rfl rfl rfl ?_
  refine jx_if (t := 23) rfl rfl rfl (fun hc => ?_) (fun hc => ?_)
  · have hz : 0 ≤ z.toInt := by
      have := (nm_leI 0 z).mp (of_decide_eq_true hc)
      simpa using this
    refine az_X_step (pc' := 24) (ls' := [(2, .int z), (0, .int x), (1, .int y)]) (st' := [.int z]) (h' := h) rfl rfl rfl ?_
    exact jx_ret rfl rfl rfl ⟨rfl, z, rfl, by rw [(jem_tm hy).2 (by omega)]; exact hm⟩
  · have hz : z.toInt < 0 := by
      have := of_decide_eq_false hc
      have h0 : ¬ (0 : Int32).toInt ≤ z.toInt := fun e => this ((nm_leI 0 z).mpr e)
      have : (0 : Int32).toInt = 0 := by decide
      omega
    refine az_X_step (pc' := 18) (ls' := [(2, .int z), (0, .int x), (1, .int y)]) (st' := [.int z]) (h' := h) rfl rfl rfl ?_
    refine az_X_step (pc' := 19) (ls' := [(2, .int z), (0, .int x), (1, .int y)]) (st' := [.int y, .int z]) (h' := h) rfl rfl rfl ?_
    refine az_X_step (pc' := 20) (ls' := [(2, .int z), (0, .int x), (1, .int y)]) (st' := [.int (z + y)]) (h' := h) rfl rfl rfl ?_
    refine az_X_step (pc' := 24) (ls' := [(2, .int z), (0, .int x), (1, .int y)]) (st' := [.int (z + y)]) (h' := h) rfl rfl rfl ?_
    exact jx_ret rfl rfl rfl ⟨rfl, z + y, rfl, by rw [nm_add (by omega) (by omega), (jem_tm hy).1 (by omega)]; omega⟩
theorem jdn {x y : Int} (hy : 1 ≤ y) (hx : x < 0) : -((y - 1 - x) / y) = x / y := by
  have h1 := Int.mul_ediv_add_emod (y - 1 - x) y
  have h2 := Int.emod_nonneg (y - 1 - x) (show y ≠ 0 by omega)
  have h3 := Int.emod_lt_of_pos (y - 1 - x) (show 0 < y by omega)
  symm
  refine (Int.ediv_eq_iff_of_pos (by omega)).mpr ?_
  rw [Int.neg_mul, Int.mul_comm] 
  constructor <;> omega
/-- the reference's whole part, rounded down -/
theorem rdown_ok {P : si_P} {d : Nat} {h : si_H} (x y : Int32) (hy : 1 ≤ y.toInt) (hyb : y.toInt ≤ 100000) (hx : -100000000 ≤ x.toInt) : az_X P d 207 0 (lv_args 0 [.int x, .int y]) [] h (fun rv h' => h' = h ∧ jV rv (x.toInt / y.toInt)) := by
  have hy0 : y ≠ 0 := fun e => by rw [e] at hy; exact absurd hy (by decide)
  have e1 : (1 : Int32).toInt = 1 := by decide
  have e0 : (0 : Int32).toInt = 0 := by decide
  refine az_X_step (pc' := 1) (ls' := lv_args 0 [.int x, .int y]) (st' := [.int x]) (h' := h) rfl rfl rfl ?_
  refine jx_if (t := 10) rfl rfl rfl (fun hc => ?_) (fun hc => ?_)
  · have hx0 : x.toInt < 0 := by
      have := (nm_ltI x 0).mp (of_decide_eq_true hc)
      omega
    have a1 : (y - 1).toInt = y.toInt - 1 := by rw [nm_sub (by omega) (by omega)]; omega
    have a2 : (y - 1 - x).toInt = y.toInt - 1 - x.toInt := by rw [nm_sub (by omega) (by omega)]; omega
    refine az_X_step (pc' := 11) (ls' := lv_args 0 [.int x, .int y]) (st' := [.int y]) (h' := h) rfl rfl rfl ?_
    refine az_X_step (pc' := 12) (ls' := lv_args 0 [.int x, .int y]) (st' := [.int 1, .int y]) (h' := h) rfl rfl rfl ?_
    refine az_X_step (pc' := 13) (ls' := lv_args 0 [.int x, .int y]) (st' := [.int (y - 1)]) (h' := h) rfl rfl rfl ?_
    refine az_X_step (pc' := 14) (ls' := lv_args 0 [.int x, .int y]) (st' := [.int x, .int (y - 1)]) (h' := h) rfl rfl rfl ?_
    refine az_X_step (pc' := 15) (ls' := lv_args 0 [.int x, .int y]) (st' := [.int (y - 1 - x)]) (h' := h) rfl rfl rfl ?_
    refine az_X_step (pc' := 16) (ls' := lv_args 0 [.int x, .int y]) (st' := [.int y, .int (y - 1 - x)]) (h' := h) rfl rfl rfl ?_
    refine jx_div rfl rfl hy0 ?_
    have a3 : ((y - 1 - x) / y).toInt = (y.toInt - 1 - x.toInt) / y.toInt := by rw [nm_div hy, a2, nm_tdiv_nn (by omega)]
    have a4 : 0 ≤ (y.toInt - 1 - x.toInt) / y.toInt := Int.ediv_nonneg (by omega) (by omega)
    have a5 : (y.toInt - 1 - x.toInt) / y.toInt ≤ y.toInt - 1 - x.toInt := Int.ediv_le_self _ (by omega)
    generalize (y - 1 - x) / y = z at a3
    refine az_X_step (pc' := 18) (ls' := lv_args 0 [.int x, .int y]) (st' := [.int (-z)]) (h' := h) rfl rfl rfl ?_
    exact jx_ret rfl rfl rfl ⟨rfl, -z, rfl, by rw [nm_neg (by omega) (by omega), a3, jdn hy hx0]⟩
  · have hx0 : 0 ≤ x.toInt := by
      have : ¬ x.toInt < (0 : Int32).toInt := fun e => of_decide_eq_false hc ((nm_ltI x 0).mpr e)
      omega
    refine az_X_step (pc' := 5) (ls' := lv_args 0 [.int x, .int y]) (st' := [.int x]) (h' := h) rfl rfl rfl ?_
    refine az_X_step (pc' := 6) (ls' := lv_args 0 [.int x, .int y]) (st' := [.int y, .int x]) (h' := h) rfl rfl rfl ?_
    refine jx_div rfl rfl hy0 ?_
    refine az_X_step (pc' := 18) (ls' := lv_args 0 [.int x, .int y]) (st' := [.int (x / y)]) (h' := h) rfl rfl rfl ?_
    exact jx_ret rfl rfl rfl ⟨rfl, x / y, rfl, by rw [nm_div hy, nm_tdiv_nn hx0]⟩
/-- the reference's remainder -/
theorem rmod_ok {P : si_P} {d : Nat} {h : si_H} (x y : Int32) (hy : 1 ≤ y.toInt) (hyb : y.toInt ≤ 100000) (hx : -100000000 ≤ x.toInt) : az_X P (d + 1) 208 0 (lv_args 0 [.int x, .int y]) [] h (fun rv h' => h' = h ∧ jV rv (x.toInt % y.toInt)) := by
  refine az_X_step (pc' := 1) (ls' := lv_args 0 [.int x, .int y]) (st' := [.int x]) (h' := h) rfl rfl rfl ?_
  refine az_X_step (pc' := 2) (ls' := lv_args 0 [.int x, .int y]) (st' := [.int y, .int x]) (h' := h) rfl rfl rfl ?_
  refine az_X_step (pc' := 3) (ls' := lv_args 0 [.int x, .int y]) (st' := [.int x, .int y, .int x]) (h' := h) rfl rfl rfl ?_
  refine az_X_step (pc' := 4) (ls' := lv_args 0 [.int x, .int y]) (st' := [.int y, .int x, .int y, .int x]) (h' := h) rfl rfl rfl ?_
  refine az_X_call (m' := 207) (as := [.int x, .int y]) (rest := [.int y, .int x]) rfl rfl rfl rfl rfl rfl ?_
  refine (rdown_ok x y hy hyb hx).mono ?_
  rintro rv h' ⟨rfl, z, rfl, hz⟩
  show az_X P (d + 1) 208 7 (lv_args 0 [.int x, .int y]) [.int z, .int y, .int x] h' _
  have m1 := Int.mul_ediv_add_emod x.toInt y.toInt
  have m2 := Int.emod_nonneg x.toInt (show y.toInt ≠ 0 by omega)
  have m3 := Int.emod_lt_of_pos x.toInt (show 0 < y.toInt by omega)
  have xh := nm_hi x
  have a1 : (y * z).toInt = y.toInt * (x.toInt / y.toInt) := by rw [nm_mul (by rw [hz]; omega) (by rw [hz]; omega), hz]
  refine az_X_step (pc' := 8) (ls' := lv_args 0 [.int x, .int y]) (st' := [.int (y * z), .int x]) (h' := h') rfl rfl rfl ?_
  refine az_X_step (pc' := 9) (ls' := lv_args 0 [.int x, .int y]) (st' := [.int (x - y * z)]) (h' := h') rfl rfl rfl ?_
  exact jx_ret rfl rfl rfl ⟨rfl, x - y * z, rfl, by rw [nm_sub (by omega) (by omega), a1]; omega⟩
/-! as contracts: of what is at least 0; of what is nearer than the divisor; of what is not too far below -/
def jcP (m : Nat) (dp : Nat) : az_Ct := (m, ([(0, 100000), (1, 100000)], [], [], []), [.inl ([(0, 1)], 0), .inl ([(1, 1)], 0)], [(([(0, 100000), (1, 100000), (0, 99999)], [([(1, 1), (2, -1)], -1), ([(0, 1), (2, -1)], 0)], [(3, ([(0, 1)], 0), ([(1, 1)], 0), ([(2, 1)], 0))], []), some (.inl ([(2, 1)], 0)))], [], dp)
def jcS (m : Nat) (dp : Nat) : az_Ct := (m, ([(-100000, 100000), (1, 100000)], [([(1, 1), (0, -1)], -1), ([(1, 1), (0, 1)], -1)], [], []), [.inl ([(0, 1)], 0), .inl ([(1, 1)], 0)], [(([(-100000, 100000), (1, 100000)], [([(0, 1)], 0)], [], []), some (.inl ([(0, 1)], 0))), (([(-100000, 100000), (1, 100000)], [([(0, -1)], -1)], [], []), some (.inl ([(0, 1), (1, 1)], 0)))], [], dp)
def jcG (m : Nat) (dp : Nat) : az_Ct := (m, ([(-100000, 100000), (1, 100000)], [([(0, 1), (1, 400)], 0)], [], []), [.inl ([(0, 1)], 0), .inl ([(1, 1)], 0)], [(([(-100000, 100000), (1, 100000), (0, 99999)], [([(1, 1), (2, -1)], -1)], [(3, ([(0, 1), (1, 400)], 0), ([(1, 1)], 0), ([(2, 1)], 0))], []), some (.inl ([(2, 1)], 0)))], [], dp)
/-- a method that answers the remainder -/
def jrm (P : si_P) (m dp : Nat) : Prop := ∀ (d : Nat) (h : si_H) (x y : Int32), dp ≤ d → 1 ≤ y.toInt → y.toInt ≤ 100000 → -100000000 ≤ x.toInt → az_X P d m 0 (lv_args 0 [.int x, .int y]) [] h (fun rv h' => h' = h ∧ jV rv (x.toInt % y.toInt))
theorem jrm200 {P : si_P} : jrm P 200 0 := fun d h x y _ h1 _ _ => modulo_ok x y h1
theorem jrm208 {P : si_P} : jrm P 208 1 := fun d h x y hd h1 h2 h3 => by
  obtain ⟨d', rfl⟩ : ∃ d', d = d' + 1 := ⟨d - 1, by omega⟩
  exact rmod_ok x y h1 h2 h3
theorem jS2 {P : si_P} {ρ : Nat → Int} {n : Nat} {as : List Value} (hS : az_gS P ρ n [.inl ([(0, 1)], 0), .inl ([(1, 1)], 0)] as) : ∃ x y : Int32, as = [.int x, .int y] ∧ x.toInt = ρ 0 ∧ y.toInt = ρ 1 := by
  obtain ⟨w, s, rfl, -, hw, hS⟩ := az_gS_cons hS
  obtain ⟨w2, s2, rfl, -, hw2, hS⟩ := az_gS_cons hS
  cases jS_nil hS
  obtain ⟨x, rfl, hx⟩ := az_gV_int hw
  obtain ⟨y, rfl, hy⟩ := az_gV_int hw2
  have hx : x.toInt = 1 * ρ 0 + 0 + 0 := hx
  have hy : y.toInt = 1 * ρ 1 + 0 + 0 := hy
  exact ⟨x, y, rfl, by omega, by omega⟩
theorem jcP_ok {P : si_P} {J : si_H → Prop} {m dp : Nat} (hm : jrm P m dp) : az_ok J P az_tb (jcP m dp) ∧ az_wfct (jcP m dp) = true := by
  refine ⟨?_, rfl⟩
  intro d hd ρ h as hH hJ hg hS
  obtain ⟨x, y, rfl, ex, ey⟩ := jS2 hS
  have i0 : 0 ≤ ρ 0 ∧ ρ 0 ≤ 100000 := hg.1 0 _ rfl
  have i1 : 1 ≤ ρ 1 ∧ ρ 1 ≤ 100000 := hg.1 1 _ rfl
  refine (hm d h x y hd (by omega) (by omega) (by omega)).mono ?_
  rintro rv h1 ⟨rfl, hv⟩
  rw [ex, ey] at hv
  have m2 := Int.emod_nonneg (ρ 0) (show ρ 1 ≠ 0 by omega)
  have m3 := Int.emod_lt_of_pos (ρ 0) (show 0 < ρ 1 by omega)
  have m4 := nm_eml (a := ρ 0) (b := ρ 1) i0.1 i1.1
  refine ⟨hH, hJ, az_same_out.rf, _, List.mem_cons_self, az_up ρ 2 (ρ 0 % ρ 1), fun v hv => ?_, jg_mk hH (by decide) (by decide) ⟨i0, i1, ⟨m2, (by show ρ 0 % ρ 1 ≤ 99999; omega)⟩, trivial⟩ ⟨?_, ?_, trivial⟩ ⟨⟨?_, ?_, ?_⟩, trivial⟩ trivial, ?_⟩
  · have hv : v < 2 := hv
    unfold az_up
    rw [if_neg (by omega)]
  · show 0 ≤ (1 * ρ 1 + (-1 * (ρ 0 % ρ 1) + 0)) + -1
    omega
  · show 0 ≤ (1 * ρ 0 + (-1 * (ρ 0 % ρ 1) + 0)) + 0
    omega
  · show 0 ≤ (1 * ρ 0 + 0) + 0
    omega
  · show 1 ≤ (1 * ρ 1 + 0) + 0
    omega
  · show (1 * (ρ 0 % ρ 1) + 0) + 0 = ((1 * ρ 0 + 0) + 0) % ((1 * ρ 1 + 0) + 0)
    rw [show (1 * ρ 0 + 0) + 0 = ρ 0 by omega, show (1 * ρ 1 + 0) + 0 = ρ 1 by omega]
    omega
  · obtain ⟨z, rfl, hz⟩ := hv
    exact ⟨az_wfb_ok (by decide), (by show z.toInt = (1 * (ρ 0 % ρ 1) + 0) + 0; omega), trivial⟩
theorem jcG_ok {P : si_P} {J : si_H → Prop} {m dp : Nat} (hm : jrm P m dp) : az_ok J P az_tb (jcG m dp) ∧ az_wfct (jcG m dp) = true := by
  refine ⟨?_, rfl⟩
  intro d hd ρ h as hH hJ hg hS
  obtain ⟨x, y, rfl, ex, ey⟩ := jS2 hS
  have i0 : -100000 ≤ ρ 0 ∧ ρ 0 ≤ 100000 := hg.1 0 _ rfl
  have i1 : 1 ≤ ρ 1 ∧ ρ 1 ≤ 100000 := hg.1 1 _ rfl
  have f0 : 0 ≤ (1 * ρ 0 + (400 * ρ 1 + 0)) + 0 := (jgF_un hg.2.1).1
  refine (hm d h x y hd (by omega) (by omega) (by omega)).mono ?_
  rintro rv h1 ⟨rfl, hv⟩
  rw [ex, ey] at hv
  have m2 := Int.emod_nonneg (ρ 0) (show ρ 1 ≠ 0 by omega)
  have m3 := Int.emod_lt_of_pos (ρ 0) (show 0 < ρ 1 by omega)
  refine ⟨hH, hJ, az_same_out.rf, _, List.mem_cons_self, az_up ρ 2 (ρ 0 % ρ 1), fun v hv => ?_, jg_mk hH (by decide) (by decide) ⟨i0, i1, ⟨m2, (by show ρ 0 % ρ 1 ≤ 99999; omega)⟩, trivial⟩ ⟨?_, trivial⟩ ⟨⟨?_, ?_, ?_⟩, trivial⟩ trivial, ?_⟩
  · have hv : v < 2 := hv
    unfold az_up
    rw [if_neg (by omega)]
  · show 0 ≤ (1 * ρ 1 + (-1 * (ρ 0 % ρ 1) + 0)) + -1
    omega
  · show 0 ≤ (1 * ρ 0 + (400 * ρ 1 + 0)) + 0
    omega
  · show 1 ≤ (1 * ρ 1 + 0) + 0
    omega
  · show (1 * (ρ 0 % ρ 1) + 0) + 0 = ((1 * ρ 0 + (400 * ρ 1 + 0)) + 0) % ((1 * ρ 1 + 0) + 0)
    rw [show (1 * ρ 0 + (400 * ρ 1 + 0)) + 0 = ρ 0 + ρ 1 * 400 by omega, show (1 * ρ 1 + 0) + 0 = ρ 1 by omega, Int.add_mul_emod_self_left]
    omega
  · obtain ⟨z, rfl, hz⟩ := hv
    exact ⟨az_wfb_ok (by decide), (by show z.toInt = (1 * (ρ 0 % ρ 1) + 0) + 0; omega), trivial⟩
theorem jems {a b : Int} (h1 : a < b) (h2 : -b < a) : (0 ≤ a → a % b = a) ∧ (a < 0 → a % b = a + b) := by
  refine ⟨fun h => Int.emod_eq_of_lt h h1, fun h => ?_⟩
  have : (a + b) % b = a % b := Int.add_emod_right a b
  rw [← this]
  exact Int.emod_eq_of_lt (by omega) (by omega)
theorem jcS_ok {P : si_P} {J : si_H → Prop} {m dp : Nat} (hm : jrm P m dp) : az_ok J P az_tb (jcS m dp) ∧ az_wfct (jcS m dp) = true := by
  refine ⟨?_, rfl⟩
  intro d hd ρ h as hH hJ hg hS
  obtain ⟨x, y, rfl, ex, ey⟩ := jS2 hS
  have i0 : -100000 ≤ ρ 0 ∧ ρ 0 ≤ 100000 := hg.1 0 _ rfl
  have i1 : 1 ≤ ρ 1 ∧ ρ 1 ≤ 100000 := hg.1 1 _ rfl
  have f0 : 0 ≤ (1 * ρ 1 + (-1 * ρ 0 + 0)) + -1 := (jgF_un hg.2.1).1
  have f1 : 0 ≤ (1 * ρ 1 + (1 * ρ 0 + 0)) + -1 := (jgF_un hg.2.1).2.1
  refine (hm d h x y hd (by omega) (by omega) (by omega)).mono ?_
  rintro rv h1 ⟨rfl, hv⟩
  rw [ex, ey] at hv
  obtain ⟨z, rfl, hz⟩ := hv
  rcases Int.lt_or_le (ρ 0) 0 with hn | hn
  · rw [(jems (by omega) (by omega)).2 hn] at hz
    refine ⟨hH, hJ, az_same_out.rf, _, List.mem_cons_of_mem _ List.mem_cons_self, ρ, az_ext.rf, jg_mk hH (by decide) (by decide) ⟨i0, i1, trivial⟩ ⟨?_, trivial⟩ trivial trivial, az_wfb_ok (by decide), ?_, trivial⟩
    · show 0 ≤ (-1 * ρ 0 + 0) + -1
      omega
    · show z.toInt = (1 * ρ 0 + (1 * ρ 1 + 0)) + 0
      omega
  · rw [(jems (by omega) (by omega)).1 hn] at hz
    refine ⟨hH, hJ, az_same_out.rf, _, List.mem_cons_self, ρ, az_ext.rf, jg_mk hH (by decide) (by decide) ⟨i0, i1, trivial⟩ ⟨?_, trivial⟩ trivial trivial, az_wfb_ok (by decide), ?_, trivial⟩
    · show 0 ≤ (1 * ρ 0 + 0) + 0
      omega
    · show z.toInt = (1 * ρ 0 + 0) + 0
      omega
def cm_p : az_Ct := jcP 200 0
def cm_s : az_Ct := jcS 200 0
def cm_g : az_Ct := jcG 200 0
def cr_p : az_Ct := jcP 208 1
def cr_s : az_Ct := jcS 208 1
def cr_g : az_Ct := jcG 208 1
theorem cm_p_ok {P : si_P} {J : si_H → Prop} : az_ok J P az_tb cm_p ∧ az_wfct cm_p = true := jcP_ok jrm200
theorem cm_s_ok {P : si_P} {J : si_H → Prop} : az_ok J P az_tb cm_s ∧ az_wfct cm_s = true := jcS_ok jrm200
theorem cm_g_ok {P : si_P} {J : si_H → Prop} : az_ok J P az_tb cm_g ∧ az_wfct cm_g = true := jcG_ok jrm200
theorem cr_p_ok {P : si_P} {J : si_H → Prop} : az_ok J P az_tb cr_p ∧ az_wfct cr_p = true := jcP_ok jrm208
theorem cr_s_ok {P : si_P} {J : si_H → Prop} : az_ok J P az_tb cr_s ∧ az_wfct cr_s = true := jcS_ok jrm208
theorem cr_g_ok {P : si_P} {J : si_H → Prop} : az_ok J P az_tb cr_g ∧ az_wfct cr_g = true := jcG_ok jrm208
