/-! THE CHECKER, 4: the operations -/
def az_top (C : az_C) : az_C × az_L := az_fr C (-2147483648) 2147483647
section AzOps
variable {P : si_P} {ρ : Nat → Int} {h : si_H} {C : az_C}
theorem az_top_out (z : Int32) (hg : az_g P ρ h C) : az_out P ρ h C (az_top C) z.toInt := az_fr_out hg (nm_lo z) (nm_hi z)
/-- a quotient's product: of q = (1, a, b, c) with c = a / b, the number b * c -/
def az_back (C : az_C) (q : az_N) : Option (az_C × az_L) := match az_ub C.1 q.2.1 with
  | some u => if u ≤ 2147483647 then some (az_fact (az_fact (az_new C (0, u)) (az_sub q.2.1 (az_v C.1.length))) (az_sub (az_add (az_v C.1.length) (az_plus q.2.2.1 (-1))) q.2.1), az_v C.1.length) else none
  | none => none
theorem az_back_out {q : az_N} {r : az_C × az_L} (hg : az_g P ρ h C) (hm : q ∈ C.2.2.1) (h1 : q.1 = 1) (hr : az_back C q = some r) : az_out P ρ h C r (az_ev ρ q.2.2.1 * az_ev ρ q.2.2.2) ∧ 0 ≤ az_ev ρ q.2.2.1 * az_ev ρ q.2.2.2 ∧ az_ev ρ q.2.2.1 * az_ev ρ q.2.2.2 ≤ 2147483647 := by
  obtain ⟨k1, k2⟩ := hg.2.2.1 q hm
  obtain ⟨a1, a2, a3⟩ := k1.2.1 h1
  have m1 := Int.mul_ediv_add_emod (az_ev ρ q.2.1) (az_ev ρ q.2.2.1)
  have m2 := Int.emod_nonneg (az_ev ρ q.2.1) (show az_ev ρ q.2.2.1 ≠ 0 by omega)
  have m3 := Int.emod_lt_of_pos (az_ev ρ q.2.1) (show 0 < az_ev ρ q.2.2.1 by omega)
  have m4 : 0 ≤ az_ev ρ q.2.2.1 * az_ev ρ q.2.2.2 := Int.mul_nonneg (by omega) (by rw [a3]; exact Int.ediv_nonneg a1 (by omega))
  rw [← a3] at m1
  unfold az_back at hr
  split at hr
  · rename_i u hu
    have hu' := az_ub_ok hg.1 hu
    split at hr
    · rename_i hu2
      cases hr
      refine ⟨?_, m4, by omega⟩
      have hn : (az_new C (0, u)).1.length = C.1.length + 1 := by simp [az_new]
      have ho := az_fr_out (lo := 0) (hi := u) hg m4 (by omega)
      have ho2 := ho.fact (a := az_sub q.2.1 (az_v C.1.length)) (fun σ hx hz => by
        have hz : _ = az_ev σ (az_v C.1.length) := hz
        rw [az_sub_ev, ← hz, hx.ev k2.1]
        omega) (az_wf_sub (k2.1.mono (by show _ ≤ (az_new C (0, u)).1.length; omega)) (az_wf_v (by show _ < (az_new C (0, u)).1.length; omega)))
      refine ho2.fact (a := az_sub (az_add (az_v C.1.length) (az_plus q.2.2.1 (-1))) q.2.1) (fun σ hx hz => ?_) ?_
      · have hz : _ = az_ev σ (az_v C.1.length) := hz
        rw [az_sub_ev, az_add_ev, az_plus_ev, ← hz, hx.ev k2.1, hx.ev k2.2.1]
        omega
      · have hn2 : (az_fact (az_new C (0, u)) (az_sub q.2.1 (az_v C.1.length))).1.length = C.1.length + 1 := by
          show (az_nar _ _ _).length = _
          rw [az_nar_len]
          exact hn
        show az_wf (az_fact (az_new C (0, u)) (az_sub q.2.1 (az_v C.1.length))).1.length _
        rw [hn2]
        exact az_wf_sub (az_wf_add (az_wf_v (Nat.lt_succ_self _)) (az_wf_plus (k2.2.1.mono (Nat.le_succ _)))) (k2.1.mono (Nat.le_succ _))
    · cases hr
  · cases hr
def az_mx (a b : Int) : Int := if b < -a then -a else b
theorem az_mx_ok {a b z : Int} (h1 : a ≤ z) (h2 : z ≤ b) : -az_mx a b ≤ z ∧ z ≤ az_mx a b := by
  unfold az_mx
  split <;> omega
def az_mul (C : az_C) (x y : az_L) : az_C × az_L := match x.1, y.1 with
  | [], _ => az_val C (az_scl x.2 y)
  | _, [] => az_val C (az_scl y.2 x)
  | _, _ => match C.2.2.1.find? (fun q => decide (q.1 = 0) && ((az_same q.2.1 x && az_same q.2.2.1 y) || (az_same q.2.1 y && az_same q.2.2.1 x))) with
    | some q => az_val C q.2.2.2
    | none => match C.2.2.1.find? (fun q => decide (q.1 = 1) && ((az_same q.2.2.1 x && az_same q.2.2.2 y) || (az_same q.2.2.1 y && az_same q.2.2.2 x))) with
      | some q => (match az_back C q with
        | some r => r
        | none => az_top C)
      | none => match C.2.2.1.find? (fun q => decide (q.1 = 1) && ((az_same q.2.2.1 x && az_same q.2.2.2 (az_scl (-1) y)) || (az_same q.2.2.1 y && az_same q.2.2.2 (az_scl (-1) x)))) with
        | some q => (match az_back C q with
          | some r => (r.1, az_scl (-1) r.2)
          | none => az_top C)
        | none => match az_lb C.1 x, az_ub C.1 x, az_lb C.1 y, az_ub C.1 y with
          | some a, some b, some c, some d => if 0 ≤ a ∧ 0 ≤ c ∧ b * d ≤ 2147483647 then (az_addN (az_new C (a * c, b * d)) (0, x, y, az_v C.1.length), az_v C.1.length) else
              if (az_mx a b) * (az_mx c d) ≤ 2147483647 then (az_addN (az_new C (-((az_mx a b) * (az_mx c d)), (az_mx a b) * (az_mx c d))) (0, x, y, az_v C.1.length), az_v C.1.length) else az_top C
          | _, _, _, _ => az_top C
theorem az_const_ev {x : az_L} (hx : x.1 = []) : az_ev ρ x = x.2 := by
  unfold az_ev
  rw [hx]
  simp [az_evL]
theorem az_prod_out {a b : Int} {x y : az_L} {z : Int32} (hg : az_g P ρ h C) (hwx : az_wf C.1.length x) (hwy : az_wf C.1.length y) (hz : z.toInt = az_ev ρ x * az_ev ρ y) (h1 : a ≤ z.toInt) (h2 : z.toInt ≤ b) : az_out P ρ h C (az_addN (az_new C (a, b)) (0, x, y, az_v C.1.length), az_v C.1.length) z.toInt := by
  have ho := az_fr_out (lo := a) (hi := b) hg h1 h2
  refine ho.addN (q := (0, x, y, az_v C.1.length)) (fun σ hx hz2 => ⟨fun _ => ?_, fun e => (by cases e), fun e => (by cases e), fun e => (by cases e), fun e => (by cases e)⟩) ?_
  · show az_ev σ x * az_ev σ y = az_ev σ (az_v C.1.length)
    rw [hx.ev hwx, hx.ev hwy, ← hz]
    exact hz2
  · have hn : (az_fr C a b).1.1.length = C.1.length + 1 := by simp [az_fr, az_new]
    rw [hn]
    exact ⟨hwx.mono (Nat.le_succ _), hwy.mono (Nat.le_succ _), az_wf_v (Nat.lt_succ_self _)⟩
theorem az_mul_out {lx ly : az_L} {x y : Int32} (hg : az_g P ρ h C) (hwx : az_wf C.1.length lx) (hwy : az_wf C.1.length ly) (hx : x.toInt = az_ev ρ lx) (hy : y.toInt = az_ev ρ ly) : az_out P ρ h C (az_mul C lx ly) (x * y).toInt := by
  have hm : (x * y).toInt = (az_ev ρ lx * az_ev ρ ly).bmod (2 ^ 32) := by rw [Int32.toInt_mul, hx, hy]
  have l1 := nm_lo (x * y)
  have l2 := nm_hi (x * y)
  unfold az_mul
  split
  · rename_i he
    refine az_val_out hg (az_wf_scl hwy) ?_ l1 l2
    rw [hm, az_scl_ev, az_const_ev he]
  · rename_i he _
    refine az_val_out hg (az_wf_scl hwx) ?_ l1 l2
    rw [hm, az_scl_ev, az_const_ev he, Int.mul_comm]
  · split
    · rename_i q hq
      have hmem := List.mem_of_find?_eq_some hq
      have hp := List.find?_some hq
      simp only [Bool.and_eq_true, Bool.or_eq_true, decide_eq_true_eq] at hp
      obtain ⟨k1, k2⟩ := hg.2.2.1 q hmem
      refine az_val_out hg k2.2.2 ?_ l1 l2
      rw [hm, ← k1.1 hp.1]
      rcases hp.2 with ⟨e1, e2⟩ | ⟨e1, e2⟩
      · rw [az_same_ev e1, az_same_ev e2]
      · rw [az_same_ev e1, az_same_ev e2, Int.mul_comm]
    · split
      · rename_i q hq
        have hmem := List.mem_of_find?_eq_some hq
        have hp := List.find?_some hq
        simp only [Bool.and_eq_true, Bool.or_eq_true, decide_eq_true_eq] at hp
        split
        · rename_i r hr
          obtain ⟨o1, o2, o3⟩ := az_back_out hg hmem hp.1 hr
          have e : az_ev ρ q.2.2.1 * az_ev ρ q.2.2.2 = az_ev ρ lx * az_ev ρ ly := by
            rcases hp.2 with ⟨e1, e2⟩ | ⟨e1, e2⟩
            · rw [az_same_ev e1, az_same_ev e2]
            · rw [az_same_ev e1, az_same_ev e2, Int.mul_comm]
          rw [e] at o1 o2 o3
          rw [hm, nm_bm (by omega) o3]
          exact o1
        · exact az_top_out _ hg
      · split
        · rename_i q hq
          have hmem := List.mem_of_find?_eq_some hq
          have hp := List.find?_some hq
          simp only [Bool.and_eq_true, Bool.or_eq_true, decide_eq_true_eq] at hp
          split
          · rename_i r hr
            obtain ⟨o1, o2, o3⟩ := az_back_out hg hmem hp.1 hr
            have e : az_ev ρ q.2.2.1 * az_ev ρ q.2.2.2 = -(az_ev ρ lx * az_ev ρ ly) := by
              rcases hp.2 with ⟨e1, e2⟩ | ⟨e1, e2⟩
              · rw [az_same_ev e1, az_same_ev e2, az_scl_ev, Int.neg_one_mul, Int.mul_neg]
              · rw [az_same_ev e1, az_same_ev e2, az_scl_ev, Int.neg_one_mul, Int.mul_neg, Int.mul_comm]
            rw [e] at o1 o2 o3
            obtain ⟨σ, s1, s2, s3, s4, s5⟩ := o1
            rw [hm, nm_bm (by omega) (by omega)]
            exact ⟨σ, s1, s2, s3, az_wf_scl s4, by rw [az_scl_ev, ← s5]; omega⟩
          · exact az_top_out _ hg
        · split
          · rename_i a b c d ha hb hc hd
            have a1 := az_lb_ok hg.1 ha
            have a2 := az_ub_ok hg.1 hb
            have a3 := az_lb_ok hg.1 hc
            have a4 := az_ub_ok hg.1 hd
            split
            · rename_i hcond
              have := nm_mulnn hcond.1 hcond.2.1 a1 a2 a3 a4
              have h0 : 0 ≤ a * c := Int.mul_nonneg hcond.1 hcond.2.1
              have hz : (x * y).toInt = az_ev ρ lx * az_ev ρ ly := by rw [hm, nm_bm (by omega) (by omega)]
              exact az_prod_out hg hwx hwy hz (by rw [hz]; exact this.1) (by rw [hz]; exact this.2)
            · split
              · rename_i hcond
                have m1 := az_mx_ok a1 a2
                have n1 := az_mx_ok a3 a4
                have := nm_mulabs m1.1 m1.2 n1.1 n1.2
                have hz : (x * y).toInt = az_ev ρ lx * az_ev ρ ly := by rw [hm, nm_bm (by omega) (by omega)]
                exact az_prod_out hg hwx hwy hz (by rw [hz]; exact this.1) (by rw [hz]; exact this.2)
              · exact az_top_out _ hg
          · exact az_top_out _ hg
/-- products that end above what is divided: then the quotient ends below the other factor -/
def az_dvf (C0 : az_C) (x y q : az_L) : List az_N → az_C → az_C
  | [], C => C
  | n :: r, C => az_dvf C0 x y q r (if n.1 = 0 ∧ az_same n.2.2.1 y = true ∧ az_p1 C0.1 C0.2.1 (az_plus (az_sub n.2.2.2 x) (-1)) = true then az_fact C (az_plus (az_sub n.2.1 q) (-1)) else if n.1 = 0 ∧ az_same n.2.1 y = true ∧ az_p1 C0.1 C0.2.1 (az_plus (az_sub n.2.2.2 x) (-1)) = true then az_fact C (az_plus (az_sub n.2.2.1 q) (-1)) else C)
theorem az_dv_lt {m r z x q : Int} (hr : 1 ≤ r) (hz : m * r = z) (hx : x ≤ z - 1) (hq : q = x / r) : 0 ≤ m - q + -1 := by
  have h1 : x / r < m := by
    refine Int.ediv_lt_of_lt_mul (by omega) ?_
    omega
  omega
theorem az_dvf_out {x y q : az_L} {z : Int} (hg : az_g P ρ h C) (hwx : az_wf C.1.length x) (hwy : az_wf C.1.length y) (hy : 1 ≤ az_ev ρ y) (hz : z = az_ev ρ x / az_ev ρ y) : ∀ (l : List az_N) (D : az_C), (∀ n ∈ l, n ∈ C.2.2.1) → az_out P ρ h C (D, q) z → az_out P ρ h C (az_dvf C x y q l D, q) z
  | [], _, _, ho => ho
  | n :: r, D, hl, ho => by
    unfold az_dvf
    have hr : ∀ k ∈ r, k ∈ C.2.2.1 := fun k hk => hl k (List.mem_cons_of_mem _ hk)
    obtain ⟨k1, k2⟩ := hg.2.2.1 n (hl n List.mem_cons_self)
    have hlen : C.1.length ≤ D.1.length := by
      obtain ⟨σ, _, _, h3, _⟩ := ho
      exact h3
    have hwq : az_wf D.1.length q := by
      obtain ⟨σ, _, _, _, h4, _⟩ := ho
      exact h4
    split
    · rename_i hc
      obtain ⟨c1, c2, c3⟩ := hc
      have p1 := az_p1_g hg c3
      rw [az_plus_ev, az_sub_ev] at p1
      refine az_dvf_out hg hwx hwy hy hz r _ hr (ho.fact (fun σ hx hzq => ?_) (az_wf_plus (az_wf_sub (k2.1.mono hlen) hwq)))
      rw [az_plus_ev, az_sub_ev, hx.ev k2.1]
      exact az_dv_lt (z := az_ev ρ n.2.2.2) (x := az_ev ρ x) hy (by rw [← az_same_ev (ρ := ρ) c2]; exact k1.1 c1) (by omega) (by rw [← hzq]; exact hz)
    · split
      · rename_i hc
        obtain ⟨c1, c2, c3⟩ := hc
        have p1 := az_p1_g hg c3
        rw [az_plus_ev, az_sub_ev] at p1
        refine az_dvf_out hg hwx hwy hy hz r _ hr (ho.fact (fun σ hx hzq => ?_) (az_wf_plus (az_wf_sub (k2.2.1.mono hlen) hwq)))
        rw [az_plus_ev, az_sub_ev, hx.ev k2.2.1]
        exact az_dv_lt (z := az_ev ρ n.2.2.2) (x := az_ev ρ x) hy (by rw [← az_same_ev (ρ := ρ) c2, Int.mul_comm]; exact k1.1 c1) (by omega) (by rw [← hzq]; exact hz)
      · exact az_dvf_out hg hwx hwy hy hz r _ hr ho
def az_div (C : az_C) (x y : az_L) : Option (az_C × az_L) := if az_p1 C.1 C.2.1 (az_plus y (-1)) then (if az_p1 C.1 C.2.1 x then (match az_ub C.1 x, az_lb C.1 y with
    | some u, some l => some (az_addN (az_dvf C x y (az_v C.1.length) C.2.2.1 (match y.1 with
      | [] => az_fact (az_fact (az_new C (0, (if u < 0 then 0 else u) / (if l < 1 then 1 else l))) (az_sub x (az_scl y.2 (az_v C.1.length)))) (az_sub (az_plus (az_scl y.2 (az_v C.1.length)) (y.2 - 1)) x)
      | _ => az_fact (az_new C (0, (if u < 0 then 0 else u) / (if l < 1 then 1 else l))) (az_sub x (az_v C.1.length)))) (1, x, y, az_v C.1.length), az_v C.1.length)
    | _, _ => some (az_top C)) else some (az_top C)) else if az_p1 C.1 C.2.1 (az_plus (az_scl (-1) y) (-1)) then some (az_top C) else none
theorem az_fact_len {C : az_C} {a : az_L} : (az_fact C a).1.length = C.1.length := az_nar_len
theorem az_div_out {lx ly : az_L} {x y : Int32} {r : az_C × az_L} (hg : az_g P ρ h C) (hwx : az_wf C.1.length lx) (hwy : az_wf C.1.length ly) (hx : x.toInt = az_ev ρ lx) (hy : y.toInt = az_ev ρ ly) (hr : az_div C lx ly = some r) : ¬ y = 0 ∧ az_out P ρ h C r (x / y).toInt := by
  unfold az_div at hr
  split at hr
  · rename_i hp
    have p1 := az_p1_g hg hp
    rw [az_plus_ev] at p1
    have hy1 : 1 ≤ az_ev ρ ly := by omega
    refine ⟨fun e => ?_, ?_⟩
    · rw [e] at hy
      have : (0 : Int32).toInt = 0 := rfl
      omega
    · split at hr
      · rename_i hp2
        have p2 := az_p1_g hg hp2
        have hq : (x / y).toInt = az_ev ρ lx / az_ev ρ ly := by rw [nm_div (by omega), hx, hy, nm_tdiv_nn p2]
        split at hr
        · rename_i u l' hu hl
          have u1 := az_ub_ok hg.1 hu
          have l1 := az_lb_ok hg.1 hl
          cases hr
          rw [hq]
          have b0 : 0 ≤ az_ev ρ lx / az_ev ρ ly := Int.ediv_nonneg p2 (by omega)
          have mm := Int.mul_ediv_add_emod (az_ev ρ lx) (az_ev ρ ly)
          have m2 := Int.emod_nonneg (az_ev ρ lx) (show az_ev ρ ly ≠ 0 by omega)
          have m3 := Int.emod_lt_of_pos (az_ev ρ lx) (show 0 < az_ev ρ ly by omega)
          have bq : az_ev ρ lx / az_ev ρ ly ≤ az_ev ρ lx := Int.ediv_le_self _ p2
          have b1 : az_ev ρ lx / az_ev ρ ly ≤ (if u < 0 then 0 else u) / (if l' < 1 then 1 else l') := by
            have f1 : 1 ≤ (if l' < 1 then 1 else l') ∧ (if l' < 1 then 1 else l') ≤ az_ev ρ ly := by split <;> omega
            have f2 : az_ev ρ lx ≤ (if u < 0 then 0 else u) := by split <;> omega
            generalize (if l' < 1 then 1 else l') = Lq at f1 ⊢
            generalize (if u < 0 then 0 else u) = Uq at f2 ⊢
            refine Int.le_ediv_of_mul_le (by omega) ?_
            have : (az_ev ρ lx / az_ev ρ ly) * Lq ≤ (az_ev ρ lx / az_ev ρ ly) * az_ev ρ ly := Int.mul_le_mul_of_nonneg_left f1.2 b0
            rw [Int.mul_comm (az_ev ρ lx / az_ev ρ ly) (az_ev ρ ly)] at this
            omega
          generalize hB : (if u < 0 then 0 else u) / (if l' < 1 then 1 else l') = Bq at b1 ⊢
          have ho := az_fr_out (lo := 0) (hi := Bq) hg b0 b1
          have hn : (az_new C (0, Bq)).1.length = C.1.length + 1 := by simp [az_new]
          have wv : az_wf (C.1.length + 1) (az_v C.1.length) := az_wf_v (Nat.lt_succ_self _)
          have wx : az_wf (C.1.length + 1) lx := hwx.mono (Nat.le_succ _)
          have wy : az_wf (C.1.length + 1) ly := hwy.mono (Nat.le_succ _)
          have hmid : az_out P ρ h C ((match ly.1 with
              | [] => az_fact (az_fact (az_new C (0, Bq)) (az_sub lx (az_scl ly.2 (az_v C.1.length)))) (az_sub (az_plus (az_scl ly.2 (az_v C.1.length)) (ly.2 - 1)) lx)
              | _ => az_fact (az_new C (0, Bq)) (az_sub lx (az_v C.1.length))), az_v C.1.length) (az_ev ρ lx / az_ev ρ ly) := by
            split
            · rename_i he
              have ec : az_ev ρ ly = ly.2 := az_const_ev he
              have ho2 := ho.fact (a := az_sub lx (az_scl ly.2 (az_v C.1.length))) (fun σ hxx hz => by
                have hz : _ = az_ev σ (az_v C.1.length) := hz
                rw [az_sub_ev, az_scl_ev, ← hz, hxx.ev hwx, ← ec]
                omega) (by show az_wf (az_new C (0, Bq)).1.length _; rw [hn]; exact az_wf_sub wx (az_wf_scl wv))
              refine ho2.fact (a := az_sub (az_plus (az_scl ly.2 (az_v C.1.length)) (ly.2 - 1)) lx) (fun σ hxx hz => ?_) ?_
              · have hz : _ = az_ev σ (az_v C.1.length) := hz
                rw [az_sub_ev, az_plus_ev, az_scl_ev, ← hz, hxx.ev hwx, ← ec]
                omega
              · show az_wf (az_fact (az_new C (0, Bq)) _).1.length _
                rw [az_fact_len, hn]
                exact az_wf_sub (az_wf_plus (az_wf_scl wv)) wx
            · refine ho.fact (a := az_sub lx (az_v C.1.length)) (fun σ hxx hz => ?_) ?_
              · have hz : _ = az_ev σ (az_v C.1.length) := hz
                rw [az_sub_ev, ← hz, hxx.ev hwx]
                omega
              · show az_wf (az_new C (0, Bq)).1.length _
                rw [hn]
                exact az_wf_sub wx wv
          have hd := az_dvf_out hg hwx hwy hy1 rfl C.2.2.1 _ (fun n hn => hn) hmid
          refine hd.addN (q := (1, lx, ly, az_v C.1.length)) (fun σ hxx hz => ⟨fun e => (by cases e), fun _ => ?_, fun e => (by cases e), fun e => (by cases e), fun e => (by cases e)⟩) ?_
          · show 0 ≤ az_ev σ lx ∧ 1 ≤ az_ev σ ly ∧ az_ev σ (az_v C.1.length) = az_ev σ lx / az_ev σ ly
            rw [hxx.ev hwx, hxx.ev hwy]
            exact ⟨p2, hy1, hz.symm⟩
          · obtain ⟨σ, _, _, h3, h4, _⟩ := hd
            exact ⟨hwx.mono h3, hwy.mono h3, h4⟩
        · cases hr
          exact az_top_out _ hg
      · cases hr
        exact az_top_out _ hg
  · split at hr
    · rename_i hp
      have p1 := az_p1_g hg hp
      rw [az_plus_ev, az_scl_ev] at p1
      cases hr
      refine ⟨fun e => ?_, az_top_out _ hg⟩
      rw [e] at hy
      have : (0 : Int32).toInt = 0 := rfl
      omega
    · cases hr
def az_rem (C : az_C) (x y : az_L) : Option (az_C × az_L) := if az_p1 C.1 C.2.1 (az_plus y (-1)) then (match az_ub C.1 y with
    | some u => if az_p1 C.1 C.2.1 x then (match C.2.2.1.find? (fun q => decide (q.1 = 3) && (az_same q.2.1 x && az_same q.2.2.1 y)) with
      | some q => some (C, q.2.2.2)
      | none => some (az_addN (az_fact (az_fact (az_new C (0, u - 1)) (az_plus (az_sub y (az_v C.1.length)) (-1))) (az_sub x (az_v C.1.length))) (3, x, y, az_v C.1.length), az_v C.1.length)) else some (az_fact (az_fact (az_new C (1 - u, u - 1)) (az_plus (az_sub y (az_v C.1.length)) (-1))) (az_plus (az_add y (az_v C.1.length)) (-1)), az_v C.1.length)
    | none => some (az_top C)) else if az_p1 C.1 C.2.1 (az_plus (az_scl (-1) y) (-1)) then some (az_top C) else none
theorem az_rem_out {lx ly : az_L} {x y : Int32} {r : az_C × az_L} (hg : az_g P ρ h C) (hwx : az_wf C.1.length lx) (hwy : az_wf C.1.length ly) (hx : x.toInt = az_ev ρ lx) (hy : y.toInt = az_ev ρ ly) (hr : az_rem C lx ly = some r) : ¬ y = 0 ∧ az_out P ρ h C r (x - x / y * y).toInt := by
  unfold az_rem at hr
  split at hr
  · rename_i hp
    have p1 := az_p1_g hg hp
    rw [az_plus_ev] at p1
    have hy1 : 1 ≤ az_ev ρ ly := by omega
    refine ⟨fun e => ?_, ?_⟩
    · rw [e] at hy
      have : (0 : Int32).toInt = 0 := rfl
      omega
    · have hq : (x - x / y * y).toInt = (az_ev ρ lx).tmod (az_ev ρ ly) := by rw [nm_rem (by omega), hx, hy]
      have wv : az_wf (C.1.length + 1) (az_v C.1.length) := az_wf_v (Nat.lt_succ_self _)
      have wx : az_wf (C.1.length + 1) lx := hwx.mono (Nat.le_succ _)
      have wy : az_wf (C.1.length + 1) ly := hwy.mono (Nat.le_succ _)
      have hn : ∀ b : Int × Int, (az_new C b).1.length = C.1.length + 1 := fun b => by simp [az_new]
      split at hr
      · rename_i u hu
        have u1 := az_ub_ok hg.1 hu
        rw [hq]
        split at hr
        · rename_i hp2
          have p2 := az_p1_g hg hp2
          have t := nm_tmod_nn p2 hy1
          have te : (az_ev ρ lx).tmod (az_ev ρ ly) = az_ev ρ lx % az_ev ρ ly := Int.tmod_eq_emod_of_nonneg p2
          split at hr
          · rename_i q hq3
            have hm := List.mem_of_find?_eq_some hq3
            have hp3 := List.find?_some hq3
            simp only [Bool.and_eq_true, decide_eq_true_eq] at hp3
            obtain ⟨k1, k2⟩ := hg.2.2.1 q hm
            cases hr
            refine az_out_id hg k2.2.2 ?_
            have := (k1.2.2.2.1 hp3.1).2.2
            rw [te, this, az_same_ev hp3.2.1, az_same_ev hp3.2.2]
          · cases hr
            have ho := az_fr_out (lo := 0) (hi := u - 1) hg t.1 (by omega)
            have ho2 := ho.fact (a := az_plus (az_sub ly (az_v C.1.length)) (-1)) (fun σ hxx hz => by
              have hz : _ = az_ev σ (az_v C.1.length) := hz
              rw [az_plus_ev, az_sub_ev, ← hz, hxx.ev hwy]
              omega) (by show az_wf (az_new C _).1.length _; rw [hn]; exact az_wf_plus (az_wf_sub wy wv))
            have ho3 := ho2.fact (a := az_sub lx (az_v C.1.length)) (fun σ hxx hz => by
              have hz : _ = az_ev σ (az_v C.1.length) := hz
              rw [az_sub_ev, ← hz, hxx.ev hwx]
              omega) (by show az_wf (az_fact (az_new C _) _).1.length _; rw [az_fact_len, hn]; exact az_wf_sub wx wv)
            refine ho3.addN (q := (3, lx, ly, az_v C.1.length)) (fun σ hxx hz => ⟨fun e => (by cases e), fun e => (by cases e), fun e => (by cases e), fun _ => ?_, fun e => (by cases e)⟩) ?_
            · have hz : _ = az_ev σ (az_v C.1.length) := hz
              show 0 ≤ az_ev σ lx ∧ 1 ≤ az_ev σ ly ∧ az_ev σ (az_v C.1.length) = az_ev σ lx % az_ev σ ly
              rw [← hz, hxx.ev hwx, hxx.ev hwy]
              exact ⟨p2, hy1, te⟩
            · show az_wfN (az_fact (az_fact (az_new C _) _) _).1.length _
              rw [az_fact_len, az_fact_len, hn]
              exact ⟨wx, wy, wv⟩
        · cases hr
          have t := nm_tmod (a := az_ev ρ lx) hy1
          have ho := az_fr_out (lo := 1 - u) (hi := u - 1) hg (z := (az_ev ρ lx).tmod (az_ev ρ ly)) (by omega) (by omega)
          have ho2 := ho.fact (a := az_plus (az_sub ly (az_v C.1.length)) (-1)) (fun σ hxx hz => by
            have hz : _ = az_ev σ (az_v C.1.length) := hz
            rw [az_plus_ev, az_sub_ev, ← hz, hxx.ev hwy]
            omega) (by show az_wf (az_new C _).1.length _; rw [hn]; exact az_wf_plus (az_wf_sub wy wv))
          refine ho2.fact (a := az_plus (az_add ly (az_v C.1.length)) (-1)) (fun σ hxx hz => ?_) (by show az_wf (az_fact (az_new C _) _).1.length _; rw [az_fact_len, hn]; exact az_wf_plus (az_wf_add wy wv))
          have hz : _ = az_ev σ (az_v C.1.length) := hz
          rw [az_plus_ev, az_add_ev, ← hz, hxx.ev hwy]
          omega
      · cases hr
        exact az_top_out _ hg
  · split at hr
    · rename_i hp
      have p1 := az_p1_g hg hp
      rw [az_plus_ev, az_scl_ev] at p1
      cases hr
      refine ⟨fun e => ?_, az_top_out _ hg⟩
      rw [e] at hy
      have : (0 : Int32).toInt = 0 := rfl
      omega
    · cases hr
def az_and0 (C : az_C) (x y : az_L) : az_C × az_L := match az_ub C.1 x, az_ub C.1 y with
  | some ux, some uy => if az_ge C.1 y 0 then (if az_ge C.1 x 0 then az_fr C 0 (if ux < uy then ux else uy) else az_fr C 0 uy) else if az_ge C.1 x 0 then az_fr C 0 ux else az_top C
  | _, _ => az_top C
theorem az_and0_out {lx ly : az_L} {x y : Int32} (hg : az_g P ρ h C) (hx : x.toInt = az_ev ρ lx) (hy : y.toInt = az_ev ρ ly) : az_out P ρ h C (az_and0 C lx ly) (x &&& y).toInt := by
  unfold az_and0
  split
  · rename_i ux uy hux huy
    have u1 := az_ub_ok hg.1 hux
    have u2 := az_ub_ok hg.1 huy
    split
    · rename_i hy0
      have y0 := az_ge_ok hg.1 hy0
      have a1 := nm_and (x := x) (y := y) (by omega)
      split
      · rename_i hx0
        have x0 := az_ge_ok hg.1 hx0
        have a2 := nm_and (x := y) (y := x) (by omega)
        rw [nm_andc y x] at a2
        exact az_fr_out hg a1.1 (by split <;> omega)
      · exact az_fr_out hg a1.1 (by omega)
    · split
      · rename_i hx0
        have x0 := az_ge_ok hg.1 hx0
        have a2 := nm_and (x := y) (y := x) (by omega)
        rw [nm_andc y x] at a2
        exact az_fr_out hg a2.1 (by omega)
      · exact az_top_out _ hg
  · exact az_top_out _ hg
def az_pw (u : Int) : Option Nat := if u < 2 then some 1 else if u < 8 then some 3 else if u < 64 then some 6 else if u < 256 then some 8 else if u < 65536 then some 16 else if u < 1073741824 then some 30 else none
theorem az_pw_ok {u : Int} {k : Nat} (hk : az_pw u = some k) : u < 2 ^ k ∧ k ≤ 30 := by
  unfold az_pw at hk
  repeat' split at hk
  all_goals first
    | (cases hk; exact ⟨by assumption, by decide⟩)
    | cases hk
theorem az_and0_len {lx ly : az_L} : (az_and0 C lx ly).1.1.length = C.1.length + 1 ∧ (az_and0 C lx ly).2 = az_v C.1.length := by
  unfold az_and0
  split
  · split
    · split <;> exact ⟨by simp [az_fr, az_new], rfl⟩
    · split
      · exact ⟨by simp [az_fr, az_new], rfl⟩
      · exact ⟨by simp [az_top, az_fr, az_new], rfl⟩
  · exact ⟨by simp [az_top, az_fr, az_new], rfl⟩
def az_and (C : az_C) (x y : az_L) : az_C × az_L := match C.2.2.1.find? (fun q => decide (q.1 = 4) && (az_same q.2.1 x && az_same q.2.2.1 y)) with
  | some q => (C, q.2.2.2)
  | none => (match az_and0 C x y with
    | (D, v) => (az_addN D (4, x, y, v), v))
theorem az_and_out {lx ly : az_L} {x y : Int32} (hg : az_g P ρ h C) (hwx : az_wf C.1.length lx) (hwy : az_wf C.1.length ly) (hx : x.toInt = az_ev ρ lx) (hy : y.toInt = az_ev ρ ly) : az_out P ρ h C (az_and C lx ly) (x &&& y).toInt := by
  have ex : Int32.ofInt (az_ev ρ lx) = x := by rw [← hx]; exact Int32.ofInt_toInt x
  have ey : Int32.ofInt (az_ev ρ ly) = y := by rw [← hy]; exact Int32.ofInt_toInt y
  unfold az_and
  split
  · rename_i q hq
    have hm := List.mem_of_find?_eq_some hq
    have hp := List.find?_some hq
    simp only [Bool.and_eq_true, decide_eq_true_eq] at hp
    obtain ⟨k1, k2⟩ := hg.2.2.1 q hm
    refine az_out_id hg k2.2.2 ?_
    rw [k1.2.2.2.2 hp.1, az_same_ev hp.2.1, az_same_ev hp.2.2, ex, ey]
  · have ho := az_and0_out (lx := lx) (ly := ly) hg hx hy
    obtain ⟨l1, l2⟩ := az_and0_len (C := C) (lx := lx) (ly := ly)
    have := ho.addN (q := (4, lx, ly, (az_and0 C lx ly).2)) (fun σ hxx hz => ⟨fun e => (by cases e), fun e => (by cases e), fun e => (by cases e), fun e => (by cases e), fun _ => by
      show az_ev σ (az_and0 C lx ly).2 = (Int32.ofInt (az_ev σ lx) &&& Int32.ofInt (az_ev σ ly)).toInt
      rw [← hz, hxx.ev hwx, hxx.ev hwy, ex, ey]⟩) (by rw [l1, l2]; exact ⟨hwx.mono (Nat.le_succ _), hwy.mono (Nat.le_succ _), az_wf_v (Nat.lt_succ_self _)⟩)
    exact this
def az_or (C : az_C) (x y : az_L) : az_C × az_L := match az_ub C.1 x, az_ub C.1 y with
  | some ux, some uy => if az_ge C.1 y 0 && az_ge C.1 x 0 then (match az_pw (if ux < uy then uy else ux) with
    | some k => az_fr C 0 (2 ^ k - 1)
    | none => az_top C) else az_top C
  | _, _ => az_top C
theorem az_or_out {lx ly : az_L} {x y : Int32} (hg : az_g P ρ h C) (hx : x.toInt = az_ev ρ lx) (hy : y.toInt = az_ev ρ ly) : az_out P ρ h C (az_or C lx ly) (x ||| y).toInt ∧ az_out P ρ h C (az_or C lx ly) (x ^^^ y).toInt := by
  unfold az_or
  split
  · rename_i ux uy hux huy
    have u1 := az_ub_ok hg.1 hux
    have u2 := az_ub_ok hg.1 huy
    split
    · rename_i hc
      rw [Bool.and_eq_true] at hc
      have y0 := az_ge_ok hg.1 hc.1
      have x0 := az_ge_ok hg.1 hc.2
      split
      · rename_i k hk
        obtain ⟨k1, k2⟩ := az_pw_ok hk
        have b1 : x.toInt < 2 ^ k := by split at k1 <;> omega
        have b2 : y.toInt < 2 ^ k := by split at k1 <;> omega
        have o1 := nm_or k k2 (by omega) b1 (by omega) b2
        have o2 := nm_xor k k2 (by omega) b1 (by omega) b2
        exact ⟨az_fr_out hg o1.1 (by omega), az_fr_out hg o2.1 (by omega)⟩
      · exact ⟨az_top_out _ hg, az_top_out _ hg⟩
    · exact ⟨az_top_out _ hg, az_top_out _ hg⟩
  · exact ⟨az_top_out _ hg, az_top_out _ hg⟩
def az_shl (C : az_C) (x y : az_L) : az_C × az_L := if x = ([], 1) ∧ az_ge C.1 y 0 = true then (match az_ub C.1 y with
    | some u => if u ≤ 30 then (if y.1 = [] then (C, az_c (2 ^ y.2.toNat)) else az_fr C 1 (2 ^ u.toNat)) else az_top C
    | none => az_top C) else az_top C
theorem az_shl_out {lx ly : az_L} {x y : Int32} (hg : az_g P ρ h C) (hx : x.toInt = az_ev ρ lx) (hy : y.toInt = az_ev ρ ly) : az_out P ρ h C (az_shl C lx ly) (x <<< (y &&& 31)).toInt := by
  unfold az_shl
  split
  · rename_i hc
    obtain ⟨rfl, hc⟩ := hc
    have y0 := az_ge_ok hg.1 hc
    split
    · rename_i u hu
      have u1 := az_ub_ok hg.1 hu
      split
      · rename_i h30
        have hx1 : x = 1 := Int32.toInt_inj.mp (by rw [hx]; rfl)
        obtain ⟨j, hj, hyj⟩ := nI_of2 (x := y) (M := 30) (n := 30) rfl (by rw [nm_ltI]; show ¬ y.toInt < 0; omega) (by rw [nm_leI]; show y.toInt ≤ 30; omega)
        have hv : y.toInt = (j : Int) := by rw [hyj, nI_toInt (by omega)]
        rw [hx1, hyj, nm_shl0 j (by omega)]
        split
        · rename_i he
          refine az_out_id hg (az_wf_c _ _) ?_
          rw [az_c_ev]
          have : ly.2 = (j : Int) := by rw [← az_const_ev (ρ := ρ) he, ← hy, hv]
          rw [this, Int.toNat_natCast]
        · refine az_fr_out hg ?_ ?_
          · have : (1 : Int) ≤ 2 ^ j := by exact_mod_cast Nat.one_le_two_pow
            exact this
          · have : (2 : Nat) ^ j ≤ 2 ^ u.toNat := Nat.pow_le_pow_right (by decide) (by omega)
            exact_mod_cast this
      · exact az_top_out _ hg
    · exact az_top_out _ hg
  · exact az_top_out _ hg
def az_shr (C : az_C) (x : az_L) : az_C × az_L := match az_ub C.1 x with
  | some u => if az_ge C.1 x 0 then az_fr C 0 u else az_top C
  | none => az_top C
theorem az_shr_out {lx : az_L} {x y : Int32} (hg : az_g P ρ h C) (hx : x.toInt = az_ev ρ lx) : az_out P ρ h C (az_shr C lx) (x >>> (y &&& 31)).toInt := by
  unfold az_shr
  split
  · rename_i u hu
    have u1 := az_ub_ok hg.1 hu
    split
    · rename_i h0
      have x0 := az_ge_ok hg.1 h0
      have := nm_shr (x := x) (s := y) (by omega)
      exact az_fr_out hg this.1 (by omega)
    · exact az_top_out _ hg
  · exact az_top_out _ hg
def az_bin (i : Instr) (C : az_C) (y x : az_L) : Option (az_C × az_L) := match i with
  | .iadd => some (az_val C (az_add x y))
  | .isub => some (az_val C (az_sub x y))
  | .imul => some (az_mul C x y)
  | .idiv => az_div C x y
  | .irem => az_rem C x y
  | .iand => some (az_and C x y)
  | .ior => some (az_or C x y)
  | .ixor => some (az_or C x y)
  | .ishl => some (az_shl C x y)
  | .ishr => some (az_shr C x)
  | .iushr => some (az_top C)
  | _ => none
theorem az_bin_ok {i : Instr} {lx ly : az_L} {x y : Int32} {r : az_C × az_L} (hg : az_g P ρ h C) (hwx : az_wf C.1.length lx) (hwy : az_wf C.1.length ly) (hx : x.toInt = az_ev ρ lx) (hy : y.toInt = az_ev ρ ly) (hr : az_bin i C ly lx = some r) : ∃ z : Int32, si_bin i (.int y) (.int x) = some (.int z) ∧ az_out P ρ h C r z.toInt := by
  unfold az_bin at hr
  split at hr
  · cases hr
    exact ⟨_, rfl, az_val_out hg (az_wf_add hwx hwy) (by rw [az_add_ev, Int32.toInt_add, hx, hy]) (nm_lo _) (nm_hi _)⟩
  · cases hr
    exact ⟨_, rfl, az_val_out hg (az_wf_sub hwx hwy) (by rw [az_sub_ev, Int32.toInt_sub, hx, hy]) (nm_lo _) (nm_hi _)⟩
  · cases hr
    exact ⟨_, rfl, az_mul_out hg hwx hwy hx hy⟩
  · obtain ⟨h0, ho⟩ := az_div_out hg hwx hwy hx hy hr
    exact ⟨x / y, if_neg h0, ho⟩
  · obtain ⟨h0, ho⟩ := az_rem_out hg hwx hwy hx hy hr
    exact ⟨x - x / y * y, if_neg h0, ho⟩
  · cases hr
    exact ⟨_, rfl, az_and_out hg hwx hwy hx hy⟩
  · cases hr
    exact ⟨_, rfl, (az_or_out hg hx hy).1⟩
  · cases hr
    exact ⟨_, rfl, (az_or_out hg hx hy).2⟩
  · cases hr
    exact ⟨_, rfl, az_shl_out hg hx hy⟩
  · cases hr
    exact ⟨_, rfl, az_shr_out hg hx⟩
  · cases hr
    exact ⟨_, rfl, az_top_out _ hg⟩
  · cases hr
end AzOps
