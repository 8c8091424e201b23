/-! THE CHECKER, 3: bounds, facts, products and quotients, tracked places; the operations on ints -/
abbrev az_N : Type := Nat × az_L × az_L × az_L
abbrev az_R : Type := Nat × az_L × az_L
abbrev az_C : Type := az_I × List az_L × List az_N × List az_R
def az_nlok (ρ : Nat → Int) (q : az_N) : Prop := (q.1 = 0 → az_ev ρ q.2.1 * az_ev ρ q.2.2.1 = az_ev ρ q.2.2.2) ∧ (q.1 = 1 → 0 ≤ az_ev ρ q.2.1 ∧ 1 ≤ az_ev ρ q.2.2.1 ∧ az_ev ρ q.2.2.2 = az_ev ρ q.2.1 / az_ev ρ q.2.2.1) ∧ (q.1 = 2 → az_ev ρ q.2.2.2 = (az_ev ρ q.2.1).bmod (2 ^ 32)) ∧ (q.1 = 3 → 0 ≤ az_ev ρ q.2.1 ∧ 1 ≤ az_ev ρ q.2.2.1 ∧ az_ev ρ q.2.2.2 = az_ev ρ q.2.1 % az_ev ρ q.2.2.1) ∧ (q.1 = 4 → az_ev ρ q.2.2.2 = (Int32.ofInt (az_ev ρ q.2.1) &&& Int32.ofInt (az_ev ρ q.2.2.1)).toInt)
def az_trok (P : si_P) (ρ : Nat → Int) (h : si_H) (q : az_R) : Prop := (q.1 = 1000000 → (P.2.2.1 : Int) = az_ev ρ q.2.2) ∧ (q.1 ≠ 1000000 → 0 ≤ az_ev ρ q.2.1 ∧ ∃ x : Int32, h.2.2 q.1 (az_ev ρ q.2.1).toNat = .int x ∧ x.toInt = az_ev ρ q.2.2)
def az_wfN (n : Nat) (q : az_N) : Prop := az_wf n q.2.1 ∧ az_wf n q.2.2.1 ∧ az_wf n q.2.2.2
def az_wfR (n : Nat) (q : az_R) : Prop := az_wf n q.2.1 ∧ az_wf n q.2.2
def az_g (P : si_P) (ρ : Nat → Int) (h : si_H) (C : az_C) : Prop := az_gI ρ C.1 ∧ (∀ f ∈ C.2.1, 0 ≤ az_ev ρ f ∧ az_wf C.1.length f) ∧ (∀ q ∈ C.2.2.1, az_nlok ρ q ∧ az_wfN C.1.length q) ∧ (∀ q ∈ C.2.2.2, az_trok P ρ h q ∧ az_wfR C.1.length q)
def az_ext (n : Nat) (ρ σ : Nat → Int) : Prop := ∀ v, v < n → σ v = ρ v
theorem az_ext.rf {n : Nat} {ρ : Nat → Int} : az_ext n ρ ρ := fun _ _ => rfl
theorem az_ext.tr {n k : Nat} {ρ σ τ : Nat → Int} (h1 : az_ext n ρ σ) (h2 : az_ext k σ τ) (hk : n ≤ k) : az_ext n ρ τ := fun v hv => (h2 v (Nat.lt_of_lt_of_le hv hk)).trans (h1 v hv)
theorem az_ext.ev {n : Nat} {ρ σ : Nat → Int} (h : az_ext n ρ σ) {a : az_L} (hw : az_wf n a) : az_ev σ a = az_ev ρ a := az_ev_eq h hw
def az_new (C : az_C) (b : Int × Int) : az_C := (C.1 ++ [b], C.2.1, C.2.2.1, C.2.2.2)
def az_up (ρ : Nat → Int) (n : Nat) (x : Int) : Nat → Int := fun v => if v = n then x else ρ v
theorem az_up_ext {ρ : Nat → Int} {n : Nat} {x : Int} : az_ext n ρ (az_up ρ n x) := fun v hv => if_neg (by omega)
theorem az_up_self {ρ : Nat → Int} {n : Nat} {x : Int} : az_up ρ n x n = x := if_pos rfl
section AzDom
variable {P : si_P} {ρ : Nat → Int} {h : si_H} {C : az_C}
theorem az_nlok.ext {n : Nat} {σ : Nat → Int} {q : az_N} (hx : az_ext n ρ σ) (hw : az_wfN n q) (hq : az_nlok ρ q) : az_nlok σ q := by
  unfold az_nlok at hq ⊢
  rw [hx.ev hw.1, hx.ev hw.2.1, hx.ev hw.2.2]
  exact hq
theorem az_trok.ext {n : Nat} {σ : Nat → Int} {q : az_R} (hx : az_ext n ρ σ) (hw : az_wfR n q) (hq : az_trok P ρ h q) : az_trok P σ h q := by
  unfold az_trok at hq ⊢
  rw [hx.ev hw.1, hx.ev hw.2]
  exact hq
theorem az_new_g {b : Int × Int} {x : Int} (hg : az_g P ρ h C) (h1 : b.1 ≤ x) (h2 : x ≤ b.2) : az_g P (az_up ρ C.1.length x) h (az_new C b) ∧ az_ext C.1.length ρ (az_up ρ C.1.length x) ∧ (az_new C b).1.length = C.1.length + 1 := by
  have hx : az_ext C.1.length ρ (az_up ρ C.1.length x) := az_up_ext
  have hn : (az_new C b).1.length = C.1.length + 1 := by simp [az_new]
  refine ⟨⟨?_, ?_, ?_, ?_⟩, hx, hn⟩
  · intro v c hc
    rcases Nat.lt_or_ge v C.1.length with q | q
    · rw [show (az_new C b).1 = C.1 ++ [b] from rfl, List.getElem?_append_left q] at hc
      rw [hx v q]
      exact hg.1 v c hc
    · rw [show (az_new C b).1 = C.1 ++ [b] from rfl, List.getElem?_append_right q] at hc
      have h3 : v - C.1.length < 1 := (List.getElem?_eq_some_iff.mp hc).1
      have h4 : v = C.1.length := by omega
      subst h4
      rw [Nat.sub_self] at hc
      cases hc
      rw [az_up_self]
      exact ⟨h1, h2⟩
  · intro f hf
    have := hg.2.1 f hf
    rw [hn, hx.ev this.2]
    exact ⟨this.1, this.2.mono (Nat.le_succ _)⟩
  · intro q hq
    have := hg.2.2.1 q hq
    rw [hn]
    exact ⟨this.1.ext hx this.2, this.2.1.mono (Nat.le_succ _), this.2.2.1.mono (Nat.le_succ _), this.2.2.2.mono (Nat.le_succ _)⟩
  · intro q hq
    have := hg.2.2.2 q hq
    rw [hn]
    exact ⟨this.1.ext hx this.2, this.2.1.mono (Nat.le_succ _), this.2.2.mono (Nat.le_succ _)⟩
def az_long (a : az_L) : Bool := match a.1 with
  | [] => false
  | [t] => !(decide (t.2 = 1) || decide (t.2 = -1))
  | _ => true
/-- a fact that holds -/
def az_fact (C : az_C) (a : az_L) : az_C := (az_nar C.1 a a.1, if az_long a then a :: C.2.1 else C.2.1, C.2.2.1, C.2.2.2)
theorem az_fact_g {a : az_L} (hg : az_g P ρ h C) (ha : 0 ≤ az_ev ρ a) (hw : az_wf C.1.length a) : az_g P ρ h (az_fact C a) ∧ (az_fact C a).1.length = C.1.length := by
  have hn : (az_fact C a).1.length = C.1.length := az_nar_len
  refine ⟨⟨az_nar_ok ha hg.1, ?_, ?_, ?_⟩, hn⟩
  · intro f hf
    rw [hn]
    unfold az_fact at hf
    dsimp only at hf
    split at hf
    · rcases List.mem_cons.mp hf with rfl | hf
      · exact ⟨ha, hw⟩
      · exact hg.2.1 f hf
    · exact hg.2.1 f hf
  · intro q hq
    rw [hn]
    exact hg.2.2.1 q hq
  · intro q hq
    rw [hn]
    exact hg.2.2.2 q hq
/-- a fact that is taken: none if it can't be -/
def az_take (C : az_C) (a : az_L) : Option az_C := if az_p1 C.1 C.2.1 (az_plus (az_scl (-1) a) (-1)) then none else some (az_fact C a)
theorem az_p1_g {a : az_L} (hg : az_g P ρ h C) (hp : az_p1 C.1 C.2.1 a = true) : 0 ≤ az_ev ρ a := az_p1_ok hg.1 (fun f hf => (hg.2.1 f hf).1) hp
theorem az_p2_g {a : az_L} (hg : az_g P ρ h C) (hp : az_p2 C.1 C.2.1 a = true) : 0 ≤ az_ev ρ a := az_p2_ok hg.1 (fun f hf => (hg.2.1 f hf).1) hp
theorem az_take_g {a : az_L} (hg : az_g P ρ h C) (ha : 0 ≤ az_ev ρ a) (hw : az_wf C.1.length a) : ∃ C', az_take C a = some C' ∧ az_g P ρ h C' ∧ C'.1.length = C.1.length := by
  unfold az_take
  split
  · rename_i hp
    have := az_p1_g hg hp
    rw [az_plus_ev, az_scl_ev] at this
    omega
  · exact ⟨_, rfl, az_fact_g hg ha hw⟩
def az_addN (C : az_C) (q : az_N) : az_C := (C.1, C.2.1, q :: C.2.2.1, C.2.2.2)
theorem az_addN_g {q : az_N} (hg : az_g P ρ h C) (hq : az_nlok ρ q) (hw : az_wfN C.1.length q) : az_g P ρ h (az_addN C q) := ⟨hg.1, hg.2.1, fun x hx => (List.mem_cons.mp hx).elim (fun e => by rw [e]; exact ⟨hq, hw⟩) (hg.2.2.1 x), hg.2.2.2⟩
/-- the outcome of an operation on ints: the new state, the number -/
def az_out (P : si_P) (ρ : Nat → Int) (h : si_H) (C : az_C) (r : az_C × az_L) (z : Int) : Prop := ∃ σ, az_ext C.1.length ρ σ ∧ az_g P σ h r.1 ∧ C.1.length ≤ r.1.1.length ∧ az_wf r.1.1.length r.2 ∧ z = az_ev σ r.2
theorem az_out_id {L : az_L} {z : Int} (hg : az_g P ρ h C) (hw : az_wf C.1.length L) (hz : z = az_ev ρ L) : az_out P ρ h C (C, L) z := ⟨ρ, az_ext.rf, hg, Nat.le_refl _, hw, hz⟩
def az_fr (C : az_C) (lo hi : Int) : az_C × az_L := (az_new C (lo, hi), az_v C.1.length)
theorem az_fr_out {lo hi z : Int} (hg : az_g P ρ h C) (h1 : lo ≤ z) (h2 : z ≤ hi) : az_out P ρ h C (az_fr C lo hi) z := by
  obtain ⟨g1, g2, g3⟩ := az_new_g (b := (lo, hi)) hg h1 h2
  exact ⟨_, g2, g1, by show _ ≤ (az_new C (lo, hi)).1.length; omega, az_wf_v (by show _ < (az_new C (lo, hi)).1.length; omega), by show _ = az_ev _ (az_v _); rw [az_v_ev, az_up_self]⟩
/-- behind a fresh number, true facts and products about it -/
theorem az_out.fact {r : az_C × az_L} {z : Int} {a : az_L} (ho : az_out P ρ h C r z) (ha : ∀ σ, az_ext C.1.length ρ σ → z = az_ev σ r.2 → 0 ≤ az_ev σ a) (hw : az_wf r.1.1.length a) : az_out P ρ h C (az_fact r.1 a, r.2) z := by
  obtain ⟨σ, h1, h2, h3, h4, h5⟩ := ho
  obtain ⟨g1, g2⟩ := az_fact_g h2 (ha σ h1 h5) hw
  exact ⟨σ, h1, g1, by rw [g2]; exact h3, by rw [g2]; exact h4, h5⟩
theorem az_out.addN {r : az_C × az_L} {z : Int} {q : az_N} (ho : az_out P ρ h C r z) (hq : ∀ σ, az_ext C.1.length ρ σ → z = az_ev σ r.2 → az_nlok σ q) (hw : az_wfN r.1.1.length q) : az_out P ρ h C (az_addN r.1 q, r.2) z := by
  obtain ⟨σ, h1, h2, h3, h4, h5⟩ := ho
  exact ⟨σ, h1, az_addN_g h2 (hq σ h1 h5) hw, h3, h4, h5⟩
def az_inr (C : az_C) (a : az_L) : Bool := az_p1 C.1 C.2.1 (az_plus a 2147483648) && az_p1 C.1 C.2.1 (az_plus (az_scl (-1) a) 2147483647)
theorem az_inr_ok {a : az_L} (hg : az_g P ρ h C) (hi : az_inr C a = true) : -2147483648 ≤ az_ev ρ a ∧ az_ev ρ a ≤ 2147483647 := by
  unfold az_inr at hi
  rw [Bool.and_eq_true] at hi
  have h1 := az_p1_g hg hi.1
  have h2 := az_p1_g hg hi.2
  rw [az_plus_ev] at h1 h2
  rw [az_scl_ev] at h2
  omega
/-- the int that a linear expression comes to, wrapped if need be -/
def az_val (C : az_C) (a : az_L) : az_C × az_L := if az_inr C a then (C, a) else match C.2.2.1.find? (fun q => decide (q.1 = 2) && az_same q.2.1 a) with
  | some q => (C, q.2.2.2)
  | none => (az_addN (az_new C (-2147483648, 2147483647)) (2, a, az_c 0, az_v C.1.length), az_v C.1.length)
theorem az_val_out {a : az_L} {z : Int} (hg : az_g P ρ h C) (hw : az_wf C.1.length a) (hz : z = (az_ev ρ a).bmod (2 ^ 32)) (h1 : -2147483648 ≤ z) (h2 : z ≤ 2147483647) : az_out P ρ h C (az_val C a) z := by
  unfold az_val
  split
  · rename_i hi
    have := az_inr_ok hg hi
    exact az_out_id hg hw (by rw [hz, nm_bm this.1 this.2])
  · split
    · rename_i q hq
      have hm := List.mem_of_find?_eq_some hq
      have hp := List.find?_some hq
      simp only [Bool.and_eq_true, decide_eq_true_eq] at hp
      obtain ⟨k1, k2⟩ := hg.2.2.1 q hm
      refine az_out_id hg k2.2.2 ?_
      rw [hz, k1.2.2.1 hp.1, az_same_ev hp.2]
    · have ho := az_fr_out (lo := -2147483648) (hi := 2147483647) hg h1 h2
      refine ho.addN (q := (2, a, az_c 0, az_v C.1.length)) ?_ ?_
      · intro σ hx hz2
        refine ⟨fun e => (by cases e), fun e => (by cases e), fun _ => ?_, fun e => (by cases e), fun e => (by cases e)⟩
        show az_ev σ (az_v C.1.length) = (az_ev σ a).bmod (2 ^ 32)
        rw [hx.ev hw, ← hz]
        exact hz2.symm
      · have hn : (az_fr C (-2147483648) 2147483647).1.1.length = C.1.length + 1 := by simp [az_fr, az_new]
        rw [hn]
        exact ⟨hw.mono (Nat.le_succ _), az_wf_c _ _, az_wf_v (Nat.lt_succ_self _)⟩
end AzDom
