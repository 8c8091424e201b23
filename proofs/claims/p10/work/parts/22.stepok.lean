/-! THE CHECKER, 7: its step is sound -/
def az_post (P : si_P) (tb : List az_B) (md : List (Nat × Nat)) (ρ : Nat → Int) (h : si_H) (n : Nat) (L : List az_K) (o : Option (Nat × si_L × List Value × si_H)) : Prop := ∃ (pc' : Nat) (ls' : si_L) (st' : List Value) (h' : si_H), o = some (pc', ls', st', h') ∧ az_HI P tb h' ∧ az_same_out md h h' ∧ ∃ r, r ∈ L ∧ ∃ σ, az_ext n ρ σ ∧ n ≤ r.1.1.length ∧ az_g P σ h' r.1 ∧ r.2.1 = pc' ∧ az_gL P σ r.1.1.length r.2.2.1 ls' ∧ az_gS P σ r.1.1.length r.2.2.2 st'
section AzStep
variable {P : si_P} {tb : List az_B} {md : List (Nat × Nat)} {ρ : Nat → Int} {h : si_H} {C : az_C} {pc : Nat} {aL : az_Ls} {aS : List az_V} {ls : si_L} {st : List Value} {L : List az_K} {o : Option (Nat × si_L × List Value × si_H)}
theorem az_pone {r : az_C × az_L} {z : Int32} {pc' : Nat} (hH : az_HI P tb h) (hL : az_gL P ρ C.1.length aL ls) (hS : az_gS P ρ C.1.length aS st) (ho : az_out P ρ h C r z.toInt) (he : o = some (pc', ls, .int z :: st, h)) (hr : az_one r pc' aL aS = some L) : az_post P tb md ρ h C.1.length L o := by
  cases hr
  obtain ⟨σ, h1, h2, h3, h4, h5⟩ := ho
  exact ⟨_, _, _, _, he, hH, az_same_out.rf, _, List.mem_singleton.mpr rfl, σ, h1, h3, h2, rfl, hL.ext h1 h3, h4, h5, hS.ext h1 h3⟩
theorem az_psame {pc' : Nat} {ls' : si_L} {st' : List Value} {aL' : az_Ls} {aS' : List az_V} (hH : az_HI P tb h) (hg : az_g P ρ h C) (he : o = some (pc', ls', st', h)) (hr : some [(C, pc', aL', aS')] = some L) (hL : az_gL P ρ C.1.length aL' ls') (hS : az_gS P ρ C.1.length aS' st') : az_post P tb md ρ h C.1.length L o := by
  cases hr
  exact ⟨_, _, _, _, he, hH, az_same_out.rf, _, List.mem_singleton.mpr rfl, ρ, az_ext.rf, Nat.le_refl _, hg, rfl, hL, hS⟩
theorem az_takes_g : ∀ {l : List az_L} {C : az_C}, az_g P ρ h C → (∀ a ∈ l, 0 ≤ az_ev ρ a ∧ az_wf C.1.length a) → ∃ D, az_takes C l = some D ∧ az_g P ρ h D ∧ D.1.length = C.1.length
  | [], C, hg, _ => ⟨C, rfl, hg, rfl⟩
  | a :: r, C, hg, hl => by
    obtain ⟨h1, h2⟩ := hl a List.mem_cons_self
    obtain ⟨D, e1, e2, e3⟩ := az_take_g hg h1 h2
    obtain ⟨E, f1, f2, f3⟩ := az_takes_g (l := r) e2 (fun x hx => by rw [e3]; exact hl x (List.mem_cons_of_mem _ hx))
    refine ⟨E, ?_, f2, f3.trans e3⟩
    unfold az_takes
    rw [e1]
    exact f1
theorem az_alt_mem {pc' : Nat} {fs : List (List az_L)} (hg : az_g P ρ h C) (hf : ∃ f ∈ fs, ∀ a ∈ f, 0 ≤ az_ev ρ a ∧ az_wf C.1.length a) : ∃ D, (D, pc', aL, aS) ∈ az_alt C pc' aL aS fs ∧ az_g P ρ h D ∧ D.1.length = C.1.length := by
  obtain ⟨f, h1, h2⟩ := hf
  obtain ⟨D, e1, e2, e3⟩ := az_takes_g hg h2
  exact ⟨D, List.mem_filterMap.mpr ⟨f, h1, by rw [e1]; rfl⟩, e2, e3⟩
theorem az_palt {pc' : Nat} {D : az_C} (hH : az_HI P tb h) (hL : az_gL P ρ C.1.length aL ls) (hS : az_gS P ρ C.1.length aS st) (hD : az_g P ρ h D) (hn : D.1.length = C.1.length) (hm : (D, pc', aL, aS) ∈ L) (he : o = some (pc', ls, st, h)) : az_post P tb md ρ h C.1.length L o :=
  ⟨_, _, _, _, he, hH, az_same_out.rf, _, hm, ρ, az_ext.rf, by rw [hn]; exact Nat.le_refl _, hD, rfl, by rw [hn]; exact hL, by rw [hn]; exact hS⟩
def az_hold (k : ClassFile.Cond) (z : Int) : Prop := match k with
  | .eq => z = 0
  | .ne => z ≠ 0
  | .lt => z < 0
  | .ge => 0 ≤ z
  | .gt => 0 < z
  | .le => z ≤ 0
theorem az_c1 {k : ClassFile.Cond} {x : Int32} : si_c1 k x = true ↔ az_hold k x.toInt := by
  have h0 : (0 : Int32).toInt = 0 := rfl
  cases k <;> simp only [si_c1, az_hold, decide_eq_true_eq, nm_eqI, nm_ltI, nm_leI, h0, ne_eq]
theorem az_c2 {k : ClassFile.Cond} {x y : Int32} : si_c2 k x y = true ↔ az_hold k (x.toInt - y.toInt) := by
  cases k <;> simp only [si_c2, az_hold, decide_eq_true_eq, nm_eqI, nm_ltI, nm_leI, ne_eq] <;> omega
theorem az_neg_ev {a : az_L} : az_ev ρ (az_neg a) = -az_ev ρ a := by
  unfold az_neg
  rw [az_scl_ev]
  omega
theorem az_wf_neg {n : Nat} {a : az_L} (hw : az_wf n a) : az_wf n (az_neg a) := az_wf_scl hw
theorem az_ne_ok {sp : Bool} {d : az_L} (hg : az_g P ρ h C) (hw : az_wf C.1.length d) (hd : az_ev ρ d ≠ 0) : ∃ f ∈ az_ne C sp d, ∀ a ∈ f, 0 ≤ az_ev ρ a ∧ az_wf C.1.length a := by
  have w1 : az_wf C.1.length (az_plus d (-1)) := az_wf_plus hw
  have w2 : az_wf C.1.length (az_plus (az_neg d) (-1)) := az_wf_plus (az_wf_neg hw)
  unfold az_ne
  split
  · rename_i hp
    have := az_p1_g hg hp
    refine ⟨_, List.mem_singleton.mpr rfl, fun a ha => ?_⟩
    rcases List.mem_singleton.mp ha with rfl
    exact ⟨by rw [az_plus_ev]; omega, w1⟩
  · split
    · rename_i hp
      have := az_p1_g hg hp
      rw [az_neg_ev] at this
      refine ⟨_, List.mem_singleton.mpr rfl, fun a ha => ?_⟩
      rcases List.mem_singleton.mp ha with rfl
      exact ⟨by rw [az_plus_ev, az_neg_ev]; omega, w2⟩
    · split
      · by_cases h0 : 0 < az_ev ρ d
        · refine ⟨_, List.mem_cons_self, fun a ha => ?_⟩
          rcases List.mem_singleton.mp ha with rfl
          exact ⟨by rw [az_plus_ev]; omega, w1⟩
        · refine ⟨_, List.mem_cons_of_mem _ (List.mem_singleton.mpr rfl), fun a ha => ?_⟩
          rcases List.mem_singleton.mp ha with rfl
          exact ⟨by rw [az_plus_ev, az_neg_ev]; omega, w2⟩
      · exact ⟨[], List.mem_singleton.mpr rfl, fun a ha => by cases ha⟩
theorem az_single {f : List az_L} (hf : ∀ a ∈ f, 0 ≤ az_ev ρ a ∧ az_wf C.1.length a) : ∃ g ∈ [f], ∀ a ∈ g, 0 ≤ az_ev ρ a ∧ az_wf C.1.length a := ⟨f, List.mem_singleton.mpr rfl, hf⟩
theorem az_yes_ok {sp : Bool} {k : ClassFile.Cond} {d : az_L} (hg : az_g P ρ h C) (hw : az_wf C.1.length d) (hd : az_hold k (az_ev ρ d)) : ∃ f ∈ az_yes C sp k d, ∀ a ∈ f, 0 ≤ az_ev ρ a ∧ az_wf C.1.length a := by
  cases k <;> simp only [az_hold] at hd
  case ne => exact az_ne_ok hg hw hd
  all_goals
    refine az_single (fun a ha => ?_)
    simp only [List.mem_cons, List.not_mem_nil, or_false] at ha
  · rcases ha with rfl | rfl
    · exact ⟨by omega, hw⟩
    · exact ⟨by rw [az_neg_ev]; omega, az_wf_neg hw⟩
  · subst ha; exact ⟨by rw [az_plus_ev, az_neg_ev]; omega, az_wf_plus (az_wf_neg hw)⟩
  · subst ha; exact ⟨hd, hw⟩
  · subst ha; exact ⟨by rw [az_plus_ev]; omega, az_wf_plus hw⟩
  · subst ha; exact ⟨by rw [az_neg_ev]; omega, az_wf_neg hw⟩
theorem az_no_ok {sp : Bool} {k : ClassFile.Cond} {d : az_L} (hg : az_g P ρ h C) (hw : az_wf C.1.length d) (hd : ¬ az_hold k (az_ev ρ d)) : ∃ f ∈ az_no C sp k d, ∀ a ∈ f, 0 ≤ az_ev ρ a ∧ az_wf C.1.length a := by
  cases k <;> simp only [az_hold] at hd
  case eq => exact az_ne_ok hg hw hd
  all_goals
    refine az_single (fun a ha => ?_)
    simp only [List.mem_cons, List.not_mem_nil, or_false] at ha
  · rcases ha with rfl | rfl
    · exact ⟨by omega, hw⟩
    · exact ⟨by rw [az_neg_ev]; omega, az_wf_neg hw⟩
  · subst ha; exact ⟨by omega, hw⟩
  · subst ha; exact ⟨by rw [az_plus_ev, az_neg_ev]; omega, az_wf_plus (az_wf_neg hw)⟩
  · subst ha; exact ⟨by rw [az_neg_ev]; omega, az_wf_neg hw⟩
  · subst ha; exact ⟨by rw [az_plus_ev]; omega, az_wf_plus hw⟩
theorem az_pbr {sp : Bool} {k : ClassFile.Cond} {d : az_L} {t : Nat} {b : Bool} (hH : az_HI P tb h) (hg : az_g P ρ h C) (hL : az_gL P ρ C.1.length aL ls) (hS : az_gS P ρ C.1.length aS st) (hw : az_wf C.1.length d) (hb : b = true ↔ az_hold k (az_ev ρ d)) (he : o = some (if b = true then t else pc + 3, ls, st, h)) (hr : some (az_alt C t aL aS (az_yes C sp k d) ++ az_alt C (pc + 3) aL aS (az_no C sp k d)) = some L) : az_post P tb md ρ h C.1.length L o := by
  cases hr
  by_cases hc : b = true
  · obtain ⟨D, d1, d2, d3⟩ := az_alt_mem (aL := aL) (aS := aS) (pc' := t) hg (az_yes_ok (sp := sp) hg hw (hb.mp hc))
    rw [if_pos hc] at he
    exact az_palt hH hL hS d2 d3 (List.mem_append_left _ d1) he
  · obtain ⟨D, d1, d2, d3⟩ := az_alt_mem (aL := aL) (aS := aS) (pc' := pc + 3) hg (az_no_ok (sp := sp) hg hw (fun z => hc (hb.mpr z)))
    rw [if_neg hc] at he
    exact az_palt hH hL hS d2 d3 (List.mem_append_right _ d1) he
/-- reads and writes of places -/
theorem az_rd_out {i : Nat} {I : az_L} {lo hi : Int} {x : Int32} (hg : az_g P ρ h C) (hne : i ≠ 1000000) (hw : az_wf C.1.length I) (h0 : 0 ≤ az_ev ρ I) (hv : h.2.2 i (az_ev ρ I).toNat = .int x) (h1 : lo ≤ x.toInt) (h2 : x.toInt ≤ hi) : az_out P ρ h C (az_rd C i I lo hi) x.toInt := by
  unfold az_rd
  split
  · rename_i q hq
    have hm := List.mem_of_find?_eq_some hq
    have hp := List.find?_some hq
    simp only [Bool.and_eq_true, decide_eq_true_eq] at hp
    obtain ⟨k1, k2⟩ := hg.2.2.2 q hm
    obtain ⟨-, x', e1, e2⟩ := k1.2 (by rw [hp.1]; exact hne)
    refine az_out_id hg k2.2 ?_
    rw [hp.1, az_same_ev hp.2, hv] at e1
    cases e1
    exact e2
  · obtain ⟨g1, g2, g3⟩ := az_new_g (b := (lo, hi)) hg h1 h2
    refine ⟨_, g2, ⟨g1.1, g1.2.1, g1.2.2.1, fun q hq => ?_⟩, by show _ ≤ (az_new C (lo, hi)).1.length; omega, az_wf_v (by show _ < (az_new C (lo, hi)).1.length; omega), by show _ = az_ev _ (az_v _); rw [az_v_ev, az_up_self]⟩
    rcases List.mem_cons.mp hq with rfl | hq
    · refine ⟨⟨fun e => absurd e hne, fun _ => ?_⟩, ?_, ?_⟩
      · show 0 ≤ az_ev _ I ∧ ∃ x', h.2.2 i (az_ev _ I).toNat = .int x' ∧ x'.toInt = az_ev _ (az_v C.1.length)
        rw [g2.ev hw]
        exact ⟨h0, x, hv, by rw [az_v_ev, az_up_self]⟩
      · exact hw.mono (by show _ ≤ (az_new C (lo, hi)).1.length; omega)
      · exact az_wf_v (by show _ < (az_new C (lo, hi)).1.length; omega)
    · exact g1.2.2.2 q hq
theorem az_tset_g {i : Nat} {I : az_L} {v : Option az_L} {w : Value} (hg : az_g P ρ h C) (hi : i ≠ 1000000) (hw : az_wf C.1.length I) (h0 : 0 ≤ az_ev ρ I) (hv : ∀ a, v = some a → az_wf C.1.length a ∧ ∃ x : Int32, w = .int x ∧ x.toInt = az_ev ρ a) : az_g P ρ (h.1, h.2.1, si_set h.2.2 i (az_ev ρ I).toNat w) (az_tset C i I v) := by
  have old : ∀ q ∈ C.2.2.2.filter (az_keep C i I), az_trok P ρ (h.1, h.2.1, si_set h.2.2 i (az_ev ρ I).toNat w) q ∧ az_wfR C.1.length q := by
    intro q hq
    obtain ⟨q1, q2⟩ := List.mem_filter.mp hq
    obtain ⟨k1, k2⟩ := hg.2.2.2 q q1
    refine ⟨⟨k1.1, fun hn => ?_⟩, k2⟩
    obtain ⟨e0, x, e1, e2⟩ := k1.2 hn
    refine ⟨e0, x, ?_, e2⟩
    show si_set h.2.2 i (az_ev ρ I).toNat w q.1 (az_ev ρ q.2.1).toNat = .int x
    unfold si_set
    by_cases hqi : q.1 = i
    · rw [if_pos hqi]
      unfold az_keep at q2
      simp only [Bool.or_eq_true, decide_eq_true_eq] at q2
      have hne : (az_ev ρ q.2.1).toNat ≠ (az_ev ρ I).toNat := by
        rcases q2 with (q2 | q2) | q2
        · exact absurd hqi q2
        · have := az_p1_g hg q2
          rw [az_plus_ev, az_sub_ev] at this
          omega
        · have := az_p1_g hg q2
          rw [az_plus_ev, az_sub_ev] at this
          omega
      rw [if_neg hne]
      exact e1
    · rw [if_neg hqi]
      exact e1
  refine ⟨hg.1, hg.2.1, hg.2.2.1, ?_⟩
  cases v with
  | none => exact old
  | some a =>
    intro q hq
    rcases List.mem_cons.mp hq with rfl | hq
    · obtain ⟨wa, x, e1, e2⟩ := hv a rfl
      refine ⟨⟨fun e => absurd e hi, fun _ => ⟨h0, x, ?_, e2⟩⟩, hw, wa⟩
      show si_set h.2.2 i (az_ev ρ I).toNat w i (az_ev ρ I).toNat = .int x
      unfold si_set
      rw [if_pos rfl, if_pos rfl]
      exact e1
    · exact old q hq
theorem az_btw_ok {a : az_L} {lo hi : Int} (hg : az_g P ρ h C) (hb : az_btw C a lo hi = true) : lo ≤ az_ev ρ a ∧ az_ev ρ a ≤ hi := by
  unfold az_btw at hb
  rw [Bool.and_eq_true] at hb
  have h1 := az_p2_g hg hb.1
  have h2 := az_p2_g hg hb.2
  rw [az_plus_ev] at h1 h2
  rw [az_neg_ev] at h2
  omega
theorem az_idx_ok {I : az_L} {n : Nat} {x : Int32} (hg : az_g P ρ h C) (hx : x.toInt = az_ev ρ I) (hb : az_idx C I n = true) : 0 ≤ az_ev ρ I ∧ si_in x n = true ∧ x.toNatClampNeg = (az_ev ρ I).toNat ∧ (az_ev ρ I).toNat < n := by
  unfold az_idx at hb
  rw [Bool.and_eq_true] at hb
  have h1 := az_p2_g hg hb.1
  have h2 := az_p2_g hg hb.2
  rw [az_plus_ev, az_neg_ev] at h2
  have e : x.toNatClampNeg = (az_ev ρ I).toNat := by
    show x.toInt.toNat = _
    rw [hx]
  refine ⟨h1, ?_, e, by omega⟩
  unfold si_in
  rw [Bool.and_eq_true, decide_eq_true_eq, decide_eq_true_eq, e, nm_leI]
  exact ⟨by show (0 : Int) ≤ x.toInt; omega, by omega⟩
theorem az_ix_ok {i : Nat} {e : az_B} (hH : az_HI P tb h) (he : tb[i]? = some e) : si_ix P h (P.1 + i) = some i ∧ i < h.1 := by
  have hl : i < tb.length := (List.getElem?_eq_some_iff.mp he).1
  have hl2 : i < h.1 := by rw [hH.1]; exact hl
  refine ⟨?_, hl2⟩
  unfold si_ix
  rw [if_pos (by omega)]
  congr 1
  omega
end AzStep
