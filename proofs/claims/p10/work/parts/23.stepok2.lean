theorem az_tb_i {tb : List az_B} (ht : az_tbk tb = true) {i : Nat} {e : az_B} (he : tb[i]? = some e) : i ≠ 1000000 ∧ az_tbe e = true := by
  unfold az_tbk at ht
  rw [Bool.and_eq_true, decide_eq_true_eq] at ht
  have hl : i < tb.length := (List.getElem?_eq_some_iff.mp he).1
  exact ⟨by omega, List.all_eq_true.mp ht.1 e (List.mem_of_getElem? he)⟩
theorem az_bool01 {x : Int32} (h1 : 0 ≤ x.toInt) (h2 : x.toInt ≤ 1) : x = 0 ∨ x = 1 := by
  by_cases q : x.toInt < 1
  · exact Or.inl (Int32.toInt_inj.mp (show x.toInt = (0 : Int) by omega))
  · exact Or.inr (Int32.toInt_inj.mp (show x.toInt = (1 : Int) by omega))
section AzStepOk
variable {P : si_P} {tb : List az_B} {md : List (Nat × Nat)} {ρ : Nat → Int} {h : si_H} {C : az_C} {pc : Nat} {aL : az_Ls} {aS : List az_V} {ls : si_L} {st : List Value} {L : List az_K}
/-- a written place -/
theorem az_HI_set {i k : Nat} {e : az_B} {w : Value} (hH : az_HI P tb h) (he : tb[i]? = some e) (hk : match e with
    | .inl o => ∀ q : az_Q, o.2[k]? = some q → az_qok P q w
    | .inr b => k < b.2.1 → az_aok b w) : az_HI P tb (h.1, h.2.1, si_set h.2.2 i k w) := by
  refine ⟨hH.1, fun j f hf => ?_⟩
  have hj := hH.2 j f hf
  by_cases hji : j = i
  · subst hji
    cases he.symm.trans hf
    cases e with
    | inl o =>
      refine ⟨hj.1, fun k' q hq => ?_⟩
      show az_qok P q (si_set h.2.2 j k w j k')
      unfold si_set
      rw [if_pos rfl]
      split
      · rename_i hkk
        subst hkk
        exact hk q hq
      · exact hj.2 k' q hq
    | inr b =>
      refine ⟨hj.1, fun k' hk' => ?_⟩
      show az_aok b (si_set h.2.2 j k w j k')
      unfold si_set
      rw [if_pos rfl]
      split
      · rename_i hkk
        subst hkk
        exact hk hk'
      · exact hj.2 k' hk'
  · cases f with
    | inl o =>
      refine ⟨hj.1, fun k' q hq => ?_⟩
      show az_qok P q (si_set h.2.2 i k w j k')
      rw [si_set_ne hji]
      exact hj.2 k' q hq
    | inr b =>
      refine ⟨hj.1, fun k' hk' => ?_⟩
      show az_aok b (si_set h.2.2 i k w j k')
      rw [si_set_ne hji]
      exact hj.2 k' hk'
theorem az_out_set {i k : Nat} {w : Value} (hm : az_in md i k = true) : az_same_out md h (h.1, h.2.1, si_set h.2.2 i k w) := by
  refine ⟨rfl, rfl, fun a b hab => ?_⟩
  show si_set h.2.2 i k w a b = h.2.2 a b
  unfold si_set
  by_cases ha : a = i
  · subst ha
    rw [if_pos rfl]
    split
    · rename_i hb
      subst hb
      rw [hm] at hab
      cases hab
    · rfl
  · rw [if_neg ha]
theorem az_tsw_ok {x : az_L} {lo : Int} {z : Int} (hg : az_g P ρ h C) (hw : az_wf C.1.length x) (hz : z = az_ev ρ x) : ∀ (l : List Int) (j : Nat) (M : List az_K), az_tsw C pc x lo aL aS j l = some M → ∀ (k : Nat) (off : Int), l[k]? = some off → z = lo + ((j + k : Nat) : Int) → ∃ t D, si_tgt pc off = some t ∧ (D, t, aL, aS) ∈ M ∧ az_g P ρ h D ∧ D.1.length = C.1.length
  | [], _, _, _, k, off, hk, _ => by cases hk
  | o :: r, j, M, hM, k, off, hk, he => by
    unfold az_tsw at hM
    split at hM
    · rename_i t l ht hl
      cases hM
      cases k with
      | zero =>
        cases hk
        obtain ⟨D, d1, d2, d3⟩ := az_alt_mem (aL := aL) (aS := aS) (pc' := t) (fs := [[az_plus x (-(lo + j)), az_plus (az_neg x) (lo + j)]]) hg (az_single (fun a ha => by
          simp only [List.mem_cons, List.not_mem_nil, or_false] at ha
          rw [Nat.add_zero] at he
          rcases ha with rfl | rfl
          · exact ⟨by rw [az_plus_ev]; omega, az_wf_plus hw⟩
          · exact ⟨by rw [az_plus_ev, az_neg_ev]; omega, az_wf_plus (az_wf_neg hw)⟩))
        exact ⟨t, D, ht, List.mem_append_left _ d1, d2, d3⟩
      | succ k =>
        obtain ⟨t', D, e1, e2, e3⟩ := az_tsw_ok hg hw hz r (j + 1) l hl k off hk (by rw [he]; congr 2; omega)
        exact ⟨t', D, e1, List.mem_append_right _ e2, e3⟩
    · cases hM
theorem az_lsw_ok {x : az_L} {z d : Int} (hg : az_g P ρ h C) (hw : az_wf C.1.length x) (hz : z = az_ev ρ x) : ∀ (l : List (Int × Int)) (M : List az_K), az_lsw C pc x aL aS l = some M → (Op.lookupswitch.offset l d z = d ∧ ∀ q ∈ l, z ≠ q.1) ∨ ∃ t D, si_tgt pc (Op.lookupswitch.offset l d z) = some t ∧ (D, t, aL, aS) ∈ M ∧ az_g P ρ h D ∧ D.1.length = C.1.length
  | [], _, _ => Or.inl ⟨rfl, fun q hq => by cases hq⟩
  | (a, o) :: r, M, hM => by
    unfold az_lsw at hM
    split at hM
    · rename_i t l ht hl
      cases hM
      rw [Op.lookupswitch.offset_cons]
      split
      · rename_i ha
        obtain ⟨D, d1, d2, d3⟩ := az_alt_mem (aL := aL) (aS := aS) (pc' := t) (fs := [[az_plus x (-a), az_plus (az_neg x) a]]) hg (az_single (fun b hb => by
          simp only [List.mem_cons, List.not_mem_nil, or_false] at hb
          rcases hb with rfl | rfl
          · exact ⟨by rw [az_plus_ev]; omega, az_wf_plus hw⟩
          · exact ⟨by rw [az_plus_ev, az_neg_ev]; omega, az_wf_plus (az_wf_neg hw)⟩))
        exact Or.inr ⟨t, D, ht, List.mem_append_left _ d1, d2, d3⟩
      · rename_i ha
        rcases az_lsw_ok hg hw hz r l hl with e | ⟨t', D, e1, e2, e3⟩
        · exact Or.inl ⟨e.1, fun q hq => by
            rcases List.mem_cons.mp hq with rfl | hq
            · intro e0
              exact ha (by first | exact e0 | exact e0.symm | (rw [e0]))
            · exact e.2 q hq⟩
        · exact Or.inr ⟨t', D, e1, List.mem_append_right _ e2, e3⟩
    · cases hM
theorem az_sp2_ok {a : az_L} {z : Int32} {pc' : Nat} {o : Option (Nat × si_L × List Value × si_H)} (hH : az_HI P tb h) (hg : az_g P ρ h C) (hw : az_wf C.1.length a) (hL : az_gL P ρ C.1.length aL ls) (hS : az_gS P ρ C.1.length aS st) (hz : z.toInt = (az_ev ρ a).bmod (2 ^ 32)) (hb1 : -4294967296 ≤ az_ev ρ a) (hb2 : az_ev ρ a ≤ 4294967296) (he : o = some (pc', ls, .int z :: st, h)) : az_post P tb md ρ h C.1.length (az_sp2 C a pc' aL aS) o := by
  have key : ∀ (fs : List az_L) (b : az_L), (fs, b) ∈ [([az_plus a 2147483648, az_plus (az_neg a) 2147483647], a), ([az_plus (az_neg a) (-2147483649)], az_plus a 4294967296), ([az_plus a (-2147483648)], az_plus a (-4294967296))] → (∀ f ∈ fs, 0 ≤ az_ev ρ f ∧ az_wf C.1.length f) → az_wf C.1.length b → z.toInt = az_ev ρ b → az_post P tb md ρ h C.1.length (az_sp2 C a pc' aL aS) o := by
    intro fs b hm hf hwb hzb
    obtain ⟨D, e1, e2, e3⟩ := az_takes_g hg hf
    refine ⟨_, _, _, _, he, hH, az_same_out.rf, (D, pc', aL, .inl b :: aS), List.mem_filterMap.mpr ⟨(fs, b), hm, by rw [e1]; rfl⟩, ρ, az_ext.rf, by rw [e3]; exact Nat.le_refl _, e2, rfl, by rw [e3]; exact hL, ?_⟩
    rw [e3]
    exact ⟨hwb, hzb, hS⟩
  by_cases h1 : az_ev ρ a < -2147483648
  · refine key _ _ (List.mem_cons_of_mem _ List.mem_cons_self) (fun f hf => ?_) (az_wf_plus hw) ?_
    · rcases List.mem_singleton.mp hf with rfl
      exact ⟨by rw [az_plus_ev, az_neg_ev]; omega, az_wf_plus (az_wf_neg hw)⟩
    · rw [hz, az_plus_ev, Int.bmod_def]
      split <;> omega
  · by_cases h2 : 2147483647 < az_ev ρ a
    · refine key _ _ (List.mem_cons_of_mem _ (List.mem_cons_of_mem _ List.mem_cons_self)) (fun f hf => ?_) (az_wf_plus hw) ?_
      · rcases List.mem_singleton.mp hf with rfl
        exact ⟨by rw [az_plus_ev]; omega, az_wf_plus hw⟩
      · rw [hz, az_plus_ev, Int.bmod_def]
        split <;> omega
    · refine key _ _ List.mem_cons_self (fun f hf => ?_) hw ?_
      · simp only [List.mem_cons, List.not_mem_nil, or_false] at hf
        rcases hf with rfl | rfl
        · exact ⟨by rw [az_plus_ev]; omega, az_wf_plus hw⟩
        · exact ⟨by rw [az_plus_ev, az_neg_ev]; omega, az_wf_plus (az_wf_neg hw)⟩
      · rw [hz, Int.bmod_def]
        split <;> omega
theorem az_ne1 {C : az_C} {d : az_L} : ∃ g, az_ne C false d = [g] := by
  unfold az_ne
  split
  · exact ⟨_, rfl⟩
  · split
    · exact ⟨_, rfl⟩
    · exact ⟨_, rfl⟩
theorem az_lsd_ok {x : az_L} {z : Int} (hz : z = az_ev ρ x) : ∀ (l : List (Int × Int)) (C : az_C), az_g P ρ h C → az_wf C.1.length x → (∀ q ∈ l, z ≠ q.1) → ∃ D, az_lsd x l C = some D ∧ az_g P ρ h D ∧ D.1.length = C.1.length
  | [], C, hg, _, _ => ⟨C, rfl, hg, rfl⟩
  | q :: r, C, hg, hw, hn => by
    obtain ⟨g, hgg⟩ := az_ne1 (C := C) (d := az_plus x (-q.1))
    have hd : az_ev ρ (az_plus x (-q.1)) ≠ 0 := by
      have := hn q List.mem_cons_self
      rw [az_plus_ev]
      omega
    obtain ⟨f, f1, f2⟩ := az_ne_ok (sp := false) hg (az_wf_plus hw) hd
    rw [hgg] at f1
    rcases List.mem_singleton.mp f1 with rfl
    obtain ⟨D, e1, e2, e3⟩ := az_takes_g hg f2
    obtain ⟨E, k1, k2, k3⟩ := az_lsd_ok hz r D e2 (by rw [e3]; exact hw) (fun y hy => hn y (List.mem_cons_of_mem _ hy))
    refine ⟨E, ?_, k2, k3.trans e3⟩
    unfold az_lsd
    rw [hgg]
    dsimp only
    rw [e1]
    exact k1
end AzStepOk
