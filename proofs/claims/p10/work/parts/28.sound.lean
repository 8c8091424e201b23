/-! THE CHECKER, 11: behind a call by contract; the whole exploration is sound -/
section AzAft
variable {P : si_P} {tb : List az_B} {ρ : Nat → Int} {h h1 : si_H} {D : az_C}
theorem az_wf_getD {n : Nat} {σ : List az_L} (hw : ∀ a ∈ σ, az_wf n a) (j : Nat) : az_wf n (σ.getD j (az_c 0)) := by
  rw [List.getD_eq_getElem?_getD]
  cases hj : σ[j]? with
  | none => exact az_wf_c _ _
  | some a => exact hw a (List.mem_of_getElem? hj)
theorem az_wf_sb {n : Nat} {σ : List az_L} (hw : ∀ a ∈ σ, az_wf n a) : ∀ l, az_wf n (az_sb σ l)
  | [] => az_wf_c _ _
  | _ :: r => az_wf_add (az_wf_scl (az_wf_getD hw _)) (az_wf_sb hw r)
theorem az_wf_sbs {n : Nat} {σ : List az_L} (hw : ∀ a ∈ σ, az_wf n a) (a : az_L) : az_wf n (az_sbs σ a) := az_wf_plus (az_wf_sb hw _)
theorem az_facts_ok : ∀ {l : List az_L} {C : az_C}, az_g P ρ h C → (∀ a ∈ l, 0 ≤ az_ev ρ a ∧ az_wf C.1.length a) → az_g P ρ h (az_facts l C) ∧ (az_facts l C).1.length = C.1.length
  | [], _, hg, _ => ⟨hg, rfl⟩
  | a :: r, C, hg, hl => by
    obtain ⟨g1, g2⟩ := az_fact_g hg (hl a List.mem_cons_self).1 (hl a List.mem_cons_self).2
    obtain ⟨g3, g4⟩ := az_facts_ok (l := r) g1 (fun x hx => by rw [g2]; exact hl x (List.mem_cons_of_mem _ hx))
    exact ⟨g3, g4.trans g2⟩
theorem az_stay_in {md : List (Nat × Nat)} {q : az_R} (hs : az_stay md q = true) (hq : q.1 ≠ 1000000) : az_in md q.1 (az_ev ρ q.2.1).toNat = false := by
  unfold az_stay at hs
  rw [Bool.or_eq_true, Bool.or_eq_true, decide_eq_true_eq] at hs
  rcases hs with (hs | hs) | hs
  · exact absurd hs hq
  · unfold az_in
    have key : ∀ k, md.contains (q.1, k) = false := by
      intro k
      rw [Bool.eq_false_iff]
      intro hc
      have hm : (q.1, k) ∈ md := by simpa using hc
      exact absurd rfl (of_decide_eq_true (List.all_eq_true.mp hs _ hm))
    rw [key, key]
    rfl
  · split at hs
    · rename_i k hk
      rw [Bool.and_eq_true, decide_eq_true_eq, Bool.not_eq_true'] at hs
      have e : az_ev ρ q.2.1 = k := by rw [hk]; exact az_c_ev ρ k
      rw [e]
      exact hs.2
    · cases hs
set_option maxHeartbeats 1000000 in
theorem az_aft_ok {σ : List az_L} {md : List (Nat × Nat)} {q : az_C × Option az_V} {π : Nat → Int} {rv : Option Value} (hg : az_g P ρ h D) (hσ : ∀ a ∈ σ, az_wf D.1.length a) (hso : az_same_out md h h1) (hp : σ.length ≤ q.1.1.length) (hx : az_ext σ.length (az_en ρ σ) π) (hq : az_g P π h1 q.1) (ho : az_gO P π q.1.1.length q.2 rv) : ∃ τ, az_ext D.1.length ρ τ ∧ D.1.length ≤ (az_aft D σ md q).1.1.length ∧ az_g P τ h1 (az_aft D σ md q).1 ∧ az_gO P τ (az_aft D σ md q).1.1.length (az_aft D σ md q).2 rv := by
  generalize hn : D.1.length = n at hσ
  generalize hpp : σ.length = p at hp hx
  have hτ : az_ext n ρ (fun v => if v < n then ρ v else π (p + (v - n))) := fun v hv => if_pos hv
  generalize hτd : (fun v => if v < n then ρ v else π (p + (v - n))) = τ at hτ
  generalize hL : σ ++ az_nvs n (q.1.1.length - p) = ts
  have hN : n + (q.1.1.length - p) = n + (q.1.1.drop p).length := by rw [List.length_drop]
  have wts : ∀ a ∈ ts, az_wf (n + (q.1.1.length - p)) a := by
    intro a ha
    rw [← hL] at ha
    rcases List.mem_append.mp ha with ha | ha
    · exact (hσ a ha).mono (Nat.le_add_right _ _)
    · obtain ⟨j, hj, rfl⟩ := List.mem_map.mp ha
      have := List.mem_range.mp hj
      exact az_wf_v (by omega)
  have hen : ∀ j, j < q.1.1.length → az_en τ ts j = π j := by
    intro j hj
    unfold az_en
    rw [List.getD_eq_getElem?_getD, ← hL]
    rcases Nat.lt_or_ge j p with hjp | hjp
    · rw [List.getElem?_append_left (by omega)]
      have hs : σ[j]? = some (σ[j]'(by omega)) := List.getElem?_eq_getElem (by omega)
      rw [hs]
      show az_ev τ σ[j] = _
      rw [hτ.ev (hσ _ (List.mem_of_getElem? hs)), hx j hjp]
      unfold az_en
      rw [List.getD_eq_getElem?_getD, hs]
      rfl
    · rw [List.getElem?_append_right (by omega)]
      unfold az_nvs
      rw [List.getElem?_map, List.getElem?_range (by omega)]
      show az_ev τ (az_v (n + (j - σ.length))) = _
      rw [az_v_ev, ← hτd, hpp]
      show (if n + (j - p) < n then _ else _) = _
      rw [if_neg (by omega)]
      congr 1
      omega
  have hev : ∀ a, az_wf q.1.1.length a → az_ev τ (az_sbs ts a) = az_ev π a := by
    intro a ha
    rw [az_sbs_ev]
    exact az_ev_eq hen ha
  have hlen : (D.1 ++ q.1.1.drop p).length = n + (q.1.1.length - p) := by rw [List.length_append, hn, List.length_drop]
  have hbase : az_g P τ h1 (D.1 ++ q.1.1.drop p, D.2.1, q.1.2.2.1.map (fun x => (x.1, az_sbs ts x.2.1, az_sbs ts x.2.2.1, az_sbs ts x.2.2.2)) ++ D.2.2.1, q.1.2.2.2.map (fun x => (x.1, az_sbs ts x.2.1, az_sbs ts x.2.2)) ++ D.2.2.2.filter (az_stay md)) := by
    refine ⟨?_, ?_, ?_, ?_⟩
    · intro v b hb
      dsimp only at hb
      rcases Nat.lt_or_ge v n with hv | hv
      · rw [List.getElem?_append_left (by omega)] at hb
        rw [hτ v hv]
        exact hg.1 v b hb
      · rw [List.getElem?_append_right (by omega), List.getElem?_drop, hn] at hb
        have := hq.1 _ b hb
        rw [← hτd]
        dsimp only
        rw [if_neg (by omega)]
        exact this
    · intro f hf
      have := hg.2.1 f hf
      rw [hn] at this
      rw [hlen, hτ.ev this.2]
      exact ⟨this.1, this.2.mono (Nat.le_add_right _ _)⟩
    · intro x hx2
      rw [hlen]
      rcases List.mem_append.mp hx2 with hx2 | hx2
      · obtain ⟨z, hz, rfl⟩ := List.mem_map.mp hx2
        obtain ⟨k1, k2⟩ := hq.2.2.1 z hz
        refine ⟨?_, az_wf_sbs wts _, az_wf_sbs wts _, az_wf_sbs wts _⟩
        unfold az_nlok at k1 ⊢
        dsimp only
        rw [hev _ k2.1, hev _ k2.2.1, hev _ k2.2.2]
        exact k1
      · obtain ⟨k1, k2⟩ := hg.2.2.1 x hx2
        rw [hn] at k2
        exact ⟨k1.ext hτ k2, k2.1.mono (Nat.le_add_right _ _), k2.2.1.mono (Nat.le_add_right _ _), k2.2.2.mono (Nat.le_add_right _ _)⟩
    · intro x hx2
      rw [hlen]
      rcases List.mem_append.mp hx2 with hx2 | hx2
      · obtain ⟨z, hz, rfl⟩ := List.mem_map.mp hx2
        obtain ⟨k1, k2⟩ := hq.2.2.2 z hz
        refine ⟨?_, az_wf_sbs wts _, az_wf_sbs wts _⟩
        unfold az_trok at k1 ⊢
        dsimp only
        rw [hev _ k2.1, hev _ k2.2]
        exact k1
      · obtain ⟨x1, x2⟩ := List.mem_filter.mp hx2
        obtain ⟨k1, k2⟩ := hg.2.2.2 x x1
        rw [hn] at k2
        refine ⟨?_, k2.1.mono (Nat.le_add_right _ _), k2.2.mono (Nat.le_add_right _ _)⟩
        have k3 := k1.ext hτ k2
        refine ⟨k3.1, fun hne => ?_⟩
        obtain ⟨e0, w, e1, e2⟩ := k3.2 hne
        refine ⟨e0, w, ?_, e2⟩
        rw [hso.2.2 _ _ (az_stay_in x2 hne)]
        exact e1
  have hfs : ∀ a ∈ q.1.2.1.map (az_sbs ts), 0 ≤ az_ev τ a ∧ az_wf (D.1 ++ q.1.1.drop p).length a := by
    intro a ha
    obtain ⟨f, hf, rfl⟩ := List.mem_map.mp ha
    have := hq.2.1 f hf
    rw [hev f this.2, hlen]
    exact ⟨this.1, az_wf_sbs wts _⟩
  obtain ⟨f1, f2⟩ := az_facts_ok hbase hfs
  have hdef : az_aft D σ md q = (az_facts (q.1.2.1.map (az_sbs ts)) (D.1 ++ q.1.1.drop p, D.2.1, q.1.2.2.1.map (fun x => (x.1, az_sbs ts x.2.1, az_sbs ts x.2.2.1, az_sbs ts x.2.2.2)) ++ D.2.2.1, q.1.2.2.2.map (fun x => (x.1, az_sbs ts x.2.1, az_sbs ts x.2.2)) ++ D.2.2.2.filter (az_stay md)), q.2.map (az_sv ts)) := by
    unfold az_aft
    rw [hn, hpp, hL]
  rw [hdef]
  dsimp only
  have f2' := f2.trans hlen
  rw [f2']
  refine ⟨τ, hτ, Nat.le_add_right _ _, f1, ?_⟩
  unfold az_gO at ho ⊢
  cases hq2 : q.2 with
  | none =>
    rw [hq2] at ho
    cases rv with
    | none => trivial
    | some w => exact ho.elim
  | some v =>
    rw [hq2] at ho
    cases rv with
    | none => exact ho.elim
    | some w =>
      obtain ⟨o1, o2, -⟩ := ho
      refine ⟨?_, ?_, trivial⟩
      · cases v with
        | inl a => exact az_wf_sbs wts a
        | inr a => trivial
      · cases v with
        | inl a =>
          obtain ⟨x, rfl, hx3⟩ := az_gV_int o2
          show x.toInt = az_ev τ (az_sbs ts a)
          rw [hev a o1]
          exact hx3
        | inr a => rcases a with u | i | k <;> cases w <;> exact o2
def az_wfct (c : az_Ct) : Bool := az_wfC c.2.1 && c.2.2.1.all (az_wfvb c.2.1.1.length) && c.2.2.2.1.all (az_wfpst c.2.1.1.length)
theorem az_mtI_len {C : az_C} : ∀ {iv : az_I} {τ : List az_L}, az_mtI C iv τ = true → iv.length = τ.length
  | [], [], _ => rfl
  | _ :: _, _ :: _, hm => by
    unfold az_mtI at hm
    rw [Bool.and_eq_true] at hm
    rw [List.length_cons, List.length_cons, az_mtI_len hm.2]
  | [], _ :: _, hm => by cases hm
  | _ :: _, [], hm => by cases hm
theorem az_try_ok {J : si_H → Prop} {md : List (Nat × Nat)} {dn m' d : Nat} {C : az_C} {args : List az_V} {as : List Value} {c : az_Ct} {l : List (az_C × Option az_V)} (ht : az_tbk tb = true) (hok : az_ok J P tb c) (hwf : az_wfct c = true) (hH : az_HI P tb h) (hJh : J h) (hg : az_g P ρ h C) (hS : az_gS P ρ C.1.length args as) (htry : az_try tb md dn m' C args c = some l) (hd : dn ≤ d) :
    az_X P d m' 0 (lv_args 0 as) [] h (fun rv h1 => az_HI P tb h1 ∧ J h1 ∧ az_same_out md h h1 ∧ ∃ r, r ∈ l ∧ ∃ τ, az_ext C.1.length ρ τ ∧ C.1.length ≤ r.1.1.length ∧ az_g P τ h1 r.1 ∧ az_gO P τ r.1.1.length r.2 rv) := by
  unfold az_wfct at hwf
  simp only [Bool.and_eq_true] at hwf
  obtain ⟨⟨w1, w2⟩, w3⟩ := hwf
  unfold az_try at htry
  split at htry
  · rename_i hc
    obtain ⟨rfl, hdn, hmd⟩ := hc
    dsimp only at htry
    obtain ⟨σ0, s1, s2, s3⟩ := az_ens_ok ht hH c.2.1.2.2.2 C ρ hg
    generalize az_ens tb c.2.1.2.2.2 C = D at htry s2 s3
    generalize az_sg 0 c.2.1.1.length (az_prs D c.2.1 [] [] args c.2.2.1) = σ at htry
    split at htry
    · rename_i hm
      cases htry
      simp only [Bool.and_eq_true] at hm
      obtain ⟨⟨m1, m2⟩, m3⟩ := hm
      have hlen : c.2.1.1.length = σ.length := by
        unfold az_mt at m1
        simp only [Bool.and_eq_true] at m1
        exact az_mtI_len m1.1.1.1
      have hx := hok d (by omega) (az_en σ0 σ) h as hH hJh (az_mt_ok s3 w1 m1) (az_mS_ok (hS.ext s1 s2) w2 m2)
      refine hx.mono (fun rv h1 hq => ?_)
      obtain ⟨q1, qJ, q2, q, q3, π, q4, q5, q6⟩ := hq
      have hwq := List.all_eq_true.mp w3 q q3
      unfold az_wfpst at hwq
      simp only [Bool.and_eq_true, decide_eq_true_eq] at hwq
      rw [hlen] at q4
      obtain ⟨τ, t1, t2, t3, t4⟩ := az_aft_ok s3 (fun a ha => az_wfb_ok (List.all_eq_true.mp m3 a ha)) q2 (by rw [← hlen]; exact hwq.2) q4 q5 q6
      refine ⟨q1, qJ, ⟨q2.1, q2.2.1, fun i k hik => q2.2.2 i k ?_⟩, _, List.mem_map.mpr ⟨q, q3, rfl⟩, τ, s1.tr t1 s2, Nat.le_trans s2 t2, t3, t4⟩
      have sub : ∀ x, c.2.2.2.2.1.contains x = true → md.contains x = true := fun x hx => List.all_eq_true.mp hmd x (by simpa using hx)
      unfold az_in at hik ⊢
      rw [Bool.or_eq_false_iff] at hik ⊢
      constructor
      · rw [Bool.eq_false_iff]
        intro hc
        rw [sub _ hc] at hik
        cases hik.1
      · rw [Bool.eq_false_iff]
        intro hc
        rw [sub _ hc] at hik
        cases hik.2
    · cases htry
  · cases htry
theorem az_tries_ok {J : si_H → Prop} {md : List (Nat × Nat)} {dn m' d : Nat} {C : az_C} {args : List az_V} {as : List Value} {l : List (az_C × Option az_V)} (ht : az_tbk tb = true) (hH : az_HI P tb h) (hJh : J h) (hg : az_g P ρ h C) (hS : az_gS P ρ C.1.length args as) (hd : dn ≤ d) : ∀ (cts : List az_Ct), (∀ c ∈ cts, az_ok J P tb c ∧ az_wfct c = true) → az_tries tb md dn m' C args cts = some l →
    az_X P d m' 0 (lv_args 0 as) [] h (fun rv h1 => az_HI P tb h1 ∧ J h1 ∧ az_same_out md h h1 ∧ ∃ r, r ∈ l ∧ ∃ τ, az_ext C.1.length ρ τ ∧ C.1.length ≤ r.1.1.length ∧ az_g P τ h1 r.1 ∧ az_gO P τ r.1.1.length r.2 rv)
  | [], _, htr => by cases htr
  | c :: r, hc, htr => by
    unfold az_tries at htr
    split at htr
    · rename_i l' hl
      cases htr
      exact az_try_ok ht (hc c List.mem_cons_self).1 (hc c List.mem_cons_self).2 hH hJh hg hS hl hd
    · exact az_tries_ok ht hH hJh hg hS hd r (fun x hx => hc x (List.mem_cons_of_mem _ hx)) htr
end AzAft
