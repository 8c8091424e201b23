/-! THE SEGMENTS, 1: stretches of a method by the checker's step, with the list of what they come to -/
/-- what a step writes -/
def az_wrt (e : si_E) (aS : List az_V) : List (Nat × Option az_L) := match e.1, aS with
  | .putfield _, _ :: .inr (.inr (.inl i)) :: _ => [(i, some (az_c e.2.2.2.1))]
  | .iastore, _ :: .inl I :: .inr (.inr (.inl i)) :: _ => [(i, some I)]
  | .bastore, _ :: .inl I :: .inr (.inr (.inl i)) :: _ => [(i, some I)]
  | .lastore, _ :: .inl I :: .inr (.inr (.inl i)) :: _ => [(i, some I)]
  | _, _ => []
/-- all but the written places is as it was -/
def az_wok (ρ : Nat → Int) (W : List (Nat × Option az_L)) (h h' : si_H) : Prop := ∀ i k : Nat, (∀ w ∈ W, w.1 = i → ∃ I, w.2 = some I ∧ (az_ev ρ I).toNat ≠ k) → h'.2.2 i k = h.2.2 i k
def az_wfW (n : Nat) (W : List (Nat × Option az_L)) : Prop := ∀ w ∈ W, ∀ I, w.2 = some I → az_wf n I
theorem az_wok.rf {ρ : Nat → Int} {W : List (Nat × Option az_L)} {h : si_H} : az_wok ρ W h h := fun _ _ _ => rfl
theorem az_wok.app {ρ σ : Nat → Int} {n : Nat} {W V : List (Nat × Option az_L)} {a b c : si_H} (h1 : az_wok ρ W a b) (hx : az_ext n ρ σ) (hw : az_wfW n W) (h2 : az_wok σ V b c) : az_wok σ (W ++ V) a c := by
  intro i k hk
  rw [h2 i k (fun w hw' e => hk w (List.mem_append_right _ hw') e)]
  refine h1 i k (fun w hw' e => ?_)
  obtain ⟨I, e1, e2⟩ := hk w (List.mem_append_left _ hw') e
  exact ⟨I, e1, by rw [← hx.ev (hw w hw' I e1)]; exact e2⟩
theorem az_wok.ext {ρ σ : Nat → Int} {n : Nat} {W : List (Nat × Option az_L)} {a b : si_H} (h1 : az_wok ρ W a b) (hx : az_ext n ρ σ) (hw : az_wfW n W) : az_wok σ W a b := by
  intro i k hk
  refine h1 i k (fun w hw' e => ?_)
  obtain ⟨I, e1, e2⟩ := hk w hw' e
  exact ⟨I, e1, by rw [← hx.ev (hw w hw' I e1)]; exact e2⟩
theorem az_wfW.mono {n k : Nat} {W : List (Nat × Option az_L)} (h : az_wfW n W) (hk : n ≤ k) : az_wfW k W := fun w hw I e => (h w hw I e).mono hk
theorem az_wfW.app {n : Nat} {W V : List (Nat × Option az_L)} (h : az_wfW n W) (h' : az_wfW n V) : az_wfW n (W ++ V) := fun w hw I e => (List.mem_append.mp hw).elim (fun x => h w x I e) (fun x => h' w x I e)
def az_sto (i : Instr) : Bool := match i with
  | .putfield _ => true
  | .iastore => true
  | .bastore => true
  | .lastore => true
  | _ => false
set_option maxHeartbeats 4000000 in
theorem si_step_h {P : si_P} {y : si_M} {pc : Nat} {e : si_E} {ls : si_L} {st : List Value} {h : si_H} {r : Nat × si_L × List Value × si_H} (hn : az_sto e.1 = false) (hs : si_step P y pc e ls st h = some r) : r.2.2.2 = h := by
  unfold si_step at hs
  split at hs
  all_goals (first | (rename_i he; rw [he] at hn; cases hn; done) | skip)
  all_goals (repeat' (first | (cases hs; rfl) | (cases hs; done) | split at hs))

theorem si_ix_eq {P : si_P} {h : si_H} {i j : Nat} (hs : si_ix P h (P.1 + i) = some j) : j = i := by
  unfold si_ix at hs
  split at hs
  · cases hs; omega
  · cases hs
theorem si_set_other {c : Nat → Nat → Value} {i k a b : Nat} {v : Value} (hn : ¬ (a = i ∧ b = k)) : si_set c i k v a b = c a b := by
  unfold si_set
  split
  · split
    · rename_i h1 h2; exact absurd ⟨h1, h2⟩ hn
    · rfl
  · rfl
theorem si_ast_wr {P : si_P} {h h' : si_H} {tys : List FieldType} {i : Nat} {x : Int32} {v : Value} {ρ : Nat → Int} {I : az_L} (hx : x.toInt = az_ev ρ I) (hs : si_ast P h tys (P.1 + i) x v = some h') : az_wok ρ [(i, some I)] h h' := by
  unfold si_ast at hs
  split at hs
  · rename_i j hj
    cases si_ix_eq hj
    split at hs
    · split at hs
      · cases hs
        intro a b hab
        refine si_set_other (fun hc => ?_)
        obtain ⟨I', e1, e2⟩ := hab _ List.mem_cons_self hc.1.symm
        cases e1
        exact e2 (by rw [← hx, hc.2]; rfl)
      · cases hs
    · cases hs
  · cases hs
set_option maxHeartbeats 4000000 in
theorem az_step_wr {P : si_P} {ρ : Nat → Int} {n : Nat} {y : si_M} {pc : Nat} {e : si_E} {aS : List az_V} {ls : si_L} {st : List Value} {h : si_H} {r : Nat × si_L × List Value × si_H} (hS : az_gS P ρ n aS st) (hs : si_step P y pc e ls st h = some r) (hr : az_sto e.1 = true → az_wrt e aS ≠ []) : az_wok ρ (az_wrt e aS) h r.2.2.2 ∧ az_wfW n (az_wrt e aS) := by
  by_cases hn : az_sto e.1 = false
  · rw [si_step_h hn hs]
    refine ⟨az_wok.rf, ?_⟩
    unfold az_wrt
    split
    all_goals (first | (rename_i he; rw [he] at hn; cases hn; done) | skip)
    all_goals (first | (rename_i he _; rw [he] at hn; cases hn; done) | skip)
    all_goals (first | (intro w hw; cases hw; done) | skip)
    all_goals (exfalso; simp_all [az_sto])
  · have hr' := hr (by revert hn; cases az_sto e.1 <;> decide)
    revert hr'
    unfold az_wrt
    split
    · rename_i v i rest idx he
      intro _
      obtain ⟨w, s0, rfl, -, -, hS0⟩ := az_gS_cons hS
      obtain ⟨w2, s1, rfl, -, g1, hS1⟩ := az_gS_cons hS0
      cases az_gV_cell g1
      refine ⟨?_, fun w hw I hI => by rcases List.mem_singleton.mp hw with rfl; cases hI; exact az_wf_c _ _⟩
      obtain ⟨i0, e2⟩ := e
      dsimp only at he
      subst he
      unfold si_step at hs
      dsimp only at hs
      split at hs
      · split at hs
        · rename_i j hj
          cases si_ix_eq hj
          split at hs
          · cases hs
            intro a b hab
            refine si_set_other (fun hc => ?_)
            obtain ⟨I', e1, e3⟩ := hab _ List.mem_cons_self hc.1.symm
            cases e1
            exact e3 (by rw [az_c_ev, hc.2]; rfl)
          · cases hs
        · cases hs
      · cases hs
    all_goals first
      | (intro hc; exact absurd rfl hc)
      | (rename_i v I i rest he
         intro _
         obtain ⟨w, s0, rfl, -, -, hS0⟩ := az_gS_cons hS
         obtain ⟨w2, s1, rfl, wfI, gI, hS1⟩ := az_gS_cons hS0
         obtain ⟨w3, s2, rfl, -, g1, hS2⟩ := az_gS_cons hS1
         cases az_gV_cell g1
         obtain ⟨xi, rfl, exi⟩ := az_gV_int gI
         refine ⟨?_, fun w hw I hI => by rcases List.mem_singleton.mp hw with rfl; cases hI; exact wfI⟩
         obtain ⟨i0, e2⟩ := e
         dsimp only at he
         subst he
         unfold si_step at hs
         dsimp only at hs
         split at hs
         · split at hs
           · rename_i hcons
             cases hcons
             split at hs
             · rename_i h3 h4
               cases hs
               exact si_ast_wr exi h4
             · cases hs
           · cases hs
         · cases hs)
