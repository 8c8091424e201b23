/-! THE CHECKER, 8: runs that end, with what holds there; matching a state against a template -/
theorem si_run_mono {P : si_P} : ∀ (n d mi pc : Nat) (ls : si_L) (st : List Value) (h : si_H) (r : Option Value × si_H), si_run P n d mi pc ls st h = some r → si_run P (n + 1) d mi pc ls st h = some r := by
  intro n
  induction n with
  | zero => intro d mi pc ls st h r hr; cases hr
  | succ n ih =>
    intro d mi pc ls st h r hr
    unfold si_run at hr ⊢
    split at hr
    · rename_i y e hy he
      try rw [hy, he]
      try dsimp only
      split at hr
      · rename_i pc' ls' st' h' hs
        try rw [hs]
        exact ih _ _ _ _ _ _ _ hr
      · rename_i hs
        try rw [hs]
        try dsimp only
        split at hr
        · rename_i rr hret
          try rw [hret]
          exact hr
        · rename_i hret
          try rw [hret]
          try dsimp only
          split at hr
          · rename_i st' h' hmk
            try rw [hmk]
            exact ih _ _ _ _ _ _ _ hr
          · rename_i hmk
            try rw [hmk]
            try dsimp only
            split at hr
            · cases hr
            · rename_i d'
              try dsimp only
              split at hr
              · rename_i m' as rest hc
                try rw [hc]
                try dsimp only
                split at hr
                · rename_i v h1 h2
                  rw [ih _ _ _ _ _ _ _ h2]
                  exact ih _ _ _ _ _ _ _ hr
                · rename_i h1 h2
                  rw [ih _ _ _ _ _ _ _ h2]
                  exact ih _ _ _ _ _ _ _ hr
                · cases hr
              · rename_i hc
                try rw [hc]
                try dsimp only
                split at hr
                · rename_i st' hp
                  try rw [hp]
                  try dsimp only
                  split at hr
                  · rename_i h8
                    rw [if_pos h8]
                    exact ih _ _ _ _ _ _ _ hr
                  · cases hr
                · cases hr
    · cases hr
theorem si_run_le {P : si_P} {n k d mi pc : Nat} {ls : si_L} {st : List Value} {h : si_H} {r : Option Value × si_H} (hk : n ≤ k) (hr : si_run P n d mi pc ls st h = some r) : si_run P k d mi pc ls st h = some r := by
  induction hk with
  | refl => exact hr
  | step _ ih => exact si_run_mono _ _ _ _ _ _ _ _ ih
def az_X (P : si_P) (d mi pc : Nat) (ls : si_L) (st : List Value) (h : si_H) (Q : Option Value → si_H → Prop) : Prop := ∃ (n : Nat) (rv : Option Value) (h' : si_H), si_run P n d mi pc ls st h = some (rv, h') ∧ Q rv h'
section AzX
variable {P : si_P} {d mi pc : Nat} {ls : si_L} {st : List Value} {h : si_H} {Q : Option Value → si_H → Prop} {y : si_M} {e : si_E}
theorem az_X.mono {Q' : Option Value → si_H → Prop} (hx : az_X P d mi pc ls st h Q) (hq : ∀ rv h', Q rv h' → Q' rv h') : az_X P d mi pc ls st h Q' := by
  obtain ⟨n, rv, h', h1, h2⟩ := hx
  exact ⟨n, rv, h', h1, hq _ _ h2⟩
theorem az_X_step {pc' : Nat} {ls' : si_L} {st' : List Value} {h' : si_H} (hy : si_m mi = some y) (he : si_fetch mi pc = some e) (hs : si_step P y pc e ls st h = some (pc', ls', st', h')) (hx : az_X P d mi pc' ls' st' h' Q) : az_X P d mi pc ls st h Q := by
  obtain ⟨n, rv, h1, h2, h3⟩ := hx
  refine ⟨n + 1, rv, h1, ?_, h3⟩
  unfold si_run
  rw [hy, he]
  dsimp only
  rw [hs]
  exact h2
theorem az_X_ret {rv : Option Value} (hy : si_m mi = some y) (he : si_fetch mi pc = some e) (hs : si_step P y pc e ls st h = none) (hr : si_ret y e st = some rv) (hq : Q rv h) : az_X P d mi pc ls st h Q := by
  refine ⟨1, rv, h, ?_, hq⟩
  unfold si_run
  rw [hy, he]
  dsimp only
  rw [hs]
  dsimp only
  rw [hr]
theorem az_X_call {m' : Nat} {as rest : List Value} (hy : si_m mi = some y) (he : si_fetch mi pc = some e) (hs : si_step P y pc e ls st h = none) (hr : si_ret y e st = none) (hm : si_make P e st h = none) (hc : si_call P e st h = some (m', as, rest)) (hx : az_X P d m' 0 (lv_args 0 as) [] h (fun rv h1 => az_X P (d + 1) mi (pc + 3) ls (rv.toList ++ rest) h1 Q)) : az_X P (d + 1) mi pc ls st h Q := by
  obtain ⟨n, rv, h1, h2, k, rv2, h3, h4, h5⟩ := hx
  refine ⟨n + k + 1, rv2, h3, ?_, h5⟩
  have a1 := si_run_le (k := n + k) (by omega) h2
  have a2 := si_run_le (k := n + k) (by omega) h4
  unfold si_run
  rw [hy, he]
  dsimp only
  rw [hs]
  dsimp only
  rw [hr]
  dsimp only
  rw [hm]
  dsimp only
  rw [hc]
  dsimp only
  rw [a1]
  cases rv with
  | none => exact a2
  | some v => exact a2
theorem az_X_prim {st' : List Value} (hy : si_m mi = some y) (he : si_fetch mi pc = some e) (hs : si_step P y pc e ls st h = none) (hr : si_ret y e st = none) (hm : si_make P e st h = none) (hc : si_call P e st h = none) (hp : si_prim P e st = some st') (h8 : 8 ≤ d) (hx : az_X P (d + 1) mi (pc + 3) ls st' h Q) : az_X P (d + 1) mi pc ls st h Q := by
  obtain ⟨n, rv, h1, h2, h3⟩ := hx
  refine ⟨n + 1, rv, h1, ?_, h3⟩
  unfold si_run
  rw [hy, he]
  dsimp only
  rw [hs]
  dsimp only
  rw [hr]
  dsimp only
  rw [hm]
  dsimp only
  rw [hc]
  dsimp only
  rw [hp]
  dsimp only
  rw [if_pos h8]
  exact h2
end AzX
/-- substitution -/
def az_sb (σ : List az_L) : List (Nat × Int) → az_L
  | [] => az_c 0
  | t :: r => az_add (az_scl t.2 (σ.getD t.1 (az_c 0))) (az_sb σ r)
def az_sbs (σ : List az_L) (a : az_L) : az_L := az_plus (az_sb σ a.1) a.2
def az_en (ρ : Nat → Int) (σ : List az_L) : Nat → Int := fun v => az_ev ρ (σ.getD v (az_c 0))
theorem az_sb_ev {ρ : Nat → Int} {σ : List az_L} : ∀ l, az_ev ρ (az_sb σ l) = az_evL (az_en ρ σ) l
  | [] => by rw [show az_sb σ [] = az_c 0 from rfl, az_c_ev]; rfl
  | t :: r => by
    rw [show az_sb σ (t :: r) = az_add (az_scl t.2 (σ.getD t.1 (az_c 0))) (az_sb σ r) from rfl, az_add_ev, az_scl_ev, az_sb_ev r]
    rfl
theorem az_sbs_ev {ρ : Nat → Int} {σ : List az_L} (a : az_L) : az_ev ρ (az_sbs σ a) = az_ev (az_en ρ σ) a := by
  unfold az_sbs
  rw [az_plus_ev, az_sb_ev]
  rfl
def az_wfb (n : Nat) (a : az_L) : Bool := a.1.all (fun t => decide (t.1 < n))
theorem az_wfb_ok {n : Nat} {a : az_L} (h : az_wfb n a = true) : az_wf n a := fun t ht => of_decide_eq_true (List.all_eq_true.mp h t ht)
def az_wfvb (n : Nat) (v : az_V) : Bool := match v with
  | .inl a => az_wfb n a
  | _ => true
theorem az_wfvb_ok {n : Nat} {v : az_V} (h : az_wfvb n v = true) : az_wfV n v := by
  cases v with
  | inl a => exact az_wfb_ok h
  | inr a => trivial
/-- a template names only its own numbers -/
def az_wfC (T : az_C) : Bool := T.2.1.all (az_wfb T.1.length) && T.2.2.1.all (fun q => az_wfb T.1.length q.2.1 && az_wfb T.1.length q.2.2.1 && az_wfb T.1.length q.2.2.2) && T.2.2.2.all (fun q => az_wfb T.1.length q.2.1 && az_wfb T.1.length q.2.2)
def az_mtI (C : az_C) : az_I → List az_L → Bool
  | [], [] => true
  | b :: r, a :: s => az_btw C a b.1 b.2 && az_mtI C r s
  | _, _ => false
def az_mt (C T : az_C) (σ : List az_L) : Bool := az_mtI C T.1 σ && T.2.1.all (fun f => az_p2 C.1 C.2.1 (az_sbs σ f)) && T.2.2.1.all (fun q => C.2.2.1.any (fun p => decide (p.1 = q.1) && az_same p.2.1 (az_sbs σ q.2.1) && az_same p.2.2.1 (az_sbs σ q.2.2.1) && az_same p.2.2.2 (az_sbs σ q.2.2.2))) && T.2.2.2.all (fun q => C.2.2.2.any (fun p => decide (p.1 = q.1) && az_same p.2.1 (az_sbs σ q.2.1) && az_same p.2.2 (az_sbs σ q.2.2)))
section AzMt
variable {P : si_P} {ρ : Nat → Int} {h : si_H} {C T : az_C} {σ : List az_L}
theorem az_mtI_ok (hg : az_g P ρ h C) : ∀ {iv : az_I} {τ : List az_L}, az_mtI C iv τ = true → ∀ (v : Nat) (b : Int × Int), iv[v]? = some b → b.1 ≤ az_ev ρ (τ.getD v (az_c 0)) ∧ az_ev ρ (τ.getD v (az_c 0)) ≤ b.2
  | [], [], _, v, b, hv => by cases hv
  | x :: r, a :: s, hm, v, b, hv => by
    unfold az_mtI at hm
    rw [Bool.and_eq_true] at hm
    cases v with
    | zero => cases hv; exact az_btw_ok hg hm.1
    | succ v => exact az_mtI_ok hg hm.2 v b hv
  | [], _ :: _, hm, _, _, _ => by cases hm
  | _ :: _, [], hm, _, _, _ => by cases hm
theorem az_mt_ok (hg : az_g P ρ h C) (hw : az_wfC T = true) (hm : az_mt C T σ = true) : az_g P (az_en ρ σ) h T := by
  unfold az_mt at hm
  unfold az_wfC at hw
  simp only [Bool.and_eq_true] at hm hw
  obtain ⟨⟨⟨m1, m2⟩, m3⟩, m4⟩ := hm
  obtain ⟨⟨w1, w2⟩, w3⟩ := hw
  refine ⟨fun v b hv => az_mtI_ok hg m1 v b hv, fun f hf => ?_, fun q hq => ?_, fun q hq => ?_⟩
  · have := az_p2_g hg (List.all_eq_true.mp m2 f hf)
    rw [az_sbs_ev] at this
    exact ⟨this, az_wfb_ok (List.all_eq_true.mp w1 f hf)⟩
  · obtain ⟨p, hp1, hp2⟩ := List.any_eq_true.mp (List.all_eq_true.mp m3 q hq)
    have hw := List.all_eq_true.mp w2 q hq
    simp only [Bool.and_eq_true, decide_eq_true_eq] at hp2 hw
    obtain ⟨⟨⟨e0, e1⟩, e2⟩, e3⟩ := hp2
    have hp := (hg.2.2.1 p hp1).1
    unfold az_nlok at hp ⊢
    rw [e0, az_same_ev e1, az_same_ev e2, az_same_ev e3, az_sbs_ev, az_sbs_ev, az_sbs_ev] at hp
    exact ⟨hp, az_wfb_ok hw.1.1, az_wfb_ok hw.1.2, az_wfb_ok hw.2⟩
  · obtain ⟨p, hp1, hp2⟩ := List.any_eq_true.mp (List.all_eq_true.mp m4 q hq)
    have hw := List.all_eq_true.mp w3 q hq
    simp only [Bool.and_eq_true, decide_eq_true_eq] at hp2 hw
    obtain ⟨⟨e0, e1⟩, e2⟩ := hp2
    have hp := (hg.2.2.2 p hp1).1
    unfold az_trok at hp ⊢
    rw [e0, az_same_ev e1, az_same_ev e2, az_sbs_ev, az_sbs_ev] at hp
    exact ⟨hp, az_wfb_ok hw.1, az_wfb_ok hw.2⟩
def az_mv (σ : List az_L) (t v : az_V) : Bool := match t, v with
  | .inl a, .inl b => az_same (az_sbs σ a) b
  | .inr x, .inr z => decide (x = z)
  | _, _ => false
theorem az_mv_ok {t v : az_V} {w : Value} (hm : az_mv σ t v = true) (hv : az_gV P ρ v w) : az_gV P (az_en ρ σ) t w := by
  unfold az_mv at hm
  split at hm
  · rename_i a b
    obtain ⟨x, rfl, hx⟩ := az_gV_int hv
    show x.toInt = az_ev (az_en ρ σ) a
    rw [hx, ← az_same_ev hm, az_sbs_ev]
  · rename_i x z
    have := of_decide_eq_true hm
    subst this
    rcases x with u | i | k <;> cases w <;> exact hv
  · cases hm
def az_mL (σ : List az_L) (aL tL : az_Ls) : Bool := tL.all (fun q => match az_ld q.1 aL with
  | some v => az_mv σ q.2 v
  | none => false)
def az_mS (σ : List az_L) : List az_V → List az_V → Bool
  | [], [] => true
  | t :: r, v :: s => az_mv σ t v && az_mS σ r s
  | _, _ => false
theorem az_ld_in {k : Nat} {v : az_V} : ∀ {l : az_Ls}, az_ld k l = some v → (k, v) ∈ l
  | [], hv => by cases hv
  | q :: r, hv => by
    unfold az_ld at hv
    split at hv
    · rename_i hq
      cases hv
      rw [← hq]
      exact List.mem_cons_self
    · exact List.mem_cons_of_mem _ (az_ld_in hv)
theorem az_mL_ok {n k : Nat} {aL tL : az_Ls} {ls : si_L} (hL : az_gL P ρ n aL ls) (hw : tL.all (fun q => az_wfvb k q.2) = true) (hm : az_mL σ aL tL = true) : az_gL P (az_en ρ σ) k tL ls := by
  intro j v hv
  have hin := az_ld_in hv
  refine ⟨az_wfvb_ok (List.all_eq_true.mp hw _ hin), ?_⟩
  have hm2 := List.all_eq_true.mp hm _ hin
  dsimp only at hm2
  split at hm2
  · rename_i u hu
    obtain ⟨-, w, h1, h2⟩ := hL j u hu
    exact ⟨w, h1, az_mv_ok hm2 h2⟩
  · cases hm2
theorem az_mS_ok {n k : Nat} : ∀ {tS aS : List az_V} {st : List Value}, az_gS P ρ n aS st → tS.all (az_wfvb k) = true → az_mS σ tS aS = true → az_gS P (az_en ρ σ) k tS st
  | [], [], [], _, _, _ => trivial
  | t :: r, v :: s, w :: u, hS, hw, hm => by
    unfold az_mS at hm
    rw [Bool.and_eq_true] at hm
    rw [List.all_cons, Bool.and_eq_true] at hw
    exact ⟨az_wfvb_ok hw.1, az_mv_ok hm.1 hS.2.1, az_mS_ok hS.2.2 hw.2 hm.2⟩
  | [], [], _ :: _, hS, _, _ => hS.elim
  | [], _ :: _, _, _, _, hm => by cases hm
  | _ :: _, [], _, _, _, hm => by cases hm
  | _ :: _, _ :: _, [], hS, _, _ => hS.elim
end AzMt
