/-! THE SEGMENTS, 2: the list of what a stretch comes to, and that it comes to nothing else -/
/-- an arrival: what holds, what was written, and where: at a stop, or at the return -/
abbrev az_Ar : Type := az_C × List (Nat × Option az_L) × ((Nat × az_Ls × List az_V) ⊕ Option az_V)
def az_jn (a b : Option (List az_Ar)) : Option (List az_Ar) := match a, b with
  | some x, some y => some (x ++ y)
  | _, _ => none
def az_jns {α : Type} (f : α → Option (List az_Ar)) : List α → Option (List az_Ar)
  | [] => some []
  | a :: r => az_jn (f a) (az_jns f r)
theorem az_jns_mem {α : Type} {f : α → Option (List az_Ar)} : ∀ {l : List α} {L : List az_Ar}, az_jns f l = some L → ∀ a ∈ l, ∃ M, f a = some M ∧ ∀ x ∈ M, x ∈ L
  | [], _, _, a, ha => by cases ha
  | b :: r, L, hL, a, ha => by
    unfold az_jns az_jn at hL
    split at hL
    · rename_i x y hx hy
      cases hL
      rcases List.mem_cons.mp ha with rfl | ha
      · exact ⟨x, hx, fun z hz => List.mem_append_left _ hz⟩
      · obtain ⟨M, m1, m2⟩ := az_jns_mem hy a ha
        exact ⟨M, m1, fun z hz => List.mem_append_right _ (m2 z hz)⟩
    · cases hL
def az_mdW (md : List (Nat × Nat)) : List (Nat × Option az_L) := md.map (fun x => (x.1, if x.2 = 1000000 then none else some (az_c x.2)))
theorem az_mdW_ok {ρ : Nat → Int} {md : List (Nat × Nat)} {h h' : si_H} (hs : az_same_out md h h') : az_wok ρ (az_mdW md) h h' := by
  intro i k hk
  refine hs.2.2 i k ?_
  have key : ∀ x ∈ md, x.1 = i → x.2 ≠ 1000000 ∧ x.2 ≠ k := by
    intro x hx e
    obtain ⟨I, e1, e2⟩ := hk _ (List.mem_map.mpr ⟨x, hx, rfl⟩) e
    dsimp only at e1
    split at e1
    · cases e1
    · rename_i hne
      cases e1
      refine ⟨hne, fun e3 => e2 ?_⟩
      rw [az_c_ev, e3]
      rfl
  unfold az_in
  rw [Bool.or_eq_false_iff]
  constructor
  · rw [Bool.eq_false_iff]
    intro hc
    have hm : (i, k) ∈ md := by simpa using hc
    exact (key _ hm rfl).2 rfl
  · rw [Bool.eq_false_iff]
    intro hc
    have hm : (i, 1000000) ∈ md := by simpa using hc
    exact (key _ hm rfl).1 rfl
theorem az_mdW_wf {n : Nat} {md : List (Nat × Nat)} : az_wfW n (az_mdW md) := by
  intro w hw I hI
  obtain ⟨x, hx, rfl⟩ := List.mem_map.mp hw
  dsimp only at hI
  split at hI
  · cases hI
  · cases hI; exact az_wf_c _ _
/-- by the first contract that fits, with what it writes -/
def az_tries2 (tb : List az_B) (md : List (Nat × Nat)) (dn m' : Nat) (C : az_C) (args : List az_V) : List az_Ct → Option (List (Nat × Nat) × List (az_C × Option az_V))
  | [] => none
  | c :: r => match az_try tb md dn m' C args c with
    | some l => some (c.2.2.2.2.1, l)
    | none => az_tries2 tb md dn m' C args r
theorem az_try_own {tb : List az_B} {md : List (Nat × Nat)} {dn m' : Nat} {C : az_C} {args : List az_V} {c : az_Ct} {l : List (az_C × Option az_V)} (h : az_try tb md dn m' C args c = some l) : az_try tb c.2.2.2.2.1 dn m' C args c = some l ∧ c.2.2.2.2.1.all (fun x => md.contains x) = true := by
  unfold az_try at h ⊢
  split at h
  · rename_i hc
    rw [if_pos ⟨hc.1, hc.2.1, List.all_eq_true.mpr (fun x hx => by simpa using hx)⟩]
    exact ⟨h, hc.2.2⟩
  · cases h
theorem az_tries2_ok {J : si_H → Prop} {P : si_P} {tb : List az_B} {ρ : Nat → Int} {h : si_H} {md : List (Nat × Nat)} {dn m' d : Nat} {C : az_C} {args : List az_V} {as : List Value} {l : List (Nat × Nat) × List (az_C × Option az_V)} (ht : az_tbk tb = true) (hH : az_HI P tb h) (hJh : J h) (hg : az_g P ρ h C) (hS : az_gS P ρ C.1.length args as) (hd : dn ≤ d) : ∀ (cts : List az_Ct), (∀ c ∈ cts, az_ok J P tb c ∧ az_wfct c = true) → az_tries2 tb md dn m' C args cts = some l →
    l.1.all (fun x => md.contains x) = true ∧ az_X P d m' 0 (lv_args 0 as) [] h (fun rv h1 => az_HI P tb h1 ∧ J h1 ∧ az_same_out l.1 h h1 ∧ ∃ r, r ∈ l.2 ∧ ∃ τ, az_ext C.1.length ρ τ ∧ C.1.length ≤ r.1.1.length ∧ az_g P τ h1 r.1 ∧ az_gO P τ r.1.1.length r.2 rv)
  | [], _, htr => by cases htr
  | c :: r, hc, htr => by
    unfold az_tries2 at htr
    split at htr
    · rename_i l' hl
      cases htr
      obtain ⟨h1, h2⟩ := az_try_own hl
      exact ⟨h2, az_try_ok ht (hc c List.mem_cons_self).1 (hc c List.mem_cons_self).2 hH hJh hg hS h1 hd⟩
    · exact az_tries2_ok ht hH hJh hg hS hd r (fun x hx => hc x (List.mem_cons_of_mem _ hx)) htr
/-- the stretch -/
def az_sgm (tb : List az_B) (cts : List az_Ct) (inl stops : List Nat) (md mw : List (Nat × Nat)) (spl : List (Nat × Nat)) : Nat → Bool → Nat → az_C → Nat → Nat → az_Ls → List az_V → List az_F → List (Nat × Option az_L) → Option (List az_Ar)
  | 0, _, _, _, _, _, _, _, _, _ => none
  | n + 1, first, dn, C, mi, pc, aL, aS, K, W => if K.isEmpty && !first && stops.contains pc then some [(C, W, .inl (pc, aL, aS))] else
    match si_m mi, si_fetch mi pc with
    | some y, some e => (match az_step tb mw (spl.contains (mi, pc)) y.2.2.2.1 pc e C aL aS with
      | some l => if az_sto e.1 && (az_wrt e aS).isEmpty then none else az_jns (fun r : az_K => az_sgm tb cts inl stops md mw spl n false dn r.1 mi r.2.1 r.2.2.1 r.2.2.2 K (W ++ az_wrt e aS)) l
      | none => (match az_rt C y e aS with
        | some rv => (match K with
          | [] => some [(C, W, .inr rv)]
          | f :: K' => az_sgm tb cts inl stops md mw spl n false (dn + 1) C f.1 (f.2.1 + 3) f.2.2.1 (rv.toList ++ f.2.2.2) K' W)
        | none => (match dn with
          | 0 => none
          | dn + 1 => (match az_call tb e aS with
            | some (m', args, r) => if inl.contains m' then az_sgm tb cts inl stops md mw spl n false dn C m' 0 (az_args 0 args) [] ((mi, pc, aL, r) :: K) W else (match az_tries2 tb md dn m' C args cts with
              | some l => az_jns (fun q : az_C × Option az_V => az_sgm tb cts inl stops md mw spl n false (dn + 1) q.1 mi (pc + 3) aL (q.2.toList ++ r) K (W ++ az_mdW l.1)) l.2
              | none => none)
            | none => (match az_prim e aS with
              | some r => if 8 ≤ dn then (match az_fr C (-1) 7 with
                | (D, v) => az_sgm tb cts inl stops md mw spl n false (dn + 1) D mi (pc + 3) aL (.inl v :: r) K W) else none
              | none => none)))))
    | _, _ => none
/-- what must be shown of an arrival -/
def az_arr (J : si_H → Prop) (P : si_P) (tb : List az_B) (md : List (Nat × Nat)) (d0 mi0 n0 : Nat) (ρ0 : Nat → Int) (h0 : si_H) (Q : Option Value → si_H → Prop) (a : az_Ar) : Prop := ∀ (τ : Nat → Int) (h' : si_H), az_ext n0 ρ0 τ → az_HI P tb h' → J h' → az_same_out md h0 h' → az_wok τ a.2.1 h0 h' → az_g P τ h' a.1 → (match a.2.2 with
  | .inl q => ∀ (ls' : si_L) (st' : List Value), az_gL P τ a.1.1.length q.2.1 ls' → az_gS P τ a.1.1.length q.2.2 st' → az_X P d0 mi0 q.1 ls' st' h' Q
  | .inr rv => ∀ w : Option Value, az_gO P τ a.1.1.length rv w → Q w h')
section AzSgm
variable {J : si_H → Prop} {P : si_P} {tb : List az_B} {cts : List az_Ct} {inl stops : List Nat} {md mw spl : List (Nat × Nat)} {Q : Option Value → si_H → Prop} {ρ0 : Nat → Int} {h0 : si_H} {d0 mi0 n0 : Nat}
set_option maxHeartbeats 1000000 in
theorem az_sgm_ok (ht : az_tbk tb = true) (hxa : P.2.1 < P.1) (hJ : ∀ a b, J a → az_same_out mw a b → J b) (hmw : mw.all (fun x => md.contains x) = true) (hcts : ∀ c ∈ cts, az_ok J P tb c ∧ az_wfct c = true) :
    ∀ (n : Nat) (first : Bool) (dn : Nat) (C : az_C) (mi pc : Nat) (aL : az_Ls) (aS : List az_V) (K : List az_F) (W : List (Nat × Option az_L)) (L : List az_Ar) (d : Nat) (ρ : Nat → Int) (h : si_H) (ls : si_L) (st : List Value) (cK : List az_cF), az_sgm tb cts inl stops md mw spl n first dn C mi pc aL aS K W = some L → az_root mi K = mi0 → dn ≤ d → d + K.length = d0 → az_HI P tb h → J h → az_same_out md h0 h → az_wok ρ W h0 h → az_wfW C.1.length W → n0 ≤ C.1.length → az_ext n0 ρ0 ρ → az_g P ρ h C → az_gL P ρ C.1.length aL ls → az_gS P ρ C.1.length aS st → az_gK P ρ C.1.length K cK → (∀ a ∈ L, az_arr J P tb md d0 mi0 n0 ρ0 h0 Q a) → az_X P d mi pc ls st h (az_kt P d cK Q) := by
  intro n
  induction n with
  | zero => intro first dn C mi pc aL aS K W L d ρ h ls st cK hex; cases hex
  | succ n ih =>
    intro first dn C mi pc aL aS K W L d ρ h ls st cK hex hroot hdn hd0 hH hJh hso hwo hwW hnp h00 hg hL hS hK hA
    unfold az_sgm at hex
    split at hex
    · rename_i hcut
      simp only [Bool.and_eq_true] at hcut
      cases hex
      have hKe : K = [] := List.isEmpty_iff.mp hcut.1.1
      subst hKe
      cases cK with
      | cons x y => exact hK.elim
      | nil =>
        have hmi : mi = mi0 := hroot
        have hdd : d = d0 := hd0
        subst hmi
        subst hdd
        exact hA _ List.mem_cons_self ρ h h00 hH hJh hso hwo hg ls st hL hS
    · split at hex
      · rename_i y e hy he
        split at hex
        · rename_i l hl
          split at hex
          · cases hex
          · rename_i hst
            obtain ⟨pc', ls', st', h', e1, e2, e3, r, r1, σ, s1, s2, s3, s4, s5, s6⟩ := az_step_ok (y := y) ht hH hxa hg hL hS hl
            refine az_X_step hy he e1 ?_
            obtain ⟨v1, v2⟩ := az_step_wr hS e1 (fun hz hw => hst (by rw [hz, hw]; rfl))
            obtain ⟨M, m1, m2⟩ := az_jns_mem hex r r1
            rw [s4] at m1
            exact ih false dn r.1 mi pc' r.2.2.1 r.2.2.2 K (W ++ az_wrt e aS) M d σ h' ls' st' cK m1 hroot hdn hd0 e2 (hJ h h' hJh e3) (hso.tr (e3.sub hmw)) (hwo.app s1 hwW (v1.ext s1 v2)) ((hwW.app v2).mono s2) (Nat.le_trans hnp s2) (h00.tr s1 hnp) s3 s5 s6 (hK.ext s1 s2) (fun a ha => hA a (m2 a ha))
        · split at hex
          · rename_i rv hrv
            obtain ⟨r1, w, r2, r3⟩ := az_rt_ok (pc := pc) (ls := ls) (P := P) (h := h) hg hS hrv
            refine az_X_ret hy he r1 r2 ?_
            cases K with
            | nil =>
              cases cK with
              | cons x y => exact hK.elim
              | nil =>
                cases hex
                exact hA _ List.mem_cons_self ρ h h00 hH hJh hso hwo hg w r3
            | cons f K' =>
              cases cK with
              | nil => exact hK.elim
              | cons c L' =>
                obtain ⟨k1, k2, k3, k4, k5⟩ := hK
                show az_X P (d + 1) c.1 (c.2.1 + 3) c.2.2.1 (w.toList ++ c.2.2.2) h (az_kt P (d + 1) L' Q)
                rw [← k1, ← k2]
                exact ih false (dn + 1) C f.1 (f.2.1 + 3) f.2.2.1 (rv.toList ++ f.2.2.2) K' W L (d + 1) ρ h c.2.2.1 (w.toList ++ c.2.2.2) L' hex hroot (by omega) (by rw [List.length_cons] at hd0; omega) hH hJh hso hwo hwW hnp h00 hg k3 (az_gS_app r3 k4) k5 hA
          · split at hex
            · cases hex
            · rename_i dn'
              obtain ⟨d', rfl⟩ : ∃ d', d = d' + 1 := ⟨d - 1, by omega⟩
              split at hex
              · rename_i m' args r hcall
                obtain ⟨c1, c2, c3, as, rs, c4, c5, c6⟩ := az_call_ok (pc := pc) (y := y) (ls := ls) (P := P) (h := h) (C := C) ht hH hS hcall
                refine az_X_call hy he c1 c2 c3 c4 ?_
                split at hex
                · exact ih false dn' C m' 0 (az_args 0 args) [] ((mi, pc, aL, r) :: K) W L d' ρ h (lv_args 0 as) [] ((mi, pc, ls, rs) :: cK) hex hroot (by omega) (by rw [List.length_cons]; omega) hH hJh hso hwo hwW hnp h00 hg (az_args_ok 0 c5) trivial ⟨rfl, rfl, hL, c6, hK⟩ hA
                · split at hex
                  · rename_i l hl
                    obtain ⟨z1, z2⟩ := az_tries2_ok (d := d') ht hH hJh hg c5 (by omega) cts hcts hl
                    refine z2.mono (fun rv h1 hq => ?_)
                    obtain ⟨q1, qJ, q2, q, q3, τ, t1, t2, t3, t4⟩ := hq
                    obtain ⟨M, m1, m2⟩ := az_jns_mem hex q q3
                    exact ih false (dn' + 1) q.1 mi (pc + 3) aL (q.2.toList ++ r) K (W ++ az_mdW l.1) M (d' + 1) τ h1 ls (rv.toList ++ rs) cK m1 hroot hdn hd0 q1 qJ (hso.tr (q2.sub z1)) (hwo.app t1 hwW (az_mdW_ok q2)) ((hwW.mono t2).app az_mdW_wf) (Nat.le_trans hnp t2) (h00.tr t1 hnp) t3 (hL.ext t1 t2) (az_gS_app t4 (c6.ext t1 t2)) (hK.ext t1 t2) (fun a ha => hA a (m2 a ha))
                  · cases hex
              · split at hex
                · rename_i r hprim
                  obtain ⟨c1, c2, c3, c4, z, rs, c5, c6, c7, c8⟩ := az_prim_ok (pc := pc) (y := y) (ls := ls) (P := P) (h := h) (C := C) hS hprim
                  split at hex
                  · rename_i h8
                    refine az_X_prim hy he c1 c2 c3 c4 c5 (by omega) ?_
                    obtain ⟨σ, s1, s2, s3, s4, s5⟩ := az_fr_out (z := z.toInt) hg c6 c7
                    exact ih false (dn' + 1) (az_fr C (-1) 7).1 mi (pc + 3) aL (.inl (az_fr C (-1) 7).2 :: r) K W L (d' + 1) σ h ls (.int z :: rs) cK hex hroot hdn hd0 hH hJh hso (hwo.ext s1 hwW) (hwW.mono s3) (Nat.le_trans hnp s3) (h00.tr s1 hnp) s2 (hL.ext s1 s3) ⟨s4, s5, c8.ext s1 s3⟩ (hK.ext s1 s3) hA
                  · cases hex
                · cases hex
      · cases hex
/-- a stretch from a place within a method -/
theorem az_seg (ht : az_tbk tb = true) (hxa : P.2.1 < P.1) (hJ : ∀ a b, J a → az_same_out mw a b → J b) (hmw : mw.all (fun x => md.contains x) = true) (hcts : ∀ c ∈ cts, az_ok J P tb c ∧ az_wfct c = true) {n dn : Nat} {C : az_C} {mi pc : Nat} {aL : az_Ls} {aS : List az_V} {L : List az_Ar} {d : Nat} {ρ : Nat → Int} {h : si_H} {ls : si_L} {st : List Value} (hs : az_sgm tb cts inl stops md mw spl n true dn C mi pc aL aS [] [] = some L) (hd : dn ≤ d) (hH : az_HI P tb h) (hJh : J h) (hg : az_g P ρ h C) (hL : az_gL P ρ C.1.length aL ls) (hS : az_gS P ρ C.1.length aS st) (hA : ∀ a ∈ L, az_arr J P tb md d mi C.1.length ρ h Q a) : az_X P d mi pc ls st h Q :=
  az_sgm_ok (mi0 := mi) (d0 := d) (n0 := C.1.length) (ρ0 := ρ) (h0 := h) ht hxa hJ hmw hcts n true dn C mi pc aL aS [] [] L d ρ h ls st [] hs rfl hd rfl hH hJh az_same_out.rf az_wok.rf (fun w hw => by cases hw) (Nat.le_refl _) az_ext.rf hg hL hS trivial hA
end AzSgm
