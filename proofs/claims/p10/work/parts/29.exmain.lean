/-! THE CHECKER, 12: the exploration, whole -/
def az_gK (P : si_P) (ρ : Nat → Int) (n : Nat) : List az_F → List az_cF → Prop
  | [], [] => True
  | f :: K, c :: L => f.1 = c.1 ∧ f.2.1 = c.2.1 ∧ az_gL P ρ n f.2.2.1 c.2.2.1 ∧ az_gS P ρ n f.2.2.2 c.2.2.2 ∧ az_gK P ρ n K L
  | _, _ => False
theorem az_gK.ext {P : si_P} {ρ σ : Nat → Int} {n k : Nat} (hx : az_ext n ρ σ) (hk : n ≤ k) : ∀ {K : List az_F} {L : List az_cF}, az_gK P ρ n K L → az_gK P σ k K L
  | [], [], _ => trivial
  | _ :: _, _ :: _, h => ⟨h.1, h.2.1, h.2.2.1.ext hx hk, h.2.2.2.1.ext hx hk, az_gK.ext hx hk h.2.2.2.2⟩
  | [], _ :: _, h => h.elim
  | _ :: _, [], h => h.elim
def az_kt (P : si_P) : Nat → List az_cF → (Option Value → si_H → Prop) → Option Value → si_H → Prop
  | _, [], Q => Q
  | d, c :: K, Q => fun rv h => az_X P (d + 1) c.1 (c.2.1 + 3) c.2.2.1 (rv.toList ++ c.2.2.2) h (az_kt P (d + 1) K Q)
theorem az_same_out.sub {mw md : List (Nat × Nat)} {a b : si_H} (h : az_same_out mw a b) (hs : mw.all (fun x => md.contains x) = true) : az_same_out md a b := by
  refine ⟨h.1, h.2.1, fun i k hik => h.2.2 i k ?_⟩
  have sub : ∀ x, mw.contains x = true → md.contains x = true := fun x hx => List.all_eq_true.mp hs x (by simpa using hx)
  unfold az_in at hik ⊢
  rw [Bool.or_eq_false_iff] at hik ⊢
  constructor
  · rw [Bool.eq_false_iff]
    intro hc
    rw [sub _ hc] at hik
    cases hik.1
  · rw [Bool.eq_false_iff]
    intro hc
    rw [sub _ hc] at hik
    cases hik.2
def az_root : Nat → List az_F → Nat
  | mi, [] => mi
  | _, f :: K => az_root f.1 K
section AzExMain
variable {P : si_P} {tb : List az_B} {cts : List az_Ct} {inl : List Nat} {cuts : List az_Cut} {posts : List (az_C × Option az_V)} {md mw spl : List (Nat × Nat)} {J : si_H → Prop} {npre : Nat} {src : Option az_L} {Q : Option Value → si_H → Prop} {ρ0 ρs : Nat → Int} {h0 : si_H} {d0 mi0 ns : Nat}
set_option maxHeartbeats 1000000 in
theorem az_ex_ok (ht : az_tbk tb = true) (hxa : P.2.1 < P.1) (hJ : ∀ a b, J a → az_same_out mw a b → J b) (hmw : mw.all (fun x => md.contains x) = true) (hcts : ∀ c ∈ cts, az_ok J P tb c ∧ az_wfct c = true) (hcuts : ∀ c ∈ cuts, az_wfcut npre c = true) (hposts : ∀ q ∈ posts, az_wfpst npre q = true) (hsrc : ∀ m, src = some m → az_wf ns m)
    (HC : ∀ c ∈ cuts, ∀ (τ : Nat → Int) (h : si_H) (ls : si_L) (st : List Value), az_HI P tb h → J h → az_same_out md h0 h → az_ext npre ρ0 τ → az_g P τ h c.2.1 → az_gL P τ c.2.1.1.length c.2.2.1 ls → az_gS P τ c.2.1.1.length c.2.2.2.1 st → (∀ m, src = some m → az_ev τ c.2.2.2.2 ≤ az_ev ρs m - 1) → az_X P d0 mi0 c.1 ls st h Q)
    (HQ : ∀ (rv : Option Value) (h1 : si_H), az_HI P tb h1 → J h1 → az_same_out md h0 h1 → (∃ q, q ∈ posts ∧ ∃ τ, az_ext npre ρ0 τ ∧ az_g P τ h1 q.1 ∧ az_gO P τ q.1.1.length q.2 rv) → Q rv h1) :
    ∀ (n : Nat) (first : Bool) (dn : Nat) (C : az_C) (mi pc : Nat) (aL : az_Ls) (aS : List az_V) (K : List az_F) (d : Nat) (ρ : Nat → Int) (h : si_H) (ls : si_L) (st : List Value) (cK : List az_cF), az_ex tb cts inl cuts posts md mw spl npre src n first dn C mi pc aL aS K = true → az_root mi K = mi0 → dn ≤ d → d + K.length = d0 → az_HI P tb h → J h → az_same_out md h0 h → npre ≤ C.1.length → az_ext npre ρ0 ρ → ns ≤ C.1.length → az_ext ns ρs ρ → az_g P ρ h C → az_gL P ρ C.1.length aL ls → az_gS P ρ C.1.length aS st → az_gK P ρ C.1.length K cK → az_X P d mi pc ls st h (az_kt P d cK Q) := by
  intro n
  induction n with
  | zero => intro first dn C mi pc aL aS K d ρ h ls st cK hex; cases hex
  | succ n ih =>
    intro first dn C mi pc aL aS K d ρ h ls st cK hex hroot hdn hd0 hH hJh hso hnp h00 hns hs0 hg hL hS hK
    unfold az_ex at hex
    split at hex
    · rename_i hcut
      simp only [Bool.and_eq_true] at hcut
      obtain ⟨c, hc1, hc2⟩ := List.any_eq_true.mp hex
      rw [Bool.and_eq_true, decide_eq_true_eq] at hc2
      have hKe : K = [] := List.isEmpty_iff.mp hcut.1.1
      subst hKe
      cases cK with
      | cons x y => exact hK.elim
      | nil =>
        obtain ⟨τ, t1, t2, t3, t4, t5⟩ := az_cut_ok ht hH hg hL hS hnp h00 (hcuts c hc1) hc2.2
        have hmi : mi = mi0 := hroot
        have hdd : d = d0 := hd0
        subst hmi
        subst hdd
        have := HC c hc1 τ h ls st hH hJh hso t1 t2 t3 t4 (fun m hm => by
          have h5 := t5 m hm ((hsrc m hm).mono hns)
          rw [hs0.ev (hsrc m hm)] at h5
          exact h5)
        rw [hc2.1] at this
        exact this
    · split at hex
      · rename_i y e hy he
        split at hex
        · rename_i l hl
          obtain ⟨pc', ls', st', h', e1, e2, e3, r, r1, σ, s1, s2, s3, s4, s5, s6⟩ := az_step_ok (y := y) ht hH hxa hg hL hS hl
          refine az_X_step hy he e1 ?_
          have e4 : az_same_out md h h' := e3.sub hmw
          have hr := List.all_eq_true.mp hex r r1
          rw [s4] at hr
          exact ih false dn r.1 mi pc' r.2.2.1 r.2.2.2 K d σ h' ls' st' cK hr hroot hdn hd0 e2 (hJ h h' hJh e3) (hso.tr e4) (Nat.le_trans hnp s2) (h00.tr s1 hnp) (Nat.le_trans hns s2) (hs0.tr s1 hns) s3 s5 s6 (hK.ext s1 s2)
        · split at hex
          · rename_i rv hrv
            obtain ⟨r1, w, r2, r3⟩ := az_rt_ok (pc := pc) (ls := ls) (P := P) (h := h) hg hS hrv
            refine az_X_ret hy he r1 r2 ?_
            cases K with
            | nil =>
              cases cK with
              | cons x y => exact hK.elim
              | nil =>
                obtain ⟨q, q1, q2⟩ := List.any_eq_true.mp hex
                obtain ⟨τ, t1, t2, t3⟩ := az_pst_ok ht hH hg r3 hnp h00 (hposts q q1) q2
                exact HQ w h hH hJh hso ⟨q, q1, τ, t1, t2, t3⟩
            | cons f K' =>
              cases cK with
              | nil => exact hK.elim
              | cons c L =>
                obtain ⟨k1, k2, k3, k4, k5⟩ := hK
                show az_X P (d + 1) c.1 (c.2.1 + 3) c.2.2.1 (w.toList ++ c.2.2.2) h (az_kt P (d + 1) L Q)
                rw [← k1, ← k2]
                exact ih false (dn + 1) C f.1 (f.2.1 + 3) f.2.2.1 (rv.toList ++ f.2.2.2) K' (d + 1) ρ h c.2.2.1 (w.toList ++ c.2.2.2) L hex hroot (by omega) (by rw [List.length_cons] at hd0; omega) hH hJh hso hnp h00 hns hs0 hg k3 (az_gS_app r3 k4) k5
          · split at hex
            · cases hex
            · rename_i dn'
              obtain ⟨d', rfl⟩ : ∃ d', d = d' + 1 := ⟨d - 1, by omega⟩
              split at hex
              · rename_i m' args r hcall
                obtain ⟨c1, c2, c3, as, rs, c4, c5, c6⟩ := az_call_ok (pc := pc) (y := y) (ls := ls) (P := P) (h := h) (C := C) ht hH hS hcall
                refine az_X_call hy he c1 c2 c3 c4 ?_
                split at hex
                · have := ih false dn' C m' 0 (az_args 0 args) [] ((mi, pc, aL, r) :: K) d' ρ h (lv_args 0 as) [] ((mi, pc, ls, rs) :: cK) hex hroot (by omega) (by rw [List.length_cons]; omega) hH hJh hso hnp h00 hns hs0 hg (az_args_ok 0 c5) trivial ⟨rfl, rfl, hL, c6, hK⟩
                  exact this
                · split at hex
                  · rename_i l hl
                    refine (az_tries_ok (d := d') ht hH hJh hg c5 (by omega) cts hcts hl).mono (fun rv h1 hq => ?_)
                    obtain ⟨q1, qJ, q2, q, q3, τ, t1, t2, t3, t4⟩ := hq
                    have hr := List.all_eq_true.mp hex q q3
                    exact ih false (dn' + 1) q.1 mi (pc + 3) aL (q.2.toList ++ r) K (d' + 1) τ h1 ls (rv.toList ++ rs) cK hr hroot hdn hd0 q1 qJ (hso.tr q2) (Nat.le_trans hnp t2) (h00.tr t1 hnp) (Nat.le_trans hns t2) (hs0.tr t1 hns) t3 (hL.ext t1 t2) (az_gS_app t4 (c6.ext t1 t2)) (hK.ext t1 t2)
                  · cases hex
              · split at hex
                · rename_i r hprim
                  obtain ⟨c1, c2, c3, c4, z, rs, c5, c6, c7, c8⟩ := az_prim_ok (pc := pc) (y := y) (ls := ls) (P := P) (h := h) (C := C) hS hprim
                  split at hex
                  · rename_i h8
                    refine az_X_prim hy he c1 c2 c3 c4 c5 (by omega) ?_
                    obtain ⟨σ, s1, s2, s3, s4, s5⟩ := az_fr_out (z := z.toInt) hg c6 c7
                    exact ih false (dn' + 1) (az_fr C (-1) 7).1 mi (pc + 3) aL (.inl (az_fr C (-1) 7).2 :: r) K (d' + 1) σ h ls (.int z :: rs) cK hex hroot hdn hd0 hH hJh hso (Nat.le_trans hnp s3) (h00.tr s1 hnp) (Nat.le_trans hns s3) (hs0.tr s1 hns) s2 (hL.ext s1 s3) ⟨s4, s5, c8.ext s1 s3⟩ (hK.ext s1 s3)
                  · cases hex
                · cases hex
      · cases hex
/-- a contract and its proof as data: the templates, the inlined methods, the places where 'unequal' splits, the number of steps -/
def az_chk (tb : List az_B) (cts : List az_Ct) (c : az_Ct) (cuts : List az_Cut) (inl : List Nat) (spl mw : List (Nat × Nat)) (n : Nat) : Bool := mw.all (fun x => c.2.2.2.2.1.contains x) && az_wfct c && cuts.all (az_wfcut c.2.1.1.length) && az_ex tb cts inl cuts c.2.2.2.1 c.2.2.2.2.1 mw spl c.2.1.1.length none n false c.2.2.2.2.2 c.2.1 c.1 0 (az_args 0 c.2.2.1) [] [] && cuts.all (fun k => az_ex tb cts inl cuts c.2.2.2.1 c.2.2.2.2.1 mw spl c.2.1.1.length (some k.2.2.2.2) n true c.2.2.2.2.2 k.2.1 c.1 k.1 k.2.2.1 k.2.2.2.1 [])
theorem az_chk_ok {c : az_Ct} {n : Nat} (ht : az_tbk tb = true) (hxa : P.2.1 < P.1) (hJ : ∀ a b, J a → az_same_out mw a b → J b) (hcts : ∀ c ∈ cts, az_ok J P tb c ∧ az_wfct c = true) (hc : az_chk tb cts c cuts inl spl mw n = true) : az_ok J P tb c ∧ az_wfct c = true := by
  unfold az_chk at hc
  simp only [Bool.and_eq_true] at hc
  obtain ⟨⟨⟨⟨w0, w1⟩, w2⟩, x1⟩, x2⟩ := hc
  refine ⟨?_, w1⟩
  have w1' := w1
  unfold az_wfct at w1'
  simp only [Bool.and_eq_true] at w1'
  intro d hd ρ0 h0 as hH0 hJ0 hg0 hS0
  have hcuts : ∀ k ∈ cuts, az_wfcut c.2.1.1.length k = true := fun k hk => List.all_eq_true.mp w2 k hk
  have hposts : ∀ q ∈ c.2.2.2.1, az_wfpst c.2.1.1.length q = true := fun q hq => List.all_eq_true.mp w1'.2 q hq
  generalize hQ : (fun rv h1 => az_HI P tb h1 ∧ J h1 ∧ az_same_out c.2.2.2.2.1 h0 h1 ∧ ∃ q, q ∈ c.2.2.2.1 ∧ ∃ σ, az_ext c.2.1.1.length ρ0 σ ∧ az_g P σ h1 q.1 ∧ az_gO P σ q.1.1.length q.2 rv) = Q
  have HQ : ∀ (rv : Option Value) (h1 : si_H), az_HI P tb h1 → J h1 → az_same_out c.2.2.2.2.1 h0 h1 → (∃ q, q ∈ c.2.2.2.1 ∧ ∃ τ, az_ext c.2.1.1.length ρ0 τ ∧ az_g P τ h1 q.1 ∧ az_gO P τ q.1.1.length q.2 rv) → Q rv h1 := fun rv h1 a aJ b z => by rw [← hQ]; exact ⟨a, aJ, b, z⟩
  have key : ∀ (M : Nat), ∀ k ∈ cuts, ∀ (τ : Nat → Int) (h : si_H) (ls : si_L) (st : List Value), az_HI P tb h → J h → az_same_out c.2.2.2.2.1 h0 h → az_ext c.2.1.1.length ρ0 τ → az_g P τ h k.2.1 → az_gL P τ k.2.1.1.length k.2.2.1 ls → az_gS P τ k.2.1.1.length k.2.2.2.1 st → az_ev τ k.2.2.2.2 < M → az_X P d c.1 k.1 ls st h Q := by
    intro M
    induction M with
    | zero =>
      intro k hk τ h ls st hH hJh hso hx hg hL hS hm
      have hw := hcuts k hk
      unfold az_wfcut at hw
      simp only [Bool.and_eq_true, decide_eq_true_eq] at hw
      have := az_p2_g hg hw.2
      omega
    | succ M ihM =>
      intro k hk τ h ls st hH hJh hso hx hg hL hS hm
      have hw := hcuts k hk
      unfold az_wfcut at hw
      simp only [Bool.and_eq_true, decide_eq_true_eq] at hw
      have hex := List.all_eq_true.mp x2 k hk
      exact az_ex_ok (d0 := d) (mi0 := c.1) (ns := k.2.1.1.length) (ρs := τ) (h0 := h0) (ρ0 := ρ0) ht hxa hJ w0 hcts hcuts hposts (fun m hm => by cases hm; exact az_wfb_ok hw.1.1.2) (fun k' hk' τ' h' ls' st' a1 aJ a2 a3 a4 a5 a6 a7 => ihM k' hk' τ' h' ls' st' a1 aJ a2 a3 a4 a5 a6 (by have := a7 _ rfl; omega)) HQ n true c.2.2.2.2.2 k.2.1 c.1 k.1 k.2.2.1 k.2.2.2.1 [] d τ h ls st [] hex rfl hd rfl hH hJh hso hw.1.2 hx (Nat.le_refl _) az_ext.rf hg hL hS trivial
  exact az_ex_ok (d0 := d) (mi0 := c.1) (ns := 0) (ρs := ρ0) (h0 := h0) (ρ0 := ρ0) (src := none) ht hxa hJ w0 hcts hcuts hposts (fun m hm => by cases hm) (fun k hk τ h ls st a1 aJ a2 a3 a4 a5 a6 _ => key ((az_ev τ k.2.2.2.2).toNat + 1) k hk τ h ls st a1 aJ a2 a3 a4 a5 a6 (by omega)) HQ n false c.2.2.2.2.2 c.2.1 c.1 0 (az_args 0 c.2.2.1) [] [] d ρ0 h0 (lv_args 0 as) [] [] x1 rfl hd rfl hH0 hJ0 az_same_out.rf (Nat.le_refl _) az_ext.rf (Nat.zero_le _) (fun v hv => absurd hv (Nat.not_lt_zero _)) hg0 (az_args_ok 0 hS0) trivial trivial
end AzExMain

/-- J speaks of some places alone -/
def az_fr_of (J : si_H → Prop) (jf : List (Nat × Nat)) : Prop := ∀ a b : si_H, J a → (∀ i k : Nat, az_in jf i k = true → b.2.2 i k = a.2.2 i k) → J b
def az_dj (mw jf : List (Nat × Nat)) : Bool := mw.all (fun x => jf.all (fun y => decide (x.1 ≠ y.1) || (decide (x.2 ≠ y.2) && decide (x.2 ≠ 1000000) && decide (y.2 ≠ 1000000))))
theorem az_dj_ok {J : si_H → Prop} {mw jf : List (Nat × Nat)} (hf : az_fr_of J jf) (hd : az_dj mw jf = true) : ∀ a b, J a → az_same_out mw a b → J b := by
  intro a b ha hs
  refine hf a b ha (fun i k hik => hs.2.2 i k ?_)
  rw [Bool.eq_false_iff]
  intro hin
  have key : ∀ x ∈ mw, ∀ y ∈ jf, x.1 = y.1 → (x.2 = y.2 ∨ x.2 = 1000000 ∨ y.2 = 1000000) → False := by
    intro x hx y hy h1 h2
    have := List.all_eq_true.mp (List.all_eq_true.mp hd x hx) y hy
    simp only [Bool.or_eq_true, Bool.and_eq_true, decide_eq_true_eq] at this
    rcases this with h3 | h3
    · exact h3 h1
    · rcases h2 with h2 | h2 | h2
      · exact h3.1.1 h2
      · exact h3.1.2 h2
      · exact h3.2 h2
  unfold az_in at hin hik
  rw [Bool.or_eq_true] at hin hik
  rcases hin with h1 | h1 <;> rcases hik with h2 | h2
  · exact key (i, k) (by simpa using h1) (i, k) (by simpa using h2) rfl (Or.inl rfl)
  · exact key (i, k) (by simpa using h1) (i, 1000000) (by simpa using h2) rfl (Or.inr (Or.inr rfl))
  · exact key (i, 1000000) (by simpa using h1) (i, k) (by simpa using h2) rfl (Or.inr (Or.inl rfl))
  · exact key (i, 1000000) (by simpa using h1) (i, 1000000) (by simpa using h2) rfl (Or.inl rfl)
