/-! THE CHECKER, 10: the exploration's parts are sound -/
section AzExOk
variable {P : si_P} {tb : List az_B} {ρ : Nat → Int} {h : si_H} {C : az_C}
theorem az_en1_ok {q : az_R} (ht : az_tbk tb = true) (hH : az_HI P tb h) (hg : az_g P ρ h C) : ∃ σ, az_ext C.1.length ρ σ ∧ C.1.length ≤ (az_en1 tb q C).1.length ∧ az_g P σ h (az_en1 tb q C) := by
  have same : ∃ σ, az_ext C.1.length ρ σ ∧ C.1.length ≤ C.1.length ∧ az_g P σ h C := ⟨ρ, az_ext.rf, Nat.le_refl _, hg⟩
  unfold az_en1
  split
  · rename_i k hk
    split
    · rename_i hk0
      split
      · rename_i o ho
        obtain ⟨hne, -⟩ := az_tb_i ht ho
        obtain ⟨-, hfl⟩ := hH.2 _ _ ho
        split
        · rename_i b hb
          obtain ⟨x, e1, e2, e3⟩ := hfl _ _ hb
          obtain ⟨σ, s1, s2, s3, -, -⟩ := az_rd_out (I := az_c k) (x := x) hg hne (az_wf_c _ _) (by rw [az_c_ev]; exact hk0) (by rw [az_c_ev]; exact e1) e2 e3
          exact ⟨σ, s1, s3, s2⟩
        · exact same
      · rename_i b ho
        obtain ⟨hne, -⟩ := az_tb_i ht ho
        obtain ⟨-, hfl⟩ := hH.2 _ _ ho
        split
        · rename_i hc
          have hv := hfl _ hc.2
          unfold az_aok at hv
          rw [if_neg (by rw [hc.1]; decide)] at hv
          obtain ⟨x, e1, e2, e3⟩ := hv
          obtain ⟨σ, s1, s2, s3, -, -⟩ := az_rd_out (I := az_c k) (x := x) hg hne (az_wf_c _ _) (by rw [az_c_ev]; exact hk0) (by rw [az_c_ev]; exact e1) e2 e3
          exact ⟨σ, s1, s3, s2⟩
        · exact same
      · exact same
    · exact same
  · exact same
theorem az_ens_ok (ht : az_tbk tb = true) (hH : az_HI P tb h) : ∀ (l : List az_R) (C : az_C) (ρ : Nat → Int), az_g P ρ h C → ∃ σ, az_ext C.1.length ρ σ ∧ C.1.length ≤ (az_ens tb l C).1.length ∧ az_g P σ h (az_ens tb l C)
  | [], C, ρ, hg => ⟨ρ, az_ext.rf, Nat.le_refl _, hg⟩
  | q :: r, C, ρ, hg => by
    obtain ⟨σ, s1, s2, s3⟩ := az_en1_ok (q := q) ht hH hg
    obtain ⟨τ, t1, t2, t3⟩ := az_ens_ok ht hH r (az_en1 tb q C) σ s3
    exact ⟨τ, s1.tr t1 s2, Nat.le_trans s2 t2, t3⟩
theorem az_sg_pre {npre n : Nat} {prs : List (az_V × az_V)} {j : Nat} (hj : j < npre) (hn : npre ≤ n) : (az_sg npre n prs).getD j (az_c 0) = az_v j := by
  unfold az_sg
  rw [List.getD_eq_getElem?_getD, List.getElem?_map, List.getElem?_range (by omega)]
  show (some (if j < npre then az_v j else _)).getD _ = _
  rw [if_pos hj]
  rfl
theorem az_sg_ext {npre n : Nat} {prs : List (az_V × az_V)} {σ : Nat → Int} (hn : npre ≤ n) : az_ext npre σ (az_en σ (az_sg npre n prs)) := by
  intro v hv
  unfold az_en
  rw [az_sg_pre hv hn, az_v_ev]
/-- a template that was met -/
def az_wfcut (npre : Nat) (c : az_Cut) : Bool := az_wfC c.2.1 && c.2.2.1.all (fun q => az_wfvb c.2.1.1.length q.2) && c.2.2.2.1.all (az_wfvb c.2.1.1.length) && az_wfb c.2.1.1.length c.2.2.2.2 && decide (npre ≤ c.2.1.1.length) && az_p2 c.2.1.1 c.2.1.2.1 c.2.2.2.2
theorem az_cut_ok {npre : Nat} {src : Option az_L} {aL : az_Ls} {aS : List az_V} {ls : si_L} {st : List Value} {c : az_Cut} {ρ0 : Nat → Int} (ht : az_tbk tb = true) (hH : az_HI P tb h) (hg : az_g P ρ h C) (hL : az_gL P ρ C.1.length aL ls) (hS : az_gS P ρ C.1.length aS st) (hn : npre ≤ C.1.length) (h0 : az_ext npre ρ0 ρ) (hw : az_wfcut npre c = true) (hc : az_cut tb npre src C aL aS c = true) :
    ∃ τ, az_ext npre ρ0 τ ∧ az_g P τ h c.2.1 ∧ az_gL P τ c.2.1.1.length c.2.2.1 ls ∧ az_gS P τ c.2.1.1.length c.2.2.2.1 st ∧ (∀ m, src = some m → az_wf C.1.length m → az_ev τ c.2.2.2.2 ≤ az_ev ρ m - 1) := by
  unfold az_wfcut at hw
  simp only [Bool.and_eq_true, decide_eq_true_eq] at hw
  obtain ⟨⟨⟨⟨⟨w1, w2⟩, w3⟩, w4⟩, w5⟩, w6⟩ := hw
  unfold az_cut at hc
  dsimp only at hc
  obtain ⟨σ, s1, s2, s3⟩ := az_ens_ok ht hH c.2.1.2.2.2 C ρ hg
  generalize az_ens tb c.2.1.2.2.2 C = D at hc s2 s3
  generalize hsg : az_sg npre c.2.1.1.length (az_prs D c.2.1 aL c.2.2.1 aS c.2.2.2.1) = sg at hc
  simp only [Bool.and_eq_true] at hc
  obtain ⟨⟨⟨c1, c2⟩, c3⟩, c4⟩ := hc
  refine ⟨az_en σ sg, ?_, az_mt_ok s3 w1 c1, az_mL_ok (hL.ext s1 s2) w2 c2, az_mS_ok (hS.ext s1 s2) w3 c3, ?_⟩
  · rw [← hsg]
    exact (h0.tr s1 hn).tr (az_sg_ext w5) (Nat.le_refl _)
  · intro m hm hwm
    subst hm
    dsimp only at c4
    have := az_p2_g s3 c4
    rw [az_plus_ev, az_sub_ev, az_sbs_ev, s1.ev hwm] at this
    omega
def az_wfpst (npre : Nat) (q : az_C × Option az_V) : Bool := az_wfC q.1 && q.2.toList.all (az_wfvb q.1.1.length) && decide (npre ≤ q.1.1.length)
theorem az_pst_ok {npre : Nat} {rv : Option az_V} {w : Option Value} {q : az_C × Option az_V} {ρ0 : Nat → Int} (ht : az_tbk tb = true) (hH : az_HI P tb h) (hg : az_g P ρ h C) (hS : az_gO P ρ C.1.length rv w) (hn : npre ≤ C.1.length) (h0 : az_ext npre ρ0 ρ) (hw : az_wfpst npre q = true) (hc : az_pst tb npre C rv q = true) : ∃ τ, az_ext npre ρ0 τ ∧ az_g P τ h q.1 ∧ az_gO P τ q.1.1.length q.2 w := by
  unfold az_wfpst at hw
  simp only [Bool.and_eq_true, decide_eq_true_eq] at hw
  obtain ⟨⟨w1, w2⟩, w3⟩ := hw
  unfold az_pst at hc
  dsimp only at hc
  obtain ⟨σ, s1, s2, s3⟩ := az_ens_ok ht hH q.1.2.2.2 C ρ hg
  generalize az_ens tb q.1.2.2.2 C = D at hc s2 s3
  generalize hsg : az_sg npre q.1.1.length (az_prs D q.1 [] [] rv.toList q.2.toList) = sg at hc
  simp only [Bool.and_eq_true] at hc
  refine ⟨az_en σ sg, ?_, az_mt_ok s3 w1 hc.1, az_mS_ok (az_gS.ext s1 s2 hS) w2 hc.2⟩
  rw [← hsg]
  exact (h0.tr s1 hn).tr (az_sg_ext w3) (Nat.le_refl _)
theorem az_rt_ok {y : si_M} {e : si_E} {aS : List az_V} {st : List Value} {rv : Option az_V} {pc : Nat} {ls : si_L} (hg : az_g P ρ h C) (hS : az_gS P ρ C.1.length aS st) (hr : az_rt C y e aS = some rv) : si_step P y pc e ls st h = none ∧ ∃ w, si_ret y e st = some w ∧ az_gO P ρ C.1.length rv w := by
  obtain ⟨i, n, a⟩ := e
  unfold az_rt at hr
  dsimp only at hr
  split at hr
  · rename_i c
    split at hr
    · rename_i hc
      obtain ⟨rfl, hc⟩ := hc
      cases hr
      obtain ⟨w, s1, rfl, wf1, g1, hS1⟩ := az_gS_cons hS
      cases az_gS_nil hS1
      obtain ⟨x, rfl, hx⟩ := az_gV_int g1
      refine ⟨rfl, some (.int x), ?_, wf1, hx, trivial⟩
      have key : ∃ ty, y.2.2.2.2.1 = some ty ∧ narrow ty (.int x) = .int x := by
        rcases hc with hc | ⟨hc, hb⟩
        · exact ⟨_, hc, vp_nar_int x⟩
        · have := az_btw_ok hg hb
          refine ⟨_, hc, ?_⟩
          rcases az_bool01 (x := x) (by omega) (by omega) with rfl | rfl <;> rfl
      obtain ⟨ty, t1, t2⟩ := key
      unfold si_ret
      dsimp only
      rw [t1]
      dsimp only
      rw [if_pos ⟨rfl, t2⟩]
    · cases hr
  · split at hr
    · rename_i hc
      obtain ⟨rfl, hc⟩ := hc
      cases hr
      obtain ⟨w, s1, rfl, wf1, g1, hS1⟩ := az_gS_cons hS
      cases az_gS_nil hS1
      obtain ⟨x, rfl⟩ := az_gV_long g1
      refine ⟨rfl, some (.long x), ?_, trivial, trivial, trivial⟩
      unfold si_ret
      dsimp only
      rw [if_pos ⟨rfl, hc⟩]
    · cases hr
  · split at hr
    · rename_i hc
      obtain ⟨rfl, hc⟩ := hc
      cases hr
      cases az_gS_nil hS
      refine ⟨rfl, none, ?_, trivial⟩
      unfold si_ret
      dsimp only
      rw [if_pos ⟨rfl, hc⟩]
    · cases hr
  · cases hr
theorem az_gS_len {n : Nat} : ∀ {a : List az_V} {s : List Value}, az_gS P ρ n a s → a.length = s.length
  | [], [], _ => rfl
  | _ :: _, _ :: _, hS => by rw [List.length_cons, List.length_cons, az_gS_len hS.2.2]
  | [], _ :: _, hS => hS.elim
  | _ :: _, [], hS => hS.elim
theorem az_gS_drop {n : Nat} : ∀ (k : Nat) {a : List az_V} {s : List Value}, az_gS P ρ n a s → az_gS P ρ n (a.drop k) (s.drop k)
  | 0, _, _, hS => hS
  | _ + 1, [], [], _ => trivial
  | k + 1, _ :: _, _ :: _, hS => az_gS_drop k hS.2.2
  | _ + 1, [], _ :: _, hS => hS.elim
  | _ + 1, _ :: _, [], hS => hS.elim
theorem az_gS_take {n : Nat} : ∀ (k : Nat) {a : List az_V} {s : List Value}, az_gS P ρ n a s → az_gS P ρ n (a.take k) (s.take k)
  | 0, _, _, _ => trivial
  | _ + 1, [], [], _ => trivial
  | k + 1, _ :: _, _ :: _, hS => ⟨hS.1, hS.2.1, az_gS_take k hS.2.2⟩
  | _ + 1, [], _ :: _, hS => hS.elim
  | _ + 1, _ :: _, [], hS => hS.elim
theorem az_gS_app {n : Nat} : ∀ {a b : List az_V} {s t : List Value}, az_gS P ρ n a s → az_gS P ρ n b t → az_gS P ρ n (a ++ b) (s ++ t)
  | [], _, [], _, _, hb => hb
  | _ :: _, _, _ :: _, _, ha, hb => ⟨ha.1, ha.2.1, az_gS_app ha.2.2 hb⟩
  | [], _, _ :: _, _, ha, _ => ha.elim
  | _ :: _, _, [], _, ha, _ => ha.elim
theorem az_gS_rev {n : Nat} : ∀ {a : List az_V} {s : List Value}, az_gS P ρ n a s → az_gS P ρ n a.reverse s.reverse
  | [], [], _ => trivial
  | _ :: _, _ :: _, hS => by
    rw [List.reverse_cons, List.reverse_cons]
    exact az_gS_app (az_gS_rev hS.2.2) ⟨hS.1, hS.2.1, trivial⟩
  | [], _ :: _, hS => hS.elim
  | _ :: _, [], hS => hS.elim
theorem az_gS_sum {n : Nat} : ∀ {a : List az_V} {s : List Value}, az_gS P ρ n a s → (s.map fun v => v.category).sum = az_sum a
  | [], [], _ => rfl
  | v :: r, w :: s, hS => by
    show w.category + (s.map fun v => v.category).sum = az_cat v + az_sum r
    rw [az_cat_ok hS.2.1, az_gS_sum hS.2.2]
  | [], _ :: _, hS => hS.elim
  | _ :: _, [], hS => hS.elim
theorem lg_sl_len : ∀ s : List Value, (lg_sl s).length = (s.map fun v => v.category).sum
  | [] => rfl
  | w :: s => by
    show ((if w.category = 2 then [Slot.val w, .second] else [.val w]) ++ lg_sl s).length = w.category + (s.map fun v => v.category).sum
    rw [List.length_append, lg_sl_len s]
    rcases lv_cat w with hc | hc
    · rw [hc]; rfl
    · rw [hc]; rfl
theorem az_call_ok {e : si_E} {aS args rest : List az_V} {st : List Value} {m' pc : Nat} {y : si_M} {ls : si_L} (ht : az_tbk tb = true) (hH : az_HI P tb h) (hS : az_gS P ρ C.1.length aS st) (hc : az_call tb e aS = some (m', args, rest)) : si_step P y pc e ls st h = none ∧ si_ret y e st = none ∧ si_make P e st h = none ∧ ∃ as rs, si_call P e st h = some (m', as, rs) ∧ az_gS P ρ C.1.length args as ∧ az_gS P ρ C.1.length rest rs := by
  obtain ⟨i, n, a, b, q⟩ := e
  unfold az_call at hc
  dsimp only at hc
  split at hc
  · refine ⟨rfl, rfl, rfl, ?_⟩
    split at hc
    · rename_i hn
      obtain ⟨rfl, rfl⟩ := hn
      split at hc
      · rename_i y' hy
        split at hc
        · rename_i j r hdr
          split at hc
          · rename_i o htb
            split at hc
            · rename_i hcond
              obtain ⟨ho, hk, hw, hl⟩ := hcond
              cases hc
              have hd := az_gS_drop y'.2.2.2.2.2.2.1 hS
              rw [hdr] at hd
              obtain ⟨w, s1, hs1, -, g1, hS1⟩ := az_gS_cons hd
              cases az_gV_cell g1
              have htk := az_gS_rev (az_gS_take y'.2.2.2.2.2.2.1 hS)
              obtain ⟨hix, hlt⟩ := az_ix_ok hH htb
              obtain ⟨hsh, -⟩ := hH.2 j _ htb
              obtain ⟨-, hte⟩ := az_tb_i ht htb
              unfold az_tbe at hte
              rw [Bool.and_eq_true, decide_eq_true_eq] at hte
              have hfull : az_gS P ρ C.1.length (.inr (.inr (.inl j)) :: (aS.take y'.2.2.2.2.2.2.1).reverse) (.ref (P.1 + j) :: (st.take y'.2.2.2.2.2.2.1).reverse) := ⟨trivial, rfl, htk⟩
              refine ⟨.ref (P.1 + j) :: (st.take y'.2.2.2.2.2.2.1).reverse, s1, ?_, hfull, hS1⟩
              unfold si_call
              dsimp only
              rw [if_pos ⟨rfl, rfl⟩, hy]
              dsimp only
              rw [hs1]
              dsimp only
              rw [hix]
              dsimp only
              rw [hsh]
              dsimp only
              rw [if_pos ⟨ho, hk, hte.1, decide_eq_true (by rw [az_gS_sum hS1]; exact hw), by rw [lg_sl_len, az_gS_sum hfull]; exact hl⟩]
            · cases hc
          · cases hc
        · cases hc
      · cases hc
    · cases hc
  · refine ⟨rfl, rfl, rfl, ?_⟩
    split at hc
    · rename_i hn
      subst hn
      split at hc
      · rename_i y' hy
        split at hc
        · rename_i hcond
          obtain ⟨hle, hk, h12, hw, hl⟩ := hcond
          cases hc
          have hd := az_gS_drop y'.2.2.2.2.2.2.1 hS
          have htk := az_gS_rev (az_gS_take y'.2.2.2.2.2.2.1 hS)
          refine ⟨(st.take y'.2.2.2.2.2.2.1).reverse, st.drop y'.2.2.2.2.2.2.1, ?_, htk, hd⟩
          unfold si_call
          dsimp only
          rw [if_pos rfl, hy]
          dsimp only
          rw [if_pos ⟨by rw [← az_gS_len hS]; exact hle, hk, h12, decide_eq_true (by rw [az_gS_sum hd]; exact hw), by rw [lg_sl_len, az_gS_sum htk]; exact hl⟩]
        · cases hc
      · cases hc
    · cases hc
  · cases hc
theorem si_find_bd (c : Int32) : ∀ (l : List Int32) (i : Int32) (k : Nat), l.length ≤ k → 0 ≤ i.toInt → i.toInt + k ≤ 8 → -1 ≤ (si_find c l i).toInt ∧ (si_find c l i).toInt ≤ 7
  | [], _, _, _, _, _ => by
    unfold si_find
    decide
  | x :: r, i, k, hk, h0, h1 => by
    unfold si_find
    rw [List.length_cons] at hk
    split
    · omega
    · have e1 : (i + 1).toInt = i.toInt + 1 := nm_add (by show _ ≤ i.toInt + 1; omega) (by show i.toInt + 1 ≤ _; omega)
      exact si_find_bd c r (i + 1) (k - 1) (by omega) (by omega) (by omega)
theorem az_prim_ok {e : si_E} {aS r : List az_V} {st : List Value} {pc : Nat} {y : si_M} {ls : si_L} (hS : az_gS P ρ C.1.length aS st) (hc : az_prim e aS = some r) : si_step P y pc e ls st h = none ∧ si_ret y e st = none ∧ si_make P e st h = none ∧ si_call P e st h = none ∧ ∃ (z : Int32) (rs : List Value), si_prim P e st = some (.int z :: rs) ∧ -1 ≤ z.toInt ∧ z.toInt ≤ 7 ∧ az_gS P ρ C.1.length r rs := by
  obtain ⟨i, n, a, b, q⟩ := e
  unfold az_prim at hc
  dsimp only at hc
  split at hc
  · rename_i idx
    split at hc
    · rename_i hn
      obtain ⟨rfl, rfl⟩ := hn
      refine ⟨rfl, rfl, rfl, rfl, ?_⟩
      split at hc
      · rename_i c k r'
        split at hc
        · rename_i hcond
          obtain ⟨hk, hw⟩ := hcond
          cases hc
          obtain ⟨w, s0, rfl, -, g0, hS0⟩ := az_gS_cons hS
          obtain ⟨w1, s1, rfl, -, g1, hS1⟩ := az_gS_cons hS0
          obtain ⟨x, rfl, -⟩ := az_gV_int g0
          cases az_gV_ext g1
          have hk0 : k ≠ 0 := by omega
          rw [if_neg hk0]
          have hwd : si_wide s1 = true := decide_eq_true (by rw [az_gS_sum hS1]; exact hw)
          have hb : ∀ t, -1 ≤ (si_find x (si_text t) 0).toInt ∧ (si_find x (si_text t) 0).toInt ≤ 7 := fun t => si_find_bd x _ 0 8 (by unfold si_text; split <;> decide) (by decide) (by decide)
          have hp : si_prim P (.invokevirtual idx, 3, a, 7, q) (.int x :: .ref (P.2.2.2.2 k) :: s1) = (if si_wide s1 = true then (if P.2.2.2.2 k = P.2.2.2.2 1 then some (.int (si_find x (si_text 1) 0) :: s1) else if P.2.2.2.2 k = P.2.2.2.2 2 then some (.int (si_find x (si_text 2) 0) :: s1) else none) else none) := rfl
          rw [hp, if_pos hwd]
          by_cases h1 : P.2.2.2.2 k = P.2.2.2.2 1
          · rw [if_pos h1]
            exact ⟨_, _, rfl, (hb 1).1, (hb 1).2, hS1⟩
          · have h2 : k = 2 := by
              rcases hk with rfl | rfl
              · exact absurd rfl h1
              · rfl
            subst h2
            rw [if_neg h1, if_pos rfl]
            exact ⟨_, _, rfl, (hb 2).1, (hb 2).2, hS1⟩
        · cases hc
      · cases hc
    · cases hc
  · cases hc
theorem az_args_ok {n : Nat} : ∀ {a : List az_V} {s : List Value} (i : Nat), az_gS P ρ n a s → az_gL P ρ n (az_args i a) (lv_args i s)
  | [], [], _, _ => fun k v hv => by cases hv
  | v :: r, w :: s, i, hS => by
    intro k u hu
    unfold az_args az_ld at hu
    unfold lv_args si_ld
    split at hu
    · rename_i hk
      cases hu
      rw [if_pos hk]
      exact ⟨hS.1, w, rfl, hS.2.1⟩
    · rename_i hk
      rw [if_neg hk]
      have hcat := az_cat_ok hS.2.1
      rw [hcat]
      exact az_args_ok _ hS.2.2 k u hu
  | [], _ :: _, _, hS => hS.elim
  | _ :: _, [], _, hS => hS.elim
end AzExOk
