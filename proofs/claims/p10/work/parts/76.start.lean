/-! THE CONSTRUCTORS, 3: from nothing to the loop -/
set_option maxRecDepth 100000
def cqk (wr : cW) (ci i k : Nat) (q : az_Q) : Bool := match cget i k wr with
  | some (.inl x) => (match q with
    | .inl b => decide (b.2.1 ≤ x.toInt) && decide (x.toInt ≤ b.2.2)
    | .inr _ => false)
  | some (.inr (.inl c)) => (match q with
    | .inl _ => false
    | .inr cs => cs.contains c)
  | some (.inr (.inr _)) => false
  | none => (match q with
    | .inl b => decide (si_dv (si_fty ci k) = .int 0) && decide (b.2.1 ≤ 0) && decide (0 ≤ b.2.2)
    | .inr _ => false)
def cbk (sh : List si_S) (wr : cW) (i : Nat) (e : az_B) : Bool := match e, sh[i]? with
  | .inl o, some (.inl s) => decide (s = (o.1, o.2.length)) && (List.range o.2.length).all (fun k => match o.2[k]? with
    | some q => cqk wr o.1 i k q
    | none => true)
  | .inr b, some (.inr a) => decide (a = (b.1, b.2.1)) && (if b.1 = .long then wr.all (fun q => decide (q.1 ≠ i)) else decide (si_dv b.1 = .int 0) && decide (b.2.2.1 ≤ 0) && decide (0 ≤ b.2.2.2) && wr.all (fun q => decide (q.1 ≠ i) || (match q.2.2 with
    | .inl x => decide (b.2.2.1 ≤ x.toInt) && decide (x.toInt ≤ b.2.2.2)
    | .inr _ => false)))
  | _, _ => false
def cHk (sh : List si_S) (wr : cW) : Bool := decide (sh.length = az_tb.length) && (List.range az_tb.length).all (fun i => match az_tb[i]? with
  | some e => cbk sh wr i e
  | none => true)
theorem cget_mem {i k : Nat} {v : cV} : ∀ {wr : cW}, cget i k wr = some v → (i, k, v) ∈ wr
  | [], h => by cases h
  | q :: r, h => by
    unfold cget at h
    split at h
    · rename_i hc
      cases h
      obtain ⟨a, b, c⟩ := q
      obtain ⟨rfl, rfl⟩ := hc
      exact List.mem_cons_self
    · exact List.mem_cons_of_mem _ (cget_mem h)
theorem cHI {P : si_P} {sh : List si_S} {wr : cW} {h : si_H} (hc : chr P sh wr h) (hk : cHk sh wr = true) : az_HI P az_tb h := by
  unfold cHk at hk
  rw [Bool.and_eq_true, decide_eq_true_eq] at hk
  obtain ⟨k1, k2⟩ := hk
  refine ⟨hc.1.trans k1, fun i e he => ?_⟩
  have hi : i < az_tb.length := by
    rcases Nat.lt_or_ge i az_tb.length with h1 | h1
    · exact h1
    · rw [List.getElem?_eq_none h1] at he; cases he
  have k3 := List.all_eq_true.mp k2 i (List.mem_range.mpr hi)
  rw [he] at k3
  dsimp only at k3
  unfold cbk at k3
  split at k3
  · rename_i o s hs
    rw [Bool.and_eq_true, decide_eq_true_eq] at k3
    obtain ⟨k4, k5⟩ := k3
    obtain ⟨g1, g2⟩ := hc.2.2 i _ hs
    refine ⟨by rw [g1, k4], fun k q hq => ?_⟩
    have hkl : k < o.2.length := by
      rcases Nat.lt_or_ge k o.2.length with h1 | h1
      · exact h1
      · rw [List.getElem?_eq_none h1] at hq; cases hq
    have k6 := List.all_eq_true.mp k5 k (List.mem_range.mpr hkl)
    rw [hq] at k6
    dsimp only at k6
    rw [g2 k]
    unfold ccon
    unfold cqk at k6
    split at k6
    · rename_i x hx
      rw [hx]
      split at k6
      · rw [Bool.and_eq_true, decide_eq_true_eq, decide_eq_true_eq] at k6
        exact ⟨x, rfl, k6.1, k6.2⟩
      · cases k6
    · rename_i c hx
      rw [hx]
      split at k6
      · cases k6
      · exact ⟨c, by simpa using k6, rfl⟩
    · cases k6
    · rename_i hx
      rw [hx]
      split at k6
      · simp only [Bool.and_eq_true, decide_eq_true_eq] at k6
        refine ⟨0, ?_, k6.1.2, k6.2⟩
        show si_dv (si_fty s.1 k) = .int 0
        rw [k4]
        exact k6.1.1
      · cases k6
  · rename_i b a hs
    rw [Bool.and_eq_true, decide_eq_true_eq] at k3
    obtain ⟨k4, k5⟩ := k3
    obtain ⟨g1, g2⟩ := hc.2.2 i _ hs
    refine ⟨by rw [g1, k4], fun k hkl => ?_⟩
    rw [g2 k]
    unfold ccon az_aok
    split at k5
    · rename_i hl
      rw [if_pos hl]
      split
      · rename_i v hv
        have := of_decide_eq_true (List.all_eq_true.mp k5 _ (cget_mem hv))
        exact absurd rfl this
      · refine ⟨0, ?_⟩
        show si_dv a.1 = .long 0
        rw [k4, hl]
        rfl
    · rename_i hl
      rw [if_neg hl]
      simp only [Bool.and_eq_true, decide_eq_true_eq] at k5
      obtain ⟨⟨⟨k6, k7⟩, k8⟩, k9⟩ := k5
      split
      · rename_i v hv
        have := List.all_eq_true.mp k9 _ (cget_mem hv)
        rw [Bool.or_eq_true] at this
        rcases this with h1 | h1
        · exact absurd rfl (of_decide_eq_true h1)
        · dsimp only at h1
          split at h1
          · rename_i x
            rw [Bool.and_eq_true, decide_eq_true_eq, decide_eq_true_eq] at h1
            exact ⟨x, rfl, h1.1, h1.2⟩
          · cases h1
      · refine ⟨0, ?_, k7, k8⟩
        show si_dv a.1 = .int 0
        rw [k4]
        exact k6
  · cases k3
/-- the four stretches -/


theorem ck_some {o : Option (List cV × List si_S × cW)} (h : o.isSome = true) : o = some (o.getD ([], [], [])) := by
  cases o with
  | none => cases h
  | some x => rfl
def c_A : List cV × List si_S × cW := (ck 2000 (some 7) 60 346 0 [(0, .inr (.inr 0))] [] [] []).getD ([], [], [])
theorem c_A_eq : ck 2000 (some 7) 60 346 0 [(0, .inr (.inr 0))] [] [] [] = some c_A := ck_some (by decide +kernel)
def c_B : List cV × List si_S × cW := (ck 2000 (some 12) 60 346 8 [(1, .inr (.inl 0)), (0, .inr (.inr 0))] [] c_A.2.1 c_A.2.2).getD ([], [], [])
theorem c_B_eq : ck 2000 (some 12) 60 346 8 [(1, .inr (.inl 0)), (0, .inr (.inr 0))] [] c_A.2.1 c_A.2.2 = some c_B := ck_some (by decide +kernel)
def c_D : List cV × List si_S × cW := (ck 2000 (some 369) 59 201 0 (cargs 0 [.inr (.inl 60)]) [] c_B.2.1 c_B.2.2).getD ([], [], [])
theorem c_D_eq : ck 2000 (some 369) 59 201 0 (cargs 0 [.inr (.inl 60)]) [] c_B.2.1 c_B.2.2 = some c_D := ck_some (by decide +kernel)
def c_E : List cV × List si_S × cW := (ck 2000 (some 17) 58 217 0 (cargs 0 [.inr (.inl 60), .inl 60, .inl 12]) [] c_D.2.1 c_D.2.2).getD ([], [], [])
theorem c_E_eq : ck 2000 (some 17) 58 217 0 (cargs 0 [.inr (.inl 60), .inl 60, .inl 12]) [] c_D.2.1 c_D.2.2 = some c_E := ck_some (by decide +kernel)
theorem c_A_st : c_A.1 = [.inr (.inl 0)] := by decide +kernel
theorem c_B_st : c_B.1 = [.inr (.inl 60), .inr (.inl 60)] := by decide +kernel
theorem c_D_st : c_D.1 = [.inl 12, .inl 60, .inr (.inl 60)] := by decide +kernel
theorem c_E_st : c_E.1 = [] := by decide +kernel
theorem c_D_sh : cty c_D.2.1[60]? 11 = true := by decide +kernel
theorem c_E_HI : cHk c_E.2.1 c_E.2.2 = true := by decide +kernel
def cint (wr : cW) (sh : List si_S) (i k : Nat) : Option Int32 := match sh[i]?, cget i k wr with
  | some _, some (.inl x) => some x
  | some s, none => (match cdv s k with
    | .int x => some x
    | _ => none)
  | _, _ => none
theorem cint_ok {P : si_P} {sh : List si_S} {wr : cW} {h : si_H} (hc : chr P sh wr h) {i k : Nat} {x : Int32} (hx : cint wr sh i k = some x) : ji h i k = x.toInt := by
  unfold cint at hx
  split at hx
  · rename_i s y hs hy
    cases hx
    unfold ji
    rw [(hc.2.2 i _ hs).2 k]
    unfold ccon
    rw [hy]
    rfl
  · rename_i s hs hy
    split at hx
    · rename_i y hd
      cases hx
      unfold ji
      rw [(hc.2.2 i _ hs).2 k]
      unfold ccon
      rw [hy]
      dsimp only
      rw [hd]
    · cases hx
  · cases hx
theorem c_E_7 : cint c_E.2.2 c_E.2.1 60 7 = some 60 := by decide +kernel
theorem c_E_8 : cint c_E.2.2 c_E.2.1 60 8 = some 12 := by decide +kernel
theorem c_E_9 : cint c_E.2.2 c_E.2.1 60 9 = some 720 := by decide +kernel
theorem c_E_25 : cint c_E.2.2 c_E.2.1 60 25 = some 0 := by decide +kernel
