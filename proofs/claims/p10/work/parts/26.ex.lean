/-! THE CHECKER, 9: contracts, templates at loop heads, the exploration -/
abbrev az_F : Type := Nat × Nat × az_Ls × List az_V
abbrev az_cF : Type := Nat × Nat × si_L × List Value
/-- a contract: method, what holds before (with the arguments), what holds behind (each with the answer), what it may write, its depth -/
abbrev az_Ct : Type := Nat × az_C × List az_V × List (az_C × Option az_V) × List (Nat × Nat) × Nat
/-- a template: its place, what holds there, locals, stack, the measure -/
abbrev az_Cut : Type := Nat × az_C × az_Ls × List az_V × az_L
def az_gO (P : si_P) (σ : Nat → Int) (n : Nat) (o : Option az_V) (rv : Option Value) : Prop := az_gS P σ n o.toList rv.toList
/-- a contract holds: from contents that keep the table and J, within a depth -/
def az_ok (J : si_H → Prop) (P : si_P) (tb : List az_B) (c : az_Ct) : Prop := ∀ d, c.2.2.2.2.2 ≤ d → ∀ (ρ : Nat → Int) (h : si_H) (as : List Value), az_HI P tb h → J h → az_g P ρ h c.2.1 → az_gS P ρ c.2.1.1.length c.2.2.1 as → az_X P d c.1 0 (lv_args 0 as) [] h (fun rv h1 => az_HI P tb h1 ∧ J h1 ∧ az_same_out c.2.2.2.2.1 h h1 ∧ ∃ q, q ∈ c.2.2.2.1 ∧ ∃ σ, az_ext c.2.1.1.length ρ σ ∧ az_g P σ h1 q.1 ∧ az_gO P σ q.1.1.length q.2 rv)
def az_find (j : Nat) : List (az_V × az_V) → Option az_L
  | [] => none
  | q :: r => match q with
    | (.inl t, .inl a) => if t = ([(j, 1)], 0) then some a else az_find j r
    | _ => az_find j r
def az_prs (C T : az_C) (aL tL : az_Ls) (aS tS : List az_V) : List (az_V × az_V) := (tL.filterMap (fun q => (az_ld q.1 aL).map (fun v => (q.2, v)))) ++ (tS.zip aS) ++ (T.2.2.2.filterMap (fun q => (az_tget C q.1 q.2.1).map (fun p => ((.inl q.2.2 : az_V), (.inl p.2.2 : az_V)))))
def az_sg (npre n : Nat) (prs : List (az_V × az_V)) : List az_L := (List.range n).map (fun j => if j < npre then az_v j else (az_find j prs).getD (az_c 0))
/-- make sure that the places of a template are tracked -/
def az_en1 (tb : List az_B) (q : az_R) (C : az_C) : az_C := match q.2.1 with
  | ([], k) => if 0 ≤ k then (match tb[q.1]? with
    | some (.inl o) => (match o.2[k.toNat]? with
      | some (.inl b) => (az_rd C q.1 (az_c k) b.2.1 b.2.2).1
      | _ => C)
    | some (.inr b) => if b.1 = .int ∧ k.toNat < b.2.1 then (az_rd C q.1 (az_c k) b.2.2.1 b.2.2.2).1 else C
    | none => C) else C
  | _ => C
def az_ens (tb : List az_B) : List az_R → az_C → az_C
  | [], C => C
  | q :: r, C => az_ens tb r (az_en1 tb q C)
def az_cut (tb : List az_B) (npre : Nat) (src : Option az_L) (C : az_C) (aL : az_Ls) (aS : List az_V) (c : az_Cut) : Bool := match az_ens tb c.2.1.2.2.2 C with
  | D => (match az_sg npre c.2.1.1.length (az_prs D c.2.1 aL c.2.2.1 aS c.2.2.2.1) with
    | σ => az_mt D c.2.1 σ && az_mL σ aL c.2.2.1 && az_mS σ c.2.2.2.1 aS && (match src with
      | some m => az_p2 D.1 D.2.1 (az_plus (az_sub m (az_sbs σ c.2.2.2.2)) (-1))
      | none => true))
def az_pst (tb : List az_B) (npre : Nat) (C : az_C) (rv : Option az_V) (q : az_C × Option az_V) : Bool := match az_ens tb q.1.2.2.2 C with
  | D => (match az_sg npre q.1.1.length (az_prs D q.1 [] [] rv.toList q.2.toList) with
    | σ => az_mt D q.1 σ && az_mS σ q.2.toList rv.toList)
def az_rt (C : az_C) (y : si_M) (e : si_E) (aS : List az_V) : Option (Option az_V) := match e.1, aS with
  | .ireturn, [.inl a] => if e.2.1 = 1 ∧ (y.2.2.2.2.1 = some .int ∨ (y.2.2.2.2.1 = some .boolean ∧ az_btw C a 0 1 = true)) then some (some (.inl a)) else none
  | .lreturn, [.inr (.inl u)] => if e.2.1 = 1 ∧ y.2.2.2.2.1 = some .long then some (some (.inr (.inl u))) else none
  | .return_, [] => if e.2.1 = 1 ∧ y.2.2.2.2.1 = none then some none else none
  | _, _ => none
def az_sum (l : List az_V) : Nat := (l.map az_cat).sum
def az_call (tb : List az_B) (e : si_E) (aS : List az_V) : Option (Nat × List az_V × List az_V) := match e.1 with
  | .invokevirtual _ => if e.2.1 = 3 ∧ e.2.2.2.1 = 0 then (match si_m e.2.2.1 with
    | some y => (match aS.drop y.2.2.2.2.2.2.1 with
      | .inr (.inr (.inl i)) :: r => (match tb[i]? with
        | some (.inl o) => if o.1 = y.1 ∧ y.2.2.2.2.2.1 = 0 ∧ az_sum r ≤ 8 ∧ az_sum (.inr (.inr (.inl i)) :: (aS.take y.2.2.2.2.2.2.1).reverse) ≤ y.2.2.2.1 then some (e.2.2.1, .inr (.inr (.inl i)) :: (aS.take y.2.2.2.2.2.2.1).reverse, r) else none
        | _ => none)
      | _ => none)
    | none => none) else none
  | .invokestatic _ => if e.2.1 = 3 then (match si_m e.2.2.1 with
    | some y => if y.2.2.2.2.2.2.1 ≤ aS.length ∧ y.2.2.2.2.2.1 = 1 ∧ y.1 ≠ 12 ∧ az_sum (aS.drop y.2.2.2.2.2.2.1) ≤ 8 ∧ az_sum (aS.take y.2.2.2.2.2.2.1).reverse ≤ y.2.2.2.1 then some (e.2.2.1, (aS.take y.2.2.2.2.2.2.1).reverse, aS.drop y.2.2.2.2.2.2.1) else none
    | none => none) else none
  | _ => none
def az_prim (e : si_E) (aS : List az_V) : Option (List az_V) := match e.1 with
  | .invokevirtual _ => if e.2.1 = 3 ∧ e.2.2.2.1 = 7 then (match aS with
    | .inl _ :: .inr (.inr (.inr k)) :: r => if (k = 1 ∨ k = 2) ∧ az_sum r ≤ 8 then some r else none
    | _ => none) else none
  | _ => none
def az_args : Nat → List az_V → az_Ls
  | _, [] => []
  | i, v :: r => (i, v) :: az_args (if az_cat v = 2 then i + 2 else i + 1) r
/-- behind a call by contract -/
def az_stay (md : List (Nat × Nat)) (q : az_R) : Bool := decide (q.1 = 1000000) || md.all (fun m => decide (m.1 ≠ q.1)) || (match q.2.1 with
  | ([], k) => decide (0 ≤ k) && !(az_in md q.1 k.toNat)
  | _ => false)
def az_facts : List az_L → az_C → az_C
  | [], C => C
  | f :: r, C => az_facts r (az_fact C f)
def az_nvs (n k : Nat) : List az_L := (List.range k).map (fun j => az_v (n + j))
def az_sv (σ : List az_L) (v : az_V) : az_V := match v with
  | .inl a => .inl (az_sbs σ a)
  | x => x
def az_aft (C : az_C) (σ : List az_L) (md : List (Nat × Nat)) (q : az_C × Option az_V) : az_C × Option az_V := match σ ++ az_nvs C.1.length (q.1.1.length - σ.length) with
  | τ => (az_facts (q.1.2.1.map (az_sbs τ)) (C.1 ++ q.1.1.drop σ.length, C.2.1, q.1.2.2.1.map (fun x => (x.1, az_sbs τ x.2.1, az_sbs τ x.2.2.1, az_sbs τ x.2.2.2)) ++ C.2.2.1, q.1.2.2.2.map (fun x => (x.1, az_sbs τ x.2.1, az_sbs τ x.2.2)) ++ C.2.2.2.filter (az_stay md)), q.2.map (az_sv τ))
def az_try (tb : List az_B) (md : List (Nat × Nat)) (dn m' : Nat) (C : az_C) (args : List az_V) (c : az_Ct) : Option (List (az_C × Option az_V)) := if c.1 = m' ∧ c.2.2.2.2.2 ≤ dn ∧ c.2.2.2.2.1.all (fun x => md.contains x) = true then (match az_ens tb c.2.1.2.2.2 C with
  | D => (match az_sg 0 c.2.1.1.length (az_prs D c.2.1 [] [] args c.2.2.1) with
    | σ => if (az_mt D c.2.1 σ && az_mS σ c.2.2.1 args && σ.all (az_wfb D.1.length)) = true then some (c.2.2.2.1.map (az_aft D σ c.2.2.2.2.1)) else none)) else none
def az_tries (tb : List az_B) (md : List (Nat × Nat)) (dn m' : Nat) (C : az_C) (args : List az_V) : List az_Ct → Option (List (az_C × Option az_V))
  | [] => none
  | c :: r => match az_try tb md dn m' C args c with
    | some l => some l
    | none => az_tries tb md dn m' C args r
/-- the exploration: n steps at most; dn: the depth that is left for the top frame -/
def az_ex (tb : List az_B) (cts : List az_Ct) (inl : List Nat) (cuts : List az_Cut) (posts : List (az_C × Option az_V)) (md mw : List (Nat × Nat)) (spl : List (Nat × Nat)) (npre : Nat) (src : Option az_L) : Nat → Bool → Nat → az_C → Nat → Nat → az_Ls → List az_V → List az_F → Bool
  | 0, _, _, _, _, _, _, _, _ => false
  | n + 1, first, dn, C, mi, pc, aL, aS, K => if K.isEmpty && !first && cuts.any (fun c => decide (c.1 = pc)) then cuts.any (fun c => decide (c.1 = pc) && az_cut tb npre src C aL aS c) else
    match si_m mi, si_fetch mi pc with
    | some y, some e => (match az_step tb mw (spl.contains (mi, pc)) y.2.2.2.1 pc e C aL aS with
      | some l => l.all (fun r => az_ex tb cts inl cuts posts md mw spl npre src n false dn r.1 mi r.2.1 r.2.2.1 r.2.2.2 K)
      | none => (match az_rt C y e aS with
        | some rv => (match K with
          | [] => posts.any (az_pst tb npre C rv)
          | f :: K' => az_ex tb cts inl cuts posts md mw spl npre src n false (dn + 1) C f.1 (f.2.1 + 3) f.2.2.1 (rv.toList ++ f.2.2.2) K')
        | none => (match dn with
          | 0 => false
          | dn + 1 => (match az_call tb e aS with
            | some (m', args, r) => if inl.contains m' then az_ex tb cts inl cuts posts md mw spl npre src n false dn C m' 0 (az_args 0 args) [] ((mi, pc, aL, r) :: K) else (match az_tries tb md dn m' C args cts with
              | some l => l.all (fun q => az_ex tb cts inl cuts posts md mw spl npre src n false (dn + 1) q.1 mi (pc + 3) aL (q.2.toList ++ r) K)
              | none => false)
            | none => (match az_prim e aS with
              | some r => if 8 ≤ dn then (match az_fr C (-1) 7 with
                | (D, v) => az_ex tb cts inl cuts posts md mw spl npre src n false (dn + 1) D mi (pc + 3) aL (.inl v :: r) K) else false
              | none => false)))))
    | _, _ => false
