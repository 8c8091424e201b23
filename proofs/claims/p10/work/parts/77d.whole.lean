/-! THE LAW from its first step -/
set_option maxRecDepth 100000
theorem cL_nil {P : si_P} {l : si_L} : cL P [] l := fun k v hv => by cases hv
theorem cL_cons {P : si_P} {k : Nat} {v : cV} {ls : List (Nat × cV)} {l : si_L} (h : si_ld k l = some (cval P v)) (hl : cL P ls l) : cL P ((k, v) :: ls) l := by
  intro j w hw
  unfold cld at hw
  split at hw
  · rename_i e
    cases hw
    have e' : k = j := e
    rw [← e']
    exact h
  · exact hl j w hw
theorem c_E_10 : cint c_E.2.2 c_E.2.1 1 0 = some 60 := by decide +kernel
theorem c_E_11 : cint c_E.2.2 c_E.2.1 1 1 = some 12 := by decide +kernel
theorem c_E_34 : ∀ k, k < 61 → cint c_E.2.2 c_E.2.1 34 k = some 0 := by decide +kernel
theorem law_start {P : si_P} (hxa : P.2.1 < P.1) (hP : P.2.2.1 ≤ 3072) {h : si_H} (h0 : h.1 = 0) : az_X P 60 346 0 [(0, .ref P.2.1)] [] h (fun rv h1 => jV rv 1 ∧ az_HI P az_tb h1) := by
  -- the class
  refine ck_ok 2000 (some 7) 60 346 0 _ [] [] [] c_A _ h _ c_A_eq (cL_cons (k := 0) (v := .inr (.inr 0)) rfl cL_nil) ⟨h0, fun q hq => (by cases hq), fun i s hs => (by cases hs)⟩ (fun hc => by cases hc) (fun p hp hA cA => ?_)
  cases hp
  rw [c_A_st]
  refine az_X_step (pc' := 8) (ls' := [(1, .ref (P.1 + 0)), (0, .ref P.2.1)]) (st' := []) (h' := hA) rfl rfl rfl ?_
  refine ck_ok 2000 (some 12) 60 346 8 _ [] _ _ c_B _ hA _ c_B_eq (cL_cons (k := 1) (v := .inr (.inl 0)) rfl (cL_cons (k := 0) (v := .inr (.inr 0)) rfl cL_nil)) cA (fun hc => by cases hc) (fun p hp hB cB => ?_)
  cases hp
  rw [c_B_st]
  -- the reference
  refine az_X_call (m' := 201) (as := [.ref (P.1 + 60)]) (rest := [.ref (P.1 + 60)]) rfl rfl rfl rfl rfl rfl ?_
  refine ck_ok 2000 (some 369) 59 201 0 _ [] _ _ c_D (lv_args 0 [.ref (P.1 + 60)]) hB _ c_D_eq (cargs_ok [.inr (.inl 60)] 0) cB (fun hc => by cases hc) (fun p hp hD cD => ?_)
  cases hp
  rw [c_D_st]
  obtain ⟨d1, d2⟩ := cty_ok c_D_sh
  refine az_X_call (m' := 217) (as := [.ref (P.1 + 60), .int 60, .int 12]) (rest := []) rfl rfl rfl rfl rfl ?_ ?_
  · unfold si_call
    dsimp only
    rw [if_pos ⟨rfl, rfl⟩]
    show (match si_ix P hD (P.1 + 60) with | some i => _ | none => none) = _
    rw [chr_ix cD d1]
    dsimp only
    rw [(cD.2.2 60 _ d2).1]
    rfl
  refine ck_ok 2000 (some 17) 58 217 0 _ [] _ _ c_E (lv_args 0 [.ref (P.1 + 60), .int 60, .int 12]) hD _ c_E_eq (cargs_ok [.inr (.inl 60), .inl 60, .inl 12] 0) cD (fun hc => by cases hc) (fun p hp hE cE => ?_)
  cases hp
  rw [c_E_st]
  have HE := cHI cE c_E_HI
  have t7 : ja hE 60 7 = 60 := cint_ok cE c_E_7
  have t8 : ja hE 60 8 = 12 := cint_ok cE c_E_8
  have t9 : ja hE 60 9 = (720 : Nat) := cint_ok cE c_E_9
  have t25 : ja hE 60 25 = 0 := cint_ok cE c_E_25
  refine (ld2_17 hxa (by omega) (h0 := hE) (m := 60) (r := 12) (y := 720) (by omega) (by omega) (by omega) (by decide) hE (lv_args 0 [.ref (P.1 + 60), .int 60, .int 12]) HE az_same_out.rf t7 t8 t9 (show jR P (lv_args 0 [.ref (P.1 + 60), .int 60, .int 12]) 0 60 from rfl)).mono ?_
  rintro rv hF ⟨rfl, f1, f2, f3, f4, f5⟩
  refine az_X_ret (rv := none) rfl rfl rfl rfl ?_
  show az_X P 60 346 15 [(1, .ref (P.1 + 0)), (0, .ref P.2.1)] [.ref (P.1 + 60)] hF _
  refine az_X_step (pc' := 16) (ls' := [(2, .ref (P.1 + 60)), (1, .ref (P.1 + 0)), (0, .ref P.2.1)]) (st' := []) (h' := hF) rfl rfl rfl ?_
  refine az_X_step (pc' := 17) (ls' := [(2, .ref (P.1 + 60)), (1, .ref (P.1 + 0)), (0, .ref P.2.1)]) (st' := [.int 0]) (h' := hF) rfl rfl rfl ?_
  refine az_X_step (pc' := 18) (ls' := [(3, .int 0), (2, .ref (P.1 + 60)), (1, .ref (P.1 + 0)), (0, .ref P.2.1)]) (st' := []) (h' := hF) rfl rfl rfl ?_
  have J2 : js_2 hF := by
    intro q hq
    rw [jso f3 (by decide), t25] at hq
    omega
  have RX : jrx hF := fun k k1 k2 => Or.inl ((jso_row f3 (by decide) _).trans (cint_ok cE (c_E_34 k (by omega))))
  have t10 : ja hE 1 0 = 60 := cint_ok cE c_E_10
  have t11 : ja hE 1 1 = 12 := cint_ok cE c_E_11
  have RD : jrd hF := ⟨⟨(jso f3 (by decide)).trans (t10.trans f4.symm), (jso f3 (by decide)).trans (t11.trans f5.symm)⟩, RX⟩
  refine law_loop hxa (by omega) (h0 := hF) (ρ0 := fun k => if k = 0 then (P.2.2.1 : Int) else 0) 6146 (fun k => if k = 0 then (P.2.2.1 : Int) else 0) hF _ [] f1 ⟨⟨f2, J2⟩, RD⟩ az_same_out.rf az_ext.rf ?_ ?_ trivial (by show (-2 * (0 : Int) + 0) + 6145 < ((6146 : Nat) : Int); omega)
  · refine ⟨fun v b hb => ?_, fun f hf => (by cases hf), fun q hq => (by cases hq), fun q hq => ?_⟩
    · match v, hb with
      | 0, hb => cases hb; show (0 : Int) ≤ (P.2.2.1 : Int) ∧ (P.2.2.1 : Int) ≤ 3072; omega
      | 1, hb => cases hb; show (0 : Int) ≤ 0 ∧ (0 : Int) ≤ 3072; omega
      | v + 2, hb => cases hb
    · rcases List.mem_singleton.mp hq with rfl
      refine ⟨⟨fun _ => ?_, fun hn => absurd rfl hn⟩, az_wfb_ok (by decide), az_wfb_ok (by decide)⟩
      show (P.2.2.1 : Int) = 1 * (P.2.2.1 : Int) + 0 + 0
      omega
  · intro k v hv
    match k, hv with
    | 0, hv => cases hv; exact ⟨trivial, _, rfl, rfl⟩
    | 1, hv => cases hv; exact ⟨trivial, _, rfl, rfl⟩
    | 2, hv => cases hv; exact ⟨trivial, _, rfl, rfl⟩
    | 3, hv => cases hv; exact ⟨az_wfb_ok (by decide), _, rfl, rfl⟩
    | k + 4, hv => cases hv
