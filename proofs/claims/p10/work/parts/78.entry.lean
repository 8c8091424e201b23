/-! FROM THE ENTRY: the small machine's run becomes the law's -/
theorem ew_int : Cond.arrayClass .int ∈ lw_tbl := List.mem_of_getElem? (i := 174) (by decide +kernel)
theorem ew_long : Cond.arrayClass .long ∈ lw_tbl := List.mem_of_getElem? (i := 219) (by decide +kernel)
theorem ew_byte : Cond.arrayClass .byte ∈ lw_tbl := List.mem_of_getElem? (i := 346) (by decide +kernel)
theorem ew_boolean : Cond.arrayClass .boolean ∈ lw_tbl := List.mem_of_getElem? (i := 300) (by decide +kernel)
theorem ew_lays : Cond.laysStatic "java/lang/String" "COMPACT_STRINGS" "Z" ∈ lw_tbl := List.mem_of_getElem? (i := 311) (by decide +kernel)
theorem ew_s1 : Cond.stringRef "HandsAlike" 80 "cavknotw" ∈ lw_tbl := List.mem_of_getElem? (i := 301) (by decide +kernel)
theorem ew_s2 : Cond.stringRef "HandsAlike$Law" 43 "glsx" ∈ lw_tbl := List.mem_of_getElem? (i := 497) (by decide +kernel)
theorem ew_s3 : Cond.stringRef "HandsAlike$Law" 92 "cavknotw" ∈ lw_tbl := List.mem_of_getElem? (i := 595) (by decide +kernel)
def ew_srk (w : Cond) : Bool := match w with
  | .stringRef O i t => decide ((O, i, t) ∈ [("HandsAlike", 80, "cavknotw"), ("HandsAlike$Law", 43, "glsx"), ("HandsAlike$Law", 92, "cavknotw")])
  | _ => true
theorem ew_sr : lw_tbl.all ew_srk = true := by decide +kernel
def ew_tm (i : Nat) : Term := if i = 0 then .string "HandsAlike" 80 else .string "HandsAlike$Law" 43
theorem ew_hex : ∀ i, i < 2 → Cond.exactly (ew_tm i) "java/lang/String" ∈ flatC (Jvm.Cond.and given_1 narrow_1) := by decide +kernel
theorem ew_hco : ∀ i, i < 2 → Cond.eq (.field (ew_tm i) "java/lang/String" "coder" "B") (.int 0) ∈ flatC (Jvm.Cond.and given_1 narrow_1) := by decide +kernel
theorem ew_har : ∀ i, i < 2 → Cond.arrayOf (.field (ew_tm i) "java/lang/String" "value" "[B") .byte ∈ flatC (Jvm.Cond.and given_1 narrow_1) := by decide +kernel
theorem ew_hle : ∀ i, i < 2 → Cond.eq (.length (.field (ew_tm i) "java/lang/String" "value" "[B")) (.int (Int32.ofNat ([8, 4].getD i 0))) ∈ flatC (Jvm.Cond.and given_1 narrow_1) := by decide +kernel
theorem ew_hel : ∀ i, i < 2 → ∀ j, j < [8, 4].getD i 0 → Cond.eq (.elem (.field (ew_tm i) "java/lang/String" "value" "[B") (.int (Int32.ofNat j))) (.int (([si_text 1, si_text 2].getD i []).getD j 0)) ∈ flatC (Jvm.Cond.and given_1 narrow_1) := by decide +kernel
theorem ew_hne : Cond.not (Cond.eq (ew_tm 0) (ew_tm 1)) ∈ flatC (Jvm.Cond.and given_1 narrow_1) := by decide +kernel
theorem ew_h3 : Cond.exactly (.string "HandsAlike$Law" 92) "java/lang/String" ∈ flatC (Jvm.Cond.and given_1 narrow_1) := by decide +kernel
theorem ew_h4 : Cond.eq (.string "HandsAlike" 80) (.string "HandsAlike$Law" 92) ∈ flatC (Jvm.Cond.and given_1 narrow_1) := by decide +kernel
theorem ew_hz : Cond.eq (.static "java/lang/String" "COMPACT_STRINGS" "Z") (.int 1) ∈ flatC (Jvm.Cond.and given_1 narrow_1) := by decide +kernel
theorem ew_eqR {args : Array Value} {s : State} {t u : Term} {a b : Nat} (h : (Cond.eq t u).before args s = true) (ht : t.eval args s none [] s = some (.ref a)) (hu : u.eval args s none [] s = some (.ref b)) : a = b := by
  simp [Cond.before, Cond.holds, Cond.value, ht, hu] at h
  exact h
theorem ew_K {args : Array Value} {s : State} (hts : ∀ w ∈ lw_tbl, w.before args s = true) : ∃ (D : va_G) (ca : FieldType → ClassId), si_K D ca s := by
  have arr : ∀ ty : FieldType, Cond.arrayClass ty ∈ lw_tbl → ∃ c : ClassId, ArrOfT s c ty ∧ s.vm.findClass ("[" ++ ty.toString) = some c := by
    intro ty h
    obtain ⟨c, k, comp, h1, h2, h3⟩ := Cond.arrayClass_spec (hts _ h)
    exact ⟨c, fun n z => ⟨fun k h => (by cases h), k, h2, comp, h3⟩, h1⟩
  obtain ⟨c1, a1, b1⟩ := arr _ ew_int
  obtain ⟨c2, a2, b2⟩ := arr _ ew_long
  obtain ⟨c3, a3, b3⟩ := arr _ ew_byte
  obtain ⟨c4, a4, b4⟩ := arr _ ew_boolean
  have cls : ∀ k : Nat, ∃ q : ClassId × (Nat → Nat), ∀ r : vw_C, si_cl[k]? = some r → u_Kn s r.1 r.2.1 r.2.2 q.1 q.2 := by
    intro k
    cases hr : si_cl[k]? with
    | none => exact ⟨(0, fun _ => 0), fun r h => by cases h⟩
    | some r =>
      obtain ⟨C, T, N⟩ := r
      obtain ⟨h1, -, -, h4, -⟩ := si_cls hr
      obtain ⟨cC, iS, hK⟩ := u_known (C := C) (T := T) (N := N) (n := N) hts (fun w hw => (List.mem_filter.mp (h1 w hw)).1) (hts _ h4)
      exact ⟨(cC, iS), fun r h => by cases h; exact hK⟩
  obtain ⟨f, hf⟩ := Classical.axiomOfChoice cls
  refine ⟨(fun k => (f k).1, fun k => (f k).2), fun ty => match ty with | .int => c1 | .long => c2 | .byte => c3 | _ => c4, ⟨fun c q hq => hf c q hq, fun k q hq => ?_⟩, fun w hw hn => ?_⟩
  · match k, hq with
    | 0, hq => cases hq; exact ⟨a1, b1⟩
    | 1, hq => cases hq; exact ⟨a2, b2⟩
    | 2, hq => cases hq; exact ⟨a3, b3⟩
    | 3, hq => cases hq; exact ⟨a4, b4⟩
    | k + 4, hq => cases hq
  · have h1 := hts w hw
    cases w <;> first | exact va_Nw.of rfl h1 | exact (Bool.false_ne_true hn).elim
theorem ew_X {s : State} {b L : Nat} {xs : Nat → Int32} (hts : ∀ w ∈ lw_tbl, w.before #[Value.ref b] s = true) (hX : va_X b L xs s s.heap) (hbl : b < s.heap.size) (hgv : (Jvm.Cond.and given_1 narrow_1).before #[Value.ref b] s = true) : ∃ ad : Nat → Nat, si_X (s.heap.size, b, L, xs, ad) s := by
  have hg := flat_of_before _ hgv
  have hA : ∀ a : Nat, a < s.heap.size → ¬ (fun q : Nat => s.heap.size ≤ q) a := fun a h => Nat.not_le.mpr h
  obtain ⟨adK, adV, hS, he⟩ := vk_Sof (args := #[Value.ref b]) (s := s) (N := 2) (tm := ew_tm) (len := [8, 4]) (byt := [si_text 1, si_text 2]) (A := fun q : Nat => s.heap.size ≤ q) (by decide) (fun i hi => hg _ (ew_hex i hi)) (fun i hi => hg _ (ew_hco i hi)) (fun i hi => hg _ (ew_har i hi)) (fun i hi => hg _ (ew_hle i hi)) (fun i hi j hj => hg _ (ew_hel i hi j hj)) (fun i j hi hj hij => by
    rcases (show i = 0 ∧ j = 1 ∨ i = 1 ∧ j = 0 by omega) with ⟨rfl, rfl⟩ | ⟨rfl, rfl⟩
    · exact Or.inl (hg _ ew_hne)
    · exact Or.inr (hg _ ew_hne)) hA
  have e0 : (Term.string "HandsAlike" 80).eval #[Value.ref b] s none [] s = some (.ref (adK 0)) := he 0 (by decide)
  have e1 : (Term.string "HandsAlike$Law" 43).eval #[Value.ref b] s none [] s = some (.ref (adK 1)) := he 1 (by decide)
  obtain ⟨a3, c3, cA, kA, q1, -⟩ := Cond.exactly_spec (args := #[Value.ref b]) (first := s) (o := none) (s := s) (idx := []) (t := .string "HandsAlike$Law" 92) (cls := "java/lang/String") (hg _ ew_h3)
  have e2 : adK 0 = a3 := ew_eqR (hg _ ew_h4) e0 q1
  refine ⟨fun k => if k = 2 then adK 1 else adK 0, hX, hbl, Nat.le_refl _, ?_, rfl, ⟨adV, ?_, ?_⟩, va_Zof (hts _ ew_lays) (hts _ jn_S) (va_eqt (hg _ ew_hz)) hA⟩
  · intro O i t ht
    have h1 := List.all_eq_true.mp ew_sr _ ht
    have h2 : (O, i, t) ∈ [("HandsAlike", 80, "cavknotw"), ("HandsAlike$Law", 43, "glsx"), ("HandsAlike$Law", 92, "cavknotw")] := of_decide_eq_true h1
    simp only [List.mem_cons, List.not_mem_nil, or_false] at h2
    rcases h2 with h2 | h2 | h2
    · cases h2
      exact vk_R.of (hts _ ht) e0
    · cases h2
      exact vk_R.of (hts _ ht) e1
    · cases h2
      exact vk_R.of (hts _ ht) (q1.trans (by rw [← e2]; rfl))
  · intro i hi
    match i, hi with
    | 0, hi => exact hS.1 0 hi
    | 1, hi => exact hS.1 1 hi
  · intro i j hi hj hij
    refine hS.2 i j hi hj ?_
    match i, j, hi, hj, hij with
    | 0, 0, _, _, _ => rfl
    | 0, 1, _, _, hij => exact hij
    | 1, 0, _, _, hij => exact hij
    | 1, 1, _, _, _ => rfl
def ew_shp (i : Nat) : si_S := match az_tb[i]? with
  | some (.inl o) => .inl (o.1, o.2.length)
  | some (.inr b) => .inr (b.1, b.2.1)
  | none => .inl (0, 0)
theorem ew_sz : si_szN ew_shp az_tb.length ≤ 7302250 ∧ az_tb.length ≤ 600000 := by decide +kernel
theorem ew_room {P : si_P} {h : si_H} (hH : az_HI P az_tb h) : h.1 ≤ 600000 ∧ si_sz h ≤ 7302250 := by
  refine ⟨by rw [hH.1]; exact ew_sz.2, ?_⟩
  unfold si_sz
  rw [hH.1]
  rw [si_szN_eq (f := h.2.1) (g := ew_shp) (fun i hi => ?_)]
  · exact ew_sz.1
  · obtain ⟨e, he⟩ : ∃ e, az_tb[i]? = some e := ⟨_, List.getElem?_eq_getElem hi⟩
    have h1 := hH.2 i e he
    unfold ew_shp
    rw [he]
    cases e with
    | inl o => exact h1.1
    | inr b => exact h1.1
theorem ew_y : si_m 346 = some md_346 := rfl
