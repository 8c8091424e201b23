set_option maxRecDepth 100000
/-! rules, by the reference -/
def jRU (hh : Int → Int) (n : Int) (h : si_H) (p : Int) (c : Nat) (i : Int) : Prop := ja h 60 18 = n ∧ ja h 60 17 = p ∧ ja h 60 22 = c ∧ ja h 60 24 = i ∧ (c : Int) ≤ p ∧ p ≤ n ∧ (0 ≤ i ∧ i ≤ 16) ∧ (∀ k : Nat, k < c → 0 ≤ ja h 72 k) ∧ jBR h n hh
def jRW (hh : Int → Int) (n : Int) (p i : Int) (h' : si_H) (z : Int) : Prop := (z = 1 ∧ ∃ (c' : Nat) (p' : Int), jRU hh n h' p' c' (i + 1) ∧ p < p' ∧ pyL hh n (0, 0, 0, p, [], i) (7, 0, 0, p', [], i + 1)) ∨ (z = 0 ∧ ja h' 60 19 ≠ 0 ∧ pyR hh n (0, 0, 0, p, [], i) (ja h' 60 19))
theorem rl_39 {P : si_P} (hxa : P.2.1 < P.1) {d : Nat} {hh : Int → Int} {n : Int} (hn : 1 ≤ n ∧ n ≤ 240) (hh1 : ∀ i : Int, hh i ≤ 255) {h : si_H} (hH : az_HI P az_tb h) {c : Nat} {p i : Int} (ru : jRU hh n h p c i) (Z : Int32) (eZ : Z.toInt = hh p) (kiy : pyki (hh p)) (ls : si_L) (hl : jM [(1, .int Z), (0, .ref (P.1 + 60))] ls) : az_X P (d + 10) 259 39 ls [] h (fun rv h' => ∃ z : Int32, rv = some (.int z) ∧ az_HI P az_tb h' ∧ az_same_out [(60, 17), (60, 19), (60, 20), (60, 21), (60, 22), (60, 23), (60, 24), (72, 1000000), (73, 1000000), (74, 1000000), (75, 1000000), (76, 1000000), (77, 1000000)] h h' ∧ jRW hh n p i h' z.toInt) := by
  obtain ⟨r8, r7, r2, r4, rc, rp, ri, rC, rB⟩ := ru
  have bp : 0 ≤ ja h 60 17 ∧ ja h 60 17 ≤ 240 := ja_bd hH (i := 60) (k := 17) rfl
  have k0 : (0 : Int32).toInt = 0 := by decide
  have k1 : (1 : Int32).toInt = 1 := by decide
  have k4 : (4 : Int32).toInt = 4 := by decide
  have k16 : (16 : Int32).toInt = 16 := by decide
  have k120 : (120 : Int32).toInt = 120 := by decide
  refine jm_aload_n (x := P.1 + 60) rfl rfl (jM_at hl 1 rfl) ?_
  refine jn_gf (i := 60) (k := 24) rfl rfl hH (by decide) (hH.2 60 _ rfl).1 rfl rfl (fun z40 (ez40 : z40.toInt = ja h 60 24) (bz40 : 0 ≤ z40.toInt ∧ z40.toInt ≤ 16) => ?_)
  refine az_X_step (pc' := 45) (ls' := ls) (st' := [.int 16, .int z40]) (h' := h) rfl rfl rfl ?_
  refine jx_ic (t := 58) rfl rfl rfl (fun hc45 => ?_) (fun hc45 => ?_)
  · have g45 := jc2_ne_t hc45
    have hlt := jBR_lt rB (p := p) (by omega)
    have i15 : 0 ≤ i + 1 ∧ i + 1 ≤ 16 := by omega
    refine jm_aload_n (x := P.1 + 60) rfl rfl (jM_at hl 1 rfl) ?_
    refine jx_gf (i := 60) rfl rfl hH (by decide) (hH.2 60 _ rfl).1 rfl (jx_rf hH rfl rfl) ?_
    refine jm_aload_n (x := P.1 + 60) rfl rfl (jM_at hl 1 rfl) ?_
    refine jn_gf (i := 60) (k := 24) rfl rfl hH (by decide) (hH.2 60 _ rfl).1 rfl rfl (fun z63 (ez63 : z63.toInt = ja h 60 24) (bz63 : 0 ≤ z63.toInt ∧ z63.toInt ≤ 16) => ?_)
    refine jm_iload_n (x := Z) rfl rfl (jM_at hl 0 rfl) ?_
    refine jn_ias (i := 74) (x := z63) (v := Z) rfl rfl hH (by decide) rfl (by omega) (by show _ < ((16 : Nat) : Int); omega) (Int32.le_toInt Z) (by show _ ≤ 2147483647; have := Int32.toInt_lt Z; omega) (fun h67 hH67 hs67 t67 u67 => ?_)
    refine jm_aload_n (x := P.1 + 60) rfl rfl (jM_at hl 1 rfl) ?_
    refine jm_aload_n (x := P.1 + 60) rfl rfl (jM_at hl 1 rfl) ?_
    refine jn_gf (i := 60) (k := 17) rfl rfl hH67 (by decide) (hH67.2 60 _ rfl).1 rfl rfl (fun z70 (ez70 : z70.toInt = ja h67 60 17) (bz70 : 0 ≤ z70.toInt ∧ z70.toInt ≤ 240) => ?_)
    replace ez70 : z70.toInt = ja h 60 17 := ez70.trans (jso hs67 (by decide))
    refine az_X_step (pc' := 74) (ls' := ls) (st' := [.int 1, .int z70, .ref (P.1 + 60)]) (h' := h67) rfl rfl rfl ?_
    refine jn_add (a := z70) (b := 1) rfl rfl (by omega) (by omega) (fun z74 ez74 => ?_)
    rw [show (1 : Int32).toInt = 1 by decide] at ez74
    refine jn_pf (i := 60) (k := 17) (x := z74) rfl rfl hH67 (by decide) rfl (hH67.2 60 _ rfl).1 rfl rfl (by decide) (by decide) (by show 0 ≤ _; omega) (by show _ ≤ 240; omega) (fun h75 hH75 hs75 (t75 : ja h75 60 17 = z74.toInt) => ?_)
    refine jm_aload_n (x := P.1 + 60) rfl rfl (jM_at hl 1 rfl) ?_
    refine jx_gf (i := 60) rfl rfl hH75 (by decide) (hH75.2 60 _ rfl).1 rfl (jx_rf hH75 rfl rfl) ?_
    refine jm_aload_n (x := P.1 + 60) rfl rfl (jM_at hl 1 rfl) ?_
    refine jn_gf (i := 60) (k := 24) rfl rfl hH75 (by decide) (hH75.2 60 _ rfl).1 rfl rfl (fun z83 (ez83 : z83.toInt = ja h75 60 24) (bz83 : 0 ≤ z83.toInt ∧ z83.toInt ≤ 16) => ?_)
    replace ez83 : z83.toInt = ja h 60 24 := ez83.trans ((jso hs75 (by decide)).trans (jso hs67 (by decide)))
    refine jm_aload_n (x := P.1 + 60) rfl rfl (jM_at hl 1 rfl) ?_
    refine jn_gf (i := 60) (k := 22) rfl rfl hH75 (by decide) (hH75.2 60 _ rfl).1 rfl rfl (fun z87 (ez87 : z87.toInt = ja h75 60 22) (bz87 : 0 ≤ z87.toInt ∧ z87.toInt ≤ 240) => ?_)
    replace ez87 : z87.toInt = ja h 60 22 := ez87.trans ((jso hs75 (by decide)).trans (jso hs67 (by decide)))
    refine jn_ias (i := 75) (x := z83) (v := z87) rfl rfl hH75 (by decide) rfl (by omega) (by show _ < ((16 : Nat) : Int); omega) (by show (-2147483648) ≤ _; omega) (by show _ ≤ 2147483647; omega) (fun h90 hH90 hs90 t90 u90 => ?_)
    refine jm_aload_n (x := P.1 + 60) rfl rfl (jM_at hl 1 rfl) ?_
    refine az_X_step (pc' := 93) (ls' := ls) (st' := [.int 0, .ref (P.1 + 60)]) (h' := h90) rfl rfl rfl ?_
    refine jn_pf (i := 60) (k := 21) (x := 0) rfl rfl hH90 (by decide) rfl (hH90.2 60 _ rfl).1 rfl rfl (by decide) (by decide) (by show (-2147483648) ≤ _; omega) (by show _ ≤ 2147483647; omega) (fun h93 hH93 hs93 (t93 : ja h93 60 21 = (0 : Int32).toInt) => ?_)
    replace t93 : ja h93 60 21 = 0 := t93.trans (by decide)
    refine jm_aload_n (x := P.1 + 60) rfl rfl (jM_at hl 1 rfl) ?_
    refine az_X_step (pc' := 98) (ls' := ls) (st' := [.int 0, .ref (P.1 + 60)]) (h' := h93) rfl rfl rfl ?_
    refine jn_pf (i := 60) (k := 23) (x := 0) rfl rfl hH93 (by decide) rfl (hH93.2 60 _ rfl).1 rfl rfl (by decide) (by decide) (by show (-2147483648) ≤ _; omega) (by show _ ≤ 2147483647; omega) (fun h98 hH98 hs98 (t98 : ja h98 60 23 = (0 : Int32).toInt) => ?_)
    replace t98 : ja h98 60 23 = 0 := t98.trans (by decide)
    have q96 : jQS hh n h98 0 c (p + 1) 0 := ⟨((jso hs98 (by decide)).trans ((jso hs93 (by decide)).trans ((jso hs90 (by decide)).trans ((jso hs75 (by decide)).trans (jso hs67 (by decide)))))).trans r8, ((jso hs98 (by decide)).trans ((jso hs93 (by decide)).trans ((jso hs90 (by decide)).trans t75))).trans (by omega), t98, ((jso hs98 (by decide)).trans ((jso hs93 (by decide)).trans ((jso hs90 (by decide)).trans ((jso hs75 (by decide)).trans (jso hs67 (by decide)))))).trans r2, ((jso hs98 (by decide)).trans t93), by omega, by show (c : Int) + 0 + ((0 : Nat) : Int) ≤ p + 1; omega, by omega, fun j hj => absurd hj (by omega), fun j hj => absurd hj (by omega), fun k hk => by rw [jso_row (i := 72) hs98 (by decide), jso_row (i := 72) hs93 (by decide), jso_row (i := 72) hs90 (by decide), jso_row (i := 72) hs75 (by decide), jso_row (i := 72) hs67 (by decide)]; exact rC k hk, by show (0 : Nat) ≤ 6; omega, (jBR_so hs98 (by decide) (jBR_so hs93 (by decide) (jBR_so hs90 (by decide) (jBR_so hs75 (by decide) (jBR_so hs67 (by decide) rB)))))⟩
    refine jm_iload_n (x := Z) rfl rfl (jM_at hl 0 rfl) ?_
    refine az_X_step (pc' := 104) (ls' := ls) (st' := [.int 120, .int Z]) (h' := h98) rfl rfl rfl ?_
    refine jx_ic (t := 116) rfl rfl rfl (fun hc104 => ?_) (fun hc104 => ?_)
    · have g104 := jc2_eq_t hc104
      have kx : hh p = 120 := by omega
      obtain ⟨c1, p1, ec1, ep1⟩ : ∃ (c1 : Nat) (p1 : Int), c1 = c ∧ p1 = p + 1 := ⟨c, p + 1, rfl, rfl⟩
      have chn : pyL hh n (0, 0, 0, p, [], i) (1, 0, 0, p1, [], i) := by
        rw [ep1]
        exact pyL_1 (show py hh n (0, 0, 0, p, [], i) = .inl (1, 0, 0, p + 1, [], i) by rw [py_0, if_pos kiy, if_neg (by omega), if_pos kx])
      have b18 := q96.1
      have b17 : ja h98 60 17 = p1 := q96.2.1.trans ep1.symm
      have b22 : ja h98 60 22 = c1 := q96.2.2.2.1.trans (by rw [ec1])
      have bcp : (c1 : Int) ≤ p1 := by omega
      have bpn : p1 ≤ n := by omega
      have b72 : ∀ k : Nat, k < c1 → 0 ≤ ja h98 72 k := fun k hk => q96.2.2.2.2.2.2.2.2.2.2.1 k (by omega)
      have bB := jQS_B q96
      have bp1 : p < p1 := by omega
      have z24 : ja h98 60 24 = i := ((jso hs98 (by decide)).trans ((jso hs93 (by decide)).trans ((jso hs90 (by decide)).trans ((jso hs75 (by decide)).trans (jso hs67 (by decide)))))).trans r4
      refine jm_aload_n (x := P.1 + 60) rfl rfl (jM_at hl 1 rfl) ?_
      refine jx_gf (i := 60) rfl rfl hH98 (by decide) (hH98.2 60 _ rfl).1 rfl (jx_rf hH98 rfl rfl) ?_
      refine jm_aload_n (x := P.1 + 60) rfl rfl (jM_at hl 1 rfl) ?_
      refine jn_gf (i := 60) (k := 24) rfl rfl hH98 (by decide) (hH98.2 60 _ rfl).1 rfl rfl (fun z121 (ez121 : z121.toInt = ja h98 60 24) (bz121 : 0 ≤ z121.toInt ∧ z121.toInt ≤ 16) => ?_)
      replace ez121 : z121.toInt = ja h 60 24 := ez121.trans ((jso hs98 (by decide)).trans ((jso hs93 (by decide)).trans ((jso hs90 (by decide)).trans ((jso hs75 (by decide)).trans (jso hs67 (by decide))))))
      refine jm_aload_n (x := P.1 + 60) rfl rfl (jM_at hl 1 rfl) ?_
      refine jn_gf (i := 60) (k := 22) rfl rfl hH98 (by decide) (hH98.2 60 _ rfl).1 rfl rfl (fun z125 (ez125 : z125.toInt = ja h98 60 22) (bz125 : 0 ≤ z125.toInt ∧ z125.toInt ≤ 240) => ?_)
      replace ez125 : z125.toInt = ja h 60 22 := ez125.trans ((jso hs98 (by decide)).trans ((jso hs93 (by decide)).trans ((jso hs90 (by decide)).trans ((jso hs75 (by decide)).trans (jso hs67 (by decide))))))
      refine jn_ias (i := 76) (x := z121) (v := z125) rfl rfl hH98 (by decide) rfl (by omega) (by show _ < ((16 : Nat) : Int); omega) (by show (-2147483648) ≤ _; omega) (by show _ ≤ 2147483647; omega) (fun h128 hH128 hs128 t128 u128 => ?_)
      refine jm_aload_n (x := P.1 + 60) rfl rfl (jM_at hl 1 rfl) ?_
      refine az_X_call (m' := 258) (as := [.ref (P.1 + 60)]) (rest := []) rfl rfl rfl rfl rfl ?_ ?_
      · unfold si_call
        dsimp only
        rw [if_pos ⟨rfl, rfl⟩]
        show (match si_ix P h128 (P.1 + 60) with | some i => _ | none => none) = _
        rw [jix hH128 (by decide)]
        dsimp only
        rw [(hH128.2 60 _ rfl).1]
        rfl
      refine (cn_ok (d := d) hxa hn hh1 hH128 (c := c1) (p := p1) ((jso hs128 (by decide)).trans b18) ((jso hs128 (by decide)).trans b17) ((jso hs128 (by decide)).trans b22) bcp bpn (fun k hk => by rw [jso_row (i := 72) hs128 (by decide)]; exact b72 k hk) (jBR_so hs128 (by decide) bB)).mono ?_
      rintro rv130 h130 ⟨z130, rfl, hH130, hs130, f130⟩
      show az_X P _ 259 133 ls [.int z130] _ _
      refine jx_if (t := 138) rfl rfl rfl (fun hc133 => ?_) (fun hc133 => ?_)
      · have g133 := jc1_ne_t hc133
        have y24 : ja h130 60 24 = i := (jso hs130 (by decide)).trans ((jso hs128 (by decide)).trans z24)
        refine jm_aload_n (x := P.1 + 60) rfl rfl (jM_at hl 1 rfl) ?_
        refine jx_gf (i := 60) rfl rfl hH130 (by decide) (hH130.2 60 _ rfl).1 rfl (jx_rf hH130 rfl rfl) ?_
        refine jm_aload_n (x := P.1 + 60) rfl rfl (jM_at hl 1 rfl) ?_
        refine jn_gf (i := 60) (k := 24) rfl rfl hH130 (by decide) (hH130.2 60 _ rfl).1 rfl rfl (fun z143 (ez143 : z143.toInt = ja h130 60 24) (bz143 : 0 ≤ z143.toInt ∧ z143.toInt ≤ 16) => ?_)
        replace ez143 : z143.toInt = ja h 60 24 := ez143.trans ((jso hs130 (by decide)).trans ((jso hs128 (by decide)).trans ((jso hs98 (by decide)).trans ((jso hs93 (by decide)).trans ((jso hs90 (by decide)).trans ((jso hs75 (by decide)).trans (jso hs67 (by decide))))))))
        refine jm_aload_n (x := P.1 + 60) rfl rfl (jM_at hl 1 rfl) ?_
        refine jn_gf (i := 60) (k := 22) rfl rfl hH130 (by decide) (hH130.2 60 _ rfl).1 rfl rfl (fun z147 (ez147 : z147.toInt = ja h130 60 22) (bz147 : 0 ≤ z147.toInt ∧ z147.toInt ≤ 240) => ?_)
        refine jn_ias (i := 77) (x := z143) (v := z147) rfl rfl hH130 (by decide) rfl (by omega) (by show _ < ((16 : Nat) : Int); omega) (by show (-2147483648) ≤ _; omega) (by show _ ≤ 2147483647; omega) (fun h150 hH150 hs150 t150 u150 => ?_)
        refine jm_aload_n (x := P.1 + 60) rfl rfl (jM_at hl 1 rfl) ?_
        refine jm_aload_n (x := P.1 + 60) rfl rfl (jM_at hl 1 rfl) ?_
        refine jn_gf (i := 60) (k := 24) rfl rfl hH150 (by decide) (hH150.2 60 _ rfl).1 rfl rfl (fun z153 (ez153 : z153.toInt = ja h150 60 24) (bz153 : 0 ≤ z153.toInt ∧ z153.toInt ≤ 16) => ?_)
        replace ez153 : z153.toInt = ja h 60 24 := ez153.trans ((jso hs150 (by decide)).trans ((jso hs130 (by decide)).trans ((jso hs128 (by decide)).trans ((jso hs98 (by decide)).trans ((jso hs93 (by decide)).trans ((jso hs90 (by decide)).trans ((jso hs75 (by decide)).trans (jso hs67 (by decide)))))))))
        refine az_X_step (pc' := 157) (ls' := ls) (st' := [.int 1, .int z153, .ref (P.1 + 60)]) (h' := h150) rfl rfl rfl ?_
        refine jn_add (a := z153) (b := 1) rfl rfl (by omega) (by omega) (fun z157 ez157 => ?_)
        rw [show (1 : Int32).toInt = 1 by decide] at ez157
        refine jn_pf (i := 60) (k := 24) (x := z157) rfl rfl hH150 (by decide) rfl (hH150.2 60 _ rfl).1 rfl rfl (by decide) (by decide) (by show 0 ≤ _; omega) (by show _ ≤ 16; omega) (fun h158 hH158 hs158 (t158 : ja h158 60 24 = z157.toInt) => ?_)
        refine az_X_step (pc' := 162) (ls' := ls) (st' := [.int 1]) (h' := h158) rfl rfl rfl ?_
        refine jx_retz rfl rfl rfl (by decide) ?_
        rcases f130 with ⟨-, c2, p2, a1, a2, a3, a4, a5, a6, a7⟩ | ⟨a, -⟩
        · refine ⟨1, rfl, hH158, ((hs67.sub (by decide)).tr ((hs75.sub (by decide)).tr ((hs90.sub (by decide)).tr ((hs93.sub (by decide)).tr ((hs98.sub (by decide)).tr ((hs128.sub (by decide)).tr ((hs130.sub (by decide)).tr ((hs150.sub (by decide)).tr (hs158.sub (by decide)))))))))), Or.inl ⟨by decide, c2, p2, ⟨(jso hs158 (by decide)).trans ((jso hs150 (by decide)).trans ((jso hs130 (by decide)).trans ((jso hs128 (by decide)).trans b18))), (jso hs158 (by decide)).trans ((jso hs150 (by decide)).trans a1), (jso hs158 (by decide)).trans ((jso hs150 (by decide)).trans a2), t158.trans (by rw [ez157, ez153, r4]), a3, a4, i15, fun k hk => by rw [jso_row (i := 72) hs158 (by decide), jso_row (i := 72) hs150 (by decide)]; exact a5 k hk, jBR_so hs158 (by decide) (jBR_so hs150 (by decide) (jBR_so hs130 (by decide) (jBR_so hs128 (by decide) bB)))⟩, Int.lt_trans bp1 a6, chn.tr ((a7 i).tr (pyL_1 ps6_nil))⟩⟩
        · exact absurd a g133
      · have g133 := jc1_ne_f hc133
        refine az_X_step (pc' := 137) (ls' := ls) (st' := [.int 0]) (h' := h130) rfl rfl rfl ?_
        refine jx_retz rfl rfl rfl (by decide) ?_
        rcases f130 with ⟨a, -⟩ | ⟨a, a2, a3⟩
        · omega
        · exact ⟨0, rfl, hH130, ((hs67.sub (by decide)).tr ((hs75.sub (by decide)).tr ((hs90.sub (by decide)).tr ((hs93.sub (by decide)).tr ((hs98.sub (by decide)).tr ((hs128.sub (by decide)).tr (hs130.sub (by decide)))))))), Or.inr ⟨by decide, a2, chn _ (a3 i)⟩⟩
    · have g104 := jc2_eq_f hc104
      refine jm_aload_n (x := P.1 + 60) rfl rfl (jM_at hl 1 rfl) ?_
      refine az_X_call (m' := 253) (as := [.ref (P.1 + 60)]) (rest := []) rfl rfl rfl rfl rfl ?_ ?_
      · unfold si_call
        dsimp only
        rw [if_pos ⟨rfl, rfl⟩]
        show (match si_ix P h98 (P.1 + 60) with | some i => _ | none => none) = _
        rw [jix hH98 (by decide)]
        dsimp only
        rw [(hH98.2 60 _ rfl).1]
        rfl
      refine (su_ok (d := d + 2) hxa hn hh1 hH98 q96 (fun v hv => absurd hv (by omega)) (show ([] : List Int).head? ≠ some 14 from fun e => by cases e)).mono ?_
      rintro rv108 h108 ⟨z108, rfl, hH108, hs108, f108⟩
      show az_X P _ 259 111 ls [.int z108] _ _
      refine jx_if (t := 116) rfl rfl rfl (fun hc111 => ?_) (fun hc111 => ?_)
      · have g111 := jc1_ne_t hc111
        obtain ⟨c1, p1, b1, b2, b3, b4, b5⟩ : ∃ (c1 : Nat) (p1 : Int), jQS hh n h108 0 c1 p1 0 ∧ p + 1 < p1 ∧ (∀ j : Nat, j < 0 → ja h108 73 j = ja h98 73 j) ∧ ¬ pysg (hh p1) ∧ ∀ (wd : Nat) (i : Int), pyL hh n (3, wd, 0, p + 1, [], i) (4, wd, 0, p1, [], i) := by
          rcases f108 with ⟨-, c1, p1, b⟩ | ⟨b, -⟩
          · exact ⟨c1, p1, b⟩
          · exact absurd b g111
        have kx : hh p ≠ 120 := by omega
        have chn : pyL hh n (0, 0, 0, p, [], i) (1, 0, 0, p1, [], i) := (pyL_1 (show py hh n (0, 0, 0, p, [], i) = .inl (3, 0, 0, p + 1, [], i) by rw [py_0, if_pos kiy, if_neg (by omega), if_neg kx])).tr ((b5 0 i).tr (pyL_1 ((ps4_end b4 (show ([] : List Int).head? ≠ some 14 from fun e => by cases e)).trans (if_pos rfl))))
        have b18 := b1.1
        have b17 := b1.2.1
        have b22 := b1.2.2.2.1
        have bcp : (c1 : Int) ≤ p1 := by
          have x : (c1 : Int) + 0 + ((0 : Nat) : Int) ≤ p1 := b1.2.2.2.2.2.2.1
          omega
        have bpn := b1.2.2.2.2.2.2.2.1
        have b72 := b1.2.2.2.2.2.2.2.2.2.2.1
        have bB := jQS_B b1
        have bp1 : p < p1 := by omega
        have z24 : ja h108 60 24 = i := ((jso hs108 (by decide)).trans ((jso hs98 (by decide)).trans ((jso hs93 (by decide)).trans ((jso hs90 (by decide)).trans ((jso hs75 (by decide)).trans (jso hs67 (by decide))))))).trans r4
        refine jm_aload_n (x := P.1 + 60) rfl rfl (jM_at hl 1 rfl) ?_
        refine jx_gf (i := 60) rfl rfl hH108 (by decide) (hH108.2 60 _ rfl).1 rfl (jx_rf hH108 rfl rfl) ?_
        refine jm_aload_n (x := P.1 + 60) rfl rfl (jM_at hl 1 rfl) ?_
        refine jn_gf (i := 60) (k := 24) rfl rfl hH108 (by decide) (hH108.2 60 _ rfl).1 rfl rfl (fun z121 (ez121 : z121.toInt = ja h108 60 24) (bz121 : 0 ≤ z121.toInt ∧ z121.toInt ≤ 16) => ?_)
        replace ez121 : z121.toInt = ja h 60 24 := ez121.trans ((jso hs108 (by decide)).trans ((jso hs98 (by decide)).trans ((jso hs93 (by decide)).trans ((jso hs90 (by decide)).trans ((jso hs75 (by decide)).trans (jso hs67 (by decide)))))))
        refine jm_aload_n (x := P.1 + 60) rfl rfl (jM_at hl 1 rfl) ?_
        refine jn_gf (i := 60) (k := 22) rfl rfl hH108 (by decide) (hH108.2 60 _ rfl).1 rfl rfl (fun z125 (ez125 : z125.toInt = ja h108 60 22) (bz125 : 0 ≤ z125.toInt ∧ z125.toInt ≤ 240) => ?_)
        refine jn_ias (i := 76) (x := z121) (v := z125) rfl rfl hH108 (by decide) rfl (by omega) (by show _ < ((16 : Nat) : Int); omega) (by show (-2147483648) ≤ _; omega) (by show _ ≤ 2147483647; omega) (fun h128 hH128 hs128 t128 u128 => ?_)
        refine jm_aload_n (x := P.1 + 60) rfl rfl (jM_at hl 1 rfl) ?_
        refine az_X_call (m' := 258) (as := [.ref (P.1 + 60)]) (rest := []) rfl rfl rfl rfl rfl ?_ ?_
        · unfold si_call
          dsimp only
          rw [if_pos ⟨rfl, rfl⟩]
          show (match si_ix P h128 (P.1 + 60) with | some i => _ | none => none) = _
          rw [jix hH128 (by decide)]
          dsimp only
          rw [(hH128.2 60 _ rfl).1]
          rfl
        refine (cn_ok (d := d) hxa hn hh1 hH128 (c := c1) (p := p1) ((jso hs128 (by decide)).trans b18) ((jso hs128 (by decide)).trans b17) ((jso hs128 (by decide)).trans b22) bcp bpn (fun k hk => by rw [jso_row (i := 72) hs128 (by decide)]; exact b72 k hk) (jBR_so hs128 (by decide) bB)).mono ?_
        rintro rv130 h130 ⟨z130, rfl, hH130, hs130, f130⟩
        show az_X P _ 259 133 ls [.int z130] _ _
        refine jx_if (t := 138) rfl rfl rfl (fun hc133 => ?_) (fun hc133 => ?_)
        · have g133 := jc1_ne_t hc133
          have y24 : ja h130 60 24 = i := (jso hs130 (by decide)).trans ((jso hs128 (by decide)).trans z24)
          refine jm_aload_n (x := P.1 + 60) rfl rfl (jM_at hl 1 rfl) ?_
          refine jx_gf (i := 60) rfl rfl hH130 (by decide) (hH130.2 60 _ rfl).1 rfl (jx_rf hH130 rfl rfl) ?_
          refine jm_aload_n (x := P.1 + 60) rfl rfl (jM_at hl 1 rfl) ?_
          refine jn_gf (i := 60) (k := 24) rfl rfl hH130 (by decide) (hH130.2 60 _ rfl).1 rfl rfl (fun z143 (ez143 : z143.toInt = ja h130 60 24) (bz143 : 0 ≤ z143.toInt ∧ z143.toInt ≤ 16) => ?_)
          replace ez143 : z143.toInt = ja h 60 24 := ez143.trans ((jso hs130 (by decide)).trans ((jso hs128 (by decide)).trans ((jso hs108 (by decide)).trans ((jso hs98 (by decide)).trans ((jso hs93 (by decide)).trans ((jso hs90 (by decide)).trans ((jso hs75 (by decide)).trans (jso hs67 (by decide)))))))))
          refine jm_aload_n (x := P.1 + 60) rfl rfl (jM_at hl 1 rfl) ?_
          refine jn_gf (i := 60) (k := 22) rfl rfl hH130 (by decide) (hH130.2 60 _ rfl).1 rfl rfl (fun z147 (ez147 : z147.toInt = ja h130 60 22) (bz147 : 0 ≤ z147.toInt ∧ z147.toInt ≤ 240) => ?_)
          refine jn_ias (i := 77) (x := z143) (v := z147) rfl rfl hH130 (by decide) rfl (by omega) (by show _ < ((16 : Nat) : Int); omega) (by show (-2147483648) ≤ _; omega) (by show _ ≤ 2147483647; omega) (fun h150 hH150 hs150 t150 u150 => ?_)
          refine jm_aload_n (x := P.1 + 60) rfl rfl (jM_at hl 1 rfl) ?_
          refine jm_aload_n (x := P.1 + 60) rfl rfl (jM_at hl 1 rfl) ?_
          refine jn_gf (i := 60) (k := 24) rfl rfl hH150 (by decide) (hH150.2 60 _ rfl).1 rfl rfl (fun z153 (ez153 : z153.toInt = ja h150 60 24) (bz153 : 0 ≤ z153.toInt ∧ z153.toInt ≤ 16) => ?_)
          replace ez153 : z153.toInt = ja h 60 24 := ez153.trans ((jso hs150 (by decide)).trans ((jso hs130 (by decide)).trans ((jso hs128 (by decide)).trans ((jso hs108 (by decide)).trans ((jso hs98 (by decide)).trans ((jso hs93 (by decide)).trans ((jso hs90 (by decide)).trans ((jso hs75 (by decide)).trans (jso hs67 (by decide))))))))))
          refine az_X_step (pc' := 157) (ls' := ls) (st' := [.int 1, .int z153, .ref (P.1 + 60)]) (h' := h150) rfl rfl rfl ?_
          refine jn_add (a := z153) (b := 1) rfl rfl (by omega) (by omega) (fun z157 ez157 => ?_)
          rw [show (1 : Int32).toInt = 1 by decide] at ez157
          refine jn_pf (i := 60) (k := 24) (x := z157) rfl rfl hH150 (by decide) rfl (hH150.2 60 _ rfl).1 rfl rfl (by decide) (by decide) (by show 0 ≤ _; omega) (by show _ ≤ 16; omega) (fun h158 hH158 hs158 (t158 : ja h158 60 24 = z157.toInt) => ?_)
          refine az_X_step (pc' := 162) (ls' := ls) (st' := [.int 1]) (h' := h158) rfl rfl rfl ?_
          refine jx_retz rfl rfl rfl (by decide) ?_
          rcases f130 with ⟨-, c2, p2, a1, a2, a3, a4, a5, a6, a7⟩ | ⟨a, -⟩
          · refine ⟨1, rfl, hH158, ((hs67.sub (by decide)).tr ((hs75.sub (by decide)).tr ((hs90.sub (by decide)).tr ((hs93.sub (by decide)).tr ((hs98.sub (by decide)).tr ((hs108.sub (by decide)).tr ((hs128.sub (by decide)).tr ((hs130.sub (by decide)).tr ((hs150.sub (by decide)).tr (hs158.sub (by decide))))))))))), Or.inl ⟨by decide, c2, p2, ⟨(jso hs158 (by decide)).trans ((jso hs150 (by decide)).trans ((jso hs130 (by decide)).trans ((jso hs128 (by decide)).trans b18))), (jso hs158 (by decide)).trans ((jso hs150 (by decide)).trans a1), (jso hs158 (by decide)).trans ((jso hs150 (by decide)).trans a2), t158.trans (by rw [ez157, ez153, r4]), a3, a4, i15, fun k hk => by rw [jso_row (i := 72) hs158 (by decide), jso_row (i := 72) hs150 (by decide)]; exact a5 k hk, jBR_so hs158 (by decide) (jBR_so hs150 (by decide) (jBR_so hs130 (by decide) (jBR_so hs128 (by decide) bB)))⟩, Int.lt_trans bp1 a6, chn.tr ((a7 i).tr (pyL_1 ps6_nil))⟩⟩
          · exact absurd a g133
        · have g133 := jc1_ne_f hc133
          refine az_X_step (pc' := 137) (ls' := ls) (st' := [.int 0]) (h' := h130) rfl rfl rfl ?_
          refine jx_retz rfl rfl rfl (by decide) ?_
          rcases f130 with ⟨a, -⟩ | ⟨a, a2, a3⟩
          · omega
          · exact ⟨0, rfl, hH130, ((hs67.sub (by decide)).tr ((hs75.sub (by decide)).tr ((hs90.sub (by decide)).tr ((hs93.sub (by decide)).tr ((hs98.sub (by decide)).tr ((hs108.sub (by decide)).tr ((hs128.sub (by decide)).tr (hs130.sub (by decide))))))))), Or.inr ⟨by decide, a2, chn _ (a3 i)⟩⟩
      · have g111 := jc1_ne_f hc111
        refine az_X_step (pc' := 115) (ls' := ls) (st' := [.int 0]) (h' := h108) rfl rfl rfl ?_
        refine jx_retz rfl rfl rfl (by decide) ?_
        rcases f108 with ⟨a, -⟩ | ⟨a, a2, a3⟩
        · omega
        · have kx : hh p ≠ 120 := by omega
          exact ⟨0, rfl, hH108, ((hs67.sub (by decide)).tr ((hs75.sub (by decide)).tr ((hs90.sub (by decide)).tr ((hs93.sub (by decide)).tr ((hs98.sub (by decide)).tr (hs108.sub (by decide))))))), Or.inr ⟨by decide, a2, pyL_1 (show py hh n (0, 0, 0, p, [], i) = .inl (3, 0, 0, p + 1, [], i) by rw [py_0, if_pos kiy, if_neg (by omega), if_neg kx]) _ (a3 0 i)⟩⟩
  · have g45 := jc2_ne_f hc45
    refine jm_aload_n (x := P.1 + 60) rfl rfl (jM_at hl 1 rfl) ?_
    refine az_X_step (pc' := 50) (ls' := ls) (st' := [.int 4, .ref (P.1 + 60)]) (h' := h) rfl rfl rfl ?_
    refine jm_aload_n (x := P.1 + 60) rfl rfl (jM_at hl 1 rfl) ?_
    refine jn_gf (i := 60) (k := 17) rfl rfl hH (by decide) (hH.2 60 _ rfl).1 rfl rfl (fun z51 (ez51 : z51.toInt = ja h 60 17) (bz51 : 0 ≤ z51.toInt ∧ z51.toInt ≤ 240) => ?_)
    refine az_X_call (m' := 242) (as := [.ref (P.1 + 60), .int 4, .int z51]) (rest := []) rfl rfl rfl rfl rfl ?_ ?_
    · unfold si_call
      dsimp only
      rw [if_pos ⟨rfl, rfl⟩]
      show (match si_ix P h (P.1 + 60) with | some i => _ | none => none) = _
      rw [jix hH (by decide)]
      dsimp only
      rw [(hH.2 60 _ rfl).1]
      rfl
    refine (rw_ok hH 4 z51 (by decide) (by omega)).mono ?_
    rintro rv54 h54 ⟨z54, rfl, hH54, hs54, f54⟩
    show az_X P _ 259 57 ls [.int z54] _ _
    refine jx_retz rfl rfl rfl (jbz (by omega)) ?_
    have hf : ja h54 60 19 = -4000 - p := by rw [f54.2]; omega
    have i16 : i = 16 := by omega
    refine ⟨z54, rfl, hH54, hs54.sub (by decide), Or.inr ⟨f54.1, by omega, ?_⟩⟩
    rw [hf, i16]
    exact ru_many kiy
theorem rl_ok {P : si_P} (hxa : P.2.1 < P.1) {d : Nat} {hh : Int → Int} {n : Int} (hn : 1 ≤ n ∧ n ≤ 240) (hh1 : ∀ i : Int, hh i ≤ 255) {h : si_H} (hH : az_HI P az_tb h) {c : Nat} {p i : Int} (ru : jRU hh n h p c i) : az_X P (d + 10) 259 0 (lv_args 0 [.ref (P.1 + 60)]) [] h (fun rv h' => ∃ z : Int32, rv = some (.int z) ∧ az_HI P az_tb h' ∧ az_same_out [(60, 17), (60, 19), (60, 20), (60, 21), (60, 22), (60, 23), (60, 24), (72, 1000000), (73, 1000000), (74, 1000000), (75, 1000000), (76, 1000000), (77, 1000000)] h h' ∧ jRW hh n p i h' z.toInt) := by
  have ru0 := ru
  obtain ⟨r8, r7, r2, r4, rc, rp, ri, rC, rB⟩ := ru
  have bp : 0 ≤ ja h 60 17 ∧ ja h 60 17 ≤ 240 := ja_bd hH (i := 60) (k := 17) rfl
  have hl : jM [(0, .ref (P.1 + 60))] (lv_args 0 [.ref (P.1 + 60)]) := jM_args [0] rfl (by decide)
  generalize lv_args 0 [.ref (P.1 + 60)] = ls at hl
  have k1 : (1 : Int32).toInt = 1 := by decide
  have k103 : (103 : Int32).toInt = 103 := by decide
  have k108 : (108 : Int32).toInt = 108 := by decide
  have k115 : (115 : Int32).toInt = 115 := by decide
  have k120 : (120 : Int32).toInt = 120 := by decide
  refine jm_aload_n (x := P.1 + 60) rfl rfl (jM_at hl 0 rfl) ?_
  refine az_X_call (m' := 240) (as := [.ref (P.1 + 60)]) (rest := []) rfl rfl rfl rfl rfl ?_ ?_
  · unfold si_call
    dsimp only
    rw [if_pos ⟨rfl, rfl⟩]
    show (match si_ix P h (P.1 + 60) with | some i => _ | none => none) = _
    rw [jix hH (by decide)]
    dsimp only
    rw [(hH.2 60 _ rfl).1]
    rfl
  refine (rh_ok hH hn r8 r7 rB).mono ?_
  rintro rv1 h1 ⟨q1, z1, rfl, ez1⟩
  subst h1
  show az_X P _ 259 4 ls [.int z1] _ _
  refine jm_istore_n (l' := [(1, .int z1), (0, .ref (P.1 + 60))]) rfl rfl (by decide) hl rfl rfl (fun ls4 hl4 => ?_)
  refine jm_iload_n (x := z1) rfl rfl (jM_at hl4 0 rfl) ?_
  refine az_X_step (pc' := 8) (ls' := ls4) (st' := [.int 103, .int z1]) (h' := h) rfl rfl rfl ?_
  refine jx_ic (t := 39) rfl rfl rfl (fun hc8 => ?_) (fun hc8 => ?_)
  · have g8 := jc2_eq_t hc8
    exact rl_39 (d := d) hxa hn hh1 hH ru0 z1 ez1 (by omega) ls4 (jM_pick hl4 [0, 1] rfl)
  · have g8 := jc2_eq_f hc8
    refine jm_iload_n (x := z1) rfl rfl (jM_at hl4 0 rfl) ?_
    refine az_X_step (pc' := 14) (ls' := ls4) (st' := [.int 108, .int z1]) (h' := h) rfl rfl rfl ?_
    refine jx_ic (t := 39) rfl rfl rfl (fun hc14 => ?_) (fun hc14 => ?_)
    · have g14 := jc2_eq_t hc14
      exact rl_39 (d := d) hxa hn hh1 hH ru0 z1 ez1 (by omega) ls4 (jM_pick hl4 [0, 1] rfl)
    · have g14 := jc2_eq_f hc14
      refine jm_iload_n (x := z1) rfl rfl (jM_at hl4 0 rfl) ?_
      refine az_X_step (pc' := 20) (ls' := ls4) (st' := [.int 115, .int z1]) (h' := h) rfl rfl rfl ?_
      refine jx_ic (t := 39) rfl rfl rfl (fun hc20 => ?_) (fun hc20 => ?_)
      · have g20 := jc2_eq_t hc20
        exact rl_39 (d := d) hxa hn hh1 hH ru0 z1 ez1 (by omega) ls4 (jM_pick hl4 [0, 1] rfl)
      · have g20 := jc2_eq_f hc20
        refine jm_iload_n (x := z1) rfl rfl (jM_at hl4 0 rfl) ?_
        refine az_X_step (pc' := 26) (ls' := ls4) (st' := [.int 120, .int z1]) (h' := h) rfl rfl rfl ?_
        refine jx_ic (t := 39) rfl rfl rfl (fun hc26 => ?_) (fun hc26 => ?_)
        · have g26 := jc2_eq_t hc26
          exact rl_39 (d := d) hxa hn hh1 hH ru0 z1 ez1 (by omega) ls4 (jM_pick hl4 [0, 1] rfl)
        · have g26 := jc2_eq_f hc26
          refine jm_aload_n (x := P.1 + 60) rfl rfl (jM_at hl4 1 rfl) ?_
          refine az_X_step (pc' := 31) (ls' := ls4) (st' := [.int 1, .ref (P.1 + 60)]) (h' := h) rfl rfl rfl ?_
          refine jm_aload_n (x := P.1 + 60) rfl rfl (jM_at hl4 1 rfl) ?_
          refine jn_gf (i := 60) (k := 17) rfl rfl hH (by decide) (hH.2 60 _ rfl).1 rfl rfl (fun z32 (ez32 : z32.toInt = ja h 60 17) (bz32 : 0 ≤ z32.toInt ∧ z32.toInt ≤ 240) => ?_)
          refine az_X_call (m' := 242) (as := [.ref (P.1 + 60), .int 1, .int z32]) (rest := []) rfl rfl rfl rfl rfl ?_ ?_
          · unfold si_call
            dsimp only
            rw [if_pos ⟨rfl, rfl⟩]
            show (match si_ix P h (P.1 + 60) with | some i => _ | none => none) = _
            rw [jix hH (by decide)]
            dsimp only
            rw [(hH.2 60 _ rfl).1]
            rfl
          refine (rw_ok hH 1 z32 (by decide) (by omega)).mono ?_
          rintro rv35 h35 ⟨z35, rfl, hH35, hs35, f35⟩
          show az_X P _ 259 38 ls4 [.int z35] _ _
          refine jx_retz rfl rfl rfl (jbz (by omega)) ?_
          have hf : ja h35 60 19 = -1000 - p := by rw [f35.2]; omega
          refine ⟨z35, rfl, hH35, hs35.sub (by decide), Or.inr ⟨f35.1, by omega, ?_⟩⟩
          rw [hf]
          exact ru_no (by omega)
theorem bt_ok {P : si_P} {d : Nat} {h : si_H} (hH : az_HI P az_tb h) (n : Int32) (hn : 0 ≤ n.toInt ∧ n.toInt ≤ 240) : az_X P d 260 0 (lv_args 0 [.ref (P.1 + 60), .int n]) [] h (fun rv h' => rv = none ∧ az_HI P az_tb h' ∧ az_same_out [(60, 17), (60, 18), (60, 22), (60, 24)] h h' ∧ ja h' 60 17 = 0 ∧ ja h' 60 18 = n.toInt ∧ ja h' 60 22 = 0 ∧ ja h' 60 24 = 0) := by
  have hl : jM [(0, .ref (P.1 + 60)), (1, .int n)] (lv_args 0 [.ref (P.1 + 60), .int n]) := jM_args [0, 1] rfl (by decide)
  generalize lv_args 0 [.ref (P.1 + 60), .int n] = ls at hl
  have k0 : (0 : Int32).toInt = 0 := by decide
  refine jm_aload_n (x := P.1 + 60) rfl rfl (jM_at hl 0 rfl) ?_
  refine az_X_step (pc' := 2) (ls' := ls) (st' := [.int 0, .ref (P.1 + 60)]) (h' := h) rfl rfl rfl ?_
  refine jn_pf (i := 60) (k := 17) (x := 0) rfl rfl hH (by decide) rfl (hH.2 60 _ rfl).1 rfl rfl (by decide) (by decide) (by show 0 ≤ _; omega) (by show _ ≤ 240; omega) (fun h2 hH2 hs2 (t2 : ja h2 60 17 = (0 : Int32).toInt) => ?_)
  replace t2 : ja h2 60 17 = 0 := t2.trans (by decide)
  refine jm_aload_n (x := P.1 + 60) rfl rfl (jM_at hl 0 rfl) ?_
  refine jm_iload_n (x := n) rfl rfl (jM_at hl 1 rfl) ?_
  refine jn_pf (i := 60) (k := 18) (x := n) rfl rfl hH2 (by decide) rfl (hH2.2 60 _ rfl).1 rfl rfl (by decide) (by decide) (by show 0 ≤ _; omega) (by show _ ≤ 240; omega) (fun h7 hH7 hs7 (t7 : ja h7 60 18 = n.toInt) => ?_)
  refine jm_aload_n (x := P.1 + 60) rfl rfl (jM_at hl 0 rfl) ?_
  refine az_X_step (pc' := 12) (ls' := ls) (st' := [.int 0, .ref (P.1 + 60)]) (h' := h7) rfl rfl rfl ?_
  refine jn_pf (i := 60) (k := 22) (x := 0) rfl rfl hH7 (by decide) rfl (hH7.2 60 _ rfl).1 rfl rfl (by decide) (by decide) (by show 0 ≤ _; omega) (by show _ ≤ 240; omega) (fun h12 hH12 hs12 (t12 : ja h12 60 22 = (0 : Int32).toInt) => ?_)
  replace t12 : ja h12 60 22 = 0 := t12.trans (by decide)
  refine jm_aload_n (x := P.1 + 60) rfl rfl (jM_at hl 0 rfl) ?_
  refine az_X_step (pc' := 17) (ls' := ls) (st' := [.int 0, .ref (P.1 + 60)]) (h' := h12) rfl rfl rfl ?_
  refine jn_pf (i := 60) (k := 24) (x := 0) rfl rfl hH12 (by decide) rfl (hH12.2 60 _ rfl).1 rfl rfl (by decide) (by decide) (by show 0 ≤ _; omega) (by show _ ≤ 16; omega) (fun h17 hH17 hs17 (t17 : ja h17 60 24 = (0 : Int32).toInt) => ?_)
  replace t17 : ja h17 60 24 = 0 := t17.trans (by decide)
  refine jn_retv rfl rfl rfl ?_
  exact ⟨rfl, hH17, ((hs2.sub (by decide)).tr ((hs7.sub (by decide)).tr ((hs12.sub (by decide)).tr (hs17.sub (by decide))))), ((jso hs17 (by decide)).trans ((jso hs12 (by decide)).trans ((jso hs7 (by decide)).trans t2))), ((jso hs17 (by decide)).trans ((jso hs12 (by decide)).trans t7)), ((jso hs17 (by decide)).trans t12), t17⟩
theorem lk_2 {P : si_P} (hxa : P.2.1 < P.1) {d : Nat} {h0 : si_H} (a G : Int32) : ∀ (k j : Nat) (K : Int32) (h : si_H) (ls : si_L), jM [(3, .int K), (0, .ref (P.1 + 60)), (1, .int a), (2, .int G)] ls → az_HI P az_tb h → az_same_out [(78, 1000000), (79, 1000000), (80, 1000000), (81, 1000000), (82, 1000000)] h0 h → K.toInt = j → (j : Int) + k = ja h0 60 24 → az_X P d 261 123 ls [] h (fun rv h' => ∃ z : Int32, rv = some (.int z) ∧ az_HI P az_tb h' ∧ az_same_out [(78, 1000000), (79, 1000000), (80, 1000000), (81, 1000000), (82, 1000000)] h0 h' ∧ z.toInt = ja h0 60 24) := by
  intro k
  induction k with
  | zero =>
    intro j K h ls hl hH hs eK hj
    have b24 : 0 ≤ ja h 60 24 ∧ ja h 60 24 ≤ 16 := ja_bd hH (i := 60) (k := 24) rfl
    have s24 : ja h 60 24 = ja h0 60 24 := jso hs (by decide)
    refine jm_iload_n (x := K) rfl rfl (jM_at hl 0 rfl) ?_
    refine jm_aload_n (x := P.1 + 60) rfl rfl (jM_at hl 1 rfl) ?_
    refine jn_gf (i := 60) (k := 24) rfl rfl hH (by decide) (hH.2 60 _ rfl).1 rfl rfl (fun z125 (ez125 : z125.toInt = ja h 60 24) (bz125 : 0 ≤ z125.toInt ∧ z125.toInt ≤ 16) => ?_)
    refine jx_ic (t := 185) rfl rfl rfl (fun hc128 => ?_) (fun hc128 => ?_)
    · have g128 := jc2_ge_t hc128
      refine jm_aload_n (x := P.1 + 60) rfl rfl (jM_at hl 1 rfl) ?_
      refine jn_gf (i := 60) (k := 24) rfl rfl hH (by decide) (hH.2 60 _ rfl).1 rfl rfl (fun z186 (ez186 : z186.toInt = ja h 60 24) (bz186 : 0 ≤ z186.toInt ∧ z186.toInt ≤ 16) => ?_)
      refine jx_ret rfl rfl rfl ?_
      exact ⟨z186, rfl, hH, hs, by omega⟩
    · have g128 := jc2_ge_f hc128
      exfalso
      omega
  | succ k ih =>
    intro j K h ls hl hH hs eK hj
    have b24 : 0 ≤ ja h 60 24 ∧ ja h 60 24 ≤ 16 := ja_bd hH (i := 60) (k := 24) rfl
    have s24 : ja h 60 24 = ja h0 60 24 := jso hs (by decide)
    refine jm_iload_n (x := K) rfl rfl (jM_at hl 0 rfl) ?_
    refine jm_aload_n (x := P.1 + 60) rfl rfl (jM_at hl 1 rfl) ?_
    refine jn_gf (i := 60) (k := 24) rfl rfl hH (by decide) (hH.2 60 _ rfl).1 rfl rfl (fun z125 (ez125 : z125.toInt = ja h 60 24) (bz125 : 0 ≤ z125.toInt ∧ z125.toInt ≤ 16) => ?_)
    refine jx_ic (t := 185) rfl rfl rfl (fun hc128 => ?_) (fun hc128 => ?_)
    · have g128 := jc2_ge_t hc128
      exfalso
      omega
    · have g128 := jc2_ge_f hc128
      refine jm_aload_n (x := P.1 + 60) rfl rfl (jM_at hl 1 rfl) ?_
      refine jx_gf (i := 60) rfl rfl hH (by decide) (hH.2 60 _ rfl).1 rfl (jx_rf hH rfl rfl) ?_
      refine jm_iload_n (x := K) rfl rfl (jM_at hl 0 rfl) ?_
      refine jm_aload_n (x := P.1 + 60) rfl rfl (jM_at hl 1 rfl) ?_
      refine jx_gf (i := 60) rfl rfl hH (by decide) (hH.2 60 _ rfl).1 rfl (jx_rf hH rfl rfl) ?_
      refine jm_iload_n (x := K) rfl rfl (jM_at hl 0 rfl) ?_
      refine jx_ial (i := 74) (x := K) rfl rfl hxa hH (by decide) rfl (by omega) (by show _ < ((16 : Nat) : Int); omega) (fun z141 ez141 bz141 => ?_)
      refine jn_ias (i := 79) (x := K) (v := z141) rfl rfl hH (by decide) rfl (by omega) (by show _ < ((16 : Nat) : Int); omega) (Int32.le_toInt z141) (by show _ ≤ 2147483647; have := Int32.toInt_lt z141; omega) (fun h142 hH142 hs142 t142 u142 => ?_)
      refine jm_aload_n (x := P.1 + 60) rfl rfl (jM_at hl 1 rfl) ?_
      refine jx_gf (i := 60) rfl rfl hH142 (by decide) (hH142.2 60 _ rfl).1 rfl (jx_rf hH142 rfl rfl) ?_
      refine jm_iload_n (x := K) rfl rfl (jM_at hl 0 rfl) ?_
      refine jm_aload_n (x := P.1 + 60) rfl rfl (jM_at hl 1 rfl) ?_
      refine jx_gf (i := 60) rfl rfl hH142 (by decide) (hH142.2 60 _ rfl).1 rfl (jx_rf hH142 rfl rfl) ?_
      refine jm_iload_n (x := K) rfl rfl (jM_at hl 0 rfl) ?_
      refine jx_ial (i := 75) (x := K) rfl rfl hxa hH142 (by decide) rfl (by omega) (by show _ < ((16 : Nat) : Int); omega) (fun z153 ez153 bz153 => ?_)
      refine jn_ias (i := 80) (x := K) (v := z153) rfl rfl hH142 (by decide) rfl (by omega) (by show _ < ((16 : Nat) : Int); omega) (Int32.le_toInt z153) (by show _ ≤ 2147483647; have := Int32.toInt_lt z153; omega) (fun h154 hH154 hs154 t154 u154 => ?_)
      refine jm_aload_n (x := P.1 + 60) rfl rfl (jM_at hl 1 rfl) ?_
      refine jx_gf (i := 60) rfl rfl hH154 (by decide) (hH154.2 60 _ rfl).1 rfl (jx_rf hH154 rfl rfl) ?_
      refine jm_iload_n (x := K) rfl rfl (jM_at hl 0 rfl) ?_
      refine jm_aload_n (x := P.1 + 60) rfl rfl (jM_at hl 1 rfl) ?_
      refine jx_gf (i := 60) rfl rfl hH154 (by decide) (hH154.2 60 _ rfl).1 rfl (jx_rf hH154 rfl rfl) ?_
      refine jm_iload_n (x := K) rfl rfl (jM_at hl 0 rfl) ?_
      refine jx_ial (i := 76) (x := K) rfl rfl hxa hH154 (by decide) rfl (by omega) (by show _ < ((16 : Nat) : Int); omega) (fun z165 ez165 bz165 => ?_)
      refine jn_ias (i := 81) (x := K) (v := z165) rfl rfl hH154 (by decide) rfl (by omega) (by show _ < ((16 : Nat) : Int); omega) (Int32.le_toInt z165) (by show _ ≤ 2147483647; have := Int32.toInt_lt z165; omega) (fun h166 hH166 hs166 t166 u166 => ?_)
      refine jm_aload_n (x := P.1 + 60) rfl rfl (jM_at hl 1 rfl) ?_
      refine jx_gf (i := 60) rfl rfl hH166 (by decide) (hH166.2 60 _ rfl).1 rfl (jx_rf hH166 rfl rfl) ?_
      refine jm_iload_n (x := K) rfl rfl (jM_at hl 0 rfl) ?_
      refine jm_aload_n (x := P.1 + 60) rfl rfl (jM_at hl 1 rfl) ?_
      refine jx_gf (i := 60) rfl rfl hH166 (by decide) (hH166.2 60 _ rfl).1 rfl (jx_rf hH166 rfl rfl) ?_
      refine jm_iload_n (x := K) rfl rfl (jM_at hl 0 rfl) ?_
      refine jx_ial (i := 77) (x := K) rfl rfl hxa hH166 (by decide) rfl (by omega) (by show _ < ((16 : Nat) : Int); omega) (fun z177 ez177 bz177 => ?_)
      refine jn_ias (i := 82) (x := K) (v := z177) rfl rfl hH166 (by decide) rfl (by omega) (by show _ < ((16 : Nat) : Int); omega) (Int32.le_toInt z177) (by show _ ≤ 2147483647; have := Int32.toInt_lt z177; omega) (fun h178 hH178 hs178 t178 u178 => ?_)
      refine jn_iinc (x := K) rfl rfl (by decide) (jM_at hl 0 rfl) hl rfl (by decide) (by omega) (by omega) (fun z179 (ez179 : z179.toInt = K.toInt + 1) ls179 (hl179 : jM [(3, .int z179), (0, .ref (P.1 + 60)), (1, .int a), (2, .int G)] ls179) => ?_)
      refine az_X_step (pc' := 123) (ls' := ls179) (st' := []) (h' := h178) rfl rfl rfl ?_
      exact ih (j + 1) z179 h178 ls179 (jM_pick hl179 [0, 1, 2, 3] rfl) hH178 (hs.tr ((hs142.sub (by decide)).tr ((hs154.sub (by decide)).tr ((hs166.sub (by decide)).tr (hs178.sub (by decide)))))) (by omega) (by omega)
theorem lk_1 {P : si_P} (hxa : P.2.1 < P.1) {d : Nat} {h0 : si_H} (a G : Int32) : ∀ (k j : Nat) (K : Int32) (h : si_H) (ls : si_L), jM [(3, .int K), (0, .ref (P.1 + 60)), (1, .int a), (2, .int G)] ls → az_HI P az_tb h → az_same_out [(78, 1000000), (79, 1000000), (80, 1000000), (81, 1000000), (82, 1000000)] h0 h → K.toInt = j → (j : Int) + k = ja h0 60 22 → az_X P d 261 95 ls [] h (fun rv h' => ∃ z : Int32, rv = some (.int z) ∧ az_HI P az_tb h' ∧ az_same_out [(78, 1000000), (79, 1000000), (80, 1000000), (81, 1000000), (82, 1000000)] h0 h' ∧ z.toInt = ja h0 60 24) := by
  intro k
  induction k with
  | zero =>
    intro j K h ls hl hH hs eK hj
    have b22 : 0 ≤ ja h 60 22 ∧ ja h 60 22 ≤ 240 := ja_bd hH (i := 60) (k := 22) rfl
    have s22 : ja h 60 22 = ja h0 60 22 := jso hs (by decide)
    have b24 : 0 ≤ ja h 60 24 ∧ ja h 60 24 ≤ 16 := ja_bd hH (i := 60) (k := 24) rfl
    have k0 : (0 : Int32).toInt = 0 := by decide
    refine jm_iload_n (x := K) rfl rfl (jM_at hl 0 rfl) ?_
    refine jm_aload_n (x := P.1 + 60) rfl rfl (jM_at hl 1 rfl) ?_
    refine jn_gf (i := 60) (k := 22) rfl rfl hH (by decide) (hH.2 60 _ rfl).1 rfl rfl (fun z97 (ez97 : z97.toInt = ja h 60 22) (bz97 : 0 ≤ z97.toInt ∧ z97.toInt ≤ 240) => ?_)
    refine jx_ic (t := 121) rfl rfl rfl (fun hc100 => ?_) (fun hc100 => ?_)
    · have g100 := jc2_ge_t hc100
      refine az_X_step (pc' := 122) (ls' := ls) (st' := [.int 0]) (h' := h) rfl rfl rfl ?_
      refine jm_istore_n (l' := [(3, .int 0), (0, .ref (P.1 + 60)), (1, .int a), (2, .int G)]) rfl rfl (by decide) hl rfl rfl (fun ls122 hl122 => ?_)
      refine (lk_2 (d := d) hxa (h0 := h) a G (ja h 60 24).toNat 0 0 h ls122 (jM_pick hl122 [0, 1, 2, 3] rfl) hH az_same_out.rf (by decide) (by omega)).mono ?_
      rintro rv h9 ⟨z, a1, a2, a3, a4⟩
      exact ⟨z, a1, a2, hs.tr a3, a4.trans (jso hs (by decide))⟩
    · have g100 := jc2_ge_f hc100
      exfalso
      omega
  | succ k ih =>
    intro j K h ls hl hH hs eK hj
    have b22 : 0 ≤ ja h 60 22 ∧ ja h 60 22 ≤ 240 := ja_bd hH (i := 60) (k := 22) rfl
    have s22 : ja h 60 22 = ja h0 60 22 := jso hs (by decide)
    have b24 : 0 ≤ ja h 60 24 ∧ ja h 60 24 ≤ 16 := ja_bd hH (i := 60) (k := 24) rfl
    refine jm_iload_n (x := K) rfl rfl (jM_at hl 0 rfl) ?_
    refine jm_aload_n (x := P.1 + 60) rfl rfl (jM_at hl 1 rfl) ?_
    refine jn_gf (i := 60) (k := 22) rfl rfl hH (by decide) (hH.2 60 _ rfl).1 rfl rfl (fun z97 (ez97 : z97.toInt = ja h 60 22) (bz97 : 0 ≤ z97.toInt ∧ z97.toInt ≤ 240) => ?_)
    refine jx_ic (t := 121) rfl rfl rfl (fun hc100 => ?_) (fun hc100 => ?_)
    · have g100 := jc2_ge_t hc100
      exfalso
      omega
    · have g100 := jc2_ge_f hc100
      refine jm_aload_n (x := P.1 + 60) rfl rfl (jM_at hl 1 rfl) ?_
      refine jx_gf (i := 60) rfl rfl hH (by decide) (hH.2 60 _ rfl).1 rfl (jx_rf hH rfl rfl) ?_
      refine jm_iload_n (x := K) rfl rfl (jM_at hl 0 rfl) ?_
      refine jm_aload_n (x := P.1 + 60) rfl rfl (jM_at hl 1 rfl) ?_
      refine jx_gf (i := 60) rfl rfl hH (by decide) (hH.2 60 _ rfl).1 rfl (jx_rf hH rfl rfl) ?_
      refine jm_iload_n (x := K) rfl rfl (jM_at hl 0 rfl) ?_
      refine jx_ial (i := 72) (x := K) rfl rfl hxa hH (by decide) rfl (by omega) (by show _ < ((260 : Nat) : Int); omega) (fun z113 ez113 bz113 => ?_)
      refine jn_ias (i := 78) (x := K) (v := z113) rfl rfl hH (by decide) rfl (by omega) (by show _ < ((260 : Nat) : Int); omega) (Int32.le_toInt z113) (by show _ ≤ 2147483647; have := Int32.toInt_lt z113; omega) (fun h114 hH114 hs114 t114 u114 => ?_)
      refine jn_iinc (x := K) rfl rfl (by decide) (jM_at hl 0 rfl) hl rfl (by decide) (by omega) (by omega) (fun z115 (ez115 : z115.toInt = K.toInt + 1) ls115 (hl115 : jM [(3, .int z115), (0, .ref (P.1 + 60)), (1, .int a), (2, .int G)] ls115) => ?_)
      refine az_X_step (pc' := 95) (ls' := ls115) (st' := []) (h' := h114) rfl rfl rfl ?_
      exact ih (j + 1) z115 h114 ls115 (jM_pick hl115 [0, 1, 2, 3] rfl) hH114 (hs.tr (hs114.sub (by decide))) (by omega) (by omega)
theorem lg_l {P : si_P} (hxa : P.2.1 < P.1) {d : Nat} {hh : Int → Int} {n : Int} (hn : 1 ≤ n ∧ n ≤ 240) (hh1 : ∀ i : Int, hh i ≤ 255) {h0 : si_H} (a : Int32) : ∀ (m : Nat) (G : Int32) (h : si_H) (ls : si_L), jM [(2, .int G), (0, .ref (P.1 + 60)), (1, .int a)] ls → az_HI P az_tb h → az_same_out [(60, 17), (60, 19), (60, 20), (60, 21), (60, 22), (60, 23), (60, 24), (72, 1000000), (73, 1000000), (74, 1000000), (75, 1000000), (76, 1000000), (77, 1000000)] h0 h → ((G.toInt = 1 ∧ ∃ (c : Nat) (p i : Int), jRU hh n h p c i ∧ n - p < m ∧ pyL hh n (0, 0, 0, 0, [], 0) (7, 0, 0, p, [], i)) ∨ (G.toInt = 0 ∧ ja h 60 19 ≠ 0 ∧ pyR hh n (0, 0, 0, 0, [], 0) (ja h 60 19))) → az_X P (d + 11) 261 31 ls [] h (fun rv h' => ∃ z : Int32, rv = some (.int z) ∧ az_HI P az_tb h' ∧ az_same_out [(60, 17), (60, 19), (60, 20), (60, 21), (60, 22), (60, 23), (60, 24), (72, 1000000), (73, 1000000), (74, 1000000), (75, 1000000), (76, 1000000), (77, 1000000), (60, 16), (60, 25), (78, 1000000), (79, 1000000), (80, 1000000), (81, 1000000), (82, 1000000)] h0 h' ∧ ja h' 60 16 = 0 ∧ pyR hh n (0, 0, 0, 0, [], 0) z.toInt) := by
  intro m
  induction m with
  | zero =>
    intro G h ls hl hH hs st
    rcases st with ⟨s1, c, p, i, ru, sm, sL⟩ | ⟨s1, s2, s3⟩
    · have := ru.2.2.2.2.2.1
      omega
    · have k0 : (0 : Int32).toInt = 0 := by decide
      refine jm_iload_n (x := G) rfl rfl (jM_at hl 0 rfl) ?_
      refine jx_if (t := 71) rfl rfl rfl (fun hc32 => ?_) (fun hc32 => ?_)
      · have g32 := jc1_eq_t hc32
        refine jm_aload_n (x := P.1 + 60) rfl rfl (jM_at hl 1 rfl) ?_
        refine az_X_step (pc' := 73) (ls' := ls) (st' := [.int 0, .ref (P.1 + 60)]) (h' := h) rfl rfl rfl ?_
        refine jn_pf (i := 60) (k := 16) (x := 0) rfl rfl hH (by decide) rfl (hH.2 60 _ rfl).1 rfl rfl (by decide) (by decide) (by show 0 ≤ _; omega) (by show _ ≤ 260; omega) (fun h73 hH73 hs73 (t73 : ja h73 60 16 = (0 : Int32).toInt) => ?_)
        replace t73 : ja h73 60 16 = 0 := t73.trans (by decide)
        refine jm_iload_n (x := G) rfl rfl (jM_at hl 0 rfl) ?_
        refine jx_if (t := 85) rfl rfl rfl (fun hc77 => ?_) (fun hc77 => ?_)
        · have g77 := jc1_ne_t hc77
          exfalso
          omega
        · have g77 := jc1_ne_f hc77
          refine jm_aload_n (x := P.1 + 60) rfl rfl (jM_at hl 1 rfl) ?_
          refine jn_gf (i := 60) (k := 19) rfl rfl hH73 (by decide) (hH73.2 60 _ rfl).1 rfl rfl (fun z81 (ez81 : z81.toInt = ja h73 60 19) (bz81 : (-2147483648) ≤ z81.toInt ∧ z81.toInt ≤ 2147483647) => ?_)
          replace ez81 : z81.toInt = ja h 60 19 := ez81.trans (jso hs73 (by decide))
          refine jx_ret rfl rfl rfl ?_
          refine ⟨z81, rfl, hH73, (hs.sub (by decide)).tr (hs73.sub (by decide)), t73, ?_⟩
          rw [ez81]
          exact s3
      · have g32 := jc1_eq_f hc32
        exfalso
        omega
  | succ m ih =>
    intro G h ls hl hH hs st
    rcases st with ⟨s1, c, p, i, ru, sm, sL⟩ | ⟨s1, s2, s3⟩
    · obtain ⟨r8, r7, r2, r4, rc, rp, ri, rC, rB⟩ := ru
      have ru0 : jRU hh n h p c i := ⟨r8, r7, r2, r4, rc, rp, ri, rC, rB⟩
      have bp : 0 ≤ ja h 60 17 ∧ ja h 60 17 ≤ 240 := ja_bd hH (i := 60) (k := 17) rfl
      have k0 : (0 : Int32).toInt = 0 := by decide
      have k1 : (1 : Int32).toInt = 1 := by decide
      have k59 : (59 : Int32).toInt = 59 := by decide
      refine jm_iload_n (x := G) rfl rfl (jM_at hl 0 rfl) ?_
      refine jx_if (t := 71) rfl rfl rfl (fun hc32 => ?_) (fun hc32 => ?_)
      · have g32 := jc1_eq_t hc32
        exfalso
        omega
      · have g32 := jc1_eq_f hc32
        refine jm_aload_n (x := P.1 + 60) rfl rfl (jM_at hl 1 rfl) ?_
        refine jn_gf (i := 60) (k := 17) rfl rfl hH (by decide) (hH.2 60 _ rfl).1 rfl rfl (fun z36 (ez36 : z36.toInt = ja h 60 17) (bz36 : 0 ≤ z36.toInt ∧ z36.toInt ≤ 240) => ?_)
        refine jm_aload_n (x := P.1 + 60) rfl rfl (jM_at hl 1 rfl) ?_
        refine jn_gf (i := 60) (k := 18) rfl rfl hH (by decide) (hH.2 60 _ rfl).1 rfl rfl (fun z40 (ez40 : z40.toInt = ja h 60 18) (bz40 : 0 ≤ z40.toInt ∧ z40.toInt ≤ 240) => ?_)
        refine jx_ic (t := 71) rfl rfl rfl (fun hc43 => ?_) (fun hc43 => ?_)
        · have g43 := jc2_ge_t hc43
          refine jm_aload_n (x := P.1 + 60) rfl rfl (jM_at hl 1 rfl) ?_
          refine az_X_step (pc' := 73) (ls' := ls) (st' := [.int 0, .ref (P.1 + 60)]) (h' := h) rfl rfl rfl ?_
          refine jn_pf (i := 60) (k := 16) (x := 0) rfl rfl hH (by decide) rfl (hH.2 60 _ rfl).1 rfl rfl (by decide) (by decide) (by show 0 ≤ _; omega) (by show _ ≤ 260; omega) (fun h73 hH73 hs73 (t73 : ja h73 60 16 = (0 : Int32).toInt) => ?_)
          replace t73 : ja h73 60 16 = 0 := t73.trans (by decide)
          refine jm_iload_n (x := G) rfl rfl (jM_at hl 0 rfl) ?_
          refine jx_if (t := 85) rfl rfl rfl (fun hc77 => ?_) (fun hc77 => ?_)
          · have g77 := jc1_ne_t hc77
            refine jm_aload_n (x := P.1 + 60) rfl rfl (jM_at hl 1 rfl) ?_
            refine jm_aload_n (x := P.1 + 60) rfl rfl (jM_at hl 1 rfl) ?_
            refine jn_gf (i := 60) (k := 24) rfl rfl hH73 (by decide) (hH73.2 60 _ rfl).1 rfl rfl (fun z87 (ez87 : z87.toInt = ja h73 60 24) (bz87 : 0 ≤ z87.toInt ∧ z87.toInt ≤ 16) => ?_)
            replace ez87 : z87.toInt = ja h 60 24 := ez87.trans (jso hs73 (by decide))
            refine jn_pf (i := 60) (k := 25) (x := z87) rfl rfl hH73 (by decide) rfl (hH73.2 60 _ rfl).1 rfl rfl (by decide) (by decide) (by show 0 ≤ _; omega) (by show _ ≤ 16; omega) (fun h90 hH90 hs90 (t90 : ja h90 60 25 = z87.toInt) => ?_)
            refine az_X_step (pc' := 94) (ls' := ls) (st' := [.int 0]) (h' := h90) rfl rfl rfl ?_
            refine jm_istore_n (l' := [(3, .int 0), (2, .int G), (0, .ref (P.1 + 60)), (1, .int a)]) rfl rfl (by decide) hl rfl rfl (fun ls94 hl94 => ?_)
            refine (lk_1 (d := d + 11) hxa (h0 := h90) a G (ja h90 60 22).toNat 0 0 h90 ls94 (jM_pick hl94 [0, 2, 3, 1] rfl) hH90 az_same_out.rf (by decide) (by have b : 0 ≤ ja h90 60 22 ∧ ja h90 60 22 ≤ 240 := ja_bd hH90 (i := 60) (k := 22) rfl; omega)).mono ?_
            rintro rv h9 ⟨z, a1, a2, a3, a4⟩
            refine ⟨z, a1, a2, ((hs.sub (by decide)).tr ((hs73.sub (by decide)).tr (hs90.sub (by decide)))).tr (a3.sub (by decide)), (jso a3 (by decide)).trans ((jso hs90 (by decide)).trans t73), ?_⟩
            rw [a4, (jso hs90 (by decide) : ja h90 60 24 = ja h73 60 24), (jso hs73 (by decide) : ja h73 60 24 = ja h 60 24), r4]
            exact sL _ (ru_end (by omega))
          · have g77 := jc1_ne_f hc77
            exfalso
            omega
        · have g43 := jc2_ge_f hc43
          refine jm_aload_n (x := P.1 + 60) rfl rfl (jM_at hl 1 rfl) ?_
          refine az_X_step (pc' := 49) (ls' := ls) (st' := [.int 59, .ref (P.1 + 60)]) (h' := h) rfl rfl rfl ?_
          refine az_X_call (m' := 243) (as := [.ref (P.1 + 60), .int 59]) (rest := []) rfl rfl rfl rfl rfl ?_ ?_
          · unfold si_call
            dsimp only
            rw [if_pos ⟨rfl, rfl⟩]
            show (match si_ix P h (P.1 + 60) with | some i => _ | none => none) = _
            rw [jix hH (by decide)]
            dsimp only
            rw [(hH.2 60 _ rfl).1]
            rfl
          refine (rt_ok hH hn r8 r7 rB 59 (by decide)).mono ?_
          rintro rv49 h49 ⟨z49, rfl, hH49, hs49, f49⟩
          show az_X P _ 261 52 ls [.int z49] _ _
          refine jx_if (t := 66) rfl rfl rfl (fun hc52 => ?_) (fun hc52 => ?_)
          · have g52 := jc1_eq_t hc52
            refine az_X_step (pc' := 67) (ls' := ls) (st' := [.int 0]) (h' := h49) rfl rfl rfl ?_
            refine jm_istore_n (l' := [(2, .int 0), (0, .ref (P.1 + 60)), (1, .int a)]) rfl rfl (by decide) hl rfl rfl (fun ls67 hl67 => ?_)
            refine az_X_step (pc' := 31) (ls' := ls67) (st' := []) (h' := h49) rfl rfl rfl ?_
            rcases f49 with ⟨-, a1, -⟩ | ⟨a1, -, a3⟩
            · omega
            · refine ih 0 h49 ls67 (jM_pick hl67 [0, 1, 2] rfl) hH49 (hs.tr (hs49.sub (by decide))) (Or.inr ⟨by decide, by omega, ?_⟩)
              rw [a3]
              exact sL _ (ru_bad (by omega) (by rw [k59] at a1; exact a1))
          · have g52 := jc1_eq_f hc52
            have ru49 : jRU hh n h49 (p + 1) c i ∧ hh p = 59 := by
              rcases f49 with ⟨a1, -, a3⟩ | ⟨-, a2, -⟩
              · rw [k59] at a1
                have := jBR_lt rB (p := p) (by omega)
                exact ⟨⟨(jso hs49 (by decide)).trans r8, a3, (jso hs49 (by decide)).trans r2, (jso hs49 (by decide)).trans r4, by omega, by omega, ri, fun k hk => by rw [jso_row (i := 72) hs49 (by decide)]; exact rC k hk, jBR_so hs49 (by decide) rB⟩, a1⟩
              · omega
            have h59 := ru49.2
            refine jm_aload_n (x := P.1 + 60) rfl rfl (jM_at hl 1 rfl) ?_
            refine az_X_call (m' := 259) (as := [.ref (P.1 + 60)]) (rest := []) rfl rfl rfl rfl rfl ?_ ?_
            · unfold si_call
              dsimp only
              rw [if_pos ⟨rfl, rfl⟩]
              show (match si_ix P h49 (P.1 + 60) with | some i => _ | none => none) = _
              rw [jix hH49 (by decide)]
              dsimp only
              rw [(hH49.2 60 _ rfl).1]
              rfl
            refine (rl_ok (d := d) hxa hn hh1 hH49 ru49.1).mono ?_
            rintro rv56 h56 ⟨z56, rfl, hH56, hs56, f56⟩
            show az_X P _ 261 59 ls [.int z56] _ _
            refine jx_if (t := 66) rfl rfl rfl (fun hc59 => ?_) (fun hc59 => ?_)
            · have g59 := jc1_eq_t hc59
              refine az_X_step (pc' := 67) (ls' := ls) (st' := [.int 0]) (h' := h56) rfl rfl rfl ?_
              refine jm_istore_n (l' := [(2, .int 0), (0, .ref (P.1 + 60)), (1, .int a)]) rfl rfl (by decide) hl rfl rfl (fun ls67 hl67 => ?_)
              refine az_X_step (pc' := 31) (ls' := ls67) (st' := []) (h' := h56) rfl rfl rfl ?_
              rcases f56 with ⟨a1, -⟩ | ⟨-, a2, a3⟩
              · omega
              · exact ih 0 h56 ls67 (jM_pick hl67 [0, 1, 2] rfl) hH56 (hs.tr ((hs49.sub (by decide)).tr (hs56.sub (by decide)))) (Or.inr ⟨by decide, a2, sL _ ((ru_next rB.2 h59) _ a3)⟩)
            · have g59 := jc1_eq_f hc59
              refine az_X_step (pc' := 63) (ls' := ls) (st' := [.int 1]) (h' := h56) rfl rfl rfl ?_
              refine az_X_step (pc' := 67) (ls' := ls) (st' := [.int 1]) (h' := h56) rfl rfl rfl ?_
              refine jm_istore_n (l' := [(2, .int 1), (0, .ref (P.1 + 60)), (1, .int a)]) rfl rfl (by decide) hl rfl rfl (fun ls67 hl67 => ?_)
              refine az_X_step (pc' := 31) (ls' := ls67) (st' := []) (h' := h56) rfl rfl rfl ?_
              rcases f56 with ⟨-, c2, p2, a1, a2, a3⟩ | ⟨a1, -⟩
              · exact ih 1 h56 ls67 (jM_pick hl67 [0, 1, 2] rfl) hH56 (hs.tr ((hs49.sub (by decide)).tr (hs56.sub (by decide)))) (Or.inl ⟨by decide, c2, p2, i + 1, a1, by omega, sL.tr ((ru_next rB.2 h59).tr a3)⟩)
              · omega
    · have k0 : (0 : Int32).toInt = 0 := by decide
      refine jm_iload_n (x := G) rfl rfl (jM_at hl 0 rfl) ?_
      refine jx_if (t := 71) rfl rfl rfl (fun hc32 => ?_) (fun hc32 => ?_)
      · have g32 := jc1_eq_t hc32
        refine jm_aload_n (x := P.1 + 60) rfl rfl (jM_at hl 1 rfl) ?_
        refine az_X_step (pc' := 73) (ls' := ls) (st' := [.int 0, .ref (P.1 + 60)]) (h' := h) rfl rfl rfl ?_
        refine jn_pf (i := 60) (k := 16) (x := 0) rfl rfl hH (by decide) rfl (hH.2 60 _ rfl).1 rfl rfl (by decide) (by decide) (by show 0 ≤ _; omega) (by show _ ≤ 260; omega) (fun h73 hH73 hs73 (t73 : ja h73 60 16 = (0 : Int32).toInt) => ?_)
        replace t73 : ja h73 60 16 = 0 := t73.trans (by decide)
        refine jm_iload_n (x := G) rfl rfl (jM_at hl 0 rfl) ?_
        refine jx_if (t := 85) rfl rfl rfl (fun hc77 => ?_) (fun hc77 => ?_)
        · have g77 := jc1_ne_t hc77
          exfalso
          omega
        · have g77 := jc1_ne_f hc77
          refine jm_aload_n (x := P.1 + 60) rfl rfl (jM_at hl 1 rfl) ?_
          refine jn_gf (i := 60) (k := 19) rfl rfl hH73 (by decide) (hH73.2 60 _ rfl).1 rfl rfl (fun z81 (ez81 : z81.toInt = ja h73 60 19) (bz81 : (-2147483648) ≤ z81.toInt ∧ z81.toInt ≤ 2147483647) => ?_)
          replace ez81 : z81.toInt = ja h 60 19 := ez81.trans (jso hs73 (by decide))
          refine jx_ret rfl rfl rfl ?_
          refine ⟨z81, rfl, hH73, (hs.sub (by decide)).tr (hs73.sub (by decide)), t73, ?_⟩
          rw [ez81]
          exact s3
      · have g32 := jc1_eq_f hc32
        exfalso
        omega
theorem law1_ok {P : si_P} (hxa : P.2.1 < P.1) {d : Nat} {h : si_H} (hH : az_HI P az_tb h) (a : Int32) : az_X P (d + 11) 261 0 (lv_args 0 [.ref (P.1 + 60), .int a]) [] h (fun rv h' => ∃ z : Int32, rv = some (.int z) ∧ az_HI P az_tb h' ∧ az_same_out [(60, 17), (60, 19), (60, 20), (60, 21), (60, 22), (60, 23), (60, 24), (72, 1000000), (73, 1000000), (74, 1000000), (75, 1000000), (76, 1000000), (77, 1000000), (60, 16), (60, 25), (78, 1000000), (79, 1000000), (80, 1000000), (81, 1000000), (82, 1000000), (60, 18)] h h' ∧ (((1 ≤ a.toInt ∧ a.toInt ≤ 240 ∧ a.toInt ≤ ja h 60 16) ∧ ja h' 60 16 = 0 ∧ pyR (fun i => if 0 ≤ i ∧ i < a.toInt then ja h 71 i % 256 else -1) a.toInt (0, 0, 0, 0, [], 0) z.toInt) ∨ (¬ (1 ≤ a.toInt ∧ a.toInt ≤ 240 ∧ a.toInt ≤ ja h 60 16) ∧ ja h' 60 16 = ja h 60 16 ∧ z.toInt = -1))) := by
  have hl : jM [(0, .ref (P.1 + 60)), (1, .int a)] (lv_args 0 [.ref (P.1 + 60), .int a]) := jM_args [0, 1] rfl (by decide)
  generalize lv_args 0 [.ref (P.1 + 60), .int a] = ls at hl
  have km1 : ((-1) : Int32).toInt = (-1) := by decide
  have k0 : (0 : Int32).toInt = 0 := by decide
  have k1 : (1 : Int32).toInt = 1 := by decide
  have k240 : (240 : Int32).toInt = 240 := by decide
  refine jm_iload_n (x := a) rfl rfl (jM_at hl 1 rfl) ?_
  refine az_X_step (pc' := 2) (ls' := ls) (st' := [.int 1, .int a]) (h' := h) rfl rfl rfl ?_
  refine az_X_step (pc' := 5) (ls' := ls) (st' := [.int 240, .int 1, .int a]) (h' := h) rfl rfl rfl ?_
  refine az_X_call (m' := 202) (as := [.int a, .int 1, .int 240]) (rest := []) rfl rfl rfl rfl rfl rfl ?_
  refine (rin_ok a 1 240).mono ?_
  rintro rv5 h5 ⟨q5, z5, rfl, ez5⟩
  subst h5
  show az_X P _ 261 8 ls [.int z5] _ _
  refine jx_if (t := 19) rfl rfl rfl (fun hc8 => ?_) (fun hc8 => ?_)
  · have g8 := jc1_eq_t hc8
    refine az_X_step (pc' := 20) (ls' := ls) (st' := [.int (-1)]) (h' := h) rfl rfl rfl ?_
    refine jx_ret rfl rfl rfl ?_
    exact ⟨(-1), rfl, hH, az_same_out.rf, Or.inr ⟨by omega, rfl, by decide⟩⟩
  · have g8 := jc1_eq_f hc8
    refine jm_iload_n (x := a) rfl rfl (jM_at hl 1 rfl) ?_
    refine jm_aload_n (x := P.1 + 60) rfl rfl (jM_at hl 0 rfl) ?_
    refine jn_gf (i := 60) (k := 16) rfl rfl hH (by decide) (hH.2 60 _ rfl).1 rfl rfl (fun z13 (ez13 : z13.toInt = ja h 60 16) (bz13 : 0 ≤ z13.toInt ∧ z13.toInt ≤ 260) => ?_)
    refine jx_ic (t := 21) rfl rfl rfl (fun hc16 => ?_) (fun hc16 => ?_)
    · have g16 := jc2_le_t hc16
      refine jm_aload_n (x := P.1 + 60) rfl rfl (jM_at hl 0 rfl) ?_
      refine jm_iload_n (x := a) rfl rfl (jM_at hl 1 rfl) ?_
      refine az_X_call (m' := 260) (as := [.ref (P.1 + 60), .int a]) (rest := []) rfl rfl rfl rfl rfl ?_ ?_
      · unfold si_call
        dsimp only
        rw [if_pos ⟨rfl, rfl⟩]
        show (match si_ix P h (P.1 + 60) with | some i => _ | none => none) = _
        rw [jix hH (by decide)]
        dsimp only
        rw [(hH.2 60 _ rfl).1]
        rfl
      refine (bt_ok hH a (by omega)).mono ?_
      rintro rv23 h23 ⟨rfl, hH23, hs23, f23⟩
      show az_X P _ 261 26 ls [] _ _
      have b23 : jBR h23 a.toInt (fun i => if 0 ≤ i ∧ i < a.toInt then ja h 71 i % 256 else -1) := ⟨fun i i0 i1 => by rw [jso_row (i := 71) hs23 (by decide)]; show ja h 71 i % 256 = if 0 ≤ i ∧ i < a.toInt then ja h 71 i % 256 else -1; rw [if_pos ⟨i0, i1⟩], fun i i0 => if_neg (by omega)⟩
      have hh1 : ∀ i : Int, (fun i => if 0 ≤ i ∧ i < a.toInt then ja h 71 i % 256 else -1) i ≤ 255 := fun i => by
        show (if 0 ≤ i ∧ i < a.toInt then ja h 71 i % 256 else -1) ≤ 255
        split <;> omega
      have ru : jRU (fun i => if 0 ≤ i ∧ i < a.toInt then ja h 71 i % 256 else -1) a.toInt h23 0 0 0 := ⟨f23.2.1, f23.1, f23.2.2.1, f23.2.2.2, by show ((0 : Nat) : Int) ≤ 0; omega, by omega, by omega, fun k hk => absurd hk (by omega), b23⟩
      refine jm_aload_n (x := P.1 + 60) rfl rfl (jM_at hl 0 rfl) ?_
      refine az_X_call (m' := 259) (as := [.ref (P.1 + 60)]) (rest := []) rfl rfl rfl rfl rfl ?_ ?_
      · unfold si_call
        dsimp only
        rw [if_pos ⟨rfl, rfl⟩]
        show (match si_ix P h23 (P.1 + 60) with | some i => _ | none => none) = _
        rw [jix hH23 (by decide)]
        dsimp only
        rw [(hH23.2 60 _ rfl).1]
        rfl
      refine (rl_ok (d := d) hxa (n := a.toInt) (hh := (fun i => if 0 ≤ i ∧ i < a.toInt then ja h 71 i % 256 else -1)) (by omega) hh1 hH23 ru).mono ?_
      rintro rv27 h27 ⟨z27, rfl, hH27, hs27, f27⟩
      show az_X P _ 261 30 ls [.int z27] _ _
      refine jm_istore_n (l' := [(2, .int z27), (0, .ref (P.1 + 60)), (1, .int a)]) rfl rfl (by decide) hl rfl rfl (fun ls30 hl30 => ?_)
      refine (lg_l (d := d) hxa (n := a.toInt) (hh := (fun i => if 0 ≤ i ∧ i < a.toInt then ja h 71 i % 256 else -1)) (by omega) hh1 (h0 := h23) a (a.toInt + 1).toNat z27 h27 ls30 (jM_pick hl30 [0, 1, 2] rfl) hH27 hs27 ?_).mono ?_
      · rcases f27 with ⟨a1, c2, p2, a2, a3, a4⟩ | ⟨a1, a2, a3⟩
        · exact Or.inl ⟨a1, c2, p2, 0 + 1, a2, by omega, a4⟩
        · exact Or.inr ⟨a1, a2, a3⟩
      · rintro rv h9 ⟨z, a1, a2, a3, a4, a5⟩
        exact ⟨z, a1, a2, (hs23.sub (by decide)).tr (a3.sub (by decide)), Or.inl ⟨by omega, a4, a5⟩⟩
    · have g16 := jc2_le_f hc16
      refine az_X_step (pc' := 20) (ls' := ls) (st' := [.int (-1)]) (h' := h) rfl rfl rfl ?_
      refine jx_ret rfl rfl rfl ?_
      exact ⟨(-1), rfl, hH, az_same_out.rf, Or.inr ⟨by omega, rfl, by decide⟩⟩
