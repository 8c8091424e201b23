set_option maxRecDepth 100000
/-! the reference's lists of times -/
def jrt (h : si_H) (i c : Nat) : Nat := (ja h 96 (16 * (i : Int) + c)).toNat
/-- one list: those of the first so many times that look so -/
def jRL (h : si_H) (i : Nat) (p : Nat → Bool) (y : Nat) : Prop := (0 ≤ ja h 97 i ∧ ja h 97 i ≤ 12) ∧ (∀ c : Nat, (c : Int) < ja h 97 i → ja h 96 (16 * (i : Int) + c) = jrt h i c ∧ jrt h i c < y ∧ p (jrt h i c) = true) ∧ ∀ g : Nat → Int, jsu (fun c => g (jrt h i c)) (ja h 97 i).toNat = jsu (fun t => if p t = true then g t else 0) y
theorem jrt_cg {h h' : si_H} {i c : Nat} (e : ja h' 96 (16 * (i : Int) + c) = ja h 96 (16 * (i : Int) + c)) : jrt h' i c = jrt h i c := by
  unfold jrt
  rw [e]
theorem jRL_cg {h h' : si_H} {i : Nat} {p : Nat → Bool} {y : Nat} (e7 : ja h' 97 i = ja h 97 i) (e6 : ∀ c : Nat, c < 12 → ja h' 96 (16 * (i : Int) + c) = ja h 96 (16 * (i : Int) + c)) (q : jRL h i p y) : jRL h' i p y := by
  obtain ⟨a1, a2, a3⟩ := q
  refine ⟨by rw [e7]; exact a1, fun c hc => ?_, fun g => ?_⟩
  · rw [e7] at hc
    rw [e6 c (by omega), jrt_cg (e6 c (by omega))]
    exact a2 c hc
  · rw [e7, ← a3 g]
    refine jsu_cg (fun c hc => ?_)
    rw [jrt_cg (e6 c (by omega))]
def jRT (h : si_H) (n Y : Nat) (A : Nat → Nat → Bool) : Prop := ∀ i : Nat, i < n → jRL h i (A i) Y
theorem jRT_so {md : List (Nat × Nat)} {h h' : si_H} {n Y : Nat} {A : Nat → Nat → Bool} (hs : az_same_out md h h') (h6 : md.all (fun x => decide (x.1 ≠ 96)) = true) (h7 : md.all (fun x => decide (x.1 ≠ 97)) = true) (q : jRT h n Y A) : jRT h' n Y A := fun i hi => jRL_cg (jso_row hs h7 _) (fun c _ => jso_row hs h6 _) (q i hi)
theorem jrt_so {md : List (Nat × Nat)} {h h' : si_H} (hs : az_same_out md h h') (h6 : md.all (fun x => decide (x.1 ≠ 96)) = true) (i c : Nat) : jrt h' i c = jrt h i c := jrt_cg (jso_row hs h6 _)
/-- one time more, that doesn't look so -/
theorem jRL_no {h : si_H} {i y : Nat} {p : Nat → Bool} (hp : ¬ p y = true) (q : jRL h i p y) : jRL h i p (y + 1) := by
  obtain ⟨a1, a2, a3⟩ := q
  refine ⟨a1, fun c hc => ?_, fun g => ?_⟩
  · have := a2 c hc
    exact ⟨this.1, by omega, this.2.2⟩
  · rw [a3 g, jsu_s, if_neg hp, Int.add_zero]
theorem jRL_yes {h h' : si_H} {i y k : Nat} {p : Nat → Bool} (hp : p y = true) (q : jRL h i p y) (hk : ja h 97 i = k) (h12 : k < 12) (e7 : ja h' 97 i = (k : Int) + 1) (e6 : ∀ c : Nat, c < k → ja h' 96 (16 * (i : Int) + c) = ja h 96 (16 * (i : Int) + c)) (en : ja h' 96 (16 * (i : Int) + k) = y) : jRL h' i p (y + 1) := by
  obtain ⟨a1, a2, a3⟩ := q
  have ek : jrt h' i k = y := by
    unfold jrt
    rw [en]
    exact Int.toNat_natCast y
  refine ⟨by omega, fun c hc => ?_, fun g => ?_⟩
  · by_cases e : c = k
    · subst e
      rw [ek, en]
      exact ⟨rfl, by omega, hp⟩
    · have := a2 c (by omega)
      rw [e6 c (by omega), jrt_cg (e6 c (by omega))]
      exact ⟨this.1, by omega, this.2.2⟩
  · have b := a3 g
    rw [hk, Int.toNat_natCast] at b
    rw [e7, show ((k : Int) + 1).toNat = k + 1 by omega, jsu_s, jsu_s, ek, if_pos hp, ← b]
    have e : jsu (fun c => g (jrt h' i c)) k = jsu (fun c => g (jrt h i c)) k := jsu_cg (fun c hc => by rw [jrt_cg (e6 c hc)])
    rw [e]
theorem jRL_12 {h : si_H} {i y Y : Nat} {p : Nat → Bool} (hY : jsu (fun t => if p t = true then 1 else 0) Y ≤ 12) (q : jRL h i p y) (hy : y < Y) (hp : p y = true) : ja h 97 i < 12 := by
  have e := q.2.2 (fun _ => 1)
  rw [jsu_ones] at e
  have m := jsu_mono (g := fun t => if p t = true then (1 : Int) else 0) (fun t => by split <;> omega) (j := y + 1) (k := Y) (by omega)
  rw [jsu_s, if_pos hp] at m
  have := q.1.1
  omega
theorem lt_l {P : si_P} (hxa : P.2.1 < P.1) {d : Nat} {h0 : si_H} {m r : Int} {Y n : Nat} {B : Nat → Int} {a b : Int} (rx : jRX h0 m r Y n B a b) (hA12 : ∀ i : Nat, jsu (fun t => if jpA m r n B i t = true then 1 else 0) Y ≤ 12) (hn6 : n ≤ 6) (N p : Int32) {i : Nat} (hi : i < n) (ep : p.toInt = i) {Q : Option Value → si_H → Prop} (cont : ∀ (h : si_H) (ls : si_L), jM [(2, .int p), (0, .ref (P.1 + 60)), (1, .int N)] ls → az_HI P az_tb h → az_same_out [(96, 1000000), (97, 1000000)] h0 h → jRL h i (jpA m r n B i) Y → (∀ x : Int, 0 ≤ x → x ≠ i → ja h 97 x = ja h0 97 x) ∧ (∀ x : Int, 0 ≤ x → (x < 16 * (i : Int) ∨ 16 * (i : Int) + 16 ≤ x) → ja h 96 x = ja h0 96 x) → az_X P (d + 3) 282 78 ls [] h Q) : ∀ (k j : Nat) (T : Int32) (h : si_H) (ls : si_L), jM [(3, .int T), (2, .int p), (0, .ref (P.1 + 60)), (1, .int N)] ls → az_HI P az_tb h → az_same_out [(96, 1000000), (97, 1000000)] h0 h → T.toInt = j → j + k = Y → jRL h i (jpA m r n B i) j → (∀ x : Int, 0 ≤ x → x ≠ i → ja h 97 x = ja h0 97 x) ∧ (∀ x : Int, 0 ≤ x → (x < 16 * (i : Int) ∨ 16 * (i : Int) + 16 ≤ x) → ja h 96 x = ja h0 96 x) → az_X P (d + 3) 282 16 ls [] h (Q) := by
  have rx0 := rx
  obtain ⟨c1, c2, c3, c4, c5, c6, c7, c8, c9, c10, c11⟩ := rx
  intro k
  induction k with
  | zero =>
    intro j T h ls hl hH hs eT hj hr ho
    have rxh : jRX h m r Y n B a b := jRX_so hs (by decide) (by decide) (by decide) rx0
    have r9 : ja h 60 9 = Y := rxh.2.2.2.2.2.1
    refine jm_iload_n (x := T) rfl rfl (jM_at hl 0 rfl) ?_
    refine jm_aload_n (x := P.1 + 60) rfl rfl (jM_at hl 2 rfl) ?_
    refine jn_gf (i := 60) (k := 9) rfl rfl hH (by decide) (hH.2 60 _ rfl).1 rfl rfl (fun z18 (ez18 : z18.toInt = ja h 60 9) (bz18 : 8 ≤ z18.toInt ∧ z18.toInt ≤ 1440) => ?_)
    refine jx_ic (t := 78) rfl rfl rfl (fun hc21 => ?_) (fun hc21 => ?_)
    · have g21 := jc2_ge_t hc21
      exact cont h ls (jM_pick hl [1, 2, 3] rfl) hH hs (by have e : j = Y := (by omega); rw [e] at hr; exact hr) ho
    · have g21 := jc2_ge_f hc21
      exfalso
      omega
  | succ k ih =>
    intro j T h ls hl hH hs eT hj hr ho
    have rxh : jRX h m r Y n B a b := jRX_so hs (by decide) (by decide) (by decide) rx0
    have r9 : ja h 60 9 = Y := rxh.2.2.2.2.2.1
    have k1 : (1 : Int32).toInt = 1 := by decide
    have k16 : (16 : Int32).toInt = 16 := by decide
    refine jm_iload_n (x := T) rfl rfl (jM_at hl 0 rfl) ?_
    refine jm_aload_n (x := P.1 + 60) rfl rfl (jM_at hl 2 rfl) ?_
    refine jn_gf (i := 60) (k := 9) rfl rfl hH (by decide) (hH.2 60 _ rfl).1 rfl rfl (fun z18 (ez18 : z18.toInt = ja h 60 9) (bz18 : 8 ≤ z18.toInt ∧ z18.toInt ≤ 1440) => ?_)
    refine jx_ic (t := 78) rfl rfl rfl (fun hc21 => ?_) (fun hc21 => ?_)
    · have g21 := jc2_ge_t hc21
      exfalso
      omega
    · have g21 := jc2_ge_f hc21
      refine jm_aload_n (x := P.1 + 60) rfl rfl (jM_at hl 2 rfl) ?_
      refine jx_gf (i := 60) rfl rfl hH (by decide) (hH.2 60 _ rfl).1 rfl (jx_rf hH rfl rfl) ?_
      refine jm_iload_n (x := T) rfl rfl (jM_at hl 0 rfl) ?_
      refine jx_ial (i := 68) (x := T) rfl rfl hxa hH (by decide) rfl (by omega) (by show _ < ((1440 : Nat) : Int); omega) (fun z29 ez29 bz29 => ?_)
      refine jm_aload_n (x := P.1 + 60) rfl rfl (jM_at hl 2 rfl) ?_
      refine jm_iload_n (x := p) rfl rfl (jM_at hl 1 rfl) ?_
      refine az_X_call (m' := 272) (as := [.ref (P.1 + 60), .int p]) (rest := [.int z29]) rfl rfl rfl rfl rfl ?_ ?_
      · unfold si_call
        dsimp only
        rw [if_pos ⟨rfl, rfl⟩]
        show (match si_ix P h (P.1 + 60) with | some i => _ | none => none) = _
        rw [jix hH (by decide)]
        dsimp only
        rw [(hH.2 60 _ rfl).1]
        rfl
      refine (li_ok hH rxh p (u := i) ep hi).mono ?_
      rintro rv32 h32 ⟨q32, z32, rfl, ez32⟩
      subst h32
      show az_X P _ 282 35 ls [.int z32, .int z29] _ _
      refine jx_ic (t := 41) rfl rfl rfl (fun hc35 => ?_) (fun hc35 => ?_)
      · have g35 := jc2_eq_t hc35
        have lk : z29.toInt = jlk m r j := by
          rw [ez29, eT]
          exact rxh.2.2.2.2.2.2.2.2.1 j (by omega)
        rw [lk, ez32] at g35
        have tA : jpA m r n B i j = true := decide_eq_true ⟨hi, g35⟩
        have l12 := jRL_12 (hA12 i) hr (by omega) tA
        have p0a := hr.1.1
        refine jm_aload_n (x := P.1 + 60) rfl rfl (jM_at hl 2 rfl) ?_
        refine jx_gf (i := 60) rfl rfl hH (by decide) (hH.2 60 _ rfl).1 rfl (jx_rf hH rfl rfl) ?_
        refine az_X_step (pc' := 47) (ls' := ls) (st' := [.int 16, .ref (P.1 + 96)]) (h' := h) rfl rfl rfl ?_
        refine jm_iload_n (x := p) rfl rfl (jM_at hl 1 rfl) ?_
        refine jn_mul (a := 16) (b := p) rfl rfl (by rw [show (16 : Int32).toInt = 16 by decide]; omega) (by rw [show (16 : Int32).toInt = 16 by decide]; omega) (fun z48 ez48 => ?_)
        rw [show (16 : Int32).toInt = 16 by decide] at ez48
        refine jm_aload_n (x := P.1 + 60) rfl rfl (jM_at hl 2 rfl) ?_
        refine jx_gf (i := 60) rfl rfl hH (by decide) (hH.2 60 _ rfl).1 rfl (jx_rf hH rfl rfl) ?_
        refine jm_iload_n (x := p) rfl rfl (jM_at hl 1 rfl) ?_
        refine jx_ial (i := 97) (x := p) rfl rfl hxa hH (by decide) rfl (by omega) (by show _ < ((6 : Nat) : Int); omega) (fun z54 ez54 bz54 => ?_)
        have e54a : z54.toInt = ja h 97 i := by rw [ez54, ep]
        refine jn_add (a := z48) (b := z54) rfl rfl (by omega) (by omega) (fun z55 ez55 => ?_)
        refine jm_iload_n (x := T) rfl rfl (jM_at hl 0 rfl) ?_
        refine jn_ias (i := 96) (x := z55) (v := T) rfl rfl hH (by decide) rfl (by omega) (by show _ < ((96 : Nat) : Int); omega) (by show 0 ≤ _; omega) (by show _ ≤ 1439; omega) (fun h57 hH57 hs57 t57 u57 => ?_)
        refine jm_aload_n (x := P.1 + 60) rfl rfl (jM_at hl 2 rfl) ?_
        refine jx_gf (i := 60) rfl rfl hH57 (by decide) (hH57.2 60 _ rfl).1 rfl (jx_rf hH57 rfl rfl) ?_
        refine jm_iload_n (x := p) rfl rfl (jM_at hl 1 rfl) ?_
        refine jm_aload_n (x := P.1 + 60) rfl rfl (jM_at hl 2 rfl) ?_
        refine jx_gf (i := 60) rfl rfl hH57 (by decide) (hH57.2 60 _ rfl).1 rfl (jx_rf hH57 rfl rfl) ?_
        refine jm_iload_n (x := p) rfl rfl (jM_at hl 1 rfl) ?_
        refine jx_ial (i := 97) (x := p) rfl rfl hxa hH57 (by decide) rfl (by omega) (by show _ < ((6 : Nat) : Int); omega) (fun z68 ez68 bz68 => ?_)
        have e68a : z68.toInt = ja h 97 i := by rw [ez68, ep, jso_row (i := 97) hs57 (by decide)]
        refine az_X_step (pc' := 70) (ls' := ls) (st' := [.int 1, .int z68, .int p, .ref (P.1 + 97)]) (h' := h57) rfl rfl rfl ?_
        refine jn_add (a := z68) (b := 1) rfl rfl (by omega) (by omega) (fun z70 ez70 => ?_)
        rw [show (1 : Int32).toInt = 1 by decide] at ez70
        refine jn_ias (i := 97) (x := p) (v := z70) rfl rfl hH57 (by decide) rfl (by omega) (by show _ < ((6 : Nat) : Int); omega) (by show 0 ≤ _; omega) (by show _ ≤ 16; omega) (fun h71 hH71 hs71 t71 u71 => ?_)
        refine jn_iinc (x := T) rfl rfl (by decide) (jM_at hl 0 rfl) hl rfl (by decide) (by omega) (by omega) (fun z72 (ez72 : z72.toInt = T.toInt + 1) ls72 (hl72 : jM [(3, .int z72), (2, .int p), (0, .ref (P.1 + 60)), (1, .int N)] ls72) => ?_)
        refine az_X_step (pc' := 16) (ls' := ls72) (st' := []) (h' := h71) rfl rfl rfl ?_
        have e54 : z54.toInt = ja h 97 i := by rw [ez54, ep]
        have e68 : z68.toInt = ja h 97 i := by rw [ez68, ep, jso_row (i := 97) hs57 (by decide)]
        have p0 := hr.1.1
        refine ih (j + 1) z72 h71 ls72 (jM_pick hl72 [0, 1, 2, 3] rfl) hH71 ((hs.tr (hs57.sub (by decide))).tr (hs71.sub (by decide))) (by omega) (by omega) (jRL_yes (k := (ja h 97 i).toNat) tA hr (by omega) (by omega) ?_ (fun c hc => ?_) ?_) ⟨fun x x0 x1 => ?_, fun x x0 x1 => ?_⟩
        · rw [← ep, t71]
          omega
        · rw [jso_row (i := 96) hs71 (by decide), u57 _ (by omega) (by omega)]
        · rw [jso_row (i := 96) hs71 (by decide), show 16 * (i : Int) + ((ja h 97 i).toNat : Int) = z55.toInt by omega, t57]
          exact eT
        · rw [u71 x x0 (by omega), jso_row (i := 97) hs57 (by decide)]
          exact ho.1 x x0 x1
        · rw [jso_row (i := 96) hs71 (by decide), u57 x x0 (by omega)]
          exact ho.2 x x0 x1
      · have g35 := jc2_eq_f hc35
        refine az_X_step (pc' := 72) (ls' := ls) (st' := []) (h' := h) rfl rfl rfl ?_
        refine jn_iinc (x := T) rfl rfl (by decide) (jM_at hl 0 rfl) hl rfl (by decide) (by omega) (by omega) (fun z72 (ez72 : z72.toInt = T.toInt + 1) ls72 (hl72 : jM [(3, .int z72), (2, .int p), (0, .ref (P.1 + 60)), (1, .int N)] ls72) => ?_)
        refine az_X_step (pc' := 16) (ls' := ls72) (st' := []) (h' := h) rfl rfl rfl ?_
        have lk : z29.toInt = jlk m r j := by
          rw [ez29, eT]
          exact rxh.2.2.2.2.2.2.2.2.1 j (by omega)
        rw [lk, ez32] at g35
        exact ih (j + 1) z72 h ls72 (jM_pick hl72 [0, 1, 2, 3] rfl) hH hs (by omega) (by omega) (jRL_no (fun e => g35 (of_decide_eq_true e).2) hr) ho
theorem lt_q {P : si_P} (hxa : P.2.1 < P.1) {d : Nat} {h0 : si_H} {m r : Int} {Y n : Nat} {B : Nat → Int} {a b : Int} (rx : jRX h0 m r Y n B a b) (hA12 : ∀ i : Nat, jsu (fun t => if jpA m r n B i t = true then 1 else 0) Y ≤ 12) (hn6 : n ≤ 6) (N : Int32) (eN : N.toInt = n) : ∀ (k j : Nat) (p : Int32) (h : si_H) (ls : si_L), jM [(2, .int p), (0, .ref (P.1 + 60)), (1, .int N)] ls → az_HI P az_tb h → az_same_out [(96, 1000000), (97, 1000000)] h0 h → p.toInt = j → j + k = n → (∀ i : Nat, i < j → jRL h i (jpA m r n B i) Y) → az_X P (d + 3) 282 2 ls [] h (fun rv h' => rv = none ∧ az_HI P az_tb h' ∧ az_same_out [(96, 1000000), (97, 1000000)] h0 h' ∧ jRT h' n Y (jpA m r n B)) := by
  have rx0 := rx
  obtain ⟨c1, c2, c3, c4, c5, c6, c7, c8, c9, c10, c11⟩ := rx
  intro k
  induction k with
  | zero =>
    intro j p h ls hl hH hs ep hj hd
    refine jm_iload_n (x := p) rfl rfl (jM_at hl 0 rfl) ?_
    refine jm_iload_n (x := N) rfl rfl (jM_at hl 2 rfl) ?_
    refine jx_ic (t := 84) rfl rfl rfl (fun hc4 => ?_) (fun hc4 => ?_)
    · have g4 := jc2_ge_t hc4
      refine jn_retv rfl rfl rfl ?_
      exact ⟨rfl, hH, hs, fun i hi => hd i (by omega)⟩
    · have g4 := jc2_ge_f hc4
      exfalso
      omega
  | succ k ih =>
    intro j p h ls hl hH hs ep hj hd
    have k0 : (0 : Int32).toInt = 0 := by decide
    refine jm_iload_n (x := p) rfl rfl (jM_at hl 0 rfl) ?_
    refine jm_iload_n (x := N) rfl rfl (jM_at hl 2 rfl) ?_
    refine jx_ic (t := 84) rfl rfl rfl (fun hc4 => ?_) (fun hc4 => ?_)
    · have g4 := jc2_ge_t hc4
      refine jn_retv rfl rfl rfl ?_
      exfalso
      omega
    · have g4 := jc2_ge_f hc4
      refine jm_aload_n (x := P.1 + 60) rfl rfl (jM_at hl 1 rfl) ?_
      refine jx_gf (i := 60) rfl rfl hH (by decide) (hH.2 60 _ rfl).1 rfl (jx_rf hH rfl rfl) ?_
      refine jm_iload_n (x := p) rfl rfl (jM_at hl 0 rfl) ?_
      refine az_X_step (pc' := 13) (ls' := ls) (st' := [.int 0, .int p, .ref (P.1 + 97)]) (h' := h) rfl rfl rfl ?_
      refine jn_ias (i := 97) (x := p) (v := 0) rfl rfl hH (by decide) rfl (by omega) (by show _ < ((6 : Nat) : Int); omega) (by show 0 ≤ _; omega) (by show _ ≤ 16; omega) (fun h13 hH13 hs13 t13 u13 => ?_)
      refine az_X_step (pc' := 15) (ls' := ls) (st' := [.int 0]) (h' := h13) rfl rfl rfl ?_
      refine jm_istore_n (l' := [(3, .int 0), (2, .int p), (0, .ref (P.1 + 60)), (1, .int N)]) rfl rfl (by decide) hl rfl rfl (fun ls15 hl15 => ?_)
      have rx13 : jRX h13 m r Y n B a b := jRX_so (hs.tr (hs13.sub (by decide))) (by decide) (by decide) (by decide) rx0
      have z13 : ja h13 97 j = 0 := by
        rw [← ep, t13]
        decide
      refine lt_l (d := d) hxa (h0 := h13) rx13 hA12 hn6 N p (i := j) (by omega) ep (fun h1 ls1 hl1 hH1 hs1 r1 oo => ?_) Y 0 0 h13 ls15 (jM_pick hl15 [0, 1, 2, 3] rfl) hH13 az_same_out.rf (by decide) (by omega) ⟨by omega, fun c hc => absurd hc (by omega), fun g => by rw [z13]; rfl⟩ ⟨fun _ _ _ => rfl, fun _ _ _ => rfl⟩
      refine jn_iinc (x := p) rfl rfl (by decide) (jM_at hl1 0 rfl) hl1 rfl (by decide) (by omega) (by omega) (fun z78 (ez78 : z78.toInt = p.toInt + 1) ls78 (hl78 : jM [(2, .int z78), (0, .ref (P.1 + 60)), (1, .int N)] ls78) => ?_)
      refine az_X_step (pc' := 2) (ls' := ls78) (st' := []) (h' := h1) rfl rfl rfl ?_
      obtain ⟨o1, o2⟩ := oo
      refine ih (j + 1) z78 h1 ls78 (jM_pick hl78 [0, 1, 2] rfl) hH1 ((hs.tr (hs13.sub (by decide))).tr hs1) (by omega) (by omega) (fun i hi => ?_)
      by_cases e : i = j
      · subst e
        exact r1
      · refine jRL_cg ?_ (fun c hc => ?_) (hd i (by omega))
        · rw [o1 i (by omega) (by omega), u13 i (by omega) (by omega)]
        · rw [o2 _ (by omega) (by omega), jso_row (i := 96) hs13 (by decide)]
theorem lt_ok {P : si_P} (hxa : P.2.1 < P.1) {d : Nat} {h : si_H} (hH : az_HI P az_tb h) {m r : Int} {Y n : Nat} {B : Nat → Int} {a b : Int} (rx : jRX h m r Y n B a b) (hA12 : ∀ i : Nat, jsu (fun t => if jpA m r n B i t = true then 1 else 0) Y ≤ 12) (hn6 : n ≤ 6) (N : Int32) (eN : N.toInt = n) : az_X P (d + 3) 282 0 (lv_args 0 [.ref (P.1 + 60), .int N]) [] h (fun rv h' => rv = none ∧ az_HI P az_tb h' ∧ az_same_out [(96, 1000000), (97, 1000000)] h h' ∧ jRT h' n Y (jpA m r n B)) := by
  have hl : jM [(0, .ref (P.1 + 60)), (1, .int N)] (lv_args 0 [.ref (P.1 + 60), .int N]) := jM_args [0, 1] rfl (by decide)
  generalize lv_args 0 [.ref (P.1 + 60), .int N] = ls at hl
  have k0 : (0 : Int32).toInt = 0 := by decide
  refine az_X_step (pc' := 1) (ls' := ls) (st' := [.int 0]) (h' := h) rfl rfl rfl ?_
  refine jm_istore_n (l' := [(2, .int 0), (0, .ref (P.1 + 60)), (1, .int N)]) rfl rfl (by decide) hl rfl rfl (fun ls1 hl1 => ?_)
  exact lt_q hxa rx hA12 hn6 N eN n 0 0 h ls1 (jM_pick hl1 [0, 1, 2] rfl) hH az_same_out.rf (by decide) (by omega) (fun i hi => absurd hi (by omega))
theorem oh_ok {P : si_P} {d : Nat} {h : si_H} (x c : Int32) {M F : Nat} (hx : x.toInt = M) (hM : M < 64) (hc : c.toInt = F) (hF : F < 6) : az_X P d 206 0 (lv_args 0 [.int x, .int c]) [] h (fun rv h' => h' = h ∧ jV rv (jb (jbt M F))) := by
  have bt := bt_sh hx hM hc hF
  have hl : jM [(0, .int x), (1, .int c)] (lv_args 0 [.int x, .int c]) := jM_args [0, 1] rfl (by decide)
  generalize lv_args 0 [.int x, .int c] = ls at hl
  have k0 : (0 : Int32).toInt = 0 := by decide
  have k1 : (1 : Int32).toInt = 1 := by decide
  refine jm_iload_n (x := x) rfl rfl (jM_at hl 0 rfl) ?_
  refine jm_iload_n (x := c) rfl rfl (jM_at hl 1 rfl) ?_
  refine az_X_step (pc' := 3) (ls' := ls) (st' := [.int (x >>> (c &&& 31))]) (h' := h) rfl rfl rfl ?_
  refine az_X_step (pc' := 4) (ls' := ls) (st' := [.int 1, .int (x >>> (c &&& 31))]) (h' := h) rfl rfl rfl ?_
  refine az_X_step (pc' := 5) (ls' := ls) (st' := [.int ((x >>> (c &&& 31)) &&& 1)]) (h' := h) rfl rfl rfl ?_
  refine az_X_step (pc' := 6) (ls' := ls) (st' := [.int 1, .int ((x >>> (c &&& 31)) &&& 1)]) (h' := h) rfl rfl rfl ?_
  refine jx_ic (t := 13) rfl rfl rfl (fun hc6 => ?_) (fun hc6 => ?_)
  · have g6 := jc2_ne_t hc6
    refine az_X_step (pc' := 14) (ls' := ls) (st' := [.int 0]) (h' := h) rfl rfl rfl ?_
    refine jx_retz rfl rfl rfl (by decide) ?_
    refine ⟨rfl, 0, rfl, ?_⟩
    unfold jb
    by_cases e : jbt M F = true
    · rw [if_pos e] at bt ⊢
      omega
    · rw [if_neg e] at bt ⊢
      omega
  · have g6 := jc2_ne_f hc6
    refine az_X_step (pc' := 10) (ls' := ls) (st' := [.int 1]) (h' := h) rfl rfl rfl ?_
    refine az_X_step (pc' := 14) (ls' := ls) (st' := [.int 1]) (h' := h) rfl rfl rfl ?_
    refine jx_retz rfl rfl rfl (by decide) ?_
    refine ⟨rfl, 1, rfl, ?_⟩
    unfold jb
    by_cases e : jbt M F = true
    · rw [if_pos e] at bt ⊢
      omega
    · rw [if_neg e] at bt ⊢
      omega
theorem so3_ok {P : si_P} {d : Nat} {h : si_H} (x y w : Int32) (hx : 0 ≤ x.toInt ∧ x.toInt ≤ 63) (hy : 0 ≤ y.toInt ∧ y.toInt ≤ 5) (hw : 0 ≤ w.toInt ∧ w.toInt ≤ 12) : az_X P d 283 0 (lv_args 0 [.int x, .int y, .int w]) [] h (fun rv h' => h' = h ∧ jV rv (96 * x.toInt + 16 * y.toInt + w.toInt)) := by
  have hl : jM [(0, .int x), (1, .int y), (2, .int w)] (lv_args 0 [.int x, .int y, .int w]) := jM_args [0, 1, 2] rfl (by decide)
  generalize lv_args 0 [.int x, .int y, .int w] = ls at hl
  have k16 : (16 : Int32).toInt = 16 := by decide
  have k96 : (96 : Int32).toInt = 96 := by decide
  refine az_X_step (pc' := 2) (ls' := ls) (st' := [.int 96]) (h' := h) rfl rfl rfl ?_
  refine jm_iload_n (x := x) rfl rfl (jM_at hl 0 rfl) ?_
  refine jn_mul (a := 96) (b := x) rfl rfl (by rw [show (96 : Int32).toInt = 96 by decide]; omega) (by rw [show (96 : Int32).toInt = 96 by decide]; omega) (fun z3 ez3 => ?_)
  rw [show (96 : Int32).toInt = 96 by decide] at ez3
  refine az_X_step (pc' := 6) (ls' := ls) (st' := [.int 16, .int z3]) (h' := h) rfl rfl rfl ?_
  refine jm_iload_n (x := y) rfl rfl (jM_at hl 1 rfl) ?_
  refine jn_mul (a := 16) (b := y) rfl rfl (by rw [show (16 : Int32).toInt = 16 by decide]; omega) (by rw [show (16 : Int32).toInt = 16 by decide]; omega) (fun z7 ez7 => ?_)
  rw [show (16 : Int32).toInt = 16 by decide] at ez7
  refine jn_add (a := z3) (b := z7) rfl rfl (by omega) (by omega) (fun z8 ez8 => ?_)
  refine jm_iload_n (x := w) rfl rfl (jM_at hl 2 rfl) ?_
  refine jn_add (a := z8) (b := w) rfl rfl (by omega) (by omega) (fun z10 ez10 => ?_)
  refine jx_ret rfl rfl rfl ?_
  exact ⟨rfl, z10, rfl, by omega⟩
theorem ri_c {P : si_P} (hxa : P.2.1 < P.1) {d : Nat} {h : si_H} (hH : az_HI P az_tb h) {m r : Int} {Y n : Nat} {B : Nat → Int} {a b : Int} (rx : jRX h m r Y n B a b) (hn6 : n ≤ 6) (rt : jRT h n Y (jpA m r n B)) (r93 : ∀ x : Nat, x < Y → ja h 93 x = jb ((jst2 a b Y) 0 x)) (X N s : Int32) {M u : Nat} (eX : X.toInt = M) (hM : M < 64) (eN : N.toInt = n) (es : s.toInt = u) (hu : u < Y) {V : Nat → Nat → Int} (hV : ∀ i t : Nat, 0 ≤ V i t ∧ V i t ≤ 1000000000) (hrow : ∀ i : Nat, i < n → jbt M i = true → ∀ e : Nat, (e : Int) < ja h 97 i → jl h 98 (96 * (M : Int) + 16 * (i : Int) + e) = V i (jrt h i e)) (p : Int32) {i : Nat} (hi : i < n) (ep : p.toInt = i) (w0 : Int) (hw : 0 ≤ w0 ∧ w0 ≤ 60000000000) {Q : Option Value → si_H → Prop} (cont : ∀ (W : Int64) (ls : si_L), jM [(6, .int p), (4, .long W), (0, .ref (P.1 + 60)), (1, .int X), (2, .int N), (3, .int s)] ls → (0 ≤ W.toInt ∧ W.toInt ≤ w0 + 12000000000) → W.toInt = w0 + jsu (fun t => if (jbt M i && jpA m r n B i t) = true then (if (jst2 a b Y) t u = true then V i t else 0) else 0) Y → az_X P (d + 2) 285 90 ls [] h Q) : ∀ (k j : Nat) (T : Int32) (W : Int64) (ls : si_L), jM [(7, .int T), (6, .int p), (4, .long W), (0, .ref (P.1 + 60)), (1, .int X), (2, .int N), (3, .int s)] ls → T.toInt = j → (j : Int) + k = ja h 97 i → W.toInt = w0 + jsu (fun c => if (jbt M i && (jst2 a b Y) (jrt h i c) u) = true then V i (jrt h i c) else 0) j → az_X P (d + 2) 285 15 ls [] h (Q) := by
  have rx0 := rx
  obtain ⟨c1, c2, c3, c4, c5, c6, c7, c8, c9, c10, c11⟩ := rx
  have l1 := (rt i hi).1
  have l2 := (rt i hi).2.1
  have l3 := (rt i hi).2.2
  have y14 : 8 ≤ ja h 60 9 ∧ ja h 60 9 ≤ 1440 := ja_bd hH (i := 60) (k := 9) rfl
  intro k
  induction k with
  | zero =>
    intro j T W ls hl eT hj eW
    have bW : 0 ≤ W.toInt - w0 ∧ W.toInt - w0 ≤ 1000000000 * (j : Int) := by
      rw [show W.toInt - w0 = jsu (fun c => if (jbt M i && (jst2 a b Y) (jrt h i c) u) = true then V i (jrt h i c) else 0) j by omega]
      exact jsu_cap (fun c _ => by
        have := hV i (jrt h i c)
        split <;> omega)
    refine jm_iload (x := T) rfl rfl (jM_at hl 0 rfl) ?_
    refine jm_aload_n (x := P.1 + 60) rfl rfl (jM_at hl 3 rfl) ?_
    refine jx_gf (i := 60) rfl rfl hH (by decide) (hH.2 60 _ rfl).1 rfl (jx_rf hH rfl rfl) ?_
    refine jm_iload (x := p) rfl rfl (jM_at hl 1 rfl) ?_
    refine jx_ial (i := 97) (x := p) rfl rfl hxa hH (by decide) rfl (by omega) (by show _ < ((6 : Nat) : Int); omega) (fun z23 ez23 bz23 => ?_)
    have e97 : ja h 97 p.toInt = ja h 97 i := by rw [ep]
    refine jx_ic (t := 90) rfl rfl rfl (fun hc24 => ?_) (fun hc24 => ?_)
    · have g24 := jc2_ge_t hc24
      have fe : jsu (fun c => if (jbt M i && (jst2 a b Y) (jrt h i c) u) = true then V i (jrt h i c) else 0) (ja h 97 i).toNat = jsu (fun t => if (jbt M i && jpA m r n B i t) = true then (if (jst2 a b Y) t u = true then V i t else 0) else 0) Y := by
        have q := l3 (fun t => if (jbt M i && (jst2 a b Y) t u) = true then V i t else 0)
        refine q.trans (jsu_cg (fun t _ => ?_))
        by_cases c1 : jpA m r n B i t = true
        · by_cases c2 : jbt M i = true
          · by_cases c3 : (jst2 a b Y) t u = true
            · rw [if_pos c1, if_pos ((Bool.and_eq_true _ _).mpr ⟨c2, c3⟩), if_pos ((Bool.and_eq_true _ _).mpr ⟨c2, c1⟩), if_pos c3]
            · rw [if_pos c1, if_neg (fun e => c3 ((Bool.and_eq_true _ _).mp e).2), if_pos ((Bool.and_eq_true _ _).mpr ⟨c2, c1⟩), if_neg c3]
          · rw [if_pos c1, if_neg (fun e => c2 ((Bool.and_eq_true _ _).mp e).1), if_neg (fun e => c2 ((Bool.and_eq_true _ _).mp e).1)]
        · rw [if_neg c1, if_neg (fun e => c1 ((Bool.and_eq_true _ _).mp e).2)]
      exact cont W ls (jM_pick hl [1, 2, 3, 4, 5, 6] rfl) (by omega) (by rw [← fe, eW, show j = (ja h 97 i).toNat by omega])
    · have g24 := jc2_ge_f hc24
      exfalso
      omega
  | succ k ih =>
    intro j T W ls hl eT hj eW
    have bW : 0 ≤ W.toInt - w0 ∧ W.toInt - w0 ≤ 1000000000 * (j : Int) := by
      rw [show W.toInt - w0 = jsu (fun c => if (jbt M i && (jst2 a b Y) (jrt h i c) u) = true then V i (jrt h i c) else 0) j by omega]
      exact jsu_cap (fun c _ => by
        have := hV i (jrt h i c)
        split <;> omega)
    have tj := l2 j (by omega)
    have k0 : (0 : Int32).toInt = 0 := by decide
    have k16 : (16 : Int32).toInt = 16 := by decide
    refine jm_iload (x := T) rfl rfl (jM_at hl 0 rfl) ?_
    refine jm_aload_n (x := P.1 + 60) rfl rfl (jM_at hl 3 rfl) ?_
    refine jx_gf (i := 60) rfl rfl hH (by decide) (hH.2 60 _ rfl).1 rfl (jx_rf hH rfl rfl) ?_
    refine jm_iload (x := p) rfl rfl (jM_at hl 1 rfl) ?_
    refine jx_ial (i := 97) (x := p) rfl rfl hxa hH (by decide) rfl (by omega) (by show _ < ((6 : Nat) : Int); omega) (fun z23 ez23 bz23 => ?_)
    have e97 : ja h 97 p.toInt = ja h 97 i := by rw [ep]
    refine jx_ic (t := 90) rfl rfl rfl (fun hc24 => ?_) (fun hc24 => ?_)
    · have g24 := jc2_ge_t hc24
      exfalso
      omega
    · have g24 := jc2_ge_f hc24
      refine jm_iload_n (x := X) rfl rfl (jM_at hl 4 rfl) ?_
      refine jm_iload (x := p) rfl rfl (jM_at hl 1 rfl) ?_
      refine az_X_call (m' := 206) (as := [.int X, .int p]) (rest := []) rfl rfl rfl rfl rfl rfl ?_
      refine (oh_ok X p eX hM ep (by omega)).mono ?_
      rintro rv30 h30 ⟨q30, z30, rfl, ez30⟩
      subst h30
      show az_X P _ 285 33 ls [.int z30] _ _
      refine jx_if (t := 84) rfl rfl rfl (fun hc33 => ?_) (fun hc33 => ?_)
      · have g33 := jc1_eq_t hc33
        refine jn_iincg (x := T) rfl rfl (by decide) (jM_at hl 0 rfl) hl (by decide) (by omega) (by omega) (fun z84 (ez84 : z84.toInt = T.toInt + 1) ls84 (hl84 : jM [(7, .int z84), (6, .int p), (4, .long W), (0, .ref (P.1 + 60)), (1, .int X), (2, .int N), (3, .int s)] ls84) => ?_)
        refine az_X_step (pc' := 15) (ls' := ls84) (st' := []) (h' := h) rfl rfl rfl ?_
        have ps : jsu (fun c => if (jbt M i && (jst2 a b Y) (jrt h i c) u) = true then V i (jrt h i c) else 0) (j + 1) = jsu (fun c => if (jbt M i && (jst2 a b Y) (jrt h i c) u) = true then V i (jrt h i c) else 0) j + (if (jbt M i && (jst2 a b Y) (jrt h i j) u) = true then V i (jrt h i j) else 0) := rfl
        have nc : ¬ (jbt M i && (jst2 a b Y) (jrt h i j) u) = true := fun e => by
          have e1 := ((Bool.and_eq_true _ _).mp e).1
          rw [ez30, e1] at g33
          exact absurd g33 (by decide)
        exact ih (j + 1) z84 W ls84 (jM_pick hl84 [0, 1, 2, 3, 4, 5, 6] rfl) (by omega) (by omega) (by rw [ps, if_neg nc, Int.add_zero]; exact eW)
      · have g33 := jc1_eq_f hc33
        have yb : jbt M i = true := by
          by_cases e : jbt M i = true
          · exact e
          · rw [ez30] at g33
            unfold jb at g33
            rw [if_neg e] at g33
            exact absurd rfl g33
        refine jm_aload_n (x := P.1 + 60) rfl rfl (jM_at hl 3 rfl) ?_
        refine jx_gf (i := 60) rfl rfl hH (by decide) (hH.2 60 _ rfl).1 rfl (jx_rf hH rfl rfl) ?_
        refine jm_iload_n (x := s) rfl rfl (jM_at hl 6 rfl) ?_
        refine jm_aload_n (x := P.1 + 60) rfl rfl (jM_at hl 3 rfl) ?_
        refine jx_gf (i := 60) rfl rfl hH (by decide) (hH.2 60 _ rfl).1 rfl (jx_rf hH rfl rfl) ?_
        refine az_X_step (pc' := 47) (ls' := ls) (st' := [.int 16, .ref (P.1 + 96), .int s, .ref (P.1 + 93)]) (h' := h) rfl rfl rfl ?_
        refine jm_iload (x := p) rfl rfl (jM_at hl 1 rfl) ?_
        refine jn_mul (a := 16) (b := p) rfl rfl (by rw [show (16 : Int32).toInt = 16 by decide]; omega) (by rw [show (16 : Int32).toInt = 16 by decide]; omega) (fun z49 ez49 => ?_)
        rw [show (16 : Int32).toInt = 16 by decide] at ez49
        refine jm_iload (x := T) rfl rfl (jM_at hl 0 rfl) ?_
        refine jn_add (a := z49) (b := T) rfl rfl (by omega) (by omega) (fun z52 ez52 => ?_)
        refine jx_ial (i := 96) (x := z52) rfl rfl hxa hH (by decide) rfl (by omega) (by show _ < ((96 : Nat) : Int); omega) (fun z53 ez53 bz53 => ?_)
        have t53 : z53.toInt = (jrt h i j : Nat) := by
          rw [ez53, show z52.toInt = 16 * (i : Int) + j by omega]
          exact tj.1
        refine jn_sub (a := s) (b := z53) rfl rfl (by omega) (by omega) (fun z54 ez54 => ?_)
        refine jm_aload_n (x := P.1 + 60) rfl rfl (jM_at hl 3 rfl) ?_
        refine jn_gf (i := 60) (k := 9) rfl rfl hH (by decide) (hH.2 60 _ rfl).1 rfl rfl (fun z56 (ez56 : z56.toInt = ja h 60 9) (bz56 : 8 ≤ z56.toInt ∧ z56.toInt ≤ 1440) => ?_)
        refine az_X_call (m' := 208) (as := [.int z54, .int z56]) (rest := [.ref (P.1 + 93)]) rfl rfl rfl rfl rfl rfl ?_
        refine (rmod_ok z54 z56 (by omega) (by omega) (by omega)).mono ?_
        rintro rv59 h59 ⟨q59, z59, rfl, ez59⟩
        subst h59
        have bz59 : 0 ≤ z59.toInt ∧ z59.toInt < Y := by
          rw [ez59, ez56, c6]
          exact ⟨Int.emod_nonneg _ (by omega), Int.emod_lt_of_pos _ (by omega)⟩
        show az_X P _ 285 62 ls [.int z59, .ref (P.1 + 93)] _ _
        refine jn_balz (i := 93) (x := z59) rfl rfl hH (by decide) rfl (by omega) (by show _ < ((1440 : Nat) : Int); omega) (fun z62 ez62 bz62 => ?_)
        refine jx_if (t := 84) rfl rfl rfl (fun hc63 => ?_) (fun hc63 => ?_)
        · have g63 := jc1_eq_t hc63
          refine jn_iincg (x := T) rfl rfl (by decide) (jM_at hl 0 rfl) hl (by decide) (by omega) (by omega) (fun z84 (ez84 : z84.toInt = T.toInt + 1) ls84 (hl84 : jM [(7, .int z84), (6, .int p), (4, .long W), (0, .ref (P.1 + 60)), (1, .int X), (2, .int N), (3, .int s)] ls84) => ?_)
          refine az_X_step (pc' := 15) (ls' := ls84) (st' := []) (h' := h) rfl rfl rfl ?_
          have ps : jsu (fun c => if (jbt M i && (jst2 a b Y) (jrt h i c) u) = true then V i (jrt h i c) else 0) (j + 1) = jsu (fun c => if (jbt M i && (jst2 a b Y) (jrt h i c) u) = true then V i (jrt h i c) else 0) j + (if (jbt M i && (jst2 a b Y) (jrt h i j) u) = true then V i (jrt h i j) else 0) := rfl
          have sx : z62.toInt = jb ((jst2 a b Y) (jrt h i j) u) := by
            rw [ez62]
            have q := r93 z59.toInt.toNat (by omega)
            rw [Int.toNat_of_nonneg (by omega)] at q
            rw [q, ez59, ez56, c6, show z54.toInt = (u : Int) - (jrt h i j : Nat) by omega, jst2_0 (by omega)]
          have nc : ¬ (jbt M i && (jst2 a b Y) (jrt h i j) u) = true := fun e => by
            have e1 := ((Bool.and_eq_true _ _).mp e).2
            rw [sx, e1] at g63
            exact absurd g63 (by decide)
          exact ih (j + 1) z84 W ls84 (jM_pick hl84 [0, 1, 2, 3, 4, 5, 6] rfl) (by omega) (by omega) (by rw [ps, if_neg nc, Int.add_zero]; exact eW)
        · have g63 := jc1_eq_f hc63
          have sx : z62.toInt = jb ((jst2 a b Y) (jrt h i j) u) := by
            rw [ez62]
            have q := r93 z59.toInt.toNat (by omega)
            rw [Int.toNat_of_nonneg (by omega)] at q
            rw [q, ez59, ez56, c6, show z54.toInt = (u : Int) - (jrt h i j : Nat) by omega, jst2_0 (by omega)]
          have ys : (jst2 a b Y) (jrt h i j) u = true := by
            by_cases e : (jst2 a b Y) (jrt h i j) u = true
            · exact e
            · rw [sx] at g63
              unfold jb at g63
              rw [if_neg e] at g63
              exact absurd rfl g63
          have yc : (jbt M i && (jst2 a b Y) (jrt h i j) u) = true := (Bool.and_eq_true _ _).mpr ⟨yb, ys⟩
          refine jm_lload (x := W) rfl rfl (jM_at hl 2 rfl) ?_
          refine jm_aload_n (x := P.1 + 60) rfl rfl (jM_at hl 3 rfl) ?_
          refine jx_gf (i := 60) rfl rfl hH (by decide) (hH.2 60 _ rfl).1 rfl (jx_rf hH rfl rfl) ?_
          refine jm_iload_n (x := X) rfl rfl (jM_at hl 4 rfl) ?_
          refine jm_iload (x := p) rfl rfl (jM_at hl 1 rfl) ?_
          refine jm_iload (x := T) rfl rfl (jM_at hl 0 rfl) ?_
          refine az_X_call (m' := 283) (as := [.int X, .int p, .int T]) (rest := [.ref (P.1 + 98), .long W]) rfl rfl rfl rfl rfl rfl ?_
          refine (so3_ok X p T (by omega) (by omega) (by omega)).mono ?_
          rintro rv77 h77 ⟨q77, z77, rfl, ez77⟩
          subst h77
          show az_X P _ 285 80 ls [.int z77, .ref (P.1 + 98), .long W] _ _
          refine jn_lal (i := 98) (x := z77) rfl rfl hH (by decide) rfl (by omega) (by show _ < ((6144 : Nat) : Int); omega) (fun z80 ez80 => ?_)
          have vj := hV i (jrt h i j)
          have el : z80.toInt = V i (jrt h i j) := by
            rw [ez80, show z77.toInt = 96 * (M : Int) + 16 * (i : Int) + j by omega]
            exact hrow i hi yb j (by omega)
          refine jn_ladd (a := W) (b := z80) rfl rfl (by omega) (by omega) (fun z81 ez81 => ?_)
          refine jm_lstore (l' := [(4, .long z81), (7, .int T), (6, .int p), (0, .ref (P.1 + 60)), (1, .int X), (2, .int N), (3, .int s)]) rfl rfl (by decide) hl rfl (fun ls82 hl82 => ?_)
          refine jn_iincg (x := T) rfl rfl (by decide) (jM_at hl82 1 rfl) hl82 (by decide) (by omega) (by omega) (fun z84 (ez84 : z84.toInt = T.toInt + 1) ls84 (hl84 : jM [(7, .int z84), (4, .long z81), (6, .int p), (0, .ref (P.1 + 60)), (1, .int X), (2, .int N), (3, .int s)] ls84) => ?_)
          refine az_X_step (pc' := 15) (ls' := ls84) (st' := []) (h' := h) rfl rfl rfl ?_
          have ps : jsu (fun c => if (jbt M i && (jst2 a b Y) (jrt h i c) u) = true then V i (jrt h i c) else 0) (j + 1) = jsu (fun c => if (jbt M i && (jst2 a b Y) (jrt h i c) u) = true then V i (jrt h i c) else 0) j + (if (jbt M i && (jst2 a b Y) (jrt h i j) u) = true then V i (jrt h i j) else 0) := rfl
          exact ih (j + 1) z84 z81 ls84 (jM_pick hl84 [0, 2, 1, 3, 4, 5, 6] rfl) (by omega) (by omega) (by rw [ps, if_pos yc]; omega)
theorem ri_p {P : si_P} (hxa : P.2.1 < P.1) {d : Nat} {h : si_H} (hH : az_HI P az_tb h) {m r : Int} {Y n : Nat} {B : Nat → Int} {a b : Int} (rx : jRX h m r Y n B a b) (hn6 : n ≤ 6) (rt : jRT h n Y (jpA m r n B)) (r93 : ∀ x : Nat, x < Y → ja h 93 x = jb ((jst2 a b Y) 0 x)) (X N s : Int32) {M u : Nat} (eX : X.toInt = M) (hM : M < 64) (eN : N.toInt = n) (es : s.toInt = u) (hu : u < Y) {V : Nat → Nat → Int} (hV : ∀ i t : Nat, 0 ≤ V i t ∧ V i t ≤ 1000000000) (hrow : ∀ i : Nat, i < n → jbt M i = true → ∀ e : Nat, (e : Int) < ja h 97 i → jl h 98 (96 * (M : Int) + 16 * (i : Int) + e) = V i (jrt h i e)) : ∀ (k j : Nat) (p : Int32) (W : Int64) (ls : si_L), jM [(6, .int p), (4, .long W), (0, .ref (P.1 + 60)), (1, .int X), (2, .int N), (3, .int s)] ls → p.toInt = j → j + k = n → W.toInt = jsu (fun i => jsu (fun t => if (jbt M i && jpA m r n B i t) = true then (if (jst2 a b Y) t u = true then V i t else 0) else 0) Y) j → 0 ≤ W.toInt ∧ W.toInt ≤ 12000000000 * (j : Int) → az_X P (d + 2) 285 6 ls [] h (fun rv h' => h' = h ∧ ∃ z : Int64, rv = some (.long z) ∧ (0 ≤ z.toInt ∧ z.toInt ≤ 72000000000) ∧ z.toInt = js2 n Y (jbt M) (jpA m r n B) (fun i t => if (jst2 a b Y) t u = true then V i t else 0)) := by
  have rx0 := rx
  obtain ⟨c1, c2, c3, c4, c5, c6, c7, c8, c9, c10, c11⟩ := rx
  intro k
  induction k with
  | zero =>
    intro j p W ls hl ep hj eW bW
    refine jm_iload (x := p) rfl rfl (jM_at hl 0 rfl) ?_
    refine jm_iload_n (x := N) rfl rfl (jM_at hl 4 rfl) ?_
    refine jx_ic (t := 96) rfl rfl rfl (fun hc9 => ?_) (fun hc9 => ?_)
    · have g9 := jc2_ge_t hc9
      refine jm_lload (x := W) rfl rfl (jM_at hl 1 rfl) ?_
      refine jn_retl rfl rfl rfl ?_
      exact ⟨rfl, W, rfl, by omega, by rw [eW, show j = n by omega]; rfl⟩
    · have g9 := jc2_ge_f hc9
      exfalso
      omega
  | succ k ih =>
    intro j p W ls hl ep hj eW bW
    have k0 : (0 : Int32).toInt = 0 := by decide
    refine jm_iload (x := p) rfl rfl (jM_at hl 0 rfl) ?_
    refine jm_iload_n (x := N) rfl rfl (jM_at hl 4 rfl) ?_
    refine jx_ic (t := 96) rfl rfl rfl (fun hc9 => ?_) (fun hc9 => ?_)
    · have g9 := jc2_ge_t hc9
      refine jm_lload (x := W) rfl rfl (jM_at hl 1 rfl) ?_
      refine jn_retl rfl rfl rfl ?_
      exfalso
      omega
    · have g9 := jc2_ge_f hc9
      refine az_X_step (pc' := 13) (ls' := ls) (st' := [.int 0]) (h' := h) rfl rfl rfl ?_
      refine jm_istoreg (l' := [(7, .int 0), (6, .int p), (4, .long W), (0, .ref (P.1 + 60)), (1, .int X), (2, .int N), (3, .int s)]) rfl rfl (by decide) hl rfl (fun ls13 hl13 => ?_)
      have l1 := (rt j (by omega)).1
      refine ri_c (d := d) hxa hH rx0 hn6 rt r93 X N s eX hM eN es hu hV hrow p (i := j) (by omega) ep W.toInt (by omega) (fun W1 ls1 hl1 b1 e1 => ?_) (ja h 97 j).toNat 0 0 W ls13 (jM_pick hl13 [0, 1, 2, 3, 4, 5, 6] rfl) (by decide) (by omega) (by show W.toInt = W.toInt + 0; omega)
      refine jn_iincg (x := p) rfl rfl (by decide) (jM_at hl1 0 rfl) hl1 (by decide) (by omega) (by omega) (fun z90 (ez90 : z90.toInt = p.toInt + 1) ls90 (hl90 : jM [(6, .int z90), (4, .long W1), (0, .ref (P.1 + 60)), (1, .int X), (2, .int N), (3, .int s)] ls90) => ?_)
      refine az_X_step (pc' := 6) (ls' := ls90) (st' := []) (h' := h) rfl rfl rfl ?_
      have ps : jsu (fun i => jsu (fun t => if (jbt M i && jpA m r n B i t) = true then (if (jst2 a b Y) t u = true then V i t else 0) else 0) Y) (j + 1) = jsu (fun i => jsu (fun t => if (jbt M i && jpA m r n B i t) = true then (if (jst2 a b Y) t u = true then V i t else 0) else 0) Y) j + jsu (fun t => if (jbt M j && jpA m r n B j t) = true then (if (jst2 a b Y) t u = true then V j t else 0) else 0) Y := rfl
      exact ih (j + 1) z90 W1 ls90 (jM_pick hl90 [0, 1, 2, 3, 4, 5] rfl) (by omega) (by omega) (by rw [ps]; omega) (by omega)
theorem ri_ok {P : si_P} (hxa : P.2.1 < P.1) {d : Nat} {h : si_H} (hH : az_HI P az_tb h) {m r : Int} {Y n : Nat} {B : Nat → Int} {a b : Int} (rx : jRX h m r Y n B a b) (hn6 : n ≤ 6) (rt : jRT h n Y (jpA m r n B)) (r93 : ∀ x : Nat, x < Y → ja h 93 x = jb ((jst2 a b Y) 0 x)) (X N s : Int32) {M u : Nat} (eX : X.toInt = M) (hM : M < 64) (eN : N.toInt = n) (es : s.toInt = u) (hu : u < Y) {V : Nat → Nat → Int} (hV : ∀ i t : Nat, 0 ≤ V i t ∧ V i t ≤ 1000000000) (hrow : ∀ i : Nat, i < n → jbt M i = true → ∀ e : Nat, (e : Int) < ja h 97 i → jl h 98 (96 * (M : Int) + 16 * (i : Int) + e) = V i (jrt h i e)) : az_X P (d + 2) 285 0 (lv_args 0 [.ref (P.1 + 60), .int X, .int N, .int s]) [] h (fun rv h' => h' = h ∧ ∃ z : Int64, rv = some (.long z) ∧ (0 ≤ z.toInt ∧ z.toInt ≤ 72000000000) ∧ z.toInt = js2 n Y (jbt M) (jpA m r n B) (fun i t => if (jst2 a b Y) t u = true then V i t else 0)) := by
  have hl : jM [(0, .ref (P.1 + 60)), (1, .int X), (2, .int N), (3, .int s)] (lv_args 0 [.ref (P.1 + 60), .int X, .int N, .int s]) := jM_args [0, 1, 2, 3] rfl (by decide)
  generalize lv_args 0 [.ref (P.1 + 60), .int X, .int N, .int s] = ls at hl
  have k0 : (0 : Int32).toInt = 0 := by decide
  have kl0 : (0 : Int64).toInt = 0 := by decide
  refine az_X_step (pc' := 1) (ls' := ls) (st' := [.long 0]) (h' := h) rfl rfl rfl ?_
  refine jm_lstore (l' := [(4, .long 0), (0, .ref (P.1 + 60)), (1, .int X), (2, .int N), (3, .int s)]) rfl rfl (by decide) hl rfl (fun ls1 hl1 => ?_)
  refine az_X_step (pc' := 4) (ls' := ls1) (st' := [.int 0]) (h' := h) rfl rfl rfl ?_
  refine jm_istoreg (l' := [(6, .int 0), (4, .long 0), (0, .ref (P.1 + 60)), (1, .int X), (2, .int N), (3, .int s)]) rfl rfl (by decide) hl1 rfl (fun ls4 hl4 => ?_)
  exact ri_p hxa hH rx hn6 rt r93 X N s eX hM eN es hu hV hrow n 0 0 0 ls4 (jM_pick hl4 [0, 1, 2, 3, 4, 5] rfl) (by decide) (by omega) (by show (0 : Int64).toInt = 0; decide) (by show 0 ≤ (0 : Int64).toInt ∧ (0 : Int64).toInt ≤ 12000000000 * ((0 : Nat) : Int); decide)
theorem rf_k {P : si_P} (hxa : P.2.1 < P.1) {d : Nat} {h0 : si_H} {m r : Int} {Y n : Nat} {B : Nat → Int} {a b : Int} (rx : jRX h0 m r Y n B a b) (hn6 : n ≤ 6) (rt : jRT h0 n Y (jpA m r n B)) (r93 : ∀ x : Nat, x < Y → ja h0 93 x = jb ((jst2 a b Y) 0 x)) (Fs N : Int32) {Fm Z : Nat} (eFs : Fs.toInt = Fm) (hFm : Fm < 64) (eN : N.toInt = n) (eZ : Z = 2 ^ n) {h1 : si_H} (hs1 : az_same_out [(98, 1000000)] h0 h1) (X p O : Int32) {M i Nn : Nat} (eX : X.toInt = M) (hM : M < Z) (ep : p.toInt = i) (hi : i < n) (hb : jbt M i = true) (hN : jLE M i Nn) (eO : O.toInt = Nn) (hrow : ∀ u : Nat, u < n → jbt Nn u = true → ∀ e : Nat, (e : Int) < ja h0 97 u → jl h1 98 (96 * (Nn : Int) + 16 * (u : Int) + e) = min 1000000000 (jEo n Y (jpA m r n B) (jst2 a b Y) (jbt Fm) (jpc Nn - 1) (jbt Nn) u (jrt h0 u e))) (w0 : Int) (hw : 0 ≤ w0 ∧ w0 ≤ 60000000000) {Q : Option Value → si_H → Prop} (cont : ∀ (W : Int64) (h : si_H) (ls : si_L), jM [(6, .int p), (5, .int X), (3, .long W), (0, .ref (P.1 + 60)), (1, .int Fs), (2, .int N)] ls → az_HI P az_tb h → az_same_out [(98, 1000000)] h0 h → (0 ≤ W.toInt ∧ W.toInt ≤ w0 + 12000000000) → W.toInt = w0 + (if M + 1 = Z then jsu (fun c => min 1000000000 (jEo n Y (jpA m r n B) (jst2 a b Y) (jbt Fm) (jpc M - 1) (jbt M) i (jrt h0 i c))) (ja h0 97 i).toNat else 0) → (∀ e : Nat, (e : Int) < ja h0 97 i → jl h 98 (96 * (M : Int) + 16 * (i : Int) + e) = min 1000000000 (jEo n Y (jpA m r n B) (jst2 a b Y) (jbt Fm) (jpc M - 1) (jbt M) i (jrt h0 i e))) → (∀ x : Int, 0 ≤ x → (x < 96 * (M : Int) + 16 * (i : Int) ∨ 96 * (M : Int) + 16 * (i : Int) + 16 ≤ x) → jl h 98 x = jl h1 98 x) → az_X P (d + 3) 284 187 ls [] h Q) : ∀ (k j : Nat) (T : Int32) (W : Int64) (h : si_H) (ls : si_L), jM [(8, .int T), (7, .int O), (6, .int p), (5, .int X), (3, .long W), (0, .ref (P.1 + 60)), (1, .int Fs), (2, .int N)] ls → az_HI P az_tb h → az_same_out [(98, 1000000)] h0 h → T.toInt = j → (j : Int) + k = ja h0 97 i → W.toInt = w0 + (if M + 1 = Z then jsu (fun c => min 1000000000 (jEo n Y (jpA m r n B) (jst2 a b Y) (jbt Fm) (jpc M - 1) (jbt M) i (jrt h0 i c))) j else 0) → (∀ e : Nat, (e : Int) < j → jl h 98 (96 * (M : Int) + 16 * (i : Int) + e) = min 1000000000 (jEo n Y (jpA m r n B) (jst2 a b Y) (jbt Fm) (jpc M - 1) (jbt M) i (jrt h0 i e))) → (∀ x : Int, 0 ≤ x → (x < 96 * (M : Int) + 16 * (i : Int) ∨ 96 * (M : Int) + 16 * (i : Int) + 16 ≤ x) → jl h 98 x = jl h1 98 x) → az_X P (d + 3) 284 74 ls [] h (Q) := by
  have rx0 := rx
  obtain ⟨c1, c2, c3, c4, c5, c6, c7, c8, c9, c10, c11⟩ := rx
  obtain ⟨zf1, zf2, zf3, zf4⟩ := jfl (n := n) (by omega) hn6 eZ
  have hE : ∀ M i t : Nat, 0 ≤ min 1000000000 (jEo n Y (jpA m r n B) (jst2 a b Y) (jbt Fm) (jpc M - 1) (jbt M) i t) ∧ min 1000000000 (jEo n Y (jpA m r n B) (jst2 a b Y) (jbt Fm) (jpc M - 1) (jbt M) i t) ≤ 1000000000 := fun M i t => by
    have := jEo_nn n Y (jpA m r n B) (jst2 a b Y) (jbt Fm) (jpc M - 1) (jbt M) i t
    omega
  have l1 := (rt i hi).1
  have l2 := (rt i hi).2.1
  have hN1 := hN.1
  intro k
  induction k with
  | zero =>
    intro j T W h ls hl hH hs eT hj eW hd ho
    have rxh : jRX h m r Y n B a b := jRX_so hs (by decide) (by decide) (by decide) rx0
    have rth : jRT h n Y (jpA m r n B) := jRT_so hs (by decide) (by decide) rt
    have s93 : ∀ x : Nat, x < Y → ja h 93 x = jb ((jst2 a b Y) 0 x) := fun x hx => by
      rw [jso_row (i := 93) hs (by decide)]
      exact r93 x hx
    have s97 : ∀ x : Int, ja h 97 x = ja h0 97 x := fun x => jso_row hs (by decide) x
    have jt : ∀ u v : Nat, jrt h u v = jrt h0 u v := fun u v => jrt_so hs (by decide) u v
    have bW : 0 ≤ W.toInt - w0 ∧ W.toInt - w0 ≤ 1000000000 * (j : Int) := by
      rw [show W.toInt - w0 = (if M + 1 = Z then jsu (fun c => min 1000000000 (jEo n Y (jpA m r n B) (jst2 a b Y) (jbt Fm) (jpc M - 1) (jbt M) i (jrt h0 i c))) j else 0) by omega]
      split
      · exact jsu_cap (fun c _ => hE M i (jrt h0 i c))
      · omega
    refine jm_iload (x := T) rfl rfl (jM_at hl 0 rfl) ?_
    refine jm_aload_n (x := P.1 + 60) rfl rfl (jM_at hl 5 rfl) ?_
    refine jx_gf (i := 60) rfl rfl hH (by decide) (hH.2 60 _ rfl).1 rfl (jx_rf hH rfl rfl) ?_
    refine jm_iload (x := p) rfl rfl (jM_at hl 2 rfl) ?_
    refine jx_ial (i := 97) (x := p) rfl rfl hxa hH (by decide) rfl (by omega) (by show _ < ((6 : Nat) : Int); omega) (fun z82 ez82 bz82 => ?_)
    have e97 : ja h 97 p.toInt = ja h0 97 i := by rw [s97, ep]
    refine jx_ic (t := 187) rfl rfl rfl (fun hc83 => ?_) (fun hc83 => ?_)
    · have g83 := jc2_ge_t hc83
      exact cont W h ls (jM_pick hl [2, 3, 4, 5, 6, 7] rfl) hH hs (by omega) (by rw [eW, show j = (ja h0 97 i).toNat by omega]) (fun e he => hd e (by omega)) ho
    · have g83 := jc2_ge_f hc83
      exfalso
      omega
  | succ k ih =>
    intro j T W h ls hl hH hs eT hj eW hd ho
    have rxh : jRX h m r Y n B a b := jRX_so hs (by decide) (by decide) (by decide) rx0
    have rth : jRT h n Y (jpA m r n B) := jRT_so hs (by decide) (by decide) rt
    have s93 : ∀ x : Nat, x < Y → ja h 93 x = jb ((jst2 a b Y) 0 x) := fun x hx => by
      rw [jso_row (i := 93) hs (by decide)]
      exact r93 x hx
    have s97 : ∀ x : Int, ja h 97 x = ja h0 97 x := fun x => jso_row hs (by decide) x
    have jt : ∀ u v : Nat, jrt h u v = jrt h0 u v := fun u v => jrt_so hs (by decide) u v
    have bW : 0 ≤ W.toInt - w0 ∧ W.toInt - w0 ≤ 1000000000 * (j : Int) := by
      rw [show W.toInt - w0 = (if M + 1 = Z then jsu (fun c => min 1000000000 (jEo n Y (jpA m r n B) (jst2 a b Y) (jbt Fm) (jpc M - 1) (jbt M) i (jrt h0 i c))) j else 0) by omega]
      split
      · exact jsu_cap (fun c _ => hE M i (jrt h0 i c))
      · omega
    have tj := l2 j (by omega)
    have k0 : (0 : Int32).toInt = 0 := by decide
    have k1 : (1 : Int32).toInt = 1 := by decide
    have k16 : (16 : Int32).toInt = 16 := by decide
    have kl1000000000 : (1000000000 : Int64).toInt = 1000000000 := by decide
    refine jm_iload (x := T) rfl rfl (jM_at hl 0 rfl) ?_
    refine jm_aload_n (x := P.1 + 60) rfl rfl (jM_at hl 5 rfl) ?_
    refine jx_gf (i := 60) rfl rfl hH (by decide) (hH.2 60 _ rfl).1 rfl (jx_rf hH rfl rfl) ?_
    refine jm_iload (x := p) rfl rfl (jM_at hl 2 rfl) ?_
    refine jx_ial (i := 97) (x := p) rfl rfl hxa hH (by decide) rfl (by omega) (by show _ < ((6 : Nat) : Int); omega) (fun z82 ez82 bz82 => ?_)
    have e97 : ja h 97 p.toInt = ja h0 97 i := by rw [s97, ep]
    refine jx_ic (t := 187) rfl rfl rfl (fun hc83 => ?_) (fun hc83 => ?_)
    · have g83 := jc2_ge_t hc83
      exfalso
      omega
    · have g83 := jc2_ge_f hc83
      refine jm_iload (x := O) rfl rfl (jM_at hl 1 rfl) ?_
      refine jx_if (t := 101) rfl rfl rfl (fun hc88 => ?_) (fun hc88 => ?_)
      · have g88 := jc1_ne_t hc88
        refine jm_aload_n (x := P.1 + 60) rfl rfl (jM_at hl 5 rfl) ?_
        refine jm_iload (x := O) rfl rfl (jM_at hl 1 rfl) ?_
        refine jm_iload_n (x := N) rfl rfl (jM_at hl 7 rfl) ?_
        refine jm_aload_n (x := P.1 + 60) rfl rfl (jM_at hl 5 rfl) ?_
        refine jx_gf (i := 60) rfl rfl hH (by decide) (hH.2 60 _ rfl).1 rfl (jx_rf hH rfl rfl) ?_
        refine az_X_step (pc' := 111) (ls' := ls) (st' := [.int 16, .ref (P.1 + 96), .int N, .int O, .ref (P.1 + 60)]) (h' := h) rfl rfl rfl ?_
        refine jm_iload (x := p) rfl rfl (jM_at hl 2 rfl) ?_
        refine jn_mul (a := 16) (b := p) rfl rfl (by rw [show (16 : Int32).toInt = 16 by decide]; omega) (by rw [show (16 : Int32).toInt = 16 by decide]; omega) (fun z113 ez113 => ?_)
        rw [show (16 : Int32).toInt = 16 by decide] at ez113
        refine jm_iload (x := T) rfl rfl (jM_at hl 0 rfl) ?_
        refine jn_add (a := z113) (b := T) rfl rfl (by omega) (by omega) (fun z116 ez116 => ?_)
        refine jx_ial (i := 96) (x := z116) rfl rfl hxa hH (by decide) rfl (by omega) (by show _ < ((96 : Nat) : Int); omega) (fun z117 ez117 bz117 => ?_)
        have t117 : z117.toInt = (jrt h0 i j : Nat) := by
          rw [ez117, show z116.toInt = 16 * (i : Int) + j by omega, jso_row (i := 96) hs (by decide)]
          exact tj.1
        refine az_X_call (m' := 285) (as := [.ref (P.1 + 60), .int O, .int N, .int z117]) (rest := []) rfl rfl rfl rfl rfl ?_ ?_
        · unfold si_call
          dsimp only
          rw [if_pos ⟨rfl, rfl⟩]
          show (match si_ix P h (P.1 + 60) with | some i => _ | none => none) = _
          rw [jix hH (by decide)]
          dsimp only
          rw [(hH.2 60 _ rfl).1]
          rfl
        refine (ri_ok (d := d) hxa hH rxh hn6 rth s93 O N z117 (M := Nn) (u := jrt h0 i j) eO (by omega) eN t117 tj.2.1 (V := fun u t => min 1000000000 (jEo n Y (jpA m r n B) (jst2 a b Y) (jbt Fm) (jpc Nn - 1) (jbt Nn) u t)) (fun u t => hE Nn u t) (fun u hu hb2 e he => by
          rw [s97] at he
          have q2 := (rt u hu).1
          rw [ho _ (by omega) (by omega), jt]
          exact hrow u hu hb2 e he)).mono ?_
        rintro rv118 h118 ⟨q118, z118, rfl, ez118⟩
        subst h118
        show az_X P _ 284 121 ls [.long z118] _ _
        refine jm_lstore (l' := [(9, .long z118), (8, .int T), (7, .int O), (6, .int p), (5, .int X), (3, .long W), (0, .ref (P.1 + 60)), (1, .int Fs), (2, .int N)]) rfl rfl (by decide) hl rfl (fun ls121 hl121 => ?_)
        refine jm_aload_n (x := P.1 + 60) rfl rfl (jM_at hl121 6 rfl) ?_
        refine jx_gf (i := 60) rfl rfl hH (by decide) (hH.2 60 _ rfl).1 rfl (jx_rf hH rfl rfl) ?_
        refine jm_iload (x := X) rfl rfl (jM_at hl121 4 rfl) ?_
        refine jm_iload (x := p) rfl rfl (jM_at hl121 3 rfl) ?_
        refine jm_iload (x := T) rfl rfl (jM_at hl121 1 rfl) ?_
        refine az_X_call (m' := 283) (as := [.int X, .int p, .int T]) (rest := [.ref (P.1 + 98)]) rfl rfl rfl rfl rfl rfl ?_
        refine (so3_ok X p T (by omega) (by omega) (by omega)).mono ?_
        rintro rv133 h133 ⟨q133, z133, rfl, ez133⟩
        subst h133
        show az_X P _ 284 136 ls121 [.int z133, .ref (P.1 + 98)] _ _
        refine jm_lload (x := z118) rfl rfl (jM_at hl121 0 rfl) ?_
        refine az_X_step (pc' := 141) (ls' := ls121) (st' := [.long 1000000000, .long z118, .int z133, .ref (P.1 + 98)]) (h' := h) rfl rfl rfl ?_
        refine jn_lcmp (a := z118) (b := 1000000000) rfl rfl (fun z141 ez141 => ?_)
        refine jx_if (t := 151) rfl rfl rfl (fun hc142 => ?_) (fun hc142 => ?_)
        · have g142 := jc1_le_t hc142
          refine jm_lload (x := z118) rfl rfl (jM_at hl121 0 rfl) ?_
          refine jn_las (i := 98) (x := z133) (v := z118) rfl rfl hH (by decide) rfl (by omega) (by show _ < ((6144 : Nat) : Int); omega) (fun h153 hH153 hs153 t153 u153 => ?_)
          refine jm_iload (x := X) rfl rfl (jM_at hl121 4 rfl) ?_
          refine az_X_step (pc' := 157) (ls' := ls121) (st' := [.int 1, .int X]) (h' := h153) rfl rfl rfl ?_
          refine jm_iload_n (x := N) rfl rfl (jM_at hl121 8 rfl) ?_
          refine az_X_step (pc' := 159) (ls' := ls121) (st' := [.int (1 <<< (N &&& 31)), .int X]) (h' := h153) rfl rfl rfl ?_
          refine az_X_step (pc' := 160) (ls' := ls121) (st' := [.int 1, .int (1 <<< (N &&& 31)), .int X]) (h' := h153) rfl rfl rfl ?_
          have sha := bt_sl (c := N) (N := n) (Z := Z) eN (by omega) eZ
          refine jn_sub (a := (1 <<< (N &&& 31))) (b := 1) rfl rfl (by omega) (by omega) (fun z160 ez160 => ?_)
          rw [show (1 : Int32).toInt = 1 by decide] at ez160
          have fz : (1 : Int) ≤ Z := by omega
          refine jx_ic (t := 181) rfl rfl rfl (fun hc161 => ?_) (fun hc161 => ?_)
          · have g161 := jc2_ne_t hc161
            refine jn_iincg (x := T) rfl rfl (by decide) (jM_at hl121 1 rfl) hl121 (by decide) (by omega) (by omega) (fun z181 (ez181 : z181.toInt = T.toInt + 1) ls181 (hl181 : jM [(8, .int z181), (9, .long z118), (7, .int O), (6, .int p), (5, .int X), (3, .long W), (0, .ref (P.1 + 60)), (1, .int Fs), (2, .int N)] ls181) => ?_)
            refine az_X_step (pc' := 74) (ls' := ls181) (st' := []) (h' := h153) rfl rfl rfl ?_
            have eo := jEo_N (n := n) (Y := Y) (A := (jpA m r n B)) (S := (jst2 a b Y)) (F := (jbt Fm)) hN (by omega) (jrt h0 i j)
            have e9 : min 1000000000 z118.toInt = min 1000000000 (jEo n Y (jpA m r n B) (jst2 a b Y) (jbt Fm) (jpc M - 1) (jbt M) i (jrt h0 i j)) := by
              rw [ez118.2, eo]
              exact js2_min (c := fun _ t => (jst2 a b Y) t (jrt h0 i j)) (g := fun u t => jEo n Y (jpA m r n B) (jst2 a b Y) (jbt Fm) (jpc Nn - 1) (jbt Nn) u t) (by omega) (fun u t => jEo_nn n Y (jpA m r n B) (jst2 a b Y) (jbt Fm) _ _ u t)
            have es : z118.toInt = min 1000000000 (jEo n Y (jpA m r n B) (jst2 a b Y) (jbt Fm) (jpc M - 1) (jbt M) i (jrt h0 i j)) := by
              omega
            have ps : jsu (fun c => min 1000000000 (jEo n Y (jpA m r n B) (jst2 a b Y) (jbt Fm) (jpc M - 1) (jbt M) i (jrt h0 i c))) (j + 1) = jsu (fun c => min 1000000000 (jEo n Y (jpA m r n B) (jst2 a b Y) (jbt Fm) (jpc M - 1) (jbt M) i (jrt h0 i c))) j + min 1000000000 (jEo n Y (jpA m r n B) (jst2 a b Y) (jbt Fm) (jpc M - 1) (jbt M) i (jrt h0 i j)) := rfl
            have fu : ¬ M + 1 = Z := by omega
            have ew2 : W.toInt = w0 + (if M + 1 = Z then jsu (fun c => min 1000000000 (jEo n Y (jpA m r n B) (jst2 a b Y) (jbt Fm) (jpc M - 1) (jbt M) i (jrt h0 i c))) (j + 1) else 0) := by
              rw [if_neg fu] at eW ⊢
              exact eW
            refine ih (j + 1) z181 W h153 ls181 (jM_pick hl181 [0, 2, 3, 4, 5, 6, 7, 8] rfl) hH153 (hs.tr hs153) (by omega) (by omega) ew2 (fun e he => ?_) (fun x x0 x1 => ?_)
            · rcases Nat.lt_or_ge e j with q | q
              · rw [u153 _ (by omega) (by omega)]
                exact hd e (by omega)
              · have ee : e = j := by omega
                subst ee
                rw [show 96 * (M : Int) + 16 * (i : Int) + (e : Int) = z133.toInt by omega, t153]
                exact es
            · rw [u153 x x0 (by omega)]
              exact ho x x0 x1
          · have g161 := jc2_ne_f hc161
            refine jm_lload_n (x := W) rfl rfl (jM_at hl121 5 rfl) ?_
            refine jm_aload_n (x := P.1 + 60) rfl rfl (jM_at hl121 6 rfl) ?_
            refine jx_gf (i := 60) rfl rfl hH153 (by decide) (hH153.2 60 _ rfl).1 rfl (jx_rf hH153 rfl rfl) ?_
            refine jm_iload (x := X) rfl rfl (jM_at hl121 4 rfl) ?_
            refine jm_iload (x := p) rfl rfl (jM_at hl121 3 rfl) ?_
            refine jm_iload (x := T) rfl rfl (jM_at hl121 1 rfl) ?_
            refine az_X_call (m' := 283) (as := [.int X, .int p, .int T]) (rest := [.ref (P.1 + 98), .long W]) rfl rfl rfl rfl rfl rfl ?_
            refine (so3_ok X p T (by omega) (by omega) (by omega)).mono ?_
            rintro rv175 h175 ⟨q175, z175, rfl, ez175⟩
            subst h175
            show az_X P _ 284 178 ls121 [.int z175, .ref (P.1 + 98), .long W] _ _
            refine jn_lal (i := 98) (x := z175) rfl rfl hH153 (by decide) rfl (by omega) (by show _ < ((6144 : Nat) : Int); omega) (fun z178 ez178 => ?_)
            have eoa := jEo_N (n := n) (Y := Y) (A := (jpA m r n B)) (S := (jst2 a b Y)) (F := (jbt Fm)) hN (by omega) (jrt h0 i j)
            have e9a : min 1000000000 z118.toInt = min 1000000000 (jEo n Y (jpA m r n B) (jst2 a b Y) (jbt Fm) (jpc M - 1) (jbt M) i (jrt h0 i j)) := by
              rw [ez118.2, eoa]
              exact js2_min (c := fun _ t => (jst2 a b Y) t (jrt h0 i j)) (g := fun u t => jEo n Y (jpA m r n B) (jst2 a b Y) (jbt Fm) (jpc Nn - 1) (jbt Nn) u t) (by omega) (fun u t => jEo_nn n Y (jpA m r n B) (jst2 a b Y) (jbt Fm) _ _ u t)
            have esa : z118.toInt = min 1000000000 (jEo n Y (jpA m r n B) (jst2 a b Y) (jbt Fm) (jpc M - 1) (jbt M) i (jrt h0 i j)) := by
              omega
            have bE := hE M i (jrt h0 i j)
            have e178 : z178.toInt = min 1000000000 (jEo n Y (jpA m r n B) (jst2 a b Y) (jbt Fm) (jpc M - 1) (jbt M) i (jrt h0 i j)) := by
              rw [ez178, show z175.toInt = z133.toInt by omega, t153]
              exact esa
            refine jn_ladd (a := W) (b := z178) rfl rfl (by omega) (by omega) (fun z179 ez179 => ?_)
            refine jm_lstore_n (l' := [(3, .long z179), (9, .long z118), (8, .int T), (7, .int O), (6, .int p), (5, .int X), (0, .ref (P.1 + 60)), (1, .int Fs), (2, .int N)]) rfl rfl (by decide) hl121 rfl (fun ls180 hl180 => ?_)
            refine jn_iincg (x := T) rfl rfl (by decide) (jM_at hl180 2 rfl) hl180 (by decide) (by omega) (by omega) (fun z181 (ez181 : z181.toInt = T.toInt + 1) ls181 (hl181 : jM [(8, .int z181), (3, .long z179), (9, .long z118), (7, .int O), (6, .int p), (5, .int X), (0, .ref (P.1 + 60)), (1, .int Fs), (2, .int N)] ls181) => ?_)
            refine az_X_step (pc' := 74) (ls' := ls181) (st' := []) (h' := h153) rfl rfl rfl ?_
            have eo := jEo_N (n := n) (Y := Y) (A := (jpA m r n B)) (S := (jst2 a b Y)) (F := (jbt Fm)) hN (by omega) (jrt h0 i j)
            have e9 : min 1000000000 z118.toInt = min 1000000000 (jEo n Y (jpA m r n B) (jst2 a b Y) (jbt Fm) (jpc M - 1) (jbt M) i (jrt h0 i j)) := by
              rw [ez118.2, eo]
              exact js2_min (c := fun _ t => (jst2 a b Y) t (jrt h0 i j)) (g := fun u t => jEo n Y (jpA m r n B) (jst2 a b Y) (jbt Fm) (jpc Nn - 1) (jbt Nn) u t) (by omega) (fun u t => jEo_nn n Y (jpA m r n B) (jst2 a b Y) (jbt Fm) _ _ u t)
            have es : z118.toInt = min 1000000000 (jEo n Y (jpA m r n B) (jst2 a b Y) (jbt Fm) (jpc M - 1) (jbt M) i (jrt h0 i j)) := by
              omega
            have ps : jsu (fun c => min 1000000000 (jEo n Y (jpA m r n B) (jst2 a b Y) (jbt Fm) (jpc M - 1) (jbt M) i (jrt h0 i c))) (j + 1) = jsu (fun c => min 1000000000 (jEo n Y (jpA m r n B) (jst2 a b Y) (jbt Fm) (jpc M - 1) (jbt M) i (jrt h0 i c))) j + min 1000000000 (jEo n Y (jpA m r n B) (jst2 a b Y) (jbt Fm) (jpc M - 1) (jbt M) i (jrt h0 i j)) := rfl
            have fu : M + 1 = Z := by omega
            rw [if_pos fu] at eW
            have ew2 : z179.toInt = w0 + (if M + 1 = Z then jsu (fun c => min 1000000000 (jEo n Y (jpA m r n B) (jst2 a b Y) (jbt Fm) (jpc M - 1) (jbt M) i (jrt h0 i c))) (j + 1) else 0) := by
              rw [if_pos fu, ps]
              have q := ez178
              rw [show z175.toInt = z133.toInt by omega, t153] at q
              omega
            refine ih (j + 1) z181 z179 h153 ls181 (jM_pick hl181 [0, 3, 4, 5, 1, 6, 7, 8] rfl) hH153 (hs.tr hs153) (by omega) (by omega) ew2 (fun e he => ?_) (fun x x0 x1 => ?_)
            · rcases Nat.lt_or_ge e j with q | q
              · rw [u153 _ (by omega) (by omega)]
                exact hd e (by omega)
              · have ee : e = j := by omega
                subst ee
                rw [show 96 * (M : Int) + 16 * (i : Int) + (e : Int) = z133.toInt by omega, t153]
                exact es
            · rw [u153 x x0 (by omega)]
              exact ho x x0 x1
        · have g142 := jc1_le_f hc142
          refine az_X_step (pc' := 148) (ls' := ls121) (st' := [.long 1000000000, .int z133, .ref (P.1 + 98)]) (h' := h) rfl rfl rfl ?_
          refine az_X_step (pc' := 153) (ls' := ls121) (st' := [.long 1000000000, .int z133, .ref (P.1 + 98)]) (h' := h) rfl rfl rfl ?_
          refine jn_las (i := 98) (x := z133) (v := 1000000000) rfl rfl hH (by decide) rfl (by omega) (by show _ < ((6144 : Nat) : Int); omega) (fun h153 hH153 hs153 t153 u153 => ?_)
          refine jm_iload (x := X) rfl rfl (jM_at hl121 4 rfl) ?_
          refine az_X_step (pc' := 157) (ls' := ls121) (st' := [.int 1, .int X]) (h' := h153) rfl rfl rfl ?_
          refine jm_iload_n (x := N) rfl rfl (jM_at hl121 8 rfl) ?_
          refine az_X_step (pc' := 159) (ls' := ls121) (st' := [.int (1 <<< (N &&& 31)), .int X]) (h' := h153) rfl rfl rfl ?_
          refine az_X_step (pc' := 160) (ls' := ls121) (st' := [.int 1, .int (1 <<< (N &&& 31)), .int X]) (h' := h153) rfl rfl rfl ?_
          have sha := bt_sl (c := N) (N := n) (Z := Z) eN (by omega) eZ
          refine jn_sub (a := (1 <<< (N &&& 31))) (b := 1) rfl rfl (by omega) (by omega) (fun z160 ez160 => ?_)
          rw [show (1 : Int32).toInt = 1 by decide] at ez160
          have fz : (1 : Int) ≤ Z := by omega
          refine jx_ic (t := 181) rfl rfl rfl (fun hc161 => ?_) (fun hc161 => ?_)
          · have g161 := jc2_ne_t hc161
            refine jn_iincg (x := T) rfl rfl (by decide) (jM_at hl121 1 rfl) hl121 (by decide) (by omega) (by omega) (fun z181 (ez181 : z181.toInt = T.toInt + 1) ls181 (hl181 : jM [(8, .int z181), (9, .long z118), (7, .int O), (6, .int p), (5, .int X), (3, .long W), (0, .ref (P.1 + 60)), (1, .int Fs), (2, .int N)] ls181) => ?_)
            refine az_X_step (pc' := 74) (ls' := ls181) (st' := []) (h' := h153) rfl rfl rfl ?_
            have eo := jEo_N (n := n) (Y := Y) (A := (jpA m r n B)) (S := (jst2 a b Y)) (F := (jbt Fm)) hN (by omega) (jrt h0 i j)
            have e9 : min 1000000000 z118.toInt = min 1000000000 (jEo n Y (jpA m r n B) (jst2 a b Y) (jbt Fm) (jpc M - 1) (jbt M) i (jrt h0 i j)) := by
              rw [ez118.2, eo]
              exact js2_min (c := fun _ t => (jst2 a b Y) t (jrt h0 i j)) (g := fun u t => jEo n Y (jpA m r n B) (jst2 a b Y) (jbt Fm) (jpc Nn - 1) (jbt Nn) u t) (by omega) (fun u t => jEo_nn n Y (jpA m r n B) (jst2 a b Y) (jbt Fm) _ _ u t)
            have es : (1000000000 : Int64).toInt = min 1000000000 (jEo n Y (jpA m r n B) (jst2 a b Y) (jbt Fm) (jpc M - 1) (jbt M) i (jrt h0 i j)) := by
              omega
            have ps : jsu (fun c => min 1000000000 (jEo n Y (jpA m r n B) (jst2 a b Y) (jbt Fm) (jpc M - 1) (jbt M) i (jrt h0 i c))) (j + 1) = jsu (fun c => min 1000000000 (jEo n Y (jpA m r n B) (jst2 a b Y) (jbt Fm) (jpc M - 1) (jbt M) i (jrt h0 i c))) j + min 1000000000 (jEo n Y (jpA m r n B) (jst2 a b Y) (jbt Fm) (jpc M - 1) (jbt M) i (jrt h0 i j)) := rfl
            have fu : ¬ M + 1 = Z := by omega
            have ew2 : W.toInt = w0 + (if M + 1 = Z then jsu (fun c => min 1000000000 (jEo n Y (jpA m r n B) (jst2 a b Y) (jbt Fm) (jpc M - 1) (jbt M) i (jrt h0 i c))) (j + 1) else 0) := by
              rw [if_neg fu] at eW ⊢
              exact eW
            refine ih (j + 1) z181 W h153 ls181 (jM_pick hl181 [0, 2, 3, 4, 5, 6, 7, 8] rfl) hH153 (hs.tr hs153) (by omega) (by omega) ew2 (fun e he => ?_) (fun x x0 x1 => ?_)
            · rcases Nat.lt_or_ge e j with q | q
              · rw [u153 _ (by omega) (by omega)]
                exact hd e (by omega)
              · have ee : e = j := by omega
                subst ee
                rw [show 96 * (M : Int) + 16 * (i : Int) + (e : Int) = z133.toInt by omega, t153]
                exact es
            · rw [u153 x x0 (by omega)]
              exact ho x x0 x1
          · have g161 := jc2_ne_f hc161
            refine jm_lload_n (x := W) rfl rfl (jM_at hl121 5 rfl) ?_
            refine jm_aload_n (x := P.1 + 60) rfl rfl (jM_at hl121 6 rfl) ?_
            refine jx_gf (i := 60) rfl rfl hH153 (by decide) (hH153.2 60 _ rfl).1 rfl (jx_rf hH153 rfl rfl) ?_
            refine jm_iload (x := X) rfl rfl (jM_at hl121 4 rfl) ?_
            refine jm_iload (x := p) rfl rfl (jM_at hl121 3 rfl) ?_
            refine jm_iload (x := T) rfl rfl (jM_at hl121 1 rfl) ?_
            refine az_X_call (m' := 283) (as := [.int X, .int p, .int T]) (rest := [.ref (P.1 + 98), .long W]) rfl rfl rfl rfl rfl rfl ?_
            refine (so3_ok X p T (by omega) (by omega) (by omega)).mono ?_
            rintro rv175 h175 ⟨q175, z175, rfl, ez175⟩
            subst h175
            show az_X P _ 284 178 ls121 [.int z175, .ref (P.1 + 98), .long W] _ _
            refine jn_lal (i := 98) (x := z175) rfl rfl hH153 (by decide) rfl (by omega) (by show _ < ((6144 : Nat) : Int); omega) (fun z178 ez178 => ?_)
            have eoa := jEo_N (n := n) (Y := Y) (A := (jpA m r n B)) (S := (jst2 a b Y)) (F := (jbt Fm)) hN (by omega) (jrt h0 i j)
            have e9a : min 1000000000 z118.toInt = min 1000000000 (jEo n Y (jpA m r n B) (jst2 a b Y) (jbt Fm) (jpc M - 1) (jbt M) i (jrt h0 i j)) := by
              rw [ez118.2, eoa]
              exact js2_min (c := fun _ t => (jst2 a b Y) t (jrt h0 i j)) (g := fun u t => jEo n Y (jpA m r n B) (jst2 a b Y) (jbt Fm) (jpc Nn - 1) (jbt Nn) u t) (by omega) (fun u t => jEo_nn n Y (jpA m r n B) (jst2 a b Y) (jbt Fm) _ _ u t)
            have esa : (1000000000 : Int64).toInt = min 1000000000 (jEo n Y (jpA m r n B) (jst2 a b Y) (jbt Fm) (jpc M - 1) (jbt M) i (jrt h0 i j)) := by
              omega
            have bE := hE M i (jrt h0 i j)
            have e178 : z178.toInt = min 1000000000 (jEo n Y (jpA m r n B) (jst2 a b Y) (jbt Fm) (jpc M - 1) (jbt M) i (jrt h0 i j)) := by
              rw [ez178, show z175.toInt = z133.toInt by omega, t153]
              exact esa
            refine jn_ladd (a := W) (b := z178) rfl rfl (by omega) (by omega) (fun z179 ez179 => ?_)
            refine jm_lstore_n (l' := [(3, .long z179), (9, .long z118), (8, .int T), (7, .int O), (6, .int p), (5, .int X), (0, .ref (P.1 + 60)), (1, .int Fs), (2, .int N)]) rfl rfl (by decide) hl121 rfl (fun ls180 hl180 => ?_)
            refine jn_iincg (x := T) rfl rfl (by decide) (jM_at hl180 2 rfl) hl180 (by decide) (by omega) (by omega) (fun z181 (ez181 : z181.toInt = T.toInt + 1) ls181 (hl181 : jM [(8, .int z181), (3, .long z179), (9, .long z118), (7, .int O), (6, .int p), (5, .int X), (0, .ref (P.1 + 60)), (1, .int Fs), (2, .int N)] ls181) => ?_)
            refine az_X_step (pc' := 74) (ls' := ls181) (st' := []) (h' := h153) rfl rfl rfl ?_
            have eo := jEo_N (n := n) (Y := Y) (A := (jpA m r n B)) (S := (jst2 a b Y)) (F := (jbt Fm)) hN (by omega) (jrt h0 i j)
            have e9 : min 1000000000 z118.toInt = min 1000000000 (jEo n Y (jpA m r n B) (jst2 a b Y) (jbt Fm) (jpc M - 1) (jbt M) i (jrt h0 i j)) := by
              rw [ez118.2, eo]
              exact js2_min (c := fun _ t => (jst2 a b Y) t (jrt h0 i j)) (g := fun u t => jEo n Y (jpA m r n B) (jst2 a b Y) (jbt Fm) (jpc Nn - 1) (jbt Nn) u t) (by omega) (fun u t => jEo_nn n Y (jpA m r n B) (jst2 a b Y) (jbt Fm) _ _ u t)
            have es : (1000000000 : Int64).toInt = min 1000000000 (jEo n Y (jpA m r n B) (jst2 a b Y) (jbt Fm) (jpc M - 1) (jbt M) i (jrt h0 i j)) := by
              omega
            have ps : jsu (fun c => min 1000000000 (jEo n Y (jpA m r n B) (jst2 a b Y) (jbt Fm) (jpc M - 1) (jbt M) i (jrt h0 i c))) (j + 1) = jsu (fun c => min 1000000000 (jEo n Y (jpA m r n B) (jst2 a b Y) (jbt Fm) (jpc M - 1) (jbt M) i (jrt h0 i c))) j + min 1000000000 (jEo n Y (jpA m r n B) (jst2 a b Y) (jbt Fm) (jpc M - 1) (jbt M) i (jrt h0 i j)) := rfl
            have fu : M + 1 = Z := by omega
            rw [if_pos fu] at eW
            have ew2 : z179.toInt = w0 + (if M + 1 = Z then jsu (fun c => min 1000000000 (jEo n Y (jpA m r n B) (jst2 a b Y) (jbt Fm) (jpc M - 1) (jbt M) i (jrt h0 i c))) (j + 1) else 0) := by
              rw [if_pos fu, ps]
              have q := ez178
              rw [show z175.toInt = z133.toInt by omega, t153] at q
              omega
            refine ih (j + 1) z181 z179 h153 ls181 (jM_pick hl181 [0, 3, 4, 5, 1, 6, 7, 8] rfl) hH153 (hs.tr hs153) (by omega) (by omega) ew2 (fun e he => ?_) (fun x x0 x1 => ?_)
            · rcases Nat.lt_or_ge e j with q | q
              · rw [u153 _ (by omega) (by omega)]
                exact hd e (by omega)
              · have ee : e = j := by omega
                subst ee
                rw [show 96 * (M : Int) + 16 * (i : Int) + (e : Int) = z133.toInt by omega, t153]
                exact es
            · rw [u153 x x0 (by omega)]
              exact ho x x0 x1
      · have g88 := jc1_ne_f hc88
        refine jm_iload_n (x := Fs) rfl rfl (jM_at hl 6 rfl) ?_
        refine jm_iload (x := p) rfl rfl (jM_at hl 2 rfl) ?_
        refine az_X_step (pc' := 95) (ls' := ls) (st' := [.int (Fs >>> (p &&& 31))]) (h' := h) rfl rfl rfl ?_
        refine az_X_step (pc' := 96) (ls' := ls) (st' := [.int 1, .int (Fs >>> (p &&& 31))]) (h' := h) rfl rfl rfl ?_
        refine az_X_step (pc' := 97) (ls' := ls) (st' := [.int ((Fs >>> (p &&& 31)) &&& 1)]) (h' := h) rfl rfl rfl ?_
        have bf := bt_sh (x := Fs) (c := p) (M := Fm) (F := i) eFs hFm ep (by omega)
        refine jn_i2l (a := ((Fs >>> (p &&& 31)) &&& 1)) rfl rfl (fun z97 ez97 => ?_)
        refine az_X_step (pc' := 121) (ls' := ls) (st' := [.long z97]) (h' := h) rfl rfl rfl ?_
        refine jm_lstore (l' := [(9, .long z97), (8, .int T), (7, .int O), (6, .int p), (5, .int X), (3, .long W), (0, .ref (P.1 + 60)), (1, .int Fs), (2, .int N)]) rfl rfl (by decide) hl rfl (fun ls121 hl121 => ?_)
        refine jm_aload_n (x := P.1 + 60) rfl rfl (jM_at hl121 6 rfl) ?_
        refine jx_gf (i := 60) rfl rfl hH (by decide) (hH.2 60 _ rfl).1 rfl (jx_rf hH rfl rfl) ?_
        refine jm_iload (x := X) rfl rfl (jM_at hl121 4 rfl) ?_
        refine jm_iload (x := p) rfl rfl (jM_at hl121 3 rfl) ?_
        refine jm_iload (x := T) rfl rfl (jM_at hl121 1 rfl) ?_
        refine az_X_call (m' := 283) (as := [.int X, .int p, .int T]) (rest := [.ref (P.1 + 98)]) rfl rfl rfl rfl rfl rfl ?_
        refine (so3_ok X p T (by omega) (by omega) (by omega)).mono ?_
        rintro rv133 h133 ⟨q133, z133, rfl, ez133⟩
        subst h133
        show az_X P _ 284 136 ls121 [.int z133, .ref (P.1 + 98)] _ _
        refine jm_lload (x := z97) rfl rfl (jM_at hl121 0 rfl) ?_
        refine az_X_step (pc' := 141) (ls' := ls121) (st' := [.long 1000000000, .long z97, .int z133, .ref (P.1 + 98)]) (h' := h) rfl rfl rfl ?_
        refine jn_lcmp (a := z97) (b := 1000000000) rfl rfl (fun z141 ez141 => ?_)
        refine jx_if (t := 151) rfl rfl rfl (fun hc142 => ?_) (fun hc142 => ?_)
        · have g142 := jc1_le_t hc142
          refine jm_lload (x := z97) rfl rfl (jM_at hl121 0 rfl) ?_
          refine jn_las (i := 98) (x := z133) (v := z97) rfl rfl hH (by decide) rfl (by omega) (by show _ < ((6144 : Nat) : Int); omega) (fun h153 hH153 hs153 t153 u153 => ?_)
          refine jm_iload (x := X) rfl rfl (jM_at hl121 4 rfl) ?_
          refine az_X_step (pc' := 157) (ls' := ls121) (st' := [.int 1, .int X]) (h' := h153) rfl rfl rfl ?_
          refine jm_iload_n (x := N) rfl rfl (jM_at hl121 8 rfl) ?_
          refine az_X_step (pc' := 159) (ls' := ls121) (st' := [.int (1 <<< (N &&& 31)), .int X]) (h' := h153) rfl rfl rfl ?_
          refine az_X_step (pc' := 160) (ls' := ls121) (st' := [.int 1, .int (1 <<< (N &&& 31)), .int X]) (h' := h153) rfl rfl rfl ?_
          have sha := bt_sl (c := N) (N := n) (Z := Z) eN (by omega) eZ
          refine jn_sub (a := (1 <<< (N &&& 31))) (b := 1) rfl rfl (by omega) (by omega) (fun z160 ez160 => ?_)
          rw [show (1 : Int32).toInt = 1 by decide] at ez160
          have fz : (1 : Int) ≤ Z := by omega
          refine jx_ic (t := 181) rfl rfl rfl (fun hc161 => ?_) (fun hc161 => ?_)
          · have g161 := jc2_ne_t hc161
            refine jn_iincg (x := T) rfl rfl (by decide) (jM_at hl121 1 rfl) hl121 (by decide) (by omega) (by omega) (fun z181 (ez181 : z181.toInt = T.toInt + 1) ls181 (hl181 : jM [(8, .int z181), (9, .long z97), (7, .int O), (6, .int p), (5, .int X), (3, .long W), (0, .ref (P.1 + 60)), (1, .int Fs), (2, .int N)] ls181) => ?_)
            refine az_X_step (pc' := 74) (ls' := ls181) (st' := []) (h' := h153) rfl rfl rfl ?_
            have eo := jEo_Z (n := n) (Y := Y) (A := (jpA m r n B)) (S := (jst2 a b Y)) (F := (jbt Fm)) hN (by omega) (jrt h0 i j)
            have bf := bt_sh (x := Fs) (c := p) (M := Fm) (F := i) eFs hFm ep (by omega)
            have e9 : z97.toInt = jEo n Y (jpA m r n B) (jst2 a b Y) (jbt Fm) (jpc M - 1) (jbt M) i (jrt h0 i j) := by rw [ez97, bf, eo]
            have es : z97.toInt = min 1000000000 (jEo n Y (jpA m r n B) (jst2 a b Y) (jbt Fm) (jpc M - 1) (jbt M) i (jrt h0 i j)) := by
              omega
            have ps : jsu (fun c => min 1000000000 (jEo n Y (jpA m r n B) (jst2 a b Y) (jbt Fm) (jpc M - 1) (jbt M) i (jrt h0 i c))) (j + 1) = jsu (fun c => min 1000000000 (jEo n Y (jpA m r n B) (jst2 a b Y) (jbt Fm) (jpc M - 1) (jbt M) i (jrt h0 i c))) j + min 1000000000 (jEo n Y (jpA m r n B) (jst2 a b Y) (jbt Fm) (jpc M - 1) (jbt M) i (jrt h0 i j)) := rfl
            have fu : ¬ M + 1 = Z := by omega
            have ew2 : W.toInt = w0 + (if M + 1 = Z then jsu (fun c => min 1000000000 (jEo n Y (jpA m r n B) (jst2 a b Y) (jbt Fm) (jpc M - 1) (jbt M) i (jrt h0 i c))) (j + 1) else 0) := by
              rw [if_neg fu] at eW ⊢
              exact eW
            refine ih (j + 1) z181 W h153 ls181 (jM_pick hl181 [0, 2, 3, 4, 5, 6, 7, 8] rfl) hH153 (hs.tr hs153) (by omega) (by omega) ew2 (fun e he => ?_) (fun x x0 x1 => ?_)
            · rcases Nat.lt_or_ge e j with q | q
              · rw [u153 _ (by omega) (by omega)]
                exact hd e (by omega)
              · have ee : e = j := by omega
                subst ee
                rw [show 96 * (M : Int) + 16 * (i : Int) + (e : Int) = z133.toInt by omega, t153]
                exact es
            · rw [u153 x x0 (by omega)]
              exact ho x x0 x1
          · have g161 := jc2_ne_f hc161
            refine jm_lload_n (x := W) rfl rfl (jM_at hl121 5 rfl) ?_
            refine jm_aload_n (x := P.1 + 60) rfl rfl (jM_at hl121 6 rfl) ?_
            refine jx_gf (i := 60) rfl rfl hH153 (by decide) (hH153.2 60 _ rfl).1 rfl (jx_rf hH153 rfl rfl) ?_
            refine jm_iload (x := X) rfl rfl (jM_at hl121 4 rfl) ?_
            refine jm_iload (x := p) rfl rfl (jM_at hl121 3 rfl) ?_
            refine jm_iload (x := T) rfl rfl (jM_at hl121 1 rfl) ?_
            refine az_X_call (m' := 283) (as := [.int X, .int p, .int T]) (rest := [.ref (P.1 + 98), .long W]) rfl rfl rfl rfl rfl rfl ?_
            refine (so3_ok X p T (by omega) (by omega) (by omega)).mono ?_
            rintro rv175 h175 ⟨q175, z175, rfl, ez175⟩
            subst h175
            show az_X P _ 284 178 ls121 [.int z175, .ref (P.1 + 98), .long W] _ _
            refine jn_lal (i := 98) (x := z175) rfl rfl hH153 (by decide) rfl (by omega) (by show _ < ((6144 : Nat) : Int); omega) (fun z178 ez178 => ?_)
            have eoa := jEo_Z (n := n) (Y := Y) (A := (jpA m r n B)) (S := (jst2 a b Y)) (F := (jbt Fm)) hN (by omega) (jrt h0 i j)
            have bfa := bt_sh (x := Fs) (c := p) (M := Fm) (F := i) eFs hFm ep (by omega)
            have e9a : z97.toInt = jEo n Y (jpA m r n B) (jst2 a b Y) (jbt Fm) (jpc M - 1) (jbt M) i (jrt h0 i j) := by rw [ez97, bfa, eoa]
            have esa : z97.toInt = min 1000000000 (jEo n Y (jpA m r n B) (jst2 a b Y) (jbt Fm) (jpc M - 1) (jbt M) i (jrt h0 i j)) := by
              omega
            have bE := hE M i (jrt h0 i j)
            have e178 : z178.toInt = min 1000000000 (jEo n Y (jpA m r n B) (jst2 a b Y) (jbt Fm) (jpc M - 1) (jbt M) i (jrt h0 i j)) := by
              rw [ez178, show z175.toInt = z133.toInt by omega, t153]
              exact esa
            refine jn_ladd (a := W) (b := z178) rfl rfl (by omega) (by omega) (fun z179 ez179 => ?_)
            refine jm_lstore_n (l' := [(3, .long z179), (9, .long z97), (8, .int T), (7, .int O), (6, .int p), (5, .int X), (0, .ref (P.1 + 60)), (1, .int Fs), (2, .int N)]) rfl rfl (by decide) hl121 rfl (fun ls180 hl180 => ?_)
            refine jn_iincg (x := T) rfl rfl (by decide) (jM_at hl180 2 rfl) hl180 (by decide) (by omega) (by omega) (fun z181 (ez181 : z181.toInt = T.toInt + 1) ls181 (hl181 : jM [(8, .int z181), (3, .long z179), (9, .long z97), (7, .int O), (6, .int p), (5, .int X), (0, .ref (P.1 + 60)), (1, .int Fs), (2, .int N)] ls181) => ?_)
            refine az_X_step (pc' := 74) (ls' := ls181) (st' := []) (h' := h153) rfl rfl rfl ?_
            have eo := jEo_Z (n := n) (Y := Y) (A := (jpA m r n B)) (S := (jst2 a b Y)) (F := (jbt Fm)) hN (by omega) (jrt h0 i j)
            have bf := bt_sh (x := Fs) (c := p) (M := Fm) (F := i) eFs hFm ep (by omega)
            have e9 : z97.toInt = jEo n Y (jpA m r n B) (jst2 a b Y) (jbt Fm) (jpc M - 1) (jbt M) i (jrt h0 i j) := by rw [ez97, bf, eo]
            have es : z97.toInt = min 1000000000 (jEo n Y (jpA m r n B) (jst2 a b Y) (jbt Fm) (jpc M - 1) (jbt M) i (jrt h0 i j)) := by
              omega
            have ps : jsu (fun c => min 1000000000 (jEo n Y (jpA m r n B) (jst2 a b Y) (jbt Fm) (jpc M - 1) (jbt M) i (jrt h0 i c))) (j + 1) = jsu (fun c => min 1000000000 (jEo n Y (jpA m r n B) (jst2 a b Y) (jbt Fm) (jpc M - 1) (jbt M) i (jrt h0 i c))) j + min 1000000000 (jEo n Y (jpA m r n B) (jst2 a b Y) (jbt Fm) (jpc M - 1) (jbt M) i (jrt h0 i j)) := rfl
            have fu : M + 1 = Z := by omega
            rw [if_pos fu] at eW
            have ew2 : z179.toInt = w0 + (if M + 1 = Z then jsu (fun c => min 1000000000 (jEo n Y (jpA m r n B) (jst2 a b Y) (jbt Fm) (jpc M - 1) (jbt M) i (jrt h0 i c))) (j + 1) else 0) := by
              rw [if_pos fu, ps]
              have q := ez178
              rw [show z175.toInt = z133.toInt by omega, t153] at q
              omega
            refine ih (j + 1) z181 z179 h153 ls181 (jM_pick hl181 [0, 3, 4, 5, 1, 6, 7, 8] rfl) hH153 (hs.tr hs153) (by omega) (by omega) ew2 (fun e he => ?_) (fun x x0 x1 => ?_)
            · rcases Nat.lt_or_ge e j with q | q
              · rw [u153 _ (by omega) (by omega)]
                exact hd e (by omega)
              · have ee : e = j := by omega
                subst ee
                rw [show 96 * (M : Int) + 16 * (i : Int) + (e : Int) = z133.toInt by omega, t153]
                exact es
            · rw [u153 x x0 (by omega)]
              exact ho x x0 x1
        · have g142 := jc1_le_f hc142
          refine az_X_step (pc' := 148) (ls' := ls121) (st' := [.long 1000000000, .int z133, .ref (P.1 + 98)]) (h' := h) rfl rfl rfl ?_
          refine az_X_step (pc' := 153) (ls' := ls121) (st' := [.long 1000000000, .int z133, .ref (P.1 + 98)]) (h' := h) rfl rfl rfl ?_
          refine jn_las (i := 98) (x := z133) (v := 1000000000) rfl rfl hH (by decide) rfl (by omega) (by show _ < ((6144 : Nat) : Int); omega) (fun h153 hH153 hs153 t153 u153 => ?_)
          refine jm_iload (x := X) rfl rfl (jM_at hl121 4 rfl) ?_
          refine az_X_step (pc' := 157) (ls' := ls121) (st' := [.int 1, .int X]) (h' := h153) rfl rfl rfl ?_
          refine jm_iload_n (x := N) rfl rfl (jM_at hl121 8 rfl) ?_
          refine az_X_step (pc' := 159) (ls' := ls121) (st' := [.int (1 <<< (N &&& 31)), .int X]) (h' := h153) rfl rfl rfl ?_
          refine az_X_step (pc' := 160) (ls' := ls121) (st' := [.int 1, .int (1 <<< (N &&& 31)), .int X]) (h' := h153) rfl rfl rfl ?_
          have sha := bt_sl (c := N) (N := n) (Z := Z) eN (by omega) eZ
          refine jn_sub (a := (1 <<< (N &&& 31))) (b := 1) rfl rfl (by omega) (by omega) (fun z160 ez160 => ?_)
          rw [show (1 : Int32).toInt = 1 by decide] at ez160
          have fz : (1 : Int) ≤ Z := by omega
          refine jx_ic (t := 181) rfl rfl rfl (fun hc161 => ?_) (fun hc161 => ?_)
          · have g161 := jc2_ne_t hc161
            refine jn_iincg (x := T) rfl rfl (by decide) (jM_at hl121 1 rfl) hl121 (by decide) (by omega) (by omega) (fun z181 (ez181 : z181.toInt = T.toInt + 1) ls181 (hl181 : jM [(8, .int z181), (9, .long z97), (7, .int O), (6, .int p), (5, .int X), (3, .long W), (0, .ref (P.1 + 60)), (1, .int Fs), (2, .int N)] ls181) => ?_)
            refine az_X_step (pc' := 74) (ls' := ls181) (st' := []) (h' := h153) rfl rfl rfl ?_
            have eo := jEo_Z (n := n) (Y := Y) (A := (jpA m r n B)) (S := (jst2 a b Y)) (F := (jbt Fm)) hN (by omega) (jrt h0 i j)
            have bf := bt_sh (x := Fs) (c := p) (M := Fm) (F := i) eFs hFm ep (by omega)
            have e9 : z97.toInt = jEo n Y (jpA m r n B) (jst2 a b Y) (jbt Fm) (jpc M - 1) (jbt M) i (jrt h0 i j) := by rw [ez97, bf, eo]
            have es : (1000000000 : Int64).toInt = min 1000000000 (jEo n Y (jpA m r n B) (jst2 a b Y) (jbt Fm) (jpc M - 1) (jbt M) i (jrt h0 i j)) := by
              omega
            have ps : jsu (fun c => min 1000000000 (jEo n Y (jpA m r n B) (jst2 a b Y) (jbt Fm) (jpc M - 1) (jbt M) i (jrt h0 i c))) (j + 1) = jsu (fun c => min 1000000000 (jEo n Y (jpA m r n B) (jst2 a b Y) (jbt Fm) (jpc M - 1) (jbt M) i (jrt h0 i c))) j + min 1000000000 (jEo n Y (jpA m r n B) (jst2 a b Y) (jbt Fm) (jpc M - 1) (jbt M) i (jrt h0 i j)) := rfl
            have fu : ¬ M + 1 = Z := by omega
            have ew2 : W.toInt = w0 + (if M + 1 = Z then jsu (fun c => min 1000000000 (jEo n Y (jpA m r n B) (jst2 a b Y) (jbt Fm) (jpc M - 1) (jbt M) i (jrt h0 i c))) (j + 1) else 0) := by
              rw [if_neg fu] at eW ⊢
              exact eW
            refine ih (j + 1) z181 W h153 ls181 (jM_pick hl181 [0, 2, 3, 4, 5, 6, 7, 8] rfl) hH153 (hs.tr hs153) (by omega) (by omega) ew2 (fun e he => ?_) (fun x x0 x1 => ?_)
            · rcases Nat.lt_or_ge e j with q | q
              · rw [u153 _ (by omega) (by omega)]
                exact hd e (by omega)
              · have ee : e = j := by omega
                subst ee
                rw [show 96 * (M : Int) + 16 * (i : Int) + (e : Int) = z133.toInt by omega, t153]
                exact es
            · rw [u153 x x0 (by omega)]
              exact ho x x0 x1
          · have g161 := jc2_ne_f hc161
            refine jm_lload_n (x := W) rfl rfl (jM_at hl121 5 rfl) ?_
            refine jm_aload_n (x := P.1 + 60) rfl rfl (jM_at hl121 6 rfl) ?_
            refine jx_gf (i := 60) rfl rfl hH153 (by decide) (hH153.2 60 _ rfl).1 rfl (jx_rf hH153 rfl rfl) ?_
            refine jm_iload (x := X) rfl rfl (jM_at hl121 4 rfl) ?_
            refine jm_iload (x := p) rfl rfl (jM_at hl121 3 rfl) ?_
            refine jm_iload (x := T) rfl rfl (jM_at hl121 1 rfl) ?_
            refine az_X_call (m' := 283) (as := [.int X, .int p, .int T]) (rest := [.ref (P.1 + 98), .long W]) rfl rfl rfl rfl rfl rfl ?_
            refine (so3_ok X p T (by omega) (by omega) (by omega)).mono ?_
            rintro rv175 h175 ⟨q175, z175, rfl, ez175⟩
            subst h175
            show az_X P _ 284 178 ls121 [.int z175, .ref (P.1 + 98), .long W] _ _
            refine jn_lal (i := 98) (x := z175) rfl rfl hH153 (by decide) rfl (by omega) (by show _ < ((6144 : Nat) : Int); omega) (fun z178 ez178 => ?_)
            have eoa := jEo_Z (n := n) (Y := Y) (A := (jpA m r n B)) (S := (jst2 a b Y)) (F := (jbt Fm)) hN (by omega) (jrt h0 i j)
            have bfa := bt_sh (x := Fs) (c := p) (M := Fm) (F := i) eFs hFm ep (by omega)
            have e9a : z97.toInt = jEo n Y (jpA m r n B) (jst2 a b Y) (jbt Fm) (jpc M - 1) (jbt M) i (jrt h0 i j) := by rw [ez97, bfa, eoa]
            have esa : (1000000000 : Int64).toInt = min 1000000000 (jEo n Y (jpA m r n B) (jst2 a b Y) (jbt Fm) (jpc M - 1) (jbt M) i (jrt h0 i j)) := by
              omega
            have bE := hE M i (jrt h0 i j)
            have e178 : z178.toInt = min 1000000000 (jEo n Y (jpA m r n B) (jst2 a b Y) (jbt Fm) (jpc M - 1) (jbt M) i (jrt h0 i j)) := by
              rw [ez178, show z175.toInt = z133.toInt by omega, t153]
              exact esa
            refine jn_ladd (a := W) (b := z178) rfl rfl (by omega) (by omega) (fun z179 ez179 => ?_)
            refine jm_lstore_n (l' := [(3, .long z179), (9, .long z97), (8, .int T), (7, .int O), (6, .int p), (5, .int X), (0, .ref (P.1 + 60)), (1, .int Fs), (2, .int N)]) rfl rfl (by decide) hl121 rfl (fun ls180 hl180 => ?_)
            refine jn_iincg (x := T) rfl rfl (by decide) (jM_at hl180 2 rfl) hl180 (by decide) (by omega) (by omega) (fun z181 (ez181 : z181.toInt = T.toInt + 1) ls181 (hl181 : jM [(8, .int z181), (3, .long z179), (9, .long z97), (7, .int O), (6, .int p), (5, .int X), (0, .ref (P.1 + 60)), (1, .int Fs), (2, .int N)] ls181) => ?_)
            refine az_X_step (pc' := 74) (ls' := ls181) (st' := []) (h' := h153) rfl rfl rfl ?_
            have eo := jEo_Z (n := n) (Y := Y) (A := (jpA m r n B)) (S := (jst2 a b Y)) (F := (jbt Fm)) hN (by omega) (jrt h0 i j)
            have bf := bt_sh (x := Fs) (c := p) (M := Fm) (F := i) eFs hFm ep (by omega)
            have e9 : z97.toInt = jEo n Y (jpA m r n B) (jst2 a b Y) (jbt Fm) (jpc M - 1) (jbt M) i (jrt h0 i j) := by rw [ez97, bf, eo]
            have es : (1000000000 : Int64).toInt = min 1000000000 (jEo n Y (jpA m r n B) (jst2 a b Y) (jbt Fm) (jpc M - 1) (jbt M) i (jrt h0 i j)) := by
              omega
            have ps : jsu (fun c => min 1000000000 (jEo n Y (jpA m r n B) (jst2 a b Y) (jbt Fm) (jpc M - 1) (jbt M) i (jrt h0 i c))) (j + 1) = jsu (fun c => min 1000000000 (jEo n Y (jpA m r n B) (jst2 a b Y) (jbt Fm) (jpc M - 1) (jbt M) i (jrt h0 i c))) j + min 1000000000 (jEo n Y (jpA m r n B) (jst2 a b Y) (jbt Fm) (jpc M - 1) (jbt M) i (jrt h0 i j)) := rfl
            have fu : M + 1 = Z := by omega
            rw [if_pos fu] at eW
            have ew2 : z179.toInt = w0 + (if M + 1 = Z then jsu (fun c => min 1000000000 (jEo n Y (jpA m r n B) (jst2 a b Y) (jbt Fm) (jpc M - 1) (jbt M) i (jrt h0 i c))) (j + 1) else 0) := by
              rw [if_pos fu, ps]
              have q := ez178
              rw [show z175.toInt = z133.toInt by omega, t153] at q
              omega
            refine ih (j + 1) z181 z179 h153 ls181 (jM_pick hl181 [0, 3, 4, 5, 1, 6, 7, 8] rfl) hH153 (hs.tr hs153) (by omega) (by omega) ew2 (fun e he => ?_) (fun x x0 x1 => ?_)
            · rcases Nat.lt_or_ge e j with q | q
              · rw [u153 _ (by omega) (by omega)]
                exact hd e (by omega)
              · have ee : e = j := by omega
                subst ee
                rw [show 96 * (M : Int) + 16 * (i : Int) + (e : Int) = z133.toInt by omega, t153]
                exact es
            · rw [u153 x x0 (by omega)]
              exact ho x x0 x1
theorem rf_p {P : si_P} (hxa : P.2.1 < P.1) {d : Nat} {h0 : si_H} {m r : Int} {Y n : Nat} {B : Nat → Int} {a b : Int} (rx : jRX h0 m r Y n B a b) (hn6 : n ≤ 6) (rt : jRT h0 n Y (jpA m r n B)) (r93 : ∀ x : Nat, x < Y → ja h0 93 x = jb ((jst2 a b Y) 0 x)) (Fs N : Int32) {Fm Z : Nat} (eFs : Fs.toInt = Fm) (hFm : Fm < 64) (eN : N.toInt = n) (eZ : Z = 2 ^ n) (X : Int32) {K : Nat} (eX : X.toInt = K) (hK1 : 1 ≤ K) (hK : K < Z) {Q : Option Value → si_H → Prop} (cont : ∀ (W : Int64) (h : si_H) (ls : si_L), jM [(5, .int X), (3, .long W), (0, .ref (P.1 + 60)), (1, .int Fs), (2, .int N)] ls → az_HI P az_tb h → az_same_out [(98, 1000000)] h0 h → (0 ≤ W.toInt ∧ W.toInt ≤ 72000000000) → W.toInt = (if K + 1 = Z then jsu (fun i => jsu (fun t => if (jbt K i && jpA m r n B i t) = true then min 1000000000 (jEo n Y (jpA m r n B) (jst2 a b Y) (jbt Fm) (jpc K - 1) (jbt K) i t) else 0) Y) n else 0) → (∀ M i : Nat, 1 ≤ M → i < n → jbt M i = true → M < K + 1 → ∀ e : Nat, (e : Int) < ja h0 97 i → jl h 98 (96 * (M : Int) + 16 * (i : Int) + e) = min 1000000000 (jEo n Y (jpA m r n B) (jst2 a b Y) (jbt Fm) (jpc M - 1) (jbt M) i (jrt h0 i e))) → az_X P (d + 3) 284 193 ls [] h Q) : ∀ (k j : Nat) (p : Int32) (W : Int64) (h : si_H) (ls : si_L), jM [(6, .int p), (5, .int X), (3, .long W), (0, .ref (P.1 + 60)), (1, .int Fs), (2, .int N)] ls → az_HI P az_tb h → az_same_out [(98, 1000000)] h0 h → p.toInt = j → j + k = n → W.toInt = (if K + 1 = Z then jsu (fun i => jsu (fun t => if (jbt K i && jpA m r n B i t) = true then min 1000000000 (jEo n Y (jpA m r n B) (jst2 a b Y) (jbt Fm) (jpc K - 1) (jbt K) i t) else 0) Y) j else 0) → 0 ≤ W.toInt ∧ W.toInt ≤ 12000000000 * (j : Int) → (∀ M i : Nat, 1 ≤ M → i < n → jbt M i = true → (M < K ∨ (M = K ∧ i < j)) → ∀ e : Nat, (e : Int) < ja h0 97 i → jl h 98 (96 * (M : Int) + 16 * (i : Int) + e) = min 1000000000 (jEo n Y (jpA m r n B) (jst2 a b Y) (jbt Fm) (jpc M - 1) (jbt M) i (jrt h0 i e))) → az_X P (d + 3) 284 41 ls [] h (Q) := by
  have rx0 := rx
  obtain ⟨c1, c2, c3, c4, c5, c6, c7, c8, c9, c10, c11⟩ := rx
  obtain ⟨zf1, zf2, zf3, zf4⟩ := jfl (n := n) (by omega) hn6 eZ
  intro k
  induction k with
  | zero =>
    intro j p W h ls hl hH hs ep hj eW bW hd
    refine jm_iload (x := p) rfl rfl (jM_at hl 0 rfl) ?_
    refine jm_iload_n (x := N) rfl rfl (jM_at hl 5 rfl) ?_
    refine jx_ic (t := 193) rfl rfl rfl (fun hc44 => ?_) (fun hc44 => ?_)
    · have g44 := jc2_ge_t hc44
      exact cont W h ls (jM_pick hl [1, 2, 3, 4, 5] rfl) hH hs (by omega) (by rw [eW, show j = n by omega]) (fun M i m1 i1 b1 c1 e he => hd M i m1 i1 b1 (by omega) e he)
    · have g44 := jc2_ge_f hc44
      exfalso
      omega
  | succ k ih =>
    intro j p W h ls hl hH hs ep hj eW bW hd
    have km1 : ((-1) : Int32).toInt = (-1) := by decide
    have k0 : (0 : Int32).toInt = 0 := by decide
    have k1 : (1 : Int32).toInt = 1 := by decide
    refine jm_iload (x := p) rfl rfl (jM_at hl 0 rfl) ?_
    refine jm_iload_n (x := N) rfl rfl (jM_at hl 5 rfl) ?_
    refine jx_ic (t := 193) rfl rfl rfl (fun hc44 => ?_) (fun hc44 => ?_)
    · have g44 := jc2_ge_t hc44
      exfalso
      omega
    · have g44 := jc2_ge_f hc44
      refine jm_iload (x := X) rfl rfl (jM_at hl 1 rfl) ?_
      refine jm_iload (x := p) rfl rfl (jM_at hl 0 rfl) ?_
      refine az_X_call (m' := 206) (as := [.int X, .int p]) (rest := []) rfl rfl rfl rfl rfl rfl ?_
      refine (oh_ok X p (M := K) (F := j) eX (by omega) ep (by omega)).mono ?_
      rintro rv51 h51 ⟨q51, z51, rfl, ez51⟩
      subst h51
      show az_X P _ 284 54 ls [.int z51] _ _
      refine jx_if (t := 60) rfl rfl rfl (fun hc54 => ?_) (fun hc54 => ?_)
      · have g54 := jc1_ne_t hc54
        refine jm_iload (x := X) rfl rfl (jM_at hl 1 rfl) ?_
        refine az_X_step (pc' := 63) (ls' := ls) (st' := [.int 1, .int X]) (h' := h) rfl rfl rfl ?_
        refine jm_iload (x := p) rfl rfl (jM_at hl 0 rfl) ?_
        refine az_X_step (pc' := 66) (ls' := ls) (st' := [.int (1 <<< (p &&& 31)), .int X]) (h' := h) rfl rfl rfl ?_
        refine az_X_step (pc' := 67) (ls' := ls) (st' := [.int (-1), .int (1 <<< (p &&& 31)), .int X]) (h' := h) rfl rfl rfl ?_
        refine az_X_step (pc' := 68) (ls' := ls) (st' := [.int ((1 <<< (p &&& 31)) ^^^ (-1)), .int X]) (h' := h) rfl rfl rfl ?_
        refine az_X_step (pc' := 69) (ls' := ls) (st' := [.int (X &&& ((1 <<< (p &&& 31)) ^^^ (-1)))]) (h' := h) rfl rfl rfl ?_
        refine jm_istoreg (l' := [(7, .int (X &&& ((1 <<< (p &&& 31)) ^^^ (-1)))), (6, .int p), (5, .int X), (3, .long W), (0, .ref (P.1 + 60)), (1, .int Fs), (2, .int N)]) rfl rfl (by decide) hl rfl (fun ls69 hl69 => ?_)
        refine az_X_step (pc' := 72) (ls' := ls69) (st' := [.int 0]) (h' := h) rfl rfl rfl ?_
        refine jm_istoreg (l' := [(8, .int 0), (7, .int (X &&& ((1 <<< (p &&& 31)) ^^^ (-1)))), (6, .int p), (5, .int X), (3, .long W), (0, .ref (P.1 + 60)), (1, .int Fs), (2, .int N)]) rfl rfl (by decide) hl69 rfl (fun ls72 hl72 => ?_)
        have ps : jsu (fun i => jsu (fun t => if (jbt K i && jpA m r n B i t) = true then min 1000000000 (jEo n Y (jpA m r n B) (jst2 a b Y) (jbt Fm) (jpc K - 1) (jbt K) i t) else 0) Y) (j + 1) = jsu (fun i => jsu (fun t => if (jbt K i && jpA m r n B i t) = true then min 1000000000 (jEo n Y (jpA m r n B) (jst2 a b Y) (jbt Fm) (jpc K - 1) (jbt K) i t) else 0) Y) j + jsu (fun t => if (jbt K j && jpA m r n B j t) = true then min 1000000000 (jEo n Y (jpA m r n B) (jst2 a b Y) (jbt Fm) (jpc K - 1) (jbt K) j t) else 0) Y := rfl
        have l1 := (rt j (by omega)).1
        have yb : jbt K j = true := by
          by_cases e : jbt K j = true
          · exact e
          · rw [ez51] at g54
            unfold jb at g54
            rw [if_neg e] at g54
            exact absurd rfl g54
        have hN := jLE_mk (M := K) (f := j) (by omega) (by omega) yb
        have hN1 := hN.1
        refine rf_k (d := d) hxa rx0 hn6 rt r93 Fs N eFs hFm eN eZ (h1 := h) hs X p (X &&& ((1 <<< (p &&& 31)) ^^^ (-1))) (M := K) (i := j) (Nn := K - 2 ^ j) eX hK ep (by omega) yb hN (bt_and eX (by omega) ep (by omega) yb) (fun u hu hb e he => ?_) W.toInt (by omega) (fun W1 h1 ls1 hl1 hH1 hs1 b1 e1 d1 o1 => ?_) (ja h0 97 j).toNat 0 0 W h ls72 (jM_pick hl72 [0, 1, 2, 3, 4, 5, 6, 7] rfl) hH hs (by decide) (by omega) (by show W.toInt = W.toInt + (if K + 1 = Z then 0 else 0); split <;> omega) (fun e he => absurd he (by omega)) (fun _ _ _ => rfl)
        · have nz : K - 2 ^ j ≠ 0 := fun e => by
            rw [e] at hb
            exact jbt_0 u hb
          exact hd (K - 2 ^ j) u (by omega) hu hb (Or.inl (by omega)) e he
        · have q := (rt j (by omega)).2.2 (fun t => min 1000000000 (jEo n Y (jpA m r n B) (jst2 a b Y) (jbt Fm) (jpc K - 1) (jbt K) j t))
          have ew2 : W1.toInt = (if K + 1 = Z then jsu (fun i => jsu (fun t => if (jbt K i && jpA m r n B i t) = true then min 1000000000 (jEo n Y (jpA m r n B) (jst2 a b Y) (jbt Fm) (jpc K - 1) (jbt K) i t) else 0) Y) (j + 1) else 0) := by
            rw [e1, eW]
            by_cases fu : K + 1 = Z
            · rw [if_pos fu, if_pos fu, if_pos fu, ps, js_yes yb, q]
            · rw [if_neg fu, if_neg fu, if_neg fu]
              rfl
          refine jn_iincg (x := p) rfl rfl (by decide) (jM_at hl1 0 rfl) hl1 (by decide) (by omega) (by omega) (fun z187 (ez187 : z187.toInt = p.toInt + 1) ls187 (hl187 : jM [(6, .int z187), (5, .int X), (3, .long W1), (0, .ref (P.1 + 60)), (1, .int Fs), (2, .int N)] ls187) => ?_)
          refine az_X_step (pc' := 41) (ls' := ls187) (st' := []) (h' := h1) rfl rfl rfl ?_
          refine ih (j + 1) z187 W1 h1 ls187 (jM_pick hl187 [0, 1, 2, 3, 4, 5] rfl) hH1 hs1 (by omega) (by omega) ew2 (by omega) (fun M i m1 i1 b1 c1 e he => ?_)
          have l2 := (rt i i1).1
          by_cases q2 : M = K ∧ i = j
          · obtain ⟨a1, a2⟩ := q2
            subst a1
            subst a2
            exact d1 e he
          · rw [o1 _ (by omega) (by omega)]
            exact hd M i m1 i1 b1 (by omega) e he
      · have g54 := jc1_ne_f hc54
        refine az_X_step (pc' := 187) (ls' := ls) (st' := []) (h' := h) rfl rfl rfl ?_
        refine jn_iincg (x := p) rfl rfl (by decide) (jM_at hl 0 rfl) hl (by decide) (by omega) (by omega) (fun z187 (ez187 : z187.toInt = p.toInt + 1) ls187 (hl187 : jM [(6, .int z187), (5, .int X), (3, .long W), (0, .ref (P.1 + 60)), (1, .int Fs), (2, .int N)] ls187) => ?_)
        refine az_X_step (pc' := 41) (ls' := ls187) (st' := []) (h' := h) rfl rfl rfl ?_
        have ps : jsu (fun i => jsu (fun t => if (jbt K i && jpA m r n B i t) = true then min 1000000000 (jEo n Y (jpA m r n B) (jst2 a b Y) (jbt Fm) (jpc K - 1) (jbt K) i t) else 0) Y) (j + 1) = jsu (fun i => jsu (fun t => if (jbt K i && jpA m r n B i t) = true then min 1000000000 (jEo n Y (jpA m r n B) (jst2 a b Y) (jbt Fm) (jpc K - 1) (jbt K) i t) else 0) Y) j + jsu (fun t => if (jbt K j && jpA m r n B j t) = true then min 1000000000 (jEo n Y (jpA m r n B) (jst2 a b Y) (jbt Fm) (jpc K - 1) (jbt K) j t) else 0) Y := rfl
        have nb : ¬ jbt K j = true := fun e => by
          rw [ez51, e] at g54
          exact absurd g54 (by decide)
        refine ih (j + 1) z187 W h ls187 (jM_pick hl187 [0, 1, 2, 3, 4, 5] rfl) hH hs (by omega) (by omega) (by rw [ps, js_no nb, Int.add_zero]; exact eW) (by omega) (fun M i m1 i1 b1 c1 e he => hd M i m1 i1 b1 ?_ e he)
        rcases c1 with c | ⟨c, c2⟩
        · exact Or.inl c
        · refine Or.inr ⟨c, ?_⟩
          by_cases e2 : i = j
          · subst e2
            subst c
            exact absurd b1 nb
          · omega
theorem rf_x {P : si_P} (hxa : P.2.1 < P.1) {d : Nat} {h0 : si_H} {m r : Int} {Y n : Nat} {B : Nat → Int} {a b : Int} (rx : jRX h0 m r Y n B a b) (hn6 : n ≤ 6) (rt : jRT h0 n Y (jpA m r n B)) (r93 : ∀ x : Nat, x < Y → ja h0 93 x = jb ((jst2 a b Y) 0 x)) (Fs N : Int32) {Fm Z : Nat} (eFs : Fs.toInt = Fm) (hFm : Fm < 64) (eN : N.toInt = n) (eZ : Z = 2 ^ n) : ∀ (k j : Nat) (X : Int32) (W : Int64) (h : si_H) (ls : si_L), jM [(5, .int X), (3, .long W), (0, .ref (P.1 + 60)), (1, .int Fs), (2, .int N)] ls → az_HI P az_tb h → az_same_out [(98, 1000000)] h0 h → X.toInt = j → 1 ≤ j → j + k = Z → W.toInt = (if j = Z then jsu (fun i => jsu (fun t => if (jbt (Z - 1) i && jpA m r n B i t) = true then min 1000000000 (jEo n Y (jpA m r n B) (jst2 a b Y) (jbt Fm) (jpc (Z - 1) - 1) (jbt (Z - 1)) i t) else 0) Y) n else 0) → 0 ≤ W.toInt ∧ W.toInt ≤ 72000000000 → (∀ M i : Nat, 1 ≤ M → i < n → jbt M i = true → M < j → ∀ e : Nat, (e : Int) < ja h0 97 i → jl h 98 (96 * (M : Int) + 16 * (i : Int) + e) = min 1000000000 (jEo n Y (jpA m r n B) (jst2 a b Y) (jbt Fm) (jpc M - 1) (jbt M) i (jrt h0 i e))) → az_X P (d + 3) 284 30 ls [] h (fun rv h' => ∃ z : Int64, rv = some (.long z) ∧ az_HI P az_tb h' ∧ az_same_out [(98, 1000000)] h0 h' ∧ z.toInt = min 1000000000 (js2 n Y (fun i => jbt (Z - 1) i && jbt Fm i) (jpA m r n B) (fun i t => jGo n Y (jpA m r n B) (jst2 a b Y) (n - 1) (jbt (Z - 1)) i t))) := by
  have rx0 := rx
  obtain ⟨c1, c2, c3, c4, c5, c6, c7, c8, c9, c10, c11⟩ := rx
  obtain ⟨zf1, zf2, zf3, zf4⟩ := jfl (n := n) (by omega) hn6 eZ
  intro k
  induction k with
  | zero =>
    intro j X W h ls hl hH hs eX j1 hj eW bW hd
    have k0 : (0 : Int32).toInt = 0 := by decide
    have k1 : (1 : Int32).toInt = 1 := by decide
    have kl1000000000 : (1000000000 : Int64).toInt = 1000000000 := by decide
    refine jm_iload (x := X) rfl rfl (jM_at hl 0 rfl) ?_
    refine az_X_step (pc' := 33) (ls' := ls) (st' := [.int 1, .int X]) (h' := h) rfl rfl rfl ?_
    refine jm_iload_n (x := N) rfl rfl (jM_at hl 4 rfl) ?_
    refine az_X_step (pc' := 35) (ls' := ls) (st' := [.int (1 <<< (N &&& 31)), .int X]) (h' := h) rfl rfl rfl ?_
    have sh := bt_sl (c := N) (N := n) (Z := Z) eN (by omega) eZ
    refine jx_ic (t := 199) rfl rfl rfl (fun hc35 => ?_) (fun hc35 => ?_)
    · have g35 := jc2_ge_t hc35
      refine jm_lload_n (x := W) rfl rfl (jM_at hl 1 rfl) ?_
      refine az_X_step (pc' := 203) (ls' := ls) (st' := [.long 1000000000, .long W]) (h' := h) rfl rfl rfl ?_
      refine jn_lcmp (a := W) (b := 1000000000) rfl rfl (fun z203 ez203 => ?_)
      refine jx_if (t := 213) rfl rfl rfl (fun hc204 => ?_) (fun hc204 => ?_)
      · have g204 := jc1_le_t hc204
        refine jm_lload_n (x := W) rfl rfl (jM_at hl 1 rfl) ?_
        refine jn_retl rfl rfl rfl ?_
        have tot : min 1000000000 W.toInt = min 1000000000 (js2 n Y (fun i => jbt (Z - 1) i && jbt Fm i) (jpA m r n B) (fun i t => jGo n Y (jpA m r n B) (jst2 a b Y) (n - 1) (jbt (Z - 1)) i t)) := by
          have e0 : W.toInt = js2 n Y (jbt (Z - 1)) (jpA m r n B) (fun i t => min 1000000000 (jEo n Y (jpA m r n B) (jst2 a b Y) (jbt Fm) (jpc (Z - 1) - 1) (jbt (Z - 1)) i t)) := by
            rw [eW, if_pos (show j = Z by omega)]
            rfl
          rw [e0, js2_min0 (g := fun i t => jEo n Y (jpA m r n B) (jst2 a b Y) (jbt Fm) (jpc (Z - 1) - 1) (jbt (Z - 1)) i t) (by omega) (fun i t => jEo_nn n Y (jpA m r n B) (jst2 a b Y) (jbt Fm) _ _ i t), zf3]
          rw [jorders n Y (jpA m r n B) (jst2 a b Y) (jbt Fm) (n - 1) (jbt (Z - 1))]
        exact ⟨W, rfl, hH, hs, by rw [← tot]; omega⟩
      · have g204 := jc1_le_f hc204
        refine az_X_step (pc' := 210) (ls' := ls) (st' := [.long 1000000000]) (h' := h) rfl rfl rfl ?_
        refine az_X_step (pc' := 214) (ls' := ls) (st' := [.long 1000000000]) (h' := h) rfl rfl rfl ?_
        refine jn_retl rfl rfl rfl ?_
        have tot : min 1000000000 W.toInt = min 1000000000 (js2 n Y (fun i => jbt (Z - 1) i && jbt Fm i) (jpA m r n B) (fun i t => jGo n Y (jpA m r n B) (jst2 a b Y) (n - 1) (jbt (Z - 1)) i t)) := by
          have e0 : W.toInt = js2 n Y (jbt (Z - 1)) (jpA m r n B) (fun i t => min 1000000000 (jEo n Y (jpA m r n B) (jst2 a b Y) (jbt Fm) (jpc (Z - 1) - 1) (jbt (Z - 1)) i t)) := by
            rw [eW, if_pos (show j = Z by omega)]
            rfl
          rw [e0, js2_min0 (g := fun i t => jEo n Y (jpA m r n B) (jst2 a b Y) (jbt Fm) (jpc (Z - 1) - 1) (jbt (Z - 1)) i t) (by omega) (fun i t => jEo_nn n Y (jpA m r n B) (jst2 a b Y) (jbt Fm) _ _ i t), zf3]
          rw [jorders n Y (jpA m r n B) (jst2 a b Y) (jbt Fm) (n - 1) (jbt (Z - 1))]
        exact ⟨1000000000, rfl, hH, hs, by rw [← tot]; omega⟩
    · have g35 := jc2_ge_f hc35
      exfalso
      omega
  | succ k ih =>
    intro j X W h ls hl hH hs eX j1 hj eW bW hd
    have k0 : (0 : Int32).toInt = 0 := by decide
    have k1 : (1 : Int32).toInt = 1 := by decide
    refine jm_iload (x := X) rfl rfl (jM_at hl 0 rfl) ?_
    refine az_X_step (pc' := 33) (ls' := ls) (st' := [.int 1, .int X]) (h' := h) rfl rfl rfl ?_
    refine jm_iload_n (x := N) rfl rfl (jM_at hl 4 rfl) ?_
    refine az_X_step (pc' := 35) (ls' := ls) (st' := [.int (1 <<< (N &&& 31)), .int X]) (h' := h) rfl rfl rfl ?_
    have sh := bt_sl (c := N) (N := n) (Z := Z) eN (by omega) eZ
    refine jx_ic (t := 199) rfl rfl rfl (fun hc35 => ?_) (fun hc35 => ?_)
    · have g35 := jc2_ge_t hc35
      exfalso
      omega
    · have g35 := jc2_ge_f hc35
      refine az_X_step (pc' := 39) (ls' := ls) (st' := [.int 0]) (h' := h) rfl rfl rfl ?_
      refine jm_istoreg (l' := [(6, .int 0), (5, .int X), (3, .long W), (0, .ref (P.1 + 60)), (1, .int Fs), (2, .int N)]) rfl rfl (by decide) hl rfl (fun ls39 hl39 => ?_)
      refine rf_p (d := d) hxa rx0 hn6 rt r93 Fs N eFs hFm eN eZ X (K := j) eX j1 (by omega) (fun W1 h1 ls1 hl1 hH1 hs1 b1 e1 d1 => ?_) n 0 0 W h ls39 (jM_pick hl39 [0, 1, 2, 3, 4, 5] rfl) hH hs (by decide) (by omega) (by rw [eW, if_neg (show ¬ j = Z by omega)]; show (0 : Int) = (if j + 1 = Z then 0 else 0); split <;> rfl) (by rw [eW, if_neg (show ¬ j = Z by omega)]; omega) (fun M i m1 i1 b1 c1 e he => hd M i m1 i1 b1 (by omega) e he)
      refine jn_iincg (x := X) rfl rfl (by decide) (jM_at hl1 0 rfl) hl1 (by decide) (by omega) (by omega) (fun z193 (ez193 : z193.toInt = X.toInt + 1) ls193 (hl193 : jM [(5, .int z193), (3, .long W1), (0, .ref (P.1 + 60)), (1, .int Fs), (2, .int N)] ls193) => ?_)
      refine az_X_step (pc' := 30) (ls' := ls193) (st' := []) (h' := h1) rfl rfl rfl ?_
      refine ih (j + 1) z193 W1 h1 ls193 (jM_pick hl193 [0, 1, 2, 3, 4] rfl) hH1 hs1 (by omega) (by omega) (by omega) ?_ b1 (fun M i m1 i1 b1 c1 e he => d1 M i m1 i1 b1 (by omega) e he)
      rw [e1]
      by_cases fu : j + 1 = Z
      · rw [if_pos fu, if_pos fu, show Z - 1 = j by omega]
      · rw [if_neg fu, if_neg fu]
theorem rf_c {P : si_P} (hxa : P.2.1 < P.1) {d : Nat} {h0 : si_H} {m r : Int} {Y n : Nat} {B : Nat → Int} {a b : Int} (rx : jRX h0 m r Y n B a b) (hn6 : n ≤ 6) (rt : jRT h0 n Y (jpA m r n B)) (r93 : ∀ x : Nat, x < Y → ja h0 93 x = jb ((jst2 a b Y) 0 x)) (Fs N : Int32) {Fm Z : Nat} (eFs : Fs.toInt = Fm) (hFm : Fm < 64) (eN : N.toInt = n) (eZ : Z = 2 ^ n) : ∀ (k j : Nat) (T : Int32) (h : si_H) (ls : si_L), jM [(5, .int T), (3, .long 0), (0, .ref (P.1 + 60)), (1, .int Fs), (2, .int N)] ls → az_HI P az_tb h → az_same_out [(98, 1000000)] h0 h → T.toInt = j → j + k = 6144 → az_X P (d + 3) 284 5 ls [] h (fun rv h' => ∃ z : Int64, rv = some (.long z) ∧ az_HI P az_tb h' ∧ az_same_out [(98, 1000000)] h0 h' ∧ z.toInt = min 1000000000 (js2 n Y (fun i => jbt (Z - 1) i && jbt Fm i) (jpA m r n B) (fun i t => jGo n Y (jpA m r n B) (jst2 a b Y) (n - 1) (jbt (Z - 1)) i t))) := by
  have rx0 := rx
  obtain ⟨c1, c2, c3, c4, c5, c6, c7, c8, c9, c10, c11⟩ := rx
  obtain ⟨zf1, zf2, zf3, zf4⟩ := jfl (n := n) (by omega) hn6 eZ
  intro k
  induction k with
  | zero =>
    intro j T h ls hl hH hs eT hj
    have k1 : (1 : Int32).toInt = 1 := by decide
    have k6144 : (6144 : Int32).toInt = 6144 := by decide
    refine jm_iload (x := T) rfl rfl (jM_at hl 0 rfl) ?_
    refine az_X_step (pc' := 10) (ls' := ls) (st' := [.int 6144, .int T]) (h' := h) rfl rfl rfl ?_
    refine jx_ic (t := 27) rfl rfl rfl (fun hc10 => ?_) (fun hc10 => ?_)
    · have g10 := jc2_ge_t hc10
      refine az_X_step (pc' := 28) (ls' := ls) (st' := [.int 1]) (h' := h) rfl rfl rfl ?_
      refine jm_istoreg (l' := [(5, .int 1), (3, .long 0), (0, .ref (P.1 + 60)), (1, .int Fs), (2, .int N)]) rfl rfl (by decide) hl rfl (fun ls28 hl28 => ?_)
      refine rf_x (d := d) hxa rx0 hn6 rt r93 Fs N eFs hFm eN eZ (Z - 1) 1 1 0 h ls28 (jM_pick hl28 [0, 1, 2, 3, 4] rfl) hH hs (by decide) (by omega) (by omega) (by rw [if_neg (show ¬ 1 = Z by omega)]; decide) (by decide) (fun M i m1 i1 b1 c1 e he => absurd c1 (by omega))
    · have g10 := jc2_ge_f hc10
      exfalso
      omega
  | succ k ih =>
    intro j T h ls hl hH hs eT hj
    have k6144 : (6144 : Int32).toInt = 6144 := by decide
    have kl0 : (0 : Int64).toInt = 0 := by decide
    refine jm_iload (x := T) rfl rfl (jM_at hl 0 rfl) ?_
    refine az_X_step (pc' := 10) (ls' := ls) (st' := [.int 6144, .int T]) (h' := h) rfl rfl rfl ?_
    refine jx_ic (t := 27) rfl rfl rfl (fun hc10 => ?_) (fun hc10 => ?_)
    · have g10 := jc2_ge_t hc10
      exfalso
      omega
    · have g10 := jc2_ge_f hc10
      refine jm_aload_n (x := P.1 + 60) rfl rfl (jM_at hl 2 rfl) ?_
      refine jx_gf (i := 60) rfl rfl hH (by decide) (hH.2 60 _ rfl).1 rfl (jx_rf hH rfl rfl) ?_
      refine jm_iload (x := T) rfl rfl (jM_at hl 0 rfl) ?_
      refine az_X_step (pc' := 20) (ls' := ls) (st' := [.long 0, .int T, .ref (P.1 + 98)]) (h' := h) rfl rfl rfl ?_
      refine jn_las (i := 98) (x := T) (v := 0) rfl rfl hH (by decide) rfl (by omega) (by show _ < ((6144 : Nat) : Int); omega) (fun h20 hH20 hs20 t20 u20 => ?_)
      refine jn_iincg (x := T) rfl rfl (by decide) (jM_at hl 0 rfl) hl (by decide) (by omega) (by omega) (fun z21 (ez21 : z21.toInt = T.toInt + 1) ls21 (hl21 : jM [(5, .int z21), (3, .long 0), (0, .ref (P.1 + 60)), (1, .int Fs), (2, .int N)] ls21) => ?_)
      refine az_X_step (pc' := 5) (ls' := ls21) (st' := []) (h' := h20) rfl rfl rfl ?_
      exact ih (j + 1) z21 h20 ls21 (jM_pick hl21 [0, 1, 2, 3, 4] rfl) hH20 (hs.tr (hs20.sub (by decide))) (by omega) (by omega)
theorem rf_ok {P : si_P} (hxa : P.2.1 < P.1) {d : Nat} {h0 : si_H} {m r : Int} {Y n : Nat} {B : Nat → Int} {a b : Int} (rx : jRX h0 m r Y n B a b) (hn6 : n ≤ 6) (rt : jRT h0 n Y (jpA m r n B)) (r93 : ∀ x : Nat, x < Y → ja h0 93 x = jb ((jst2 a b Y) 0 x)) (Fs N : Int32) {Fm Z : Nat} (eFs : Fs.toInt = Fm) (hFm : Fm < 64) (eN : N.toInt = n) (eZ : Z = 2 ^ n) (hH : az_HI P az_tb h0) : az_X P (d + 3) 284 0 (lv_args 0 [.ref (P.1 + 60), .int Fs, .int N]) [] h0 (fun rv h' => ∃ z : Int64, rv = some (.long z) ∧ az_HI P az_tb h' ∧ az_same_out [(98, 1000000)] h0 h' ∧ z.toInt = min 1000000000 (js2 n Y (fun i => jbt (Z - 1) i && jbt Fm i) (jpA m r n B) (fun i t => jGo n Y (jpA m r n B) (jst2 a b Y) (n - 1) (jbt (Z - 1)) i t))) := by
  have hl : jM [(0, .ref (P.1 + 60)), (1, .int Fs), (2, .int N)] (lv_args 0 [.ref (P.1 + 60), .int Fs, .int N]) := jM_args [0, 1, 2] rfl (by decide)
  generalize lv_args 0 [.ref (P.1 + 60), .int Fs, .int N] = ls at hl
  have k0 : (0 : Int32).toInt = 0 := by decide
  have kl0 : (0 : Int64).toInt = 0 := by decide
  refine az_X_step (pc' := 1) (ls' := ls) (st' := [.long 0]) (h' := h0) rfl rfl rfl ?_
  refine jm_lstore_n (l' := [(3, .long 0), (0, .ref (P.1 + 60)), (1, .int Fs), (2, .int N)]) rfl rfl (by decide) hl rfl (fun ls1 hl1 => ?_)
  refine az_X_step (pc' := 3) (ls' := ls1) (st' := [.int 0]) (h' := h0) rfl rfl rfl ?_
  refine jm_istoreg (l' := [(5, .int 0), (3, .long 0), (0, .ref (P.1 + 60)), (1, .int Fs), (2, .int N)]) rfl rfl (by decide) hl1 rfl (fun ls3 hl3 => ?_)
  exact rf_c hxa rx hn6 rt r93 Fs N eFs hFm eN eZ 6144 0 0 h0 ls3 (jM_pick hl3 [0, 1, 2, 3, 4] rfl) hH az_same_out.rf (by decide) (by omega)
theorem ao_l {P : si_P} (hxa : P.2.1 < P.1) {d : Nat} {h0 : si_H} {m r : Int} {Y n : Nat} {B : Nat → Int} {a b : Int} (rx : jRX h0 m r Y n B a b) (hn6 : n ≤ 6) (rt : jRT h0 n Y (jpA m r n B)) (r93 : ∀ x : Nat, x < Y → ja h0 93 x = jb ((jst2 a b Y) 0 x)) (N : Int32) (eN : N.toInt = n) : ∀ (k j : Nat) (T U : Int32) (h : si_H) (ls : si_L), jM [(6, .int T), (5, .int U), (0, .ref (P.1 + 60)), (1, .int N)] ls → az_HI P az_tb h → az_same_out [(98, 1000000)] h0 h → T.toInt = j → j + k = n → U = jOr (fun i => decide (0 < jSUM m r Y n B a b i)) j → az_X P (d + 4) 286 102 ls [] h (fun rv h' => ∃ z : Int32, rv = some (.int z) ∧ az_HI P az_tb h' ∧ az_same_out [(98, 1000000)] h0 h' ∧ z.toInt = (jOr (fun i => decide (0 < jSUM m r Y n B a b i)) n).toInt) := by
  have rx0 := rx
  obtain ⟨c1, c2, c3, c4, c5, c6, c7, c8, c9, c10, c11⟩ := rx
  obtain ⟨zf1, zf2, zf3, zf4⟩ := jfl (n := n) (Z := 2 ^ n) (by omega) hn6 rfl
  intro k
  induction k with
  | zero =>
    intro j T U h ls hl hH hs eT hj eU
    refine jm_iload (x := T) rfl rfl (jM_at hl 0 rfl) ?_
    refine jm_iload_n (x := N) rfl rfl (jM_at hl 3 rfl) ?_
    refine jx_ic (t := 137) rfl rfl rfl (fun hc105 => ?_) (fun hc105 => ?_)
    · have g105 := jc2_ge_t hc105
      refine jm_iload (x := U) rfl rfl (jM_at hl 1 rfl) ?_
      refine jx_ret rfl rfl rfl ?_
      exact ⟨U, rfl, hH, hs, by rw [eU, show j = n by omega]⟩
    · have g105 := jc2_ge_f hc105
      exfalso
      omega
  | succ k ih =>
    intro j T U h ls hl hH hs eT hj eU
    have rxh : jRX h m r Y n B a b := jRX_so hs (by decide) (by decide) (by decide) rx0
    have rth : jRT h n Y (jpA m r n B) := jRT_so hs (by decide) (by decide) rt
    have s93 : ∀ x : Nat, x < Y → ja h 93 x = jb ((jst2 a b Y) 0 x) := fun x hx => by
      rw [jso_row (i := 93) hs (by decide)]
      exact r93 x hx
    have k0 : (0 : Int32).toInt = 0 := by decide
    have k1 : (1 : Int32).toInt = 1 := by decide
    have kl0 : (0 : Int64).toInt = 0 := by decide
    refine jm_iload (x := T) rfl rfl (jM_at hl 0 rfl) ?_
    refine jm_iload_n (x := N) rfl rfl (jM_at hl 3 rfl) ?_
    refine jx_ic (t := 137) rfl rfl rfl (fun hc105 => ?_) (fun hc105 => ?_)
    · have g105 := jc2_ge_t hc105
      exfalso
      omega
    · have g105 := jc2_ge_f hc105
      refine jm_aload_n (x := P.1 + 60) rfl rfl (jM_at hl 2 rfl) ?_
      refine az_X_step (pc' := 110) (ls' := ls) (st' := [.int 1, .ref (P.1 + 60)]) (h' := h) rfl rfl rfl ?_
      refine jm_iload (x := T) rfl rfl (jM_at hl 0 rfl) ?_
      refine az_X_step (pc' := 113) (ls' := ls) (st' := [.int (1 <<< (T &&& 31)), .ref (P.1 + 60)]) (h' := h) rfl rfl rfl ?_
      refine jm_iload_n (x := N) rfl rfl (jM_at hl 3 rfl) ?_
      refine az_X_call (m' := 284) (as := [.ref (P.1 + 60), .int (1 <<< (T &&& 31)), .int N]) (rest := []) rfl rfl rfl rfl rfl ?_ ?_
      · unfold si_call
        dsimp only
        rw [if_pos ⟨rfl, rfl⟩]
        show (match si_ix P h (P.1 + 60) with | some i => _ | none => none) = _
        rw [jix hH (by decide)]
        dsimp only
        rw [(hH.2 60 _ rfl).1]
        rfl
      refine (rf_ok (d := d) hxa rxh hn6 rth s93 (1 <<< (T &&& 31)) N (Fm := 2 ^ j) (Z := 2 ^ n) (bt_sl eT (by omega) rfl) (by have q := (jsh_d j (by omega)).2.1; have q2 : 2 ^ j ≤ 2 ^ 5 := Nat.pow_le_pow_right (by omega) (by omega); omega) eN rfl hH).mono ?_
      rintro rv114 h114 ⟨z114, rfl, hH114, hs114, f114⟩
      show az_X P _ 286 117 ls [.long z114] _ _
      refine az_X_step (pc' := 118) (ls' := ls) (st' := [.long 0, .long z114]) (h' := h114) rfl rfl rfl ?_
      refine jn_lcmp (a := z114) (b := 0) rfl rfl (fun z118 ez118 => ?_)
      refine jx_if (t := 131) rfl rfl rfl (fun hc119 => ?_) (fun hc119 => ?_)
      · have g119 := jc1_le_t hc119
        refine jn_iinc (x := T) rfl rfl (by decide) (jM_at hl 0 rfl) hl rfl (by decide) (by omega) (by omega) (fun z131 (ez131 : z131.toInt = T.toInt + 1) ls131 (hl131 : jM [(6, .int z131), (5, .int U), (0, .ref (P.1 + 60)), (1, .int N)] ls131) => ?_)
        refine az_X_step (pc' := 102) (ls' := ls131) (st' := []) (h' := h114) rfl rfl rfl ?_
        have sj : z114.toInt = min 1000000000 (jSUM m r Y n B a b j) := by
          rw [f114, js2_mem (f := j) (by omega) (fun i hi => ?_)]
          · rfl
          · rw [Bool.and_eq_true, jbt_1 j (by omega) i (by omega), decide_eq_true_iff]
            exact ⟨fun q => q.2, fun q => ⟨zf4 i hi, q⟩⟩
        have tj : T = Int32.ofInt (j : Int) := jof eT (by omega)
        exact ih (j + 1) z131 U h114 ls131 (jM_pick hl131 [0, 1, 2, 3] rfl) hH114 (hs.tr hs114) (by omega) (by omega) (by rw [jOr_f (q := (fun i => decide (0 < jSUM m r Y n B a b i))) (fun e => by have := of_decide_eq_true e; omega)]; exact eU)
      · have g119 := jc1_le_f hc119
        refine jm_iload (x := U) rfl rfl (jM_at hl 1 rfl) ?_
        refine az_X_step (pc' := 125) (ls' := ls) (st' := [.int 1, .int U]) (h' := h114) rfl rfl rfl ?_
        refine jm_iload (x := T) rfl rfl (jM_at hl 0 rfl) ?_
        refine az_X_step (pc' := 128) (ls' := ls) (st' := [.int (1 <<< (T &&& 31)), .int U]) (h' := h114) rfl rfl rfl ?_
        refine az_X_step (pc' := 129) (ls' := ls) (st' := [.int (U ||| (1 <<< (T &&& 31)))]) (h' := h114) rfl rfl rfl ?_
        refine jm_istore (l' := [(5, .int (U ||| (1 <<< (T &&& 31)))), (6, .int T), (0, .ref (P.1 + 60)), (1, .int N)]) rfl rfl (by decide) hl rfl rfl (fun ls129 hl129 => ?_)
        refine jn_iinc (x := T) rfl rfl (by decide) (jM_at hl129 1 rfl) hl129 rfl (by decide) (by omega) (by omega) (fun z131 (ez131 : z131.toInt = T.toInt + 1) ls131 (hl131 : jM [(6, .int z131), (5, .int (U ||| (1 <<< (T &&& 31)))), (0, .ref (P.1 + 60)), (1, .int N)] ls131) => ?_)
        refine az_X_step (pc' := 102) (ls' := ls131) (st' := []) (h' := h114) rfl rfl rfl ?_
        have sj : z114.toInt = min 1000000000 (jSUM m r Y n B a b j) := by
          rw [f114, js2_mem (f := j) (by omega) (fun i hi => ?_)]
          · rfl
          · rw [Bool.and_eq_true, jbt_1 j (by omega) i (by omega), decide_eq_true_iff]
            exact ⟨fun q => q.2, fun q => ⟨zf4 i hi, q⟩⟩
        have tj : T = Int32.ofInt (j : Int) := jof eT (by omega)
        exact ih (j + 1) z131 (U ||| (1 <<< (T &&& 31))) h114 ls131 (jM_pick hl131 [0, 1, 2, 3] rfl) hH114 (hs.tr hs114) (by omega) (by omega) (by rw [jOr_t (q := (fun i => decide (0 < jSUM m r Y n B a b i))) (decide_eq_true (by omega)), ← tj, eU])
theorem anyOrder1_ok {P : si_P} (hxa : P.2.1 < P.1) {d : Nat} {h : si_H} (hH : az_HI P az_tb h) (hJ : js_1 h) (N D E W : Int32) : az_X P (d + 4) 286 0 (lv_args 0 [.ref (P.1 + 60), .int N, .int D, .int E, .int W]) [] h (fun rv h' => ∃ z : Int32, rv = some (.int z) ∧ az_HI P az_tb h' ∧ az_same_out [(60, 16), (93, 1000000), (96, 1000000), (97, 1000000), (98, 1000000)] h h' ∧ ((((1 ≤ N.toInt ∧ N.toInt ≤ 6) ∧ (0 ≤ D.toInt ∧ D.toInt ≤ E.toInt ∧ E.toInt ≤ 99) ∧ (0 ≤ W.toInt ∧ W.toInt ≤ 1) ∧ 2 * N.toInt ≤ ja h 60 16) ∧ ja h' 60 16 = 0 ∧ jAO (ja h 60 7) (ja h 60 8) (ja h 60 9).toNat N.toInt.toNat (fun i => ja h 71 i % 256) D.toInt E.toInt W.toInt z.toInt) ∨ (¬ ((1 ≤ N.toInt ∧ N.toInt ≤ 6) ∧ (0 ≤ D.toInt ∧ D.toInt ≤ E.toInt ∧ E.toInt ≤ 99) ∧ (0 ≤ W.toInt ∧ W.toInt ≤ 1) ∧ 2 * N.toInt ≤ ja h 60 16) ∧ ja h' 60 16 = ja h 60 16 ∧ z.toInt = -1))) := by
  obtain ⟨b1, b2, b3⟩ := dial_bd hH
  have hl : jM [(0, .ref (P.1 + 60)), (1, .int N), (2, .int D), (3, .int E), (4, .int W)] (lv_args 0 [.ref (P.1 + 60), .int N, .int D, .int E, .int W]) := jM_args [0, 1, 2, 3, 4] rfl (by decide)
  generalize lv_args 0 [.ref (P.1 + 60), .int N, .int D, .int E, .int W] = ls at hl
  have km3 : ((-3) : Int32).toInt = (-3) := by decide
  have km1 : ((-1) : Int32).toInt = (-1) := by decide
  have k0 : (0 : Int32).toInt = 0 := by decide
  have k1 : (1 : Int32).toInt = 1 := by decide
  have k2 : (2 : Int32).toInt = 2 := by decide
  have k6 : (6 : Int32).toInt = 6 := by decide
  have k99 : (99 : Int32).toInt = 99 := by decide
  refine jm_iload_n (x := N) rfl rfl (jM_at hl 1 rfl) ?_
  refine az_X_step (pc' := 2) (ls' := ls) (st' := [.int 1, .int N]) (h' := h) rfl rfl rfl ?_
  refine az_X_step (pc' := 4) (ls' := ls) (st' := [.int 6, .int 1, .int N]) (h' := h) rfl rfl rfl ?_
  refine az_X_call (m' := 202) (as := [.int N, .int 1, .int 6]) (rest := []) rfl rfl rfl rfl rfl rfl ?_
  refine (rin_ok N 1 6).mono ?_
  rintro rv4 h4 ⟨q4, z4, rfl, ez4⟩
  subst h4
  show az_X P _ 286 7 ls [.int z4] _ _
  refine jx_if (t := 50) rfl rfl rfl (fun hc7 => ?_) (fun hc7 => ?_)
  · have g7 := jc1_eq_t hc7
    refine az_X_step (pc' := 51) (ls' := ls) (st' := [.int (-1)]) (h' := h) rfl rfl rfl ?_
    refine jx_ret rfl rfl rfl ?_
    exact ⟨(-1), rfl, hH, az_same_out.rf, Or.inr ⟨by omega, rfl, by decide⟩⟩
  · have g7 := jc1_eq_f hc7
    refine jm_iload_n (x := D) rfl rfl (jM_at hl 2 rfl) ?_
    refine az_X_step (pc' := 12) (ls' := ls) (st' := [.int 0, .int D]) (h' := h) rfl rfl rfl ?_
    refine az_X_step (pc' := 14) (ls' := ls) (st' := [.int 99, .int 0, .int D]) (h' := h) rfl rfl rfl ?_
    refine az_X_call (m' := 202) (as := [.int D, .int 0, .int 99]) (rest := []) rfl rfl rfl rfl rfl rfl ?_
    refine (rin_ok D 0 99).mono ?_
    rintro rv14 h14 ⟨q14, z14, rfl, ez14⟩
    subst h14
    show az_X P _ 286 17 ls [.int z14] _ _
    refine jx_if (t := 50) rfl rfl rfl (fun hc17 => ?_) (fun hc17 => ?_)
    · have g17 := jc1_eq_t hc17
      refine az_X_step (pc' := 51) (ls' := ls) (st' := [.int (-1)]) (h' := h) rfl rfl rfl ?_
      refine jx_ret rfl rfl rfl ?_
      exact ⟨(-1), rfl, hH, az_same_out.rf, Or.inr ⟨by omega, rfl, by decide⟩⟩
    · have g17 := jc1_eq_f hc17
      refine jm_iload_n (x := E) rfl rfl (jM_at hl 3 rfl) ?_
      refine jm_iload_n (x := D) rfl rfl (jM_at hl 2 rfl) ?_
      refine az_X_step (pc' := 24) (ls' := ls) (st' := [.int 99, .int D, .int E]) (h' := h) rfl rfl rfl ?_
      refine az_X_call (m' := 202) (as := [.int E, .int D, .int 99]) (rest := []) rfl rfl rfl rfl rfl rfl ?_
      refine (rin_ok E D 99).mono ?_
      rintro rv24 h24 ⟨q24, z24, rfl, ez24⟩
      subst h24
      show az_X P _ 286 27 ls [.int z24] _ _
      refine jx_if (t := 50) rfl rfl rfl (fun hc27 => ?_) (fun hc27 => ?_)
      · have g27 := jc1_eq_t hc27
        refine az_X_step (pc' := 51) (ls' := ls) (st' := [.int (-1)]) (h' := h) rfl rfl rfl ?_
        refine jx_ret rfl rfl rfl ?_
        exact ⟨(-1), rfl, hH, az_same_out.rf, Or.inr ⟨by omega, rfl, by decide⟩⟩
      · have g27 := jc1_eq_f hc27
        refine jm_iload (x := W) rfl rfl (jM_at hl 4 rfl) ?_
        refine az_X_step (pc' := 33) (ls' := ls) (st' := [.int 0, .int W]) (h' := h) rfl rfl rfl ?_
        refine az_X_step (pc' := 34) (ls' := ls) (st' := [.int 1, .int 0, .int W]) (h' := h) rfl rfl rfl ?_
        refine az_X_call (m' := 202) (as := [.int W, .int 0, .int 1]) (rest := []) rfl rfl rfl rfl rfl rfl ?_
        refine (rin_ok W 0 1).mono ?_
        rintro rv34 h34 ⟨q34, z34, rfl, ez34⟩
        subst h34
        show az_X P _ 286 37 ls [.int z34] _ _
        refine jx_if (t := 50) rfl rfl rfl (fun hc37 => ?_) (fun hc37 => ?_)
        · have g37 := jc1_eq_t hc37
          refine az_X_step (pc' := 51) (ls' := ls) (st' := [.int (-1)]) (h' := h) rfl rfl rfl ?_
          refine jx_ret rfl rfl rfl ?_
          exact ⟨(-1), rfl, hH, az_same_out.rf, Or.inr ⟨by omega, rfl, by decide⟩⟩
        · have g37 := jc1_eq_f hc37
          refine az_X_step (pc' := 41) (ls' := ls) (st' := [.int 2]) (h' := h) rfl rfl rfl ?_
          refine jm_iload_n (x := N) rfl rfl (jM_at hl 1 rfl) ?_
          refine jn_mul (a := 2) (b := N) rfl rfl (by rw [show (2 : Int32).toInt = 2 by decide]; omega) (by rw [show (2 : Int32).toInt = 2 by decide]; omega) (fun z42 ez42 => ?_)
          rw [show (2 : Int32).toInt = 2 by decide] at ez42
          refine jm_aload_n (x := P.1 + 60) rfl rfl (jM_at hl 0 rfl) ?_
          refine jn_gf (i := 60) (k := 16) rfl rfl hH (by decide) (hH.2 60 _ rfl).1 rfl rfl (fun z44 (ez44 : z44.toInt = ja h 60 16) (bz44 : 0 ≤ z44.toInt ∧ z44.toInt ≤ 260) => ?_)
          refine jx_ic (t := 52) rfl rfl rfl (fun hc47 => ?_) (fun hc47 => ?_)
          · have g47 := jc2_le_t hc47
            refine jm_aload_n (x := P.1 + 60) rfl rfl (jM_at hl 0 rfl) ?_
            refine az_X_step (pc' := 54) (ls' := ls) (st' := [.int 0, .ref (P.1 + 60)]) (h' := h) rfl rfl rfl ?_
            refine jn_pf (i := 60) (k := 16) (x := 0) rfl rfl hH (by decide) rfl (hH.2 60 _ rfl).1 rfl rfl (by decide) (by decide) (by show 0 ≤ _; omega) (by show _ ≤ 260; omega) (fun h54 hH54 hs54 (t54 : ja h54 60 16 = (0 : Int32).toInt) => ?_)
            replace t54 : ja h54 60 16 = 0 := t54.trans (by decide)
            refine jm_aload_n (x := P.1 + 60) rfl rfl (jM_at hl 0 rfl) ?_
            refine jm_iload_n (x := N) rfl rfl (jM_at hl 1 rfl) ?_
            refine az_X_call (m' := 274) (as := [.ref (P.1 + 60), .int N]) (rest := []) rfl rfl rfl rfl rfl ?_ ?_
            · unfold si_call
              dsimp only
              rw [if_pos ⟨rfl, rfl⟩]
              show (match si_ix P h54 (P.1 + 60) with | some i => _ | none => none) = _
              rw [jix hH54 (by decide)]
              dsimp only
              rw [(hH54.2 60 _ rfl).1]
              rfl
            refine (am_ok (d := d + 2) hH54 (n := N.toInt.toNat) (by omega) N (by omega)).mono ?_
            rintro rv59 h59 ⟨q59, z59, rfl, ez59⟩
            subst h59
            show az_X P _ 286 62 ls [.int z59] _ _
            refine jx_if (t := 68) rfl rfl rfl (fun hc62 => ?_) (fun hc62 => ?_)
            · have g62 := jc1_ne_t hc62
              have y54 : ja h54 60 9 = ja h 60 9 := jso hs54 (by decide)
              have mk0 : ∀ i : Nat, i < 2 * N.toInt.toNat → ja h 71 i % 256 < ja h 60 7 := by
                rcases ez59 with ⟨-, q⟩ | ⟨q, -⟩
                · intro i hi
                  have := q i hi
                  rw [jso_row (i := 71) hs54 (by decide), (jso hs54 (by decide) : ja h54 60 7 = ja h 60 7)] at this
                  exact this
                · exact absurd q g62
              have rx54 : jRX h54 (ja h 60 7) (ja h 60 8) (ja h 60 9).toNat N.toInt.toNat (fun i => ja h 71 i % 256) D.toInt E.toInt := by
                refine ⟨jso hs54 (by decide), jso hs54 (by decide), b1, b2, by have := hJ.1; omega, by rw [y54]; omega, by omega, by omega, fun t ht => ?_, fun i hi => by rw [jso_row (i := 71) hs54 (by decide)], fun i hi => ⟨by show 0 ≤ ja h 71 i % 256; omega, mk0 i hi⟩⟩
                rw [jso_row (i := 68) hs54 (by decide)]
                exact hJ.2 t (by omega)
              have hA12 := jpA_12r (n := N.toInt.toNat) (B := (fun i => ja h 71 i % 256)) b1 b2 (show ja h 60 7 * ja h 60 8 = (((ja h 60 9).toNat : Nat) : Int) by have := hJ.1; omega) (fun i hi => ⟨by show 0 ≤ ja h 71 i % 256; omega, mk0 i hi⟩)
              refine jm_aload_n (x := P.1 + 60) rfl rfl (jM_at hl 0 rfl) ?_
              refine jm_iload_n (x := D) rfl rfl (jM_at hl 2 rfl) ?_
              refine jm_iload_n (x := E) rfl rfl (jM_at hl 3 rfl) ?_
              refine az_X_call (m' := 273) (as := [.ref (P.1 + 60), .int D, .int E]) (rest := []) rfl rfl rfl rfl rfl ?_ ?_
              · unfold si_call
                dsimp only
                rw [if_pos ⟨rfl, rfl⟩]
                show (match si_ix P h54 (P.1 + 60) with | some i => _ | none => none) = _
                rw [jix hH54 (by decide)]
                dsimp only
                rw [(hH54.2 60 _ rfl).1]
                rfl
              refine (ls_ok hH54 (Y := (ja h 60 9).toNat) (by omega) (by rw [y54]; omega) D E (by omega)).mono ?_
              rintro rv71 h71 ⟨rfl, hH71, hs71, f71⟩
              show az_X P _ 286 74 ls [] _ _
              refine jm_aload_n (x := P.1 + 60) rfl rfl (jM_at hl 0 rfl) ?_
              refine jm_iload_n (x := N) rfl rfl (jM_at hl 1 rfl) ?_
              refine az_X_call (m' := 282) (as := [.ref (P.1 + 60), .int N]) (rest := []) rfl rfl rfl rfl rfl ?_ ?_
              · unfold si_call
                dsimp only
                rw [if_pos ⟨rfl, rfl⟩]
                show (match si_ix P h71 (P.1 + 60) with | some i => _ | none => none) = _
                rw [jix hH71 (by decide)]
                dsimp only
                rw [(hH71.2 60 _ rfl).1]
                rfl
              refine (lt_ok (d := d) hxa hH71 (jRX_so hs71 (by decide) (by decide) (by decide) rx54) hA12 (by omega) N (by omega)).mono ?_
              rintro rv76 h76 ⟨rfl, hH76, hs76, f76⟩
              show az_X P _ 286 79 ls [] _ _
              refine jm_iload (x := W) rfl rfl (jM_at hl 4 rfl) ?_
              refine jx_if (t := 96) rfl rfl rfl (fun hc81 => ?_) (fun hc81 => ?_)
              · have g81 := jc1_ne_t hc81
                refine az_X_step (pc' := 97) (ls' := ls) (st' := [.int 0]) (h' := h76) rfl rfl rfl ?_
                refine jm_istore (l' := [(5, .int 0), (0, .ref (P.1 + 60)), (1, .int N), (2, .int D), (3, .int E), (4, .int W)]) rfl rfl (by decide) hl rfl rfl (fun ls97 hl97 => ?_)
                refine az_X_step (pc' := 100) (ls' := ls97) (st' := [.int 0]) (h' := h76) rfl rfl rfl ?_
                refine jm_istore (l' := [(6, .int 0), (5, .int 0), (0, .ref (P.1 + 60)), (1, .int N), (2, .int D), (3, .int E), (4, .int W)]) rfl rfl (by decide) hl97 rfl rfl (fun ls100 hl100 => ?_)
                refine (ao_l (d := d) hxa (h0 := h76) (jRX_so hs76 (by decide) (by decide) (by decide) (jRX_so hs71 (by decide) (by decide) (by decide) rx54)) (by omega) f76 (fun x hx => by rw [jso_row (i := 93) hs76 (by decide)]; exact f71 x hx) N (by omega) N.toInt.toNat 0 0 0 h76 ls100 (jM_pick hl100 [0, 1, 2, 3] rfl) hH76 az_same_out.rf (by decide) (by omega) rfl).mono ?_
                rintro rv h9 ⟨z, q1, q2, q3, q4⟩
                exact ⟨z, q1, q2, (((hs54.sub (by decide)).tr ((hs71.sub (by decide)).tr (hs76.sub (by decide))))).tr (q3.sub (by decide)), Or.inl ⟨⟨by omega, by omega, by omega, by omega⟩, (jso q3 (by decide)).trans ((jso hs76 (by decide)).trans ((jso hs71 (by decide)).trans t54)), Or.inr ⟨mk0, Or.inr ⟨by omega, q4⟩⟩⟩⟩
              · have g81 := jc1_ne_f hc81
                refine jm_aload_n (x := P.1 + 60) rfl rfl (jM_at hl 0 rfl) ?_
                refine az_X_step (pc' := 86) (ls' := ls) (st' := [.int 1, .ref (P.1 + 60)]) (h' := h76) rfl rfl rfl ?_
                refine jm_iload_n (x := N) rfl rfl (jM_at hl 1 rfl) ?_
                refine az_X_step (pc' := 88) (ls' := ls) (st' := [.int (1 <<< (N &&& 31)), .ref (P.1 + 60)]) (h' := h76) rfl rfl rfl ?_
                obtain ⟨zf1, zf2, zf3, zf4⟩ := jfl (n := N.toInt.toNat) (Z := 2 ^ N.toInt.toNat) (by omega) (by omega) rfl
                have sh := bt_sl (c := N) (N := N.toInt.toNat) (Z := 2 ^ N.toInt.toNat) (by omega) (by omega) rfl
                refine az_X_step (pc' := 89) (ls' := ls) (st' := [.int 1, .int (1 <<< (N &&& 31)), .ref (P.1 + 60)]) (h' := h76) rfl rfl rfl ?_
                refine jn_sub (a := (1 <<< (N &&& 31))) (b := 1) rfl rfl (by omega) (by omega) (fun z89 ez89 => ?_)
                rw [show (1 : Int32).toInt = 1 by decide] at ez89
                refine jm_iload_n (x := N) rfl rfl (jM_at hl 1 rfl) ?_
                refine az_X_call (m' := 284) (as := [.ref (P.1 + 60), .int z89, .int N]) (rest := []) rfl rfl rfl rfl rfl ?_ ?_
                · unfold si_call
                  dsimp only
                  rw [if_pos ⟨rfl, rfl⟩]
                  show (match si_ix P h76 (P.1 + 60) with | some i => _ | none => none) = _
                  rw [jix hH76 (by decide)]
                  dsimp only
                  rw [(hH76.2 60 _ rfl).1]
                  rfl
                refine (rf_ok (d := d) hxa (jRX_so hs76 (by decide) (by decide) (by decide) (jRX_so hs71 (by decide) (by decide) (by decide) rx54)) (by omega) f76 (fun x hx => by rw [jso_row (i := 93) hs76 (by decide)]; exact f71 x hx) z89 N (Fm := 2 ^ N.toInt.toNat - 1) (Z := 2 ^ N.toInt.toNat) (by omega) (by omega) (by omega) rfl hH76).mono ?_
                rintro rv91 h91 ⟨z91, rfl, hH91, hs91, f91⟩
                show az_X P _ 286 94 ls [.long z91] _ _
                have v91 : z91.toInt = min 1000000000 (jTOT (ja h 60 7) (ja h 60 8) (ja h 60 9).toNat N.toInt.toNat (fun i => ja h 71 i % 256) D.toInt E.toInt) := by
                  rw [f91]
                  unfold jTOT
                  rw [js2_pc (q := jbt (2 ^ N.toInt.toNat - 1)) (fun i hi => Bool.and_self _)]
                have t0 : 0 ≤ jTOT (ja h 60 7) (ja h 60 8) (ja h 60 9).toNat N.toInt.toNat (fun i => ja h 71 i % 256) D.toInt E.toInt := js2_nn (fun i t => jGo_nn _ _ _ _ _ _ _ _)
                refine jn_l2i (a := z91) rfl rfl (by omega) (by omega) (fun z94 ez94 => ?_)
                refine jx_ret rfl rfl rfl ?_
                exact ⟨z94, rfl, hH91, ((hs54.sub (by decide)).tr ((hs71.sub (by decide)).tr ((hs76.sub (by decide)).tr (hs91.sub (by decide))))), Or.inl ⟨⟨by omega, by omega, by omega, by omega⟩, ((jso hs91 (by decide)).trans ((jso hs76 (by decide)).trans ((jso hs71 (by decide)).trans t54))), Or.inr ⟨mk0, Or.inl ⟨by omega, by rw [ez94, v91]⟩⟩⟩⟩
            · have g62 := jc1_ne_f hc62
              refine az_X_step (pc' := 67) (ls' := ls) (st' := [.int (-3)]) (h' := h54) rfl rfl rfl ?_
              refine jx_ret rfl rfl rfl ?_
              rcases ez59 with ⟨q, -⟩ | ⟨-, i, i1, i2⟩
              · omega
              · rw [jso_row (i := 71) hs54 (by decide), (jso hs54 (by decide) : ja h54 60 7 = ja h 60 7)] at i2
                exact ⟨(-3), rfl, hH54, (hs54.sub (by decide)), Or.inl ⟨⟨by omega, by omega, by omega, by omega⟩, t54, Or.inl ⟨⟨i, i1, i2⟩, by decide⟩⟩⟩
          · have g47 := jc2_le_f hc47
            refine az_X_step (pc' := 51) (ls' := ls) (st' := [.int (-1)]) (h' := h) rfl rfl rfl ?_
            refine jx_ret rfl rfl rfl ?_
            exact ⟨(-1), rfl, hH, az_same_out.rf, Or.inr ⟨by omega, rfl, by decide⟩⟩
