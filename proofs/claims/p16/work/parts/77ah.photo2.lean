set_option maxRecDepth 100000
/-! LISTS of an album: cell 7, twelve places for each photograph -/
def jLO (h h' : si_H) (m r f s l z : Int) : Prop := 0 ≤ z ∧ z ≤ 6 ∧ (∀ j : Nat, (j : Int) < f → ja h' 7 j = ja h 7 j) ∧ (∀ i : Nat, (i : Int) < z → ∃ u : Nat, ja h' 7 (f + i) = u ∧ (u : Int) < m * r ∧ (u : Int) / r = s ∧ (u : Int) % m = l) ∧ (∀ i e : Nat, i < e → (e : Int) < z → ja h' 7 (f + i) ≠ ja h' 7 (f + e)) ∧ ∀ u : Nat, (u : Int) < m * r → (u : Int) / r = s → (u : Int) % m = l → ∃ i : Nat, (i : Int) < z ∧ ja h' 7 (f + i) = u
/-- from a place on: just those that look so, none twice -/
def jLS (h : si_H) (m r f L z : Int) : Prop := 0 ≤ z ∧ z ≤ 12 ∧ (∀ i : Nat, (i : Int) < z → ∃ u : Nat, ja h 7 (f + i) = u ∧ (u : Int) < m * r ∧ jlk m r u = L) ∧ (∀ i e : Nat, i < e → (e : Int) < z → ja h 7 (f + i) ≠ ja h 7 (f + e)) ∧ ∀ u : Nat, (u : Int) < m * r → jlk m r u = L → ∃ i : Nat, (i : Int) < z ∧ ja h 7 (f + i) = u
theorem jLS_cg {h h' : si_H} {m r f L z : Int} (hf : 0 ≤ f) (e : ∀ j : Int, f ≤ j → j < f + 12 → ja h' 7 j = ja h 7 j) (q : jLS h m r f L z) : jLS h' m r f L z := by
  obtain ⟨a1, a2, a3, a4, a5⟩ := q
  refine ⟨a1, a2, fun i hi => ?_, fun i e' h1 h2 => ?_, fun u u1 u2 => ?_⟩
  · rw [e _ (by omega) (by omega)]
    exact a3 i hi
  · rw [e _ (by omega) (by omega), e _ (by omega) (by omega)]
    exact a4 i e' h1 h2
  · obtain ⟨i, i1, i2⟩ := a5 u u1 u2
    exact ⟨i, i1, by rw [e _ (by omega) (by omega)]; exact i2⟩
theorem jLO_mk {h h' : si_H} {m r s l f x0 z : Int} {c y : Nat} (hm : 4 ≤ m ∧ m ≤ 60) (hr : 2 ≤ r ∧ r ≤ 24) (hy : m * r = y) (hs : 0 ≤ s ∧ s < m) (hl : 0 ≤ l ∧ l < m) (hx : x0 = jlw m r s l) (h0 : 0 ≤ x0) (hc : z = c) (c6 : c ≤ 6) (he : s * r + r ≤ x0 + c * m) (hrow : ∀ i : Nat, i < c → ja h' 7 (f + i) = x0 + i * m ∧ x0 + i * m < s * r + r) (hlow : ∀ j : Nat, (j : Int) < f → ja h' 7 j = ja h 7 j) : jLO h h' m r f s l z := by
  have q5 : s * r + r ≤ m * r := by
    have := Int.mul_le_mul_of_nonneg_right (show s + 1 ≤ m by omega) (show 0 ≤ r by omega)
    rw [Int.add_mul, Int.one_mul] at this
    exact this
  rcases jlw_fs0 hm hr hy hs.1 hs.2 hl.1 hl.2 with ⟨t, t1, t2, ⟨t3, t4⟩, t5⟩ | ⟨t2, -⟩
  · have ex : x0 = t := hx.trans t2
    have d1 := Int.mul_ediv_add_emod (t : Int) r
    have d2 := Int.emod_nonneg (t : Int) (show r ≠ 0 by omega)
    rw [t3, Int.mul_comm] at d1
    refine ⟨by omega, by omega, hlow, fun i hi => ?_, fun i e h1 h2 => ?_, fun u u1 u2 u3 => ?_⟩
    · obtain ⟨a1, a2⟩ := hrow i (by omega)
      have p0 := Int.mul_nonneg (show (0 : Int) ≤ i by omega) (show 0 ≤ m by omega)
      refine ⟨(x0 + i * m).toNat, ?_, ?_, ?_, ?_⟩
      · rw [a1, Int.toNat_of_nonneg (by omega)]
      · rw [Int.toNat_of_nonneg (by omega)]; omega
      · rw [Int.toNat_of_nonneg (by omega)]
        refine (Int.ediv_eq_iff_of_pos (by omega)).mpr ?_
        constructor <;> omega
      · rw [Int.toNat_of_nonneg (by omega), Int.add_mul_emod_self_right, ex]
        exact t4
    · obtain ⟨a1, -⟩ := hrow i (by omega)
      obtain ⟨b1, -⟩ := hrow e (by omega)
      rw [a1, b1]
      have := Int.mul_lt_mul_of_pos_right (show (i : Int) < e by omega) (show 0 < m by omega)
      omega
    · have ut : t ≤ u := by
        rcases Nat.lt_or_ge u t with c1 | c1
        · exact absurd ⟨u2, u3⟩ (t5 u c1)
        · exact c1
      have e0 : ((u : Int) - t) % m = 0 := Int.emod_eq_emod_iff_emod_sub_eq_zero.mp (u3.trans t4.symm)
      have e1 := Int.mul_ediv_add_emod ((u : Int) - t) m
      rw [e0, Int.add_zero] at e1
      have q0 : 0 ≤ ((u : Int) - t) / m := Int.ediv_nonneg (by omega) (by omega)
      have d3 := Int.mul_ediv_add_emod (u : Int) r
      have d4 := Int.emod_lt_of_pos (u : Int) (show 0 < r by omega)
      rw [u2, Int.mul_comm] at d3
      have q1 : ((u : Int) - t) / m < c := by
        refine Int.lt_of_mul_lt_mul_left (a := m) ?_ (by omega)
        rw [e1, Int.mul_comm m (c : Int)]
        omega
      obtain ⟨a1, -⟩ := hrow (((u : Int) - t) / m).toNat (by omega)
      refine ⟨(((u : Int) - t) / m).toNat, by omega, ?_⟩
      rw [a1, Int.toNat_of_nonneg q0, Int.mul_comm, e1]
      omega
  · omega
theorem jLO_0 {h : si_H} {m r s l f : Int} {y : Nat} (hm : 4 ≤ m ∧ m ≤ 60) (hr : 2 ≤ r ∧ r ≤ 24) (hy : m * r = y) (hs : 0 ≤ s ∧ s < m) (hl : 0 ≤ l ∧ l < m) (h0 : jlw m r s l < 0) : jLO h h m r f s l 0 := by
  rcases jlw_fs0 hm hr hy hs.1 hs.2 hl.1 hl.2 with ⟨t, t1, t2, -⟩ | ⟨t2, t3⟩
  · omega
  · exact ⟨by omega, by omega, fun _ _ => rfl, fun i hi => absurd hi (by omega), fun i e h1 h2 => absurd h2 (by omega), fun u u1 u2 u3 => absurd ⟨u2, u3⟩ (t3 u (by omega))⟩
theorem jlk_so {m r u s l : Int} (hm : m ≤ 60) (hu : (0 ≤ u % m ∧ u % m < m) ∧ (0 ≤ u / r ∧ u / r < m)) (hs : 0 ≤ s ∧ s < m) (hl : 0 ≤ l ∧ l < m) : jlk m r u = 64 * min l s + max l s ↔ (u / r = s ∧ u % m = l) ∨ (u / r = l ∧ u % m = s) := by
  unfold jlk
  exact jlk_iff (by omega) (by omega) (by omega) (by omega)
theorem jLS_1 {h h' : si_H} {m r s f z : Int} (hm : 4 ≤ m ∧ m ≤ 60) (hr : 2 ≤ r ∧ r ≤ 24) (hs : 0 ≤ s ∧ s < m) (q : jLO h h' m r f s s z) : jLS h' m r f (64 * min s s + max s s) z := by
  obtain ⟨a1, a2, -, a4, a6, a5⟩ := q
  refine ⟨a1, by omega, fun i hi => ?_, a6, fun u u1 u2 => ?_⟩
  · obtain ⟨u, b1, b2, b3, b4⟩ := a4 i hi
    have d := jdm (m := m) (r := r) (a := (u : Int)) hm hr (by omega) b2
    exact ⟨u, b1, b2, (jlk_so hm.2 d hs hs).mpr (Or.inl ⟨b3, b4⟩)⟩
  · have d := jdm (m := m) (r := r) (a := (u : Int)) hm hr (by omega) u1
    have := (jlk_so hm.2 d hs hs).mp u2
    exact a5 u u1 (by omega) (by omega)
theorem jLS_2 {h h1 h2 : si_H} {m r s l f f2 z1 z2 z : Int} (hf : 0 ≤ f) (hm : 4 ≤ m ∧ m ≤ 60) (hr : 2 ≤ r ∧ r ≤ 24) (hs : 0 ≤ s ∧ s < m) (hl : 0 ≤ l ∧ l < m) (hsl : s ≠ l) (q : jLO h h1 m r f s l z1) (p : jLO h1 h2 m r f2 l s z2) (hf2 : f2 = f + z1) (hz : z = z1 + z2) : jLS h2 m r f (64 * min l s + max l s) z := by
  subst hf2
  obtain ⟨a1, a2, -, a4, a6, a5⟩ := q
  obtain ⟨b1, b2, b3, b4, b6, b5⟩ := p
  have lo : ∀ i : Nat, (i : Int) < z1 → ja h2 7 (f + i) = ja h1 7 (f + i) := fun i hi => by
    have := b3 (f + i).toNat (by omega)
    rw [show ((f + (i : Int)).toNat : Int) = f + i by omega] at this
    exact this
  refine ⟨by omega, by omega, fun i hi => ?_, fun i e h3 h4 => ?_, fun u u1 u2 => ?_⟩
  · rcases Int.lt_or_le (i : Int) z1 with c | c
    · obtain ⟨u, e1, e2, e3, e4⟩ := a4 i c
      have d := jdm (m := m) (r := r) (a := (u : Int)) hm hr (by omega) e2
      exact ⟨u, (lo i c).trans e1, e2, (jlk_so hm.2 d hs hl).mpr (Or.inl ⟨e3, e4⟩)⟩
    · obtain ⟨u, e1, e2, e3, e4⟩ := b4 ((i : Int) - z1).toNat (by omega)
      rw [show f + z1 + (((i : Int) - z1).toNat : Int) = f + i by omega] at e1
      have d := jdm (m := m) (r := r) (a := (u : Int)) hm hr (by omega) e2
      exact ⟨u, e1, e2, (jlk_so hm.2 d hs hl).mpr (Or.inr ⟨e3, e4⟩)⟩
  · rcases Int.lt_or_le (e : Int) z1 with c | c
    · rw [lo i (by omega), lo e c]
      exact a6 i e h3 c
    · rcases Int.lt_or_le (i : Int) z1 with c2 | c2
      · obtain ⟨u, e1, e2, e3, e4⟩ := a4 i c2
        obtain ⟨w, w1, w2, w3, w4⟩ := b4 ((e : Int) - z1).toNat (by omega)
        rw [show f + z1 + (((e : Int) - z1).toNat : Int) = f + e by omega] at w1
        rw [lo i c2, e1, w1]
        intro q
        have : u = w := by omega
        subst this
        omega
      · have := b6 ((i : Int) - z1).toNat ((e : Int) - z1).toNat (by omega) (by omega)
        rw [show f + z1 + (((i : Int) - z1).toNat : Int) = f + i by omega, show f + z1 + (((e : Int) - z1).toNat : Int) = f + e by omega] at this
        exact this
  · have d := jdm (m := m) (r := r) (a := (u : Int)) hm hr (by omega) u1
    rcases (jlk_so hm.2 d hs hl).mp u2 with ⟨c1, c2⟩ | ⟨c1, c2⟩
    · obtain ⟨i, i1, i2⟩ := a5 u u1 c1 c2
      exact ⟨i, by omega, (lo i i1).trans i2⟩
    · obtain ⟨i, i1, i2⟩ := b5 u u1 c1 c2
      refine ⟨(z1 + i).toNat, by omega, ?_⟩
      rw [show f + ((z1 + (i : Int)).toNat : Int) = f + z1 + i by omega]
      exact i2
theorem clo_l {P : si_P} (hxa : P.2.1 < P.1) {d : Nat} {h0 : si_H} (hH0 : az_HI P az_tb h0) (s l f : Int32) (hs : 0 ≤ s.toInt ∧ s.toInt < ja h0 1 0) (hl : 0 ≤ l.toInt ∧ l.toInt < ja h0 1 0) (hf : 0 ≤ f.toInt ∧ f.toInt ≤ 90) (E : Int32) (hE : E.toInt = s.toInt * ja h0 1 1 + ja h0 1 1) (hx : 0 ≤ jlw (ja h0 1 0) (ja h0 1 1) s.toInt l.toInt) : ∀ (k c : Nat) (U C : Int32) (h : si_H) (ls : si_L), jM [(7, .int E), (6, .int U), (5, .int C), (0, .ref (P.1 + 1)), (1, .int s), (2, .int l), (3, .ref (P.1 + 7)), (4, .int f)] ls → az_HI P az_tb h → az_same_out [(7, 1000000)] h0 h → C.toInt = c → U.toInt = jlw (ja h0 1 0) (ja h0 1 1) s.toInt l.toInt + c * ja h0 1 0 → 4 * (c : Int) ≤ U.toInt - jlw (ja h0 1 0) (ja h0 1 1) s.toInt l.toInt → c ≤ 6 → E.toInt - U.toInt ≤ k → (∀ j : Nat, (j : Int) < f.toInt → ja h 7 j = ja h0 7 j) → (∀ i : Nat, i < c → ja h 7 (f.toInt + i) = jlw (ja h0 1 0) (ja h0 1 1) s.toInt l.toInt + i * ja h0 1 0 ∧ jlw (ja h0 1 0) (ja h0 1 1) s.toInt l.toInt + i * ja h0 1 0 < s.toInt * ja h0 1 1 + ja h0 1 1) → az_X P (d + 2) 90 21 ls [] h (fun rv h' => ∃ z : Int32, rv = some (.int z) ∧ az_HI P az_tb h' ∧ az_same_out [(7, 1000000)] h0 h' ∧  jLO h0 h' (ja h0 1 0) (ja h0 1 1) f.toInt s.toInt l.toInt z.toInt) := by
  have bm : 4 ≤ ja h0 1 0 ∧ ja h0 1 0 ≤ 60 := ja_bd hH0 (i := 1) (k := 0) rfl
  have br : 2 ≤ ja h0 1 1 ∧ ja h0 1 1 ≤ 24 := ja_bd hH0 (i := 1) (k := 1) rfl
  have bp := nm_mulnn (a := 4) (b := 60) (c := 2) (d := 24) (x := ja h0 1 0) (y := ja h0 1 1) (by decide) (by decide) bm.1 bm.2 br.1 br.2
  have bs := nm_mulnn (a := 0) (b := 60) (c := 2) (d := 24) (x := s.toInt) (y := ja h0 1 1) (by decide) (by decide) hs.1 (by omega) br.1 br.2
  have je := (jmq_eq (m := ja h0 1 0) (r := ja h0 1 1) (s := s.toInt) (l := l.toInt) (by omega) (by omega) (by omega) hl).2 hx
  intro k
  induction k with
  | zero =>
    intro c U C h ls hl' hH hs' eC eU e4 c6 hk hlow hrow
    have k0 : (0 : Int32).toInt = 0 := by decide
    refine jm_iload (x := U) rfl rfl (jM_at hl' 1 rfl) ?_
    refine jx_if (t := 67) rfl rfl rfl (fun hc23 => ?_) (fun hc23 => ?_)
    · have g23 := jc1_lt_t hc23
      refine jm_iload (x := C) rfl rfl (jM_at hl' 2 rfl) ?_
      refine jx_ret rfl rfl rfl ?_
      exfalso
      omega
    · have g23 := jc1_lt_f hc23
      refine jm_iload (x := U) rfl rfl (jM_at hl' 1 rfl) ?_
      refine jm_iload (x := E) rfl rfl (jM_at hl' 0 rfl) ?_
      refine jx_ic (t := 67) rfl rfl rfl (fun hc30 => ?_) (fun hc30 => ?_)
      · have g30 := jc2_ge_t hc30
        refine jm_iload (x := C) rfl rfl (jM_at hl' 2 rfl) ?_
        refine jx_ret rfl rfl rfl ?_
        exact ⟨C, rfl, hH, hs', jLO_mk (y := (ja h0 1 0 * ja h0 1 1).toNat) bm br (by omega) hs hl rfl hx eC c6 (by omega) hrow hlow⟩
      · have g30 := jc2_ge_f hc30
        exfalso
        omega
  | succ k ih =>
    intro c U C h ls hl' hH hs' eC eU e4 c6 hk hlow hrow
    have r0 : ja h 1 0 = ja h0 1 0 := jso hs' (by decide)
    have k0 : (0 : Int32).toInt = 0 := by decide
    have k96 : (96 : Int32).toInt = 96 := by decide
    refine jm_iload (x := U) rfl rfl (jM_at hl' 1 rfl) ?_
    refine jx_if (t := 67) rfl rfl rfl (fun hc23 => ?_) (fun hc23 => ?_)
    · have g23 := jc1_lt_t hc23
      refine jm_iload (x := C) rfl rfl (jM_at hl' 2 rfl) ?_
      refine jx_ret rfl rfl rfl ?_
      exfalso
      omega
    · have g23 := jc1_lt_f hc23
      refine jm_iload (x := U) rfl rfl (jM_at hl' 1 rfl) ?_
      refine jm_iload (x := E) rfl rfl (jM_at hl' 0 rfl) ?_
      refine jx_ic (t := 67) rfl rfl rfl (fun hc30 => ?_) (fun hc30 => ?_)
      · have g30 := jc2_ge_t hc30
        refine jm_iload (x := C) rfl rfl (jM_at hl' 2 rfl) ?_
        refine jx_ret rfl rfl rfl ?_
        exact ⟨C, rfl, hH, hs', jLO_mk (y := (ja h0 1 0 * ja h0 1 1).toNat) bm br (by omega) hs hl rfl hx eC c6 (by omega) hrow hlow⟩
      · have g30 := jc2_ge_f hc30
        refine jm_iload (x := f) rfl rfl (jM_at hl' 7 rfl) ?_
        refine jm_iload (x := C) rfl rfl (jM_at hl' 2 rfl) ?_
        refine jn_add (a := f) (b := C) rfl rfl (by omega) (by omega) (fun z37 ez37 => ?_)
        refine jm_aload_n (x := P.1 + 7) rfl rfl (jM_at hl' 6 rfl) ?_
        refine jn_len (i := 7) (x := 96) rfl rfl hxa hH (by decide) rfl (by decide) ?_
        refine jx_ic (t := 67) rfl rfl rfl (fun hc40 => ?_) (fun hc40 => ?_)
        · have g40 := jc2_ge_t hc40
          refine jm_iload (x := C) rfl rfl (jM_at hl' 2 rfl) ?_
          refine jx_ret rfl rfl rfl ?_
          exfalso
          omega
        · have g40 := jc2_ge_f hc40
          refine jm_aload_n (x := P.1 + 7) rfl rfl (jM_at hl' 6 rfl) ?_
          refine jm_iload (x := f) rfl rfl (jM_at hl' 7 rfl) ?_
          refine jm_iload (x := C) rfl rfl (jM_at hl' 2 rfl) ?_
          refine jn_add (a := f) (b := C) rfl rfl (by omega) (by omega) (fun z48 ez48 => ?_)
          refine jm_iload (x := U) rfl rfl (jM_at hl' 1 rfl) ?_
          refine jn_ias (i := 7) (x := z48) (v := U) rfl rfl hH (by decide) rfl (by omega) (by show _ < ((96 : Nat) : Int); omega) (by show 0 ≤ _; omega) (by show _ ≤ 20000; omega) (fun h51 hH51 hs51 t51 u51 => ?_)
          refine jm_iload (x := U) rfl rfl (jM_at hl' 1 rfl) ?_
          refine jm_aload_n (x := P.1 + 1) rfl rfl (jM_at hl' 3 rfl) ?_
          refine jn_gf (i := 1) (k := 0) rfl rfl hH51 (by decide) (hH51.2 1 _ rfl).1 rfl rfl (fun z55 (ez55 : z55.toInt = ja h51 1 0) (bz55 : 4 ≤ z55.toInt ∧ z55.toInt ≤ 60) => ?_)
          replace ez55 : z55.toInt = ja h 1 0 := ez55.trans (jso hs51 (by decide))
          refine jn_add (a := U) (b := z55) rfl rfl (by omega) (by omega) (fun z58 ez58 => ?_)
          refine jm_istore (l' := [(6, .int z58), (7, .int E), (5, .int C), (0, .ref (P.1 + 1)), (1, .int s), (2, .int l), (3, .ref (P.1 + 7)), (4, .int f)]) rfl rfl (by decide) hl' rfl rfl (fun ls59 hl59 => ?_)
          refine jn_iinc (x := C) rfl rfl (by decide) (jM_at hl59 2 rfl) hl59 rfl (by decide) (by omega) (by omega) (fun z61 (ez61 : z61.toInt = C.toInt + 1) ls61 (hl61 : jM [(5, .int z61), (6, .int z58), (7, .int E), (0, .ref (P.1 + 1)), (1, .int s), (2, .int l), (3, .ref (P.1 + 7)), (4, .int f)] ls61) => ?_)
          refine az_X_step (pc' := 21) (ls' := ls61) (st' := []) (h' := h51) rfl rfl rfl ?_
          have em : ((c + 1 : Nat) : Int) * ja h0 1 0 = c * ja h0 1 0 + ja h0 1 0 := by
            rw [show ((c + 1 : Nat) : Int) = (c : Int) + 1 by omega, Int.add_mul, Int.one_mul]
          refine ih (c + 1) z58 z61 h51 ls61 (jM_pick hl61 [2, 1, 0, 3, 4, 5, 6, 7] rfl) hH51 (hs'.tr hs51) (by omega) (by omega) (by omega) (by omega) (by omega) (fun j hj => ?_) (fun i hi => ?_)
          · rw [u51 j (by omega) (by omega)]
            exact hlow j hj
          · rcases Nat.lt_or_ge i c with q | q
            · have hr := hrow i q
              refine ⟨?_, hr.2⟩
              rw [u51 _ (by omega) (by omega)]
              exact hr.1
            · have ei : i = c := by omega
              subst ei
              refine ⟨?_, by omega⟩
              rw [show f.toInt + (i : Int) = z48.toInt by omega, t51]
              exact eU
theorem clo_ok {P : si_P} (hxa : P.2.1 < P.1) {d : Nat} {h : si_H} (hH : az_HI P az_tb h) (s l f : Int32) (hs : 0 ≤ s.toInt ∧ s.toInt < ja h 1 0) (hl : 0 ≤ l.toInt ∧ l.toInt < ja h 1 0) (hf : 0 ≤ f.toInt ∧ f.toInt ≤ 90) : az_X P (d + 2) 90 0 (lv_args 0 [.ref (P.1 + 1), .int s, .int l, .ref (P.1 + 7), .int f]) [] h (fun rv h' => ∃ z : Int32, rv = some (.int z) ∧ az_HI P az_tb h' ∧ az_same_out [(7, 1000000)] h h' ∧  jLO h h' (ja h 1 0) (ja h 1 1) f.toInt s.toInt l.toInt z.toInt) := by
  have bm : 4 ≤ ja h 1 0 ∧ ja h 1 0 ≤ 60 := ja_bd hH (i := 1) (k := 0) rfl
  have br : 2 ≤ ja h 1 1 ∧ ja h 1 1 ≤ 24 := ja_bd hH (i := 1) (k := 1) rfl
  have bp := nm_mulnn (a := 4) (b := 60) (c := 2) (d := 24) (x := ja h 1 0) (y := ja h 1 1) (by decide) (by decide) bm.1 bm.2 br.1 br.2
  have bs := nm_mulnn (a := 0) (b := 60) (c := 2) (d := 24) (x := s.toInt) (y := ja h 1 1) (by decide) (by decide) hs.1 (by omega) br.1 br.2
  have hl' : jM [(0, .ref (P.1 + 1)), (1, .int s), (2, .int l), (3, .ref (P.1 + 7)), (4, .int f)] (lv_args 0 [.ref (P.1 + 1), .int s, .int l, .ref (P.1 + 7), .int f]) := jM_args [0, 1, 2, 3, 4] rfl (by decide)
  generalize lv_args 0 [.ref (P.1 + 1), .int s, .int l, .ref (P.1 + 7), .int f] = ls at hl'
  have k0 : (0 : Int32).toInt = 0 := by decide
  have k1 : (1 : Int32).toInt = 1 := by decide
  refine az_X_step (pc' := 1) (ls' := ls) (st' := [.int 0]) (h' := h) rfl rfl rfl ?_
  refine jm_istore (l' := [(5, .int 0), (0, .ref (P.1 + 1)), (1, .int s), (2, .int l), (3, .ref (P.1 + 7)), (4, .int f)]) rfl rfl (by decide) hl' rfl rfl (fun ls1 hl1 => ?_)
  refine jm_aload_n (x := P.1 + 1) rfl rfl (jM_at hl1 1 rfl) ?_
  refine jm_iload_n (x := s) rfl rfl (jM_at hl1 2 rfl) ?_
  refine jm_iload_n (x := l) rfl rfl (jM_at hl1 3 rfl) ?_
  refine az_X_call (m' := 83) (as := [.ref (P.1 + 1), .int s, .int l]) (rest := []) rfl rfl rfl rfl rfl ?_ ?_
  · unfold si_call
    dsimp only
    rw [if_pos ⟨rfl, rfl⟩]
    show (match si_ix P h (P.1 + 1) with | some i => _ | none => none) = _
    rw [jix hH (by decide)]
    dsimp only
    rw [(hH.2 1 _ rfl).1]
    rfl
  refine (lowest_ok hH s l (by omega) (by omega)).mono ?_
  rintro rv6 h6 ⟨q6, z6, rfl, ez6⟩
  subst h6
  show az_X P _ 90 9 ls1 [.int z6] _ _
  refine jm_istore (l' := [(6, .int z6), (5, .int 0), (0, .ref (P.1 + 1)), (1, .int s), (2, .int l), (3, .ref (P.1 + 7)), (4, .int f)]) rfl rfl (by decide) hl1 rfl rfl (fun ls9 hl9 => ?_)
  refine jm_iload_n (x := s) rfl rfl (jM_at hl9 3 rfl) ?_
  refine az_X_step (pc' := 13) (ls' := ls9) (st' := [.int 1, .int s]) (h' := h) rfl rfl rfl ?_
  refine jn_add (a := s) (b := 1) rfl rfl (by omega) (by omega) (fun z13 ez13 => ?_)
  rw [show (1 : Int32).toInt = 1 by decide] at ez13
  refine jm_aload_n (x := P.1 + 1) rfl rfl (jM_at hl9 2 rfl) ?_
  refine jn_gf (i := 1) (k := 1) rfl rfl hH (by decide) (hH.2 1 _ rfl).1 rfl rfl (fun z15 (ez15 : z15.toInt = ja h 1 1) (bz15 : 2 ≤ z15.toInt ∧ z15.toInt ≤ 24) => ?_)
  have hp18 := nm_mulnn (a := 0) (b := 61) (c := 2) (d := 24) (x := z13.toInt) (y := z15.toInt) (by decide) (by decide) (by omega) (by omega) (by omega) (by omega)
  refine jn_mul (a := z13) (b := z15) rfl rfl (by omega) (by omega) (fun z18 ez18 => ?_)
  refine jm_istore (l' := [(7, .int z18), (6, .int z6), (5, .int 0), (0, .ref (P.1 + 1)), (1, .int s), (2, .int l), (3, .ref (P.1 + 7)), (4, .int f)]) rfl rfl (by decide) hl9 rfl rfl (fun ls19 hl19 => ?_)
  have ep : z18.toInt = s.toInt * ja h 1 1 + ja h 1 1 := by rw [ez18, ez13, ez15, Int.add_mul, Int.one_mul]
  rcases Int.lt_or_le (jlw (ja h 1 0) (ja h 1 1) s.toInt l.toInt) 0 with hx | hx
  · have zz := jLO_0 (h := h) (f := f.toInt) (y := (ja h 1 0 * ja h 1 1).toNat) bm br (by omega) hs hl hx
    have k0 : (0 : Int32).toInt = 0 := by decide
    refine jm_iload (x := z6) rfl rfl (jM_at hl19 1 rfl) ?_
    refine jx_if (t := 67) rfl rfl rfl (fun hc23 => ?_) (fun hc23 => ?_)
    · have g23 := jc1_lt_t hc23
      refine jm_iload (x := 0) rfl rfl (jM_at hl19 2 rfl) ?_
      refine jx_ret rfl rfl rfl ?_
      exact ⟨0, rfl, hH, az_same_out.rf, zz⟩
    · have g23 := jc1_lt_f hc23
      exfalso
      omega
  · have je := (jmq_eq (m := ja h 1 0) (r := ja h 1 1) (s := s.toInt) (l := l.toInt) (by omega) (by omega) (by omega) hl).2 hx
    exact clo_l hxa hH s l f hs hl hf z18 ep hx 2000 0 z6 0 h ls19 (jM_pick hl19 [0, 1, 2, 3, 4, 5, 6, 7] rfl) hH az_same_out.rf (by decide) (by rw [ez6]; show _ = _ + ((0 : Nat) : Int) * _; rw [show ((0 : Nat) : Int) = 0 from rfl, Int.zero_mul, Int.add_zero]) (by omega) (by omega) (by omega) (fun _ _ => rfl) (fun i hi => absurd hi (by omega))
theorem clist_ok {P : si_P} (hxa : P.2.1 < P.1) {d : Nat} {h : si_H} (hH : az_HI P az_tb h) (a b f : Int32) (ha : 0 ≤ a.toInt ∧ a.toInt < ja h 1 0) (hb : 0 ≤ b.toInt ∧ b.toInt < ja h 1 0) (hf : 0 ≤ f.toInt ∧ f.toInt ≤ 84) : az_X P (d + 3) 89 0 (lv_args 0 [.ref (P.1 + 1), .int a, .int b, .ref (P.1 + 7), .int f]) [] h (fun rv h' => ∃ z : Int32, rv = some (.int z) ∧ az_HI P az_tb h' ∧ az_same_out [(7, 1000000)] h h' ∧  jLS h' (ja h 1 0) (ja h 1 1) f.toInt (64 * min b.toInt a.toInt + max b.toInt a.toInt) z.toInt ∧ ∀ j : Nat, (j : Int) < f.toInt → ja h' 7 j = ja h 7 j) := by
  have bm : 4 ≤ ja h 1 0 ∧ ja h 1 0 ≤ 60 := ja_bd hH (i := 1) (k := 0) rfl
  have br : 2 ≤ ja h 1 1 ∧ ja h 1 1 ≤ 24 := ja_bd hH (i := 1) (k := 1) rfl
  have bp := nm_mulnn (a := 4) (b := 60) (c := 2) (d := 24) (x := ja h 1 0) (y := ja h 1 1) (by decide) (by decide) bm.1 bm.2 br.1 br.2
  have hl : jM [(0, .ref (P.1 + 1)), (1, .int a), (2, .int b), (3, .ref (P.1 + 7)), (4, .int f)] (lv_args 0 [.ref (P.1 + 1), .int a, .int b, .ref (P.1 + 7), .int f]) := jM_args [0, 1, 2, 3, 4] rfl (by decide)
  generalize lv_args 0 [.ref (P.1 + 1), .int a, .int b, .ref (P.1 + 7), .int f] = ls at hl
  refine jm_aload_n (x := P.1 + 1) rfl rfl (jM_at hl 0 rfl) ?_
  refine jm_iload_n (x := a) rfl rfl (jM_at hl 1 rfl) ?_
  refine jm_iload_n (x := b) rfl rfl (jM_at hl 2 rfl) ?_
  refine jm_aload_n (x := P.1 + 7) rfl rfl (jM_at hl 3 rfl) ?_
  refine jm_iload (x := f) rfl rfl (jM_at hl 4 rfl) ?_
  refine az_X_call (m' := 90) (as := [.ref (P.1 + 1), .int a, .int b, .ref (P.1 + 7), .int f]) (rest := []) rfl rfl rfl rfl rfl ?_ ?_
  · unfold si_call
    dsimp only
    rw [if_pos ⟨rfl, rfl⟩]
    show (match si_ix P h (P.1 + 1) with | some i => _ | none => none) = _
    rw [jix hH (by decide)]
    dsimp only
    rw [(hH.2 1 _ rfl).1]
    rfl
  refine (clo_ok hxa hH a b f ha hb (by omega)).mono ?_
  rintro rv6 h6 ⟨z6, rfl, hH6, hs6, f6⟩
  show az_X P _ 89 9 ls [.int z6] _ _
  refine jm_istore (l' := [(5, .int z6), (0, .ref (P.1 + 1)), (1, .int a), (2, .int b), (3, .ref (P.1 + 7)), (4, .int f)]) rfl rfl (by decide) hl rfl rfl (fun ls9 hl9 => ?_)
  refine jm_iload_n (x := a) rfl rfl (jM_at hl9 2 rfl) ?_
  refine jm_iload_n (x := b) rfl rfl (jM_at hl9 3 rfl) ?_
  refine jx_ic (t := 33) rfl rfl rfl (fun hc13 => ?_) (fun hc13 => ?_)
  · have g13 := jc2_eq_t hc13
    refine jm_iload (x := z6) rfl rfl (jM_at hl9 0 rfl) ?_
    refine jx_ret rfl rfl rfl ?_
    have eab : b.toInt = a.toInt := by omega
    rw [eab] at f6
    exact ⟨z6, rfl, hH6, hs6, by rw [eab]; exact jLS_1 bm br ha f6, f6.2.2.1⟩
  · have g13 := jc2_eq_f hc13
    have f6b := f6.1
    have f6c := f6.2.1
    refine jm_iload (x := z6) rfl rfl (jM_at hl9 0 rfl) ?_
    refine jm_aload_n (x := P.1 + 1) rfl rfl (jM_at hl9 1 rfl) ?_
    refine jm_iload_n (x := b) rfl rfl (jM_at hl9 3 rfl) ?_
    refine jm_iload_n (x := a) rfl rfl (jM_at hl9 2 rfl) ?_
    refine jm_aload_n (x := P.1 + 7) rfl rfl (jM_at hl9 4 rfl) ?_
    refine jm_iload (x := f) rfl rfl (jM_at hl9 5 rfl) ?_
    refine jm_iload (x := z6) rfl rfl (jM_at hl9 0 rfl) ?_
    refine jn_add (a := f) (b := z6) rfl rfl (by omega) (by omega) (fun z26 ez26 => ?_)
    refine az_X_call (m' := 90) (as := [.ref (P.1 + 1), .int b, .int a, .ref (P.1 + 7), .int z26]) (rest := [.int z6]) rfl rfl rfl rfl rfl ?_ ?_
    · unfold si_call
      dsimp only
      rw [if_pos ⟨rfl, rfl⟩]
      show (match si_ix P h6 (P.1 + 1) with | some i => _ | none => none) = _
      rw [jix hH6 (by decide)]
      dsimp only
      rw [(hH6.2 1 _ rfl).1]
      rfl
    refine (clo_ok hxa hH6 b a z26 (by rw [jso hs6 (by decide)]; exact hb) (by rw [jso hs6 (by decide)]; exact ha) (by omega)).mono ?_
    rintro rv27 h27 ⟨z27, rfl, hH27, hs27, f27⟩
    show az_X P _ 89 30 ls9 [.int z27, .int z6] _ _
    have f27b := f27.1
    have f27c := f27.2.1
    refine jn_add (a := z6) (b := z27) rfl rfl (by omega) (by omega) (fun z30 ez30 => ?_)
    refine jm_istore (l' := [(5, .int z30), (0, .ref (P.1 + 1)), (1, .int a), (2, .int b), (3, .ref (P.1 + 7)), (4, .int f)]) rfl rfl (by decide) hl9 rfl rfl (fun ls31 hl31 => ?_)
    refine jm_iload (x := z30) rfl rfl (jM_at hl31 0 rfl) ?_
    refine jx_ret rfl rfl rfl ?_
    have r0 : ja h6 1 0 = ja h 1 0 := jso hs6 (by decide)
    have r1 : ja h6 1 1 = ja h 1 1 := jso hs6 (by decide)
    rw [r0, r1] at f27
    refine ⟨z30, rfl, hH27, hs6.tr hs27, jLS_2 hf.1 bm br ha hb (by omega) f6 f27 ez26 ez30, fun j hj => ?_⟩
    rw [f27.2.2.1 j (by omega)]
    exact f6.2.2.1 j hj
theorem tat_ok {P : si_P} (hxa : P.2.1 < P.1) {d : Nat} {h : si_H} (hH : az_HI P az_tb h) (i : Int32) (hi : 0 ≤ i.toInt ∧ i.toInt < ja h 12 1) : az_X P d 141 0 (lv_args 0 [.ref (P.1 + 12), .int i]) [] h (fun rv h' => h' = h ∧ jV rv (ja h 13 i.toInt)) := by
  have hl : jM [(0, .ref (P.1 + 12)), (1, .int i)] (lv_args 0 [.ref (P.1 + 12), .int i]) := jM_args [0, 1] rfl (by decide)
  generalize lv_args 0 [.ref (P.1 + 12), .int i] = ls at hl
  have km1 : ((-1) : Int32).toInt = (-1) := by decide
  have k0 : (0 : Int32).toInt = 0 := by decide
  have b0 : 0 ≤ ja h 12 1 ∧ ja h 12 1 ≤ 260 := ja_bd hH (i := 12) (k := 1) rfl
  refine jm_iload_n (x := i) rfl rfl (jM_at hl 1 rfl) ?_
  refine jx_if (t := 21) rfl rfl rfl (fun hc1 => ?_) (fun hc1 => ?_)
  · have g1 := jc1_lt_t hc1
    refine az_X_step (pc' := 22) (ls' := ls) (st' := [.int (-1)]) (h' := h) rfl rfl rfl ?_
    refine jx_ret rfl rfl rfl ?_
    exfalso
    omega
  · have g1 := jc1_lt_f hc1
    refine jm_iload_n (x := i) rfl rfl (jM_at hl 1 rfl) ?_
    refine jm_aload_n (x := P.1 + 12) rfl rfl (jM_at hl 0 rfl) ?_
    refine jn_gf (i := 12) (k := 1) rfl rfl hH (by decide) (hH.2 12 _ rfl).1 rfl rfl (fun z6 (ez6 : z6.toInt = ja h 12 1) (bz6 : 0 ≤ z6.toInt ∧ z6.toInt ≤ 260) => ?_)
    refine jx_ic (t := 21) rfl rfl rfl (fun hc9 => ?_) (fun hc9 => ?_)
    · have g9 := jc2_ge_t hc9
      refine az_X_step (pc' := 22) (ls' := ls) (st' := [.int (-1)]) (h' := h) rfl rfl rfl ?_
      refine jx_ret rfl rfl rfl ?_
      exfalso
      omega
    · have g9 := jc2_ge_f hc9
      refine jm_aload_n (x := P.1 + 12) rfl rfl (jM_at hl 0 rfl) ?_
      refine jx_gf (i := 12) rfl rfl hH (by decide) (hH.2 12 _ rfl).1 rfl (jx_rf hH rfl rfl) ?_
      refine jm_iload_n (x := i) rfl rfl (jM_at hl 1 rfl) ?_
      refine jx_ial (i := 13) (x := i) rfl rfl hxa hH (by decide) rfl (by omega) (by show _ < ((260 : Nat) : Int); omega) (fun z17 ez17 bz17 => ?_)
      refine az_X_step (pc' := 22) (ls' := ls) (st' := [.int z17]) (h' := h) rfl rfl rfl ?_
      refine jx_ret rfl rfl rfl ?_
      exact ⟨rfl, z17, rfl, ez17⟩
/-! THE ALBUM -/
/-- how a photograph looks, by the bytes -/
def jLk (B : Nat → Int) (i : Nat) : Int := 64 * min (B (2 * i + 1)) (B (2 * i)) + max (B (2 * i + 1)) (B (2 * i))
def jpA (m r : Int) (n : Nat) (B : Nat → Int) (i t : Nat) : Bool := decide (i < n ∧ jlk m r t = jLk B i)
/-- the album as it was taken: how many, the ticks between, the lists -/
def jCX (h : si_H) (m r : Int) (Y n : Nat) (B : Nat → Int) (a b : Int) : Prop := ja h 1 0 = m ∧ ja h 1 1 = r ∧ (4 ≤ m ∧ m ≤ 60) ∧ (2 ≤ r ∧ r ≤ 24) ∧ m * r = Y ∧ ja h 6 6 = n ∧ (1 ≤ n ∧ n ≤ 8) ∧ ja h 6 7 = a ∧ ja h 6 8 = b ∧ (0 ≤ a ∧ a ≤ b ∧ b ≤ 99) ∧ ∀ i : Nat, i < n → jLS h m r (12 * i) (jLk B i) (ja h 8 i)
theorem jCX_so {md : List (Nat × Nat)} {h h' : si_H} {m r : Int} {Y n : Nat} {B : Nat → Int} {a b : Int} (hs : az_same_out md h h') (h1 : md.all (fun x => decide (x.1 ≠ 1)) = true) (h6 : md.all (fun x => decide (x.1 ≠ 6)) = true) (h7 : md.all (fun x => decide (x.1 ≠ 7)) = true) (h8 : md.all (fun x => decide (x.1 ≠ 8)) = true) (q : jCX h m r Y n B a b) : jCX h' m r Y n B a b := by
  obtain ⟨a1, a2, a3, a4, a5, a6, a7, a8, a9, a10, a11⟩ := q
  refine ⟨(jso_row hs h1 0).trans a1, (jso_row hs h1 1).trans a2, a3, a4, a5, (jso_row hs h6 6).trans a6, a7, (jso_row hs h6 7).trans a8, (jso_row hs h6 8).trans a9, a10, fun i hi => ?_⟩
  rw [jso_row hs h8]
  exact jLS_cg (by omega) (fun j _ _ => jso_row hs h7 j) (a11 i hi)
/-- the time of an entry -/
def jtm (h : si_H) (i c : Nat) : Nat := (ja h 7 (12 * (i : Int) + c)).toNat
theorem jtm_ok {h : si_H} {m r : Int} {Y n : Nat} {B : Nat → Int} {a b : Int} (q : jCX h m r Y n B a b) {i c : Nat} (hi : i < n) (hc : (c : Int) < ja h 8 i) : ja h 7 (12 * (i : Int) + c) = jtm h i c ∧ jtm h i c < Y ∧ jpA m r n B i (jtm h i c) = true := by
  obtain ⟨a1, a2, a3, a4, a5, a6, a7, a8, a9, a10, a11⟩ := q
  obtain ⟨u, e1, e2, e3⟩ := (a11 i hi).2.2.1 c hc
  have e4 : jtm h i c = u := by
    unfold jtm
    rw [e1]
    exact Int.toNat_natCast u
  rw [e4]
  exact ⟨e1, by omega, decide_eq_true ⟨hi, e3⟩⟩
theorem jtm_cg {md : List (Nat × Nat)} {h h' : si_H} (hs : az_same_out md h h') (h7 : md.all (fun x => decide (x.1 ≠ 7)) = true) (i c : Nat) : jtm h' i c = jtm h i c := by
  unfold jtm
  rw [jso_row hs h7]
/-- a sum over the entries is one over the times -/
theorem jtm_sum {h : si_H} {m r : Int} {Y n : Nat} {B : Nat → Int} {a b : Int} (q : jCX h m r Y n B a b) {i k : Nat} (hi : i < n) (hk : ja h 8 i = k) (g : Nat → Int) : jsu (fun c => g (jtm h i c)) k = jsu (fun t => if jpA m r n B i t = true then g t else 0) Y := by
  have q' := q
  obtain ⟨a1, a2, a3, a4, a5, a6, a7, a8, a9, a10, a11⟩ := q'
  have l := a11 i hi
  refine jsu_list g (fun c hc => ?_) (fun c e h1 h2 => ?_) (fun t ht hA => ?_)
  · have := jtm_ok q hi (c := c) (by omega)
    exact ⟨this.2.1, this.2.2⟩
  · have u1 := (jtm_ok q hi (c := c) (by omega)).1
    have u2 := (jtm_ok q hi (c := e) (by omega)).1
    have u3 := l.2.2.2.1 c e h1 (by omega)
    intro e2
    rw [u1, u2, e2] at u3
    exact u3 rfl
  · have hA2 := of_decide_eq_true hA
    obtain ⟨c, c1, c2⟩ := l.2.2.2.2 t (by omega) hA2.2
    refine ⟨c, by omega, ?_⟩
    unfold jtm
    rw [c2]
    exact Int.toNat_natCast t
theorem jpA_12 {h : si_H} {m r : Int} {Y n : Nat} {B : Nat → Int} {a b : Int} (q : jCX h m r Y n B a b) (i : Nat) : jsu (fun t => if jpA m r n B i t = true then 1 else 0) Y ≤ 12 := by
  by_cases hi : i < n
  · have q' := q
    obtain ⟨a1, a2, a3, a4, a5, a6, a7, a8, a9, a10, a11⟩ := q'
    have l := a11 i hi
    obtain ⟨k, hk⟩ : ∃ k : Nat, ja h 8 i = k := ⟨(ja h 8 i).toNat, by have := l.1; omega⟩
    rw [← jtm_sum q hi hk (fun _ => 1)]
    have : ∀ k : Nat, jsu (fun _ => 1) k = k := by
      intro k
      induction k with
      | zero => rfl
      | succ k ih =>
        rw [jsu_s, ih]
        omega
    rw [this]
    have := l.2.1
    omega
  · rw [jsu_cg (f := fun _ => 0) (fun t _ => by
      rw [if_neg]
      intro e
      exact hi (of_decide_eq_true e).1), jsu_0]
    omega
theorem tk_2 {P : si_P} (hxa : P.2.1 < P.1) {d : Nat} {h0 : si_H} (hH0 : az_HI P az_tb h0) {n : Nat} (hn : 1 ≤ n ∧ n ≤ 8) (h66 : ja h0 6 6 = n) (hl2 : 2 * (n : Int) ≤ ja h0 12 1) (hmk : ∀ i : Nat, i < 2 * n → ja h0 13 i < ja h0 1 0) (N D E : Int32) : ∀ (k j : Nat) (T : Int32) (h : si_H) (ls : si_L), jM [(5, .int T), (0, .ref (P.1 + 6)), (1, .ref (P.1 + 12)), (2, .int N), (3, .int D), (4, .int E)] ls → az_HI P az_tb h → az_same_out [(7, 1000000), (8, 1000000)] h0 h → T.toInt = j → j + k = n → (∀ u : Nat, u < j → jLS h (ja h0 1 0) (ja h0 1 1) (12 * (u : Int)) (jLk (fun i => ja h0 13 i) u) (ja h 8 u)) → az_X P (d + 4) 1 71 ls [] h (fun rv h' => ∃ z : Int32, rv = some (.int z) ∧ az_HI P az_tb h' ∧ az_same_out [(7, 1000000), (8, 1000000)] h0 h' ∧ z.toInt = 1 ∧ (∀ u : Nat, u < n → jLS h' (ja h0 1 0) (ja h0 1 1) (12 * (u : Int)) (jLk (fun i => ja h0 13 i) u) (ja h' 8 u))) := by
  have bm : 4 ≤ ja h0 1 0 ∧ ja h0 1 0 ≤ 60 := ja_bd hH0 (i := 1) (k := 0) rfl
  have br : 2 ≤ ja h0 1 1 ∧ ja h0 1 1 ≤ 24 := ja_bd hH0 (i := 1) (k := 1) rfl
  have b13 : ∀ i : Int, 0 ≤ i → i < 260 → 0 ≤ ja h0 13 i ∧ ja h0 13 i ≤ 255 := fun i i0 i1 => ja_row hH0 (i := 13) (r := (260, 0, 255)) rfl i0 i1
  have b12 : 0 ≤ ja h0 12 1 ∧ ja h0 12 1 ≤ 260 := ja_bd hH0 (i := 12) (k := 1) rfl
  intro k
  induction k with
  | zero =>
    intro j T h ls hl hH hs eT hj hd
    have r66 : ja h 6 6 = n := (jso hs (by decide)).trans h66
    have k1 : (1 : Int32).toInt = 1 := by decide
    refine jm_iload (x := T) rfl rfl (jM_at hl 0 rfl) ?_
    refine jm_aload_n (x := P.1 + 6) rfl rfl (jM_at hl 1 rfl) ?_
    refine jn_gf (i := 6) (k := 6) rfl rfl hH (by decide) (hH.2 6 _ rfl).1 rfl rfl (fun z74 (ez74 : z74.toInt = ja h 6 6) (bz74 : 0 ≤ z74.toInt ∧ z74.toInt ≤ 8) => ?_)
    refine jx_ic (t := 136) rfl rfl rfl (fun hc77 => ?_) (fun hc77 => ?_)
    · have g77 := jc2_ge_t hc77
      refine az_X_step (pc' := 137) (ls' := ls) (st' := [.int 1]) (h' := h) rfl rfl rfl ?_
      refine jx_retz rfl rfl rfl (by decide) ?_
      exact ⟨1, rfl, hH, hs, by decide, fun u hu => hd u (by omega)⟩
    · have g77 := jc2_ge_f hc77
      exfalso
      omega
  | succ k ih =>
    intro j T h ls hl hH hs eT hj hd
    have r66 : ja h 6 6 = n := (jso hs (by decide)).trans h66
    have k1 : (1 : Int32).toInt = 1 := by decide
    have k2 : (2 : Int32).toInt = 2 := by decide
    have k12 : (12 : Int32).toInt = 12 := by decide
    refine jm_iload (x := T) rfl rfl (jM_at hl 0 rfl) ?_
    refine jm_aload_n (x := P.1 + 6) rfl rfl (jM_at hl 1 rfl) ?_
    refine jn_gf (i := 6) (k := 6) rfl rfl hH (by decide) (hH.2 6 _ rfl).1 rfl rfl (fun z74 (ez74 : z74.toInt = ja h 6 6) (bz74 : 0 ≤ z74.toInt ∧ z74.toInt ≤ 8) => ?_)
    refine jx_ic (t := 136) rfl rfl rfl (fun hc77 => ?_) (fun hc77 => ?_)
    · have g77 := jc2_ge_t hc77
      refine az_X_step (pc' := 137) (ls' := ls) (st' := [.int 1]) (h' := h) rfl rfl rfl ?_
      refine jx_retz rfl rfl rfl (by decide) ?_
      exfalso
      omega
    · have g77 := jc2_ge_f hc77
      refine jm_aload_n (x := P.1 + 6) rfl rfl (jM_at hl 1 rfl) ?_
      refine jx_gf (i := 6) rfl rfl hH (by decide) (hH.2 6 _ rfl).1 rfl (jx_rf hH rfl rfl) ?_
      refine jm_aload_n (x := P.1 + 12) rfl rfl (jM_at hl 2 rfl) ?_
      refine az_X_step (pc' := 86) (ls' := ls) (st' := [.int 2, .ref (P.1 + 12), .ref (P.1 + 1)]) (h' := h) rfl rfl rfl ?_
      refine jm_iload (x := T) rfl rfl (jM_at hl 0 rfl) ?_
      refine jn_mul (a := 2) (b := T) rfl rfl (by rw [show (2 : Int32).toInt = 2 by decide]; omega) (by rw [show (2 : Int32).toInt = 2 by decide]; omega) (fun z88 ez88 => ?_)
      rw [show (2 : Int32).toInt = 2 by decide] at ez88
      refine az_X_call (m' := 141) (as := [.ref (P.1 + 12), .int z88]) (rest := [.ref (P.1 + 1)]) rfl rfl rfl rfl rfl ?_ ?_
      · unfold si_call
        dsimp only
        rw [if_pos ⟨rfl, rfl⟩]
        show (match si_ix P h (P.1 + 12) with | some i => _ | none => none) = _
        rw [jix hH (by decide)]
        dsimp only
        rw [(hH.2 12 _ rfl).1]
        rfl
      refine (tat_ok hxa hH z88 (by rw [jso hs (by decide)]; omega)).mono ?_
      rintro rv89 h89 ⟨q89, z89, rfl, ez89⟩
      subst h89
      show az_X P _ 1 92 ls [.int z89, .ref (P.1 + 1)] _ _
      refine jm_aload_n (x := P.1 + 12) rfl rfl (jM_at hl 2 rfl) ?_
      refine az_X_step (pc' := 94) (ls' := ls) (st' := [.int 2, .ref (P.1 + 12), .int z89, .ref (P.1 + 1)]) (h' := h) rfl rfl rfl ?_
      refine jm_iload (x := T) rfl rfl (jM_at hl 0 rfl) ?_
      refine jn_mul (a := 2) (b := T) rfl rfl (by rw [show (2 : Int32).toInt = 2 by decide]; omega) (by rw [show (2 : Int32).toInt = 2 by decide]; omega) (fun z96 ez96 => ?_)
      rw [show (2 : Int32).toInt = 2 by decide] at ez96
      refine az_X_step (pc' := 98) (ls' := ls) (st' := [.int 1, .int z96, .ref (P.1 + 12), .int z89, .ref (P.1 + 1)]) (h' := h) rfl rfl rfl ?_
      refine jn_add (a := z96) (b := 1) rfl rfl (by omega) (by omega) (fun z98 ez98 => ?_)
      rw [show (1 : Int32).toInt = 1 by decide] at ez98
      refine az_X_call (m' := 141) (as := [.ref (P.1 + 12), .int z98]) (rest := [.int z89, .ref (P.1 + 1)]) rfl rfl rfl rfl rfl ?_ ?_
      · unfold si_call
        dsimp only
        rw [if_pos ⟨rfl, rfl⟩]
        show (match si_ix P h (P.1 + 12) with | some i => _ | none => none) = _
        rw [jix hH (by decide)]
        dsimp only
        rw [(hH.2 12 _ rfl).1]
        rfl
      refine (tat_ok hxa hH z98 (by rw [jso hs (by decide)]; omega)).mono ?_
      rintro rv99 h99 ⟨q99, z99, rfl, ez99⟩
      subst h99
      show az_X P _ 1 102 ls [.int z99, .int z89, .ref (P.1 + 1)] _ _
      refine jm_aload_n (x := P.1 + 6) rfl rfl (jM_at hl 1 rfl) ?_
      refine jx_gf (i := 6) rfl rfl hH (by decide) (hH.2 6 _ rfl).1 rfl (jx_rf hH rfl rfl) ?_
      refine jm_iload (x := T) rfl rfl (jM_at hl 0 rfl) ?_
      refine az_X_step (pc' := 110) (ls' := ls) (st' := [.int 12, .int T, .ref (P.1 + 7), .int z99, .int z89, .ref (P.1 + 1)]) (h' := h) rfl rfl rfl ?_
      refine jn_mul (a := T) (b := 12) rfl rfl (by rw [show (12 : Int32).toInt = 12 by decide]; omega) (by rw [show (12 : Int32).toInt = 12 by decide]; omega) (fun z110 ez110 => ?_)
      rw [show (12 : Int32).toInt = 12 by decide] at ez110
      refine az_X_call (m' := 89) (as := [.ref (P.1 + 1), .int z89, .int z99, .ref (P.1 + 7), .int z110]) (rest := []) rfl rfl rfl rfl rfl ?_ ?_
      · unfold si_call
        dsimp only
        rw [if_pos ⟨rfl, rfl⟩]
        show (match si_ix P h (P.1 + 1) with | some i => _ | none => none) = _
        rw [jix hH (by decide)]
        dsimp only
        rw [(hH.2 1 _ rfl).1]
        rfl
      refine (clist_ok hxa hH z89 z99 z110 (by
        have r0 : ja h 1 0 = ja h0 1 0 := jso hs (by decide)
        have q := b13 z88.toInt (by omega) (by omega)
        have q2 := hmk (2 * j) (by omega)
        have v : z89.toInt = ja h0 13 z88.toInt := by rw [ez89, jso_row (i := 13) hs (by decide)]
        rw [show ((2 * j : Nat) : Int) = z88.toInt by omega] at q2
        rw [r0]
        omega) (by
        have r0 : ja h 1 0 = ja h0 1 0 := jso hs (by decide)
        have q := b13 z98.toInt (by omega) (by omega)
        have q2 := hmk (2 * j + 1) (by omega)
        have v : z99.toInt = ja h0 13 z98.toInt := by rw [ez99, jso_row (i := 13) hs (by decide)]
        rw [show ((2 * j + 1 : Nat) : Int) = z98.toInt by omega] at q2
        rw [r0]
        omega) (by omega)).mono ?_
      rintro rv111 h111 ⟨z111, rfl, hH111, hs111, f111⟩
      show az_X P _ 1 114 ls [.int z111] _ _
      refine jm_istore (l' := [(6, .int z111), (5, .int T), (0, .ref (P.1 + 6)), (1, .ref (P.1 + 12)), (2, .int N), (3, .int D), (4, .int E)]) rfl rfl (by decide) hl rfl rfl (fun ls114 hl114 => ?_)
      refine jm_aload_n (x := P.1 + 6) rfl rfl (jM_at hl114 2 rfl) ?_
      refine jx_gf (i := 6) rfl rfl hH111 (by decide) (hH111.2 6 _ rfl).1 rfl (jx_rf hH111 rfl rfl) ?_
      refine jm_iload (x := T) rfl rfl (jM_at hl114 1 rfl) ?_
      have f111c := f111.1.1
      have f111d := f111.1.2.1
      refine jm_iload (x := z111) rfl rfl (jM_at hl114 0 rfl) ?_
      refine az_X_step (pc' := 126) (ls' := ls114) (st' := [.int 12, .int z111, .int T, .ref (P.1 + 8)]) (h' := h111) rfl rfl rfl ?_
      refine az_X_call (m' := 344) (as := [.int z111, .int 12]) (rest := [.int T, .ref (P.1 + 8)]) rfl rfl rfl rfl rfl rfl ?_
      refine (cmin2_ok z111 12).mono ?_
      rintro rv126 h126 ⟨q126, z126, rfl, ez126⟩
      subst h126
      show az_X P _ 1 129 ls114 [.int z126, .int T, .ref (P.1 + 8)] _ _
      refine jn_ias (i := 8) (x := T) (v := z126) rfl rfl hH111 (by decide) rfl (by omega) (by show _ < ((8 : Nat) : Int); omega) (by show 0 ≤ _; omega) (by show _ ≤ 12; omega) (fun h129 hH129 hs129 t129 u129 => ?_)
      refine jn_iinc (x := T) rfl rfl (by decide) (jM_at hl114 1 rfl) hl114 rfl (by decide) (by omega) (by omega) (fun z130 (ez130 : z130.toInt = T.toInt + 1) ls130 (hl130 : jM [(5, .int z130), (6, .int z111), (0, .ref (P.1 + 6)), (1, .ref (P.1 + 12)), (2, .int N), (3, .int D), (4, .int E)] ls130) => ?_)
      refine az_X_step (pc' := 71) (ls' := ls130) (st' := []) (h' := h129) rfl rfl rfl ?_
      have f111b := f111.1
      have r0 : ja h 1 0 = ja h0 1 0 := jso hs (by decide)
      have r1 : ja h 1 1 = ja h0 1 1 := jso hs (by decide)
      have v89 : z89.toInt = ja h0 13 ((2 * j : Nat) : Int) := by rw [ez89, jso_row (i := 13) hs (by decide), show z88.toInt = ((2 * j : Nat) : Int) by omega]
      have v99 : z99.toInt = ja h0 13 ((2 * j + 1 : Nat) : Int) := by rw [ez99, jso_row (i := 13) hs (by decide), show z98.toInt = ((2 * j + 1 : Nat) : Int) by omega]
      rw [r0, r1, v89, v99, show z110.toInt = 12 * (j : Int) by omega] at f111
      have l12 := f111.1.2.1
      have l0 := f111.1.1
      have z126e : z126.toInt = z111.toInt := by omega
      refine ih (j + 1) z130 h129 ls130 (jM_pick hl130 [0, 2, 3, 4, 5, 6] rfl) hH129 ((hs.tr (hs111.sub (by decide))).tr (hs129.sub (by decide))) (by omega) (by omega) (fun u hu => ?_)
      rcases Nat.lt_or_ge u j with q | q
      · have o := hd u q
        rw [u129 u (by omega) (by omega), jso_row (i := 8) hs111 (by decide)]
        refine jLS_cg (by omega) (fun x x0 x1 => ?_) o
        rw [jso_row (i := 7) hs129 (by decide)]
        have := f111.2 x.toNat (by omega)
        rw [Int.toNat_of_nonneg (by omega)] at this
        exact this
      · have eu : u = j := by omega
        subst eu
        rw [show (u : Int) = T.toInt by omega, t129, z126e, show T.toInt = (u : Int) by omega]
        exact jLS_cg (by omega) (fun x x0 x1 => jso_row (i := 7) hs129 (by decide) x) f111.1
theorem tk_1 {P : si_P} (hxa : P.2.1 < P.1) {d : Nat} {h0 : si_H} (hH0 : az_HI P az_tb h0) {n : Nat} (hn : 1 ≤ n ∧ n ≤ 8) (h66 : ja h0 6 6 = n) (hl2 : 2 * (n : Int) ≤ ja h0 12 1) (N D E : Int32) : ∀ (k j : Nat) (T : Int32) (ls : si_L), jM [(5, .int T), (0, .ref (P.1 + 6)), (1, .ref (P.1 + 12)), (2, .int N), (3, .int D), (4, .int E)] ls → T.toInt = j → j + k = 2 * n → (∀ i : Nat, i < j → ja h0 13 i < ja h0 1 0) → az_X P (d + 4) 1 24 ls [] h0 (fun rv h' => ∃ z : Int32, rv = some (.int z) ∧ az_HI P az_tb h' ∧ az_same_out [(7, 1000000), (8, 1000000)] h0 h' ∧ ((z.toInt = 1 ∧ (∀ i : Nat, i < 2 * n → ja h0 13 i < ja h0 1 0) ∧ (∀ u : Nat, u < n → jLS h' (ja h0 1 0) (ja h0 1 1) (12 * (u : Int)) (jLk (fun i => ja h0 13 i) u) (ja h' 8 u))) ∨ (z.toInt = 0 ∧ ∃ i : Nat, i < 2 * n ∧ ja h0 1 0 ≤ ja h0 13 i))) := by
  have bm : 4 ≤ ja h0 1 0 ∧ ja h0 1 0 ≤ 60 := ja_bd hH0 (i := 1) (k := 0) rfl
  have br : 2 ≤ ja h0 1 1 ∧ ja h0 1 1 ≤ 24 := ja_bd hH0 (i := 1) (k := 1) rfl
  have b13 : ∀ i : Int, 0 ≤ i → i < 260 → 0 ≤ ja h0 13 i ∧ ja h0 13 i ≤ 255 := fun i i0 i1 => ja_row hH0 (i := 13) (r := (260, 0, 255)) rfl i0 i1
  have b12 : 0 ≤ ja h0 12 1 ∧ ja h0 12 1 ≤ 260 := ja_bd hH0 (i := 12) (k := 1) rfl
  intro k
  induction k with
  | zero =>
    intro j T ls hl eT hj hd
    have k0 : (0 : Int32).toInt = 0 := by decide
    have k2 : (2 : Int32).toInt = 2 := by decide
    refine jm_iload (x := T) rfl rfl (jM_at hl 0 rfl) ?_
    refine az_X_step (pc' := 27) (ls' := ls) (st' := [.int 2, .int T]) (h' := h0) rfl rfl rfl ?_
    refine jm_aload_n (x := P.1 + 6) rfl rfl (jM_at hl 1 rfl) ?_
    refine jn_gf (i := 6) (k := 6) rfl rfl hH0 (by decide) (hH0.2 6 _ rfl).1 rfl rfl (fun z28 (ez28 : z28.toInt = ja h0 6 6) (bz28 : 0 ≤ z28.toInt ∧ z28.toInt ≤ 8) => ?_)
    refine jn_mul (a := 2) (b := z28) rfl rfl (by rw [show (2 : Int32).toInt = 2 by decide]; omega) (by rw [show (2 : Int32).toInt = 2 by decide]; omega) (fun z31 ez31 => ?_)
    rw [show (2 : Int32).toInt = 2 by decide] at ez31
    refine jx_ic (t := 68) rfl rfl rfl (fun hc32 => ?_) (fun hc32 => ?_)
    · have g32 := jc2_ge_t hc32
      refine az_X_step (pc' := 69) (ls' := ls) (st' := [.int 0]) (h' := h0) rfl rfl rfl ?_
      refine jm_istore (l' := [(5, .int 0), (0, .ref (P.1 + 6)), (1, .ref (P.1 + 12)), (2, .int N), (3, .int D), (4, .int E)]) rfl rfl (by decide) hl rfl rfl (fun ls69 hl69 => ?_)
      refine (tk_2 (d := d) hxa hH0 hn h66 hl2 (fun i hi => hd i (by omega)) N D E n 0 0 h0 ls69 (jM_pick hl69 [0, 1, 2, 3, 4, 5] rfl) hH0 az_same_out.rf (by decide) (by omega) (fun u hu => absurd hu (by omega))).mono ?_
      rintro rv h9 ⟨z, q1, q2, q3, q4, q5⟩
      exact ⟨z, q1, q2, q3, Or.inl ⟨q4, fun i hi => hd i (by omega), q5⟩⟩
    · have g32 := jc2_ge_f hc32
      exfalso
      omega
  | succ k ih =>
    intro j T ls hl eT hj hd
    have k0 : (0 : Int32).toInt = 0 := by decide
    have k2 : (2 : Int32).toInt = 2 := by decide
    refine jm_iload (x := T) rfl rfl (jM_at hl 0 rfl) ?_
    refine az_X_step (pc' := 27) (ls' := ls) (st' := [.int 2, .int T]) (h' := h0) rfl rfl rfl ?_
    refine jm_aload_n (x := P.1 + 6) rfl rfl (jM_at hl 1 rfl) ?_
    refine jn_gf (i := 6) (k := 6) rfl rfl hH0 (by decide) (hH0.2 6 _ rfl).1 rfl rfl (fun z28 (ez28 : z28.toInt = ja h0 6 6) (bz28 : 0 ≤ z28.toInt ∧ z28.toInt ≤ 8) => ?_)
    refine jn_mul (a := 2) (b := z28) rfl rfl (by rw [show (2 : Int32).toInt = 2 by decide]; omega) (by rw [show (2 : Int32).toInt = 2 by decide]; omega) (fun z31 ez31 => ?_)
    rw [show (2 : Int32).toInt = 2 by decide] at ez31
    refine jx_ic (t := 68) rfl rfl rfl (fun hc32 => ?_) (fun hc32 => ?_)
    · have g32 := jc2_ge_t hc32
      refine az_X_step (pc' := 69) (ls' := ls) (st' := [.int 0]) (h' := h0) rfl rfl rfl ?_
      refine jm_istore (l' := [(5, .int 0), (0, .ref (P.1 + 6)), (1, .ref (P.1 + 12)), (2, .int N), (3, .int D), (4, .int E)]) rfl rfl (by decide) hl rfl rfl (fun ls69 hl69 => ?_)
      exfalso
      omega
    · have g32 := jc2_ge_f hc32
      refine jm_aload_n (x := P.1 + 12) rfl rfl (jM_at hl 2 rfl) ?_
      refine jm_iload (x := T) rfl rfl (jM_at hl 0 rfl) ?_
      refine az_X_call (m' := 141) (as := [.ref (P.1 + 12), .int T]) (rest := []) rfl rfl rfl rfl rfl ?_ ?_
      · unfold si_call
        dsimp only
        rw [if_pos ⟨rfl, rfl⟩]
        show (match si_ix P h0 (P.1 + 12) with | some i => _ | none => none) = _
        rw [jix hH0 (by decide)]
        dsimp only
        rw [(hH0.2 12 _ rfl).1]
        rfl
      refine (tat_ok hxa hH0 T (by omega)).mono ?_
      rintro rv38 h38 ⟨q38, z38, rfl, ez38⟩
      subst h38
      show az_X P _ 1 41 ls [.int z38] _ _
      refine jx_if (t := 60) rfl rfl rfl (fun hc41 => ?_) (fun hc41 => ?_)
      · have g41 := jc1_lt_t hc41
        refine az_X_step (pc' := 61) (ls' := ls) (st' := [.int 0]) (h' := h0) rfl rfl rfl ?_
        refine jx_retz rfl rfl rfl (by decide) ?_
        exfalso
        have := b13 j (by omega) (by omega)
        rw [eT] at ez38
        omega
      · have g41 := jc1_lt_f hc41
        refine jm_aload_n (x := P.1 + 12) rfl rfl (jM_at hl 2 rfl) ?_
        refine jm_iload (x := T) rfl rfl (jM_at hl 0 rfl) ?_
        refine az_X_call (m' := 141) (as := [.ref (P.1 + 12), .int T]) (rest := []) rfl rfl rfl rfl rfl ?_ ?_
        · unfold si_call
          dsimp only
          rw [if_pos ⟨rfl, rfl⟩]
          show (match si_ix P h0 (P.1 + 12) with | some i => _ | none => none) = _
          rw [jix hH0 (by decide)]
          dsimp only
          rw [(hH0.2 12 _ rfl).1]
          rfl
        refine (tat_ok hxa hH0 T (by omega)).mono ?_
        rintro rv47 h47 ⟨q47, z47, rfl, ez47⟩
        subst h47
        show az_X P _ 1 50 ls [.int z47] _ _
        refine jm_aload_n (x := P.1 + 6) rfl rfl (jM_at hl 1 rfl) ?_
        refine jx_gf (i := 6) rfl rfl hH0 (by decide) (hH0.2 6 _ rfl).1 rfl (jx_rf hH0 rfl rfl) ?_
        refine jn_gf (i := 1) (k := 0) rfl rfl hH0 (by decide) (hH0.2 1 _ rfl).1 rfl rfl (fun z54 (ez54 : z54.toInt = ja h0 1 0) (bz54 : 4 ≤ z54.toInt ∧ z54.toInt ≤ 60) => ?_)
        refine jx_ic (t := 62) rfl rfl rfl (fun hc57 => ?_) (fun hc57 => ?_)
        · have g57 := jc2_lt_t hc57
          refine jn_iinc (x := T) rfl rfl (by decide) (jM_at hl 0 rfl) hl rfl (by decide) (by omega) (by omega) (fun z62 (ez62 : z62.toInt = T.toInt + 1) ls62 (hl62 : jM [(5, .int z62), (0, .ref (P.1 + 6)), (1, .ref (P.1 + 12)), (2, .int N), (3, .int D), (4, .int E)] ls62) => ?_)
          refine az_X_step (pc' := 24) (ls' := ls62) (st' := []) (h' := h0) rfl rfl rfl ?_
          rw [eT] at ez47
          refine ih (j + 1) z62 ls62 (jM_pick hl62 [0, 1, 2, 3, 4, 5] rfl) (by omega) (by omega) (fun i hi => ?_)
          rcases Nat.lt_or_ge i j with q | q
          · exact hd i q
          · rw [show i = j by omega]; omega
        · have g57 := jc2_lt_f hc57
          refine az_X_step (pc' := 61) (ls' := ls) (st' := [.int 0]) (h' := h0) rfl rfl rfl ?_
          refine jx_retz rfl rfl rfl (by decide) ?_
          rw [eT] at ez47
          exact ⟨0, rfl, hH0, az_same_out.rf, Or.inr ⟨by decide, j, by omega, by omega⟩⟩
theorem take_ok {P : si_P} (hxa : P.2.1 < P.1) {d : Nat} {h : si_H} (hH : az_HI P az_tb h) (N D E : Int32) (hn : 1 ≤ N.toInt ∧ N.toInt ≤ 8) (hd : 0 ≤ D.toInt ∧ D.toInt ≤ E.toInt ∧ E.toInt ≤ 99) (hl2 : 2 * N.toInt ≤ ja h 12 1) : az_X P (d + 4) 1 0 (lv_args 0 [.ref (P.1 + 6), .ref (P.1 + 12), .int N, .int D, .int E]) [] h (fun rv h' => ∃ z : Int32, rv = some (.int z) ∧ az_HI P az_tb h' ∧ az_same_out [(6, 6), (6, 7), (6, 8), (7, 1000000), (8, 1000000)] h h' ∧ ((z.toInt = 1 ∧ (∀ i : Nat, (i : Int) < 2 * N.toInt → ja h 13 i < ja h 1 0) ∧ jCX h' (ja h 1 0) (ja h 1 1) (ja h 1 0 * ja h 1 1).toNat N.toInt.toNat (fun i => ja h 13 i) D.toInt E.toInt) ∨ (z.toInt = 0 ∧ ∃ i : Nat, (i : Int) < 2 * N.toInt ∧ ja h 1 0 ≤ ja h 13 i))) := by
  have bm : 4 ≤ ja h 1 0 ∧ ja h 1 0 ≤ 60 := ja_bd hH (i := 1) (k := 0) rfl
  have br : 2 ≤ ja h 1 1 ∧ ja h 1 1 ≤ 24 := ja_bd hH (i := 1) (k := 1) rfl
  have bp := nm_mulnn (a := 4) (b := 60) (c := 2) (d := 24) (x := ja h 1 0) (y := ja h 1 1) (by decide) (by decide) bm.1 bm.2 br.1 br.2
  have hl : jM [(0, .ref (P.1 + 6)), (1, .ref (P.1 + 12)), (2, .int N), (3, .int D), (4, .int E)] (lv_args 0 [.ref (P.1 + 6), .ref (P.1 + 12), .int N, .int D, .int E]) := jM_args [0, 1, 2, 3, 4] rfl (by decide)
  generalize lv_args 0 [.ref (P.1 + 6), .ref (P.1 + 12), .int N, .int D, .int E] = ls at hl
  have k0 : (0 : Int32).toInt = 0 := by decide
  have k8 : (8 : Int32).toInt = 8 := by decide
  refine jm_aload_n (x := P.1 + 6) rfl rfl (jM_at hl 0 rfl) ?_
  refine jm_iload_n (x := N) rfl rfl (jM_at hl 2 rfl) ?_
  refine az_X_step (pc' := 4) (ls' := ls) (st' := [.int 8, .int N, .ref (P.1 + 6)]) (h' := h) rfl rfl rfl ?_
  refine az_X_call (m' := 344) (as := [.int N, .int 8]) (rest := [.ref (P.1 + 6)]) rfl rfl rfl rfl rfl rfl ?_
  refine (cmin2_ok N 8).mono ?_
  rintro rv4 h4 ⟨q4, z4, rfl, ez4⟩
  subst h4
  show az_X P _ 1 7 ls [.int z4, .ref (P.1 + 6)] _ _
  refine jn_pf (i := 6) (k := 6) (x := z4) rfl rfl hH (by decide) rfl (hH.2 6 _ rfl).1 rfl rfl (by decide) (by decide) (by show 0 ≤ _; omega) (by show _ ≤ 8; omega) (fun h7 hH7 hs7 (t7 : ja h7 6 6 = z4.toInt) => ?_)
  refine jm_aload_n (x := P.1 + 6) rfl rfl (jM_at hl 0 rfl) ?_
  refine jm_iload_n (x := D) rfl rfl (jM_at hl 3 rfl) ?_
  refine jn_pf (i := 6) (k := 7) (x := D) rfl rfl hH7 (by decide) rfl (hH7.2 6 _ rfl).1 rfl rfl (by decide) (by decide) (by show 0 ≤ _; omega) (by show _ ≤ 99; omega) (fun h12 hH12 hs12 (t12 : ja h12 6 7 = D.toInt) => ?_)
  refine jm_aload_n (x := P.1 + 6) rfl rfl (jM_at hl 0 rfl) ?_
  refine jm_iload (x := E) rfl rfl (jM_at hl 4 rfl) ?_
  refine jn_pf (i := 6) (k := 8) (x := E) rfl rfl hH12 (by decide) rfl (hH12.2 6 _ rfl).1 rfl rfl (by decide) (by decide) (by show 0 ≤ _; omega) (by show _ ≤ 99; omega) (fun h18 hH18 hs18 (t18 : ja h18 6 8 = E.toInt) => ?_)
  refine az_X_step (pc' := 22) (ls' := ls) (st' := [.int 0]) (h' := h18) rfl rfl rfl ?_
  refine jm_istore (l' := [(5, .int 0), (0, .ref (P.1 + 6)), (1, .ref (P.1 + 12)), (2, .int N), (3, .int D), (4, .int E)]) rfl rfl (by decide) hl rfl rfl (fun ls22 hl22 => ?_)
  have q66 : ja h18 6 6 = (N.toInt.toNat : Nat) := (jso hs18 (by decide)).trans ((jso hs12 (by decide)).trans (t7.trans (by omega)))
  have r0 : ja h18 1 0 = ja h 1 0 := (jso hs18 (by decide)).trans ((jso hs12 (by decide)).trans (jso hs7 (by decide)))
  have r1 : ja h18 1 1 = ja h 1 1 := (jso hs18 (by decide)).trans ((jso hs12 (by decide)).trans (jso hs7 (by decide)))
  have r13 : ∀ i : Int, ja h18 13 i = ja h 13 i := fun i => by rw [jso_row (i := 13) hs18 (by decide), jso_row (i := 13) hs12 (by decide), jso_row (i := 13) hs7 (by decide)]
  have eB : (fun i : Nat => ja h18 13 i) = (fun i : Nat => ja h 13 i) := funext (fun i => r13 i)
  refine (tk_1 (d := d) hxa hH18 (n := N.toInt.toNat) (by omega) q66 (by rw [jso hs18 (by decide), jso hs12 (by decide), jso hs7 (by decide)]; omega) N D E (2 * N.toInt.toNat) 0 0 ls22 (jM_pick hl22 [0, 1, 2, 3, 4, 5] rfl) (by decide) (by omega) (fun i hi => absurd hi (by omega))).mono ?_
  rintro rv h9 ⟨z, q1, q2, q3, q4⟩
  refine ⟨z, q1, q2, (((hs7.sub (by decide)).tr ((hs12.sub (by decide)).tr (hs18.sub (by decide))))).tr (q3.sub (by decide)), ?_⟩
  rw [r0, r1, eB] at q4
  rcases q4 with ⟨a1, a2, a3⟩ | ⟨a1, i, a2, a3⟩
  · refine Or.inl ⟨a1, fun i hi => by rw [← r13]; exact a2 i (by omega), (jso q3 (by decide)).trans r0, (jso q3 (by decide)).trans r1, bm, br, by omega, (jso q3 (by decide)).trans q66, by omega, (jso q3 (by decide)).trans ((jso hs18 (by decide)).trans t12), (jso q3 (by decide)).trans t18, by omega, a3⟩
  · exact Or.inr ⟨a1, i, by omega, by rw [← r13]; exact a3⟩
theorem fo_ok {P : si_P} {d : Nat} {h : si_H} (hH : az_HI P az_tb h) {m r : Int} {Y n : Nat} {B : Nat → Int} {a b : Int} (cx : jCX h m r Y n B a b) (s t : Int32) {u v : Nat} (hs : s.toInt = u) (ht : t.toInt = v) (hu : u < Y) (hv : v < Y) : az_X P (d + 2) 2 0 (lv_args 0 [.ref (P.1 + 6), .int s, .int t]) [] h (fun rv h' => h' = h ∧ jV rv (jb (jst2 a b Y u v))) := by
  have bm : 4 ≤ ja h 1 0 ∧ ja h 1 0 ≤ 60 := ja_bd hH (i := 1) (k := 0) rfl
  have br : 2 ≤ ja h 1 1 ∧ ja h 1 1 ≤ 24 := ja_bd hH (i := 1) (k := 1) rfl
  have bp := nm_mulnn (a := 4) (b := 60) (c := 2) (d := 24) (x := ja h 1 0) (y := ja h 1 1) (by decide) (by decide) bm.1 bm.2 br.1 br.2
  obtain ⟨c1, c2, c3, c4, c5, c6, c7, c8, c9, c10, c11⟩ := cx
  have yy : ja h 1 0 * ja h 1 1 = Y := by rw [c1, c2]; exact c5
  have hl : jM [(0, .ref (P.1 + 6)), (1, .int s), (2, .int t)] (lv_args 0 [.ref (P.1 + 6), .int s, .int t]) := jM_args [0, 1, 2] rfl (by decide)
  generalize lv_args 0 [.ref (P.1 + 6), .int s, .int t] = ls at hl
  have k0 : (0 : Int32).toInt = 0 := by decide
  have k1 : (1 : Int32).toInt = 1 := by decide
  refine jm_aload_n (x := P.1 + 6) rfl rfl (jM_at hl 0 rfl) ?_
  refine jn_gf (i := 6) (k := 7) rfl rfl hH (by decide) (hH.2 6 _ rfl).1 rfl rfl (fun z1 (ez1 : z1.toInt = ja h 6 7) (bz1 : 0 ≤ z1.toInt ∧ z1.toInt ≤ 99) => ?_)
  refine jm_aload_n (x := P.1 + 6) rfl rfl (jM_at hl 0 rfl) ?_
  refine jx_gf (i := 6) rfl rfl hH (by decide) (hH.2 6 _ rfl).1 rfl (jx_rf hH rfl rfl) ?_
  refine jm_iload_n (x := t) rfl rfl (jM_at hl 2 rfl) ?_
  refine jm_iload_n (x := s) rfl rfl (jM_at hl 1 rfl) ?_
  refine jn_sub (a := t) (b := s) rfl rfl (by omega) (by omega) (fun z10 ez10 => ?_)
  refine jm_aload_n (x := P.1 + 6) rfl rfl (jM_at hl 0 rfl) ?_
  refine jn_gf (i := 6) (k := 7) rfl rfl hH (by decide) (hH.2 6 _ rfl).1 rfl rfl (fun z12 (ez12 : z12.toInt = ja h 6 7) (bz12 : 0 ≤ z12.toInt ∧ z12.toInt ≤ 99) => ?_)
  refine jn_sub (a := z10) (b := z12) rfl rfl (by omega) (by omega) (fun z15 ez15 => ?_)
  refine az_X_call (m' := 75) (as := [.ref (P.1 + 1), .int z15]) (rest := [.int z1]) rfl rfl rfl rfl rfl ?_ ?_
  · unfold si_call
    dsimp only
    rw [if_pos ⟨rfl, rfl⟩]
    show (match si_ix P h (P.1 + 1) with | some i => _ | none => none) = _
    rw [jix hH (by decide)]
    dsimp only
    rw [(hH.2 1 _ rfl).1]
    rfl
  refine (taround_ok hH z15).mono ?_
  rintro rv16 h16 ⟨q16, z16, rfl, ez16⟩
  subst h16
  have bz16 : 0 ≤ z16.toInt ∧ z16.toInt < ja h 1 0 * ja h 1 1 := by
    rw [ez16]
    exact ⟨Int.emod_nonneg _ (by omega), Int.emod_lt_of_pos _ (by omega)⟩
  show az_X P _ 2 19 ls [.int z16, .int z1] _ _
  refine jn_add (a := z1) (b := z16) rfl rfl (by omega) (by omega) (fun z19 ez19 => ?_)
  refine jm_aload_n (x := P.1 + 6) rfl rfl (jM_at hl 0 rfl) ?_
  refine jn_gf (i := 6) (k := 8) rfl rfl hH (by decide) (hH.2 6 _ rfl).1 rfl rfl (fun z21 (ez21 : z21.toInt = ja h 6 8) (bz21 : 0 ≤ z21.toInt ∧ z21.toInt ≤ 99) => ?_)
  refine jx_ic (t := 31) rfl rfl rfl (fun hc24 => ?_) (fun hc24 => ?_)
  · have g24 := jc2_gt_t hc24
    refine az_X_step (pc' := 32) (ls' := ls) (st' := [.int 0]) (h' := h) rfl rfl rfl ?_
    refine jx_retz rfl rfl rfl (by decide) ?_
    refine ⟨rfl, 0, rfl, ?_⟩
    have e16 : z16.toInt = ((v : Int) - u - a) % (Y : Int) := by rw [ez16, show z15.toInt = (v : Int) - u - a by omega, c1, c2, c5]
    unfold jb jst2
    rw [decide_eq_false (by omega), if_neg (by decide)]
    decide
  · have g24 := jc2_gt_f hc24
    refine az_X_step (pc' := 28) (ls' := ls) (st' := [.int 1]) (h' := h) rfl rfl rfl ?_
    refine az_X_step (pc' := 32) (ls' := ls) (st' := [.int 1]) (h' := h) rfl rfl rfl ?_
    refine jx_retz rfl rfl rfl (by decide) ?_
    refine ⟨rfl, 1, rfl, ?_⟩
    have e16 : z16.toInt = ((v : Int) - u - a) % (Y : Int) := by rw [ez16, show z15.toInt = (v : Int) - u - a by omega, c1, c2, c5]
    unfold jb jst2
    rw [decide_eq_true (by omega), if_pos rfl]
    decide
theorem ct_b {P : si_P} (hxa : P.2.1 < P.1) {d : Nat} {h : si_H} (hH : az_HI P az_tb h) {m r : Int} {Y n : Nat} {B : Nat → Int} {a b : Int} (cx : jCX h m r Y n B a b) {i o c : Nat} (hi : i < n) (ho : o < n) (hio : i = o + 1) (hc : (c : Int) < ja h 8 i) (C I : Int32) (eC : C.toInt = c) (eI : I.toInt = i) (hrow : ∀ e : Nat, (e : Int) < ja h 8 o → jl h 9 (12 * (o : Int) + e) = jff (jpA m r n B) (jst2 a b Y) Y (o) (jtm h o e)) {Q : Option Value → si_H → Prop} (cont : ∀ (W : Int64) (ls : si_L), jM [(3, .long W), (2, .int C), (1, .int I), (0, .ref (P.1 + 6))] ls → W.toInt = jsu (fun e => if (jst2 a b Y) (jtm h o e) (jtm h i c) = true then jff (jpA m r n B) (jst2 a b Y) Y (o) (jtm h o e) else 0) (ja h 8 o).toNat → az_X P (d + 3) 3 107 ls [] h Q) : ∀ (k j : Nat) (T : Int32) (W : Int64) (ls : si_L), jM [(5, .int T), (3, .long W), (2, .int C), (1, .int I), (0, .ref (P.1 + 6))] ls → T.toInt = j → (j : Int) + k = ja h 8 o → W.toInt = jsu (fun e => if (jst2 a b Y) (jtm h o e) (jtm h i c) = true then jff (jpA m r n B) (jst2 a b Y) Y (o) (jtm h o e) else 0) j → az_X P (d + 3) 3 35 ls [] h (Q) := by
  have cx0 := cx
  obtain ⟨c1, c2, c3, c4, c5, c6, c7, c8, c9, c10, c11⟩ := cx
  have lo := c11 o ho
  have li := c11 i hi
  have lo1 := lo.1
  have lo2 := lo.2.1
  have li1 := li.1
  have li2 := li.2.1
  have ff : ∀ e : Nat, 0 ≤ jff (jpA m r n B) (jst2 a b Y) Y (o) (jtm h o e) ∧ jff (jpA m r n B) (jst2 a b Y) Y (o) (jtm h o e) ≤ 429981696 := fun e => ⟨jff_nn _ _ _ _ _, Int.le_trans (jff_bd (jpA_12 cx0) _ _) (jtw_8 (by omega))⟩
  intro k
  induction k with
  | zero =>
    intro j T W ls hl eT hj eW
    have k0 : (0 : Int32).toInt = 0 := by decide
    have k1 : (1 : Int32).toInt = 1 := by decide
    refine jm_iload_n (x := I) rfl rfl (jM_at hl 3 rfl) ?_
    refine jx_if (t := 107) rfl rfl rfl (fun hc36 => ?_) (fun hc36 => ?_)
    · have g36 := jc1_le_t hc36
      exact cont W ls (jM_pick hl [1, 2, 3, 4] rfl) (by rw [eW, show j = (ja h 8 o).toNat by omega])
    · have g36 := jc1_le_f hc36
      refine jm_iload (x := T) rfl rfl (jM_at hl 0 rfl) ?_
      refine jm_aload_n (x := P.1 + 6) rfl rfl (jM_at hl 4 rfl) ?_
      refine jx_gf (i := 6) rfl rfl hH (by decide) (hH.2 6 _ rfl).1 rfl (jx_rf hH rfl rfl) ?_
      refine jm_iload_n (x := I) rfl rfl (jM_at hl 3 rfl) ?_
      refine az_X_step (pc' := 47) (ls' := ls) (st' := [.int 1, .int I, .ref (P.1 + 8), .int T]) (h' := h) rfl rfl rfl ?_
      refine jn_sub (a := I) (b := 1) rfl rfl (by omega) (by omega) (fun z47 ez47 => ?_)
      rw [show (1 : Int32).toInt = 1 by decide] at ez47
      refine jx_ial (i := 8) (x := z47) rfl rfl hxa hH (by decide) rfl (by omega) (by show _ < ((8 : Nat) : Int); omega) (fun z48 ez48 bz48 => ?_)
      have e8 : ja h 8 z47.toInt = ja h 8 o := by rw [show z47.toInt = (o : Int) by omega]
      refine jx_ic (t := 107) rfl rfl rfl (fun hc49 => ?_) (fun hc49 => ?_)
      · have g49 := jc2_ge_t hc49
        exact cont W ls (jM_pick hl [1, 2, 3, 4] rfl) (by rw [eW, show j = (ja h 8 o).toNat by omega])
      · have g49 := jc2_ge_f hc49
        exfalso
        omega
  | succ k ih =>
    intro j T W ls hl eT hj eW
    have bW : 0 ≤ W.toInt ∧ W.toInt ≤ 429981696 * (j : Int) := by
      rw [eW]
      have q1 : ∀ e : Nat, e < j → (if (jst2 a b Y) (jtm h o e) (jtm h i c) = true then jff (jpA m r n B) (jst2 a b Y) Y (o) (jtm h o e) else 0) ≤ 429981696 := fun e _ => by
        have := ff e
        split <;> omega
      have q0 : ∀ e : Nat, e < j → 0 ≤ (if (jst2 a b Y) (jtm h o e) (jtm h i c) = true then jff (jpA m r n B) (jst2 a b Y) Y (o) (jtm h o e) else 0) := fun e _ => by
        have := ff e
        split <;> omega
      refine ⟨jsu_nn q0, Int.le_trans (jsu_le (f := fun _ => 429981696 * 1) (fun e he => by have := q1 e he; omega)) ?_⟩
      rw [jsu_mul]
      have one : ∀ k : Nat, jsu (fun _ => 1) k = k := by
        intro k
        induction k with
        | zero => rfl
        | succ k ih =>
          rw [jsu_s, ih]
          omega
      rw [one]
      omega
    have tj := jtm_ok cx0 ho (c := j) (by omega)
    have tc := jtm_ok cx0 hi hc
    have k0 : (0 : Int32).toInt = 0 := by decide
    have k1 : (1 : Int32).toInt = 1 := by decide
    have k12 : (12 : Int32).toInt = 12 := by decide
    refine jm_iload_n (x := I) rfl rfl (jM_at hl 3 rfl) ?_
    refine jx_if (t := 107) rfl rfl rfl (fun hc36 => ?_) (fun hc36 => ?_)
    · have g36 := jc1_le_t hc36
      exfalso
      omega
    · have g36 := jc1_le_f hc36
      refine jm_iload (x := T) rfl rfl (jM_at hl 0 rfl) ?_
      refine jm_aload_n (x := P.1 + 6) rfl rfl (jM_at hl 4 rfl) ?_
      refine jx_gf (i := 6) rfl rfl hH (by decide) (hH.2 6 _ rfl).1 rfl (jx_rf hH rfl rfl) ?_
      refine jm_iload_n (x := I) rfl rfl (jM_at hl 3 rfl) ?_
      refine az_X_step (pc' := 47) (ls' := ls) (st' := [.int 1, .int I, .ref (P.1 + 8), .int T]) (h' := h) rfl rfl rfl ?_
      refine jn_sub (a := I) (b := 1) rfl rfl (by omega) (by omega) (fun z47 ez47 => ?_)
      rw [show (1 : Int32).toInt = 1 by decide] at ez47
      refine jx_ial (i := 8) (x := z47) rfl rfl hxa hH (by decide) rfl (by omega) (by show _ < ((8 : Nat) : Int); omega) (fun z48 ez48 bz48 => ?_)
      have e8 : ja h 8 z47.toInt = ja h 8 o := by rw [show z47.toInt = (o : Int) by omega]
      refine jx_ic (t := 107) rfl rfl rfl (fun hc49 => ?_) (fun hc49 => ?_)
      · have g49 := jc2_ge_t hc49
        exfalso
        omega
      · have g49 := jc2_ge_f hc49
        refine jm_aload_n (x := P.1 + 6) rfl rfl (jM_at hl 4 rfl) ?_
        refine jm_aload_n (x := P.1 + 6) rfl rfl (jM_at hl 4 rfl) ?_
        refine jx_gf (i := 6) rfl rfl hH (by decide) (hH.2 6 _ rfl).1 rfl (jx_rf hH rfl rfl) ?_
        refine jm_iload_n (x := I) rfl rfl (jM_at hl 3 rfl) ?_
        refine az_X_step (pc' := 59) (ls' := ls) (st' := [.int 1, .int I, .ref (P.1 + 7), .ref (P.1 + 6)]) (h' := h) rfl rfl rfl ?_
        refine jn_sub (a := I) (b := 1) rfl rfl (by omega) (by omega) (fun z59 ez59 => ?_)
        rw [show (1 : Int32).toInt = 1 by decide] at ez59
        refine az_X_step (pc' := 62) (ls' := ls) (st' := [.int 12, .int z59, .ref (P.1 + 7), .ref (P.1 + 6)]) (h' := h) rfl rfl rfl ?_
        refine jn_mul (a := z59) (b := 12) rfl rfl (by rw [show (12 : Int32).toInt = 12 by decide]; omega) (by rw [show (12 : Int32).toInt = 12 by decide]; omega) (fun z62 ez62 => ?_)
        rw [show (12 : Int32).toInt = 12 by decide] at ez62
        refine jm_iload (x := T) rfl rfl (jM_at hl 0 rfl) ?_
        refine jn_add (a := z62) (b := T) rfl rfl (by omega) (by omega) (fun z65 ez65 => ?_)
        refine jx_ial (i := 7) (x := z65) rfl rfl hxa hH (by decide) rfl (by omega) (by show _ < ((96 : Nat) : Int); omega) (fun z66 ez66 bz66 => ?_)
        refine jm_aload_n (x := P.1 + 6) rfl rfl (jM_at hl 4 rfl) ?_
        refine jx_gf (i := 6) rfl rfl hH (by decide) (hH.2 6 _ rfl).1 rfl (jx_rf hH rfl rfl) ?_
        refine jm_iload_n (x := I) rfl rfl (jM_at hl 3 rfl) ?_
        refine az_X_step (pc' := 74) (ls' := ls) (st' := [.int 12, .int I, .ref (P.1 + 7), .int z66, .ref (P.1 + 6)]) (h' := h) rfl rfl rfl ?_
        refine jn_mul (a := I) (b := 12) rfl rfl (by rw [show (12 : Int32).toInt = 12 by decide]; omega) (by rw [show (12 : Int32).toInt = 12 by decide]; omega) (fun z74 ez74 => ?_)
        rw [show (12 : Int32).toInt = 12 by decide] at ez74
        refine jm_iload_n (x := C) rfl rfl (jM_at hl 2 rfl) ?_
        refine jn_add (a := z74) (b := C) rfl rfl (by omega) (by omega) (fun z76 ez76 => ?_)
        refine jx_ial (i := 7) (x := z76) rfl rfl hxa hH (by decide) rfl (by omega) (by show _ < ((96 : Nat) : Int); omega) (fun z77 ez77 bz77 => ?_)
        refine az_X_call (m' := 2) (as := [.ref (P.1 + 6), .int z66, .int z77]) (rest := []) rfl rfl rfl rfl rfl ?_ ?_
        · unfold si_call
          dsimp only
          rw [if_pos ⟨rfl, rfl⟩]
          show (match si_ix P h (P.1 + 6) with | some i => _ | none => none) = _
          rw [jix hH (by decide)]
          dsimp only
          rw [(hH.2 6 _ rfl).1]
          rfl
        refine (fo_ok hH cx0 z66 z77 (u := jtm h o j) (v := jtm h i c) (by rw [ez66]; rw [show z65.toInt = 12 * (o : Int) + j by omega]; exact tj.1) (by rw [ez77]; rw [show z76.toInt = 12 * (i : Int) + c by omega]; exact tc.1) tj.2.1 tc.2.1).mono ?_
        rintro rv78 h78 ⟨q78, z78, rfl, ez78⟩
        subst h78
        show az_X P _ 3 81 ls [.int z78] _ _
        refine jx_if (t := 101) rfl rfl rfl (fun hc81 => ?_) (fun hc81 => ?_)
        · have g81 := jc1_eq_t hc81
          refine jn_iincg (x := T) rfl rfl (by decide) (jM_at hl 0 rfl) hl (by decide) (by omega) (by omega) (fun z101 (ez101 : z101.toInt = T.toInt + 1) ls101 (hl101 : jM [(5, .int z101), (3, .long W), (2, .int C), (1, .int I), (0, .ref (P.1 + 6))] ls101) => ?_)
          refine az_X_step (pc' := 35) (ls' := ls101) (st' := []) (h' := h) rfl rfl rfl ?_
          have ps : jsu (fun e => if (jst2 a b Y) (jtm h o e) (jtm h i c) = true then jff (jpA m r n B) (jst2 a b Y) Y (o) (jtm h o e) else 0) (j + 1) = jsu (fun e => if (jst2 a b Y) (jtm h o e) (jtm h i c) = true then jff (jpA m r n B) (jst2 a b Y) Y (o) (jtm h o e) else 0) j + (if (jst2 a b Y) (jtm h o j) (jtm h i c) = true then jff (jpA m r n B) (jst2 a b Y) Y (o) (jtm h o j) else 0) := rfl
          rw [ez78] at g81
          unfold jb at g81
          have nf : ¬ (jst2 a b Y) (jtm h o j) (jtm h i c) = true := fun e => by
            rw [e] at g81
            exact absurd g81 (by decide)
          exact ih (j + 1) z101 W ls101 (jM_pick hl101 [0, 1, 2, 3, 4] rfl) (by omega) (by omega) (by rw [ps, if_neg nf, Int.add_zero]; exact eW)
        · have g81 := jc1_eq_f hc81
          refine jm_lload_n (x := W) rfl rfl (jM_at hl 1 rfl) ?_
          refine jm_aload_n (x := P.1 + 6) rfl rfl (jM_at hl 4 rfl) ?_
          refine jx_gf (i := 6) rfl rfl hH (by decide) (hH.2 6 _ rfl).1 rfl (jx_rf hH rfl rfl) ?_
          refine jm_iload_n (x := I) rfl rfl (jM_at hl 3 rfl) ?_
          refine az_X_step (pc' := 91) (ls' := ls) (st' := [.int 1, .int I, .ref (P.1 + 9), .long W]) (h' := h) rfl rfl rfl ?_
          refine jn_sub (a := I) (b := 1) rfl rfl (by omega) (by omega) (fun z91 ez91 => ?_)
          rw [show (1 : Int32).toInt = 1 by decide] at ez91
          refine az_X_step (pc' := 94) (ls' := ls) (st' := [.int 12, .int z91, .ref (P.1 + 9), .long W]) (h' := h) rfl rfl rfl ?_
          refine jn_mul (a := z91) (b := 12) rfl rfl (by rw [show (12 : Int32).toInt = 12 by decide]; omega) (by rw [show (12 : Int32).toInt = 12 by decide]; omega) (fun z94 ez94 => ?_)
          rw [show (12 : Int32).toInt = 12 by decide] at ez94
          refine jm_iload (x := T) rfl rfl (jM_at hl 0 rfl) ?_
          refine jn_add (a := z94) (b := T) rfl rfl (by omega) (by omega) (fun z97 ez97 => ?_)
          refine jn_lal (i := 9) (x := z97) rfl rfl hH (by decide) rfl (by omega) (by show _ < ((96 : Nat) : Int); omega) (fun z98 ez98 => ?_)
          have fj := ff j
          have el : z98.toInt = jff (jpA m r n B) (jst2 a b Y) Y (o) (jtm h o j) := by
            rw [ez98, show z97.toInt = 12 * (o : Int) + j by omega]
            exact hrow j (by omega)
          refine jn_ladd (a := W) (b := z98) rfl rfl (by omega) (by omega) (fun z99 ez99 => ?_)
          refine jm_lstore_n (l' := [(3, .long z99), (5, .int T), (2, .int C), (1, .int I), (0, .ref (P.1 + 6))]) rfl rfl (by decide) hl rfl (fun ls100 hl100 => ?_)
          refine jn_iincg (x := T) rfl rfl (by decide) (jM_at hl100 1 rfl) hl100 (by decide) (by omega) (by omega) (fun z101 (ez101 : z101.toInt = T.toInt + 1) ls101 (hl101 : jM [(5, .int z101), (3, .long z99), (2, .int C), (1, .int I), (0, .ref (P.1 + 6))] ls101) => ?_)
          refine az_X_step (pc' := 35) (ls' := ls101) (st' := []) (h' := h) rfl rfl rfl ?_
          have ps : jsu (fun e => if (jst2 a b Y) (jtm h o e) (jtm h i c) = true then jff (jpA m r n B) (jst2 a b Y) Y (o) (jtm h o e) else 0) (j + 1) = jsu (fun e => if (jst2 a b Y) (jtm h o e) (jtm h i c) = true then jff (jpA m r n B) (jst2 a b Y) Y (o) (jtm h o e) else 0) j + (if (jst2 a b Y) (jtm h o j) (jtm h i c) = true then jff (jpA m r n B) (jst2 a b Y) Y (o) (jtm h o j) else 0) := rfl
          rw [ez78] at g81
          unfold jb at g81
          have yf : (jst2 a b Y) (jtm h o j) (jtm h i c) = true := by
            by_cases e : (jst2 a b Y) (jtm h o j) (jtm h i c) = true
            · exact e
            · rw [if_neg e] at g81
              exact absurd rfl g81
          have el : z98.toInt = jff (jpA m r n B) (jst2 a b Y) Y (o) (jtm h o j) := by
            rw [ez98, show z97.toInt = 12 * (o : Int) + j by omega]
            exact hrow j (by omega)
          exact ih (j + 1) z101 z99 ls101 (jM_pick hl101 [0, 1, 2, 3, 4] rfl) (by omega) (by omega) (by rw [ps, if_pos yf]; omega)
theorem cs_b {P : si_P} (hxa : P.2.1 < P.1) {d : Nat} {h : si_H} (hH : az_HI P az_tb h) {m r : Int} {Y n : Nat} {B : Nat → Int} {a b : Int} (cx : jCX h m r Y n B a b) {i o c : Nat} (hi : i < n) (ho : o < n) (hio : o = i + 1) (hc : (c : Int) < ja h 8 i) (C I : Int32) (eC : C.toInt = c) (eI : I.toInt = i) (hrow : ∀ e : Nat, (e : Int) < ja h 8 o → jl h 10 (12 * (o : Int) + e) = jgg (jpA m r n B) (jst2 a b Y) Y n (n - 1 - (o)) (jtm h o e)) {Q : Option Value → si_H → Prop} (cont : ∀ (W : Int64) (ls : si_L), jM [(3, .long W), (2, .int C), (1, .int I), (0, .ref (P.1 + 6))] ls → W.toInt = jsu (fun e => if (jst2 a b Y) (jtm h i c) (jtm h o e) = true then jgg (jpA m r n B) (jst2 a b Y) Y n (n - 1 - (o)) (jtm h o e) else 0) (ja h 8 o).toNat → az_X P (d + 3) 4 120 ls [] h Q) : ∀ (k j : Nat) (T : Int32) (W : Int64) (ls : si_L), jM [(5, .int T), (3, .long W), (2, .int C), (1, .int I), (0, .ref (P.1 + 6))] ls → T.toInt = j → (j : Int) + k = ja h 8 o → W.toInt = jsu (fun e => if (jst2 a b Y) (jtm h i c) (jtm h o e) = true then jgg (jpA m r n B) (jst2 a b Y) Y n (n - 1 - (o)) (jtm h o e) else 0) j → az_X P (d + 3) 4 42 ls [] h (Q) := by
  have cx0 := cx
  obtain ⟨c1, c2, c3, c4, c5, c6, c7, c8, c9, c10, c11⟩ := cx
  have lo := c11 o ho
  have li := c11 i hi
  have lo1 := lo.1
  have lo2 := lo.2.1
  have li1 := li.1
  have li2 := li.2.1
  have ff : ∀ e : Nat, 0 ≤ jgg (jpA m r n B) (jst2 a b Y) Y n (n - 1 - (o)) (jtm h o e) ∧ jgg (jpA m r n B) (jst2 a b Y) Y n (n - 1 - (o)) (jtm h o e) ≤ 429981696 := fun e => ⟨jgg_nn _ _ _ _ _ _, Int.le_trans (jgg_bd (jpA_12 cx0) _ _) (jtw_8 (by omega))⟩
  intro k
  induction k with
  | zero =>
    intro j T W ls hl eT hj eW
    have k1 : (1 : Int32).toInt = 1 := by decide
    refine jm_iload_n (x := I) rfl rfl (jM_at hl 3 rfl) ?_
    refine jm_aload_n (x := P.1 + 6) rfl rfl (jM_at hl 4 rfl) ?_
    refine jn_gf (i := 6) (k := 6) rfl rfl hH (by decide) (hH.2 6 _ rfl).1 rfl rfl (fun z44 (ez44 : z44.toInt = ja h 6 6) (bz44 : 0 ≤ z44.toInt ∧ z44.toInt ≤ 8) => ?_)
    refine az_X_step (pc' := 48) (ls' := ls) (st' := [.int 1, .int z44, .int I]) (h' := h) rfl rfl rfl ?_
    refine jn_sub (a := z44) (b := 1) rfl rfl (by omega) (by omega) (fun z48 ez48 => ?_)
    rw [show (1 : Int32).toInt = 1 by decide] at ez48
    refine jx_ic (t := 120) rfl rfl rfl (fun hc49 => ?_) (fun hc49 => ?_)
    · have g49 := jc2_ge_t hc49
      exact cont W ls (jM_pick hl [1, 2, 3, 4] rfl) (by rw [eW, show j = (ja h 8 o).toNat by omega])
    · have g49 := jc2_ge_f hc49
      refine jm_iload (x := T) rfl rfl (jM_at hl 0 rfl) ?_
      refine jm_aload_n (x := P.1 + 6) rfl rfl (jM_at hl 4 rfl) ?_
      refine jx_gf (i := 6) rfl rfl hH (by decide) (hH.2 6 _ rfl).1 rfl (jx_rf hH rfl rfl) ?_
      refine jm_iload_n (x := I) rfl rfl (jM_at hl 3 rfl) ?_
      refine az_X_step (pc' := 60) (ls' := ls) (st' := [.int 1, .int I, .ref (P.1 + 8), .int T]) (h' := h) rfl rfl rfl ?_
      refine jn_add (a := I) (b := 1) rfl rfl (by omega) (by omega) (fun z60 ez60 => ?_)
      rw [show (1 : Int32).toInt = 1 by decide] at ez60
      refine jx_ial (i := 8) (x := z60) rfl rfl hxa hH (by decide) rfl (by omega) (by show _ < ((8 : Nat) : Int); omega) (fun z61 ez61 bz61 => ?_)
      have e8 : ja h 8 z60.toInt = ja h 8 o := by rw [show z60.toInt = (o : Int) by omega]
      refine jx_ic (t := 120) rfl rfl rfl (fun hc62 => ?_) (fun hc62 => ?_)
      · have g62 := jc2_ge_t hc62
        exact cont W ls (jM_pick hl [1, 2, 3, 4] rfl) (by rw [eW, show j = (ja h 8 o).toNat by omega])
      · have g62 := jc2_ge_f hc62
        exfalso
        omega
  | succ k ih =>
    intro j T W ls hl eT hj eW
    have bW : 0 ≤ W.toInt ∧ W.toInt ≤ 429981696 * (j : Int) := by
      rw [eW]
      have q1 : ∀ e : Nat, e < j → (if (jst2 a b Y) (jtm h i c) (jtm h o e) = true then jgg (jpA m r n B) (jst2 a b Y) Y n (n - 1 - (o)) (jtm h o e) else 0) ≤ 429981696 := fun e _ => by
        have := ff e
        split <;> omega
      have q0 : ∀ e : Nat, e < j → 0 ≤ (if (jst2 a b Y) (jtm h i c) (jtm h o e) = true then jgg (jpA m r n B) (jst2 a b Y) Y n (n - 1 - (o)) (jtm h o e) else 0) := fun e _ => by
        have := ff e
        split <;> omega
      refine ⟨jsu_nn q0, Int.le_trans (jsu_le (f := fun _ => 429981696 * 1) (fun e he => by have := q1 e he; omega)) ?_⟩
      rw [jsu_mul]
      have one : ∀ k : Nat, jsu (fun _ => 1) k = k := by
        intro k
        induction k with
        | zero => rfl
        | succ k ih =>
          rw [jsu_s, ih]
          omega
      rw [one]
      omega
    have tj := jtm_ok cx0 ho (c := j) (by omega)
    have tc := jtm_ok cx0 hi hc
    have k0 : (0 : Int32).toInt = 0 := by decide
    have k1 : (1 : Int32).toInt = 1 := by decide
    have k12 : (12 : Int32).toInt = 12 := by decide
    refine jm_iload_n (x := I) rfl rfl (jM_at hl 3 rfl) ?_
    refine jm_aload_n (x := P.1 + 6) rfl rfl (jM_at hl 4 rfl) ?_
    refine jn_gf (i := 6) (k := 6) rfl rfl hH (by decide) (hH.2 6 _ rfl).1 rfl rfl (fun z44 (ez44 : z44.toInt = ja h 6 6) (bz44 : 0 ≤ z44.toInt ∧ z44.toInt ≤ 8) => ?_)
    refine az_X_step (pc' := 48) (ls' := ls) (st' := [.int 1, .int z44, .int I]) (h' := h) rfl rfl rfl ?_
    refine jn_sub (a := z44) (b := 1) rfl rfl (by omega) (by omega) (fun z48 ez48 => ?_)
    rw [show (1 : Int32).toInt = 1 by decide] at ez48
    refine jx_ic (t := 120) rfl rfl rfl (fun hc49 => ?_) (fun hc49 => ?_)
    · have g49 := jc2_ge_t hc49
      exfalso
      omega
    · have g49 := jc2_ge_f hc49
      refine jm_iload (x := T) rfl rfl (jM_at hl 0 rfl) ?_
      refine jm_aload_n (x := P.1 + 6) rfl rfl (jM_at hl 4 rfl) ?_
      refine jx_gf (i := 6) rfl rfl hH (by decide) (hH.2 6 _ rfl).1 rfl (jx_rf hH rfl rfl) ?_
      refine jm_iload_n (x := I) rfl rfl (jM_at hl 3 rfl) ?_
      refine az_X_step (pc' := 60) (ls' := ls) (st' := [.int 1, .int I, .ref (P.1 + 8), .int T]) (h' := h) rfl rfl rfl ?_
      refine jn_add (a := I) (b := 1) rfl rfl (by omega) (by omega) (fun z60 ez60 => ?_)
      rw [show (1 : Int32).toInt = 1 by decide] at ez60
      refine jx_ial (i := 8) (x := z60) rfl rfl hxa hH (by decide) rfl (by omega) (by show _ < ((8 : Nat) : Int); omega) (fun z61 ez61 bz61 => ?_)
      have e8 : ja h 8 z60.toInt = ja h 8 o := by rw [show z60.toInt = (o : Int) by omega]
      refine jx_ic (t := 120) rfl rfl rfl (fun hc62 => ?_) (fun hc62 => ?_)
      · have g62 := jc2_ge_t hc62
        exfalso
        omega
      · have g62 := jc2_ge_f hc62
        refine jm_aload_n (x := P.1 + 6) rfl rfl (jM_at hl 4 rfl) ?_
        refine jm_aload_n (x := P.1 + 6) rfl rfl (jM_at hl 4 rfl) ?_
        refine jx_gf (i := 6) rfl rfl hH (by decide) (hH.2 6 _ rfl).1 rfl (jx_rf hH rfl rfl) ?_
        refine jm_iload_n (x := I) rfl rfl (jM_at hl 3 rfl) ?_
        refine az_X_step (pc' := 73) (ls' := ls) (st' := [.int 12, .int I, .ref (P.1 + 7), .ref (P.1 + 6)]) (h' := h) rfl rfl rfl ?_
        refine jn_mul (a := I) (b := 12) rfl rfl (by rw [show (12 : Int32).toInt = 12 by decide]; omega) (by rw [show (12 : Int32).toInt = 12 by decide]; omega) (fun z73 ez73 => ?_)
        rw [show (12 : Int32).toInt = 12 by decide] at ez73
        refine jm_iload_n (x := C) rfl rfl (jM_at hl 2 rfl) ?_
        refine jn_add (a := z73) (b := C) rfl rfl (by omega) (by omega) (fun z75 ez75 => ?_)
        refine jx_ial (i := 7) (x := z75) rfl rfl hxa hH (by decide) rfl (by omega) (by show _ < ((96 : Nat) : Int); omega) (fun z76 ez76 bz76 => ?_)
        refine jm_aload_n (x := P.1 + 6) rfl rfl (jM_at hl 4 rfl) ?_
        refine jx_gf (i := 6) rfl rfl hH (by decide) (hH.2 6 _ rfl).1 rfl (jx_rf hH rfl rfl) ?_
        refine jm_iload_n (x := I) rfl rfl (jM_at hl 3 rfl) ?_
        refine az_X_step (pc' := 83) (ls' := ls) (st' := [.int 1, .int I, .ref (P.1 + 7), .int z76, .ref (P.1 + 6)]) (h' := h) rfl rfl rfl ?_
        refine jn_add (a := I) (b := 1) rfl rfl (by omega) (by omega) (fun z83 ez83 => ?_)
        rw [show (1 : Int32).toInt = 1 by decide] at ez83
        refine az_X_step (pc' := 86) (ls' := ls) (st' := [.int 12, .int z83, .ref (P.1 + 7), .int z76, .ref (P.1 + 6)]) (h' := h) rfl rfl rfl ?_
        refine jn_mul (a := z83) (b := 12) rfl rfl (by rw [show (12 : Int32).toInt = 12 by decide]; omega) (by rw [show (12 : Int32).toInt = 12 by decide]; omega) (fun z86 ez86 => ?_)
        rw [show (12 : Int32).toInt = 12 by decide] at ez86
        refine jm_iload (x := T) rfl rfl (jM_at hl 0 rfl) ?_
        refine jn_add (a := z86) (b := T) rfl rfl (by omega) (by omega) (fun z89 ez89 => ?_)
        refine jx_ial (i := 7) (x := z89) rfl rfl hxa hH (by decide) rfl (by omega) (by show _ < ((96 : Nat) : Int); omega) (fun z90 ez90 bz90 => ?_)
        refine az_X_call (m' := 2) (as := [.ref (P.1 + 6), .int z76, .int z90]) (rest := []) rfl rfl rfl rfl rfl ?_ ?_
        · unfold si_call
          dsimp only
          rw [if_pos ⟨rfl, rfl⟩]
          show (match si_ix P h (P.1 + 6) with | some i => _ | none => none) = _
          rw [jix hH (by decide)]
          dsimp only
          rw [(hH.2 6 _ rfl).1]
          rfl
        refine (fo_ok hH cx0 z76 z90 (u := jtm h i c) (v := jtm h o j) (by rw [ez76]; rw [show z75.toInt = 12 * (i : Int) + c by omega]; exact tc.1) (by rw [ez90]; rw [show z89.toInt = 12 * (o : Int) + j by omega]; exact tj.1) tc.2.1 tj.2.1).mono ?_
        rintro rv91 h91 ⟨q91, z91, rfl, ez91⟩
        subst h91
        show az_X P _ 4 94 ls [.int z91] _ _
        refine jx_if (t := 114) rfl rfl rfl (fun hc94 => ?_) (fun hc94 => ?_)
        · have g94 := jc1_eq_t hc94
          refine jn_iincg (x := T) rfl rfl (by decide) (jM_at hl 0 rfl) hl (by decide) (by omega) (by omega) (fun z114 (ez114 : z114.toInt = T.toInt + 1) ls114 (hl114 : jM [(5, .int z114), (3, .long W), (2, .int C), (1, .int I), (0, .ref (P.1 + 6))] ls114) => ?_)
          refine az_X_step (pc' := 42) (ls' := ls114) (st' := []) (h' := h) rfl rfl rfl ?_
          have ps : jsu (fun e => if (jst2 a b Y) (jtm h i c) (jtm h o e) = true then jgg (jpA m r n B) (jst2 a b Y) Y n (n - 1 - (o)) (jtm h o e) else 0) (j + 1) = jsu (fun e => if (jst2 a b Y) (jtm h i c) (jtm h o e) = true then jgg (jpA m r n B) (jst2 a b Y) Y n (n - 1 - (o)) (jtm h o e) else 0) j + (if (jst2 a b Y) (jtm h i c) (jtm h o j) = true then jgg (jpA m r n B) (jst2 a b Y) Y n (n - 1 - (o)) (jtm h o j) else 0) := rfl
          rw [ez91] at g94
          unfold jb at g94
          have nf : ¬ (jst2 a b Y) (jtm h i c) (jtm h o j) = true := fun e => by
            rw [e] at g94
            exact absurd g94 (by decide)
          exact ih (j + 1) z114 W ls114 (jM_pick hl114 [0, 1, 2, 3, 4] rfl) (by omega) (by omega) (by rw [ps, if_neg nf, Int.add_zero]; exact eW)
        · have g94 := jc1_eq_f hc94
          refine jm_lload_n (x := W) rfl rfl (jM_at hl 1 rfl) ?_
          refine jm_aload_n (x := P.1 + 6) rfl rfl (jM_at hl 4 rfl) ?_
          refine jx_gf (i := 6) rfl rfl hH (by decide) (hH.2 6 _ rfl).1 rfl (jx_rf hH rfl rfl) ?_
          refine jm_iload_n (x := I) rfl rfl (jM_at hl 3 rfl) ?_
          refine az_X_step (pc' := 104) (ls' := ls) (st' := [.int 1, .int I, .ref (P.1 + 10), .long W]) (h' := h) rfl rfl rfl ?_
          refine jn_add (a := I) (b := 1) rfl rfl (by omega) (by omega) (fun z104 ez104 => ?_)
          rw [show (1 : Int32).toInt = 1 by decide] at ez104
          refine az_X_step (pc' := 107) (ls' := ls) (st' := [.int 12, .int z104, .ref (P.1 + 10), .long W]) (h' := h) rfl rfl rfl ?_
          refine jn_mul (a := z104) (b := 12) rfl rfl (by rw [show (12 : Int32).toInt = 12 by decide]; omega) (by rw [show (12 : Int32).toInt = 12 by decide]; omega) (fun z107 ez107 => ?_)
          rw [show (12 : Int32).toInt = 12 by decide] at ez107
          refine jm_iload (x := T) rfl rfl (jM_at hl 0 rfl) ?_
          refine jn_add (a := z107) (b := T) rfl rfl (by omega) (by omega) (fun z110 ez110 => ?_)
          refine jn_lal (i := 10) (x := z110) rfl rfl hH (by decide) rfl (by omega) (by show _ < ((96 : Nat) : Int); omega) (fun z111 ez111 => ?_)
          have fj := ff j
          have el : z111.toInt = jgg (jpA m r n B) (jst2 a b Y) Y n (n - 1 - (o)) (jtm h o j) := by
            rw [ez111, show z110.toInt = 12 * (o : Int) + j by omega]
            exact hrow j (by omega)
          refine jn_ladd (a := W) (b := z111) rfl rfl (by omega) (by omega) (fun z112 ez112 => ?_)
          refine jm_lstore_n (l' := [(3, .long z112), (5, .int T), (2, .int C), (1, .int I), (0, .ref (P.1 + 6))]) rfl rfl (by decide) hl rfl (fun ls113 hl113 => ?_)
          refine jn_iincg (x := T) rfl rfl (by decide) (jM_at hl113 1 rfl) hl113 (by decide) (by omega) (by omega) (fun z114 (ez114 : z114.toInt = T.toInt + 1) ls114 (hl114 : jM [(5, .int z114), (3, .long z112), (2, .int C), (1, .int I), (0, .ref (P.1 + 6))] ls114) => ?_)
          refine az_X_step (pc' := 42) (ls' := ls114) (st' := []) (h' := h) rfl rfl rfl ?_
          have ps : jsu (fun e => if (jst2 a b Y) (jtm h i c) (jtm h o e) = true then jgg (jpA m r n B) (jst2 a b Y) Y n (n - 1 - (o)) (jtm h o e) else 0) (j + 1) = jsu (fun e => if (jst2 a b Y) (jtm h i c) (jtm h o e) = true then jgg (jpA m r n B) (jst2 a b Y) Y n (n - 1 - (o)) (jtm h o e) else 0) j + (if (jst2 a b Y) (jtm h i c) (jtm h o j) = true then jgg (jpA m r n B) (jst2 a b Y) Y n (n - 1 - (o)) (jtm h o j) else 0) := rfl
          rw [ez91] at g94
          unfold jb at g94
          have yf : (jst2 a b Y) (jtm h i c) (jtm h o j) = true := by
            by_cases e : (jst2 a b Y) (jtm h i c) (jtm h o j) = true
            · exact e
            · rw [if_neg e] at g94
              exact absurd rfl g94
          have el : z111.toInt = jgg (jpA m r n B) (jst2 a b Y) Y n (n - 1 - (o)) (jtm h o j) := by
            rw [ez111, show z110.toInt = 12 * (o : Int) + j by omega]
            exact hrow j (by omega)
          exact ih (j + 1) z114 z112 ls114 (jM_pick hl114 [0, 1, 2, 3, 4] rfl) (by omega) (by omega) (by rw [ps, if_pos yf]; omega)
theorem jff_en {h : si_H} {m r : Int} {Y n : Nat} {B : Nat → Int} {a b : Int} (q : jCX h m r Y n B a b) {o i k t : Nat} (hio : i = o + 1) (hi : i < n) (hA : jpA m r n B i t = true) (hk : ja h 8 o = k) : jsu (fun e => if jst2 a b Y (jtm h o e) t = true then jff (jpA m r n B) (jst2 a b Y) Y o (jtm h o e) else 0) k = jff (jpA m r n B) (jst2 a b Y) Y i t := by
  subst hio
  have s := jtm_sum q (i := o) (by omega) hk (fun x => if jst2 a b Y x t = true then jff (jpA m r n B) (jst2 a b Y) Y o x else 0)
  refine s.trans ?_
  show _ = (if jpA m r n B (o + 1) t = true then jsu (fun x => if jst2 a b Y x t = true then jff (jpA m r n B) (jst2 a b Y) Y o x else 0) Y else 0)
  rw [if_pos hA]
  refine jsu_cg (fun x _ => ?_)
  by_cases c : jpA m r n B o x = true
  · rw [if_pos c]
  · rw [if_neg c, jff_A c]
    split <;> rfl
theorem jgg_en {h : si_H} {m r : Int} {Y n : Nat} {B : Nat → Int} {a b : Int} (q : jCX h m r Y n B a b) {o i k t : Nat} (hio : o = i + 1) (ho : o < n) (hA : jpA m r n B i t = true) (hk : ja h 8 o = k) : jsu (fun e => if jst2 a b Y t (jtm h o e) = true then jgg (jpA m r n B) (jst2 a b Y) Y n (n - 1 - o) (jtm h o e) else 0) k = jgg (jpA m r n B) (jst2 a b Y) Y n (n - 1 - i) t := by
  subst hio
  have s := jtm_sum q (i := i + 1) ho hk (fun x => if jst2 a b Y t x = true then jgg (jpA m r n B) (jst2 a b Y) Y n (n - 1 - (i + 1)) x else 0)
  refine s.trans ?_
  rw [show n - 1 - i = (n - 1 - (i + 1)) + 1 by omega]
  show _ = (if jpA m r n B (n - 1 - (n - 1 - (i + 1) + 1)) t = true then jsu (fun x => if jst2 a b Y t x = true then jgg (jpA m r n B) (jst2 a b Y) Y n (n - 1 - (i + 1)) x else 0) Y else 0)
  rw [show n - 1 - (n - 1 - (i + 1) + 1) = i by omega, if_pos hA]
  refine jsu_cg (fun x _ => ?_)
  by_cases c : jpA m r n B (i + 1) x = true
  · rw [if_pos c]
  · rw [if_neg c, jgg_A (by rw [show n - 1 - (n - 1 - (i + 1)) = i + 1 by omega]; exact c)]
    split <;> rfl
theorem ct_c {P : si_P} (hxa : P.2.1 < P.1) {d : Nat} {h0 : si_H} {m r : Int} {Y n : Nat} {B : Nat → Int} {a b : Int} (cx0 : jCX h0 m r Y n B a b) {i : Nat} (hi : i < n) (I : Int32) (eI : I.toInt = i) (hnb : (∀ o : Nat, o < n → i = o + 1 → (∀ e : Nat, (e : Int) < ja h0 8 o → jl h0 9 (12 * (o : Int) + e) = jff (jpA m r n B) (jst2 a b Y) Y (o) (jtm h0 o e)))) {Q : Option Value → si_H → Prop} (cont : ∀ (h : si_H) (ls : si_L), jM [(1, .int I), (0, .ref (P.1 + 6))] ls → az_HI P az_tb h → az_same_out [(9, 1000000)] h0 h → (∀ e : Nat, (e : Int) < ja h0 8 i → jl h 9 (12 * (i : Int) + e) = jff (jpA m r n B) (jst2 a b Y) Y (i) (jtm h0 i e)) → (∀ x : Int, 0 ≤ x → (x < 12 * (i : Int) ∨ 12 * (i : Int) + 12 ≤ x) → jl h 9 x = jl h0 9 x) → az_X P (d + 4) 3 125 ls [] h Q) : ∀ (k j : Nat) (C : Int32) (h : si_H) (ls : si_L), jM [(2, .int C), (1, .int I), (0, .ref (P.1 + 6))] ls → az_HI P az_tb h → az_same_out [(9, 1000000)] h0 h → C.toInt = j → (j : Int) + k = ja h0 8 i → (∀ e : Nat, (e : Int) < j → jl h 9 (12 * (i : Int) + e) = jff (jpA m r n B) (jst2 a b Y) Y (i) (jtm h0 i e)) → (∀ x : Int, 0 ≤ x → (x < 12 * (i : Int) ∨ 12 * (i : Int) + 12 ≤ x) → jl h 9 x = jl h0 9 x) → az_X P (d + 4) 3 12 ls [] h (Q) := by
  have cx := cx0
  obtain ⟨c1, c2, c3, c4, c5, c6, c7, c8, c9, c10, c11⟩ := cx
  have li := c11 i hi
  have li1 := li.1
  have li2 := li.2.1
  intro k
  induction k with
  | zero =>
    intro j C h ls hl hH hs eC hj hd ho
    have cxh : jCX h m r Y n B a b := jCX_so hs (by decide) (by decide) (by decide) (by decide) cx0
    have r8 : ∀ x : Int, ja h 8 x = ja h0 8 x := fun x => jso_row hs (by decide) x
    have r66 : ja h 6 6 = n := cxh.2.2.2.2.2.1
    have jt : ∀ u v : Nat, jtm h u v = jtm h0 u v := fun u v => jtm_cg hs (by decide) u v
    refine jm_iload_n (x := C) rfl rfl (jM_at hl 0 rfl) ?_
    refine jm_aload_n (x := P.1 + 6) rfl rfl (jM_at hl 2 rfl) ?_
    refine jx_gf (i := 6) rfl rfl hH (by decide) (hH.2 6 _ rfl).1 rfl (jx_rf hH rfl rfl) ?_
    refine jm_iload_n (x := I) rfl rfl (jM_at hl 1 rfl) ?_
    refine jx_ial (i := 8) (x := I) rfl rfl hxa hH (by decide) rfl (by omega) (by show _ < ((8 : Nat) : Int); omega) (fun z18 ez18 bz18 => ?_)
    have e8 : ja h 8 I.toInt = ja h0 8 i := by rw [r8, eI]
    refine jx_ic (t := 125) rfl rfl rfl (fun hc19 => ?_) (fun hc19 => ?_)
    · have g19 := jc2_ge_t hc19
      exact cont h ls (jM_pick hl [1, 2] rfl) hH hs (fun e he => hd e (by omega)) ho
    · have g19 := jc2_ge_f hc19
      exfalso
      omega
  | succ k ih =>
    intro j C h ls hl hH hs eC hj hd ho
    have cxh : jCX h m r Y n B a b := jCX_so hs (by decide) (by decide) (by decide) (by decide) cx0
    have r8 : ∀ x : Int, ja h 8 x = ja h0 8 x := fun x => jso_row hs (by decide) x
    have r66 : ja h 6 6 = n := cxh.2.2.2.2.2.1
    have tc := jtm_ok cx0 hi (c := j) (by omega)
    have jt : ∀ u v : Nat, jtm h u v = jtm h0 u v := fun u v => jtm_cg hs (by decide) u v
    have k0 : (0 : Int32).toInt = 0 := by decide
    have kl0 : (0 : Int64).toInt = 0 := by decide
    have kl1 : (1 : Int64).toInt = 1 := by decide
    refine jm_iload_n (x := C) rfl rfl (jM_at hl 0 rfl) ?_
    refine jm_aload_n (x := P.1 + 6) rfl rfl (jM_at hl 2 rfl) ?_
    refine jx_gf (i := 6) rfl rfl hH (by decide) (hH.2 6 _ rfl).1 rfl (jx_rf hH rfl rfl) ?_
    refine jm_iload_n (x := I) rfl rfl (jM_at hl 1 rfl) ?_
    refine jx_ial (i := 8) (x := I) rfl rfl hxa hH (by decide) rfl (by omega) (by show _ < ((8 : Nat) : Int); omega) (fun z18 ez18 bz18 => ?_)
    have e8 : ja h 8 I.toInt = ja h0 8 i := by rw [r8, eI]
    refine jx_ic (t := 125) rfl rfl rfl (fun hc19 => ?_) (fun hc19 => ?_)
    · have g19 := jc2_ge_t hc19
      exfalso
      omega
    · have g19 := jc2_ge_f hc19
      refine jm_iload_n (x := I) rfl rfl (jM_at hl 1 rfl) ?_
      refine jx_if (t := 30) rfl rfl rfl (fun hc23 => ?_) (fun hc23 => ?_)
      · have g23 := jc1_ne_t hc23
        refine az_X_step (pc' := 31) (ls' := ls) (st' := [.long 0]) (h' := h) rfl rfl rfl ?_
        refine jm_lstore_n (l' := [(3, .long 0), (2, .int C), (1, .int I), (0, .ref (P.1 + 6))]) rfl rfl (by decide) hl rfl (fun ls31 hl31 => ?_)
        refine az_X_step (pc' := 33) (ls' := ls31) (st' := [.int 0]) (h' := h) rfl rfl rfl ?_
        refine jm_istoreg (l' := [(5, .int 0), (3, .long 0), (2, .int C), (1, .int I), (0, .ref (P.1 + 6))]) rfl rfl (by decide) hl31 rfl (fun ls33 hl33 => ?_)
        have ho1 : i - 1 < n := by omega
        have io : i = i - 1 + 1 := by omega
        have nbr := hnb (i - 1) ho1 io
        have lo := c11 (i - 1) ho1
        have lo1 := lo.1
        have lo2 := lo.2.1
        refine ct_b (d := d + 1) hxa hH cxh (i := i) (o := i - 1) (c := j) hi ho1 io (by rw [r8]; omega) C I eC eI (fun e he => ?_) (fun W ls1 hl1 eW => ?_) (ja h0 8 ((i - 1 : Nat) : Int)).toNat 0 0 0 ls33 (jM_pick hl33 [0, 1, 2, 3, 4] rfl) (by decide) (by rw [r8]; omega) (by show (0 : Int64).toInt = 0; decide)
        · rw [r8] at he
          rw [jt, ho _ (by omega) (by omega)]
          exact nbr e he
        · have eW2 : W.toInt = jff (jpA m r n B) (jst2 a b Y) Y (i) (jtm h0 i j) := by
            have en := jff_en cxh (o := i - 1) (i := i) (k := (ja h 8 ((i - 1 : Nat) : Int)).toNat) (t := jtm h0 i j) io hi tc.2.2 (by rw [r8]; omega)
            rw [eW, jt]
            exact en
          have k12 : (12 : Int32).toInt = 12 := by decide
          refine jm_aload_n (x := P.1 + 6) rfl rfl (jM_at hl1 3 rfl) ?_
          refine jx_gf (i := 6) rfl rfl hH (by decide) (hH.2 6 _ rfl).1 rfl (jx_rf hH rfl rfl) ?_
          refine jm_iload_n (x := I) rfl rfl (jM_at hl1 2 rfl) ?_
          refine az_X_step (pc' := 114) (ls' := ls1) (st' := [.int 12, .int I, .ref (P.1 + 9)]) (h' := h) rfl rfl rfl ?_
          refine jn_mul (a := I) (b := 12) rfl rfl (by rw [show (12 : Int32).toInt = 12 by decide]; omega) (by rw [show (12 : Int32).toInt = 12 by decide]; omega) (fun z114 ez114 => ?_)
          rw [show (12 : Int32).toInt = 12 by decide] at ez114
          refine jm_iload_n (x := C) rfl rfl (jM_at hl1 1 rfl) ?_
          refine jn_add (a := z114) (b := C) rfl rfl (by omega) (by omega) (fun z116 ez116 => ?_)
          refine jm_lload_n (x := W) rfl rfl (jM_at hl1 0 rfl) ?_
          refine jn_las (i := 9) (x := z116) (v := W) rfl rfl hH (by decide) rfl (by omega) (by show _ < ((96 : Nat) : Int); omega) (fun h118 hH118 hs118 t118 u118 => ?_)
          refine jn_iincg (x := C) rfl rfl (by decide) (jM_at hl1 1 rfl) hl1 (by decide) (by omega) (by omega) (fun z119 (ez119 : z119.toInt = C.toInt + 1) ls119 (hl119 : jM [(2, .int z119), (3, .long W), (1, .int I), (0, .ref (P.1 + 6))] ls119) => ?_)
          refine az_X_step (pc' := 12) (ls' := ls119) (st' := []) (h' := h118) rfl rfl rfl ?_
          refine ih (j + 1) z119 h118 ls119 (jM_pick hl119 [0, 2, 3] rfl) hH118 (hs.tr hs118) (by omega) (by omega) (fun e he => ?_) (fun x x0 x1 => ?_)
          · rcases Nat.lt_or_ge e j with q | q
            · rw [u118 _ (by omega) (by omega)]
              exact hd e (by omega)
            · have ee : e = j := by omega
              subst ee
              rw [show 12 * (i : Int) + (e : Int) = z116.toInt by omega, t118]
              exact eW2
          · rw [u118 x x0 (by omega)]
            exact ho x x0 x1
      · have g23 := jc1_ne_f hc23
        refine az_X_step (pc' := 27) (ls' := ls) (st' := [.long 1]) (h' := h) rfl rfl rfl ?_
        refine az_X_step (pc' := 31) (ls' := ls) (st' := [.long 1]) (h' := h) rfl rfl rfl ?_
        refine jm_lstore_n (l' := [(3, .long 1), (2, .int C), (1, .int I), (0, .ref (P.1 + 6))]) rfl rfl (by decide) hl rfl (fun ls31 hl31 => ?_)
        refine az_X_step (pc' := 33) (ls' := ls31) (st' := [.int 0]) (h' := h) rfl rfl rfl ?_
        refine jm_istoreg (l' := [(5, .int 0), (3, .long 1), (2, .int C), (1, .int I), (0, .ref (P.1 + 6))]) rfl rfl (by decide) hl31 rfl (fun ls33 hl33 => ?_)
        have e1s : (1 : Int64).toInt = jff (jpA m r n B) (jst2 a b Y) Y (i) (jtm h0 i j) := by
          have tA := tc.2.2
          have fi : i = 0 := by omega
          have kl1b : (1 : Int64).toInt = 1 := by decide
          rw [kl1b]
          rw [fi] at tA ⊢
          exact (if_pos tA).symm
        have k0 : (0 : Int32).toInt = 0 := by decide
        have k12 : (12 : Int32).toInt = 12 := by decide
        have kl1 : (1 : Int64).toInt = 1 := by decide
        refine jm_iload_n (x := I) rfl rfl (jM_at hl33 3 rfl) ?_
        refine jx_if (t := 107) rfl rfl rfl (fun hc36 => ?_) (fun hc36 => ?_)
        · have g36 := jc1_le_t hc36
          refine jm_aload_n (x := P.1 + 6) rfl rfl (jM_at hl33 4 rfl) ?_
          refine jx_gf (i := 6) rfl rfl hH (by decide) (hH.2 6 _ rfl).1 rfl (jx_rf hH rfl rfl) ?_
          refine jm_iload_n (x := I) rfl rfl (jM_at hl33 3 rfl) ?_
          refine az_X_step (pc' := 114) (ls' := ls33) (st' := [.int 12, .int I, .ref (P.1 + 9)]) (h' := h) rfl rfl rfl ?_
          refine jn_mul (a := I) (b := 12) rfl rfl (by rw [show (12 : Int32).toInt = 12 by decide]; omega) (by rw [show (12 : Int32).toInt = 12 by decide]; omega) (fun z114 ez114 => ?_)
          rw [show (12 : Int32).toInt = 12 by decide] at ez114
          refine jm_iload_n (x := C) rfl rfl (jM_at hl33 2 rfl) ?_
          refine jn_add (a := z114) (b := C) rfl rfl (by omega) (by omega) (fun z116 ez116 => ?_)
          refine jm_lload_n (x := 1) rfl rfl (jM_at hl33 1 rfl) ?_
          refine jn_las (i := 9) (x := z116) (v := 1) rfl rfl hH (by decide) rfl (by omega) (by show _ < ((96 : Nat) : Int); omega) (fun h118 hH118 hs118 t118 u118 => ?_)
          refine jn_iincg (x := C) rfl rfl (by decide) (jM_at hl33 2 rfl) hl33 (by decide) (by omega) (by omega) (fun z119 (ez119 : z119.toInt = C.toInt + 1) ls119 (hl119 : jM [(2, .int z119), (5, .int 0), (3, .long 1), (1, .int I), (0, .ref (P.1 + 6))] ls119) => ?_)
          refine az_X_step (pc' := 12) (ls' := ls119) (st' := []) (h' := h118) rfl rfl rfl ?_
          refine ih (j + 1) z119 h118 ls119 (jM_pick hl119 [0, 3, 4] rfl) hH118 (hs.tr hs118) (by omega) (by omega) (fun e he => ?_) (fun x x0 x1 => ?_)
          · rcases Nat.lt_or_ge e j with q | q
            · rw [u118 _ (by omega) (by omega)]
              exact hd e (by omega)
            · have ee : e = j := by omega
              subst ee
              rw [show 12 * (i : Int) + (e : Int) = z116.toInt by omega, t118]
              exact e1s
          · rw [u118 x x0 (by omega)]
            exact ho x x0 x1
        · have g36 := jc1_le_f hc36
          exfalso
          omega
theorem cs_c {P : si_P} (hxa : P.2.1 < P.1) {d : Nat} {h0 : si_H} {m r : Int} {Y n : Nat} {B : Nat → Int} {a b : Int} (cx0 : jCX h0 m r Y n B a b) {i : Nat} (hi : i < n) (I : Int32) (eI : I.toInt = i) (hnb : (∀ o : Nat, o < n → o = i + 1 → (∀ e : Nat, (e : Int) < ja h0 8 o → jl h0 10 (12 * (o : Int) + e) = jgg (jpA m r n B) (jst2 a b Y) Y n (n - 1 - (o)) (jtm h0 o e)))) {Q : Option Value → si_H → Prop} (cont : ∀ (h : si_H) (ls : si_L), jM [(1, .int I), (0, .ref (P.1 + 6))] ls → az_HI P az_tb h → az_same_out [(10, 1000000)] h0 h → (∀ e : Nat, (e : Int) < ja h0 8 i → jl h 10 (12 * (i : Int) + e) = jgg (jpA m r n B) (jst2 a b Y) Y n (n - 1 - (i)) (jtm h0 i e)) → (∀ x : Int, 0 ≤ x → (x < 12 * (i : Int) ∨ 12 * (i : Int) + 12 ≤ x) → jl h 10 x = jl h0 10 x) → az_X P (d + 4) 4 138 ls [] h Q) : ∀ (k j : Nat) (C : Int32) (h : si_H) (ls : si_L), jM [(2, .int C), (1, .int I), (0, .ref (P.1 + 6))] ls → az_HI P az_tb h → az_same_out [(10, 1000000)] h0 h → C.toInt = j → (j : Int) + k = ja h0 8 i → (∀ e : Nat, (e : Int) < j → jl h 10 (12 * (i : Int) + e) = jgg (jpA m r n B) (jst2 a b Y) Y n (n - 1 - (i)) (jtm h0 i e)) → (∀ x : Int, 0 ≤ x → (x < 12 * (i : Int) ∨ 12 * (i : Int) + 12 ≤ x) → jl h 10 x = jl h0 10 x) → az_X P (d + 4) 4 13 ls [] h (Q) := by
  have cx := cx0
  obtain ⟨c1, c2, c3, c4, c5, c6, c7, c8, c9, c10, c11⟩ := cx
  have li := c11 i hi
  have li1 := li.1
  have li2 := li.2.1
  intro k
  induction k with
  | zero =>
    intro j C h ls hl hH hs eC hj hd ho
    have cxh : jCX h m r Y n B a b := jCX_so hs (by decide) (by decide) (by decide) (by decide) cx0
    have r8 : ∀ x : Int, ja h 8 x = ja h0 8 x := fun x => jso_row hs (by decide) x
    have r66 : ja h 6 6 = n := cxh.2.2.2.2.2.1
    have jt : ∀ u v : Nat, jtm h u v = jtm h0 u v := fun u v => jtm_cg hs (by decide) u v
    refine jm_iload_n (x := C) rfl rfl (jM_at hl 0 rfl) ?_
    refine jm_aload_n (x := P.1 + 6) rfl rfl (jM_at hl 2 rfl) ?_
    refine jx_gf (i := 6) rfl rfl hH (by decide) (hH.2 6 _ rfl).1 rfl (jx_rf hH rfl rfl) ?_
    refine jm_iload_n (x := I) rfl rfl (jM_at hl 1 rfl) ?_
    refine jx_ial (i := 8) (x := I) rfl rfl hxa hH (by decide) rfl (by omega) (by show _ < ((8 : Nat) : Int); omega) (fun z19 ez19 bz19 => ?_)
    have e8 : ja h 8 I.toInt = ja h0 8 i := by rw [r8, eI]
    refine jx_ic (t := 138) rfl rfl rfl (fun hc20 => ?_) (fun hc20 => ?_)
    · have g20 := jc2_ge_t hc20
      exact cont h ls (jM_pick hl [1, 2] rfl) hH hs (fun e he => hd e (by omega)) ho
    · have g20 := jc2_ge_f hc20
      exfalso
      omega
  | succ k ih =>
    intro j C h ls hl hH hs eC hj hd ho
    have cxh : jCX h m r Y n B a b := jCX_so hs (by decide) (by decide) (by decide) (by decide) cx0
    have r8 : ∀ x : Int, ja h 8 x = ja h0 8 x := fun x => jso_row hs (by decide) x
    have r66 : ja h 6 6 = n := cxh.2.2.2.2.2.1
    have tc := jtm_ok cx0 hi (c := j) (by omega)
    have jt : ∀ u v : Nat, jtm h u v = jtm h0 u v := fun u v => jtm_cg hs (by decide) u v
    have k0 : (0 : Int32).toInt = 0 := by decide
    have k1 : (1 : Int32).toInt = 1 := by decide
    have kl0 : (0 : Int64).toInt = 0 := by decide
    have kl1 : (1 : Int64).toInt = 1 := by decide
    refine jm_iload_n (x := C) rfl rfl (jM_at hl 0 rfl) ?_
    refine jm_aload_n (x := P.1 + 6) rfl rfl (jM_at hl 2 rfl) ?_
    refine jx_gf (i := 6) rfl rfl hH (by decide) (hH.2 6 _ rfl).1 rfl (jx_rf hH rfl rfl) ?_
    refine jm_iload_n (x := I) rfl rfl (jM_at hl 1 rfl) ?_
    refine jx_ial (i := 8) (x := I) rfl rfl hxa hH (by decide) rfl (by omega) (by show _ < ((8 : Nat) : Int); omega) (fun z19 ez19 bz19 => ?_)
    have e8 : ja h 8 I.toInt = ja h0 8 i := by rw [r8, eI]
    refine jx_ic (t := 138) rfl rfl rfl (fun hc20 => ?_) (fun hc20 => ?_)
    · have g20 := jc2_ge_t hc20
      exfalso
      omega
    · have g20 := jc2_ge_f hc20
      refine jm_iload_n (x := I) rfl rfl (jM_at hl 1 rfl) ?_
      refine jm_aload_n (x := P.1 + 6) rfl rfl (jM_at hl 2 rfl) ?_
      refine jn_gf (i := 6) (k := 6) rfl rfl hH (by decide) (hH.2 6 _ rfl).1 rfl rfl (fun z25 (ez25 : z25.toInt = ja h 6 6) (bz25 : 0 ≤ z25.toInt ∧ z25.toInt ≤ 8) => ?_)
      refine az_X_step (pc' := 29) (ls' := ls) (st' := [.int 1, .int z25, .int I]) (h' := h) rfl rfl rfl ?_
      refine jn_sub (a := z25) (b := 1) rfl rfl (by omega) (by omega) (fun z29 ez29 => ?_)
      rw [show (1 : Int32).toInt = 1 by decide] at ez29
      refine jx_ic (t := 37) rfl rfl rfl (fun hc30 => ?_) (fun hc30 => ?_)
      · have g30 := jc2_ne_t hc30
        refine az_X_step (pc' := 38) (ls' := ls) (st' := [.long 0]) (h' := h) rfl rfl rfl ?_
        refine jm_lstore_n (l' := [(3, .long 0), (2, .int C), (1, .int I), (0, .ref (P.1 + 6))]) rfl rfl (by decide) hl rfl (fun ls38 hl38 => ?_)
        refine az_X_step (pc' := 40) (ls' := ls38) (st' := [.int 0]) (h' := h) rfl rfl rfl ?_
        refine jm_istoreg (l' := [(5, .int 0), (3, .long 0), (2, .int C), (1, .int I), (0, .ref (P.1 + 6))]) rfl rfl (by decide) hl38 rfl (fun ls40 hl40 => ?_)
        have ho1 : i + 1 < n := by omega
        have io : i + 1 = i + 1 := by omega
        have nbr := hnb (i + 1) ho1 io
        have lo := c11 (i + 1) ho1
        have lo1 := lo.1
        have lo2 := lo.2.1
        refine cs_b (d := d + 1) hxa hH cxh (i := i) (o := i + 1) (c := j) hi ho1 io (by rw [r8]; omega) C I eC eI (fun e he => ?_) (fun W ls1 hl1 eW => ?_) (ja h0 8 ((i + 1 : Nat) : Int)).toNat 0 0 0 ls40 (jM_pick hl40 [0, 1, 2, 3, 4] rfl) (by decide) (by rw [r8]; omega) (by show (0 : Int64).toInt = 0; decide)
        · rw [r8] at he
          rw [jt, ho _ (by omega) (by omega)]
          exact nbr e he
        · have eW2 : W.toInt = jgg (jpA m r n B) (jst2 a b Y) Y n (n - 1 - (i)) (jtm h0 i j) := by
            have en := jgg_en cxh (o := i + 1) (i := i) (k := (ja h 8 ((i + 1 : Nat) : Int)).toNat) (t := jtm h0 i j) io ho1 tc.2.2 (by rw [r8]; omega)
            rw [eW, jt]
            exact en
          have k12 : (12 : Int32).toInt = 12 := by decide
          refine jm_aload_n (x := P.1 + 6) rfl rfl (jM_at hl1 3 rfl) ?_
          refine jx_gf (i := 6) rfl rfl hH (by decide) (hH.2 6 _ rfl).1 rfl (jx_rf hH rfl rfl) ?_
          refine jm_iload_n (x := I) rfl rfl (jM_at hl1 2 rfl) ?_
          refine az_X_step (pc' := 127) (ls' := ls1) (st' := [.int 12, .int I, .ref (P.1 + 10)]) (h' := h) rfl rfl rfl ?_
          refine jn_mul (a := I) (b := 12) rfl rfl (by rw [show (12 : Int32).toInt = 12 by decide]; omega) (by rw [show (12 : Int32).toInt = 12 by decide]; omega) (fun z127 ez127 => ?_)
          rw [show (12 : Int32).toInt = 12 by decide] at ez127
          refine jm_iload_n (x := C) rfl rfl (jM_at hl1 1 rfl) ?_
          refine jn_add (a := z127) (b := C) rfl rfl (by omega) (by omega) (fun z129 ez129 => ?_)
          refine jm_lload_n (x := W) rfl rfl (jM_at hl1 0 rfl) ?_
          refine jn_las (i := 10) (x := z129) (v := W) rfl rfl hH (by decide) rfl (by omega) (by show _ < ((96 : Nat) : Int); omega) (fun h131 hH131 hs131 t131 u131 => ?_)
          refine jn_iincg (x := C) rfl rfl (by decide) (jM_at hl1 1 rfl) hl1 (by decide) (by omega) (by omega) (fun z132 (ez132 : z132.toInt = C.toInt + 1) ls132 (hl132 : jM [(2, .int z132), (3, .long W), (1, .int I), (0, .ref (P.1 + 6))] ls132) => ?_)
          refine az_X_step (pc' := 13) (ls' := ls132) (st' := []) (h' := h131) rfl rfl rfl ?_
          refine ih (j + 1) z132 h131 ls132 (jM_pick hl132 [0, 2, 3] rfl) hH131 (hs.tr hs131) (by omega) (by omega) (fun e he => ?_) (fun x x0 x1 => ?_)
          · rcases Nat.lt_or_ge e j with q | q
            · rw [u131 _ (by omega) (by omega)]
              exact hd e (by omega)
            · have ee : e = j := by omega
              subst ee
              rw [show 12 * (i : Int) + (e : Int) = z129.toInt by omega, t131]
              exact eW2
          · rw [u131 x x0 (by omega)]
            exact ho x x0 x1
      · have g30 := jc2_ne_f hc30
        refine az_X_step (pc' := 34) (ls' := ls) (st' := [.long 1]) (h' := h) rfl rfl rfl ?_
        refine az_X_step (pc' := 38) (ls' := ls) (st' := [.long 1]) (h' := h) rfl rfl rfl ?_
        refine jm_lstore_n (l' := [(3, .long 1), (2, .int C), (1, .int I), (0, .ref (P.1 + 6))]) rfl rfl (by decide) hl rfl (fun ls38 hl38 => ?_)
        refine az_X_step (pc' := 40) (ls' := ls38) (st' := [.int 0]) (h' := h) rfl rfl rfl ?_
        refine jm_istoreg (l' := [(5, .int 0), (3, .long 1), (2, .int C), (1, .int I), (0, .ref (P.1 + 6))]) rfl rfl (by decide) hl38 rfl (fun ls40 hl40 => ?_)
        have e1s : (1 : Int64).toInt = jgg (jpA m r n B) (jst2 a b Y) Y n (n - 1 - (i)) (jtm h0 i j) := by
          have tA := tc.2.2
          have fi : n - 1 - i = 0 := by omega
          have kl1b : (1 : Int64).toInt = 1 := by decide
          rw [kl1b]
          rw [fi]
          show 1 = (if jpA m r n B (n - 1) (jtm h0 i j) = true then 1 else 0)
          rw [show n - 1 = i by omega, if_pos tA]
        have k1 : (1 : Int32).toInt = 1 := by decide
        have k12 : (12 : Int32).toInt = 12 := by decide
        have kl1 : (1 : Int64).toInt = 1 := by decide
        refine jm_iload_n (x := I) rfl rfl (jM_at hl40 3 rfl) ?_
        refine jm_aload_n (x := P.1 + 6) rfl rfl (jM_at hl40 4 rfl) ?_
        refine jn_gf (i := 6) (k := 6) rfl rfl hH (by decide) (hH.2 6 _ rfl).1 rfl rfl (fun z44 (ez44 : z44.toInt = ja h 6 6) (bz44 : 0 ≤ z44.toInt ∧ z44.toInt ≤ 8) => ?_)
        refine az_X_step (pc' := 48) (ls' := ls40) (st' := [.int 1, .int z44, .int I]) (h' := h) rfl rfl rfl ?_
        refine jn_sub (a := z44) (b := 1) rfl rfl (by omega) (by omega) (fun z48 ez48 => ?_)
        rw [show (1 : Int32).toInt = 1 by decide] at ez48
        refine jx_ic (t := 120) rfl rfl rfl (fun hc49 => ?_) (fun hc49 => ?_)
        · have g49 := jc2_ge_t hc49
          refine jm_aload_n (x := P.1 + 6) rfl rfl (jM_at hl40 4 rfl) ?_
          refine jx_gf (i := 6) rfl rfl hH (by decide) (hH.2 6 _ rfl).1 rfl (jx_rf hH rfl rfl) ?_
          refine jm_iload_n (x := I) rfl rfl (jM_at hl40 3 rfl) ?_
          refine az_X_step (pc' := 127) (ls' := ls40) (st' := [.int 12, .int I, .ref (P.1 + 10)]) (h' := h) rfl rfl rfl ?_
          refine jn_mul (a := I) (b := 12) rfl rfl (by rw [show (12 : Int32).toInt = 12 by decide]; omega) (by rw [show (12 : Int32).toInt = 12 by decide]; omega) (fun z127 ez127 => ?_)
          rw [show (12 : Int32).toInt = 12 by decide] at ez127
          refine jm_iload_n (x := C) rfl rfl (jM_at hl40 2 rfl) ?_
          refine jn_add (a := z127) (b := C) rfl rfl (by omega) (by omega) (fun z129 ez129 => ?_)
          refine jm_lload_n (x := 1) rfl rfl (jM_at hl40 1 rfl) ?_
          refine jn_las (i := 10) (x := z129) (v := 1) rfl rfl hH (by decide) rfl (by omega) (by show _ < ((96 : Nat) : Int); omega) (fun h131 hH131 hs131 t131 u131 => ?_)
          refine jn_iincg (x := C) rfl rfl (by decide) (jM_at hl40 2 rfl) hl40 (by decide) (by omega) (by omega) (fun z132 (ez132 : z132.toInt = C.toInt + 1) ls132 (hl132 : jM [(2, .int z132), (5, .int 0), (3, .long 1), (1, .int I), (0, .ref (P.1 + 6))] ls132) => ?_)
          refine az_X_step (pc' := 13) (ls' := ls132) (st' := []) (h' := h131) rfl rfl rfl ?_
          refine ih (j + 1) z132 h131 ls132 (jM_pick hl132 [0, 3, 4] rfl) hH131 (hs.tr hs131) (by omega) (by omega) (fun e he => ?_) (fun x x0 x1 => ?_)
          · rcases Nat.lt_or_ge e j with q | q
            · rw [u131 _ (by omega) (by omega)]
              exact hd e (by omega)
            · have ee : e = j := by omega
              subst ee
              rw [show 12 * (i : Int) + (e : Int) = z129.toInt by omega, t131]
              exact e1s
          · rw [u131 x x0 (by omega)]
            exact ho x x0 x1
        · have g49 := jc2_ge_f hc49
          exfalso
          omega
theorem ct_i {P : si_P} (hxa : P.2.1 < P.1) {d : Nat} {h0 : si_H} {m r : Int} {Y n : Nat} {B : Nat → Int} {a b : Int} (cx0 : jCX h0 m r Y n B a b) : ∀ (k j : Nat) (I : Int32) (h : si_H) (ls : si_L), jM [(1, .int I), (0, .ref (P.1 + 6))] ls → az_HI P az_tb h → az_same_out [(9, 1000000)] h0 h → I.toInt = j → j + k = n → (∀ u : Nat, u < j → ∀ e : Nat, (e : Int) < ja h0 8 u → jl h 9 (12 * (u : Int) + e) = jff (jpA m r n B) (jst2 a b Y) Y (u) (jtm h0 u e)) → az_X P (d + 4) 3 2 ls [] h (fun rv h' => rv = none ∧ az_HI P az_tb h' ∧ az_same_out [(9, 1000000)] h0 h' ∧ (∀ u : Nat, u < n → ∀ e : Nat, (e : Int) < ja h0 8 u → jl h' 9 (12 * (u : Int) + e) = jff (jpA m r n B) (jst2 a b Y) Y (u) (jtm h0 u e))) := by
  have cx := cx0
  obtain ⟨c1, c2, c3, c4, c5, c6, c7, c8, c9, c10, c11⟩ := cx
  intro k
  induction k with
  | zero =>
    intro j I h ls hl hH hs eI hj hd
    have r66 : ja h 6 6 = n := (jso hs (by decide)).trans c6
    refine jm_iload_n (x := I) rfl rfl (jM_at hl 0 rfl) ?_
    refine jm_aload_n (x := P.1 + 6) rfl rfl (jM_at hl 1 rfl) ?_
    refine jn_gf (i := 6) (k := 6) rfl rfl hH (by decide) (hH.2 6 _ rfl).1 rfl rfl (fun z4 (ez4 : z4.toInt = ja h 6 6) (bz4 : 0 ≤ z4.toInt ∧ z4.toInt ≤ 8) => ?_)
    refine jx_ic (t := 131) rfl rfl rfl (fun hc7 => ?_) (fun hc7 => ?_)
    · have g7 := jc2_ge_t hc7
      refine jn_retv rfl rfl rfl ?_
      exact ⟨rfl, hH, hs, fun u hu => hd u (by omega)⟩
    · have g7 := jc2_ge_f hc7
      exfalso
      omega
  | succ k ih =>
    intro j I h ls hl hH hs eI hj hd
    have r66 : ja h 6 6 = n := (jso hs (by decide)).trans c6
    have k0 : (0 : Int32).toInt = 0 := by decide
    refine jm_iload_n (x := I) rfl rfl (jM_at hl 0 rfl) ?_
    refine jm_aload_n (x := P.1 + 6) rfl rfl (jM_at hl 1 rfl) ?_
    refine jn_gf (i := 6) (k := 6) rfl rfl hH (by decide) (hH.2 6 _ rfl).1 rfl rfl (fun z4 (ez4 : z4.toInt = ja h 6 6) (bz4 : 0 ≤ z4.toInt ∧ z4.toInt ≤ 8) => ?_)
    refine jx_ic (t := 131) rfl rfl rfl (fun hc7 => ?_) (fun hc7 => ?_)
    · have g7 := jc2_ge_t hc7
      refine jn_retv rfl rfl rfl ?_
      exfalso
      omega
    · have g7 := jc2_ge_f hc7
      refine az_X_step (pc' := 11) (ls' := ls) (st' := [.int 0]) (h' := h) rfl rfl rfl ?_
      refine jm_istore_n (l' := [(2, .int 0), (1, .int I), (0, .ref (P.1 + 6))]) rfl rfl (by decide) hl rfl rfl (fun ls11 hl11 => ?_)
      have cxh : jCX h m r Y n B a b := jCX_so hs (by decide) (by decide) (by decide) (by decide) cx0
      have r8 : ∀ x : Int, ja h 8 x = ja h0 8 x := fun x => jso_row hs (by decide) x
      have li := c11 j (by omega)
      have li1 := li.1
      have li2 := li.2.1
      refine ct_c (d := d) hxa (h0 := h) cxh (i := j) (by omega) I (by omega) (fun o o1 o2 e he => by
        have hs2 := jtm_cg hs (by decide) o e
        rw [r8] at he
        rw [hs2]
        exact hd o (by omega) e he) (fun h1 ls1 hl1 hH1 hs1 d1 o1 => ?_) (ja h0 8 (j : Nat)).toNat 0 0 h ls11 (jM_pick hl11 [0, 1, 2] rfl) hH az_same_out.rf (by decide) (by rw [r8]; omega) (fun e he => absurd he (by omega)) (fun _ _ _ => rfl)
      refine jn_iinc (x := I) rfl rfl (by decide) (jM_at hl1 0 rfl) hl1 rfl (by decide) (by omega) (by omega) (fun z125 (ez125 : z125.toInt = I.toInt + 1) ls125 (hl125 : jM [(1, .int z125), (0, .ref (P.1 + 6))] ls125) => ?_)
      refine az_X_step (pc' := 2) (ls' := ls125) (st' := []) (h' := h1) rfl rfl rfl ?_
      refine ih (j + 1) z125 h1 ls125 (jM_pick hl125 [0, 1] rfl) hH1 (hs.tr hs1) (by omega) (by omega) (fun u u1 e he => ?_)
      by_cases eu : u = j
      · subst eu
        have q := d1 e (by rw [r8]; exact he)
        rw [jtm_cg hs (by decide)] at q
        exact q
      · have lu := (c11 u (by omega)).2.1
        rw [o1 _ (by omega) (by omega)]
        exact hd u (by omega) e he
theorem ct_ok {P : si_P} (hxa : P.2.1 < P.1) {d : Nat} {h : si_H} (hH : az_HI P az_tb h) {m r : Int} {Y n : Nat} {B : Nat → Int} {a b : Int} (cx0 : jCX h m r Y n B a b) : az_X P (d + 4) 3 0 (lv_args 0 [.ref (P.1 + 6)]) [] h (fun rv h' => rv = none ∧ az_HI P az_tb h' ∧ az_same_out [(9, 1000000)] h h' ∧ (∀ u : Nat, u < n → ∀ e : Nat, (e : Int) < ja h 8 u → jl h' 9 (12 * (u : Int) + e) = jff (jpA m r n B) (jst2 a b Y) Y (u) (jtm h u e))) := by
  have hl : jM [(0, .ref (P.1 + 6))] (lv_args 0 [.ref (P.1 + 6)]) := jM_args [0] rfl (by decide)
  generalize lv_args 0 [.ref (P.1 + 6)] = ls at hl
  have k0 : (0 : Int32).toInt = 0 := by decide
  refine az_X_step (pc' := 1) (ls' := ls) (st' := [.int 0]) (h' := h) rfl rfl rfl ?_
  refine jm_istore_n (l' := [(1, .int 0), (0, .ref (P.1 + 6))]) rfl rfl (by decide) hl rfl rfl (fun ls1 hl1 => ?_)
  have c6 : ja h 6 6 = n := cx0.2.2.2.2.2.1
  have c7 := cx0.2.2.2.2.2.2.1
  exact ct_i (d := d) hxa (h0 := h) cx0 n 0 0 h ls1 (jM_pick hl1 [0, 1] rfl) hH az_same_out.rf (by decide) (by omega) (fun u hu => absurd hu (by omega))
theorem cs_i {P : si_P} (hxa : P.2.1 < P.1) {d : Nat} {h0 : si_H} {m r : Int} {Y n : Nat} {B : Nat → Int} {a b : Int} (cx0 : jCX h0 m r Y n B a b) : ∀ (k j : Nat) (I : Int32) (h : si_H) (ls : si_L), jM [(1, .int I), (0, .ref (P.1 + 6))] ls → az_HI P az_tb h → az_same_out [(10, 1000000)] h0 h → I.toInt = (k : Int) - 1 → j + k = n → (∀ u : Nat, k ≤ u → u < n → ∀ e : Nat, (e : Int) < ja h0 8 u → jl h 10 (12 * (u : Int) + e) = jgg (jpA m r n B) (jst2 a b Y) Y n (n - 1 - (u)) (jtm h0 u e)) → az_X P (d + 4) 4 7 ls [] h (fun rv h' => rv = none ∧ az_HI P az_tb h' ∧ az_same_out [(10, 1000000)] h0 h' ∧ (∀ u : Nat, u < n → ∀ e : Nat, (e : Int) < ja h0 8 u → jl h' 10 (12 * (u : Int) + e) = jgg (jpA m r n B) (jst2 a b Y) Y n (n - 1 - (u)) (jtm h0 u e))) := by
  have cx := cx0
  obtain ⟨c1, c2, c3, c4, c5, c6, c7, c8, c9, c10, c11⟩ := cx
  intro k
  induction k with
  | zero =>
    intro j I h ls hl hH hs eI hj hd
    have r66 : ja h 6 6 = n := (jso hs (by decide)).trans c6
    have k0 : (0 : Int32).toInt = 0 := by decide
    refine jm_iload_n (x := I) rfl rfl (jM_at hl 0 rfl) ?_
    refine jx_if (t := 144) rfl rfl rfl (fun hc8 => ?_) (fun hc8 => ?_)
    · have g8 := jc1_lt_t hc8
      refine jn_retv rfl rfl rfl ?_
      exact ⟨rfl, hH, hs, fun u hu => hd u (by omega) hu⟩
    · have g8 := jc1_lt_f hc8
      exfalso
      omega
  | succ k ih =>
    intro j I h ls hl hH hs eI hj hd
    have r66 : ja h 6 6 = n := (jso hs (by decide)).trans c6
    have k0 : (0 : Int32).toInt = 0 := by decide
    refine jm_iload_n (x := I) rfl rfl (jM_at hl 0 rfl) ?_
    refine jx_if (t := 144) rfl rfl rfl (fun hc8 => ?_) (fun hc8 => ?_)
    · have g8 := jc1_lt_t hc8
      refine jn_retv rfl rfl rfl ?_
      exfalso
      omega
    · have g8 := jc1_lt_f hc8
      refine az_X_step (pc' := 12) (ls' := ls) (st' := [.int 0]) (h' := h) rfl rfl rfl ?_
      refine jm_istore_n (l' := [(2, .int 0), (1, .int I), (0, .ref (P.1 + 6))]) rfl rfl (by decide) hl rfl rfl (fun ls12 hl12 => ?_)
      have cxh : jCX h m r Y n B a b := jCX_so hs (by decide) (by decide) (by decide) (by decide) cx0
      have r8 : ∀ x : Int, ja h 8 x = ja h0 8 x := fun x => jso_row hs (by decide) x
      have li := c11 k (by omega)
      have li1 := li.1
      have li2 := li.2.1
      refine cs_c (d := d) hxa (h0 := h) cxh (i := k) (by omega) I (by omega) (fun o o1 o2 e he => by
        have hs2 := jtm_cg hs (by decide) o e
        rw [r8] at he
        rw [hs2]
        exact hd o (by omega) o1 e he) (fun h1 ls1 hl1 hH1 hs1 d1 o1 => ?_) (ja h0 8 (k : Nat)).toNat 0 0 h ls12 (jM_pick hl12 [0, 1, 2] rfl) hH az_same_out.rf (by decide) (by rw [r8]; omega) (fun e he => absurd he (by omega)) (fun _ _ _ => rfl)
      refine jn_iinc (x := I) rfl rfl (by decide) (jM_at hl1 0 rfl) hl1 rfl (by decide) (by omega) (by omega) (fun z138 (ez138 : z138.toInt = I.toInt + (-1)) ls138 (hl138 : jM [(1, .int z138), (0, .ref (P.1 + 6))] ls138) => ?_)
      refine az_X_step (pc' := 7) (ls' := ls138) (st' := []) (h' := h1) rfl rfl rfl ?_
      refine ih (j + 1) z138 h1 ls138 (jM_pick hl138 [0, 1] rfl) hH1 (hs.tr hs1) (by omega) (by omega) (fun u u1 u2 e he => ?_)
      by_cases eu : u = k
      · subst eu
        have q := d1 e (by rw [r8]; exact he)
        rw [jtm_cg hs (by decide)] at q
        exact q
      · have lu := (c11 u (by omega)).2.1
        rw [o1 _ (by omega) (by omega)]
        exact hd u (by omega) u2 e he
theorem cs_ok {P : si_P} (hxa : P.2.1 < P.1) {d : Nat} {h : si_H} (hH : az_HI P az_tb h) {m r : Int} {Y n : Nat} {B : Nat → Int} {a b : Int} (cx0 : jCX h m r Y n B a b) : az_X P (d + 4) 4 0 (lv_args 0 [.ref (P.1 + 6)]) [] h (fun rv h' => rv = none ∧ az_HI P az_tb h' ∧ az_same_out [(10, 1000000)] h h' ∧ (∀ u : Nat, u < n → ∀ e : Nat, (e : Int) < ja h 8 u → jl h' 10 (12 * (u : Int) + e) = jgg (jpA m r n B) (jst2 a b Y) Y n (n - 1 - (u)) (jtm h u e))) := by
  have hl : jM [(0, .ref (P.1 + 6))] (lv_args 0 [.ref (P.1 + 6)]) := jM_args [0] rfl (by decide)
  generalize lv_args 0 [.ref (P.1 + 6)] = ls at hl
  have k1 : (1 : Int32).toInt = 1 := by decide
  refine jm_aload_n (x := P.1 + 6) rfl rfl (jM_at hl 0 rfl) ?_
  refine jn_gf (i := 6) (k := 6) rfl rfl hH (by decide) (hH.2 6 _ rfl).1 rfl rfl (fun z1 (ez1 : z1.toInt = ja h 6 6) (bz1 : 0 ≤ z1.toInt ∧ z1.toInt ≤ 8) => ?_)
  refine az_X_step (pc' := 5) (ls' := ls) (st' := [.int 1, .int z1]) (h' := h) rfl rfl rfl ?_
  refine jn_sub (a := z1) (b := 1) rfl rfl (by omega) (by omega) (fun z5 ez5 => ?_)
  rw [show (1 : Int32).toInt = 1 by decide] at ez5
  refine jm_istore_n (l' := [(1, .int z5), (0, .ref (P.1 + 6))]) rfl rfl (by decide) hl rfl rfl (fun ls6 hl6 => ?_)
  have c6 : ja h 6 6 = n := cx0.2.2.2.2.2.1
  have c7 := cx0.2.2.2.2.2.2.1
  exact cs_i (d := d) hxa (h0 := h) cx0 n 0 z5 h ls6 (jM_pick hl6 [0, 1] rfl) hH az_same_out.rf (by omega) (by omega) (fun u hu hu2 => absurd hu (by omega))
theorem lmin_ok {P : si_P} {d : Nat} {h : si_H} (a b : Int64) : az_X P d 345 0 (lv_args 0 [.long a, .long b]) [] h (fun rv h' => h' = h ∧ ∃ z : Int64, rv = some (.long z) ∧ z.toInt = min a.toInt b.toInt) := by
  have hl : jM [(0, .long a), (2, .long b)] (lv_args 0 [.long a, .long b]) := jM_args [0, 2] rfl (by decide)
  generalize lv_args 0 [.long a, .long b] = ls at hl
  have k0 : (0 : Int32).toInt = 0 := by decide
  refine jm_lload_n (x := a) rfl rfl (jM_at hl 0 rfl) ?_
  refine jm_lload_n (x := b) rfl rfl (jM_at hl 1 rfl) ?_
  refine jn_lcmp (a := a) (b := b) rfl rfl (fun z2 ez2 => ?_)
  refine jx_if (t := 10) rfl rfl rfl (fun hc3 => ?_) (fun hc3 => ?_)
  · have g3 := jc1_gt_t hc3
    refine jm_lload_n (x := b) rfl rfl (jM_at hl 1 rfl) ?_
    refine jn_retl rfl rfl rfl ?_
    exact ⟨rfl, b, rfl, by omega⟩
  · have g3 := jc1_gt_f hc3
    refine jm_lload_n (x := a) rfl rfl (jM_at hl 0 rfl) ?_
    refine az_X_step (pc' := 11) (ls' := ls) (st' := [.long a]) (h' := h) rfl rfl rfl ?_
    refine jn_retl rfl rfl rfl ?_
    exact ⟨rfl, a, rfl, by omega⟩
/-- the only one, or -4 (none), or -2 (more) -/
def jsw (p : Nat → Bool) (v : Nat → Int) : Nat → Int
  | 0 => -4
  | k + 1 => if p k = true then (if jsw p v k = -4 then v k else -2) else jsw p v k
theorem jsv_t {p : Nat → Bool} {v : Nat → Int} {k : Nat} (hp : p k = true) : jsw p v (k + 1) = if jsw p v k = -4 then v k else -2 := if_pos hp
theorem jsv_f {p : Nat → Bool} {v : Nat → Int} {k : Nat} (hp : ¬ p k = true) : jsw p v (k + 1) = jsw p v k := if_neg hp
theorem jsw_eq {p : Nat → Bool} {v : Nat → Int} : ∀ k : Nat, (∀ j : Nat, j < k → 0 ≤ v j) → jsw p v k = (if jsu (fun j => if p j = true then 1 else 0) k = 0 then -4 else if jsu (fun j => if p j = true then 1 else 0) k = 1 then jsu (fun j => if p j = true then v j else 0) k else -2)
  | 0, _ => rfl
  | k + 1, h => by
    have i := jsw_eq (p := p) (v := v) k (fun j hj => h j (by omega))
    have n0 : 0 ≤ jsu (fun j => if p j = true then (1 : Int) else 0) k := jsu_nn (fun j _ => by split <;> omega)
    have s0 : jsu (fun j => if p j = true then (1 : Int) else 0) k = 0 → jsu (fun j => if p j = true then v j else 0) k = 0 := fun e => by
      have z : ∀ j : Nat, j < k → ¬ p j = true := fun j hj hp => by
        have := (jsu_pos (g := fun j => if p j = true then (1 : Int) else 0) (n := k) (fun j _ => by show (0 : Int) ≤ if p j = true then 1 else 0; split <;> omega)).mpr ⟨j, hj, by show (0 : Int) < if p j = true then 1 else 0; rw [if_pos hp]; omega⟩
        omega
      rw [jsu_cg (f := fun _ => 0) (fun j hj => if_neg (z j hj)), jsu_0]
    have vk := h k (by omega)
    have sv : 0 ≤ jsu (fun j => if p j = true then v j else 0) k := jsu_nn (fun j hj => by
      have := h j (by omega)
      split <;> omega)
    rw [jsu_s, jsu_s]
    by_cases hp : p k = true
    · rw [jsv_t hp, if_pos hp, if_pos hp, i]
      generalize jsu (fun j => if p j = true then (1 : Int) else 0) k = N at *
      generalize jsu (fun j => if p j = true then v j else 0) k = V at *
      by_cases c0 : N = 0
      · rw [if_pos c0, if_pos rfl, if_neg (by omega), if_pos (by omega), s0 c0]
        omega
      · rw [if_neg c0]
        by_cases c1 : N = 1
        · rw [if_pos c1, if_neg (by omega), if_neg (by omega), if_neg (by omega)]
        · rw [if_neg c1, if_neg (by decide), if_neg (by omega), if_neg (by omega)]
    · rw [jsv_f hp, if_neg hp, if_neg hp, Int.add_zero, Int.add_zero]
      exact i
theorem rm_l {P : si_P} (hxa : P.2.1 < P.1) {d : Nat} {h : si_H} (hH : az_HI P az_tb h) {m r : Int} {Y n : Nat} {B : Nat → Int} {a b : Int} (cx0 : jCX h m r Y n B a b) (hrow : ∀ e : Nat, (e : Int) < ja h 8 0 → jl h 10 e = jgg (jpA m r n B) (jst2 a b Y) Y n (n - 1 - 0) (jtm h 0 e)) : ∀ (k j : Nat) (T : Int32) (W : Int64) (ls : si_L), jM [(3, .int T), (1, .long W), (0, .ref (P.1 + 6))] ls → T.toInt = j → (j : Int) + k = ja h 8 0 → W.toInt = jsu (fun e => jgg (jpA m r n B) (jst2 a b Y) Y n (n - 1 - 0) (jtm h 0 e)) j → az_X P (d + 1) 5 8 ls [] h (fun rv h' => h' = h ∧ jV rv (jsu (fun t => jff (jpA m r n B) (jst2 a b Y) Y (n - 1) t) Y)) := by
  have cx := cx0
  obtain ⟨c1, c2, c3, c4, c5, c6, c7, c8, c9, c10, c11⟩ := cx
  have l0 := c11 0 (by omega)
  rw [show ((0 : Nat) : Int) = 0 from rfl] at l0
  have l01 := l0.1
  have l02 := l0.2.1
  have ff : ∀ e : Nat, 0 ≤ jgg (jpA m r n B) (jst2 a b Y) Y n (n - 1 - 0) (jtm h 0 e) ∧ jgg (jpA m r n B) (jst2 a b Y) Y n (n - 1 - 0) (jtm h 0 e) ≤ jtw12 (n - 1 - 0) := fun e => ⟨jgg_nn _ _ _ _ _ _, jgg_bd (jpA_12 cx0) _ _⟩
  have t7 := jtw_8 (k := n - 1 - 0) (by omega)
  intro k
  induction k with
  | zero =>
    intro j T W ls hl eT hj eW
    have k0 : (0 : Int32).toInt = 0 := by decide
    refine jm_aload_n (x := P.1 + 6) rfl rfl (jM_at hl 2 rfl) ?_
    refine jn_gf (i := 6) (k := 6) rfl rfl hH (by decide) (hH.2 6 _ rfl).1 rfl rfl (fun z9 (ez9 : z9.toInt = ja h 6 6) (bz9 : 0 ≤ z9.toInt ∧ z9.toInt ≤ 8) => ?_)
    refine jx_if (t := 40) rfl rfl rfl (fun hc12 => ?_) (fun hc12 => ?_)
    · have g12 := jc1_le_t hc12
      have tot : W.toInt = jsu (fun t => jff (jpA m r n B) (jst2 a b Y) Y (n - 1) t) Y := by
        rw [eW, show j = (ja h 8 0).toNat by omega, ← jrows (by omega : 1 ≤ n)]
        have s := jtm_sum cx0 (i := 0) (k := (ja h 8 0).toNat) (by omega) (by rw [show ((0 : Nat) : Int) = 0 from rfl]; omega) (fun x => jgg (jpA m r n B) (jst2 a b Y) Y n (n - 1 - 0) x)
        refine s.trans (jsu_cg (fun x _ => ?_))
        by_cases c : jpA m r n B 0 x = true
        · rw [if_pos c, Nat.sub_zero]
        · rw [if_neg c]
          exact (jgg_A (by rw [show n - 1 - (n - 1) = 0 by omega]; exact c)).symm
      have cap : jsu (fun t => jff (jpA m r n B) (jst2 a b Y) Y (n - 1) t) Y ≤ 429981696 := by
        have le : jsu (fun t => jff (jpA m r n B) (jst2 a b Y) Y (n - 1) t) Y ≤ jsu (fun t => jtw12 (n - 1) * (if jpA m r n B (n - 1) t = true then 1 else 0)) Y := jsu_le (fun t _ => by
          by_cases c : jpA m r n B (n - 1) t = true
          · rw [if_pos c, Int.mul_one]
            exact jff_bd (jpA_12 cx0) _ _
          · rw [if_neg c, Int.mul_zero, jff_A c]
            exact Int.le_refl _)
        rw [jsu_mul] at le
        have m12 := Int.mul_le_mul_of_nonneg_left (jpA_12 cx0 (n - 1)) (jtw_nn (n - 1))
        have t8 := jtw_8 (k := n - 1 + 1) (by omega)
        have t9 : jtw12 (n - 1 + 1) = 12 * jtw12 (n - 1) := rfl
        omega
      have cap0 : 0 ≤ jsu (fun t => jff (jpA m r n B) (jst2 a b Y) Y (n - 1) t) Y := jsu_nn (fun t _ => jff_nn _ _ _ _ _)
      have hl1 : jM [(1, .long W), (0, .ref (P.1 + 6))] ls := jM_pick hl [1, 2] rfl
      have kl1000000000 : (1000000000 : Int64).toInt = 1000000000 := by decide
      refine jm_lload_n (x := W) rfl rfl (jM_at hl1 0 rfl) ?_
      refine az_X_step (pc' := 44) (ls' := ls) (st' := [.long 1000000000, .long W]) (h' := h) rfl rfl rfl ?_
      refine az_X_call (m' := 345) (as := [.long W, .long 1000000000]) (rest := []) rfl rfl rfl rfl rfl rfl ?_
      refine (lmin_ok W 1000000000).mono ?_
      rintro rv44 h44 ⟨q44, z44, rfl, ez44⟩
      subst h44
      show az_X P _ 5 47 ls [.long z44] _ _
      refine jn_l2i (a := z44) rfl rfl (by omega) (by omega) (fun z47 ez47 => ?_)
      refine jx_ret rfl rfl rfl ?_
      exact ⟨rfl, z47, rfl, by omega⟩
    · have g12 := jc1_le_f hc12
      refine jm_iload_n (x := T) rfl rfl (jM_at hl 0 rfl) ?_
      refine jm_aload_n (x := P.1 + 6) rfl rfl (jM_at hl 2 rfl) ?_
      refine jx_gf (i := 6) rfl rfl hH (by decide) (hH.2 6 _ rfl).1 rfl (jx_rf hH rfl rfl) ?_
      refine az_X_step (pc' := 21) (ls' := ls) (st' := [.int 0, .ref (P.1 + 8), .int T]) (h' := h) rfl rfl rfl ?_
      refine jx_ial (i := 8) (x := 0) rfl rfl hxa hH (by decide) rfl (by omega) (by show _ < ((8 : Nat) : Int); omega) (fun z21 ez21 bz21 => ?_)
      have e8 : ja h 8 (0 : Int32).toInt = ja h 8 0 := by rw [k0]
      refine jx_ic (t := 40) rfl rfl rfl (fun hc22 => ?_) (fun hc22 => ?_)
      · have g22 := jc2_ge_t hc22
        have tot : W.toInt = jsu (fun t => jff (jpA m r n B) (jst2 a b Y) Y (n - 1) t) Y := by
          rw [eW, show j = (ja h 8 0).toNat by omega, ← jrows (by omega : 1 ≤ n)]
          have s := jtm_sum cx0 (i := 0) (k := (ja h 8 0).toNat) (by omega) (by rw [show ((0 : Nat) : Int) = 0 from rfl]; omega) (fun x => jgg (jpA m r n B) (jst2 a b Y) Y n (n - 1 - 0) x)
          refine s.trans (jsu_cg (fun x _ => ?_))
          by_cases c : jpA m r n B 0 x = true
          · rw [if_pos c, Nat.sub_zero]
          · rw [if_neg c]
            exact (jgg_A (by rw [show n - 1 - (n - 1) = 0 by omega]; exact c)).symm
        have cap : jsu (fun t => jff (jpA m r n B) (jst2 a b Y) Y (n - 1) t) Y ≤ 429981696 := by
          have le : jsu (fun t => jff (jpA m r n B) (jst2 a b Y) Y (n - 1) t) Y ≤ jsu (fun t => jtw12 (n - 1) * (if jpA m r n B (n - 1) t = true then 1 else 0)) Y := jsu_le (fun t _ => by
            by_cases c : jpA m r n B (n - 1) t = true
            · rw [if_pos c, Int.mul_one]
              exact jff_bd (jpA_12 cx0) _ _
            · rw [if_neg c, Int.mul_zero, jff_A c]
              exact Int.le_refl _)
          rw [jsu_mul] at le
          have m12 := Int.mul_le_mul_of_nonneg_left (jpA_12 cx0 (n - 1)) (jtw_nn (n - 1))
          have t8 := jtw_8 (k := n - 1 + 1) (by omega)
          have t9 : jtw12 (n - 1 + 1) = 12 * jtw12 (n - 1) := rfl
          omega
        have cap0 : 0 ≤ jsu (fun t => jff (jpA m r n B) (jst2 a b Y) Y (n - 1) t) Y := jsu_nn (fun t _ => jff_nn _ _ _ _ _)
        have hl1 : jM [(1, .long W), (0, .ref (P.1 + 6))] ls := jM_pick hl [1, 2] rfl
        have kl1000000000 : (1000000000 : Int64).toInt = 1000000000 := by decide
        refine jm_lload_n (x := W) rfl rfl (jM_at hl1 0 rfl) ?_
        refine az_X_step (pc' := 44) (ls' := ls) (st' := [.long 1000000000, .long W]) (h' := h) rfl rfl rfl ?_
        refine az_X_call (m' := 345) (as := [.long W, .long 1000000000]) (rest := []) rfl rfl rfl rfl rfl rfl ?_
        refine (lmin_ok W 1000000000).mono ?_
        rintro rv44 h44 ⟨q44, z44, rfl, ez44⟩
        subst h44
        show az_X P _ 5 47 ls [.long z44] _ _
        refine jn_l2i (a := z44) rfl rfl (by omega) (by omega) (fun z47 ez47 => ?_)
        refine jx_ret rfl rfl rfl ?_
        exact ⟨rfl, z47, rfl, by omega⟩
      · have g22 := jc2_ge_f hc22
        exfalso
        omega
  | succ k ih =>
    intro j T W ls hl eT hj eW
    have bW : 0 ≤ W.toInt ∧ W.toInt ≤ 429981696 * (j : Int) := by
      rw [eW]
      refine ⟨jsu_nn (fun e _ => (ff e).1), Int.le_trans (jsu_le (f := fun _ => 429981696 * 1) (fun e he => by have := ff e; omega)) ?_⟩
      rw [jsu_mul]
      have one : ∀ k : Nat, jsu (fun _ => 1) k = k := by
        intro k
        induction k with
        | zero => rfl
        | succ k ih =>
          rw [jsu_s, ih]
          omega
      rw [one]
      omega
    have k0 : (0 : Int32).toInt = 0 := by decide
    refine jm_aload_n (x := P.1 + 6) rfl rfl (jM_at hl 2 rfl) ?_
    refine jn_gf (i := 6) (k := 6) rfl rfl hH (by decide) (hH.2 6 _ rfl).1 rfl rfl (fun z9 (ez9 : z9.toInt = ja h 6 6) (bz9 : 0 ≤ z9.toInt ∧ z9.toInt ≤ 8) => ?_)
    refine jx_if (t := 40) rfl rfl rfl (fun hc12 => ?_) (fun hc12 => ?_)
    · have g12 := jc1_le_t hc12
      exfalso
      omega
    · have g12 := jc1_le_f hc12
      refine jm_iload_n (x := T) rfl rfl (jM_at hl 0 rfl) ?_
      refine jm_aload_n (x := P.1 + 6) rfl rfl (jM_at hl 2 rfl) ?_
      refine jx_gf (i := 6) rfl rfl hH (by decide) (hH.2 6 _ rfl).1 rfl (jx_rf hH rfl rfl) ?_
      refine az_X_step (pc' := 21) (ls' := ls) (st' := [.int 0, .ref (P.1 + 8), .int T]) (h' := h) rfl rfl rfl ?_
      refine jx_ial (i := 8) (x := 0) rfl rfl hxa hH (by decide) rfl (by omega) (by show _ < ((8 : Nat) : Int); omega) (fun z21 ez21 bz21 => ?_)
      have e8 : ja h 8 (0 : Int32).toInt = ja h 8 0 := by rw [k0]
      refine jx_ic (t := 40) rfl rfl rfl (fun hc22 => ?_) (fun hc22 => ?_)
      · have g22 := jc2_ge_t hc22
        exfalso
        omega
      · have g22 := jc2_ge_f hc22
        refine jm_lload_n (x := W) rfl rfl (jM_at hl 1 rfl) ?_
        refine jm_aload_n (x := P.1 + 6) rfl rfl (jM_at hl 2 rfl) ?_
        refine jx_gf (i := 6) rfl rfl hH (by decide) (hH.2 6 _ rfl).1 rfl (jx_rf hH rfl rfl) ?_
        refine jm_iload_n (x := T) rfl rfl (jM_at hl 0 rfl) ?_
        refine jn_lal (i := 10) (x := T) rfl rfl hH (by decide) rfl (by omega) (by show _ < ((96 : Nat) : Int); omega) (fun z31 ez31 => ?_)
        have fj := ff j
        have el : z31.toInt = jgg (jpA m r n B) (jst2 a b Y) Y n (n - 1 - 0) (jtm h 0 j) := by rw [ez31, eT]; exact hrow j (by omega)
        refine jn_ladd (a := W) (b := z31) rfl rfl (by omega) (by omega) (fun z32 ez32 => ?_)
        refine jm_lstore_n (l' := [(1, .long z32), (3, .int T), (0, .ref (P.1 + 6))]) rfl rfl (by decide) hl rfl (fun ls33 hl33 => ?_)
        refine jn_iincg (x := T) rfl rfl (by decide) (jM_at hl33 1 rfl) hl33 (by decide) (by omega) (by omega) (fun z34 (ez34 : z34.toInt = T.toInt + 1) ls34 (hl34 : jM [(3, .int z34), (1, .long z32), (0, .ref (P.1 + 6))] ls34) => ?_)
        refine az_X_step (pc' := 8) (ls' := ls34) (st' := []) (h' := h) rfl rfl rfl ?_
        have el : z31.toInt = jgg (jpA m r n B) (jst2 a b Y) Y n (n - 1 - 0) (jtm h 0 j) := by rw [ez31, eT]; exact hrow j (by omega)
        exact ih (j + 1) z34 z32 ls34 (jM_pick hl34 [0, 1, 2] rfl) (by omega) (by omega) (by rw [jsu_s]; omega)
theorem rm_ok {P : si_P} (hxa : P.2.1 < P.1) {d : Nat} {h : si_H} (hH : az_HI P az_tb h) {m r : Int} {Y n : Nat} {B : Nat → Int} {a b : Int} (cx0 : jCX h m r Y n B a b) : az_X P (d + 5) 5 0 (lv_args 0 [.ref (P.1 + 6)]) [] h (fun rv h' => ∃ z : Int32, rv = some (.int z) ∧ az_HI P az_tb h' ∧ az_same_out [(10, 1000000)] h h' ∧ z.toInt = jsu (fun t => jff (jpA m r n B) (jst2 a b Y) Y (n - 1) t) Y) := by
  have hl : jM [(0, .ref (P.1 + 6))] (lv_args 0 [.ref (P.1 + 6)]) := jM_args [0] rfl (by decide)
  generalize lv_args 0 [.ref (P.1 + 6)] = ls at hl
  have k0 : (0 : Int32).toInt = 0 := by decide
  have kl0 : (0 : Int64).toInt = 0 := by decide
  refine jm_aload_n (x := P.1 + 6) rfl rfl (jM_at hl 0 rfl) ?_
  refine az_X_call (m' := 4) (as := [.ref (P.1 + 6)]) (rest := []) rfl rfl rfl rfl rfl ?_ ?_
  · unfold si_call
    dsimp only
    rw [if_pos ⟨rfl, rfl⟩]
    show (match si_ix P h (P.1 + 6) with | some i => _ | none => none) = _
    rw [jix hH (by decide)]
    dsimp only
    rw [(hH.2 6 _ rfl).1]
    rfl
  refine (cs_ok (d := d) hxa hH cx0).mono ?_
  rintro rv1 h1 ⟨rfl, hH1, hs1, f1⟩
  show az_X P _ 5 4 ls [] _ _
  refine az_X_step (pc' := 5) (ls' := ls) (st' := [.long 0]) (h' := h1) rfl rfl rfl ?_
  refine jm_lstore_n (l' := [(1, .long 0), (0, .ref (P.1 + 6))]) rfl rfl (by decide) hl rfl (fun ls5 hl5 => ?_)
  refine az_X_step (pc' := 7) (ls' := ls5) (st' := [.int 0]) (h' := h1) rfl rfl rfl ?_
  refine jm_istore_ng (l' := [(3, .int 0), (1, .long 0), (0, .ref (P.1 + 6))]) rfl rfl (by decide) hl5 rfl (fun ls7 hl7 => ?_)
  have cx1 : jCX h1 m r Y n B a b := jCX_so hs1 (by decide) (by decide) (by decide) (by decide) cx0
  have n1 := cx0.2.2.2.2.2.2.1
  have l0 := (cx1.2.2.2.2.2.2.2.2.2.2 0 (by omega)).1
  rw [show ((0 : Nat) : Int) = 0 from rfl] at l0
  refine (rm_l (d := d + 4) hxa hH1 cx1 (fun e he => ?_) (ja h1 8 0).toNat 0 0 0 ls7 (jM_pick hl7 [0, 1, 2] rfl) (by decide) (by omega) (by show (0 : Int64).toInt = 0; decide)).mono ?_
  · have q := f1 0 (by omega) e (by rw [jso_row (i := 8) hs1 (by decide)] at he; exact he)
    rw [show 12 * (((0 : Nat) : Int)) + (e : Int) = e by omega] at q
    rw [jtm_cg hs1 (by decide)]
    exact q
  · rintro rv h9 ⟨q1, z, q2, q3⟩
    subst q1
    exact ⟨z, q2, hH1, hs1, q3⟩
theorem jsv_list {h : si_H} {m r : Int} {Y n : Nat} {B : Nat → Int} {a b : Int} (q : jCX h m r Y n B a b) {i k : Nat} (hi : i < n) (hk : ja h 8 i = k) {p : Nat → Bool} (hp : ∀ t : Nat, p t = true → jpA m r n B i t = true) : jsw (fun c => p (jtm h i c)) (fun c => ((jtm h i c : Nat) : Int)) k = jsw p (fun t => (t : Int)) Y := by
  rw [jsw_eq k (fun j _ => by omega), jsw_eq Y (fun j _ => by omega)]
  have s1 := jtm_sum q hi hk (fun t => if p t = true then 1 else 0)
  have s2 := jtm_sum q hi hk (fun t => if p t = true then (t : Int) else 0)
  have e : ∀ g : Nat → Int, jsu (fun t => if jpA m r n B i t = true then (if p t = true then g t else 0) else 0) Y = jsu (fun t => if p t = true then g t else 0) Y := fun g => jsu_cg (fun t _ => by
    by_cases c : p t = true
    · rw [if_pos (hp t c)]
    · rw [if_neg c]
      split <;> rfl)
  rw [e (fun _ => 1)] at s1
  rw [e (fun t => (t : Int))] at s2
  rw [s1, s2]
theorem jsv_m2 {p : Nat → Bool} {v : Nat → Int} {k : Nat} (h : jsw p v k = -2) : ∀ l : Nat, jsw p v (k + l) = -2
  | 0 => h
  | l + 1 => by
    have i := jsv_m2 h l
    rw [← Nat.add_assoc]
    by_cases c : p (k + l) = true
    · rw [jsv_t c, i, if_neg (by decide)]
    · rw [jsv_f c]
      exact i
/-- the times that a photograph can have -/
def jcan (m r : Int) (Y n : Nat) (B : Nat → Int) (a b : Int) (i t : Nat) : Bool := decide (0 < jff (jpA m r n B) (jst2 a b Y) Y i t ∧ 0 < jgg (jpA m r n B) (jst2 a b Y) Y n (n - 1 - i) t)
theorem jcan_A {m r : Int} {Y n : Nat} {B : Nat → Int} {a b : Int} {i t : Nat} (h : jcan m r Y n B a b i t = true) : jpA m r n B i t = true := by
  have := of_decide_eq_true h
  by_cases c : jpA m r n B i t = true
  · exact c
  · rw [jff_A c] at this
    omega
theorem st_l {P : si_P} (hxa : P.2.1 < P.1) {d : Nat} {h : si_H} (hH : az_HI P az_tb h) {m r : Int} {Y n : Nat} {B : Nat → Int} {a b : Int} (cx0 : jCX h m r Y n B a b) {i : Nat} (hi : i < n) (w : Int32) (ew : w.toInt = i) (r9 : ∀ e : Nat, (e : Int) < ja h 8 i → jl h 9 (12 * (i : Int) + e) = jff (jpA m r n B) (jst2 a b Y) Y i (jtm h i e)) (r10 : ∀ e : Nat, (e : Int) < ja h 8 i → jl h 10 (12 * (i : Int) + e) = jgg (jpA m r n B) (jst2 a b Y) Y n (n - 1 - i) (jtm h i e)) : ∀ (k j : Nat) (T Z : Int32) (ls : si_L), jM [(3, .int T), (2, .int Z), (0, .ref (P.1 + 6)), (1, .int w)] ls → T.toInt = j → (j : Int) + k = ja h 8 i → Z.toInt = jsw (fun e => jcan m r Y n B a b i (jtm h i e)) (fun e => ((jtm h i e : Nat) : Int)) j → az_X P d 6 13 ls [] h (fun rv h' => h' = h ∧ jV rv (jsw (jcan m r Y n B a b i) (fun t => (t : Int)) Y)) := by
  have cx := cx0
  obtain ⟨c1, c2, c3, c4, c5, c6, c7, c8, c9, c10, c11⟩ := cx
  have li := c11 i hi
  have li1 := li.1
  have li2 := li.2.1
  intro k
  induction k with
  | zero =>
    intro j T Z ls hl eT hj eZ
    have k0 : (0 : Int32).toInt = 0 := by decide
    refine jm_iload_n (x := w) rfl rfl (jM_at hl 3 rfl) ?_
    refine jx_if (t := 92) rfl rfl rfl (fun hc14 => ?_) (fun hc14 => ?_)
    · have g14 := jc1_lt_t hc14
      refine jm_iload_n (x := Z) rfl rfl (jM_at hl 1 rfl) ?_
      refine jx_ret rfl rfl rfl ?_
      exfalso
      omega
    · have g14 := jc1_lt_f hc14
      refine jm_iload_n (x := w) rfl rfl (jM_at hl 3 rfl) ?_
      refine jm_aload_n (x := P.1 + 6) rfl rfl (jM_at hl 2 rfl) ?_
      refine jn_gf (i := 6) (k := 6) rfl rfl hH (by decide) (hH.2 6 _ rfl).1 rfl rfl (fun z19 (ez19 : z19.toInt = ja h 6 6) (bz19 : 0 ≤ z19.toInt ∧ z19.toInt ≤ 8) => ?_)
      refine jx_ic (t := 92) rfl rfl rfl (fun hc22 => ?_) (fun hc22 => ?_)
      · have g22 := jc2_ge_t hc22
        refine jm_iload_n (x := Z) rfl rfl (jM_at hl 1 rfl) ?_
        refine jx_ret rfl rfl rfl ?_
        exfalso
        omega
      · have g22 := jc2_ge_f hc22
        refine jm_iload_n (x := T) rfl rfl (jM_at hl 0 rfl) ?_
        refine jm_aload_n (x := P.1 + 6) rfl rfl (jM_at hl 2 rfl) ?_
        refine jx_gf (i := 6) rfl rfl hH (by decide) (hH.2 6 _ rfl).1 rfl (jx_rf hH rfl rfl) ?_
        refine jm_iload_n (x := w) rfl rfl (jM_at hl 3 rfl) ?_
        refine jx_ial (i := 8) (x := w) rfl rfl hxa hH (by decide) rfl (by omega) (by show _ < ((8 : Nat) : Int); omega) (fun z31 ez31 bz31 => ?_)
        have e8 : ja h 8 w.toInt = ja h 8 i := by rw [ew]
        refine jx_ic (t := 92) rfl rfl rfl (fun hc32 => ?_) (fun hc32 => ?_)
        · have g32 := jc2_ge_t hc32
          refine jm_iload_n (x := Z) rfl rfl (jM_at hl 1 rfl) ?_
          refine jx_ret rfl rfl rfl ?_
          exact ⟨rfl, Z, rfl, by rw [eZ, ← jsv_list cx0 hi (k := j) (by omega) (p := jcan m r Y n B a b i) (fun t ht => jcan_A ht)]⟩
        · have g32 := jc2_ge_f hc32
          exfalso
          omega
  | succ k ih =>
    intro j T Z ls hl eT hj eZ
    have tj := jtm_ok cx0 hi (c := j) (by omega)
    have q9 := r9 j (by omega)
    have q10 := r10 j (by omega)
    have fn := jff_nn (jpA m r n B) (jst2 a b Y) Y i (jtm h i j)
    have gn := jgg_nn (jpA m r n B) (jst2 a b Y) Y n (n - 1 - i) (jtm h i j)
    have km4 : ((-4) : Int32).toInt = (-4) := by decide
    have km2 : ((-2) : Int32).toInt = (-2) := by decide
    have k0 : (0 : Int32).toInt = 0 := by decide
    have k12 : (12 : Int32).toInt = 12 := by decide
    have kl0 : (0 : Int64).toInt = 0 := by decide
    refine jm_iload_n (x := w) rfl rfl (jM_at hl 3 rfl) ?_
    refine jx_if (t := 92) rfl rfl rfl (fun hc14 => ?_) (fun hc14 => ?_)
    · have g14 := jc1_lt_t hc14
      refine jm_iload_n (x := Z) rfl rfl (jM_at hl 1 rfl) ?_
      refine jx_ret rfl rfl rfl ?_
      exfalso
      omega
    · have g14 := jc1_lt_f hc14
      refine jm_iload_n (x := w) rfl rfl (jM_at hl 3 rfl) ?_
      refine jm_aload_n (x := P.1 + 6) rfl rfl (jM_at hl 2 rfl) ?_
      refine jn_gf (i := 6) (k := 6) rfl rfl hH (by decide) (hH.2 6 _ rfl).1 rfl rfl (fun z19 (ez19 : z19.toInt = ja h 6 6) (bz19 : 0 ≤ z19.toInt ∧ z19.toInt ≤ 8) => ?_)
      refine jx_ic (t := 92) rfl rfl rfl (fun hc22 => ?_) (fun hc22 => ?_)
      · have g22 := jc2_ge_t hc22
        refine jm_iload_n (x := Z) rfl rfl (jM_at hl 1 rfl) ?_
        refine jx_ret rfl rfl rfl ?_
        exfalso
        omega
      · have g22 := jc2_ge_f hc22
        refine jm_iload_n (x := T) rfl rfl (jM_at hl 0 rfl) ?_
        refine jm_aload_n (x := P.1 + 6) rfl rfl (jM_at hl 2 rfl) ?_
        refine jx_gf (i := 6) rfl rfl hH (by decide) (hH.2 6 _ rfl).1 rfl (jx_rf hH rfl rfl) ?_
        refine jm_iload_n (x := w) rfl rfl (jM_at hl 3 rfl) ?_
        refine jx_ial (i := 8) (x := w) rfl rfl hxa hH (by decide) rfl (by omega) (by show _ < ((8 : Nat) : Int); omega) (fun z31 ez31 bz31 => ?_)
        have e8 : ja h 8 w.toInt = ja h 8 i := by rw [ew]
        refine jx_ic (t := 92) rfl rfl rfl (fun hc32 => ?_) (fun hc32 => ?_)
        · have g32 := jc2_ge_t hc32
          refine jm_iload_n (x := Z) rfl rfl (jM_at hl 1 rfl) ?_
          refine jx_ret rfl rfl rfl ?_
          exfalso
          omega
        · have g32 := jc2_ge_f hc32
          refine jm_iload_n (x := w) rfl rfl (jM_at hl 3 rfl) ?_
          refine az_X_step (pc' := 38) (ls' := ls) (st' := [.int 12, .int w]) (h' := h) rfl rfl rfl ?_
          refine jn_mul (a := w) (b := 12) rfl rfl (by rw [show (12 : Int32).toInt = 12 by decide]; omega) (by rw [show (12 : Int32).toInt = 12 by decide]; omega) (fun z38 ez38 => ?_)
          rw [show (12 : Int32).toInt = 12 by decide] at ez38
          refine jm_iload_n (x := T) rfl rfl (jM_at hl 0 rfl) ?_
          refine jn_add (a := z38) (b := T) rfl rfl (by omega) (by omega) (fun z40 ez40 => ?_)
          refine jm_istore (l' := [(4, .int z40), (3, .int T), (2, .int Z), (0, .ref (P.1 + 6)), (1, .int w)]) rfl rfl (by decide) hl rfl rfl (fun ls41 hl41 => ?_)
          refine jm_aload_n (x := P.1 + 6) rfl rfl (jM_at hl41 3 rfl) ?_
          refine jx_gf (i := 6) rfl rfl hH (by decide) (hH.2 6 _ rfl).1 rfl (jx_rf hH rfl rfl) ?_
          refine jm_iload (x := z40) rfl rfl (jM_at hl41 0 rfl) ?_
          refine jn_lal (i := 9) (x := z40) rfl rfl hH (by decide) rfl (by omega) (by show _ < ((96 : Nat) : Int); omega) (fun z49 ez49 => ?_)
          refine az_X_step (pc' := 51) (ls' := ls41) (st' := [.long 0, .long z49]) (h' := h) rfl rfl rfl ?_
          refine jn_lcmp (a := z49) (b := 0) rfl rfl (fun z51 ez51 => ?_)
          refine jx_if (t := 86) rfl rfl rfl (fun hc52 => ?_) (fun hc52 => ?_)
          · have g52 := jc1_le_t hc52
            refine jn_iinc (x := T) rfl rfl (by decide) (jM_at hl41 1 rfl) hl41 rfl (by decide) (by omega) (by omega) (fun z86 (ez86 : z86.toInt = T.toInt + 1) ls86 (hl86 : jM [(3, .int z86), (4, .int z40), (2, .int Z), (0, .ref (P.1 + 6)), (1, .int w)] ls86) => ?_)
            refine az_X_step (pc' := 13) (ls' := ls86) (st' := []) (h' := h) rfl rfl rfl ?_
            rw [show z40.toInt = 12 * (i : Int) + j by omega] at ez49
            rw [q9] at ez49
            have np : ¬ jcan m r Y n B a b i (jtm h i j) = true := fun e => by
              have := of_decide_eq_true e
              omega
            exact ih (j + 1) z86 Z ls86 (jM_pick hl86 [0, 2, 3, 4] rfl) (by omega) (by omega) (by rw [jsv_f (p := fun e => jcan m r Y n B a b i (jtm h i e)) np]; exact eZ)
          · have g52 := jc1_le_f hc52
            refine jm_aload_n (x := P.1 + 6) rfl rfl (jM_at hl41 3 rfl) ?_
            refine jx_gf (i := 6) rfl rfl hH (by decide) (hH.2 6 _ rfl).1 rfl (jx_rf hH rfl rfl) ?_
            refine jm_iload (x := z40) rfl rfl (jM_at hl41 0 rfl) ?_
            refine jn_lal (i := 10) (x := z40) rfl rfl hH (by decide) rfl (by omega) (by show _ < ((96 : Nat) : Int); omega) (fun z61 ez61 => ?_)
            refine az_X_step (pc' := 63) (ls' := ls41) (st' := [.long 0, .long z61]) (h' := h) rfl rfl rfl ?_
            refine jn_lcmp (a := z61) (b := 0) rfl rfl (fun z63 ez63 => ?_)
            refine jx_if (t := 86) rfl rfl rfl (fun hc64 => ?_) (fun hc64 => ?_)
            · have g64 := jc1_le_t hc64
              refine jn_iinc (x := T) rfl rfl (by decide) (jM_at hl41 1 rfl) hl41 rfl (by decide) (by omega) (by omega) (fun z86 (ez86 : z86.toInt = T.toInt + 1) ls86 (hl86 : jM [(3, .int z86), (4, .int z40), (2, .int Z), (0, .ref (P.1 + 6)), (1, .int w)] ls86) => ?_)
              refine az_X_step (pc' := 13) (ls' := ls86) (st' := []) (h' := h) rfl rfl rfl ?_
              rw [show z40.toInt = 12 * (i : Int) + j by omega] at ez49
              rw [q9] at ez49
              rw [show z40.toInt = 12 * (i : Int) + j by omega] at ez61
              rw [q10] at ez61
              have np : ¬ jcan m r Y n B a b i (jtm h i j) = true := fun e => by
                have := of_decide_eq_true e
                omega
              exact ih (j + 1) z86 Z ls86 (jM_pick hl86 [0, 2, 3, 4] rfl) (by omega) (by omega) (by rw [jsv_f (p := fun e => jcan m r Y n B a b i (jtm h i e)) np]; exact eZ)
            · have g64 := jc1_le_f hc64
              refine jm_iload_n (x := Z) rfl rfl (jM_at hl41 2 rfl) ?_
              refine az_X_step (pc' := 70) (ls' := ls41) (st' := [.int (-4), .int Z]) (h' := h) rfl rfl rfl ?_
              refine jx_ic (t := 83) rfl rfl rfl (fun hc70 => ?_) (fun hc70 => ?_)
              · have g70 := jc2_ne_t hc70
                refine az_X_step (pc' := 85) (ls' := ls41) (st' := [.int (-2)]) (h' := h) rfl rfl rfl ?_
                refine jm_istore_n (l' := [(2, .int (-2)), (4, .int z40), (3, .int T), (0, .ref (P.1 + 6)), (1, .int w)]) rfl rfl (by decide) hl41 rfl rfl (fun ls85 hl85 => ?_)
                refine jn_iinc (x := T) rfl rfl (by decide) (jM_at hl85 2 rfl) hl85 rfl (by decide) (by omega) (by omega) (fun z86 (ez86 : z86.toInt = T.toInt + 1) ls86 (hl86 : jM [(3, .int z86), (2, .int (-2)), (4, .int z40), (0, .ref (P.1 + 6)), (1, .int w)] ls86) => ?_)
                refine az_X_step (pc' := 13) (ls' := ls86) (st' := []) (h' := h) rfl rfl rfl ?_
                rw [show z40.toInt = 12 * (i : Int) + j by omega] at ez49
                rw [q9] at ez49
                rw [show z40.toInt = 12 * (i : Int) + j by omega] at ez61
                rw [q10] at ez61
                have np : jcan m r Y n B a b i (jtm h i j) = true := decide_eq_true ⟨by omega, by omega⟩
                exact ih (j + 1) z86 (-2) ls86 (jM_pick hl86 [0, 1, 3, 4] rfl) (by omega) (by omega) (by rw [jsv_t (p := fun e => jcan m r Y n B a b i (jtm h i e)) np, if_neg (by rw [← eZ]; omega)]; decide)
              · have g70 := jc2_ne_f hc70
                refine jm_aload_n (x := P.1 + 6) rfl rfl (jM_at hl41 3 rfl) ?_
                refine jx_gf (i := 6) rfl rfl hH (by decide) (hH.2 6 _ rfl).1 rfl (jx_rf hH rfl rfl) ?_
                refine jm_iload (x := z40) rfl rfl (jM_at hl41 0 rfl) ?_
                refine jx_ial (i := 7) (x := z40) rfl rfl hxa hH (by decide) rfl (by omega) (by show _ < ((96 : Nat) : Int); omega) (fun z79 ez79 bz79 => ?_)
                refine az_X_step (pc' := 85) (ls' := ls41) (st' := [.int z79]) (h' := h) rfl rfl rfl ?_
                refine jm_istore_n (l' := [(2, .int z79), (4, .int z40), (3, .int T), (0, .ref (P.1 + 6)), (1, .int w)]) rfl rfl (by decide) hl41 rfl rfl (fun ls85 hl85 => ?_)
                refine jn_iinc (x := T) rfl rfl (by decide) (jM_at hl85 2 rfl) hl85 rfl (by decide) (by omega) (by omega) (fun z86 (ez86 : z86.toInt = T.toInt + 1) ls86 (hl86 : jM [(3, .int z86), (2, .int z79), (4, .int z40), (0, .ref (P.1 + 6)), (1, .int w)] ls86) => ?_)
                refine az_X_step (pc' := 13) (ls' := ls86) (st' := []) (h' := h) rfl rfl rfl ?_
                rw [show z40.toInt = 12 * (i : Int) + j by omega] at ez49
                rw [q9] at ez49
                rw [show z40.toInt = 12 * (i : Int) + j by omega] at ez61
                rw [q10] at ez61
                have np : jcan m r Y n B a b i (jtm h i j) = true := decide_eq_true ⟨by omega, by omega⟩
                exact ih (j + 1) z86 z79 ls86 (jM_pick hl86 [0, 1, 3, 4] rfl) (by omega) (by omega) (by rw [jsv_t (p := fun e => jcan m r Y n B a b i (jtm h i e)) np, if_pos (by rw [← eZ]; omega), ez79, show z40.toInt = 12 * (i : Int) + j by omega]; exact tj.1)
theorem st_ok {P : si_P} (hxa : P.2.1 < P.1) {d : Nat} {h : si_H} (hH : az_HI P az_tb h) {m r : Int} {Y n : Nat} {B : Nat → Int} {a b : Int} (cx0 : jCX h m r Y n B a b) {i : Nat} (hi : i < n) (w : Int32) (ew : w.toInt = i) : az_X P (d + 5) 6 0 (lv_args 0 [.ref (P.1 + 6), .int w]) [] h (fun rv h' => ∃ z : Int32, rv = some (.int z) ∧ az_HI P az_tb h' ∧ az_same_out [(9, 1000000), (10, 1000000)] h h' ∧ z.toInt = jsw (jcan m r Y n B a b i) (fun t => (t : Int)) Y) := by
  have hl : jM [(0, .ref (P.1 + 6)), (1, .int w)] (lv_args 0 [.ref (P.1 + 6), .int w]) := jM_args [0, 1] rfl (by decide)
  generalize lv_args 0 [.ref (P.1 + 6), .int w] = ls at hl
  have km4 : ((-4) : Int32).toInt = (-4) := by decide
  have k0 : (0 : Int32).toInt = 0 := by decide
  refine jm_aload_n (x := P.1 + 6) rfl rfl (jM_at hl 0 rfl) ?_
  refine az_X_call (m' := 3) (as := [.ref (P.1 + 6)]) (rest := []) rfl rfl rfl rfl rfl ?_ ?_
  · unfold si_call
    dsimp only
    rw [if_pos ⟨rfl, rfl⟩]
    show (match si_ix P h (P.1 + 6) with | some i => _ | none => none) = _
    rw [jix hH (by decide)]
    dsimp only
    rw [(hH.2 6 _ rfl).1]
    rfl
  refine (ct_ok (d := d) hxa hH cx0).mono ?_
  rintro rv1 h1 ⟨rfl, hH1, hs1, f1⟩
  show az_X P _ 6 4 ls [] _ _
  refine jm_aload_n (x := P.1 + 6) rfl rfl (jM_at hl 0 rfl) ?_
  refine az_X_call (m' := 4) (as := [.ref (P.1 + 6)]) (rest := []) rfl rfl rfl rfl rfl ?_ ?_
  · unfold si_call
    dsimp only
    rw [if_pos ⟨rfl, rfl⟩]
    show (match si_ix P h1 (P.1 + 6) with | some i => _ | none => none) = _
    rw [jix hH1 (by decide)]
    dsimp only
    rw [(hH1.2 6 _ rfl).1]
    rfl
  refine (cs_ok (d := d) hxa hH1 (jCX_so hs1 (by decide) (by decide) (by decide) (by decide) cx0)).mono ?_
  rintro rv5 h5 ⟨rfl, hH5, hs5, f5⟩
  show az_X P _ 6 8 ls [] _ _
  refine az_X_step (pc' := 10) (ls' := ls) (st' := [.int (-4)]) (h' := h5) rfl rfl rfl ?_
  refine jm_istore_n (l' := [(2, .int (-4)), (0, .ref (P.1 + 6)), (1, .int w)]) rfl rfl (by decide) hl rfl rfl (fun ls10 hl10 => ?_)
  refine az_X_step (pc' := 12) (ls' := ls10) (st' := [.int 0]) (h' := h5) rfl rfl rfl ?_
  refine jm_istore_n (l' := [(3, .int 0), (2, .int (-4)), (0, .ref (P.1 + 6)), (1, .int w)]) rfl rfl (by decide) hl10 rfl rfl (fun ls12 hl12 => ?_)
  have cx1 : jCX h1 m r Y n B a b := jCX_so hs1 (by decide) (by decide) (by decide) (by decide) cx0
  have cx5 : jCX h5 m r Y n B a b := jCX_so hs5 (by decide) (by decide) (by decide) (by decide) cx1
  have l5 := (cx5.2.2.2.2.2.2.2.2.2.2 i hi).1
  have r8 : ja h5 8 i = ja h 8 i := by rw [jso_row (i := 8) hs5 (by decide), jso_row (i := 8) hs1 (by decide)]
  refine (st_l (d := d + 5) hxa hH5 cx5 hi w ew (fun e he => ?_) (fun e he => ?_) (ja h5 8 i).toNat 0 0 (-4) ls12 (jM_pick hl12 [0, 1, 2, 3] rfl) (by decide) (by omega) (by show ((-4) : Int32).toInt = -4; decide)).mono ?_
  · rw [jlo_row hs5 (by decide), jtm_cg hs5 (by decide), jtm_cg hs1 (by decide)]
    exact f1 i hi e (by rw [← r8]; exact he)
  · rw [jtm_cg hs5 (by decide)]
    exact f5 i hi e (by rw [← jso_row (i := 8) hs5 (by decide)]; exact he)
  · rintro rv h9 ⟨q1, z, q2, q3⟩
    subst q1
    exact ⟨z, q2, hH5, (hs1.sub (by decide)).tr (hs5.sub (by decide)), q3⟩
/-- what photographs answers -/
def jPH (m r : Int) (Y n : Nat) (B : Nat → Int) (a b w z : Int) : Prop := ((∃ i : Nat, i < 2 * n ∧ m ≤ B i) ∧ z = -3) ∨ ((∀ i : Nat, i < 2 * n → B i < m) ∧ ((w = 100 ∧ z = jsu (fun t => jff (jpA m r n B) (jst2 a b Y) Y (n - 1) t) Y) ∨ (∃ i : Nat, i < n ∧ w = i ∧ z = jsw (jcan m r Y n B a b i) (fun t => (t : Int)) Y)))
theorem jPH_un {m r : Int} {Y n : Nat} {B : Nat → Int} {a b w z u : Int} (hn : n ≤ 8) (h1 : jPH m r Y n B a b w z) (h2 : jPH m r Y n B a b w u) : z = u := by
  rcases h1 with ⟨⟨i, i1, i2⟩, a2⟩ | ⟨a1, a2⟩ <;> rcases h2 with ⟨⟨j, j1, j2⟩, b2⟩ | ⟨b1, b2⟩
  · rw [a2, b2]
  · have := b1 i i1
    omega
  · have := a1 j j1
    omega
  · rcases a2 with ⟨c1, c2⟩ | ⟨i, c1, c2, c3⟩ <;> rcases b2 with ⟨d1, d2⟩ | ⟨j, d1, d2, d3⟩
    · rw [c2, d2]
    · omega
    · omega
    · have e : i = j := by omega
      subst e
      rw [c3, d3]
theorem cbet_ok {P : si_P} {d : Nat} {h : si_H} (x y : Int32) : az_X P d 191 0 (lv_args 0 [.int x, .int y]) [] h (fun rv h' => h' = h ∧ ∃ z : Int32, rv = some (.int z) ∧ ((z.toInt = 1 ∧ 0 ≤ x.toInt ∧ x.toInt ≤ y.toInt ∧ y.toInt ≤ 99) ∨ (z.toInt = 0 ∧ ¬ (0 ≤ x.toInt ∧ x.toInt ≤ y.toInt ∧ y.toInt ≤ 99)))) := by
  have hl : jM [(0, .int x), (1, .int y)] (lv_args 0 [.int x, .int y]) := jM_args [0, 1] rfl (by decide)
  generalize lv_args 0 [.int x, .int y] = ls at hl
  have k0 : (0 : Int32).toInt = 0 := by decide
  have k1 : (1 : Int32).toInt = 1 := by decide
  have k99 : (99 : Int32).toInt = 99 := by decide
  refine jm_iload_n (x := x) rfl rfl (jM_at hl 0 rfl) ?_
  refine jx_if (t := 19) rfl rfl rfl (fun hc1 => ?_) (fun hc1 => ?_)
  · have g1 := jc1_lt_t hc1
    refine az_X_step (pc' := 20) (ls' := ls) (st' := [.int 0]) (h' := h) rfl rfl rfl ?_
    refine jx_retz rfl rfl rfl (by decide) ?_
    exact ⟨rfl, 0, rfl, by omega⟩
  · have g1 := jc1_lt_f hc1
    refine jm_iload_n (x := x) rfl rfl (jM_at hl 0 rfl) ?_
    refine jm_iload_n (x := y) rfl rfl (jM_at hl 1 rfl) ?_
    refine jx_ic (t := 19) rfl rfl rfl (fun hc6 => ?_) (fun hc6 => ?_)
    · have g6 := jc2_gt_t hc6
      refine az_X_step (pc' := 20) (ls' := ls) (st' := [.int 0]) (h' := h) rfl rfl rfl ?_
      refine jx_retz rfl rfl rfl (by decide) ?_
      exact ⟨rfl, 0, rfl, by omega⟩
    · have g6 := jc2_gt_f hc6
      refine jm_iload_n (x := y) rfl rfl (jM_at hl 1 rfl) ?_
      refine az_X_step (pc' := 12) (ls' := ls) (st' := [.int 99, .int y]) (h' := h) rfl rfl rfl ?_
      refine jx_ic (t := 19) rfl rfl rfl (fun hc12 => ?_) (fun hc12 => ?_)
      · have g12 := jc2_gt_t hc12
        refine az_X_step (pc' := 20) (ls' := ls) (st' := [.int 0]) (h' := h) rfl rfl rfl ?_
        refine jx_retz rfl rfl rfl (by decide) ?_
        exact ⟨rfl, 0, rfl, by omega⟩
      · have g12 := jc2_gt_f hc12
        refine az_X_step (pc' := 16) (ls' := ls) (st' := [.int 1]) (h' := h) rfl rfl rfl ?_
        refine az_X_step (pc' := 20) (ls' := ls) (st' := [.int 1]) (h' := h) rfl rfl rfl ?_
        refine jx_retz rfl rfl rfl (by decide) ?_
        exact ⟨rfl, 1, rfl, by omega⟩
theorem thas_ok {P : si_P} {d : Nat} {h : si_H} (hH : az_HI P az_tb h) (i : Int32) : az_X P d 138 0 (lv_args 0 [.ref (P.1 + 12), .int i]) [] h (fun rv h' => h' = h ∧ ∃ z : Int32, rv = some (.int z) ∧ ((z.toInt = 1 ∧ i.toInt ≤ ja h 12 1) ∨ (z.toInt = 0 ∧ ja h 12 1 < i.toInt))) := by
  have hl : jM [(0, .ref (P.1 + 12)), (1, .int i)] (lv_args 0 [.ref (P.1 + 12), .int i]) := jM_args [0, 1] rfl (by decide)
  generalize lv_args 0 [.ref (P.1 + 12), .int i] = ls at hl
  have k0 : (0 : Int32).toInt = 0 := by decide
  have k1 : (1 : Int32).toInt = 1 := by decide
  refine jm_iload_n (x := i) rfl rfl (jM_at hl 1 rfl) ?_
  refine jm_aload_n (x := P.1 + 12) rfl rfl (jM_at hl 0 rfl) ?_
  refine jn_gf (i := 12) (k := 1) rfl rfl hH (by decide) (hH.2 12 _ rfl).1 rfl rfl (fun z2 (ez2 : z2.toInt = ja h 12 1) (bz2 : 0 ≤ z2.toInt ∧ z2.toInt ≤ 260) => ?_)
  refine jx_ic (t := 12) rfl rfl rfl (fun hc5 => ?_) (fun hc5 => ?_)
  · have g5 := jc2_gt_t hc5
    refine az_X_step (pc' := 13) (ls' := ls) (st' := [.int 0]) (h' := h) rfl rfl rfl ?_
    refine jx_retz rfl rfl rfl (by decide) ?_
    exact ⟨rfl, 0, rfl, by omega⟩
  · have g5 := jc2_gt_f hc5
    refine az_X_step (pc' := 9) (ls' := ls) (st' := [.int 1]) (h' := h) rfl rfl rfl ?_
    refine az_X_step (pc' := 13) (ls' := ls) (st' := [.int 1]) (h' := h) rfl rfl rfl ?_
    refine jx_retz rfl rfl rfl (by decide) ?_
    exact ⟨rfl, 1, rfl, by omega⟩
theorem tempty_ok {P : si_P} {d : Nat} {h : si_H} (hH : az_HI P az_tb h) : az_X P d 142 0 (lv_args 0 [.ref (P.1 + 12)]) [] h (fun rv h' => rv = none ∧ az_HI P az_tb h' ∧ az_same_out [(12, 1)] h h' ∧ ja h' 12 1 = 0) := by
  have hl : jM [(0, .ref (P.1 + 12))] (lv_args 0 [.ref (P.1 + 12)]) := jM_args [0] rfl (by decide)
  generalize lv_args 0 [.ref (P.1 + 12)] = ls at hl
  have k0 : (0 : Int32).toInt = 0 := by decide
  refine jm_aload_n (x := P.1 + 12) rfl rfl (jM_at hl 0 rfl) ?_
  refine az_X_step (pc' := 2) (ls' := ls) (st' := [.int 0, .ref (P.1 + 12)]) (h' := h) rfl rfl rfl ?_
  refine jn_pf (i := 12) (k := 1) (x := 0) rfl rfl hH (by decide) rfl (hH.2 12 _ rfl).1 rfl rfl (by decide) (by decide) (by show 0 ≤ _; omega) (by show _ ≤ 260; omega) (fun h2 hH2 hs2 (t2 : ja h2 12 1 = (0 : Int32).toInt) => ?_)
  replace t2 : ja h2 12 1 = 0 := t2.trans (by decide)
  refine jn_retv rfl rfl rfl ?_
  exact ⟨rfl, hH2, (hs2.sub (by decide)), t2⟩
theorem photographs0_ok {P : si_P} (hxa : P.2.1 < P.1) {d : Nat} {h : si_H} (hH : az_HI P az_tb h) (N D E W : Int32) : az_X P (d + 6) 158 0 (lv_args 0 [.ref (P.1 + 0), .int N, .int D, .int E, .int W]) [] h (fun rv h' => ∃ z : Int32, rv = some (.int z) ∧ az_HI P az_tb h' ∧ az_same_out [(6, 6), (6, 7), (6, 8), (7, 1000000), (8, 1000000), (9, 1000000), (10, 1000000), (12, 1)] h h' ∧ ((((1 ≤ N.toInt ∧ N.toInt ≤ 8) ∧ (0 ≤ D.toInt ∧ D.toInt ≤ E.toInt ∧ E.toInt ≤ 99) ∧ ((0 ≤ W.toInt ∧ W.toInt < N.toInt) ∨ W.toInt = 100) ∧ 2 * N.toInt ≤ ja h 12 1) ∧ ja h' 12 1 = 0 ∧ jPH (ja h 1 0) (ja h 1 1) (ja h 1 0 * ja h 1 1).toNat N.toInt.toNat (fun i => ja h 13 i) D.toInt E.toInt W.toInt z.toInt) ∨ (¬ ((1 ≤ N.toInt ∧ N.toInt ≤ 8) ∧ (0 ≤ D.toInt ∧ D.toInt ≤ E.toInt ∧ E.toInt ≤ 99) ∧ ((0 ≤ W.toInt ∧ W.toInt < N.toInt) ∨ W.toInt = 100) ∧ 2 * N.toInt ≤ ja h 12 1) ∧ ja h' 12 1 = ja h 12 1 ∧ z.toInt = -1))) := by
  have hl : jM [(0, .ref (P.1 + 0)), (1, .int N), (2, .int D), (3, .int E), (4, .int W)] (lv_args 0 [.ref (P.1 + 0), .int N, .int D, .int E, .int W]) := jM_args [0, 1, 2, 3, 4] rfl (by decide)
  generalize lv_args 0 [.ref (P.1 + 0), .int N, .int D, .int E, .int W] = ls at hl
  have km3 : ((-3) : Int32).toInt = (-3) := by decide
  have km1 : ((-1) : Int32).toInt = (-1) := by decide
  have k0 : (0 : Int32).toInt = 0 := by decide
  have k1 : (1 : Int32).toInt = 1 := by decide
  have k2 : (2 : Int32).toInt = 2 := by decide
  have k8 : (8 : Int32).toInt = 8 := by decide
  have k100 : (100 : Int32).toInt = 100 := by decide
  refine jm_iload (x := W) rfl rfl (jM_at hl 4 rfl) ?_
  refine az_X_step (pc' := 4) (ls' := ls) (st' := [.int 100, .int W]) (h' := h) rfl rfl rfl ?_
  refine jx_ic (t := 18) rfl rfl rfl (fun hc4 => ?_) (fun hc4 => ?_)
  · have g4 := jc2_eq_t hc4
    refine az_X_step (pc' := 19) (ls' := ls) (st' := [.int 1]) (h' := h) rfl rfl rfl ?_
    refine az_X_step (pc' := 23) (ls' := ls) (st' := [.int 1]) (h' := h) rfl rfl rfl ?_
    refine jm_istore (l' := [(5, .int 1), (0, .ref (P.1 + 0)), (1, .int N), (2, .int D), (3, .int E), (4, .int W)]) rfl rfl (by decide) hl rfl rfl (fun ls23 hl23 => ?_)
    refine jm_iload_n (x := N) rfl rfl (jM_at hl23 2 rfl) ?_
    refine az_X_step (pc' := 27) (ls' := ls23) (st' := [.int 1, .int N]) (h' := h) rfl rfl rfl ?_
    refine jx_ic (t := 62) rfl rfl rfl (fun hc27 => ?_) (fun hc27 => ?_)
    · have g27 := jc2_lt_t hc27
      refine az_X_step (pc' := 63) (ls' := ls23) (st' := [.int (-1)]) (h' := h) rfl rfl rfl ?_
      refine jx_ret rfl rfl rfl ?_
      exact ⟨(-1), rfl, hH, az_same_out.rf, Or.inr ⟨by omega, rfl, by decide⟩⟩
    · have g27 := jc2_lt_f hc27
      refine jm_iload_n (x := N) rfl rfl (jM_at hl23 2 rfl) ?_
      refine az_X_step (pc' := 33) (ls' := ls23) (st' := [.int 8, .int N]) (h' := h) rfl rfl rfl ?_
      refine jx_ic (t := 62) rfl rfl rfl (fun hc33 => ?_) (fun hc33 => ?_)
      · have g33 := jc2_gt_t hc33
        refine az_X_step (pc' := 63) (ls' := ls23) (st' := [.int (-1)]) (h' := h) rfl rfl rfl ?_
        refine jx_ret rfl rfl rfl ?_
        exact ⟨(-1), rfl, hH, az_same_out.rf, Or.inr ⟨by omega, rfl, by decide⟩⟩
      · have g33 := jc2_gt_f hc33
        refine jm_iload (x := 1) rfl rfl (jM_at hl23 0 rfl) ?_
        refine jn_ifd (t := 62) (c := false) rfl rfl rfl (by decide) ?_
        show az_X P _ 158 41 ls23 [] _ _
        refine jm_iload_n (x := D) rfl rfl (jM_at hl23 3 rfl) ?_
        refine jm_iload_n (x := E) rfl rfl (jM_at hl23 4 rfl) ?_
        refine az_X_call (m' := 191) (as := [.int D, .int E]) (rest := []) rfl rfl rfl rfl rfl rfl ?_
        refine (cbet_ok D E).mono ?_
        rintro rv43 h43 ⟨q43, z43, rfl, ez43⟩
        subst h43
        show az_X P _ 158 46 ls23 [.int z43] _ _
        refine jx_if (t := 62) rfl rfl rfl (fun hc46 => ?_) (fun hc46 => ?_)
        · have g46 := jc1_eq_t hc46
          refine az_X_step (pc' := 63) (ls' := ls23) (st' := [.int (-1)]) (h' := h) rfl rfl rfl ?_
          refine jx_ret rfl rfl rfl ?_
          exact ⟨(-1), rfl, hH, az_same_out.rf, Or.inr ⟨by omega, rfl, by decide⟩⟩
        · have g46 := jc1_eq_f hc46
          refine jm_aload_n (x := P.1 + 0) rfl rfl (jM_at hl23 1 rfl) ?_
          refine jx_gf (i := 0) rfl rfl hH (by decide) (hH.2 0 _ rfl).1 rfl (jx_rf hH rfl rfl) ?_
          refine az_X_step (pc' := 54) (ls' := ls23) (st' := [.int 2, .ref (P.1 + 12)]) (h' := h) rfl rfl rfl ?_
          refine jm_iload_n (x := N) rfl rfl (jM_at hl23 2 rfl) ?_
          refine jn_mul (a := 2) (b := N) rfl rfl (by rw [show (2 : Int32).toInt = 2 by decide]; omega) (by rw [show (2 : Int32).toInt = 2 by decide]; omega) (fun z55 ez55 => ?_)
          rw [show (2 : Int32).toInt = 2 by decide] at ez55
          refine az_X_call (m' := 138) (as := [.ref (P.1 + 12), .int z55]) (rest := []) rfl rfl rfl rfl rfl ?_ ?_
          · unfold si_call
            dsimp only
            rw [if_pos ⟨rfl, rfl⟩]
            show (match si_ix P h (P.1 + 12) with | some i => _ | none => none) = _
            rw [jix hH (by decide)]
            dsimp only
            rw [(hH.2 12 _ rfl).1]
            rfl
          refine (thas_ok hH z55).mono ?_
          rintro rv56 h56 ⟨q56, z56, rfl, ez56⟩
          subst h56
          show az_X P _ 158 59 ls23 [.int z56] _ _
          refine jx_if (t := 64) rfl rfl rfl (fun hc59 => ?_) (fun hc59 => ?_)
          · have g59 := jc1_ne_t hc59
            refine jm_aload_n (x := P.1 + 0) rfl rfl (jM_at hl23 1 rfl) ?_
            refine jx_gf (i := 0) rfl rfl hH (by decide) (hH.2 0 _ rfl).1 rfl (jx_rf hH rfl rfl) ?_
            refine jm_aload_n (x := P.1 + 0) rfl rfl (jM_at hl23 1 rfl) ?_
            refine jx_gf (i := 0) rfl rfl hH (by decide) (hH.2 0 _ rfl).1 rfl (jx_rf hH rfl rfl) ?_
            refine jm_iload_n (x := N) rfl rfl (jM_at hl23 2 rfl) ?_
            refine jm_iload_n (x := D) rfl rfl (jM_at hl23 3 rfl) ?_
            refine jm_iload_n (x := E) rfl rfl (jM_at hl23 4 rfl) ?_
            refine az_X_call (m' := 1) (as := [.ref (P.1 + 6), .ref (P.1 + 12), .int N, .int D, .int E]) (rest := []) rfl rfl rfl rfl rfl ?_ ?_
            · unfold si_call
              dsimp only
              rw [if_pos ⟨rfl, rfl⟩]
              show (match si_ix P h (P.1 + 6) with | some i => _ | none => none) = _
              rw [jix hH (by decide)]
              dsimp only
              rw [(hH.2 6 _ rfl).1]
              rfl
            refine (take_ok (d := d + 1) hxa hH N D E (by omega) (by omega) (by omega)).mono ?_
            rintro rv75 h75 ⟨z75, rfl, hH75, hs75, f75⟩
            show az_X P _ 158 78 ls23 [.int z75] _ _
            refine jm_istore (l' := [(6, .int z75), (5, .int 1), (0, .ref (P.1 + 0)), (1, .int N), (2, .int D), (3, .int E), (4, .int W)]) rfl rfl (by decide) hl23 rfl rfl (fun ls78 hl78 => ?_)
            refine jm_aload_n (x := P.1 + 0) rfl rfl (jM_at hl78 2 rfl) ?_
            refine jx_gf (i := 0) rfl rfl hH75 (by decide) (hH75.2 0 _ rfl).1 rfl (jx_rf hH75 rfl rfl) ?_
            refine az_X_call (m' := 142) (as := [.ref (P.1 + 12)]) (rest := []) rfl rfl rfl rfl rfl ?_ ?_
            · unfold si_call
              dsimp only
              rw [if_pos ⟨rfl, rfl⟩]
              show (match si_ix P h75 (P.1 + 12) with | some i => _ | none => none) = _
              rw [jix hH75 (by decide)]
              dsimp only
              rw [(hH75.2 12 _ rfl).1]
              rfl
            refine (tempty_ok hH75).mono ?_
            rintro rv84 h84 ⟨rfl, hH84, hs84, f84⟩
            show az_X P _ 158 87 ls78 [] _ _
            refine jm_iload (x := z75) rfl rfl (jM_at hl78 0 rfl) ?_
            refine jx_if (t := 95) rfl rfl rfl (fun hc89 => ?_) (fun hc89 => ?_)
            · have g89 := jc1_ne_t hc89
              refine jm_iload (x := W) rfl rfl (jM_at hl78 6 rfl) ?_
              refine az_X_step (pc' := 99) (ls' := ls78) (st' := [.int 100, .int W]) (h' := h84) rfl rfl rfl ?_
              refine jx_ic (t := 112) rfl rfl rfl (fun hc99 => ?_) (fun hc99 => ?_)
              · have g99 := jc2_ne_t hc99
                refine jm_aload_n (x := P.1 + 0) rfl rfl (jM_at hl78 2 rfl) ?_
                refine jx_gf (i := 0) rfl rfl hH84 (by decide) (hH84.2 0 _ rfl).1 rfl (jx_rf hH84 rfl rfl) ?_
                refine jm_iload (x := W) rfl rfl (jM_at hl78 6 rfl) ?_
                refine az_X_call (m' := 6) (as := [.ref (P.1 + 6), .int W]) (rest := []) rfl rfl rfl rfl rfl ?_ ?_
                · unfold si_call
                  dsimp only
                  rw [if_pos ⟨rfl, rfl⟩]
                  show (match si_ix P h84 (P.1 + 6) with | some i => _ | none => none) = _
                  rw [jix hH84 (by decide)]
                  dsimp only
                  rw [(hH84.2 6 _ rfl).1]
                  rfl
                refine (st_ok (d := d) hxa hH84 (by
                  have q : jCX h75 (ja h 1 0) (ja h 1 1) (ja h 1 0 * ja h 1 1).toNat N.toInt.toNat (fun i => ja h 13 i) D.toInt E.toInt := by
                    rcases f75 with ⟨-, -, a⟩ | ⟨a, -⟩
                    · exact a
                    · exact absurd a g89
                  exact jCX_so hs84 (by decide) (by decide) (by decide) (by decide) q) (i := W.toInt.toNat) (by omega) W (by omega)).mono ?_
                rintro rv118 h118 ⟨z118, rfl, hH118, hs118, f118⟩
                show az_X P _ 158 121 ls78 [.int z118] _ _
                refine jx_ret rfl rfl rfl ?_
                have mk : ∀ i : Nat, i < 2 * N.toInt.toNat → ja h 13 i < ja h 1 0 := fun i hi => by
                  rcases f75 with ⟨-, a, -⟩ | ⟨a, -⟩
                  · exact a i (by omega)
                  · exact absurd a g89
                exact ⟨z118, rfl, hH118, ((hs75.sub (by decide)).tr ((hs84.sub (by decide)).tr (hs118.sub (by decide)))), Or.inl ⟨⟨by omega, by omega, by omega, by omega⟩, ((jso hs118 (by decide)).trans f84), Or.inr ⟨mk, Or.inr ⟨W.toInt.toNat, by omega, by omega, f118⟩⟩⟩⟩
              · have g99 := jc2_ne_f hc99
                refine jm_aload_n (x := P.1 + 0) rfl rfl (jM_at hl78 2 rfl) ?_
                refine jx_gf (i := 0) rfl rfl hH84 (by decide) (hH84.2 0 _ rfl).1 rfl (jx_rf hH84 rfl rfl) ?_
                refine az_X_call (m' := 5) (as := [.ref (P.1 + 6)]) (rest := []) rfl rfl rfl rfl rfl ?_ ?_
                · unfold si_call
                  dsimp only
                  rw [if_pos ⟨rfl, rfl⟩]
                  show (match si_ix P h84 (P.1 + 6) with | some i => _ | none => none) = _
                  rw [jix hH84 (by decide)]
                  dsimp only
                  rw [(hH84.2 6 _ rfl).1]
                  rfl
                refine (rm_ok (d := d) hxa hH84 (by
                  have q : jCX h75 (ja h 1 0) (ja h 1 1) (ja h 1 0 * ja h 1 1).toNat N.toInt.toNat (fun i => ja h 13 i) D.toInt E.toInt := by
                    rcases f75 with ⟨-, -, a⟩ | ⟨a, -⟩
                    · exact a
                    · exact absurd a g89
                  exact jCX_so hs84 (by decide) (by decide) (by decide) (by decide) q)).mono ?_
                rintro rv106 h106 ⟨z106, rfl, hH106, hs106, f106⟩
                show az_X P _ 158 109 ls78 [.int z106] _ _
                refine az_X_step (pc' := 121) (ls' := ls78) (st' := [.int z106]) (h' := h106) rfl rfl rfl ?_
                refine jx_ret rfl rfl rfl ?_
                have mk : ∀ i : Nat, i < 2 * N.toInt.toNat → ja h 13 i < ja h 1 0 := fun i hi => by
                  rcases f75 with ⟨-, a, -⟩ | ⟨a, -⟩
                  · exact a i (by omega)
                  · exact absurd a g89
                exact ⟨z106, rfl, hH106, ((hs75.sub (by decide)).tr ((hs84.sub (by decide)).tr (hs106.sub (by decide)))), Or.inl ⟨⟨by omega, by omega, by omega, by omega⟩, ((jso hs106 (by decide)).trans f84), Or.inr ⟨mk, Or.inl ⟨by omega, f106⟩⟩⟩⟩
            · have g89 := jc1_ne_f hc89
              refine az_X_step (pc' := 94) (ls' := ls78) (st' := [.int (-3)]) (h' := h84) rfl rfl rfl ?_
              refine jx_ret rfl rfl rfl ?_
              rcases f75 with ⟨a, -⟩ | ⟨-, i, i1, i2⟩
              · omega
              · exact ⟨(-3), rfl, hH84, ((hs75.sub (by decide)).tr (hs84.sub (by decide))), Or.inl ⟨⟨by omega, by omega, by omega, by omega⟩, f84, Or.inl ⟨⟨i, by omega, i2⟩, by decide⟩⟩⟩
          · have g59 := jc1_ne_f hc59
            refine az_X_step (pc' := 63) (ls' := ls23) (st' := [.int (-1)]) (h' := h) rfl rfl rfl ?_
            refine jx_ret rfl rfl rfl ?_
            exact ⟨(-1), rfl, hH, az_same_out.rf, Or.inr ⟨by omega, rfl, by decide⟩⟩
  · have g4 := jc2_eq_f hc4
    refine jm_iload (x := W) rfl rfl (jM_at hl 4 rfl) ?_
    refine jx_if (t := 22) rfl rfl rfl (fun hc9 => ?_) (fun hc9 => ?_)
    · have g9 := jc1_lt_t hc9
      refine az_X_step (pc' := 23) (ls' := ls) (st' := [.int 0]) (h' := h) rfl rfl rfl ?_
      refine jm_istore (l' := [(5, .int 0), (0, .ref (P.1 + 0)), (1, .int N), (2, .int D), (3, .int E), (4, .int W)]) rfl rfl (by decide) hl rfl rfl (fun ls23 hl23 => ?_)
      refine jm_iload_n (x := N) rfl rfl (jM_at hl23 2 rfl) ?_
      refine az_X_step (pc' := 27) (ls' := ls23) (st' := [.int 1, .int N]) (h' := h) rfl rfl rfl ?_
      refine jx_ic (t := 62) rfl rfl rfl (fun hc27 => ?_) (fun hc27 => ?_)
      · have g27 := jc2_lt_t hc27
        refine az_X_step (pc' := 63) (ls' := ls23) (st' := [.int (-1)]) (h' := h) rfl rfl rfl ?_
        refine jx_ret rfl rfl rfl ?_
        exact ⟨(-1), rfl, hH, az_same_out.rf, Or.inr ⟨by omega, rfl, by decide⟩⟩
      · have g27 := jc2_lt_f hc27
        refine jm_iload_n (x := N) rfl rfl (jM_at hl23 2 rfl) ?_
        refine az_X_step (pc' := 33) (ls' := ls23) (st' := [.int 8, .int N]) (h' := h) rfl rfl rfl ?_
        refine jx_ic (t := 62) rfl rfl rfl (fun hc33 => ?_) (fun hc33 => ?_)
        · have g33 := jc2_gt_t hc33
          refine az_X_step (pc' := 63) (ls' := ls23) (st' := [.int (-1)]) (h' := h) rfl rfl rfl ?_
          refine jx_ret rfl rfl rfl ?_
          exact ⟨(-1), rfl, hH, az_same_out.rf, Or.inr ⟨by omega, rfl, by decide⟩⟩
        · have g33 := jc2_gt_f hc33
          refine jm_iload (x := 0) rfl rfl (jM_at hl23 0 rfl) ?_
          refine jn_ifd (t := 62) (c := true) rfl rfl rfl (by decide) ?_
          show az_X P _ 158 62 ls23 [] _ _
          refine az_X_step (pc' := 63) (ls' := ls23) (st' := [.int (-1)]) (h' := h) rfl rfl rfl ?_
          refine jx_ret rfl rfl rfl ?_
          exact ⟨(-1), rfl, hH, az_same_out.rf, Or.inr ⟨by omega, rfl, by decide⟩⟩
    · have g9 := jc1_lt_f hc9
      refine jm_iload (x := W) rfl rfl (jM_at hl 4 rfl) ?_
      refine jm_iload_n (x := N) rfl rfl (jM_at hl 1 rfl) ?_
      refine jx_ic (t := 22) rfl rfl rfl (fun hc15 => ?_) (fun hc15 => ?_)
      · have g15 := jc2_ge_t hc15
        refine az_X_step (pc' := 23) (ls' := ls) (st' := [.int 0]) (h' := h) rfl rfl rfl ?_
        refine jm_istore (l' := [(5, .int 0), (0, .ref (P.1 + 0)), (1, .int N), (2, .int D), (3, .int E), (4, .int W)]) rfl rfl (by decide) hl rfl rfl (fun ls23 hl23 => ?_)
        refine jm_iload_n (x := N) rfl rfl (jM_at hl23 2 rfl) ?_
        refine az_X_step (pc' := 27) (ls' := ls23) (st' := [.int 1, .int N]) (h' := h) rfl rfl rfl ?_
        refine jx_ic (t := 62) rfl rfl rfl (fun hc27 => ?_) (fun hc27 => ?_)
        · have g27 := jc2_lt_t hc27
          refine az_X_step (pc' := 63) (ls' := ls23) (st' := [.int (-1)]) (h' := h) rfl rfl rfl ?_
          refine jx_ret rfl rfl rfl ?_
          exact ⟨(-1), rfl, hH, az_same_out.rf, Or.inr ⟨by omega, rfl, by decide⟩⟩
        · have g27 := jc2_lt_f hc27
          refine jm_iload_n (x := N) rfl rfl (jM_at hl23 2 rfl) ?_
          refine az_X_step (pc' := 33) (ls' := ls23) (st' := [.int 8, .int N]) (h' := h) rfl rfl rfl ?_
          refine jx_ic (t := 62) rfl rfl rfl (fun hc33 => ?_) (fun hc33 => ?_)
          · have g33 := jc2_gt_t hc33
            refine az_X_step (pc' := 63) (ls' := ls23) (st' := [.int (-1)]) (h' := h) rfl rfl rfl ?_
            refine jx_ret rfl rfl rfl ?_
            exact ⟨(-1), rfl, hH, az_same_out.rf, Or.inr ⟨by omega, rfl, by decide⟩⟩
          · have g33 := jc2_gt_f hc33
            refine jm_iload (x := 0) rfl rfl (jM_at hl23 0 rfl) ?_
            refine jn_ifd (t := 62) (c := true) rfl rfl rfl (by decide) ?_
            show az_X P _ 158 62 ls23 [] _ _
            refine az_X_step (pc' := 63) (ls' := ls23) (st' := [.int (-1)]) (h' := h) rfl rfl rfl ?_
            refine jx_ret rfl rfl rfl ?_
            exact ⟨(-1), rfl, hH, az_same_out.rf, Or.inr ⟨by omega, rfl, by decide⟩⟩
      · have g15 := jc2_ge_f hc15
        refine az_X_step (pc' := 19) (ls' := ls) (st' := [.int 1]) (h' := h) rfl rfl rfl ?_
        refine az_X_step (pc' := 23) (ls' := ls) (st' := [.int 1]) (h' := h) rfl rfl rfl ?_
        refine jm_istore (l' := [(5, .int 1), (0, .ref (P.1 + 0)), (1, .int N), (2, .int D), (3, .int E), (4, .int W)]) rfl rfl (by decide) hl rfl rfl (fun ls23 hl23 => ?_)
        refine jm_iload_n (x := N) rfl rfl (jM_at hl23 2 rfl) ?_
        refine az_X_step (pc' := 27) (ls' := ls23) (st' := [.int 1, .int N]) (h' := h) rfl rfl rfl ?_
        refine jx_ic (t := 62) rfl rfl rfl (fun hc27 => ?_) (fun hc27 => ?_)
        · have g27 := jc2_lt_t hc27
          refine az_X_step (pc' := 63) (ls' := ls23) (st' := [.int (-1)]) (h' := h) rfl rfl rfl ?_
          refine jx_ret rfl rfl rfl ?_
          exact ⟨(-1), rfl, hH, az_same_out.rf, Or.inr ⟨by omega, rfl, by decide⟩⟩
        · have g27 := jc2_lt_f hc27
          refine jm_iload_n (x := N) rfl rfl (jM_at hl23 2 rfl) ?_
          refine az_X_step (pc' := 33) (ls' := ls23) (st' := [.int 8, .int N]) (h' := h) rfl rfl rfl ?_
          refine jx_ic (t := 62) rfl rfl rfl (fun hc33 => ?_) (fun hc33 => ?_)
          · have g33 := jc2_gt_t hc33
            refine az_X_step (pc' := 63) (ls' := ls23) (st' := [.int (-1)]) (h' := h) rfl rfl rfl ?_
            refine jx_ret rfl rfl rfl ?_
            exact ⟨(-1), rfl, hH, az_same_out.rf, Or.inr ⟨by omega, rfl, by decide⟩⟩
          · have g33 := jc2_gt_f hc33
            refine jm_iload (x := 1) rfl rfl (jM_at hl23 0 rfl) ?_
            refine jn_ifd (t := 62) (c := false) rfl rfl rfl (by decide) ?_
            show az_X P _ 158 41 ls23 [] _ _
            refine jm_iload_n (x := D) rfl rfl (jM_at hl23 3 rfl) ?_
            refine jm_iload_n (x := E) rfl rfl (jM_at hl23 4 rfl) ?_
            refine az_X_call (m' := 191) (as := [.int D, .int E]) (rest := []) rfl rfl rfl rfl rfl rfl ?_
            refine (cbet_ok D E).mono ?_
            rintro rv43 h43 ⟨q43, z43, rfl, ez43⟩
            subst h43
            show az_X P _ 158 46 ls23 [.int z43] _ _
            refine jx_if (t := 62) rfl rfl rfl (fun hc46 => ?_) (fun hc46 => ?_)
            · have g46 := jc1_eq_t hc46
              refine az_X_step (pc' := 63) (ls' := ls23) (st' := [.int (-1)]) (h' := h) rfl rfl rfl ?_
              refine jx_ret rfl rfl rfl ?_
              exact ⟨(-1), rfl, hH, az_same_out.rf, Or.inr ⟨by omega, rfl, by decide⟩⟩
            · have g46 := jc1_eq_f hc46
              refine jm_aload_n (x := P.1 + 0) rfl rfl (jM_at hl23 1 rfl) ?_
              refine jx_gf (i := 0) rfl rfl hH (by decide) (hH.2 0 _ rfl).1 rfl (jx_rf hH rfl rfl) ?_
              refine az_X_step (pc' := 54) (ls' := ls23) (st' := [.int 2, .ref (P.1 + 12)]) (h' := h) rfl rfl rfl ?_
              refine jm_iload_n (x := N) rfl rfl (jM_at hl23 2 rfl) ?_
              refine jn_mul (a := 2) (b := N) rfl rfl (by rw [show (2 : Int32).toInt = 2 by decide]; omega) (by rw [show (2 : Int32).toInt = 2 by decide]; omega) (fun z55 ez55 => ?_)
              rw [show (2 : Int32).toInt = 2 by decide] at ez55
              refine az_X_call (m' := 138) (as := [.ref (P.1 + 12), .int z55]) (rest := []) rfl rfl rfl rfl rfl ?_ ?_
              · unfold si_call
                dsimp only
                rw [if_pos ⟨rfl, rfl⟩]
                show (match si_ix P h (P.1 + 12) with | some i => _ | none => none) = _
                rw [jix hH (by decide)]
                dsimp only
                rw [(hH.2 12 _ rfl).1]
                rfl
              refine (thas_ok hH z55).mono ?_
              rintro rv56 h56 ⟨q56, z56, rfl, ez56⟩
              subst h56
              show az_X P _ 158 59 ls23 [.int z56] _ _
              refine jx_if (t := 64) rfl rfl rfl (fun hc59 => ?_) (fun hc59 => ?_)
              · have g59 := jc1_ne_t hc59
                refine jm_aload_n (x := P.1 + 0) rfl rfl (jM_at hl23 1 rfl) ?_
                refine jx_gf (i := 0) rfl rfl hH (by decide) (hH.2 0 _ rfl).1 rfl (jx_rf hH rfl rfl) ?_
                refine jm_aload_n (x := P.1 + 0) rfl rfl (jM_at hl23 1 rfl) ?_
                refine jx_gf (i := 0) rfl rfl hH (by decide) (hH.2 0 _ rfl).1 rfl (jx_rf hH rfl rfl) ?_
                refine jm_iload_n (x := N) rfl rfl (jM_at hl23 2 rfl) ?_
                refine jm_iload_n (x := D) rfl rfl (jM_at hl23 3 rfl) ?_
                refine jm_iload_n (x := E) rfl rfl (jM_at hl23 4 rfl) ?_
                refine az_X_call (m' := 1) (as := [.ref (P.1 + 6), .ref (P.1 + 12), .int N, .int D, .int E]) (rest := []) rfl rfl rfl rfl rfl ?_ ?_
                · unfold si_call
                  dsimp only
                  rw [if_pos ⟨rfl, rfl⟩]
                  show (match si_ix P h (P.1 + 6) with | some i => _ | none => none) = _
                  rw [jix hH (by decide)]
                  dsimp only
                  rw [(hH.2 6 _ rfl).1]
                  rfl
                refine (take_ok (d := d + 1) hxa hH N D E (by omega) (by omega) (by omega)).mono ?_
                rintro rv75 h75 ⟨z75, rfl, hH75, hs75, f75⟩
                show az_X P _ 158 78 ls23 [.int z75] _ _
                refine jm_istore (l' := [(6, .int z75), (5, .int 1), (0, .ref (P.1 + 0)), (1, .int N), (2, .int D), (3, .int E), (4, .int W)]) rfl rfl (by decide) hl23 rfl rfl (fun ls78 hl78 => ?_)
                refine jm_aload_n (x := P.1 + 0) rfl rfl (jM_at hl78 2 rfl) ?_
                refine jx_gf (i := 0) rfl rfl hH75 (by decide) (hH75.2 0 _ rfl).1 rfl (jx_rf hH75 rfl rfl) ?_
                refine az_X_call (m' := 142) (as := [.ref (P.1 + 12)]) (rest := []) rfl rfl rfl rfl rfl ?_ ?_
                · unfold si_call
                  dsimp only
                  rw [if_pos ⟨rfl, rfl⟩]
                  show (match si_ix P h75 (P.1 + 12) with | some i => _ | none => none) = _
                  rw [jix hH75 (by decide)]
                  dsimp only
                  rw [(hH75.2 12 _ rfl).1]
                  rfl
                refine (tempty_ok hH75).mono ?_
                rintro rv84 h84 ⟨rfl, hH84, hs84, f84⟩
                show az_X P _ 158 87 ls78 [] _ _
                refine jm_iload (x := z75) rfl rfl (jM_at hl78 0 rfl) ?_
                refine jx_if (t := 95) rfl rfl rfl (fun hc89 => ?_) (fun hc89 => ?_)
                · have g89 := jc1_ne_t hc89
                  refine jm_iload (x := W) rfl rfl (jM_at hl78 6 rfl) ?_
                  refine az_X_step (pc' := 99) (ls' := ls78) (st' := [.int 100, .int W]) (h' := h84) rfl rfl rfl ?_
                  refine jx_ic (t := 112) rfl rfl rfl (fun hc99 => ?_) (fun hc99 => ?_)
                  · have g99 := jc2_ne_t hc99
                    refine jm_aload_n (x := P.1 + 0) rfl rfl (jM_at hl78 2 rfl) ?_
                    refine jx_gf (i := 0) rfl rfl hH84 (by decide) (hH84.2 0 _ rfl).1 rfl (jx_rf hH84 rfl rfl) ?_
                    refine jm_iload (x := W) rfl rfl (jM_at hl78 6 rfl) ?_
                    refine az_X_call (m' := 6) (as := [.ref (P.1 + 6), .int W]) (rest := []) rfl rfl rfl rfl rfl ?_ ?_
                    · unfold si_call
                      dsimp only
                      rw [if_pos ⟨rfl, rfl⟩]
                      show (match si_ix P h84 (P.1 + 6) with | some i => _ | none => none) = _
                      rw [jix hH84 (by decide)]
                      dsimp only
                      rw [(hH84.2 6 _ rfl).1]
                      rfl
                    refine (st_ok (d := d) hxa hH84 (by
                      have q : jCX h75 (ja h 1 0) (ja h 1 1) (ja h 1 0 * ja h 1 1).toNat N.toInt.toNat (fun i => ja h 13 i) D.toInt E.toInt := by
                        rcases f75 with ⟨-, -, a⟩ | ⟨a, -⟩
                        · exact a
                        · exact absurd a g89
                      exact jCX_so hs84 (by decide) (by decide) (by decide) (by decide) q) (i := W.toInt.toNat) (by omega) W (by omega)).mono ?_
                    rintro rv118 h118 ⟨z118, rfl, hH118, hs118, f118⟩
                    show az_X P _ 158 121 ls78 [.int z118] _ _
                    refine jx_ret rfl rfl rfl ?_
                    have mk : ∀ i : Nat, i < 2 * N.toInt.toNat → ja h 13 i < ja h 1 0 := fun i hi => by
                      rcases f75 with ⟨-, a, -⟩ | ⟨a, -⟩
                      · exact a i (by omega)
                      · exact absurd a g89
                    exact ⟨z118, rfl, hH118, ((hs75.sub (by decide)).tr ((hs84.sub (by decide)).tr (hs118.sub (by decide)))), Or.inl ⟨⟨by omega, by omega, by omega, by omega⟩, ((jso hs118 (by decide)).trans f84), Or.inr ⟨mk, Or.inr ⟨W.toInt.toNat, by omega, by omega, f118⟩⟩⟩⟩
                  · have g99 := jc2_ne_f hc99
                    refine jm_aload_n (x := P.1 + 0) rfl rfl (jM_at hl78 2 rfl) ?_
                    refine jx_gf (i := 0) rfl rfl hH84 (by decide) (hH84.2 0 _ rfl).1 rfl (jx_rf hH84 rfl rfl) ?_
                    refine az_X_call (m' := 5) (as := [.ref (P.1 + 6)]) (rest := []) rfl rfl rfl rfl rfl ?_ ?_
                    · unfold si_call
                      dsimp only
                      rw [if_pos ⟨rfl, rfl⟩]
                      show (match si_ix P h84 (P.1 + 6) with | some i => _ | none => none) = _
                      rw [jix hH84 (by decide)]
                      dsimp only
                      rw [(hH84.2 6 _ rfl).1]
                      rfl
                    refine (rm_ok (d := d) hxa hH84 (by
                      have q : jCX h75 (ja h 1 0) (ja h 1 1) (ja h 1 0 * ja h 1 1).toNat N.toInt.toNat (fun i => ja h 13 i) D.toInt E.toInt := by
                        rcases f75 with ⟨-, -, a⟩ | ⟨a, -⟩
                        · exact a
                        · exact absurd a g89
                      exact jCX_so hs84 (by decide) (by decide) (by decide) (by decide) q)).mono ?_
                    rintro rv106 h106 ⟨z106, rfl, hH106, hs106, f106⟩
                    show az_X P _ 158 109 ls78 [.int z106] _ _
                    refine az_X_step (pc' := 121) (ls' := ls78) (st' := [.int z106]) (h' := h106) rfl rfl rfl ?_
                    refine jx_ret rfl rfl rfl ?_
                    have mk : ∀ i : Nat, i < 2 * N.toInt.toNat → ja h 13 i < ja h 1 0 := fun i hi => by
                      rcases f75 with ⟨-, a, -⟩ | ⟨a, -⟩
                      · exact a i (by omega)
                      · exact absurd a g89
                    exact ⟨z106, rfl, hH106, ((hs75.sub (by decide)).tr ((hs84.sub (by decide)).tr (hs106.sub (by decide)))), Or.inl ⟨⟨by omega, by omega, by omega, by omega⟩, ((jso hs106 (by decide)).trans f84), Or.inr ⟨mk, Or.inl ⟨by omega, f106⟩⟩⟩⟩
                · have g89 := jc1_ne_f hc89
                  refine az_X_step (pc' := 94) (ls' := ls78) (st' := [.int (-3)]) (h' := h84) rfl rfl rfl ?_
                  refine jx_ret rfl rfl rfl ?_
                  rcases f75 with ⟨a, -⟩ | ⟨-, i, i1, i2⟩
                  · omega
                  · exact ⟨(-3), rfl, hH84, ((hs75.sub (by decide)).tr (hs84.sub (by decide))), Or.inl ⟨⟨by omega, by omega, by omega, by omega⟩, f84, Or.inl ⟨⟨i, by omega, i2⟩, by decide⟩⟩⟩
              · have g59 := jc1_ne_f hc59
                refine az_X_step (pc' := 63) (ls' := ls23) (st' := [.int (-1)]) (h' := h) rfl rfl rfl ?_
                refine jx_ret rfl rfl rfl ?_
                exact ⟨(-1), rfl, hH, az_same_out.rf, Or.inr ⟨by omega, rfl, by decide⟩⟩
