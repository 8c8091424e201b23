set_option maxRecDepth 100000
/-! THE TIMES THAT LOOK ALIKE -/
/-- listed from a place of a row on: just those with the short hand at s and the long one at l -/
def jLO (h h' : si_H) (m r f s l z : Int) : Prop := 0 ≤ z ∧ z ≤ 6 ∧ (∀ j : Nat, (j : Int) < f → ja h' 4 j = ja h 4 j) ∧ (∀ i : Nat, (i : Int) < z → ∃ u : Nat, ja h' 4 (f + i) = u ∧ (u : Int) < m * r ∧ (u : Int) / r = s ∧ (u : Int) % m = l) ∧ ∀ u : Nat, (u : Int) < m * r → (u : Int) / r = s → (u : Int) % m = l → ∃ i : Nat, (i : Int) < z ∧ ja h' 4 (f + i) = u
/-- listed: just those that look so -/
def jLA (h' : si_H) (m r L z : Int) : Prop := 0 ≤ z ∧ z ≤ 12 ∧ (∀ i : Nat, (i : Int) < z → ∃ u : Nat, ja h' 4 i = u ∧ (u : Int) < m * r ∧ jlk m r u = L) ∧ ∀ u : Nat, (u : Int) < m * r → jlk m r u = L → ∃ i : Nat, (i : Int) < z ∧ ja h' 4 i = u
theorem jLO_mk {h h' : si_H} {m r s l f x0 z : Int} {c y : Nat} (hm : 4 ≤ m ∧ m ≤ 60) (hr : 2 ≤ r ∧ r ≤ 24) (hy : m * r = y) (hs : 0 ≤ s ∧ s < m) (hl : 0 ≤ l ∧ l < m) (hx : x0 = jlw m r s l) (h0 : 0 ≤ x0) (hc : z = c) (c6 : c ≤ 6) (he : s * r + r ≤ x0 + c * m) (hrow : ∀ i : Nat, i < c → ja h' 4 (f + i) = x0 + i * m ∧ x0 + i * m < s * r + r) (hlow : ∀ j : Nat, (j : Int) < f → ja h' 4 j = ja h 4 j) : jLO h h' m r f s l z := by
  have q5 : s * r + r ≤ m * r := by
    have := Int.mul_le_mul_of_nonneg_right (show s + 1 ≤ m by omega) (show 0 ≤ r by omega)
    rw [Int.add_mul, Int.one_mul] at this
    exact this
  rcases jlw_fs0 hm hr hy hs.1 hs.2 hl.1 hl.2 with ⟨t, t1, t2, ⟨t3, t4⟩, t5⟩ | ⟨t2, -⟩
  · have ex : x0 = t := hx.trans t2
    have d1 := Int.mul_ediv_add_emod (t : Int) r
    have d2 := Int.emod_nonneg (t : Int) (show r ≠ 0 by omega)
    rw [t3, Int.mul_comm] at d1
    refine ⟨by omega, by omega, hlow, fun i hi => ?_, fun u u1 u2 u3 => ?_⟩
    · obtain ⟨a1, a2⟩ := hrow i (by omega)
      have p0 := Int.mul_nonneg (show (0 : Int) ≤ i by omega) (show 0 ≤ m by omega)
      refine ⟨(x0 + i * m).toNat, ?_, ?_, ?_, ?_⟩
      · rw [a1, Int.toNat_of_nonneg (by omega)]
      · rw [Int.toNat_of_nonneg (by omega)]; omega
      · rw [Int.toNat_of_nonneg (by omega)]
        refine (Int.ediv_eq_iff_of_pos (by omega)).mpr ?_
        constructor <;> omega
      · rw [Int.toNat_of_nonneg (by omega), Int.add_mul_emod_self_right, ex]
        exact t4
    · have ut : t ≤ u := by
        rcases Nat.lt_or_ge u t with c1 | c1
        · exact absurd ⟨u2, u3⟩ (t5 u c1)
        · exact c1
      have e0 : ((u : Int) - t) % m = 0 := Int.emod_eq_emod_iff_emod_sub_eq_zero.mp (u3.trans t4.symm)
      have e1 := Int.mul_ediv_add_emod ((u : Int) - t) m
      rw [e0, Int.add_zero] at e1
      have q0 : 0 ≤ ((u : Int) - t) / m := Int.ediv_nonneg (by omega) (by omega)
      have d3 := Int.mul_ediv_add_emod (u : Int) r
      have d4 := Int.emod_lt_of_pos (u : Int) (show 0 < r by omega)
      rw [u2, Int.mul_comm] at d3
      have q1 : ((u : Int) - t) / m < c := by
        refine Int.lt_of_mul_lt_mul_left (a := m) ?_ (by omega)
        rw [e1, Int.mul_comm m (c : Int)]
        omega
      obtain ⟨a1, -⟩ := hrow (((u : Int) - t) / m).toNat (by omega)
      refine ⟨(((u : Int) - t) / m).toNat, by omega, ?_⟩
      rw [a1, Int.toNat_of_nonneg q0, Int.mul_comm, e1]
      omega
  · omega
theorem jLO_0 {h : si_H} {m r s l f : Int} {y : Nat} (hm : 4 ≤ m ∧ m ≤ 60) (hr : 2 ≤ r ∧ r ≤ 24) (hy : m * r = y) (hs : 0 ≤ s ∧ s < m) (hl : 0 ≤ l ∧ l < m) (h0 : jlw m r s l < 0) : jLO h h m r f s l 0 := by
  rcases jlw_fs0 hm hr hy hs.1 hs.2 hl.1 hl.2 with ⟨t, t1, t2, -⟩ | ⟨t2, t3⟩
  · omega
  · exact ⟨by omega, by omega, fun _ _ => rfl, fun i hi => absurd hi (by omega), fun u u1 u2 u3 => absurd ⟨u2, u3⟩ (t3 u (by omega))⟩
theorem jlk_so {m r u s l : Int} (hm : m ≤ 60) (hu : (0 ≤ u % m ∧ u % m < m) ∧ (0 ≤ u / r ∧ u / r < m)) (hs : 0 ≤ s ∧ s < m) (hl : 0 ≤ l ∧ l < m) : jlk m r u = 64 * min l s + max l s ↔ (u / r = s ∧ u % m = l) ∨ (u / r = l ∧ u % m = s) := by
  unfold jlk
  exact jlk_iff (by omega) (by omega) (by omega) (by omega)
theorem jLA_1 {h h' : si_H} {m r s z : Int} (hm : 4 ≤ m ∧ m ≤ 60) (hr : 2 ≤ r ∧ r ≤ 24) (hs : 0 ≤ s ∧ s < m) (q : jLO h h' m r 0 s s z) : jLA h' m r (64 * min s s + max s s) z := by
  obtain ⟨a1, a2, -, a4, a5⟩ := q
  refine ⟨a1, by omega, fun i hi => ?_, fun u u1 u2 => ?_⟩
  · obtain ⟨u, b1, b2, b3, b4⟩ := a4 i hi
    rw [Int.zero_add] at b1
    have d := jdm (m := m) (r := r) (a := (u : Int)) hm hr (by omega) b2
    exact ⟨u, b1, b2, (jlk_so hm.2 d hs hs).mpr (Or.inl ⟨b3, b4⟩)⟩
  · have d := jdm (m := m) (r := r) (a := (u : Int)) hm hr (by omega) u1
    have := (jlk_so hm.2 d hs hs).mp u2
    obtain ⟨i, i1, i2⟩ := a5 u u1 (by omega) (by omega)
    rw [Int.zero_add] at i2
    exact ⟨i, i1, i2⟩
theorem jLA_2 {h h1 h2 : si_H} {m r s l z1 z2 z : Int} (hm : 4 ≤ m ∧ m ≤ 60) (hr : 2 ≤ r ∧ r ≤ 24) (hs : 0 ≤ s ∧ s < m) (hl : 0 ≤ l ∧ l < m) (q : jLO h h1 m r 0 s l z1) (p : jLO h1 h2 m r z1 l s z2) (hz : z = z1 + z2) : jLA h2 m r (64 * min l s + max l s) z := by
  obtain ⟨a1, a2, -, a4, a5⟩ := q
  obtain ⟨b1, b2, b3, b4, b5⟩ := p
  refine ⟨by omega, by omega, fun i hi => ?_, fun u u1 u2 => ?_⟩
  · rcases Int.lt_or_le (i : Int) z1 with c | c
    · obtain ⟨u, e1, e2, e3, e4⟩ := a4 i c
      rw [Int.zero_add] at e1
      have d := jdm (m := m) (r := r) (a := (u : Int)) hm hr (by omega) e2
      exact ⟨u, (b3 i c).trans e1, e2, (jlk_so hm.2 d hs hl).mpr (Or.inl ⟨e3, e4⟩)⟩
    · obtain ⟨u, e1, e2, e3, e4⟩ := b4 ((i : Int) - z1).toNat (by omega)
      rw [show z1 + (((i : Int) - z1).toNat : Int) = i by omega] at e1
      have d := jdm (m := m) (r := r) (a := (u : Int)) hm hr (by omega) e2
      exact ⟨u, e1, e2, (jlk_so hm.2 d hs hl).mpr (Or.inr ⟨e3, e4⟩)⟩
  · have d := jdm (m := m) (r := r) (a := (u : Int)) hm hr (by omega) u1
    rcases (jlk_so hm.2 d hs hl).mp u2 with ⟨c1, c2⟩ | ⟨c1, c2⟩
    · obtain ⟨i, i1, i2⟩ := a5 u u1 c1 c2
      rw [Int.zero_add] at i2
      exact ⟨i, by omega, (b3 i i1).trans i2⟩
    · obtain ⟨i, i1, i2⟩ := b5 u u1 c1 c2
      refine ⟨(z1 + i).toNat, by omega, ?_⟩
      rw [show ((z1 + (i : Int)).toNat : Int) = z1 + i by omega]
      exact i2
theorem clo_l {P : si_P} (hxa : P.2.1 < P.1) {d : Nat} {h0 : si_H} (hH0 : az_HI P az_tb h0) (s l f : Int32) (hs : 0 ≤ s.toInt ∧ s.toInt < ja h0 1 0) (hl : 0 ≤ l.toInt ∧ l.toInt < ja h0 1 0) (hf : 0 ≤ f.toInt ∧ f.toInt ≤ 6) (E : Int32) (hE : E.toInt = s.toInt * ja h0 1 1 + ja h0 1 1) (hx : 0 ≤ jlw (ja h0 1 0) (ja h0 1 1) s.toInt l.toInt) : ∀ (k c : Nat) (U C : Int32) (h : si_H) (ls : si_L), jM [(7, .int E), (6, .int U), (5, .int C), (0, .ref (P.1 + 1)), (1, .int s), (2, .int l), (3, .ref (P.1 + 4)), (4, .int f)] ls → az_HI P az_tb h → az_same_out [(4, 1000000)] h0 h → C.toInt = c → U.toInt = jlw (ja h0 1 0) (ja h0 1 1) s.toInt l.toInt + c * ja h0 1 0 → 4 * (c : Int) ≤ U.toInt - jlw (ja h0 1 0) (ja h0 1 1) s.toInt l.toInt → c ≤ 6 → E.toInt - U.toInt ≤ k → (∀ j : Nat, (j : Int) < f.toInt → ja h 4 j = ja h0 4 j) → (∀ i : Nat, i < c → ja h 4 (f.toInt + i) = jlw (ja h0 1 0) (ja h0 1 1) s.toInt l.toInt + i * ja h0 1 0 ∧ jlw (ja h0 1 0) (ja h0 1 1) s.toInt l.toInt + i * ja h0 1 0 < s.toInt * ja h0 1 1 + ja h0 1 1) → az_X P (d + 2) 90 21 ls [] h (fun rv h' => ∃ z : Int32, rv = some (.int z) ∧ az_HI P az_tb h' ∧ az_same_out [(4, 1000000)] h0 h' ∧  jLO h0 h' (ja h0 1 0) (ja h0 1 1) f.toInt s.toInt l.toInt z.toInt) := by
  have bm : 4 ≤ ja h0 1 0 ∧ ja h0 1 0 ≤ 60 := ja_bd hH0 (i := 1) (k := 0) rfl
  have br : 2 ≤ ja h0 1 1 ∧ ja h0 1 1 ≤ 24 := ja_bd hH0 (i := 1) (k := 1) rfl
  have bp := nm_mulnn (a := 4) (b := 60) (c := 2) (d := 24) (x := ja h0 1 0) (y := ja h0 1 1) (by decide) (by decide) bm.1 bm.2 br.1 br.2
  have bs := nm_mulnn (a := 0) (b := 60) (c := 2) (d := 24) (x := s.toInt) (y := ja h0 1 1) (by decide) (by decide) hs.1 (by omega) br.1 br.2
  have je := (jmq_eq (m := ja h0 1 0) (r := ja h0 1 1) (s := s.toInt) (l := l.toInt) (by omega) (by omega) (by omega) hl).2 hx
  intro k
  induction k with
  | zero =>
    intro c U C h ls hl' hH hs' eC eU e4 c6 hk hlow hrow
    have k0 : (0 : Int32).toInt = 0 := by decide
    refine jm_iload (x := U) rfl rfl (jM_at hl' 1 rfl) ?_
    refine jx_if (t := 67) rfl rfl rfl (fun hc23 => ?_) (fun hc23 => ?_)
    · have g23 := jc1_lt_t hc23
      refine jm_iload (x := C) rfl rfl (jM_at hl' 2 rfl) ?_
      refine jx_ret rfl rfl rfl ?_
      exfalso
      omega
    · have g23 := jc1_lt_f hc23
      refine jm_iload (x := U) rfl rfl (jM_at hl' 1 rfl) ?_
      refine jm_iload (x := E) rfl rfl (jM_at hl' 0 rfl) ?_
      refine jx_ic (t := 67) rfl rfl rfl (fun hc30 => ?_) (fun hc30 => ?_)
      · have g30 := jc2_ge_t hc30
        refine jm_iload (x := C) rfl rfl (jM_at hl' 2 rfl) ?_
        refine jx_ret rfl rfl rfl ?_
        exact ⟨C, rfl, hH, hs', jLO_mk (y := (ja h0 1 0 * ja h0 1 1).toNat) bm br (by omega) hs hl rfl hx eC c6 (by omega) hrow hlow⟩
      · have g30 := jc2_ge_f hc30
        exfalso
        omega
  | succ k ih =>
    intro c U C h ls hl' hH hs' eC eU e4 c6 hk hlow hrow
    have r0 : ja h 1 0 = ja h0 1 0 := jso hs' (by decide)
    have k0 : (0 : Int32).toInt = 0 := by decide
    have k12 : (12 : Int32).toInt = 12 := by decide
    refine jm_iload (x := U) rfl rfl (jM_at hl' 1 rfl) ?_
    refine jx_if (t := 67) rfl rfl rfl (fun hc23 => ?_) (fun hc23 => ?_)
    · have g23 := jc1_lt_t hc23
      refine jm_iload (x := C) rfl rfl (jM_at hl' 2 rfl) ?_
      refine jx_ret rfl rfl rfl ?_
      exfalso
      omega
    · have g23 := jc1_lt_f hc23
      refine jm_iload (x := U) rfl rfl (jM_at hl' 1 rfl) ?_
      refine jm_iload (x := E) rfl rfl (jM_at hl' 0 rfl) ?_
      refine jx_ic (t := 67) rfl rfl rfl (fun hc30 => ?_) (fun hc30 => ?_)
      · have g30 := jc2_ge_t hc30
        refine jm_iload (x := C) rfl rfl (jM_at hl' 2 rfl) ?_
        refine jx_ret rfl rfl rfl ?_
        exact ⟨C, rfl, hH, hs', jLO_mk (y := (ja h0 1 0 * ja h0 1 1).toNat) bm br (by omega) hs hl rfl hx eC c6 (by omega) hrow hlow⟩
      · have g30 := jc2_ge_f hc30
        refine jm_iload (x := f) rfl rfl (jM_at hl' 7 rfl) ?_
        refine jm_iload (x := C) rfl rfl (jM_at hl' 2 rfl) ?_
        refine jn_add (a := f) (b := C) rfl rfl (by omega) (by omega) (fun z37 ez37 => ?_)
        refine jm_aload_n (x := P.1 + 4) rfl rfl (jM_at hl' 6 rfl) ?_
        refine jn_len (i := 4) (x := 12) rfl rfl hxa hH (by decide) rfl (by decide) ?_
        refine jx_ic (t := 67) rfl rfl rfl (fun hc40 => ?_) (fun hc40 => ?_)
        · have g40 := jc2_ge_t hc40
          refine jm_iload (x := C) rfl rfl (jM_at hl' 2 rfl) ?_
          refine jx_ret rfl rfl rfl ?_
          exfalso
          omega
        · have g40 := jc2_ge_f hc40
          refine jm_aload_n (x := P.1 + 4) rfl rfl (jM_at hl' 6 rfl) ?_
          refine jm_iload (x := f) rfl rfl (jM_at hl' 7 rfl) ?_
          refine jm_iload (x := C) rfl rfl (jM_at hl' 2 rfl) ?_
          refine jn_add (a := f) (b := C) rfl rfl (by omega) (by omega) (fun z48 ez48 => ?_)
          refine jm_iload (x := U) rfl rfl (jM_at hl' 1 rfl) ?_
          refine jn_ias (i := 4) (x := z48) (v := U) rfl rfl hH (by decide) rfl (by omega) (by show _ < ((12 : Nat) : Int); omega) (by show 0 ≤ _; omega) (by show _ ≤ 20000; omega) (fun h51 hH51 hs51 t51 u51 => ?_)
          refine jm_iload (x := U) rfl rfl (jM_at hl' 1 rfl) ?_
          refine jm_aload_n (x := P.1 + 1) rfl rfl (jM_at hl' 3 rfl) ?_
          refine jn_gf (i := 1) (k := 0) rfl rfl hH51 (by decide) (hH51.2 1 _ rfl).1 rfl rfl (fun z55 (ez55 : z55.toInt = ja h51 1 0) (bz55 : 4 ≤ z55.toInt ∧ z55.toInt ≤ 60) => ?_)
          replace ez55 : z55.toInt = ja h 1 0 := ez55.trans (jso hs51 (by decide))
          refine jn_add (a := U) (b := z55) rfl rfl (by omega) (by omega) (fun z58 ez58 => ?_)
          refine jm_istore (l' := [(6, .int z58), (7, .int E), (5, .int C), (0, .ref (P.1 + 1)), (1, .int s), (2, .int l), (3, .ref (P.1 + 4)), (4, .int f)]) rfl rfl (by decide) hl' rfl rfl (fun ls59 hl59 => ?_)
          refine jn_iinc (x := C) rfl rfl (by decide) (jM_at hl59 2 rfl) hl59 rfl (by decide) (by omega) (by omega) (fun z61 (ez61 : z61.toInt = C.toInt + 1) ls61 (hl61 : jM [(5, .int z61), (6, .int z58), (7, .int E), (0, .ref (P.1 + 1)), (1, .int s), (2, .int l), (3, .ref (P.1 + 4)), (4, .int f)] ls61) => ?_)
          refine az_X_step (pc' := 21) (ls' := ls61) (st' := []) (h' := h51) rfl rfl rfl ?_
          have em : ((c + 1 : Nat) : Int) * ja h0 1 0 = c * ja h0 1 0 + ja h0 1 0 := by
            rw [show ((c + 1 : Nat) : Int) = (c : Int) + 1 by omega, Int.add_mul, Int.one_mul]
          refine ih (c + 1) z58 z61 h51 ls61 (jM_pick hl61 [2, 1, 0, 3, 4, 5, 6, 7] rfl) hH51 (hs'.tr hs51) (by omega) (by omega) (by omega) (by omega) (by omega) (fun j hj => ?_) (fun i hi => ?_)
          · rw [u51 j (by omega) (by omega)]
            exact hlow j hj
          · rcases Nat.lt_or_ge i c with q | q
            · have hr := hrow i q
              refine ⟨?_, hr.2⟩
              rw [u51 _ (by omega) (by omega)]
              exact hr.1
            · have ei : i = c := by omega
              subst ei
              refine ⟨?_, by omega⟩
              rw [show f.toInt + (i : Int) = z48.toInt by omega, t51]
              exact eU
theorem clo_ok {P : si_P} (hxa : P.2.1 < P.1) {d : Nat} {h : si_H} (hH : az_HI P az_tb h) (s l f : Int32) (hs : 0 ≤ s.toInt ∧ s.toInt < ja h 1 0) (hl : 0 ≤ l.toInt ∧ l.toInt < ja h 1 0) (hf : 0 ≤ f.toInt ∧ f.toInt ≤ 6) : az_X P (d + 2) 90 0 (lv_args 0 [.ref (P.1 + 1), .int s, .int l, .ref (P.1 + 4), .int f]) [] h (fun rv h' => ∃ z : Int32, rv = some (.int z) ∧ az_HI P az_tb h' ∧ az_same_out [(4, 1000000)] h h' ∧  jLO h h' (ja h 1 0) (ja h 1 1) f.toInt s.toInt l.toInt z.toInt) := by
  have bm : 4 ≤ ja h 1 0 ∧ ja h 1 0 ≤ 60 := ja_bd hH (i := 1) (k := 0) rfl
  have br : 2 ≤ ja h 1 1 ∧ ja h 1 1 ≤ 24 := ja_bd hH (i := 1) (k := 1) rfl
  have bp := nm_mulnn (a := 4) (b := 60) (c := 2) (d := 24) (x := ja h 1 0) (y := ja h 1 1) (by decide) (by decide) bm.1 bm.2 br.1 br.2
  have bs := nm_mulnn (a := 0) (b := 60) (c := 2) (d := 24) (x := s.toInt) (y := ja h 1 1) (by decide) (by decide) hs.1 (by omega) br.1 br.2
  have hl' : jM [(0, .ref (P.1 + 1)), (1, .int s), (2, .int l), (3, .ref (P.1 + 4)), (4, .int f)] (lv_args 0 [.ref (P.1 + 1), .int s, .int l, .ref (P.1 + 4), .int f]) := jM_args [0, 1, 2, 3, 4] rfl (by decide)
  generalize lv_args 0 [.ref (P.1 + 1), .int s, .int l, .ref (P.1 + 4), .int f] = ls at hl'
  have k0 : (0 : Int32).toInt = 0 := by decide
  have k1 : (1 : Int32).toInt = 1 := by decide
  refine az_X_step (pc' := 1) (ls' := ls) (st' := [.int 0]) (h' := h) rfl rfl rfl ?_
  refine jm_istore (l' := [(5, .int 0), (0, .ref (P.1 + 1)), (1, .int s), (2, .int l), (3, .ref (P.1 + 4)), (4, .int f)]) rfl rfl (by decide) hl' rfl rfl (fun ls1 hl1 => ?_)
  refine jm_aload_n (x := P.1 + 1) rfl rfl (jM_at hl1 1 rfl) ?_
  refine jm_iload_n (x := s) rfl rfl (jM_at hl1 2 rfl) ?_
  refine jm_iload_n (x := l) rfl rfl (jM_at hl1 3 rfl) ?_
  refine az_X_call (m' := 83) (as := [.ref (P.1 + 1), .int s, .int l]) (rest := []) rfl rfl rfl rfl rfl ?_ ?_
  · unfold si_call
    dsimp only
    rw [if_pos ⟨rfl, rfl⟩]
    show (match si_ix P h (P.1 + 1) with | some i => _ | none => none) = _
    rw [jix hH (by decide)]
    dsimp only
    rw [(hH.2 1 _ rfl).1]
    rfl
  refine (lowest_ok hH s l (by omega) (by omega)).mono ?_
  rintro rv6 h6 ⟨q6, z6, rfl, ez6⟩
  subst h6
  show az_X P _ 90 9 ls1 [.int z6] _ _
  refine jm_istore (l' := [(6, .int z6), (5, .int 0), (0, .ref (P.1 + 1)), (1, .int s), (2, .int l), (3, .ref (P.1 + 4)), (4, .int f)]) rfl rfl (by decide) hl1 rfl rfl (fun ls9 hl9 => ?_)
  refine jm_iload_n (x := s) rfl rfl (jM_at hl9 3 rfl) ?_
  refine az_X_step (pc' := 13) (ls' := ls9) (st' := [.int 1, .int s]) (h' := h) rfl rfl rfl ?_
  refine jn_add (a := s) (b := 1) rfl rfl (by omega) (by omega) (fun z13 ez13 => ?_)
  rw [show (1 : Int32).toInt = 1 by decide] at ez13
  refine jm_aload_n (x := P.1 + 1) rfl rfl (jM_at hl9 2 rfl) ?_
  refine jn_gf (i := 1) (k := 1) rfl rfl hH (by decide) (hH.2 1 _ rfl).1 rfl rfl (fun z15 (ez15 : z15.toInt = ja h 1 1) (bz15 : 2 ≤ z15.toInt ∧ z15.toInt ≤ 24) => ?_)
  have hp18 := nm_mulnn (a := 0) (b := 61) (c := 2) (d := 24) (x := z13.toInt) (y := z15.toInt) (by decide) (by decide) (by omega) (by omega) (by omega) (by omega)
  refine jn_mul (a := z13) (b := z15) rfl rfl (by omega) (by omega) (fun z18 ez18 => ?_)
  refine jm_istore (l' := [(7, .int z18), (6, .int z6), (5, .int 0), (0, .ref (P.1 + 1)), (1, .int s), (2, .int l), (3, .ref (P.1 + 4)), (4, .int f)]) rfl rfl (by decide) hl9 rfl rfl (fun ls19 hl19 => ?_)
  have ep : z18.toInt = s.toInt * ja h 1 1 + ja h 1 1 := by rw [ez18, ez13, ez15, Int.add_mul, Int.one_mul]
  rcases Int.lt_or_le (jlw (ja h 1 0) (ja h 1 1) s.toInt l.toInt) 0 with hx | hx
  · have zz := jLO_0 (h := h) (f := f.toInt) (y := (ja h 1 0 * ja h 1 1).toNat) bm br (by omega) hs hl hx
    have k0 : (0 : Int32).toInt = 0 := by decide
    refine jm_iload (x := z6) rfl rfl (jM_at hl19 1 rfl) ?_
    refine jx_if (t := 67) rfl rfl rfl (fun hc23 => ?_) (fun hc23 => ?_)
    · have g23 := jc1_lt_t hc23
      refine jm_iload (x := 0) rfl rfl (jM_at hl19 2 rfl) ?_
      refine jx_ret rfl rfl rfl ?_
      exact ⟨0, rfl, hH, az_same_out.rf, zz⟩
    · have g23 := jc1_lt_f hc23
      exfalso
      omega
  · have je := (jmq_eq (m := ja h 1 0) (r := ja h 1 1) (s := s.toInt) (l := l.toInt) (by omega) (by omega) (by omega) hl).2 hx
    exact clo_l hxa hH s l f hs hl hf z18 ep hx 2000 0 z6 0 h ls19 (jM_pick hl19 [0, 1, 2, 3, 4, 5, 6, 7] rfl) hH az_same_out.rf (by decide) (by rw [ez6]; show _ = _ + ((0 : Nat) : Int) * _; rw [show ((0 : Nat) : Int) = 0 from rfl, Int.zero_mul, Int.add_zero]) (by omega) (by omega) (by omega) (fun _ _ => rfl) (fun i hi => absurd hi (by omega))
theorem clist_ok {P : si_P} (hxa : P.2.1 < P.1) {d : Nat} {h : si_H} (hH : az_HI P az_tb h) (a b : Int32) (ha : 0 ≤ a.toInt ∧ a.toInt < ja h 1 0) (hb : 0 ≤ b.toInt ∧ b.toInt < ja h 1 0) : az_X P (d + 3) 89 0 (lv_args 0 [.ref (P.1 + 1), .int a, .int b, .ref (P.1 + 4), .int 0]) [] h (fun rv h' => ∃ z : Int32, rv = some (.int z) ∧ az_HI P az_tb h' ∧ az_same_out [(4, 1000000)] h h' ∧  jLA h' (ja h 1 0) (ja h 1 1) (64 * min b.toInt a.toInt + max b.toInt a.toInt) z.toInt) := by
  have bm : 4 ≤ ja h 1 0 ∧ ja h 1 0 ≤ 60 := ja_bd hH (i := 1) (k := 0) rfl
  have br : 2 ≤ ja h 1 1 ∧ ja h 1 1 ≤ 24 := ja_bd hH (i := 1) (k := 1) rfl
  have bp := nm_mulnn (a := 4) (b := 60) (c := 2) (d := 24) (x := ja h 1 0) (y := ja h 1 1) (by decide) (by decide) bm.1 bm.2 br.1 br.2
  have hl : jM [(0, .ref (P.1 + 1)), (1, .int a), (2, .int b), (3, .ref (P.1 + 4)), (4, .int 0)] (lv_args 0 [.ref (P.1 + 1), .int a, .int b, .ref (P.1 + 4), .int 0]) := jM_args [0, 1, 2, 3, 4] rfl (by decide)
  generalize lv_args 0 [.ref (P.1 + 1), .int a, .int b, .ref (P.1 + 4), .int 0] = ls at hl
  have k0 : (0 : Int32).toInt = 0 := by decide
  refine jm_aload_n (x := P.1 + 1) rfl rfl (jM_at hl 0 rfl) ?_
  refine jm_iload_n (x := a) rfl rfl (jM_at hl 1 rfl) ?_
  refine jm_iload_n (x := b) rfl rfl (jM_at hl 2 rfl) ?_
  refine jm_aload_n (x := P.1 + 4) rfl rfl (jM_at hl 3 rfl) ?_
  refine jm_iload (x := 0) rfl rfl (jM_at hl 4 rfl) ?_
  refine az_X_call (m' := 90) (as := [.ref (P.1 + 1), .int a, .int b, .ref (P.1 + 4), .int 0]) (rest := []) rfl rfl rfl rfl rfl ?_ ?_
  · unfold si_call
    dsimp only
    rw [if_pos ⟨rfl, rfl⟩]
    show (match si_ix P h (P.1 + 1) with | some i => _ | none => none) = _
    rw [jix hH (by decide)]
    dsimp only
    rw [(hH.2 1 _ rfl).1]
    rfl
  refine (clo_ok hxa hH a b 0 ha hb (by decide)).mono ?_
  rintro rv6 h6 ⟨z6, rfl, hH6, hs6, f6⟩
  show az_X P _ 89 9 ls [.int z6] _ _
  refine jm_istore (l' := [(5, .int z6), (0, .ref (P.1 + 1)), (1, .int a), (2, .int b), (3, .ref (P.1 + 4)), (4, .int 0)]) rfl rfl (by decide) hl rfl rfl (fun ls9 hl9 => ?_)
  refine jm_iload_n (x := a) rfl rfl (jM_at hl9 2 rfl) ?_
  refine jm_iload_n (x := b) rfl rfl (jM_at hl9 3 rfl) ?_
  refine jx_ic (t := 33) rfl rfl rfl (fun hc13 => ?_) (fun hc13 => ?_)
  · have g13 := jc2_eq_t hc13
    refine jm_iload (x := z6) rfl rfl (jM_at hl9 0 rfl) ?_
    refine jx_ret rfl rfl rfl ?_
    have eab : b.toInt = a.toInt := by omega
    rw [k0, eab] at f6
    exact ⟨z6, rfl, hH6, hs6, by rw [eab]; exact jLA_1 bm br ha f6⟩
  · have g13 := jc2_eq_f hc13
    have f6b := f6.1
    have f6c := f6.2.1
    refine jm_iload (x := z6) rfl rfl (jM_at hl9 0 rfl) ?_
    refine jm_aload_n (x := P.1 + 1) rfl rfl (jM_at hl9 1 rfl) ?_
    refine jm_iload_n (x := b) rfl rfl (jM_at hl9 3 rfl) ?_
    refine jm_iload_n (x := a) rfl rfl (jM_at hl9 2 rfl) ?_
    refine jm_aload_n (x := P.1 + 4) rfl rfl (jM_at hl9 4 rfl) ?_
    refine jm_iload (x := 0) rfl rfl (jM_at hl9 5 rfl) ?_
    refine jm_iload (x := z6) rfl rfl (jM_at hl9 0 rfl) ?_
    refine jn_add (a := 0) (b := z6) rfl rfl (by omega) (by omega) (fun z26 ez26 => ?_)
    rw [show (0 : Int32).toInt = 0 by decide] at ez26
    refine az_X_call (m' := 90) (as := [.ref (P.1 + 1), .int b, .int a, .ref (P.1 + 4), .int z26]) (rest := [.int z6]) rfl rfl rfl rfl rfl ?_ ?_
    · unfold si_call
      dsimp only
      rw [if_pos ⟨rfl, rfl⟩]
      show (match si_ix P h6 (P.1 + 1) with | some i => _ | none => none) = _
      rw [jix hH6 (by decide)]
      dsimp only
      rw [(hH6.2 1 _ rfl).1]
      rfl
    refine (clo_ok hxa hH6 b a z26 (by rw [jso hs6 (by decide)]; exact hb) (by rw [jso hs6 (by decide)]; exact ha) (by omega)).mono ?_
    rintro rv27 h27 ⟨z27, rfl, hH27, hs27, f27⟩
    show az_X P _ 89 30 ls9 [.int z27, .int z6] _ _
    have f27b := f27.1
    have f27c := f27.2.1
    refine jn_add (a := z6) (b := z27) rfl rfl (by omega) (by omega) (fun z30 ez30 => ?_)
    refine jm_istore (l' := [(5, .int z30), (0, .ref (P.1 + 1)), (1, .int a), (2, .int b), (3, .ref (P.1 + 4)), (4, .int 0)]) rfl rfl (by decide) hl9 rfl rfl (fun ls31 hl31 => ?_)
    refine jm_iload (x := z30) rfl rfl (jM_at hl31 0 rfl) ?_
    refine jx_ret rfl rfl rfl ?_
    have r0 : ja h6 1 0 = ja h 1 0 := jso hs6 (by decide)
    have r1 : ja h6 1 1 = ja h 1 1 := jso hs6 (by decide)
    rw [k0] at f6
    rw [r0, r1, show z26.toInt = z6.toInt by omega] at f27
    exact ⟨z30, rfl, hH27, hs6.tr hs27, jLA_2 bm br ha hb f6 f27 ez30⟩
theorem calikes_ok {P : si_P} (hxa : P.2.1 < P.1) {d : Nat} {h : si_H} (hH : az_HI P az_tb h) (t : Int32) (ht : 0 ≤ t.toInt ∧ t.toInt < ja h 1 0 * ja h 1 1) : az_X P (d + 4) 106 0 (lv_args 0 [.ref (P.1 + 3), .int t]) [] h (fun rv h' => ∃ z : Int32, rv = some (.int z) ∧ az_HI P az_tb h' ∧ az_same_out [(4, 1000000)] h h' ∧  jLA h' (ja h 1 0) (ja h 1 1) (jlk (ja h 1 0) (ja h 1 1) t.toInt) z.toInt) := by
  have bm : 4 ≤ ja h 1 0 ∧ ja h 1 0 ≤ 60 := ja_bd hH (i := 1) (k := 0) rfl
  have br : 2 ≤ ja h 1 1 ∧ ja h 1 1 ≤ 24 := ja_bd hH (i := 1) (k := 1) rfl
  have bp := nm_mulnn (a := 4) (b := 60) (c := 2) (d := 24) (x := ja h 1 0) (y := ja h 1 1) (by decide) (by decide) bm.1 bm.2 br.1 br.2
  have dm := jdm (m := ja h 1 0) (r := ja h 1 1) (a := t.toInt) bm br ht.1 ht.2
  have hl : jM [(0, .ref (P.1 + 3)), (1, .int t)] (lv_args 0 [.ref (P.1 + 3), .int t]) := jM_args [0, 1] rfl (by decide)
  generalize lv_args 0 [.ref (P.1 + 3), .int t] = ls at hl
  have k0 : (0 : Int32).toInt = 0 := by decide
  refine jm_aload_n (x := P.1 + 3) rfl rfl (jM_at hl 0 rfl) ?_
  refine jx_gf (i := 3) rfl rfl hH (by decide) (hH.2 3 _ rfl).1 rfl (jx_rf hH rfl rfl) ?_
  refine jm_aload_n (x := P.1 + 3) rfl rfl (jM_at hl 0 rfl) ?_
  refine jx_gf (i := 3) rfl rfl hH (by decide) (hH.2 3 _ rfl).1 rfl (jx_rf hH rfl rfl) ?_
  refine jm_iload_n (x := t) rfl rfl (jM_at hl 1 rfl) ?_
  refine az_X_call (m' := 76) (as := [.ref (P.1 + 1), .int t]) (rest := [.ref (P.1 + 1)]) rfl rfl rfl rfl rfl ?_ ?_
  · unfold si_call
    dsimp only
    rw [if_pos ⟨rfl, rfl⟩]
    show (match si_ix P h (P.1 + 1) with | some i => _ | none => none) = _
    rw [jix hH (by decide)]
    dsimp only
    rw [(hH.2 1 _ rfl).1]
    rfl
  refine (cshort_ok hH t ht.1).mono ?_
  rintro rv9 h9 ⟨q9, z9, rfl, ez9⟩
  subst h9
  show az_X P _ 106 12 ls [.int z9, .ref (P.1 + 1)] _ _
  refine jm_aload_n (x := P.1 + 3) rfl rfl (jM_at hl 0 rfl) ?_
  refine jx_gf (i := 3) rfl rfl hH (by decide) (hH.2 3 _ rfl).1 rfl (jx_rf hH rfl rfl) ?_
  refine jm_iload_n (x := t) rfl rfl (jM_at hl 1 rfl) ?_
  refine az_X_call (m' := 77) (as := [.ref (P.1 + 1), .int t]) (rest := [.int z9, .ref (P.1 + 1)]) rfl rfl rfl rfl rfl ?_ ?_
  · unfold si_call
    dsimp only
    rw [if_pos ⟨rfl, rfl⟩]
    show (match si_ix P h (P.1 + 1) with | some i => _ | none => none) = _
    rw [jix hH (by decide)]
    dsimp only
    rw [(hH.2 1 _ rfl).1]
    rfl
  refine (clong_ok hH t).mono ?_
  rintro rv17 h17 ⟨q17, z17, rfl, ez17⟩
  subst h17
  show az_X P _ 106 20 ls [.int z17, .int z9, .ref (P.1 + 1)] _ _
  refine jm_aload_n (x := P.1 + 3) rfl rfl (jM_at hl 0 rfl) ?_
  refine jx_gf (i := 3) rfl rfl hH (by decide) (hH.2 3 _ rfl).1 rfl (jx_rf hH rfl rfl) ?_
  refine az_X_step (pc' := 25) (ls' := ls) (st' := [.int 0, .ref (P.1 + 4), .int z17, .int z9, .ref (P.1 + 1)]) (h' := h) rfl rfl rfl ?_
  refine az_X_call (m' := 89) (as := [.ref (P.1 + 1), .int z9, .int z17, .ref (P.1 + 4), .int 0]) (rest := []) rfl rfl rfl rfl rfl ?_ ?_
  · unfold si_call
    dsimp only
    rw [if_pos ⟨rfl, rfl⟩]
    show (match si_ix P h (P.1 + 1) with | some i => _ | none => none) = _
    rw [jix hH (by decide)]
    dsimp only
    rw [(hH.2 1 _ rfl).1]
    rfl
  refine (clist_ok hxa hH z9 z17 (by omega) (by omega)).mono ?_
  rintro rv25 h25 ⟨z25, rfl, hH25, hs25, f25⟩
  show az_X P _ 106 28 ls [.int z25] _ _
  refine jx_ret rfl rfl rfl ?_
  rw [ez9, ez17] at f25
  exact ⟨z25, rfl, hH25, hs25, f25⟩
