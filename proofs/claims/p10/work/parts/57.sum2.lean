/-! BY HAND, 7: a sum -/
/-- within a sum; x is 1 behind a factor, 0 before one -/
def jrs (P : si_P) (h0 : si_H) (b c0 f l : Nat) (a : Int) (t : Nat) (x : Int) (h : si_H) (w c p : Nat) : Prop := az_HI P az_tb h ∧ az_same_out jm_rf h0 h ∧ ja h 60 23 = w ∧ ja h 60 22 = c ∧ ja h 60 17 = p ∧ b ≤ w ∧ w ≤ p ∧ p ≤ l ∧ c0 ≤ c ∧ (∀ j : Nat, j < w → 0 ≤ ja h 73 j) ∧ (∀ j : Nat, b ≤ j → j < w → (2 ≤ jop (ja h 73 j) ∧ jop (ja h 73 j) ≤ 6) ∨ jop (ja h 73 j) = 14) ∧ (∀ j : Nat, j < b → ja h 73 j = ja h0 73 j) ∧ (∀ k : Nat, k < c0 → ja h 72 k = ja h0 72 k) ∧ (c : Int) + jcn (ja h 73) w + t ≤ p ∧ jH (ja h 72) c = jH (ja h 72) f + a + x + (jcn (ja h 73) w - jcn (ja h 73) b) ∧ jgd (ja h 72) f c0 c
theorem jrs_fr {P : si_P} {h0 h h' : si_H} {b c0 f l w c p t : Nat} {a x : Int} (hf : f ≤ c0) (hH' : az_HI P az_tb h') (hs : az_same_out jm_rf h h') (fr : ∀ (i : Nat) (k : Int), 0 ≤ k → ja h' i k = ja h i k) (s : jrs P h0 b c0 f l a t x h w c p) : jrs P h0 b c0 f l a t x h' w c p := by
  obtain ⟨s1, s2, s3, s4, s5, s6, s7, s8, s9, s10, s11, s12, s13, s14, s15, s16⟩ := s
  have e3 : ∀ k : Nat, ja h' 73 k = ja h 73 k := fun k => fr 73 k (by omega)
  have e4 : ∀ k : Nat, ja h' 72 k = ja h 72 k := fun k => fr 72 k (by omega)
  refine ⟨hH', s2.tr hs, (fr _ _ (by omega)).trans s3, (fr _ _ (by omega)).trans s4, (fr _ _ (by omega)).trans s5, s6, s7, s8, s9, fun j hj => by rw [e3]; exact s10 j hj, fun j h5 h6 => by rw [e3]; exact s11 j h5 h6, fun j hj => by rw [e3]; exact s12 j hj, fun k hk => by rw [e4]; exact s13 k hk, ?_, ?_, jgd_cg s16 (by omega) (fun j _ => e4 j)⟩
  · rw [jcn_cg (fun j _ => e3 j)]; exact s14
  · rw [jH_cg (n := c) (fun j _ => by rw [e4 j]), jH_cg (n := f) (fun j _ => by rw [e4 j]), jcn_cg (n := w) (fun j _ => e3 j), jcn_cg (n := b) (fun j _ => e3 j)]; exact s15
theorem jrs_factor {P : si_P} {h0 h h' : si_H} {b c0 f l w c p t : Nat} {a : Int} {rv : Option Value} (hf : f ≤ c0) (ha : 0 ≤ a) (s : jrs P h0 b c0 f l a t 0 h w c p) (hq : rfQ P w c p l h rv h') : az_HI P az_tb h' ∧ az_same_out jm_rf h0 h' ∧ (jbad h' rv ∨ (jV rv 1 ∧ ∃ w' p' : Nat, p ≤ p' ∧ jrs P h0 b c0 f l a t 1 h' w' (c + 1) p')) := by
  obtain ⟨s1, s2, s3, s4, s5, s6, s7, s8, s9, s10, s11, s12, s13, s14, s15, s16⟩ := s
  obtain ⟨q1, q2, q3⟩ := hq
  refine ⟨q1, s2.tr q2, ?_⟩
  rcases q3 with q3 | ⟨y1, w', p', yy, y2, y3, y4, y5, y6, y7, y8, y9, y10, y11, y12, y13, y14⟩
  · exact Or.inl q3
  · have k14 : jk1 (jop 14680064) = 0 := by decide
    have e1 : jcn (ja h' 73) w = jcn (ja h 73) w := jcn_cg y9
    have e2 : jcn (ja h' 73) w' = jcn (ja h' 73) w := jcn_non y2 (fun j h1 h2 => by rw [y10 j h1 h2]; exact k14)
    have e3 : jcn (ja h' 73) b = jcn (ja h 73) b := jcn_cg (fun j hj => y9 j (by omega))
    have e4 : jH (ja h' 72) c = jH (ja h 72) c := jH_cg (fun j hj => by rw [y11 j hj])
    have e5 : jH (ja h' 72) f = jH (ja h 72) f := jH_cg (fun j hj => by rw [y11 j (by omega)])
    have e6 : jH (ja h' 72) (c + 1) = jH (ja h' 72) c + 1 := by
      show jH (ja h' 72) c + jdl (jop (ja h' 72 c)) = _
      rw [show jdl (jop (ja h' 72 c)) = 1 from by unfold jdl; rw [if_pos y13]]
    have e7 := jcn_le (A := ja h 73) s6
    refine Or.inr ⟨y1, w', p', yy, q1, s2.tr q2, y6, y8.trans (by omega), y7, by omega, y3, y4, by omega, ?_, ?_, ?_, ?_, by omega, by omega, ?_⟩
    · intro j hj
      rcases Nat.lt_or_ge j w with h1 | h1
      · rw [y9 j h1]; exact s10 j h1
      · rw [y10 j h1 hj]; decide
    · intro j h1 h2
      rcases Nat.lt_or_ge j w with h3 | h3
      · rw [y9 j h3]; exact s11 j h1 h3
      · rw [y10 j h3 h2]; right; decide
    · exact fun j hj => (y9 j (by omega)).trans (s12 j hj)
    · exact fun k hk => (y11 k (by omega)).trans (s13 k hk)
    · refine jgd_app (jgd_cg s16 (by omega) y11) (fun k h1 h2 => ?_)
      rw [show k = c from by omega]
      refine ⟨y12, by omega, ?_, y14⟩
      rw [show jnd (jop (ja h' 72 c)) = 0 from by unfold jnd; rw [if_pos y13]]
      have := jcn_nn (ja h 73) w
      omega
theorem jrs_close {P : si_P} {h0 h h' : si_H} {b c0 f l w c p t : Nat} {a all : Int} {rv : Option Value} (hf : f ≤ c0) (ha : 0 ≤ a) (hb : ∀ v : Nat, b = v + 1 → ¬ (2 ≤ jop (ja h0 73 v) ∧ jop (ja h0 73 v) ≤ 6)) (s : jrs P h0 b c0 f l a t 1 h w c p) (hq : csQ P all w c h rv h') : rv = none ∧ ∃ w' c' : Nat, w' ≤ w ∧ jrs P h0 b c0 f l a t 1 h' w' c' p ∧ (∀ j : Nat, ja h' 73 j = ja h 73 j) ∧ (∀ j : Nat, w' ≤ j → j < w → 2 ≤ jop (ja h 73 j) ∧ jop (ja h 73 j) ≤ 6) ∧ (∀ v : Nat, w' = v + 1 → ¬ (4 ≤ jop (ja h 73 v) ∧ jop (ja h 73 v) ≤ 6) ∧ (all = 1 → ¬ (2 ≤ jop (ja h 73 v) ∧ jop (ja h 73 v) ≤ 3))) := by
  obtain ⟨s1, s2, s3, s4, s5, s6, s7, s8, s9, s10, s11, s12, s13, s14, s15, s16⟩ := s
  obtain ⟨q1, q2, q3, w', q4, q5, q6, q7, q8, q9, q10⟩ := hq
  have g1 : ∀ k : Int, ja h' 73 k = ja h 73 k := jso_row q3 (by decide)
  have hbw : b ≤ w' := by
    rcases Nat.lt_or_ge w' b with h1 | h1
    · obtain ⟨v, hv⟩ : ∃ v, b = v + 1 := ⟨b - 1, by omega⟩
      have h2 := q5 v (by omega) (by omega)
      rw [s12 v (by omega)] at h2
      exact absurd h2 (hb v hv)
    · exact h1
  have eA : ja h' 73 = ja h 73 := funext g1
  have e1 : jcn (ja h 73) w = jcn (ja h 73) w' + ((w : Int) - w') := jcn_all q4 (fun j h1 h2 => by unfold jk1; rw [if_pos (Or.inl (q5 j h1 h2))])
  have e2 := jcn_le (A := ja h 73) hbw
  obtain ⟨c', hc'⟩ : ∃ c' : Nat, (c' : Int) = (c : Int) + w - w' := ⟨c + w - w', by omega⟩
  have e4 : jH (ja h' 72) c = jH (ja h 72) c := jH_cg (fun j hj => by rw [q9 j hj])
  have e5 : jH (ja h' 72) f = jH (ja h 72) f := jH_cg (fun j hj => by rw [q9 j (by omega)])
  have e6 : ∀ k : Nat, c ≤ k → k ≤ c' → jH (ja h' 72) k = jH (ja h' 72) c - ((k : Int) - c) := fun k h1 h2 => jH_down h1 (fun j h3 h4 => by
    have := q10 j h3 (by omega)
    unfold jdl
    rw [if_neg (by omega), if_neg (by omega)])
  refine ⟨q1, w', c', q4, ⟨q2, s2.tr (q3.sub (by decide)), q7, q8.trans hc'.symm, (jso q3 rfl).trans s5, hbw, by omega, s8, by omega, ?_, ?_, ?_, ?_, ?_, ?_, ?_⟩, fun j => g1 j, q5, q6⟩
  · rw [eA]; exact fun j hj => s10 j (by omega)
  · rw [eA]; exact fun j h1 h2 => s11 j h1 (by omega)
  · rw [eA]; exact s12
  · exact fun k hk => (q9 k (by omega)).trans (s13 k hk)
  · rw [eA]; omega
  · rw [eA, e6 c' (by omega) (Nat.le_refl _)]; omega
  · refine jgd_app (jgd_cg s16 (by omega) q9) (fun k h1 h2 => ?_)
    have h3 := q10 k h1 (by omega)
    have h4 := e6 k h1 (by omega)
    refine ⟨h3.1, by omega, ?_, fun h5 => by omega⟩
    have : jnd (jop (ja h' 72 k)) = 2 := by
      unfold jnd
      rw [if_neg (by omega), if_neg (by omega)]
    omega
def rsQ (P : si_P) (h0 : si_H) (b c0 f l : Nat) (a : Int) (t pl : Nat) (rv : Option Value) (h' : si_H) : Prop := az_HI P az_tb h' ∧ az_same_out jm_rf h0 h' ∧ (jbad h' rv ∨ (jV rv 1 ∧ ∃ c p : Nat, pl ≤ p ∧ jrs P h0 b c0 f l a t 1 h' b c p))
section ReadsSum
variable {P : si_P} {h0 : si_H} {b c0 f l t pl : Nat} {a : Int} {d : Nat}
/-- behind a call that may say no -/
theorem jbad_fr {h h' : si_H} {rv : Option Value} (hb : jbad h rv) {rv' : Option Value} (hv : jV rv' 0) (e : ja h' 60 19 = ja h 60 19) : jbad h' rv' := ⟨hv, by rw [e]; exact hb.2⟩
theorem readsSum_141 (hxa : P.2.1 < P.1) (hd : 6 ≤ d) (hl : l ≤ 240) (hf : f ≤ c0) (ha : 0 ≤ a) (hb : ∀ v : Nat, b = v + 1 → ¬ (2 ≤ jop (ja h0 73 v) ∧ jop (ja h0 73 v) ≤ 6)) {h : si_H} {w c p : Nat} {ls : si_L} {as : List Value} (hp0 : pl ≤ p) (s : jrs P h0 b c0 f l a t 1 h w c p) (k0 : jR P ls 0 60) (k1 : jI ls 1 b) (m0 : jR P (lv_args 0 as) 0 60) (m1 : jI (lv_args 0 as) 1 b) : az_X P (d + 1) 252 0 (lv_args 0 as) [] h (fun rv h1 => az_X P (d + 2) 253 144 ls rv.toList h1 (rsQ P h0 b c0 f l a t pl)) := by
  have s' := s
  obtain ⟨s1, s2, s3, s4, s5, s6, s7, s8, s9, s10, s11, s12, s13, s14, s15, s16⟩ := s
  refine (hasOpenSum_ok hxa (by omega) (b := b) (w := w) (by omega) s6 s1 m0 m1 s3 s10).mono ?_
  rintro rv h1 ⟨z1, z2, z3⟩
  have hkk := jm_no_ja z2
  have hs1 : az_same_out jm_rf h0 h1 := s2.tr (z2.sub (by decide))
  have t1 : jrs P h0 b c0 f l a t 1 h1 w c p := jrs_fr hf z1 (z2.sub (by decide)) (fun i k _ => hkk i k) s'
  rcases z3 with ⟨y1, y2⟩ | ⟨y1, y2⟩
  · apply sx_rs7 hxa (d := d + 1) (by omega) z1 (b := b) (p := p) (z := 0) (by omega) (by omega) (by omega) ((hkk _ _).trans s5) k0 k1 y1
    all_goals first
      | (intro τ h2 ls2 as2 e0 e1 e2 hH2 hs2 fr2 iv fs nn t0 n0 n1 n2 n3
         have t2 : jrs P h0 b c0 f l a t 1 h2 w c p := jrs_fr hf hH2 hs2 fr2 t1
         have hno : ∀ j : Nat, b ≤ j → j < w → jop (ja h2 73 j) ≠ 14 := fun j h3 h4 => by
           rw [fr2 73 j (by omega), hkk]; exact y2 j h3 h4
         have t2' := t2
         obtain ⟨u1, u2, u3, u4, u5, u6, u7, u8, u9, u10, u11, u12, u13, u14, u15, u16⟩ := t2
         refine (closesSums_ok hxa (by omega) (all := 1) (by omega) w c h2 _ u1 n2 n3 u3 u4 u10 (by omega) (by omega)).mono ?_
         intro rv3 h3 hq
         obtain ⟨x1, w', c', x2, x3, x4, x5, x6⟩ := jrs_close hf ha hb t2' hq
         subst x1
         have hwb : w' = b := by
           have hbw := x3.2.2.2.2.2.1
           rcases Nat.lt_or_ge b w' with h4 | h4
           · obtain ⟨v, hv⟩ : ∃ v, w' = v + 1 := ⟨w' - 1, by omega⟩
             have h5 := x6 v hv
             have h6 := u11 v (by omega) (by omega)
             have h7 := hno v (by omega) (by omega)
             have h8 := h5.2 rfl
             exfalso
             have h9 := h5.1
             omega
           · omega
         subst hwb
         apply sx_rs8 hxa (by omega) x3.1 n0
         intro τ4 h4 rv4 hH4 hs4 fr4 iv4 fs4 nn4 hv4
         exact ⟨hH4, x3.2.1.tr hs4, Or.inr ⟨hv4, c', p, hp0, jrs_fr hf hH4 hs4 fr4 x3⟩⟩)
      | (intro τ h2 rv2 e0 e1 e2 hH2 hs2 fr2 iv fs nn t0 t1 hv
         exfalso
         omega)
  · apply sx_rs7 hxa (d := d + 1) (by omega) z1 (b := b) (p := p) (z := 1) (by omega) (by omega) (by omega) ((hkk _ _).trans s5) k0 k1 y1
    all_goals first
      | (intro τ h2 ls2 as2 e0 e1 e2 hH2 hs2 fr2 iv fs nn t0 n0 n1 n2 n3
         exfalso
         omega)
      | (intro τ h2 rv2 e0 e1 e2 hH2 hs2 fr2 iv fs nn t0 t1 hv
         exact ⟨hH2, hs1.tr hs2, Or.inl ⟨hv, by rw [t0 19 rfl]; omega⟩⟩)
/-- before a factor, behind a sign -/
theorem readsSum_41 (hf : f ≤ c0) {h h' : si_H} {w c p : Nat} {s : Int} (hs2 : 2 ≤ s ∧ s ≤ 6) (x : jrs P h0 b c0 f l a t 1 h w c p) (hp : p < l) (hH' : az_HI P az_tb h') (hs : az_same_out jm_rf h h') (fr : ∀ (i : Nat) (k : Int), 0 ≤ k → (73 = i → k ≠ w) → (60 = i → k ≠ 23) → (60 = i → k ≠ 17) → ja h' i k = ja h i k) (tp : ja h' 60 17 = (p : Int) + 1) (tw : ja h' 60 23 = (w : Int) + 1) (ta : ja h' 73 w = 1048576 * s) : jrs P h0 b c0 f l a t 0 h' (w + 1) c (p + 1) := by
  obtain ⟨s1, s2, s3, s4, s5, s6, s7, s8, s9, s10, s11, s12, s13, s14, s15, s16⟩ := x
  have e3 : ∀ k : Nat, k < w → ja h' 73 k = ja h 73 k := fun k hk => fr 73 k (by omega) (by omega) (by omega) (by omega)
  have e4 : ∀ k : Nat, ja h' 72 k = ja h 72 k := fun k => fr 72 k (by omega) (by omega) (by omega) (by omega)
  have eo : jop (ja h' 73 w) = s := by rw [ta]; unfold jop; omega
  have e5 : jcn (ja h' 73) (w + 1) = jcn (ja h 73) w + 1 := by
    show jcn (ja h' 73) w + jk1 (jop (ja h' 73 w)) = _
    rw [eo, jcn_cg e3]
    unfold jk1
    rw [if_pos (Or.inl hs2)]
  refine ⟨hH', s2.tr hs, tw.trans (by omega), (fr _ _ (by omega) (by omega) (by omega) (by omega)).trans s4, tp.trans (by omega), by omega, by omega, by omega, s9, ?_, ?_, fun j hj => (e3 j (by omega)).trans (s12 j hj), fun k hk => by rw [e4]; exact s13 k hk, ?_, ?_, jgd_cg s16 (by omega) (fun j _ => e4 j)⟩
  · intro j hj
    rcases Nat.lt_or_ge j w with h1 | h1
    · rw [e3 j h1]; exact s10 j h1
    · rw [show j = w from by omega, ta]; omega
  · intro j h1 h2
    rcases Nat.lt_or_ge j w with h3 | h3
    · rw [e3 j h3]; exact s11 j h1 h3
    · rw [show j = w from by omega, eo]; exact Or.inl hs2
  · omega
  · rw [jH_cg (n := c) (fun j _ => by rw [e4 j]), jH_cg (n := f) (fun j _ => by rw [e4 j]), e5, jcn_cg (n := b) (fun j hj => e3 j (by omega))]; omega
/-- behind a closing bracket -/
theorem readsSum_106 (hf : f ≤ c0) {h h' : si_H} {w c p : Nat} (x : jrs P h0 b c0 f l a t 1 h (w + 1) c p) (hbw : b ≤ w) (ho : jop (ja h 73 w) = 14) (hp : p < l) (hH' : az_HI P az_tb h') (hs : az_same_out jm_rf h h') (fr : ∀ (i : Nat) (k : Int), 0 ≤ k → (60 = i → k ≠ 23) → (60 = i → k ≠ 21) → (60 = i → k ≠ 17) → ja h' i k = ja h i k) (tp : ja h' 60 17 = (p : Int) + 1) (tw : ja h' 60 23 = w) : jrs P h0 b c0 f l a t 1 h' w c (p + 1) := by
  obtain ⟨s1, s2, s3, s4, s5, s6, s7, s8, s9, s10, s11, s12, s13, s14, s15, s16⟩ := x
  have e3 : ∀ k : Nat, ja h' 73 k = ja h 73 k := fun k => fr 73 k (by omega) (by omega) (by omega) (by omega)
  have e4 : ∀ k : Nat, ja h' 72 k = ja h 72 k := fun k => fr 72 k (by omega) (by omega) (by omega) (by omega)
  have e5 : jcn (ja h 73) (w + 1) = jcn (ja h 73) w := by
    show jcn (ja h 73) w + jk1 (jop (ja h 73 w)) = _
    rw [ho, show jk1 14 = 0 from by decide, Int.add_zero]
  refine ⟨hH', s2.tr hs, tw, (fr _ _ (by omega) (by omega) (by omega) (by omega)).trans s4, tp.trans (by omega), hbw, by omega, by omega, s9, fun j hj => by rw [e3]; exact s10 j (by omega), fun j h1 h2 => by rw [e3]; exact s11 j h1 (by omega), fun j hj => (e3 j).trans (s12 j hj), fun k hk => by rw [e4]; exact s13 k hk, ?_, ?_, jgd_cg s16 (by omega) (fun j _ => e4 j)⟩
  · rw [jcn_cg (fun j _ => e3 j)]; omega
  · rw [jH_cg (n := c) (fun j _ => by rw [e4 j]), jH_cg (n := f) (fun j _ => by rw [e4 j]), jcn_cg (n := w) (fun j _ => e3 j), jcn_cg (n := b) (fun j _ => e3 j)]; omega
theorem readsSum_lp (hxa : P.2.1 < P.1) (hd : 6 ≤ d) (hl : l ≤ 240) (tl : ja h0 60 18 = l) (hf : f ≤ c0) (ha : 0 ≤ a) (hb : ∀ v : Nat, b = v + 1 → ¬ (2 ≤ jop (ja h0 73 v) ∧ jop (ja h0 73 v) ≤ 6)) : ∀ (n : Nat) (h : si_H) (w c p : Nat) (ls : si_L), l ≤ p + n → pl ≤ p → jrs P h0 b c0 f l a t 1 h w c p → jR P ls 0 60 → jI ls 1 b → az_X P (d + 2) 253 14 ls [] h (rsQ P h0 b c0 f l a t pl) := by
  intro n
  induction n with
  | zero =>
    intro h w c p ls hn hp0 s k0 k1
    have s' := s
    obtain ⟨s1, s2, s3, s4, s5, s6, s7, s8, s9, s10, s11, s12, s13, s14, s15, s16⟩ := s
    have tl' : ja h 60 18 = l := (jso s2 rfl).trans tl
    apply sx_rs2 hxa (d := d + 1) (by omega) s1 (b := b) (p := p) (l := l) (by omega) (by omega) (by omega) (by omega) s5 tl' k0 k1
    all_goals first
      | (intro τ h2 ls2 as2 e0 e1 e2 hH2 hs2 fr2 iv fs nn t0 t1 n0 n1 n2 n3 n4
         exact readsSum_141 hxa hd hl hf ha hb hp0 (jrs_fr hf hH2 hs2 fr2 s') n1 (n2.cg (by omega)) n3 (n4.cg (by omega)))
      | (intro τ h2 ls2 as2 e0 e1 e2 hH2 hs2 fr2 iv fs nn t0 t1 t2 n0 n1 n2 n3 n4
         exfalso
         omega)
  | succ n ih =>
    intro h w c p ls hn hp0 s k0 k1
    have s' := s
    obtain ⟨s1, s2, s3, s4, s5, s6, s7, s8, s9, s10, s11, s12, s13, s14, s15, s16⟩ := s
    have tl' : ja h 60 18 = l := (jso s2 rfl).trans tl
    have h38 : ∀ (h2 : si_H) (ls2 : si_L) (as2 : List Value) (s all : Int), 2 ≤ s ∧ s ≤ 6 → 0 ≤ all ∧ all ≤ 1 → p < l → jrs P h0 b c0 f l a t 1 h2 w c p → jR P ls2 0 60 → jI ls2 1 b → jI ls2 2 s → jR P (lv_args 0 as2) 0 60 → jI (lv_args 0 as2) 1 all → az_X P (d + 1) 250 0 (lv_args 0 as2) [] h2 (fun rv h1 => az_X P (d + 2) 253 41 ls2 rv.toList h1 (rsQ P h0 b c0 f l a t pl)) := by
      intro h2 ls2 as2 s all hs hall hpl x n0 n1 n2 n3 n4
      have x' := x
      obtain ⟨u1, u2, u3, u4, u5, u6, u7, u8, u9, u10, u11, u12, u13, u14, u15, u16⟩ := x
      refine (closesSums_ok hxa (by omega) hall w c h2 _ u1 n3 n4 u3 u4 u10 (by omega) (by omega)).mono ?_
      intro rv3 h3 hq
      obtain ⟨x1, w', c', x2, x3, -, -, -⟩ := jrs_close hf ha hb x' hq
      subst x1
      have x3' := x3
      obtain ⟨v1, v2, v3, v4, v5, v6, v7, v8, v9, v10, v11, v12, v13, v14, v15, v16⟩ := x3
      apply sx_rs3 hxa (d := d + 1) (by omega) v1 (b := b) (s := s) (p := p) (l := l) (w := w') (by omega) hs (by omega) (by omega) (by omega) (by omega) (by omega) v5 ((jso v2 rfl).trans tl) v3 n0 n1 n2
      intro τ h4 ls4 as4 e0 e1 e2 e3 e4 hH4 hs4 fr4 iv4 fs4 nn4 t0 t1 t2 t3 o0 o1 o2 o3
      have y := readsSum_41 hf hs x3' hpl hH4 hs4 (fun i k hk h5 h6 h7 => fr4 i k hk (fun e => ⟨by omega, by have := h5 e; omega⟩) (fun e => ⟨by omega, h6 e⟩) (fun e => ⟨by omega, h7 e⟩)) ((t0 17 rfl).trans (by omega)) ((t1 23 rfl).trans (by omega)) ((t2 w' (by omega)).trans (by omega))
      have y' := y
      obtain ⟨u1, u2, u3, u4, u5, u6, u7, u8, u9, u10, u11, u12, u13, u14, u15, u16⟩ := y
      refine (readsFactor_ok hxa hd hl u8 u1 o3 u3 u4 u5 ((jso u2 rfl).trans tl) u7 (by omega)).mono ?_
      intro rv5 h5 hq5
      obtain ⟨r1, r2, r3⟩ := jrs_factor hf ha y' hq5
      rcases r3 with r3 | ⟨r4, w6, p6, r6, r5⟩
      · apply sx_rs4 hxa (by omega) r1 (b := b) (z := 0) (by omega) (by omega) o0 (o1.cg (by omega)) r3.1
        · intro τ h6 ls6 e0 e1 hH6 hs6 fr6 iv6
          exfalso
          omega
        · intro τ h6 rv6 e0 e1 hH6 hs6 fr6 iv6 fs6 nn6 hv6
          exact ⟨hH6, r2.tr hs6, Or.inl (jbad_fr r3 hv6 (fr6 _ _ (by omega)))⟩
      · apply sx_rs4 hxa (by omega) r1 (b := b) (z := 1) (by omega) (by omega) o0 (o1.cg (by omega)) r4
        · intro τ h6 ls6 e0 e1 hH6 hs6 fr6 iv6 fs6 nn6 l0 l1
          exact ih h6 w6 (c' + 1) p6 ls6 (by omega) (by omega) (jrs_fr hf hH6 hs6 fr6 r5) l0 (l1.cg (by omega))
        · intro τ h6 rv6 e0 e1 hH6 hs6 fr6 iv6
          exfalso
          omega
    have h95 : ∀ (h2 : si_H) (ls2 : si_L) (as2 : List Value), p < l → jrs P h0 b c0 f l a t 1 h2 w c p → jR P ls2 0 60 → jI ls2 1 b → jR P (lv_args 0 as2) 0 60 → jI (lv_args 0 as2) 1 b → az_X P (d + 1) 252 0 (lv_args 0 as2) [] h2 (fun rv h1 => az_X P (d + 2) 253 98 ls2 rv.toList h1 (rsQ P h0 b c0 f l a t pl)) := by
      intro h2 ls2 as2 hpl x n0 n1 n3 n4
      have x' := x
      obtain ⟨u1, u2, u3, u4, u5, u6, u7, u8, u9, u10, u11, u12, u13, u14, u15, u16⟩ := x
      refine (hasOpenSum_ok hxa (by omega) (b := b) (w := w) (by omega) u6 u1 n3 n4 u3 u10).mono ?_
      rintro rv h1 ⟨z1, z2, z3⟩
      have hkk := jm_no_ja z2
      have t1 : jrs P h0 b c0 f l a t 1 h1 w c p := jrs_fr hf z1 (z2.sub (by decide)) (fun i k _ => hkk i k) x'
      rcases z3 with ⟨y1, y2⟩ | ⟨y1, jj, y2, y3, y4⟩
      · apply sx_rs5 hxa (d := d + 1) (by omega) z1 (b := b) (z := 0) (by omega) (by omega) n0 n1 y1
        · intro τ h3 ls3 as3 e0 e1 hH3 hs3 fr3 iv3 fs3 nn3 l0 l1 l2 l3
          exact readsSum_141 hxa hd hl hf ha hb hp0 (jrs_fr hf hH3 hs3 fr3 t1) l0 (l1.cg (by omega)) l2 (l3.cg (by omega))
        · intro τ h3 ls3 as3 e0 e1 hH3 hs3 fr3 iv3
          exfalso
          omega
      · apply sx_rs5 hxa (d := d + 1) (by omega) z1 (b := b) (z := 1) (by omega) (by omega) n0 n1 y1
        · intro τ h3 ls3 as3 e0 e1 hH3 hs3 fr3 iv3
          exfalso
          omega
        · intro τ h3 ls3 as3 e0 e1 hH3 hs3 fr3 iv3 fs3 nn3 l0 l1 l2 l3
          have t3 := jrs_fr hf hH3 hs3 fr3 t1
          have t3' := t3
          have y5 : jop (ja h3 73 jj) = 14 := by rw [fr3 73 jj (by omega), hkk]; exact y4
          obtain ⟨v1, v2, v3, v4, v5, v6, v7, v8, v9, v10, v11, v12, v13, v14, v15, v16⟩ := t3
          refine (closesSums_ok hxa (by omega) (all := 1) (by omega) w c h3 _ v1 l2 l3 v3 v4 v10 (by omega) (by omega)).mono ?_
          intro rv4 h4 hq
          obtain ⟨x1, w', c', x2, x3, x4, x5, x6⟩ := jrs_close hf ha hb t3' hq
          subst x1
          have hjw : jj < w' := by
            rcases Nat.lt_or_ge jj w' with h5 | h5
            · exact h5
            · have := x5 jj h5 y3
              omega
          obtain ⟨v, rfl⟩ : ∃ v, w' = v + 1 := ⟨w' - 1, by omega⟩
          have h14 : jop (ja h4 73 v) = 14 := by
            rw [x4]
            have h5 := x6 v rfl
            have h6 := v11 v (by omega) (by omega)
            have h7 := h5.2 rfl
            have h8 := h5.1
            omega
          have x3' := x3
          obtain ⟨u1, u2, u3, u4, u5, u6, u7, u8, u9, u10, u11, u12, u13, u14, u15, u16⟩ := x3
          apply sx_rs6 hxa (by omega) u1 (b := b) (p := p) (l := l) (w := (v + 1 : Nat)) (by omega) (by omega) (by omega) (by omega) (by omega) u5 ((jso u2 rfl).trans tl) u3 l0 (l1.cg (by omega))
          intro τ5 h5 ls5 e0 e1 e2 e3 hH5 hs5 fr5 iv5 fs5 nn5 t0 t1 t2 t3 m0 m1
          exact ih h5 v c' (p + 1) ls5 (by omega) (by omega) (readsSum_106 hf x3' (by omega) h14 hpl hH5 hs5 (fun i k hk h6 h7 h8 => fr5 i k hk (fun e => ⟨by omega, h6 e⟩) (fun e => ⟨by omega, h7 e⟩) (fun e => ⟨by omega, h8 e⟩)) ((t0 17 rfl).trans (by omega)) ((t2 23 rfl).trans (by omega))) m0 (m1.cg (by omega))
    apply sx_rs2 hxa (d := d + 1) (by omega) s1 (b := b) (p := p) (l := l) (by omega) (by omega) (by omega) (by omega) s5 tl' k0 k1
    all_goals first
      | (intro τ h2 ls2 as2 e0 e1 e2 hH2 hs2 fr2 iv fs nn t0 t1 n0 n1 n2 n3 n4
         exact readsSum_141 hxa hd hl hf ha hb hp0 (jrs_fr hf hH2 hs2 fr2 s') n1 (n2.cg (by omega)) n3 (n4.cg (by omega)))
      | (intro τ h2 ls2 as2 e0 e1 e2 hH2 hs2 fr2 iv fs nn t0 t1 t2 n0 n1 n2 n3 n4
         exact readsSum_141 hxa hd hl hf ha hb hp0 (jrs_fr hf hH2 hs2 fr2 s') n1 (n2.cg (by omega)) n3 (n4.cg (by omega)))
      | (intro τ h2 ls2 as2 e0 e1 e2 hH2 hs2 fr2 iv fs nn t0 t1 t2 n0 n1 n2 n3 n4
         exact h95 h2 ls2 as2 (by omega) (jrs_fr hf hH2 hs2 fr2 s') n1 (n2.cg (by omega)) n3 (n4.cg (by omega)))
      | (intro τ h2 ls2 as2 e0 e1 e2 hH2 hs2 fr2 iv fs nn t0 t1 t2 n0 n1 n2 n3 n4
         exact h38 h2 ls2 as2 _ _ (by omega) (by omega) (by omega) (jrs_fr hf hH2 hs2 fr2 s') n1 (n2.cg (by omega)) n0 n3 n4)
theorem readsSum_ok (hxa : P.2.1 < P.1) (hd : 6 ≤ d) (hl : l ≤ 240) (tl : ja h0 60 18 = l) (hf : f ≤ c0) (ha : 0 ≤ a) (hb : ∀ v : Nat, b = v + 1 → ¬ (2 ≤ jop (ja h0 73 v) ∧ jop (ja h0 73 v) ≤ 6)) {p : Nat} {ls : si_L} (hH : az_HI P az_tb h0) (tw : ja h0 60 23 = b) (tc : ja h0 60 22 = c0) (tp : ja h0 60 17 = p) (hbp : b ≤ p) (hpl : p ≤ l) (hA : ∀ j : Nat, j < b → 0 ≤ ja h0 73 j) (hcp : (c0 : Int) + jcn (ja h0 73) b + t ≤ p) (hh : jH (ja h0 72) c0 = jH (ja h0 72) f + a) (k0 : jR P ls 0 60) : az_X P (d + 2) 253 0 ls [] h0 (rsQ P h0 b c0 f l a t p) := by
  have s0 : jrs P h0 b c0 f l a t 0 h0 b c0 p := ⟨hH, az_same_out.rf, tw, tc, tp, Nat.le_refl _, hbp, hpl, Nat.le_refl _, hA, fun j h1 h2 => absurd h2 (by omega), fun _ _ => rfl, fun _ _ => rfl, hcp, by omega, fun k h1 h2 => absurd h2 (by omega)⟩
  apply sx_rs0 hxa (d := d + 1) (by omega) hH (w := b) (by omega) tw k0
  intro τ h2 ls2 as2 e0 hH2 hs2 fr2 iv fs nn t0 l1 l0 l2
  have y := jrs_fr hf hH2 hs2 fr2 s0
  have y' := y
  obtain ⟨u1, u2, u3, u4, u5, u6, u7, u8, u9, u10, u11, u12, u13, u14, u15, u16⟩ := y
  refine (readsFactor_ok hxa hd hl u8 u1 l2 u3 u4 u5 ((jso u2 rfl).trans tl) u7 (by omega)).mono ?_
  intro rv5 h5 hq5
  obtain ⟨r1, r2, r3⟩ := jrs_factor hf ha y' hq5
  rcases r3 with r3 | ⟨r4, w6, p6, r6, r5⟩
  · apply sx_rs1 hxa (by omega) r1 (b := b) (z := 0) (by omega) (by omega) l0 (l1.cg (by omega)) r3.1
    · intro τ h6 ls6 e0 e1 hH6 hs6 fr6 iv6
      exfalso
      omega
    · intro τ h6 rv6 e0 e1 hH6 hs6 fr6 iv6 fs6 nn6 hv6
      exact ⟨hH6, r2.tr hs6, Or.inl (jbad_fr r3 hv6 (fr6 _ _ (by omega)))⟩
  · apply sx_rs1 hxa (by omega) r1 (b := b) (z := 1) (by omega) (by omega) l0 (l1.cg (by omega)) r4
    · intro τ h6 ls6 e0 e1 hH6 hs6 fr6 iv6 fs6 nn6 m0 m1
      exact readsSum_lp hxa hd hl tl hf ha hb l h6 w6 (c0 + 1) p6 ls6 (by omega) r6 (jrs_fr hf hH6 hs6 fr6 r5) m0 (m1.cg (by omega))
    · intro τ h6 rv6 e0 e1 hH6 hs6 fr6 iv6
      exfalso
      omega
end ReadsSum
