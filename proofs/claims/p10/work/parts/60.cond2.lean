/-! BY HAND, 10: a condition, its walk -/
section ReadsCondition2
variable {P : si_P} {h0 : si_H} {f l p0 : Nat} {d : Nat}
theorem readsCondition_lp (hxa : P.2.1 < P.1) (hd : 6 ≤ d) (hl : l ≤ 240) (tl : ja h0 60 18 = l) : ∀ n : Nat, (∀ (h : si_H) (w c p : Nat) (ls : si_L), l ≤ p + n → p0 ≤ p → jco P h0 f l 1 h w c p → jR P ls 0 60 → az_X P (d + 4) 258 92 ls [] h (coQ P h0 f l p0)) ∧ (∀ (h : si_H) (w c p : Nat) (ls : si_L), l ≤ p + n → p0 ≤ p → jco P h0 f l 0 h w c p → jR P ls 0 60 → az_X P (d + 4) 258 40 ls [] h (coQ P h0 f l p0)) := by
  intro n
  -- from 40, once 92 is known for these, and 40 for further on
  have step : ∀ m : Nat, (∀ (h : si_H) (w c p : Nat) (ls : si_L), l ≤ p + m → p0 ≤ p → jco P h0 f l 1 h w c p → jR P ls 0 60 → az_X P (d + 4) 258 92 ls [] h (coQ P h0 f l p0)) → (∀ (h : si_H) (w c p : Nat) (ls : si_L), l + 1 ≤ p + m → p0 ≤ p → jco P h0 f l 0 h w c p → jR P ls 0 60 → az_X P (d + 4) 258 40 ls [] h (coQ P h0 f l p0)) → (∀ (h : si_H) (w c p : Nat) (ls : si_L), l ≤ p + m → p0 ≤ p → jco P h0 f l 0 h w c p → jR P ls 0 60 → az_X P (d + 4) 258 40 ls [] h (coQ P h0 f l p0)) := by
    intro m i92 i40 h w c p ls hm hp0 s k0
    have s' := s
    obtain ⟨s1, s2, s3, s4, s5, s6, s7, s8, s9, s10, s11, s12, s13, s14, s15⟩ := s
    have tl' : ja h 60 18 = l := (jso s2 rfl).trans tl
    have h84 : ∀ (h2 : si_H) (ls2 : si_L) (as2 : List Value), jco P h0 f l 0 h2 w c p → jR P ls2 0 60 → jR P (lv_args 0 as2) 0 60 → az_X P (d + 3) 257 0 (lv_args 0 as2) [] h2 (fun rv h1 => az_X P (d + 4) 258 87 ls2 rv.toList h1 (coQ P h0 f l p0)) := by
      intro h2 ls2 as2 x n0 n1
      refine (readsCompared_ok hxa hd hl tl x n1).mono ?_
      rintro rv3 h3 ⟨q1, q2, q3⟩
      rcases q3 with q3 | ⟨q4, w1, c1, p1, qp, q5⟩
      · apply sx_co2 hxa (by omega) q1 (z := 0) (by omega) n0 q3.1
        · intro τ h6 ls6 e0 hH6 hs6 fr6 iv6
          exfalso
          omega
        · intro τ h6 rv6 e0 hH6 hs6 fr6 iv6 fs6 nn6 hv6
          exact ⟨hH6, q2.tr hs6, Or.inl (jbad_fr q3 hv6 (fr6 _ _ (by omega)))⟩
      · apply sx_co2 hxa (by omega) q1 (z := 1) (by omega) n0 q4
        · intro τ h6 ls6 e0 hH6 hs6 fr6 iv6 fs6 nn6 m0
          exact i92 h6 w1 c1 p1 ls6 (by omega) (by omega) (jco_fr hH6 hs6 fr6 q5) m0
        · intro τ h6 rv6 e0 hH6 hs6 fr6 iv6
          exfalso
          omega
    apply sx_co1 hxa (d := d + 3) (by omega) s1 (p := p) (l := l) (w := w) (by omega) (by omega) (by omega) (by omega) (by omega) s5 tl' s3 k0
    all_goals first
      | (intro τ h2 ls2 as2 e0 e1 e2 hH2 hs2 fr2 iv2 fs2 nn2 t0 t1 t2 m0 m1
         exact h84 h2 ls2 as2 (jco_fr hH2 hs2 fr2 s') m0 m1)
      | (intro τ h2 ls2 as2 e0 e1 e2 hH2 hs2 fr2 iv2 fs2 nn2 t0 t1 t2 t3 m0 m1
         exact h84 h2 ls2 as2 (jco_fr hH2 hs2 fr2 s') m0 m1)
      | (intro τ h2 rv2 e0 e1 e2 hH2 hs2 fr2 iv2 fs2 nn2 t0 t1 t2 t3 t4 t5 hv2
         exact ⟨hH2, s2.tr hs2, Or.inl ⟨hv2, by rw [t0 19 rfl]; omega⟩⟩)
      | (intro τ h2 ls2 e0 e1 e2 hH2 hs2 fr2 iv2 fs2 nn2 t0 t1 t2 t3 t4 t5 m0
         refine i40 h2 (w + 1) c (p + 1) ls2 (by omega) (by omega) (jco_push (o := 10) s' (by omega) (Or.inl rfl) hH2 hs2 (fun i k hk h5 h6 h7 h8 => fr2 i k hk (fun e => ⟨by omega, h5 e⟩) (fun e => ⟨by omega, by have := h6 e; omega⟩) (fun e => ⟨by omega, h7 e⟩) (fun e => ⟨by omega, h8 e⟩)) ((t0 17 rfl).trans (by omega)) ((t1 23 rfl).trans (by omega)) ((t2 w (by omega)).trans (by omega))) m0)
      | (intro τ h2 ls2 e0 e1 e2 hH2 hs2 fr2 iv2 fs2 nn2 t0 t1 t2 t3 t4 t5 m0
         refine i40 h2 (w + 1) c (p + 1) ls2 (by omega) (by omega) (jco_push (o := 13) s' (by omega) (Or.inr rfl) hH2 hs2 (fun i k hk h5 h6 h7 h8 => fr2 i k hk (fun e => ⟨by omega, h5 e⟩) (fun e => ⟨by omega, by have := h6 e; omega⟩) (fun e => ⟨by omega, h7 e⟩) (fun e => ⟨by omega, h8 e⟩)) ((t0 17 rfl).trans (by omega)) ((t1 23 rfl).trans (by omega)) ((t2 w (by omega)).trans (by omega))) m0)
  -- landing, wherever it is called
  have hland : ∀ (h2 : si_H) (w c p : Nat) (as2 : List Value) (all : Int), 0 ≤ all ∧ all ≤ 1 → jco P h0 f l 1 h2 w c p → jR P (lv_args 0 as2) 0 60 → jI (lv_args 0 as2) 1 all → az_X P (d + 3) 255 0 (lv_args 0 as2) [] h2 (laQ P all w c h2) := by
    intro h2 w c p as2 all hall x n0 n1
    obtain ⟨s1, s2, s3, s4, s5, s6, s7, s8, s9, s10, s11, s12, s13, s14, s15⟩ := x
    have hcn := jcn_nn (ja h2 73) w
    refine lands_ok hxa (by omega) hall (c := c) (by omega) w h2 _ s1 n0 n1 s3 s4 (fun j hj => (s10 j hj).1) (by omega) (fun j hj hi => ?_)
    obtain ⟨k, k1, k2, k3, k4⟩ := s11 j hj hi
    refine ⟨by omega, fun k' hk' => ?_⟩
    rw [show k' = k from by omega]
    exact (s15 k k2 k3).1
  induction n with
  | zero =>
    have z92 : ∀ (h : si_H) (w c p : Nat) (ls : si_L), l ≤ p + 0 → p0 ≤ p → jco P h0 f l 1 h w c p → jR P ls 0 60 → az_X P (d + 4) 258 92 ls [] h (coQ P h0 f l p0) := by
      intro h w c p ls hm hp0 s k0
      obtain ⟨s1, s2, s3, s4, s5, s6, s7, s8, s9, s10, s11, s12, s13, s14, s15⟩ := s
      have tl' : ja h 60 18 = l := (jso s2 rfl).trans tl
      apply sx_co3 hxa (d := d + 3) (by omega) s1 (p := p) (l := l) (by omega) (by omega) (by omega) s5 tl' k0
      all_goals first
        | (intro τ h2 rv2 e0 e1 hH2 hs2 fr2 iv2 fs2 nn2 t0 t1 t2 hv2
           exact ⟨hH2, s2.tr hs2, Or.inl ⟨hv2, by rw [t0 19 rfl]; omega⟩⟩)
        | (intro τ h2 rv2 e0 e1 hH2 hs2 fr2 iv2 fs2 nn2 t0 t1 t2 t3 hv2
           exact ⟨hH2, s2.tr hs2, Or.inl ⟨hv2, by rw [t0 19 rfl]; omega⟩⟩)
        | (intro τ h2 ls2 as2 e0 e1 hH2 hs2 fr2 iv2 fs2 nn2 t0 t1 t2 m0 m1 m2
           exfalso
           omega)
    exact ⟨z92, step 0 z92 (fun h w c p ls hm hp0 s k0 => by have := s.2.2.2.2.2.2.1; omega)⟩
  | succ n ih =>
    obtain ⟨i92, i40⟩ := ih
    have z92 : ∀ (h : si_H) (w c p : Nat) (ls : si_L), l ≤ p + (n + 1) → p0 ≤ p → jco P h0 f l 1 h w c p → jR P ls 0 60 → az_X P (d + 4) 258 92 ls [] h (coQ P h0 f l p0) := by
      intro h w c p ls hm hp0 s k0
      have s' := s
      obtain ⟨s1, s2, s3, s4, s5, s6, s7, s8, s9, s10, s11, s12, s13, s14, s15⟩ := s
      have tl' : ja h 60 18 = l := (jso s2 rfl).trans tl
      have h195 : ∀ (h2 : si_H) (ls2 : si_L) (as2 : List Value) (all : Int), 0 ≤ all ∧ all ≤ 1 → p < l → jco P h0 f l 1 h2 w c p → jR P ls2 0 60 → jR P (lv_args 0 as2) 0 60 → jI (lv_args 0 as2) 1 all → az_X P (d + 3) 255 0 (lv_args 0 as2) [] h2 (fun rv h1 => az_X P (d + 4) 258 198 ls2 rv.toList h1 (coQ P h0 f l p0)) := by
        intro h2 ls2 as2 all hall hpl x n0 n1 n2
        refine (hland h2 w c p as2 all hall x n1 n2).mono ?_
        intro rv3 h3 hq
        obtain ⟨x1, w', y, -⟩ := jco_land x hq
        subst x1
        have y' := y
        obtain ⟨u1, u2, u3, u4, u5, u6, u7, u8, u9, u10, u11, u12, u13, u14, u15⟩ := y
        have hcn := jcn_nn (ja h3 73) w'
        apply sx_co6 hxa (by omega) u1 (p := p) (l := l) (w := w') (c := c) (by omega) (by omega) (by omega) (by omega) (by omega) (by omega) (by omega) u5 ((jso u2 rfl).trans tl) u3 u4 n0
        · intro τ h4 ls4 e0 e1 e2 e3 hH4 hs4 fr4 iv4 fs4 nn4 t0 t1 t2 t3 t4 t5 t6 m0
          exact i40 h4 (w' + 1) (c + 1) (p + 1) ls4 (by omega) (by omega) (jco_jump (o := 12) y' hpl (Or.inr rfl) hH4 hs4 (fun i k hk h5 h6 h7 h8 h9 => fr4 i k hk (fun e => ⟨by omega, by have := h5 e; omega⟩) (fun e => ⟨by omega, h6 e⟩) (fun e => ⟨by omega, by have := h7 e; omega⟩) (fun e => ⟨by omega, h8 e⟩) (fun e => ⟨by omega, h9 e⟩)) ((t0 17 rfl).trans (by omega)) ((t1 22 rfl).trans (by omega)) ((t2 c (by omega)).trans (by omega)) ((t3 23 rfl).trans (by omega)) ((t4 w' (by omega)).trans (by omega)) hl) m0
        · intro τ h4 ls4 e0 e1 e2 e3 hH4 hs4 fr4 iv4 fs4 nn4 t0 t1 t2 t3 t4 t5 t6 m0
          exact i40 h4 (w' + 1) (c + 1) (p + 1) ls4 (by omega) (by omega) (jco_jump (o := 11) y' hpl (Or.inl rfl) hH4 hs4 (fun i k hk h5 h6 h7 h8 h9 => fr4 i k hk (fun e => ⟨by omega, by have := h5 e; omega⟩) (fun e => ⟨by omega, h6 e⟩) (fun e => ⟨by omega, by have := h7 e; omega⟩) (fun e => ⟨by omega, h8 e⟩) (fun e => ⟨by omega, h9 e⟩)) ((t0 17 rfl).trans (by omega)) ((t1 22 rfl).trans (by omega)) ((t2 c (by omega)).trans (by omega)) ((t3 23 rfl).trans (by omega)) ((t4 w' (by omega)).trans (by omega)) hl) m0
      have h103 : ∀ (h2 : si_H) (ls2 : si_L) (as2 : List Value), p < l → jco P h0 f l 1 h2 w c p → jR P ls2 0 60 → jR P (lv_args 0 as2) 0 60 → jI (lv_args 0 as2) 1 1 → az_X P (d + 3) 255 0 (lv_args 0 as2) [] h2 (fun rv h1 => az_X P (d + 4) 258 106 ls2 rv.toList h1 (coQ P h0 f l p0)) := by
        intro h2 ls2 as2 hpl x n0 n1 n2
        refine (hland h2 w c p as2 1 (by omega) x n1 n2).mono ?_
        intro rv3 h3 hq
        obtain ⟨x1, w', y, hno⟩ := jco_land x hq
        subst x1
        have y' := y
        obtain ⟨u1, u2, u3, u4, u5, u6, u7, u8, u9, u10, u11, u12, u13, u14, u15⟩ := y
        obtain ⟨v, rfl⟩ : ∃ v, w' = v + 1 := ⟨w' - 1, by omega⟩
        have hnj : ¬ jif (jop (ja h3 73 v)) := fun hi => by
          have := hno v rfl
          rcases hi with hi | hi
          · exact this.1 hi
          · exact this.2 rfl hi
        apply sx_co4 hxa (d := d + 3) (by omega) u1 (p := p) (l := l) (w := (v + 1 : Nat)) (by omega) (by omega) (by omega) (by omega) u5 ((jso u2 rfl).trans tl) u3 n0
        · intro τ h4 ls4 as4 e0 e1 e2 hH4 hs4 fr4 iv4 fs4 nn4 t0 t1 t2 t3 m0 m1
          have z := jco_pop y' hpl (by omega) hnj hH4 hs4 (fun i k hk h6 h7 h8 => fr4 i k hk (fun e => ⟨by omega, h6 e⟩) (fun e => ⟨by omega, h7 e⟩) (fun e => ⟨by omega, h8 e⟩)) ((t0 17 rfl).trans (by omega)) ((t2 23 rfl).trans (by omega))
          have z' := z
          obtain ⟨v1, v2, v3, v4, v5, v6, v7, v8, v9, v10, v11, v12, v13, v14, v15⟩ := z
          refine (endsPiece_ok hxa (by omega) v c h4 _ v1 m1 v3 v4 (fun j hj => (v10 j hj).1) (by omega) (by omega)).mono ?_
          intro rv5 h5 hq5
          obtain ⟨y1, w6, c6, y2⟩ := jco_piece z' hq5
          subst y1
          apply sx_co5 hxa (by omega) y2.1 m0
          intro τ6 h6 ls6 hH6 hs6 fr6 iv6 fs6 nn6 o0
          exact i92 h6 w6 c6 (p + 1) ls6 (by omega) (by omega) (jco_fr hH6 hs6 fr6 y2) o0
        · intro τ h4 rv4 e0 e1 e2 hH4 hs4 fr4 iv4 fs4 nn4 t0 t1 t2 t3 hv4
          have hv0 : v = 0 := by omega
          subst hv0
          have hcn := jcn_nn (ja h3 73) (0 + 1)
          have e4 : ∀ k : Nat, ja h4 72 k = ja h3 72 k := fun k => fr4 72 k (by omega) (by omega) (by omega) (by omega)
          refine ⟨hH4, u2.tr hs4, Or.inr ⟨hv4, c, p + 1, by omega, by omega, u8, by omega, (fr4 60 22 (by omega) (by omega) (by omega) (by omega)).trans u4, (t0 17 rfl).trans (by omega), fun k hk => by rw [e4]; exact u12 k hk, jsg_cg (jco_sg y') u8 (fun j _ => e4 j)⟩⟩
      apply sx_co3 hxa (d := d + 3) (by omega) s1 (p := p) (l := l) (by omega) (by omega) (by omega) s5 tl' k0
      all_goals first
        | (intro τ h2 rv2 e0 e1 hH2 hs2 fr2 iv2 fs2 nn2 t0 t1 t2 hv2
           exact ⟨hH2, s2.tr hs2, Or.inl ⟨hv2, by rw [t0 19 rfl]; omega⟩⟩)
        | (intro τ h2 rv2 e0 e1 hH2 hs2 fr2 iv2 fs2 nn2 t0 t1 t2 t3 hv2
           exact ⟨hH2, s2.tr hs2, Or.inl ⟨hv2, by rw [t0 19 rfl]; omega⟩⟩)
        | (intro τ h2 ls2 as2 e0 e1 hH2 hs2 fr2 iv2 fs2 nn2 t0 t1 t2 m0 m1 m2
           exact h195 h2 ls2 as2 _ (by omega) (by omega) (jco_fr hH2 hs2 fr2 s') m0 m1 m2)
        | (intro τ h2 ls2 as2 e0 e1 hH2 hs2 fr2 iv2 fs2 nn2 t0 t1 t2 m0 m1 m2
           exact h103 h2 ls2 as2 (by omega) (jco_fr hH2 hs2 fr2 s') m0 m1 m2)
    exact ⟨z92, step (n + 1) z92 (fun h w c p ls hm hp0 s k0 => i40 h w c p ls (by omega) hp0 s k0)⟩
theorem readsCondition_ok (hxa : P.2.1 < P.1) (hd : 6 ≤ d) (hl : l ≤ 240) (hH : az_HI P az_tb h0) (tl : ja h0 60 18 = l) (tc : ja h0 60 22 = f) {p : Nat} (tp : ja h0 60 17 = p) (hfp : f ≤ p) (hpl : p ≤ l) {ls : si_L} (k0 : jR P ls 0 60) : az_X P (d + 4) 258 0 ls [] h0 (coQ P h0 f l p) := by
  apply sx_co0 hxa (by omega) hH (p := p) (l := l) (by omega) (by omega) (by omega) tp tl k0
  all_goals first
    | (intro τ h2 rv2 e0 e1 hH2 hs2 fr2 iv2 fs2 nn2 t0 t1 t2 hv2
       exact ⟨hH2, hs2, Or.inl ⟨hv2, by rw [t0 19 rfl]; omega⟩⟩)
    | (intro τ h2 rv2 e0 e1 hH2 hs2 fr2 iv2 fs2 nn2 t0 t1 t2 t3 hv2
       exact ⟨hH2, hs2, Or.inl ⟨hv2, by rw [t0 19 rfl]; omega⟩⟩)
    | (intro τ h2 ls2 e0 e1 hH2 hs2 fr2 iv2 fs2 nn2 t0 t1 t2 t3 t4 t5 m0
       have e4 : ∀ k : Nat, ja h2 72 k = ja h0 72 k := fun k => fr2 72 k (by omega) (by omega) (by omega) (by omega) (by omega) (by omega) (by omega)
       have ta : ja h2 73 (0 : Nat) = 13631488 := t2 0 rfl
       have to : jop (ja h2 73 (0 : Nat)) = 13 := by rw [ta]; rfl
       refine (readsCondition_lp hxa hd hl tl l).2 h2 1 f (p + 1) ls2 (by omega) (by omega) ⟨hH2, hs2, (t1 23 rfl).trans (by omega), (fr2 60 22 (by omega) (by omega) (by omega) (by omega) (by omega) (by omega) (by omega)).trans tc, (t0 17 rfl).trans (by omega), by omega, by omega, Nat.le_refl _, ⟨Nat.le_refl _, to⟩, ?_, ?_, fun k _ => e4 k, ?_, by omega, fun k h1 h2 => absurd h2 (by omega)⟩ m0
       · intro j hj
         rw [show j = 0 from by omega, to, ta]; omega
       · intro j hj hi
         rw [show j = 0 from by omega, to] at hi
         rcases hi with hi | hi <;> omega
       · have : jcn (ja h2 73) 1 = 0 := by
           show 0 + jk1 (jop (ja h2 73 (0 : Nat))) = 0
           rw [to]; rfl
         omega)
end ReadsCondition2
