/-! BY HAND, 8: a comparison within a condition -/
def jif (o : Int) : Prop := o = 11 ∨ o = 12
/-- codes of a condition that is being read: a jump has landed, or waits -/
def jcd (S A : Int → Int) (f c w : Nat) : Prop := ∀ k : Nat, f ≤ k → k < c → 0 ≤ S k ∧ jop (S k) ≤ 12 ∧ jnd (jop (S k)) ≤ jH S k - jH S f ∧ (jop (S k) = 1 → jar (S k) ≤ 7) ∧ (jif (jop (S k)) → jH S k = jH S f + 1 ∧ ((∃ v : Nat, jar (S k) = v ∧ k < v ∧ v ≤ c ∧ jH S v = jH S f + 1) ∨ ∃ j : Nat, j < w ∧ jif (jop (A j)) ∧ jar (A j) = k))
def jco (P : si_P) (h0 : si_H) (f l : Nat) (x : Int) (h : si_H) (w c p : Nat) : Prop := az_HI P az_tb h ∧ az_same_out jm_rf h0 h ∧ ja h 60 23 = w ∧ ja h 60 22 = c ∧ ja h 60 17 = p ∧ w ≤ p ∧ p ≤ l ∧ f ≤ c ∧ (1 ≤ w ∧ jop (ja h 73 (0 : Nat)) = 13) ∧ (∀ j : Nat, j < w → 0 ≤ ja h 73 j ∧ 10 ≤ jop (ja h 73 j) ∧ jop (ja h 73 j) ≤ 13) ∧ (∀ j : Nat, j < w → jif (jop (ja h 73 j)) → ∃ k : Nat, jar (ja h 73 j) = k ∧ f ≤ k ∧ k < c ∧ jif (jop (ja h 72 k))) ∧ (∀ k : Nat, k < f → ja h 72 k = ja h0 72 k) ∧ (c : Int) + jcn (ja h 73) w ≤ p ∧ jH (ja h 72) c = jH (ja h 72) f + x ∧ jcd (ja h 72) (ja h 73) f c w
/-- codes are put behind, entries are taken away that are no jumps -/
theorem jcd_app {S A T B : Int → Int} {f c c' w w' : Nat} (h : jcd S A f c w) (hfc : f ≤ c) (hc : c ≤ c') (e : ∀ k : Nat, k < c → T k = S k) (hw : w' ≤ w) (eA : ∀ j : Nat, j < w' → B j = A j) (hn : ∀ j : Nat, w' ≤ j → j < w → ¬ jif (jop (A j))) (hg : jgd T f c c') : jcd T B f c' w' := by
  intro k h1 h2
  rcases Nat.lt_or_ge k c with h3 | h3
  · have eH : ∀ n : Nat, n ≤ c → jH T n = jH S n := fun n hn => jH_cg (fun j hj => by rw [e j (by omega)])
    obtain ⟨p1, p2, p3, p4, p5⟩ := h k h1 h3
    rw [e k h3, eH k (by omega), eH f hfc]
    refine ⟨p1, p2, p3, p4, fun hi => ?_⟩
    obtain ⟨r1, r2⟩ := p5 hi
    refine ⟨r1, ?_⟩
    rcases r2 with ⟨v, v1, v2, v3, v4⟩ | ⟨j, j1, j2, j3⟩
    · exact Or.inl ⟨v, v1, v2, by omega, by rw [eH v v3]; exact v4⟩
    · rcases Nat.lt_or_ge j w' with h4 | h4
      · exact Or.inr ⟨j, h4, by rw [eA j h4]; exact j2, by rw [eA j h4]; exact j3⟩
      · exact absurd j2 (hn j h4 j1)
  · obtain ⟨p1, p2, p3, p4⟩ := hg k h3 h2
    exact ⟨p1, by omega, p3, p4, fun hi => by rcases hi with hi | hi <;> omega⟩
theorem jco_fr {P : si_P} {h0 h h' : si_H} {f l w c p : Nat} {x : Int} (hH' : az_HI P az_tb h') (hs : az_same_out jm_rf h h') (fr : ∀ (i : Nat) (k : Int), 0 ≤ k → ja h' i k = ja h i k) (s : jco P h0 f l x h w c p) : jco P h0 f l x h' w c p := by
  obtain ⟨s1, s2, s3, s4, s5, s6, s7, s8, s9, s10, s11, s12, s13, s14, s15⟩ := s
  have e3 : ∀ k : Nat, ja h' 73 k = ja h 73 k := fun k => fr 73 k (by omega)
  have e4 : ∀ k : Nat, ja h' 72 k = ja h 72 k := fun k => fr 72 k (by omega)
  refine ⟨hH', s2.tr hs, (fr _ _ (by omega)).trans s3, (fr _ _ (by omega)).trans s4, (fr _ _ (by omega)).trans s5, s6, s7, s8, ⟨s9.1, by rw [e3]; exact s9.2⟩, fun j hj => by rw [e3]; exact s10 j hj, fun j hj hi => ?_, fun k hk => by rw [e4]; exact s12 k hk, ?_, ?_, ?_⟩
  · rw [e3] at hi ⊢
    obtain ⟨k, k1, k2, k3, k4⟩ := s11 j hj hi
    exact ⟨k, k1, k2, k3, by rw [e4]; exact k4⟩
  · rw [jcn_cg (fun j _ => e3 j)]; exact s13
  · rw [jH_cg (n := c) (fun j _ => by rw [e4 j]), jH_cg (n := f) (fun j _ => by rw [e4 j])]; exact s14
  · exact jcd_app s15 s8 (Nat.le_refl _) (fun k _ => e4 k) (Nat.le_refl _) (fun j _ => e3 j) (fun j h1 h2 => absurd h2 (by omega)) (fun k h1 h2 => absurd h2 (by omega))
def rcQ (P : si_P) (h0 : si_H) (f l p : Nat) (rv : Option Value) (h' : si_H) : Prop := az_HI P az_tb h' ∧ az_same_out jm_rf h0 h' ∧ (jbad h' rv ∨ (jV rv 1 ∧ ∃ w' c' p' : Nat, p ≤ p' ∧ jco P h0 f l 1 h' w' c' p'))
section ReadsCompared
variable {P : si_P} {h0 : si_H} {f l : Nat} {d : Nat}
/-- the sum's end put into the condition -/
theorem jrs_H {h0 h : si_H} {b c0 f l t c p : Nat} {a : Int} (s : jrs P h0 b c0 f l a t 1 h b c p) : jH (ja h 72) c = jH (ja h 72) f + a + 1 := by
  have := s.2.2.2.2.2.2.2.2.2.2.2.2.2.2.1
  omega
theorem readsCompared_ok (hxa : P.2.1 < P.1) (hd : 6 ≤ d) (hl : l ≤ 240) (tl : ja h0 60 18 = l) {h : si_H} {w c p : Nat} {ls : si_L} (s : jco P h0 f l 0 h w c p) (k0 : jR P ls 0 60) : az_X P (d + 3) 257 0 ls [] h (rcQ P h0 f l p) := by
  apply sx_rc0 hxa (d := d + 2) (by omega) s.1 k0
  intro τ h2 ls2 as2 hH2 hs2 fr2 iv fs nn l0 m0
  have s := jco_fr hH2 hs2 fr2 s
  have s' := s
  obtain ⟨s1, s2, s3, s4, s5, s6, s7, s8, s9, s10, s11, s12, s13, s14, s15⟩ := s
  have hnb : ∀ v : Nat, w = v + 1 → ¬ (2 ≤ jop (ja h2 73 v) ∧ jop (ja h2 73 v) ≤ 6) := fun v hv => by
    have := s10 v (by omega)
    omega
  refine (readsSum_ok hxa hd hl ((jso s2 rfl).trans tl) (b := w) (c0 := c) (f := f) (t := 0) (a := 0) s8 (by omega) hnb s1 s3 s4 s5 s6 s7 (fun j hj => (s10 j hj).1) (by omega) (by omega) m0).mono ?_
  rintro rv3 h3 ⟨q1, q2, q3⟩
  rcases q3 with q3 | ⟨q4, c1, p1, qp, q5⟩
  · apply sx_rc1 hxa (by omega) q1 (z := 0) (by omega) l0 q3.1
    · intro τ h6 ls6 e0 hH6 hs6 fr6 iv6
      exfalso
      omega
    · intro τ h6 rv6 e0 hH6 hs6 fr6 iv6 fs6 nn6 hv6
      exact ⟨hH6, s2.tr (q2.tr hs6), Or.inl (jbad_fr q3 hv6 (fr6 _ _ (by omega)))⟩
  · apply sx_rc1 hxa (by omega) q1 (z := 1) (by omega) l0 q4
    · intro τ4 h4 ls4 e0 hH4 hs4 fr4 iv4 fs4 nn4 m0
      have r := jrs_fr s8 hH4 hs4 fr4 q5
      have r' := r
      have rH := jrs_H r
      obtain ⟨r1, r2, r3, r4, r5, r6, r7, r8, r9, r10, r11, r12, r13, r14, r15, r16⟩ := r
      have tl4 : ja h4 60 18 = l := (jso r2 rfl).trans ((jso s2 rfl).trans tl)
      have h79 : ∀ (h5 : si_H) (ls5 : si_L) (as5 : List Value) (o : Int), 7 ≤ o ∧ o ≤ 9 → p1 < l → az_HI P az_tb h5 → az_same_out jm_rf h4 h5 → (∀ (i : Nat) (k : Int), 0 ≤ k → (60 = i → k ≠ 17) → ja h5 i k = ja h4 i k) → ja h5 60 17 = (p1 : Int) + 1 → jR P ls5 0 60 → jI ls5 1 o → jR P (lv_args 0 as5) 0 60 → az_X P (d + 2) 253 0 (lv_args 0 as5) [] h5 (fun rv h1 => az_X P (d + 3) 257 82 ls5 rv.toList h1 (rcQ P h0 f l p)) := by
        intro h5 ls5 as5 o ho hp1 hH5 hs5 fr5 tp5 n0 n1 n2
        have e3 : ∀ k : Nat, ja h5 73 k = ja h4 73 k := fun k => fr5 73 k (by omega) (by omega)
        have e4 : ∀ k : Nat, ja h5 72 k = ja h4 72 k := fun k => fr5 72 k (by omega) (by omega)
        have eH : ∀ n : Nat, jH (ja h5 72) n = jH (ja h4 72) n := fun n => jH_cg (fun j _ => by rw [e4 j])
        have so5 : az_same_out jm_rf h0 h5 := s2.tr (r2.tr hs5)
        refine (readsSum_ok hxa hd hl ((jso so5 rfl).trans tl) (b := w) (c0 := c1) (f := f) (t := 1) (a := 1) (by omega) (by omega) (fun v hv => by rw [e3, r12 v (by omega)]; exact hnb v hv) hH5 ((fr5 _ _ (by omega) (by omega)).trans r3) ((fr5 _ _ (by omega) (by omega)).trans r4) (tp5.trans (by omega : (p1 : Int) + 1 = (p1 + 1 : Nat))) (by omega) (by omega) (fun j hj => by rw [e3]; exact r10 j hj) (by rw [jcn_cg (fun j _ => e3 j)]; omega) (by rw [eH, eH]; omega) n2).mono ?_
        rintro rv6 h6 ⟨x1, x2, x3⟩
        rcases x3 with x3 | ⟨x4, c2, p2, xp, x5⟩
        · apply sx_rc3 hxa (by omega) x1 (o := o) (z := 0) ho (by omega) n0 n1 x3.1
          · intro τ h7 ls7 e0 e1 hH7 hs7 fr7 iv7
            exfalso
            omega
          · intro τ h7 rv7 e0 e1 hH7 hs7 fr7 iv7 fs7 nn7 hv7
            exact ⟨hH7, so5.tr (x2.tr hs7), Or.inl (jbad_fr x3 hv7 (fr7 _ _ (by omega)))⟩
        · apply sx_rc3 hxa (by omega) x1 (o := o) (z := 1) ho (by omega) n0 n1 x4
          · intro τ7 h7 ls7 e0 e1 hH7 hs7 fr7 iv7 fs7 nn7 o0 o1
            have y := jrs_fr (by omega) hH7 hs7 fr7 x5
            have yH := jrs_H y
            obtain ⟨y1, y2, y3, y4, y5, y6, y7, y8, y9, y10, y11, y12, y13, y14, y15, y16⟩ := y
            have hcn := jcn_nn (ja h7 73) w
            apply sx_rc4 hxa (d := d + 2) (by omega) y1 (o := o) (c := c2) ho (by omega) y4 o0 (o1.cg (by omega))
            intro τ8 h8 ls8 as8 e0 e1 hH8 hs8 fr8 iv8 fs8 nn8 t0 t1 u0 u1 u2
            have tc8 : ja h8 60 22 = (c2 + 1 : Nat) := (t0 22 rfl).trans (by omega)
            have ts8 : ja h8 72 c2 = 1048576 * o := (t1 c2 (by omega)).trans (by omega)
            have f3 : ∀ k : Nat, ja h8 73 k = ja h7 73 k := fun k => fr8 73 k (by omega) (by omega) (by omega)
            have f4 : ∀ k : Nat, k < c2 → ja h8 72 k = ja h7 72 k := fun k hk => fr8 72 k (by omega) (by omega) (by omega)
            have so8 : az_same_out jm_rf h0 h8 := so5.tr (y2.tr hs8)
            refine (endsPiece_ok hxa (by omega) w (c2 + 1) h8 _ hH8 u2 ((fr8 60 23 (by omega) (by omega) (by omega)).trans y3) tc8 (fun j hj => by rw [f3]; exact y10 j hj) (by omega) (by rw [jcn_cg (fun j _ => f3 j)]; omega)).mono ?_
            rintro rv9 h9 ⟨z1, z2, z3, w', z4, z5, z6, z7, z8, z9, z10⟩
            subst z1
            apply sx_rc5 hxa (by omega) z2 u0
            intro τa ha rva hHa hsa fra iva fsa nna hva
            obtain ⟨c3, hc3⟩ : ∃ c3 : Nat, (c3 : Int) = (c2 + 1 : Nat) + w - w' := ⟨c2 + 1 + w - w', by omega⟩
            have soa : az_same_out jm_rf h0 ha := so8.tr ((z3.sub (by decide)).tr hsa)
            -- entries
            have gA : ∀ j : Nat, j < w → ja ha 73 j = ja h2 73 j := fun j hj => (fra 73 j (by omega)).trans ((jso_row z3 (by decide) j).trans ((f3 j).trans ((y12 j hj).trans ((e3 j).trans (r12 j hj)))))
            have gA8 : ∀ j : Nat, j < w → ja h8 73 j = ja h2 73 j := fun j hj => (f3 j).trans ((y12 j hj).trans ((e3 j).trans (r12 j hj)))
            -- codes
            have gS8 : ∀ k : Nat, k < c2 + 1 → ja ha 72 k = ja h8 72 k := fun k hk => (fra 72 k (by omega)).trans (z9 k hk)
            have gS7 : ∀ k : Nat, k < c2 → ja ha 72 k = ja h7 72 k := fun k hk => (gS8 k (by omega)).trans (f4 k hk)
            have gS4 : ∀ k : Nat, k < c1 → ja ha 72 k = ja h4 72 k := fun k hk => (gS7 k (by omega)).trans ((y13 k hk).trans (e4 k))
            have gS2 : ∀ k : Nat, k < c → ja ha 72 k = ja h2 72 k := fun k hk => (gS4 k (by omega)).trans (r13 k hk)
            have hw0 : 1 ≤ w' := by
              rcases Nat.eq_zero_or_pos w' with h1 | h1
              · have := z5 0 (by omega) (by omega)
                rw [gA8 0 (by omega), s9.2] at this
                omega
              · exact h1
            have hop : jop (ja ha 72 c2) = o := by rw [gS8 c2 (by omega), ts8]; unfold jop; omega
            have eHa7 : ∀ n : Nat, n ≤ c2 → jH (ja ha 72) n = jH (ja h7 72) n := fun n hn => jH_cg (fun j hj => by rw [gS7 j (by omega)])
            have eHc : jH (ja ha 72) c2 = jH (ja ha 72) f + 2 := by rw [eHa7 c2 (Nat.le_refl _), eHa7 f (by omega), yH]; omega
            have eHc1 : jH (ja ha 72) (c2 + 1) = jH (ja ha 72) f + 1 := by
              show jH (ja ha 72) c2 + jdl (jop (ja ha 72 c2)) = _
              rw [hop, eHc]
              unfold jdl
              rw [if_neg (by omega), if_neg (by omega)]
              omega
            have hten : ∀ k : Nat, c2 + 1 ≤ k → k < c3 → 0 ≤ ja ha 72 k ∧ jop (ja ha 72 k) = 10 := fun k h1 h2 => by
              rw [fra 72 k (by omega)]
              exact z10 k h1 (by omega)
            have eHk : ∀ k : Nat, c2 + 1 ≤ k → k ≤ c3 → jH (ja ha 72) k = jH (ja ha 72) f + 1 := fun k h1 h2 => by
              rw [jH_flat h1 (fun j h3 h4 => by rw [(hten j h3 (by omega)).2]; rfl), eHc1]
            have hcnw : jcn (ja h2 73) w = jcn (ja h2 73) w' + ((w : Int) - w') := jcn_all z4 (fun j h1 h2 => by
              have := z5 j h1 h2
              rw [gA8 j h2] at this
              rw [this]; rfl)
            have hcn7 : jcn (ja h7 73) w = jcn (ja h2 73) w := jcn_cg (fun j hj => (y12 j hj).trans ((e3 j).trans (r12 j hj)))
            refine ⟨hHa, soa, Or.inr ⟨hva, w', c3, p2, ?_, hHa, soa, (fra _ _ (by omega)).trans z7, (fra _ _ (by omega)).trans (z8.trans hc3.symm), ?_, by omega, y8, by omega, ⟨hw0, by rw [gA 0 (by omega)]; exact s9.2⟩, fun j hj => by rw [gA j (by omega)]; exact s10 j (by omega), fun j hj hi => ?_, ?_, ?_, ?_, ?_⟩⟩
            · omega
            · exact (fra _ _ (by omega)).trans ((jso z3 rfl).trans ((fr8 60 17 (by omega) (by omega) (by omega)).trans y5))
            · rw [gA j (by omega)] at hi ⊢
              obtain ⟨k, k1, k2, k3, k4⟩ := s11 j (by omega) hi
              exact ⟨k, k1, k2, by omega, by rw [gS2 k k3]; exact k4⟩
            · intro k hk
              rw [gS2 k (by omega)]
              exact s12 k hk
            · rw [jcn_cg (n := w') (fun j hj => gA j (by omega))]; omega
            · exact eHk c3 (by omega) (Nat.le_refl _)
            · refine jcd_app s15 s8 (by omega) gS2 z4 (fun j hj => gA j (by omega)) (fun j h1 h2 => ?_) ?_
              · have := z5 j h1 h2
                rw [gA8 j h2] at this
                rw [this]
                intro hi
                rcases hi with hi | hi <;> omega
              · refine jgd_app (b := c1) ?_ (jgd_app (b := c2) ?_ ?_)
                · exact jgd_cg r16 (by omega) gS4
                · exact jgd_cg y16 (by omega) gS7
                · intro k h1 h2
                  rcases Nat.lt_or_ge c2 k with h3 | h3
                  · obtain ⟨v1, v2⟩ := hten k h3 h2
                    refine ⟨v1, by omega, ?_, fun hh => by omega⟩
                    rw [eHk k h3 (by omega), v2]
                    have : jnd 10 = 1 := by decide
                    omega
                  · have : k = c2 := by omega
                    subst this
                    refine ⟨?_, by omega, ?_, fun hh => by omega⟩
                    · rw [gS8 k (by omega), ts8]; omega
                    · rw [hop, eHc]
                      unfold jnd
                      rw [if_neg (by omega), if_neg (by omega)]
                      omega
          · intro τ h7 rv7 e0 e1 hH7 hs7 fr7 iv7
            exfalso
            omega
      apply sx_rc2 hxa (d := d + 2) (by omega) r1 (p := p1) (l := l) (by omega) (by omega) (by omega) r5 tl4 m0
      all_goals first
        | (intro τ h5 rv5 e0 e1 hH5 hs5 fr5 iv5 fs5 nn5 t0 t1 t2 hv5
           exact ⟨hH5, s2.tr (r2.tr hs5), Or.inl ⟨hv5, by rw [t0 19 rfl]; omega⟩⟩)
        | (intro τ h5 rv5 e0 e1 hH5 hs5 fr5 iv5 fs5 nn5 t0 t1 t2 t3 hv5
           exact ⟨hH5, s2.tr (r2.tr hs5), Or.inl ⟨hv5, by rw [t0 19 rfl]; omega⟩⟩)
        | (intro τ h5 ls5 as5 e0 e1 hH5 hs5 fr5 iv5 fs5 nn5 t0 t1 t2 u1 u0 u2
           exact h79 h5 ls5 as5 _ (by omega) (by omega) hH5 hs5 (fun i k hk h6 => fr5 i k hk (fun e => ⟨by omega, h6 e⟩)) ((t0 17 rfl).trans (by omega)) u0 u1 u2)
    · intro τ h6 rv6 e0 hH6 hs6 fr6 iv6
      exfalso
      omega
end ReadsCompared
