/-! BY HAND, 9: a condition -/
/-- codes that are read to their end -/
def jsg (S : Int → Int) (f t : Nat) : Prop := ∀ k : Nat, f ≤ k → k < t → 0 ≤ S k ∧ jop (S k) ≤ 12 ∧ jnd (jop (S k)) ≤ jH S k - jH S f ∧ (jop (S k) = 1 → jar (S k) ≤ 7) ∧ (jif (jop (S k)) → ∃ v : Nat, jar (S k) = v ∧ k < v ∧ v ≤ t ∧ jH S v = jH S k)
theorem jsg_cg {S T : Int → Int} {f t : Nat} (h : jsg S f t) (hf : f ≤ t) (e : ∀ j : Nat, j < t → T j = S j) : jsg T f t := by
  intro k h1 h2
  have eH : ∀ n : Nat, n ≤ t → jH T n = jH S n := fun n hn => jH_cg (fun j hj => by rw [e j (by omega)])
  obtain ⟨p1, p2, p3, p4, p5⟩ := h k h1 h2
  rw [e k h2, eH k (by omega), eH f hf]
  refine ⟨p1, p2, p3, p4, fun hi => ?_⟩
  obtain ⟨v, v1, v2, v3, v4⟩ := p5 hi
  exact ⟨v, v1, v2, v3, by rw [eH v v3]; exact v4⟩
theorem jgd_sg {S : Int → Int} {f t : Nat} (h : jgd S f f t) : jsg S f t := fun k h1 h2 => by
  obtain ⟨p1, p2, p3, p4⟩ := h k h1 h2
  exact ⟨p1, by omega, p3, p4, fun hi => by rcases hi with hi | hi <;> omega⟩
section ReadsCondition
variable {P : si_P} {h0 : si_H} {f l : Nat} {d : Nat}
theorem jif_k1 {o : Int} (h : jif o) : jk1 o = 0 := by
  unfold jk1
  rw [if_neg (by rcases h with h | h <;> omega)]
/-- behind landing -/
theorem jco_land {h h' : si_H} {w c p : Nat} {all : Int} {rv : Option Value} (s : jco P h0 f l 1 h w c p) (hq : laQ P all w c h rv h') : rv = none ∧ ∃ w' : Nat, jco P h0 f l 1 h' w' c p ∧ (∀ v : Nat, w' = v + 1 → jop (ja h' 73 v) ≠ 11 ∧ (all = 1 → jop (ja h' 73 v) ≠ 12)) := by
  obtain ⟨s1, s2, s3, s4, s5, s6, s7, s8, s9, s10, s11, s12, s13, s14, s15⟩ := s
  obtain ⟨q1, q2, q3, w', q4, q5, q6, q7, q8⟩ := hq
  have g1 : ∀ k : Int, ja h' 73 k = ja h 73 k := jso_row q3 (by decide)
  have eH : ∀ n : Nat, jH (ja h' 72) n = jH (ja h 72) n := fun n => jH_cg (fun j _ => (q8 j).1)
  have hw0 : 1 ≤ w' := by
    rcases Nat.eq_zero_or_pos w' with h1 | h1
    · have := q5 0 (by omega) (by omega)
      rw [s9.2] at this
      omega
    · exact h1
  have hcn : jcn (ja h 73) w = jcn (ja h 73) w' := jcn_non q4 (fun j h1 h2 => jif_k1 (q5 j h1 h2))
  refine ⟨q1, w', ⟨q2, s2.tr (q3.sub (by decide)), q7, (jso q3 rfl).trans s4, (jso q3 rfl).trans s5, by omega, s7, s8, ⟨hw0, by rw [g1]; exact s9.2⟩, fun j hj => by rw [g1]; exact s10 j (by omega), fun j hj hi => ?_, fun k hk => ?_, ?_, ?_, ?_⟩, fun v hv => by rw [g1]; exact q6 v hv⟩
  · rw [g1] at hi ⊢
    obtain ⟨k, k1, k2, k3, k4⟩ := s11 j (by omega) hi
    exact ⟨k, k1, k2, k3, by rw [(q8 k).1]; exact k4⟩
  · rcases (q8 k).2 with ⟨x1, -⟩ | ⟨-, -, j, j1, j2, j3⟩
    · rw [x1]; exact s12 k hk
    · obtain ⟨k', k1, k2, k3, k4⟩ := s11 j j2 (q5 j j1 j2)
      omega
  · rw [jcn_cg (n := w') (fun j _ => g1 j)]; omega
  · rw [eH, eH]; exact s14
  · intro k h1 h2
    obtain ⟨p1, p2, p3, p4, p5⟩ := s15 k h1 h2
    obtain ⟨y1, y2⟩ := q8 k
    rw [y1, eH, eH]
    rcases y2 with ⟨x1, x2⟩ | ⟨x1, x2, j, j1, j2, j3⟩
    · rw [x1]
      refine ⟨p1, p2, p3, p4, fun hi => ?_⟩
      obtain ⟨r1, r2⟩ := p5 hi
      refine ⟨r1, ?_⟩
      rcases r2 with ⟨v, v1, v2, v3, v4⟩ | ⟨j, j1, j2, j3⟩
      · exact Or.inl ⟨v, v1, v2, v3, by rw [eH]; exact v4⟩
      · rcases Nat.lt_or_ge j w' with h4 | h4
        · exact Or.inr ⟨j, h4, by rw [g1]; exact j2, by rw [g1]; exact j3⟩
        · exact absurd j3 (x2 j h4 j1)
    · have hki : jif (jop (ja h 72 k)) := by
        obtain ⟨k', k1, k2, k3, k4⟩ := s11 j j2 (q5 j j1 j2)
        rw [show k = k' from by omega]
        exact k4
      refine ⟨x2, p2, p3, fun h5 => by rcases hki with hi | hi <;> omega, fun hi => ⟨(p5 hi).1, Or.inl ⟨c, x1, h2, Nat.le_refl _, ?_⟩⟩⟩
      rw [eH]; exact s14
theorem jco_sg {h : si_H} {c p : Nat} {x : Int} (s : jco P h0 f l x h 1 c p) : jsg (ja h 72) f c := by
  obtain ⟨s1, s2, s3, s4, s5, s6, s7, s8, s9, s10, s11, s12, s13, s14, s15⟩ := s
  intro k h1 h2
  obtain ⟨p1, p2, p3, p4, p5⟩ := s15 k h1 h2
  refine ⟨p1, p2, p3, p4, fun hi => ?_⟩
  obtain ⟨r1, r2⟩ := p5 hi
  rcases r2 with ⟨v, v1, v2, v3, v4⟩ | ⟨j, j1, j2, j3⟩
  · exact ⟨v, v1, v2, v3, v4.trans r1.symm⟩
  · rw [show j = 0 from by omega, s9.2] at j2
    rcases j2 with j2 | j2 <;> omega
/-- what a condition leaves -/
def coQ (P : si_P) (h0 : si_H) (f l p : Nat) (rv : Option Value) (h' : si_H) : Prop := az_HI P az_tb h' ∧ az_same_out jm_rf h0 h' ∧ (jbad h' rv ∨ (jV rv 1 ∧ ∃ c' p' : Nat, p ≤ p' ∧ p' ≤ l ∧ f ≤ c' ∧ c' ≤ p' ∧ ja h' 60 22 = c' ∧ ja h' 60 17 = p' ∧ (∀ k : Nat, k < f → ja h' 72 k = ja h0 72 k) ∧ jsg (ja h' 72) f c'))
/-- an entry is put on; no code -/
theorem jco_push {h h' : si_H} {w c p : Nat} {o : Int} (s : jco P h0 f l 0 h w c p) (hp : p < l) (ho : o = 10 ∨ o = 13) (hH' : az_HI P az_tb h') (hs : az_same_out jm_rf h h') (fr : ∀ (i : Nat) (k : Int), 0 ≤ k → (60 = i → k ≠ 21) → (73 = i → k ≠ w) → (60 = i → k ≠ 23) → (60 = i → k ≠ 17) → ja h' i k = ja h i k) (tp : ja h' 60 17 = (p : Int) + 1) (tw : ja h' 60 23 = (w : Int) + 1) (ta : ja h' 73 w = 1048576 * o) : jco P h0 f l 0 h' (w + 1) c (p + 1) := by
  obtain ⟨s1, s2, s3, s4, s5, s6, s7, s8, s9, s10, s11, s12, s13, s14, s15⟩ := s
  have e3 : ∀ k : Nat, k < w → ja h' 73 k = ja h 73 k := fun k hk => fr 73 k (by omega) (by omega) (by omega) (by omega) (by omega)
  have e4 : ∀ k : Nat, ja h' 72 k = ja h 72 k := fun k => fr 72 k (by omega) (by omega) (by omega) (by omega) (by omega)
  have eo : jop (ja h' 73 w) = o := by rw [ta]; unfold jop; omega
  have eH : ∀ n : Nat, jH (ja h' 72) n = jH (ja h 72) n := fun n => jH_cg (fun j _ => by rw [e4 j])
  have e5 : jcn (ja h' 73) (w + 1) ≤ jcn (ja h 73) w + 1 := by
    show jcn (ja h' 73) w + jk1 (jop (ja h' 73 w)) ≤ _
    rw [jcn_cg e3]
    have : jk1 (jop (ja h' 73 w)) ≤ 1 := by unfold jk1; split <;> omega
    omega
  refine ⟨hH', s2.tr hs, tw.trans (by omega), (fr _ _ (by omega) (by omega) (by omega) (by omega) (by omega)).trans s4, tp.trans (by omega), by omega, by omega, s8, ⟨by omega, by rw [e3 0 (by omega)]; exact s9.2⟩, ?_, ?_, fun k hk => by rw [e4]; exact s12 k hk, by omega, by rw [eH, eH]; exact s14, ?_⟩
  · intro j hj
    rcases Nat.lt_or_ge j w with h1 | h1
    · rw [e3 j h1]; exact s10 j h1
    · rw [show j = w from by omega, eo, ta]; omega
  · intro j hj hi
    rcases Nat.lt_or_ge j w with h1 | h1
    · rw [e3 j h1] at hi ⊢
      obtain ⟨k, k1, k2, k3, k4⟩ := s11 j h1 hi
      exact ⟨k, k1, k2, k3, by rw [e4]; exact k4⟩
    · rw [show j = w from by omega, eo] at hi
      rcases hi with hi | hi <;> omega
  · intro k h1 h2
    rw [e4, eH, eH]
    obtain ⟨p1, p2, p3, p4, p5⟩ := s15 k h1 h2
    refine ⟨p1, p2, p3, p4, fun hi => ?_⟩
    obtain ⟨r1, r2⟩ := p5 hi
    refine ⟨r1, ?_⟩
    rcases r2 with ⟨v, v1, v2, v3, v4⟩ | ⟨j, j1, j2, j3⟩
    · exact Or.inl ⟨v, v1, v2, v3, by rw [eH]; exact v4⟩
    · exact Or.inr ⟨j, by omega, by rw [e3 j j1]; exact j2, by rw [e3 j j1]; exact j3⟩
/-- a jump is noted and waits -/
theorem jco_jump {h h' : si_H} {w c p : Nat} {o : Int} (s : jco P h0 f l 1 h w c p) (hp : p < l) (ho : jif o) (hH' : az_HI P az_tb h') (hs : az_same_out jm_rf h h') (fr : ∀ (i : Nat) (k : Int), 0 ≤ k → (73 = i → k ≠ w) → (60 = i → k ≠ 23) → (72 = i → k ≠ c) → (60 = i → k ≠ 22) → (60 = i → k ≠ 17) → ja h' i k = ja h i k) (tp : ja h' 60 17 = (p : Int) + 1) (tc : ja h' 60 22 = (c : Int) + 1) (ts : ja h' 72 c = 1048576 * o) (tw : ja h' 60 23 = (w : Int) + 1) (ta : ja h' 73 w = c + 1048576 * o) (hl : l ≤ 240) : jco P h0 f l 0 h' (w + 1) (c + 1) (p + 1) := by
  obtain ⟨s1, s2, s3, s4, s5, s6, s7, s8, s9, s10, s11, s12, s13, s14, s15⟩ := s
  have hcn := jcn_nn (ja h 73) w
  have e3 : ∀ k : Nat, k < w → ja h' 73 k = ja h 73 k := fun k hk => fr 73 k (by omega) (by omega) (by omega) (by omega) (by omega) (by omega)
  have e4 : ∀ k : Nat, k < c → ja h' 72 k = ja h 72 k := fun k hk => fr 72 k (by omega) (by omega) (by omega) (by omega) (by omega) (by omega)
  have eo : jop (ja h' 73 w) = o ∧ jar (ja h' 73 w) = c := by rw [ta]; unfold jop jar; omega
  have es : jop (ja h' 72 c) = o := by rw [ts]; unfold jop; omega
  have eH : ∀ n : Nat, n ≤ c → jH (ja h' 72) n = jH (ja h 72) n := fun n hn => jH_cg (fun j hj => by rw [e4 j (by omega)])
  have eH1 : jH (ja h' 72) (c + 1) = jH (ja h' 72) f := by
    show jH (ja h' 72) c + jdl (jop (ja h' 72 c)) = _
    rw [es, eH c (Nat.le_refl _), eH f s8, s14]
    unfold jdl
    rw [if_neg (by rcases ho with ho | ho <;> omega), if_neg (by rcases ho with ho | ho <;> omega)]
    omega
  have e5 : jcn (ja h' 73) (w + 1) = jcn (ja h 73) w := by
    show jcn (ja h' 73) w + jk1 (jop (ja h' 73 w)) = _
    rw [jcn_cg e3, eo.1, jif_k1 ho, Int.add_zero]
  refine ⟨hH', s2.tr hs, tw.trans (by omega), tc.trans (by omega), tp.trans (by omega), by omega, by omega, by omega, ⟨by omega, by rw [e3 0 (by omega)]; exact s9.2⟩, ?_, ?_, fun k hk => by rw [e4 k (by omega)]; exact s12 k hk, by omega, by omega, ?_⟩
  · intro j hj
    rcases Nat.lt_or_ge j w with h1 | h1
    · rw [e3 j h1]; exact s10 j h1
    · rw [show j = w from by omega, eo.1, ta]; rcases ho with ho | ho <;> omega
  · intro j hj hi
    rcases Nat.lt_or_ge j w with h1 | h1
    · rw [e3 j h1] at hi ⊢
      obtain ⟨k, k1, k2, k3, k4⟩ := s11 j h1 hi
      exact ⟨k, k1, k2, by omega, by rw [e4 k k3]; exact k4⟩
    · rw [show j = w from by omega]
      exact ⟨c, eo.2, s8, by omega, by rw [es]; exact ho⟩
  · intro k h1 h2
    rcases Nat.lt_or_ge k c with h3 | h3
    · rw [e4 k h3, eH k (by omega), eH f s8]
      obtain ⟨p1, p2, p3, p4, p5⟩ := s15 k h1 h3
      refine ⟨p1, p2, p3, p4, fun hi => ?_⟩
      obtain ⟨r1, r2⟩ := p5 hi
      refine ⟨r1, ?_⟩
      rcases r2 with ⟨v, v1, v2, v3, v4⟩ | ⟨j, j1, j2, j3⟩
      · exact Or.inl ⟨v, v1, v2, by omega, by rw [eH v v3]; exact v4⟩
      · exact Or.inr ⟨j, by omega, by rw [e3 j j1]; exact j2, by rw [e3 j j1]; exact j3⟩
    · rw [show k = c from by omega, es, eH c (Nat.le_refl _), eH f s8, s14]
      have hn : jnd o = 1 := by
        unfold jnd
        rw [if_neg (by rcases ho with ho | ho <;> omega), if_pos (by rcases ho with ho | ho <;> omega)]
      refine ⟨by rw [ts]; rcases ho with ho | ho <;> omega, by rcases ho with ho | ho <;> omega, by omega, fun h5 => by rcases ho with ho | ho <;> omega, fun _ => ⟨rfl, Or.inr ⟨w, by omega, by rw [eo.1]; exact ho, eo.2⟩⟩⟩
/-- a bracket is closed, then pieces end -/
theorem jco_pop {h h' : si_H} {w c p : Nat} (s : jco P h0 f l 1 h (w + 1) c p) (hp : p < l) (hw : 1 ≤ w) (hn : ¬ jif (jop (ja h 73 w))) (hH' : az_HI P az_tb h') (hs : az_same_out jm_rf h h') (fr : ∀ (i : Nat) (k : Int), 0 ≤ k → (60 = i → k ≠ 23) → (60 = i → k ≠ 21) → (60 = i → k ≠ 17) → ja h' i k = ja h i k) (tp : ja h' 60 17 = (p : Int) + 1) (tw : ja h' 60 23 = w) : jco P h0 f l 1 h' w c (p + 1) := by
  obtain ⟨s1, s2, s3, s4, s5, s6, s7, s8, s9, s10, s11, s12, s13, s14, s15⟩ := s
  have e3 : ∀ k : Nat, ja h' 73 k = ja h 73 k := fun k => fr 73 k (by omega) (by omega) (by omega) (by omega)
  have e4 : ∀ k : Nat, ja h' 72 k = ja h 72 k := fun k => fr 72 k (by omega) (by omega) (by omega) (by omega)
  have hle := jcn_le (A := ja h 73) (a := w) (b := w + 1) (by omega)
  refine ⟨hH', s2.tr hs, tw, (fr _ _ (by omega) (by omega) (by omega) (by omega)).trans s4, tp.trans (by omega), by omega, by omega, s8, ⟨hw, by rw [e3]; exact s9.2⟩, fun j hj => by rw [e3]; exact s10 j (by omega), fun j hj hi => ?_, fun k hk => by rw [e4]; exact s12 k hk, ?_, ?_, ?_⟩
  · rw [e3] at hi ⊢
    obtain ⟨k, k1, k2, k3, k4⟩ := s11 j (by omega) hi
    exact ⟨k, k1, k2, k3, by rw [e4]; exact k4⟩
  · rw [jcn_cg (fun j _ => e3 j)]; omega
  · rw [jH_cg (n := c) (fun j _ => by rw [e4 j]), jH_cg (n := f) (fun j _ => by rw [e4 j])]; exact s14
  · refine jcd_app s15 s8 (Nat.le_refl _) (fun k _ => e4 k) (by omega) (fun j _ => e3 j) (fun j h1 h2 => ?_) (fun k h1 h2 => absurd h2 (by omega))
    rw [show j = w from by omega]; exact hn
theorem jco_piece {h h' : si_H} {w c p : Nat} {rv : Option Value} (s : jco P h0 f l 1 h w c p) (hq : epQ P w c h rv h') : rv = none ∧ ∃ w' c' : Nat, jco P h0 f l 1 h' w' c' p := by
  obtain ⟨s1, s2, s3, s4, s5, s6, s7, s8, s9, s10, s11, s12, s13, s14, s15⟩ := s
  obtain ⟨z1, z2, z3, w', z4, z5, z6, z7, z8, z9, z10⟩ := hq
  obtain ⟨c3, hc3⟩ : ∃ c3 : Nat, (c3 : Int) = (c : Int) + w - w' := ⟨c + w - w', by omega⟩
  have e3 : ∀ k : Int, ja h' 73 k = ja h 73 k := jso_row z3 (by decide)
  have hw0 : 1 ≤ w' := by
    rcases Nat.eq_zero_or_pos w' with h1 | h1
    · have := z5 0 (by omega) (by omega)
      rw [s9.2] at this
      omega
    · exact h1
  have eH : ∀ n : Nat, n ≤ c → jH (ja h' 72) n = jH (ja h 72) n := fun n hn => jH_cg (fun j hj => by rw [z9 j (by omega)])
  have eHk : ∀ k : Nat, c ≤ k → k ≤ c3 → jH (ja h' 72) k = jH (ja h' 72) f + 1 := fun k h1 h2 => by
    rw [jH_flat h1 (fun j h3 h4 => by rw [(z10 j h3 (by omega)).2]; rfl), eH c (Nat.le_refl _), eH f s8]; exact s14
  have hcnw : jcn (ja h 73) w = jcn (ja h 73) w' + ((w : Int) - w') := jcn_all z4 (fun j h1 h2 => by rw [z5 j h1 h2]; rfl)
  refine ⟨z1, w', c3, z2, s2.tr (z3.sub (by decide)), z7, z8.trans hc3.symm, (jso z3 rfl).trans s5, by omega, s7, by omega, ⟨hw0, by rw [e3]; exact s9.2⟩, fun j hj => by rw [e3]; exact s10 j (by omega), fun j hj hi => ?_, fun k hk => by rw [z9 k (by omega)]; exact s12 k hk, ?_, eHk c3 (by omega) (Nat.le_refl _), ?_⟩
  · rw [e3] at hi ⊢
    obtain ⟨k, k1, k2, k3, k4⟩ := s11 j (by omega) hi
    exact ⟨k, k1, k2, by omega, by rw [z9 k k3]; exact k4⟩
  · rw [jcn_cg (n := w') (fun j _ => e3 j)]; omega
  · refine jcd_app s15 s8 (by omega) z9 z4 (fun j _ => e3 j) (fun j h1 h2 => ?_) (fun k h1 h2 => ?_)
    · rw [z5 j h1 h2]
      intro hi
      rcases hi with hi | hi <;> omega
    · obtain ⟨v1, v2⟩ := z10 k h1 (by omega)
      refine ⟨v1, by omega, ?_, fun hh => by omega⟩
      rw [eHk k h1 (by omega), v2]
      have : jnd 10 = 1 := by decide
      omega
end ReadsCondition
