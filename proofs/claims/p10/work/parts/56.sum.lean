/-! BY HAND, 6: a factor -/
def rfQ (P : si_P) (w c p l : Nat) (h : si_H) (rv : Option Value) (h' : si_H) : Prop := az_HI P az_tb h' ∧ az_same_out jm_rf h h' ∧ (jbad h' rv ∨ (jV rv 1 ∧ ∃ w' p' : Nat, p ≤ p' ∧ w ≤ w' ∧ w' ≤ p' ∧ p' ≤ l ∧ 1 + jcn (ja h' 73) w' + p ≤ p' + jcn (ja h 73) w ∧ ja h' 60 23 = w' ∧ ja h' 60 17 = p' ∧ ja h' 60 22 = (c : Int) + 1 ∧ (∀ j : Nat, j < w → ja h' 73 j = ja h 73 j) ∧ (∀ j : Nat, w ≤ j → j < w' → ja h' 73 j = 14680064) ∧ (∀ k : Nat, k < c → ja h' 72 k = ja h 72 k) ∧ 0 ≤ ja h' 72 c ∧ jop (ja h' 72 c) ≤ 1 ∧ (jop (ja h' 72 c) = 1 → jar (ja h' 72 c) ≤ 7)))
theorem readsFactor_20 {P : si_P} (hxa : P.2.1 < P.1) {d : Nat} (hd : 6 ≤ d) {l : Nat} (hl : l ≤ 240) {w c p : Nat} {h : si_H} {ls : si_L} (hH : az_HI P az_tb h) (l0 : jR P ls 0 60) (tw : ja h 60 23 = w) (tc : ja h 60 22 = c) (tp : ja h 60 17 = p) (tl : ja h 60 18 = l) (hpl : p ≤ l) (hwp : w ≤ p) (hcp : (c : Int) + jcn (ja h 73) w ≤ p) : az_X P (d + 1) 251 20 ls [] h (rfQ P w c p l h) := by
  have hc0 := jcn_nn (ja h 73) w
  have h47 : ∀ (h' : si_H) (ls' : si_L), az_HI P az_tb h' → az_same_out jm_rf h h' → (∀ (i : Nat) (k : Int), 0 ≤ k → ja h' i k = ja h i k) → jR P ls' 0 60 → az_X P (d + 1) 251 47 ls' [] h' (rfQ P w c p l h) := by
    intro h' ls' hH' hs fr k0
    apply sx_rf4 hxa (by omega) hH' (p := p) (l := l) (c := c) (by omega) (by omega) (by omega) (by omega) (by omega) ((fr _ _ (by omega)).trans tp) ((fr _ _ (by omega)).trans tl) ((fr _ _ (by omega)).trans tc) k0
    all_goals first
      | (intro τ h2 rv e0 e1 e2 hH2 hs2 fr2 iv fs nn t0 t1 t2 t3 hv
         exact ⟨hH2, hs.tr hs2, Or.inl ⟨hv, by rw [t0 19 rfl]; omega⟩⟩)
      | (intro τ h2 rv e0 e1 e2 hH2 hs2 fr2 iv fs nn t0 t1 t2 t3 t4 hv
         first
         | exact ⟨hH2, hs.tr hs2, Or.inl ⟨hv, by rw [t0 19 rfl]; omega⟩⟩
         | (have q3 : ∀ k : Nat, ja h2 73 k = ja h 73 k := fun k => (fr2 73 k (by omega) (by omega) (by omega) (by omega)).trans (fr 73 k (by omega))
            have q6 : jcn (ja h2 73) w = jcn (ja h 73) w := jcn_cg (fun j _ => q3 j)
            have q7 : ja h2 72 c = τ 5 + 1048576 := (t2 c (by omega)).trans (by omega)
            refine ⟨hH2, hs.tr hs2, Or.inr ⟨hv, w, p + 1, by omega, Nat.le_refl _, by omega, by omega, by rw [q6]; omega, ?_, (t0 17 rfl).trans (by omega), (t1 22 rfl).trans (by omega), fun j _ => q3 j, fun j h1 h2' => absurd h2' (by omega), fun k hk => (fr2 72 k (by omega) (by omega) (by omega) (by omega)).trans (fr 72 k (by omega)), ?_⟩⟩
            · exact (fr2 60 23 (by omega) (by omega) (by omega) (by omega)).trans ((fr _ _ (by omega)).trans tw)
            · rw [q7]; unfold jop jar; omega))
      | (intro τ h2 rv e0 e1 e2 hH2 hs2 fr2 iv fs nn t0 t1 t2 t3 t4 t5 hv
         exact ⟨hH2, hs.tr hs2, Or.inl ⟨hv, by rw [t0 19 rfl]; omega⟩⟩)
  apply sx_rf2 hxa (d := d) (by omega) hH (p := p) (l := l) (by omega) (by omega) (by omega) tp tl l0
  all_goals first
    | (intro τ h' ls' e0 e1 hH' hs fr iv fs nn t0 t1 k0
       exact h47 h' ls' hH' hs fr k0)
    | (intro τ h' ls' e0 e1 hH' hs fr iv fs nn t0 t1 t2 k0
       exact h47 h' ls' hH' hs fr k0)
    | (intro τ h' ls' as e0 e1 hH' hs fr iv fs nn t0 t1 t2 k0 k1
       have e5 := nn.1
       rw [show (1 * τ 2 + 0 + 0) = ja h' 71 p from ((t0 p (by omega)).symm)] at e5
       refine (readsNumber_ok hxa hd hl (f := p) hH' k1 ((fr _ _ (by omega)).trans tp) ((fr _ _ (by omega)).trans tl) (by omega) (by omega)).mono ?_
       rintro rv h3 ⟨z1, z2, z3⟩
       have hs3 : az_same_out jm_rf h h3 := hs.tr (z2.sub (by decide))
       have m1 := ja_bd z1 (i := 60) (k := 20) rfl
       have m2 : 0 ≤ ja h3 60 20 := m1.1
       have m3 : ja h3 60 20 ≤ 99999 := m1.2
       have g1 : ∀ k : Int, ja h3 73 k = ja h' 73 k := jso_row z2 (by decide)
       have g2 : ∀ k : Int, ja h3 72 k = ja h' 72 k := jso_row z2 (by decide)
       have g3 : ja h3 60 22 = c := (jso z2 rfl).trans ((fr _ _ (by omega)).trans tc)
       have g4 : ja h3 60 23 = w := (jso z2 rfl).trans ((fr _ _ (by omega)).trans tw)
       rcases z3 with z3 | ⟨y1, p', y2, y3, y4⟩
       · apply sx_rf3 hxa (by omega) z1 (z := 0) (c := c) (m := ja h3 60 20) (by omega) (by omega) ⟨m2, m3⟩ g3 rfl k0 z3.1
         all_goals first
           | (intro τ2 h4 rv2 e0 e1 e2 hH4 hs4 fr4 iv4 fs4 nn4 t0 t1 t2 hv
              exfalso
              omega)
           | (intro τ2 h4 rv2 e0 e1 e2 hH4 hs4 fr4 iv4 fs4 nn4 t0 t1 hv
              exact ⟨hH4, hs3.tr hs4, Or.inl ⟨hv, by rw [fr4 _ _ (by omega)]; exact z3.2⟩⟩)
       · apply sx_rf3 hxa (by omega) z1 (z := 1) (c := c) (m := ja h3 60 20) (by omega) (by omega) ⟨m2, m3⟩ g3 rfl k0 y1
         all_goals first
           | (intro τ2 h4 rv2 e0 e1 e2 hH4 hs4 fr4 iv4 fs4 nn4 t0 t1 t2 hv
              have q3 : ∀ k : Nat, ja h4 73 k = ja h 73 k := fun k => (fr4 73 k (by omega) (by omega) (by omega)).trans ((g1 k).trans (fr 73 k (by omega)))
              have q6 : jcn (ja h4 73) w = jcn (ja h 73) w := jcn_cg (fun j _ => q3 j)
              have q7 : ja h4 72 c = ja h3 60 20 := (t1 c (by omega)).trans (by omega)
              refine ⟨hH4, hs3.tr hs4, Or.inr ⟨hv, w, p', by omega, Nat.le_refl _, by omega, by omega, by rw [q6]; omega, ?_, (fr4 60 17 (by omega) (by omega) (by omega)).trans y4, (t0 22 rfl).trans (by omega), fun j _ => q3 j, fun j h1 h2' => absurd h2' (by omega), fun k hk => (fr4 72 k (by omega) (by omega) (by omega)).trans ((g2 k).trans (fr 72 k (by omega))), ?_⟩⟩
              · exact (fr4 60 23 (by omega) (by omega) (by omega)).trans g4
              · rw [q7]; unfold jop jar; omega)
           | (intro τ2 h4 rv2 e0 e1 e2 hH4 hs4 fr4 iv4 fs4 nn4 t0 t1 hv
              exfalso
              omega))
theorem readsFactor_lp {P : si_P} (hxa : P.2.1 < P.1) {d : Nat} (hd : 6 ≤ d) {l c : Nat} (hl : l ≤ 240) : ∀ (n w p : Nat) (h : si_H) (ls : si_L), p + n = l → az_HI P az_tb h → jR P ls 0 60 → ja h 60 23 = w → ja h 60 22 = c → ja h 60 17 = p → ja h 60 18 = l → w ≤ p → (c : Int) + jcn (ja h 73) w ≤ p → az_X P (d + 1) 251 0 ls [] h (rfQ P w c p l h) := by
  intro n
  induction n with
  | zero =>
    intro w p h ls hn hH l0 tw tc tp tl hwp hcp
    apply sx_rf0 hxa (by omega) hH (p := p) (l := l) (w := w) (by omega) (by omega) (by omega) (by omega) (by omega) tp tl tw l0
    all_goals first
      | (intro τ h' ls' e0 e1 e2 hH' hs fr iv fs nn t0 t1 t2 k0
         refine (readsFactor_20 hxa hd hl hH' k0 ((fr _ _ (by omega)).trans tw) ((fr _ _ (by omega)).trans tc) ((fr _ _ (by omega)).trans tp) ((fr _ _ (by omega)).trans tl) (by omega) hwp (by rw [jcn_cg (fun j _ => fr 73 j (by omega))]; exact hcp)).mono ?_
         rintro rv h3 ⟨z1, z2, z3⟩
         refine ⟨z1, hs.tr z2, ?_⟩
         rcases z3 with z3 | ⟨y1, w', p', yy, y2, y3, y4, y5, y6, y7, y8, y9, y10, y11, y12⟩
         · exact Or.inl z3
         · exact Or.inr ⟨y1, w', p', yy, y2, y3, y4, by rw [← jcn_cg (B := ja h 73) (fun j _ => fr 73 j (by omega))]; exact y5, y6, y7, y8, fun j hj => (y9 j hj).trans (fr 73 j (by omega)), y10, fun k hk => (y11 k hk).trans (fr 72 k (by omega)), y12⟩)
      | (intro τ h' ls' e0 e1 e2 hH' hs fr iv fs nn t0 t1 t2 t3 k0
         exfalso
         omega)
      | (intro τ h' ls' e0 e1 e2 hH' hs fr iv fs nn t0 t1 t2 t3 t4 t5 k0
         exfalso
         omega)
      | (intro τ h' rv e0 e1 e2 hH' hs fr iv fs nn t0 t1 t2 t3 t4 t5 hv
         exfalso
         omega)
  | succ n ih =>
    intro w p h ls hn hH l0 tw tc tp tl hwp hcp
    have h20 : ∀ (h' : si_H) (ls' : si_L), az_HI P az_tb h' → az_same_out jm_rf h h' → (∀ (i : Nat) (k : Int), 0 ≤ k → ja h' i k = ja h i k) → jR P ls' 0 60 → az_X P (d + 1) 251 20 ls' [] h' (rfQ P w c p l h) := by
      intro h' ls' hH' hs fr k0
      refine (readsFactor_20 hxa hd hl hH' k0 ((fr _ _ (by omega)).trans tw) ((fr _ _ (by omega)).trans tc) ((fr _ _ (by omega)).trans tp) ((fr _ _ (by omega)).trans tl) (by omega) hwp (by rw [jcn_cg (fun j _ => fr 73 j (by omega))]; exact hcp)).mono ?_
      rintro rv h3 ⟨z1, z2, z3⟩
      refine ⟨z1, hs.tr z2, ?_⟩
      rcases z3 with z3 | ⟨y1, w', p', yy, y2, y3, y4, y5, y6, y7, y8, y9, y10, y11, y12⟩
      · exact Or.inl z3
      · exact Or.inr ⟨y1, w', p', yy, y2, y3, y4, by rw [← jcn_cg (B := ja h 73) (fun j _ => fr 73 j (by omega))]; exact y5, y6, y7, y8, fun j hj => (y9 j hj).trans (fr 73 j (by omega)), y10, fun k hk => (y11 k hk).trans (fr 72 k (by omega)), y12⟩
    apply sx_rf0 hxa (by omega) hH (p := p) (l := l) (w := w) (by omega) (by omega) (by omega) (by omega) (by omega) tp tl tw l0
    all_goals first
      | (intro τ h' ls' e0 e1 e2 hH' hs fr iv fs nn t0 t1 t2 k0
         exact h20 h' ls' hH' hs fr k0)
      | (intro τ h' ls' e0 e1 e2 hH' hs fr iv fs nn t0 t1 t2 t3 k0
         exact h20 h' ls' hH' hs fr k0)
      | (intro τ h' rv e0 e1 e2 hH' hs fr iv fs nn t0 t1 t2 t3 t4 t5 hv
         exact ⟨hH', hs, Or.inl ⟨hv, by rw [t0 19 rfl]; omega⟩⟩)
      | (intro τ h' ls' e0 e1 e2 hH' hs fr iv fs nn t0 t1 t2 t3 t4 t5 k0
         have q4 : ja h' 73 w = 14680064 := t2 w (by omega)
         have q5 : ∀ j : Nat, j < w → ja h' 73 j = ja h 73 j := fun j hj => fr 73 j (by omega) (by omega) (by omega) (by omega) (by omega)
         have q6 : jcn (ja h' 73) (w + 1) = jcn (ja h 73) w := by
           show jcn (ja h' 73) w + jk1 (jop (ja h' 73 w)) = _
           rw [q4, jcn_cg q5, show jk1 (jop 14680064) = 0 from by decide, Int.add_zero]
         refine (ih (w + 1) (p + 1) h' ls' (by omega) hH' k0 ((t1 23 rfl).trans (by omega)) ((fr 60 22 (by omega) (by omega) (by omega) (by omega) (by omega)).trans tc) ((t0 17 rfl).trans (by omega)) ((t5 18 rfl).trans (by omega)) (by omega) (by rw [q6]; omega)).mono ?_
         rintro rv h3 ⟨z1, z2, z3⟩
         refine ⟨z1, hs.tr z2, ?_⟩
         rcases z3 with z3 | ⟨y1, w', p', yy, y2, y3, y4, y5, y6, y7, y8, y9, y10, y11, y12⟩
         · exact Or.inl z3
         · refine Or.inr ⟨y1, w', p', by omega, by omega, y3, y4, by omega, y6, y7, y8, fun j hj => (y9 j (by omega)).trans (q5 j hj), fun j h1 h2 => ?_, fun k hk => (y11 k hk).trans (fr 72 k (by omega) (by omega) (by omega) (by omega) (by omega)), y12⟩
           rcases Nat.lt_or_ge w j with h4 | h4
           · exact y10 j h4 h2
           · rw [show j = w from by omega, y9 w (by omega)]; exact q4)
theorem readsFactor_ok {P : si_P} (hxa : P.2.1 < P.1) {d : Nat} (hd : 6 ≤ d) {w p l c : Nat} (hl : l ≤ 240) (hpl : p ≤ l) {h : si_H} {ls : si_L} (hH : az_HI P az_tb h) (l0 : jR P ls 0 60) (tw : ja h 60 23 = w) (tc : ja h 60 22 = c) (tp : ja h 60 17 = p) (tl : ja h 60 18 = l) (hwp : w ≤ p) (hcp : (c : Int) + jcn (ja h 73) w ≤ p) : az_X P (d + 1) 251 0 ls [] h (rfQ P w c p l h) := readsFactor_lp hxa hd hl (l - p) w p h ls (by omega) hH l0 tw tc tp tl hwp hcp
