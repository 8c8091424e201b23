/-! BY HAND, 4: the small methods of the reading -/
/-- ENDING A PIECE -/
def epQ (P : si_P) (w c : Nat) (h : si_H) (rv : Option Value) (h' : si_H) : Prop := rv = none ∧ az_HI P az_tb h' ∧ az_same_out jm_ep h h' ∧ ∃ w' : Nat, w' ≤ w ∧ (∀ j : Nat, w' ≤ j → j < w → jop (ja h 73 j) = 10) ∧ (∀ v : Nat, w' = v + 1 → jop (ja h 73 v) ≠ 10) ∧ ja h' 60 23 = w' ∧ ja h' 60 22 = (c : Int) + w - w' ∧ (∀ k : Nat, k < c → ja h' 72 k = ja h 72 k) ∧ (∀ k : Nat, c ≤ k → (k : Int) < c + w - w' → 0 ≤ ja h' 72 k ∧ jop (ja h' 72 k) = 10)
theorem endsPiece_ok {P : si_P} (hxa : P.2.1 < P.1) {d : Nat} (hd : 6 ≤ d) : ∀ (w c : Nat) (h : si_H) (ls : si_L), az_HI P az_tb h → jR P ls 0 60 → ja h 60 23 = w → ja h 60 22 = c → (∀ j : Nat, j < w → 0 ≤ ja h 73 j) → w ≤ 240 → (c : Int) + jcn (ja h 73) w ≤ 240 → az_X P d 254 0 ls [] h (epQ P w c h) := by
  intro w
  induction w with
  | zero =>
    intro c h ls hH l0 tw tc hA _ hc
    refine sx_ep0 hxa hd hH tw l0 ?_
    intro τ h' hH' hs fr _ _ _ _
    refine ⟨rfl, hH', hs, 0, Nat.le_refl _, fun j _ hj => absurd hj (by omega), fun v hv => by omega, ?_, ?_, fun k _ => fr _ _ (by omega), fun k h1 h2 => by omega⟩
    · rw [fr _ _ (by omega)]; exact tw
    · rw [fr _ _ (by omega), tc]; omega
  | succ n ih =>
    intro c h ls hH l0 tw tc hA hw hc
    have hret : ∀ h' : si_H, az_HI P az_tb h' → az_same_out jm_ep h h' → (∀ (i : Nat) (k : Int), 0 ≤ k → ja h' i k = ja h i k) → jop (ja h 73 n) ≠ 10 → epQ P (n + 1) c h none h' := by
      intro h' hH' hs fr hq
      refine ⟨rfl, hH', hs, n + 1, Nat.le_refl _, fun j h1 hj => absurd hj (by omega), fun v hv => by rw [show v = n from by omega]; exact hq, ?_, ?_, fun k _ => fr _ _ (by omega), fun k h1 h2 => by omega⟩
      · rw [fr _ _ (by omega)]; exact tw
      · rw [fr _ _ (by omega), tc]; omega
    have hat : ∀ (h' : si_H) (ls' : si_L), az_HI P az_tb h' → az_same_out jm_ep h h' → (∀ (i : Nat) (k : Int), 0 ≤ k → ja h' i k = ja h i k) → jR P ls' 0 60 → jop (ja h 73 n) = 10 → az_X P d 254 9 ls' [] h' (epQ P (n + 1) c h) := by
      intro h' ls' hH' hs fr m0 hq
      have hcn : jcn (ja h 73) (n + 1) = jcn (ja h 73) n + 1 := by
        show jcn (ja h 73) n + jk1 (jop (ja h 73 n)) = _
        unfold jk1
        rw [if_pos (Or.inr hq)]
      have hc0 := jcn_nn (ja h 73) n
      refine sx_ep2 hxa hd hH' (w := (n + 1 : Nat)) (c := c) (by omega) (by omega) ((fr _ _ (by omega)).trans tw) ((fr _ _ (by omega)).trans tc) m0 ?_
      intro τ h2 ls2 e0 e1 hH2 hs2 fr2 iv fs nn t0 t1 t2 t3 k0
      have q1 : ja h2 60 23 = n := (t1 23 rfl).trans (by omega)
      have q2 : ja h2 60 22 = (c + 1 : Nat) := (t2 22 rfl).trans (by omega)
      have q3 : ∀ k : Int, 0 ≤ k → ja h2 73 k = ja h 73 k := fun k hk => (fr2 73 k hk (by omega) (by omega) (by omega) (by omega)).trans (fr 73 k hk)
      have q4 : ja h2 72 c = 10485760 := (t3 c (by omega)).trans (by omega)
      have q5 : ∀ k : Nat, k < c → ja h2 72 k = ja h 72 k := fun k hk => (fr2 72 k (by omega) (by omega) (by omega) (by omega) (by omega)).trans (fr 72 k (by omega))
      have q6 : jcn (ja h2 73) n = jcn (ja h 73) n := jcn_cg (fun j _ => q3 j (by omega))
      refine (ih (c + 1) h2 ls2 hH2 k0 q1 q2 (fun j hj => by rw [q3 j (by omega)]; exact hA j (by omega)) (by omega) (by rw [q6]; omega)).mono ?_
      rintro rv h3 ⟨z1, z2, z3, w', z4, z5, z6, z7, z8, z9, z10⟩
      refine ⟨z1, z2, (hs.tr hs2).tr z3, w', by omega, ?_, ?_, z7, by rw [z8]; omega, ?_, ?_⟩
      · intro j h1 h2'
        rcases Nat.lt_or_ge j n with h4 | h4
        · have := z5 j h1 h4
          rw [q3 j (by omega)] at this
          exact this
        · rw [show j = n from by omega]; exact hq
      · intro v hv
        have := z6 v hv
        rw [q3 v (by omega)] at this
        exact this
      · intro k hk
        rw [z9 k (by omega), q5 k hk]
      · intro k h1 h2'
        rcases Nat.lt_or_ge c k with h4 | h4
        · exact z10 k (by omega) (by omega)
        · have h5 : k = c := by omega
          subst h5
          rw [z9 k (by omega), q4]
          decide
    have hE : ja h 73 n ≤ 2147483647 := (ja_row hH (i := 73) rfl (k := (n : Int)) (by omega) (by show (n : Int) < (260 : Nat); omega)).2
    apply sx_ep1 hxa hd hH (w := (n + 1 : Nat)) (e := ja h 73 n) (by omega) ⟨hA n (by omega), hE⟩ tw (jacg (show ja h 73 n = _ from rfl) (by omega)) (by omega) l0
    all_goals first
      | (intro τ h' ls' e0 e1 hH' hs fr iv fs nn t0 t1 k0
         exact hat h' ls' hH' hs fr k0 (by unfold jop; omega))
      | (intro τ h' e0 e1 hH' hs fr iv fs nn t0 t1
         exact hret h' hH' hs fr (by unfold jop; omega))
/-- IS A SUM OPEN -/
def hoQ (P : si_P) (b w : Nat) (h : si_H) (rv : Option Value) (h' : si_H) : Prop := az_HI P az_tb h' ∧ az_same_out jm_no h h' ∧ ((jV rv 0 ∧ ∀ j : Nat, b ≤ j → j < w → jop (ja h 73 j) ≠ 14) ∨ (jV rv 1 ∧ ∃ j : Nat, b ≤ j ∧ j < w ∧ jop (ja h 73 j) = 14))
theorem jm_no_ja {h h' : si_H} (hs : az_same_out jm_no h h') (i : Nat) (k : Int) : ja h' i k = ja h i k := jso hs rfl
theorem hasOpenSum_lp {P : si_P} (hxa : P.2.1 < P.1) {d : Nat} (hd : 6 ≤ d) {b w : Nat} (hb : b ≤ 240) (hw : w ≤ 240) : ∀ (n k : Nat) (h : si_H) (ls : si_L), k + n = w → b ≤ k → az_HI P az_tb h → jR P ls 0 60 → jI ls 1 b → jI ls 2 k → ja h 60 23 = w → (∀ j : Nat, j < w → 0 ≤ ja h 73 j) → (∀ j : Nat, b ≤ j → j < k → jop (ja h 73 j) ≠ 14) → az_X P d 252 2 ls [] h (hoQ P b w h) := by
  intro n
  induction n with
  | zero =>
    intro k h ls hk hbk hH l0 l1 l2 tw hA hi
    refine sx_ho0 hxa hd hH (b := b) (k := k) (w := w) (by omega) (by omega) (by omega) (by omega) tw l0 l1 l2 ?_
    intro τ h' rv e0 e1 e2 hH' hs fr iv fs nn t0 hv
    exact ⟨hH', hs, Or.inl ⟨hv, fun j h1 h2 => hi j h1 (by omega)⟩⟩
  | succ n ih =>
    intro k h ls hk hbk hH l0 l1 l2 tw hA hi
    have hE : ja h 73 k ≤ 2147483647 := (ja_row hH (i := 73) rfl (k := (k : Int)) (by omega) (by show (k : Int) < (260 : Nat); omega)).2
    apply sx_ho1 hxa hd hH (b := b) (k := k) (w := w) (e := ja h 73 k) (by omega) (by omega) (by omega) ⟨hA k (by omega), hE⟩ (by omega) tw rfl (by omega) l0 l1 l2
    all_goals first
      | (intro τ h' ls' e0 e1 e2 e3 hH' hs fr iv fs nn t0 t1 k0 k1 k2
         have hkk := jm_no_ja hs
         have hbase := ih (k + 1) h' ls' (by omega) (by omega) hH' (by assumption) (jI.cg (by assumption) (by omega)) (jI.cg (by assumption) (by omega)) ((hkk _ _).trans tw) (fun j hj => by rw [hkk]; exact hA j hj) (fun j h1 h2 => by
           rw [hkk]
           rcases Nat.lt_or_ge j k with h4 | h4
           · exact hi j h1 h4
           · rw [show j = k from by omega]; unfold jop; omega)
         refine hbase.mono ?_
         rintro rv h3 ⟨z1, z2, z3⟩
         refine ⟨z1, hs.tr z2, ?_⟩
         rcases z3 with ⟨y1, y2⟩ | ⟨y1, j, y2, y3, y4⟩
         · exact Or.inl ⟨y1, fun j h1 h2 => by have := y2 j h1 h2; rw [hkk] at this; exact this⟩
         · exact Or.inr ⟨y1, j, y2, y3, by rw [hkk] at y4; exact y4⟩)
      | (intro τ h' rv e0 e1 e2 e3 hH' hs fr iv fs nn t0 t1 hv
         exact ⟨hH', hs, Or.inr ⟨hv, k, hbk, by omega, by unfold jop; omega⟩⟩)
theorem hasOpenSum_ok {P : si_P} (hxa : P.2.1 < P.1) {d : Nat} (hd : 6 ≤ d) {b w : Nat} (hw : w ≤ 240) (hb : b ≤ w) {h : si_H} {ls : si_L} (hH : az_HI P az_tb h) (l0 : jR P ls 0 60) (l1 : jI ls 1 b) (tw : ja h 60 23 = w) (hA : ∀ j : Nat, j < w → 0 ≤ ja h 73 j) : az_X P d 252 0 ls [] h (hoQ P b w h) := by
  refine sx_ho hxa hd hH (b := b) (by omega) l0 l1 ?_
  intro τ h' ls' e0 hH' hs fr iv fs nn k0 k1 k2
  have hkk := jm_no_ja hs
  refine (hasOpenSum_lp hxa hd (by omega) hw (w - b) b h' ls' (by omega) (Nat.le_refl _) hH' (by assumption) (jI.cg (by assumption) (by omega)) (jI.cg (by assumption) (by omega)) ((hkk _ _).trans tw) (fun j hj => by rw [hkk]; exact hA j hj) (fun j h1 h2 => absurd h2 (by omega))).mono ?_
  rintro rv h3 ⟨z1, z2, z3⟩
  refine ⟨z1, hs.tr z2, ?_⟩
  rcases z3 with ⟨y1, y2⟩ | ⟨y1, j, y2, y3, y4⟩
  · exact Or.inl ⟨y1, fun j h1 h2 => by have := y2 j h1 h2; rw [hkk] at this; exact this⟩
  · exact Or.inr ⟨y1, j, y2, y3, by rw [hkk] at y4; exact y4⟩
