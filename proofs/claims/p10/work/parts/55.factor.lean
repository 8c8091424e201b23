/-! BY HAND, 5: landing, numbers, factors -/
/-- LANDING -/
def laQ (P : si_P) (all : Int) (w c : Nat) (h : si_H) (rv : Option Value) (h' : si_H) : Prop := rv = none ∧ az_HI P az_tb h' ∧ az_same_out jm_la h h' ∧ ∃ w' : Nat, w' ≤ w ∧ (∀ j : Nat, w' ≤ j → j < w → jop (ja h 73 j) = 11 ∨ jop (ja h 73 j) = 12) ∧ (∀ v : Nat, w' = v + 1 → jop (ja h 73 v) ≠ 11 ∧ (all = 1 → jop (ja h 73 v) ≠ 12)) ∧ ja h' 60 23 = w' ∧ (∀ k : Nat, jop (ja h' 72 k) = jop (ja h 72 k) ∧ ((ja h' 72 k = ja h 72 k ∧ ∀ j : Nat, w' ≤ j → j < w → jar (ja h 73 j) ≠ k) ∨ (jar (ja h' 72 k) = c ∧ 0 ≤ ja h' 72 k ∧ ∃ j : Nat, w' ≤ j ∧ j < w ∧ jar (ja h 73 j) = k)))
theorem lands_ok {P : si_P} (hxa : P.2.1 < P.1) {d : Nat} (hd : 6 ≤ d) {all : Int} (hall : 0 ≤ all ∧ all ≤ 1) {c : Nat} (hc : c ≤ 240) : ∀ (w : Nat) (h : si_H) (ls : si_L), az_HI P az_tb h → jR P ls 0 60 → jI ls 1 all → ja h 60 23 = w → ja h 60 22 = c → (∀ j : Nat, j < w → 0 ≤ ja h 73 j) → w ≤ 240 → (∀ j : Nat, j < w → (jop (ja h 73 j) = 11 ∨ jop (ja h 73 j) = 12) → jar (ja h 73 j) < c ∧ ∀ k : Nat, jar (ja h 73 j) = k → 0 ≤ ja h 72 k) → az_X P d 255 0 ls [] h (laQ P all w c h) := by
  intro w
  induction w with
  | zero =>
    intro h ls hH l0 l1 tw tc hA _ hj
    have hret : ∀ h' : si_H, az_HI P az_tb h' → az_same_out jm_la h h' → (∀ (i : Nat) (k : Int), 0 ≤ k → ja h' i k = ja h i k) → laQ P all 0 c h none h' := by
      intro h' hH' hs fr
      refine ⟨rfl, hH', hs, 0, Nat.le_refl _, fun j _ hj => absurd hj (by omega), fun v hv => by omega, ?_, fun k => ?_⟩
      · rw [fr _ _ (by omega)]; exact tw
      · rw [fr 72 k (by omega)]
        exact ⟨rfl, Or.inl ⟨rfl, fun j _ h2 => absurd h2 (by omega)⟩⟩
    apply sx_la0 hxa hd hH hall tw l0 l1
    all_goals (intro τ h' _ hH' hs fr _ _ _ _; exact hret h' hH' hs fr)
  | succ n ih =>
    intro h ls hH l0 l1 tw tc hA hw hj
    have hE : ja h 73 n ≤ 2147483647 := (ja_row hH (i := 73) rfl (k := (n : Int)) (by omega) (by show (n : Int) < (260 : Nat); omega)).2
    have hret : ∀ h' : si_H, az_HI P az_tb h' → az_same_out jm_la h h' → (∀ (i : Nat) (k : Int), 0 ≤ k → ja h' i k = ja h i k) → (jop (ja h 73 n) ≠ 11 ∧ (all = 1 → jop (ja h 73 n) ≠ 12)) → laQ P all (n + 1) c h none h' := by
      intro h' hH' hs fr hq
      refine ⟨rfl, hH', hs, n + 1, Nat.le_refl _, fun j h1 hj => absurd hj (by omega), fun v hv => by rw [show v = n from by omega]; exact hq, ?_, fun k => ?_⟩
      · rw [fr _ _ (by omega)]; exact tw
      · rw [fr 72 k (by omega)]
        exact ⟨rfl, Or.inl ⟨rfl, fun j h1 h2 => absurd h2 (by omega)⟩⟩
    have hat : ∀ (h' : si_H) (ls' : si_L), az_HI P az_tb h' → az_same_out jm_la h h' → (∀ (i : Nat) (k : Int), 0 ≤ k → ja h' i k = ja h i k) → jR P ls' 0 60 → jI ls' 1 all → (jop (ja h 73 n) = 11 ∨ jop (ja h 73 n) = 12) → az_X P d 255 22 ls' [] h' (laQ P all (n + 1) c h) := by
      intro h' ls' hH' hs fr m0 m1 hq
      obtain ⟨j1, j2⟩ := hj n (by omega) hq
      obtain ⟨g, hg⟩ : ∃ g : Nat, jar (ja h 73 n) = g := ⟨(jar (ja h 73 n)).toNat, by unfold jar; omega⟩
      have hgr := ja_row hH (i := 72) rfl (k := (g : Int)) (by omega) (by show (g : Int) < (260 : Nat); omega)
      have hg2 : ja h 72 g ≤ 2147483647 := hgr.2
      have hA0 := hA n (by omega)
      refine sx_la2 hxa hd hH' hall (w := (n + 1 : Nat)) (c := c) (e := ja h 73 n) (g := g) (s := ja h 72 g) (by omega) (by omega) ⟨hA0, hE⟩ (by omega) ⟨j2 g hg, hg2⟩ ⟨hA0, by decide, by rw [← hg]; rfl⟩ ((fr _ _ (by omega)).trans tw) ((fr _ _ (by omega)).trans tc) (jacg (fr 73 n (by omega)) (by omega)) (by omega) (fr 72 g (by omega)) (by omega) m0 m1 ?_
      intro τ h2 ls2 e0 e1 e2 e3 e4 e5 hH2 hs2 fr2 iv fs nn t0 t1 t2 t3 k2 k0 k1
      have q1 : ja h2 60 23 = n := (t0 23 rfl).trans (by omega)
      have q2 : ja h2 60 22 = c := (t2 22 rfl).trans (by omega)
      have q3 : ∀ k : Int, 0 ≤ k → ja h2 73 k = ja h 73 k := fun k hk => (fr2 73 k hk (by omega) (by omega)).trans (fr 73 k hk)
      have q4 : ja h2 72 g = 1048576 * jop (ja h 72 g) + c := (t1 g (by omega)).trans (by unfold jop; omega)
      have q5 : ∀ k : Nat, k ≠ g → ja h2 72 k = ja h 72 k := fun k hk => (fr2 72 k (by omega) (by omega) (by omega)).trans (fr 72 k (by omega))
      have q6 : jop (ja h2 72 g) = jop (ja h 72 g) ∧ jar (ja h2 72 g) = c ∧ 0 ≤ ja h2 72 g := by
        have := j2 g hg
        rw [q4]; unfold jop jar; omega
      refine (ih h2 ls2 hH2 k0 (k1.cg (by omega)) q1 q2 (fun j hj => by rw [q3 j (by omega)]; exact hA j (by omega)) (by omega) (fun j h1 h2' => by
        rw [q3 j (by omega)] at h2' ⊢
        obtain ⟨y1, y2⟩ := hj j (by omega) h2'
        refine ⟨y1, fun k hk => ?_⟩
        by_cases hkg : k = g
        · rw [hkg]; exact q6.2.2
        · rw [q5 k hkg]; exact y2 k hk)).mono ?_
      rintro rv h3 ⟨z1, z2, z3, w', z4, z5, z6, z7, z8⟩
      refine ⟨z1, z2, (hs.tr hs2).tr z3, w', by omega, ?_, ?_, z7, ?_⟩
      · intro j h1 h2'
        rcases Nat.lt_or_ge j n with h4 | h4
        · have := z5 j h1 h4
          rw [q3 j (by omega)] at this
          exact this
        · rw [show j = n from by omega]; exact hq
      · intro v hv
        have := z6 v hv
        rw [q3 v (by omega)] at this
        exact this
      · intro k
        obtain ⟨y1, y2⟩ := z8 k
        by_cases hkg : k = g
        · subst hkg
          refine ⟨y1.trans q6.1, Or.inr ?_⟩
          rcases y2 with ⟨x1, x2⟩ | ⟨x1, x2, j, x3, x4, x5⟩
          · rw [x1]; exact ⟨q6.2.1, q6.2.2, n, z4, by omega, hg⟩
          · exact ⟨x1, x2, n, z4, by omega, hg⟩
        · rw [q5 k hkg] at y1 y2
          refine ⟨y1, ?_⟩
          rcases y2 with ⟨x1, x2⟩ | ⟨x1, x2, j, x3, x4, x5⟩
          · refine Or.inl ⟨x1, fun j h1 h2' => ?_⟩
            rcases Nat.lt_or_ge j n with h4 | h4
            · have := x2 j h1 h4
              rw [q3 j (by omega)] at this
              exact this
            · rw [show j = n from by omega, hg]; omega
          · exact Or.inr ⟨x1, x2, j, x3, by omega, by rw [q3 j (by omega)] at x5; exact x5⟩
    apply sx_la1 hxa hd hH hall (w := (n + 1 : Nat)) (e := ja h 73 n) (by omega) ⟨hA n (by omega), hE⟩ tw (jacg (show ja h 73 n = _ from rfl) (by omega)) (by omega) l0 l1
    all_goals first
      | (intro τ h' ls' e0 e1 e2 hH' hs fr iv fs nn t0 t1 k0 k1
         exact hat h' ls' hH' hs fr k0 (k1.cg (by omega)) (by unfold jop; omega))
      | (intro τ h' e0 e1 e2 hH' hs fr iv fs nn t0 t1
         exact hret h' hH' hs fr (by unfold jop; omega))
/-- A NUMBER -/
def rnQ (P : si_P) (f l : Nat) (h : si_H) (rv : Option Value) (h' : si_H) : Prop := az_HI P az_tb h' ∧ az_same_out jm_rn h h' ∧ (jbad h' rv ∨ (jV rv 1 ∧ ∃ p' : Nat, f < p' ∧ p' ≤ l ∧ ja h' 60 17 = p'))
def jb10 (n : Nat) : Int := match n with
  | 0 => 0
  | 1 => 9
  | 2 => 99
  | 3 => 999
  | 4 => 9999
  | _ => 99999
theorem readsNumber_lp {P : si_P} (hxa : P.2.1 < P.1) {d : Nat} (hd : 6 ≤ d) {f l : Nat} (hl : l ≤ 240) : ∀ (n p : Nat) (h : si_H) (ls : si_L), f + 5 = p + n → f ≤ p → p ≤ l → az_HI P az_tb h → jR P ls 0 60 → jI ls 1 f → ja h 60 17 = p → ja h 60 18 = l → ja h 60 20 ≤ jb10 (p - f) → (f < p ∨ (p < l ∧ 48 ≤ jan (ja h 71 p) 255 ∧ jan (ja h 71 p) 255 ≤ 57)) → az_X P d 244 10 ls [] h (rnQ P f l h) := by
  intro n
  induction n with
  | zero =>
    intro p h ls hn hfp hpl hH l0 l1 tp tl hm hdig
    have hm0 := ja_bd hH (i := 60) (k := 20) rfl
    have hm1 : 0 ≤ ja h 60 20 := hm0.1
    have hm2 : ja h 60 20 ≤ 99999 := hm0.2
    have hret : ∀ (h' : si_H) (rv : Option Value), az_HI P az_tb h' → az_same_out jm_rn h h' → (∀ (i : Nat) (k : Int), 0 ≤ k → ja h' i k = ja h i k) → jV rv 1 → rnQ P f l h rv h' := fun h' rv hH' hs fr hv => ⟨hH', hs, Or.inr ⟨hv, p, by omega, hpl, (fr _ _ (by omega)).trans tp⟩⟩
    apply sx_rn2 hxa hd hH (f := f) (p := p) (l := l) (m := ja h 60 20) (by omega) (by omega) (by omega) ⟨hm1, hm2⟩ (by omega) (by omega) (by omega) tp tl rfl l0 l1
    all_goals first
      | (intro τ h' rv e0 e1 e2 e3 hH' hs fr iv fs nn t0 t1 t2 hv
         exact hret h' rv hH' hs fr hv)
      | (intro τ h' rv e0 e1 e2 e3 hH' hs fr iv fs nn t0 t1 t2 t3 hv
         exact hret h' rv hH' hs fr hv)
      | (intro τ h' rv e0 e1 e2 e3 hH' hs fr iv fs nn t0 t1 t2 t3 t4 hv
         exact ⟨hH', hs, Or.inl ⟨hv, by rw [t0 19 rfl]; omega⟩⟩)
  | succ n ih =>
    intro p h ls hn hfp hpl hH l0 l1 tp tl hm hdig
    have hm0 := ja_bd hH (i := 60) (k := 20) rfl
    have hm1 : 0 ≤ ja h 60 20 := hm0.1
    have hm3 : jb10 (p - f) ≤ 9999 ∧ jb10 (p + 1 - f) = 10 * jb10 (p - f) + 9 := by
      have : p - f = 0 ∨ p - f = 1 ∨ p - f = 2 ∨ p - f = 3 ∨ p - f = 4 := by omega
      rcases this with e | e | e | e | e <;> (rw [show p + 1 - f = (p - f) + 1 from by omega, e]; decide)
    apply sx_rn1 hxa hd hH (f := f) (p := p) (l := l) (m := ja h 60 20) (by omega) (by omega) (by omega) (by omega) (by omega) (by omega) (by omega) tp tl rfl l0 l1
    all_goals first
      | (intro τ h' ls' e0 e1 e2 e3 hH' hs fr iv fs nn t0 t1 t2 t3 k0 k1
         refine (ih (p + 1) h' ls' (by omega) (by omega) (by omega) hH' k0 (k1.cg (by omega)) ((t0 17 rfl).trans (by omega)) ((t3 18 rfl).trans (by omega)) (by rw [t1 20 rfl]; omega) (Or.inl (by omega))).mono ?_
         rintro rv h3 ⟨z1, z2, z3⟩
         exact ⟨z1, hs.tr z2, z3⟩)
      | (intro τ h' rv e0 e1 e2 e3 hH' hs fr iv fs nn t0 t1 t2 hv
         refine ⟨hH', hs, Or.inr ⟨hv, p, ?_, hpl, (fr _ _ (by omega)).trans tp⟩⟩
         rcases hdig with h1 | h1
         · exact h1
         · omega)
      | (intro τ h' rv e0 e1 e2 e3 hH' hs fr iv fs nn t0 t1 t2 t3 hv
         refine ⟨hH', hs, Or.inr ⟨hv, p, ?_, hpl, (fr _ _ (by omega)).trans tp⟩⟩
         rcases hdig with h1 | h1
         · exact h1
         · have e4 : τ 4 = ja h 71 p := ((t0 p (by omega)).symm.trans (fr 71 p (by omega))) ▸ (by omega)
           have e5 := nn.1
           rw [show (1 * τ 4 + 0 + 0) = ja h 71 p from by omega] at e5
           omega)
theorem readsNumber_ok {P : si_P} (hxa : P.2.1 < P.1) {d : Nat} (hd : 6 ≤ d) {f l : Nat} (hl : l ≤ 240) {h : si_H} {ls : si_L} (hH : az_HI P az_tb h) (l0 : jR P ls 0 60) (tp : ja h 60 17 = f) (tl : ja h 60 18 = l) (hfl : f < l) (hdig : 48 ≤ jan (ja h 71 f) 255 ∧ jan (ja h 71 f) 255 ≤ 57) : az_X P d 244 0 ls [] h (rnQ P f l h) := by
  refine sx_rn0 hxa hd hH (p := f) (by omega) tp l0 ?_
  intro τ h' ls' e0 hH' hs fr iv fs nn t0 t1 k1 k0
  refine (readsNumber_lp hxa hd hl 5 f h' ls' (by omega) (Nat.le_refl _) (by omega) hH' k0 (k1.cg (by omega)) ((t1 17 rfl).trans (by omega)) ((fr _ _ (by omega) (by omega)).trans tl) (by rw [t0 20 rfl, Nat.sub_self]; decide) (Or.inr ⟨hfl, by rw [fr 71 f (by omega) (by omega)]; exact hdig⟩)).mono ?_
  rintro rv h3 ⟨z1, z2, z3⟩
  exact ⟨z1, hs.tr z2, z3⟩
