/-! BY HAND, 3: codes and their heights, entries that wait -/
def jop (x : Int) : Int := x / 1048576
def jar (x : Int) : Int := x % 1048576
def jk1 (o : Int) : Int := if (2 ≤ o ∧ o ≤ 6) ∨ o = 10 then 1 else 0
/-- how many of the first entries become codes -/
def jcn (A : Int → Int) : Nat → Int
  | 0 => 0
  | n + 1 => jcn A n + jk1 (jop (A n))
def jdl (o : Int) : Int := if o ≤ 1 then 1 else if o = 10 then 0 else -1
def jnd (o : Int) : Int := if o ≤ 1 then 0 else if 10 ≤ o ∧ o ≤ 12 then 1 else 2
/-- the height behind the first codes -/
def jH (S : Int → Int) : Nat → Int
  | 0 => 0
  | n + 1 => jH S n + jdl (jop (S n))
theorem jk1_nn (o : Int) : 0 ≤ jk1 o := by unfold jk1; split <;> omega
theorem jcn_nn (A : Int → Int) : ∀ n, 0 ≤ jcn A n
  | 0 => Int.le_refl _
  | n + 1 => by have := jcn_nn A n; have := jk1_nn (jop (A n)); unfold jcn; omega
theorem jcn_cg {A B : Int → Int} : ∀ {n : Nat}, (∀ j : Nat, j < n → A j = B j) → jcn A n = jcn B n
  | 0, _ => rfl
  | n + 1, h => by
    unfold jcn
    rw [jcn_cg (fun j hj => h j (by omega)), h n (by omega)]
theorem jH_cg {S T : Int → Int} : ∀ {n : Nat}, (∀ j : Nat, j < n → jop (S j) = jop (T j)) → jH S n = jH T n
  | 0, _ => rfl
  | n + 1, h => by
    unfold jH
    rw [jH_cg (fun j hj => h j (by omega)), h n (by omega)]
theorem jcn_le {A : Int → Int} {a : Nat} : ∀ {b : Nat}, a ≤ b → jcn A a ≤ jcn A b
  | 0, h => by rw [Nat.le_zero.mp h]; exact Int.le_refl _
  | b + 1, h => by
    rcases Nat.lt_or_ge a (b + 1) with h1 | h1
    · have := jcn_le (A := A) (a := a) (b := b) (by omega)
      have := jk1_nn (jop (A b))
      show _ ≤ jcn A b + jk1 (jop (A b))
      omega
    · rw [Nat.le_antisymm h h1]; exact Int.le_refl _
/-- entries that all become codes -/
theorem jcn_all {A : Int → Int} {a : Nat} : ∀ {b : Nat}, a ≤ b → (∀ j : Nat, a ≤ j → j < b → jk1 (jop (A j)) = 1) → jcn A b = jcn A a + ((b : Int) - a)
  | 0, h, _ => by rw [Nat.le_zero.mp h]; omega
  | b + 1, h, hk => by
    rcases Nat.lt_or_ge a (b + 1) with h1 | h1
    · have := jcn_all (A := A) (a := a) (b := b) (by omega) (fun j h2 h3 => hk j h2 (by omega))
      have := hk b (by omega) (by omega)
      show jcn A b + jk1 (jop (A b)) = _
      omega
    · rw [Nat.le_antisymm h h1]; omega
/-- entries none of which becomes a code -/
theorem jcn_non {A : Int → Int} {a : Nat} : ∀ {b : Nat}, a ≤ b → (∀ j : Nat, a ≤ j → j < b → jk1 (jop (A j)) = 0) → jcn A b = jcn A a
  | 0, h, _ => by rw [Nat.le_zero.mp h]
  | b + 1, h, hk => by
    rcases Nat.lt_or_ge a (b + 1) with h1 | h1
    · have := jcn_non (A := A) (a := a) (b := b) (by omega) (fun j h2 h3 => hk j h2 (by omega))
      have := hk b (by omega) (by omega)
      show jcn A b + jk1 (jop (A b)) = _
      omega
    · rw [Nat.le_antisymm h h1]
/-- codes that each take one away -/
theorem jH_down {S : Int → Int} {a : Nat} : ∀ {b : Nat}, a ≤ b → (∀ j : Nat, a ≤ j → j < b → jdl (jop (S j)) = -1) → jH S b = jH S a - ((b : Int) - a)
  | 0, h, _ => by rw [Nat.le_zero.mp h]; omega
  | b + 1, h, hk => by
    rcases Nat.lt_or_ge a (b + 1) with h1 | h1
    · have := jH_down (S := S) (a := a) (b := b) (by omega) (fun j h2 h3 => hk j h2 (by omega))
      have := hk b (by omega) (by omega)
      show jH S b + jdl (jop (S b)) = _
      omega
    · rw [Nat.le_antisymm h h1]; omega
theorem jH_flat {S : Int → Int} {a : Nat} : ∀ {b : Nat}, a ≤ b → (∀ j : Nat, a ≤ j → j < b → jdl (jop (S j)) = 0) → jH S b = jH S a
  | 0, h, _ => by rw [Nat.le_zero.mp h]
  | b + 1, h, hk => by
    rcases Nat.lt_or_ge a (b + 1) with h1 | h1
    · have := jH_flat (S := S) (a := a) (b := b) (by omega) (fun j h2 h3 => hk j h2 (by omega))
      have := hk b (by omega) (by omega)
      show jH S b + jdl (jop (S b)) = _
      omega
    · rw [Nat.le_antisymm h h1]
/-- codes of a sum, or of a comparison: no jumps -/
def jgd (S : Int → Int) (f a b : Nat) : Prop := ∀ k : Nat, a ≤ k → k < b → 0 ≤ S k ∧ jop (S k) ≤ 10 ∧ jnd (jop (S k)) ≤ jH S k - jH S f ∧ (jop (S k) = 1 → jar (S k) ≤ 7)
theorem jgd_cg {S T : Int → Int} {f a b : Nat} (h : jgd S f a b) (hf : f ≤ b) (e : ∀ j : Nat, j < b → T j = S j) : jgd T f a b := by
  intro k h1 h2
  have e1 : jH T k = jH S k := jH_cg (fun j hj => by rw [e j (by omega)])
  have e2 : jH T f = jH S f := jH_cg (fun j hj => by rw [e j (by omega)])
  rw [e k h2, e1, e2]
  exact h k h1 h2
theorem jgd_app {S : Int → Int} {f a b c : Nat} (h1 : jgd S f a b) (h2 : jgd S f b c) : jgd S f a c := fun k p q => by
  rcases Nat.lt_or_ge k b with h | h
  · exact h1 k p h
  · exact h2 k h q
theorem jso {md : List (Nat × Nat)} {h h' : si_H} (hs : az_same_out md h h') {i : Nat} {k : Int} (hk : az_in md i k.toNat = false) : ja h' i k = ja h i k := by
  show ji h' i _ = ji h i _
  unfold ji
  rw [hs.2.2 i _ hk]
theorem jso_row {md : List (Nat × Nat)} {h h' : si_H} (hs : az_same_out md h h') {i : Nat} (hk : md.all (fun x => decide (x.1 ≠ i)) = true) (k : Int) : ja h' i k = ja h i k := by
  refine jso hs ?_
  unfold az_in
  rw [Bool.or_eq_false_iff]
  constructor
  all_goals
    rw [Bool.eq_false_iff]
    intro hc
    have hm := List.all_eq_true.mp hk _ (by simpa using hc)
    simp at hm
/-- an answer that is a yes or a no, and what was noted as wrong -/
def jbad (h : si_H) (rv : Option Value) : Prop := jV rv 0 ∧ -20000 ≤ ja h 60 19 ∧ ja h 60 19 ≤ 16
/-- CLOSING SUMS -/
def csQ (P : si_P) (all : Int) (w c : Nat) (h : si_H) (rv : Option Value) (h' : si_H) : Prop := rv = none ∧ az_HI P az_tb h' ∧ az_same_out jm_cs h h' ∧ ∃ w' : Nat, w' ≤ w ∧ (∀ j : Nat, w' ≤ j → j < w → 2 ≤ jop (ja h 73 j) ∧ jop (ja h 73 j) ≤ 6) ∧ (∀ v : Nat, w' = v + 1 → ¬ (4 ≤ jop (ja h 73 v) ∧ jop (ja h 73 v) ≤ 6) ∧ (all = 1 → ¬ (2 ≤ jop (ja h 73 v) ∧ jop (ja h 73 v) ≤ 3))) ∧ ja h' 60 23 = w' ∧ ja h' 60 22 = (c : Int) + w - w' ∧ (∀ k : Nat, k < c → ja h' 72 k = ja h 72 k) ∧ (∀ k : Nat, c ≤ k → (k : Int) < c + w - w' → 0 ≤ ja h' 72 k ∧ 2 ≤ jop (ja h' 72 k) ∧ jop (ja h' 72 k) ≤ 6)
theorem closesSums_ok {P : si_P} (hxa : P.2.1 < P.1) {d : Nat} (hd : 6 ≤ d) {all : Int} (hall : 0 ≤ all ∧ all ≤ 1) : ∀ (w c : Nat) (h : si_H) (ls : si_L), az_HI P az_tb h → jR P ls 0 60 → jI ls 1 all → ja h 60 23 = w → ja h 60 22 = c → (∀ j : Nat, j < w → 0 ≤ ja h 73 j) → w ≤ 240 → (c : Int) + jcn (ja h 73) w ≤ 240 → az_X P d 250 0 ls [] h (csQ P all w c h) := by
  intro w
  induction w with
  | zero =>
    intro c h ls hH l0 l1 tw tc hA _ hc
    have hret : ∀ h' : si_H, az_HI P az_tb h' → az_same_out jm_cs h h' → (∀ (i : Nat) (k : Int), 0 ≤ k → ja h' i k = ja h i k) → csQ P all 0 c h none h' := by
      intro h' hH' hs fr
      refine ⟨rfl, hH', hs, 0, Nat.le_refl _, fun j _ hj => absurd hj (by omega), fun v hv => by omega, ?_, ?_, fun k _ => fr _ _ (by omega), fun k h1 h2 => by omega⟩
      · rw [fr _ _ (by omega)]; exact tw
      · rw [fr _ _ (by omega), tc]; omega
    refine sx_cs0 hxa hd hH hall tw l0 l1 ?_ ?_
    all_goals (intro τ h' _ hH' hs fr _ _ _ _; exact hret h' hH' hs fr)
  | succ n ih =>
    intro c h ls hH l0 l1 tw tc hA hw hc
    have hret : ∀ h' : si_H, az_HI P az_tb h' → az_same_out jm_cs h h' → (∀ (i : Nat) (k : Int), 0 ≤ k → ja h' i k = ja h i k) → (¬ (4 ≤ jop (ja h 73 n) ∧ jop (ja h 73 n) ≤ 6) ∧ (all = 1 → ¬ (2 ≤ jop (ja h 73 n) ∧ jop (ja h 73 n) ≤ 3))) → csQ P all (n + 1) c h none h' := by
      intro h' hH' hs fr hq
      refine ⟨rfl, hH', hs, n + 1, Nat.le_refl _, fun j h1 hj => absurd hj (by omega), fun v hv => by rw [show v = n from by omega]; exact hq, ?_, ?_, fun k _ => fr _ _ (by omega), fun k h1 h2 => by omega⟩
      · rw [fr _ _ (by omega)]; exact tw
      · rw [fr _ _ (by omega), tc]; omega
    have hat : ∀ (h' : si_H) (ls' : si_L), az_HI P az_tb h' → az_same_out jm_cs h h' → (∀ (i : Nat) (k : Int), 0 ≤ k → ja h' i k = ja h i k) → jR P ls' 0 60 → jI ls' 1 all → (2 ≤ jop (ja h 73 n) ∧ jop (ja h 73 n) ≤ 6) → az_X P d 250 37 ls' [] h' (csQ P all (n + 1) c h) := by
      intro h' ls' hH' hs fr m0 m1 hq
      have hcn : jcn (ja h 73) (n + 1) = jcn (ja h 73) n + 1 := by
        show jcn (ja h 73) n + jk1 (jop (ja h 73 n)) = _
        unfold jk1
        rw [if_pos (Or.inl hq)]
      have hc0 := jcn_nn (ja h 73) n
      refine sx_cs2 hxa hd hH' hall (w := (n + 1 : Nat)) (c := c) (e := ja h 73 n) (by omega) (by omega) ⟨hA n (by omega), (ja_row hH (i := 73) rfl (k := (n : Int)) (by omega) (by show (n : Int) < (260 : Nat); omega)).2⟩ ((fr _ _ (by omega)).trans tw) ((fr _ _ (by omega)).trans tc) (jacg (fr 73 n (by omega)) (by omega)) (by omega) m0 m1 ?_
      intro τ h2 ls2 e0 e1 e2 e3 hH2 hs2 fr2 iv fs nn t0 t1 t2 t3 k0 k1
      have q1 : ja h2 60 23 = n := (t0 23 rfl).trans (by omega)
      have q2 : ja h2 60 22 = (c + 1 : Nat) := (t1 22 rfl).trans (by omega)
      have q3 : ∀ k : Int, 0 ≤ k → ja h2 73 k = ja h 73 k := fun k hk => (fr2 73 k hk (by omega) (by omega) (by omega)).trans (fr 73 k hk)
      have q4 : ja h2 72 c = 1048576 * jop (ja h 73 n) := (t2 c (by omega)).trans (by unfold jop; omega)
      have q5 : ∀ k : Nat, k < c → ja h2 72 k = ja h 72 k := fun k hk => (fr2 72 k (by omega) (by omega) (by omega) (by omega)).trans (fr 72 k (by omega))
      have q6 : jcn (ja h2 73) n = jcn (ja h 73) n := jcn_cg (fun j _ => q3 j (by omega))
      refine (ih (c + 1) h2 ls2 hH2 k0 (k1.cg (by omega)) q1 q2 (fun j hj => by rw [q3 j (by omega)]; exact hA j (by omega)) (by omega) (by rw [q6]; omega)).mono ?_
      rintro rv h3 ⟨z1, z2, z3, w', z4, z5, z6, z7, z8, z9, z10⟩
      refine ⟨z1, z2, (hs.tr hs2).tr z3, w', by omega, ?_, ?_, z7, by rw [z8]; omega, ?_, ?_⟩
      · intro j h1 h2'
        rcases Nat.lt_or_ge j n with h4 | h4
        · have := z5 j h1 h4
          rw [q3 j (by omega)] at this
          exact this
        · rw [show j = n from by omega]; exact hq
      · intro v hv
        have := z6 v hv
        rw [q3 v (by omega)] at this
        exact this
      · intro k hk
        rw [z9 k (by omega), q5 k hk]
      · intro k h1 h2'
        rcases Nat.lt_or_ge c k with h4 | h4
        · exact z10 k (by omega) (by omega)
        · have h5 : k = c := by omega
          subst h5
          rw [z9 k (by omega), q4]
          unfold jop at hq ⊢
          omega
    have hE : ja h 73 n ≤ 2147483647 := (ja_row hH (i := 73) rfl (k := (n : Int)) (by omega) (by show (n : Int) < (260 : Nat); omega)).2
    apply sx_cs1 hxa hd hH hall (w := (n + 1 : Nat)) (e := ja h 73 n) (by omega) ⟨hA n (by omega), hE⟩ tw (jacg (show ja h 73 n = _ from rfl) (by omega)) (by omega) l0 l1
    all_goals first
      | (intro τ h' ls' e0 e1 e2 hH' hs fr iv fs nn t0 t1 k0 k1
         exact hat h' ls' hH' hs fr k0 (k1.cg (by omega)) (by unfold jop; omega))
      | (intro τ h' e0 e1 e2 hH' hs fr iv fs nn t0 t1
         exact hret h' hH' hs fr (by unfold jop; omega))
