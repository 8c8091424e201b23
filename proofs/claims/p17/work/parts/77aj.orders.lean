set_option maxRecDepth 100000
/-! ROWS IN ANY ORDER -/
/-- a set without one of its members -/
def jer (p : Nat → Bool) (f i : Nat) : Bool := p i && !decide (i = f)
/-- a sum over the members and their times -/
def js2 (n Y : Nat) (p : Nat → Bool) (A : Nat → Nat → Bool) (g : Nat → Nat → Int) : Int := jsu (fun i => jsu (fun t => if (p i && A i t) = true then g i t else 0) Y) n
theorem jer_t {p : Nat → Bool} {f i : Nat} : jer p f i = true ↔ p i = true ∧ i ≠ f := by
  unfold jer
  rw [Bool.and_eq_true, Bool.not_eq_true', decide_eq_false_iff_not]
theorem jer_f (p : Nat → Bool) (f : Nat) : ¬ jer p f f = true := fun e => (jer_t.mp e).2 rfl
theorem jer_comm (p : Nat → Bool) (f l : Nat) : jer (jer p f) l = jer (jer p l) f := by
  funext i
  unfold jer
  rw [Bool.and_assoc, Bool.and_assoc, Bool.and_comm (!decide (i = f))]
theorem js2_cg {n Y : Nat} {p : Nat → Bool} {A : Nat → Nat → Bool} {g f : Nat → Nat → Int} (h : ∀ i t : Nat, i < n → t < Y → p i = true → A i t = true → g i t = f i t) : js2 n Y p A g = js2 n Y p A f := by
  unfold js2
  refine jsu_cg (fun i hi => jsu_cg (fun t ht => ?_))
  by_cases c : (p i && A i t) = true
  · rw [if_pos c, if_pos c]
    have c2 := (Bool.and_eq_true _ _).mp c
    exact h i t hi ht c2.1 c2.2
  · rw [if_neg c, if_neg c]
theorem js2_0 {n Y : Nat} {p : Nat → Bool} {A : Nat → Nat → Bool} {g : Nat → Nat → Int} (h : ∀ i t : Nat, i < n → t < Y → p i = true → A i t = true → g i t = 0) : js2 n Y p A g = 0 := by
  rw [js2_cg (f := fun _ _ => 0) h]
  unfold js2
  rw [jsu_cg (f := fun _ => 0) (fun i _ => by
    rw [jsu_cg (f := fun _ => 0) (fun t _ => by split <;> rfl), jsu_0]), jsu_0]
/-- a member whose terms are nothing may go -/
theorem js2_er {n Y : Nat} {p : Nat → Bool} {A : Nat → Nat → Bool} {g : Nat → Nat → Int} (f : Nat) (h : ∀ t : Nat, t < Y → p f = true → A f t = true → g f t = 0) : js2 n Y p A g = js2 n Y (jer p f) A g := by
  unfold js2
  refine jsu_cg (fun i hi => jsu_cg (fun t ht => ?_))
  by_cases e : i = f
  · subst e
    rw [if_neg (show ¬ (jer p i i && A i t) = true from fun c => jer_f p i ((Bool.and_eq_true _ _).mp c).1)]
    by_cases c : (p i && A i t) = true
    · rw [if_pos c]
      have c2 := (Bool.and_eq_true _ _).mp c
      exact h t ht c2.1 c2.2
    · rw [if_neg c]
  · have q : jer p f i = p i := by
      unfold jer
      rw [decide_eq_false e, Bool.not_false, Bool.and_true]
    rw [q]
theorem jsu_if {c : Prop} [Decidable c] (g : Nat → Int) (n : Nat) : (if c then jsu g n else 0) = jsu (fun j => if c then g j else 0) n := by
  by_cases h : c
  · rw [if_pos h]
    exact jsu_cg (fun j _ => (if_pos h).symm)
  · rw [if_neg h, jsu_cg (g := fun j => if c then g j else 0) (f := fun _ => 0) (fun j _ => if_neg h), jsu_0]
theorem js2_if {n Y : Nat} {p : Nat → Bool} {A : Nat → Nat → Bool} {g : Nat → Nat → Int} {c : Prop} [Decidable c] : (if c then js2 n Y p A g else 0) = js2 n Y p A (fun i t => if c then g i t else 0) := by
  by_cases h : c
  · rw [if_pos h]
    exact js2_cg (fun i t _ _ _ _ => (if_pos h).symm)
  · rw [if_neg h, js2_0 (g := fun i t => if c then g i t else 0) (fun i t _ _ _ _ => if_neg h)]
theorem js2_swap {n Y : Nat} {p q : Nat → Bool} {A : Nat → Nat → Bool} {f : Nat → Nat → Nat → Nat → Int} : js2 n Y p A (fun i t => js2 n Y q A (fun j u => f i t j u)) = js2 n Y q A (fun j u => js2 n Y p A (fun i t => f i t j u)) := by
  have e : ∀ (p q : Nat → Bool) (f : Nat → Nat → Nat → Nat → Int), js2 n Y p A (fun i t => js2 n Y q A (fun j u => f i t j u)) = jsu (fun i => jsu (fun t => jsu (fun j => jsu (fun u => if (p i && A i t) = true then (if (q j && A j u) = true then f i t j u else 0) else 0) Y) n) Y) n := by
    intro p q f
    unfold js2
    refine jsu_cg (fun i _ => jsu_cg (fun t _ => ?_))
    rw [jsu_if]
    refine jsu_cg (fun j _ => ?_)
    rw [jsu_if]
  rw [e p q f, e q p (fun j u i t => f i t j u)]
  have s1 : ∀ g : Nat → Nat → Nat → Nat → Int, jsu (fun i => jsu (fun t => jsu (fun j => jsu (fun u => g i t j u) Y) n) Y) n = jsu (fun j => jsu (fun u => jsu (fun i => jsu (fun t => g i t j u) Y) n) Y) n := by
    intro g
    rw [jsu_cg (f := fun i => jsu (fun j => jsu (fun t => jsu (fun u => g i t j u) Y) Y) n) (fun i _ => jsu_swap (fun t j => jsu (fun u => g i t j u) Y) n Y)]
    rw [jsu_swap (fun i j => jsu (fun t => jsu (fun u => g i t j u) Y) Y) n n]
    refine jsu_cg (fun j _ => ?_)
    rw [jsu_cg (f := fun i => jsu (fun u => jsu (fun t => g i t j u) Y) Y) (fun i _ => jsu_swap (fun t u => g i t j u) Y Y)]
    exact jsu_swap (fun i u => jsu (fun t => g i t j u) Y) Y n
  rw [s1]
  refine jsu_cg (fun j _ => jsu_cg (fun u _ => jsu_cg (fun i _ => jsu_cg (fun t _ => ?_))))
  by_cases c : (p i && A i t) = true
  · rw [if_pos c]
    by_cases c2 : (q j && A j u) = true
    · rw [if_pos c2, if_pos c2, if_pos c]
    · rw [if_neg c2, if_neg c2]
  · rw [if_neg c]
    by_cases c2 : (q j && A j u) = true
    · rw [if_pos c2, if_neg c]
    · rw [if_neg c2]
theorem js2_one {n Y : Nat} {p : Nat → Bool} {A : Nat → Nat → Bool} {g : Nat → Nat → Int} {l u : Nat} (hl : l < n) (hu : u < Y) (pl : p l = true) (al : A l u = true) : js2 n Y p A (fun i t => if i = l ∧ t = u then g i t else 0) = g l u := by
  have q : ∀ i t : Nat, (if (p i && A i t) = true then (if i = l ∧ t = u then g i t else 0) else 0) = if t = u then (if i = l then g l u else 0) else 0 := by
    intro i t
    by_cases e1 : i = l
    · by_cases e2 : t = u
      · rw [e1, e2, if_pos ((Bool.and_eq_true _ _).mpr ⟨pl, al⟩), if_pos (show l = l ∧ u = u from ⟨rfl, rfl⟩), if_pos rfl, if_pos rfl]
      · rw [if_neg e2, if_neg (fun c : i = l ∧ t = u => e2 c.2)]
        split <;> rfl
    · rw [if_neg (fun c : i = l ∧ t = u => e1 c.1), if_neg e1]
      split <;> split <;> rfl
  refine (jsu_cg (f := fun i => if i = l then g l u else 0) (fun i _ => ?_)).trans ((jsu_one (fun _ => g l u) l n).trans (if_pos hl))
  exact (jsu_cg (f := fun t => if t = u then (if i = l then g l u else 0) else 0) (fun t _ => q i t)).trans ((jsu_one (fun _ => if i = l then g l u else 0) u Y).trans (if_pos hu))
theorem js2_nn {n Y : Nat} {p : Nat → Bool} {A : Nat → Nat → Bool} {g : Nat → Nat → Int} (h : ∀ i t : Nat, 0 ≤ g i t) : 0 ≤ js2 n Y p A g := by
  unfold js2
  refine jsu_nn (fun i _ => jsu_nn (fun t _ => ?_))
  have := h i t
  split <;> omega
theorem js2_bd {n Y : Nat} {p : Nat → Bool} {A : Nat → Nat → Bool} {g : Nat → Nat → Int} {c : Int} (hc : 0 ≤ c) (hn : n ≤ 6) (hA : ∀ i : Nat, jsu (fun t => if A i t = true then 1 else 0) Y ≤ 12) (h : ∀ i t : Nat, g i t ≤ c) : js2 n Y p A g ≤ 72 * c := by
  unfold js2
  have one : ∀ k : Nat, jsu (fun _ => 1) k = k := by
    intro k
    induction k with
    | zero => rfl
    | succ k ih =>
      rw [jsu_s, ih]
      omega
  have row : ∀ i : Nat, jsu (fun t => if (p i && A i t) = true then g i t else 0) Y ≤ c * 12 := by
    intro i
    refine Int.le_trans (jsu_le (f := fun t => c * (if A i t = true then 1 else 0)) (fun t _ => ?_)) ?_
    · have := h i t
      by_cases a : A i t = true
      · rw [if_pos a, Int.mul_one]
        split <;> omega
      · rw [if_neg a, Int.mul_zero, if_neg (fun e => a ((Bool.and_eq_true _ _).mp e).2)]
        exact Int.le_refl _
    · rw [jsu_mul]
      exact Int.mul_le_mul_of_nonneg_left (hA i) hc
  refine Int.le_trans (jsu_le (f := fun _ => (c * 12) * 1) (fun i _ => by rw [Int.mul_one]; exact row i)) ?_
  rw [jsu_mul, one]
  have := Int.mul_le_mul_of_nonneg_left (show (n : Int) ≤ 6 by omega) (show 0 ≤ c * 12 by omega)
  omega
section Jord
variable (n Y : Nat) (A S : Nat → Nat → Bool)
/-- rows from one to another -/
def jWW : Nat → (Nat → Bool) → Nat → Nat → Nat → Nat → Int
  | 0, _, f, t, l, u => if f = l ∧ t = u then 1 else 0
  | k + 1, p, f, t, l, u => js2 n Y (jer p f) A (fun f' t' => if S t t' = true then jWW k (jer p f) f' t' l u else 0)
/-- rows that begin so -/
def jGo : Nat → (Nat → Bool) → Nat → Nat → Int
  | 0, _, _, _ => 1
  | k + 1, p, f, t => js2 n Y (jer p f) A (fun f' t' => if S t t' = true then jGo k (jer p f) f' t' else 0)
/-- rows that end so, and begin with one of some -/
def jEo (F : Nat → Bool) : Nat → (Nat → Bool) → Nat → Nat → Int
  | 0, _, l, _ => if F l = true then 1 else 0
  | k + 1, p, l, u => js2 n Y (jer p l) A (fun l' u' => if S u' u = true then jEo F k (jer p l) l' u' else 0)
theorem jWW_N : ∀ (k : Nat) (p : Nat → Bool) (f t l u : Nat), p f = true → ¬ p l = true → jWW n Y A S k p f t l u = 0
  | 0, p, f, t, l, u, hf, hl => by
    show (if f = l ∧ t = u then (1 : Int) else 0) = 0
    exact if_neg (fun e : f = l ∧ t = u => hl (e.1 ▸ hf))
  | k + 1, p, f, t, l, u, hf, hl => js2_0 (fun i s _ _ hi _ => by
    by_cases c : S t s = true
    · rw [if_pos c]
      exact jWW_N k (jer p f) i s l u hi (fun e => hl (jer_t.mp e).1)
    · rw [if_neg c])
theorem jWW_Z (k : Nat) (p : Nat → Bool) (f t u : Nat) : jWW n Y A S (k + 1) p f t f u = 0 := js2_0 (fun i s _ _ hi _ => by
  by_cases c : S t s = true
  · rw [if_pos c]
    exact jWW_N n Y A S k (jer p f) i s f u hi (jer_f p f)
  · rw [if_neg c])
theorem jWW_T : ∀ (k : Nat) (p : Nat → Bool) (f t l u : Nat), f ≠ l → p f = true → p l = true → A f t = true → A l u = true → f < n → t < Y → l < n → u < Y → jWW n Y A S (k + 1) p f t l u = js2 n Y (jer p l) A (fun l' u' => if S u' u = true then jWW n Y A S k (jer p l) f t l' u' else 0)
  | 0, p, f, t, l, u, ne, hf, hl, af, al, nf, tY, nl, uY => by
    have e1 : jWW n Y A S 1 p f t l u = js2 n Y (jer p f) A (fun i s => if i = l ∧ s = u then (if S t s = true then 1 else 0) else 0) := js2_cg (fun i s _ _ _ _ => by
      show (if S t s = true then (if i = l ∧ s = u then (1 : Int) else 0) else 0) = _
      by_cases c : S t s = true
      · rw [if_pos c, if_pos c]
      · rw [if_neg c, if_neg c]
        split <;> rfl)
    have e2 : js2 n Y (jer p l) A (fun l' u' => if S u' u = true then jWW n Y A S 0 (jer p l) f t l' u' else 0) = js2 n Y (jer p l) A (fun i s => if i = f ∧ s = t then (if S s u = true then 1 else 0) else 0) := js2_cg (fun i s _ _ _ _ => by
      show (if S s u = true then (if f = i ∧ t = s then (1 : Int) else 0) else 0) = _
      by_cases e : i = f ∧ s = t
      · rw [if_pos e, if_pos (show f = i ∧ t = s from ⟨e.1.symm, e.2.symm⟩)]
      · rw [if_neg e, if_neg (fun q : f = i ∧ t = s => e ⟨q.1.symm, q.2.symm⟩)]
        split <;> rfl)
    rw [e1, e2, js2_one (g := fun i s => if S t s = true then 1 else 0) nl uY (jer_t.mpr ⟨hl, fun e => ne e.symm⟩) al, js2_one (g := fun i s => if S s u = true then 1 else 0) nf tY (jer_t.mpr ⟨hf, ne⟩) af]
  | k + 1, p, f, t, l, u, ne, hf, hl, af, al, nf, tY, nl, uY => by
    have e1 : jWW n Y A S (k + 2) p f t l u = js2 n Y (jer (jer p f) l) A (fun i s => js2 n Y (jer (jer p f) l) A (fun j v => if S t s = true then (if S v u = true then jWW n Y A S k (jer (jer p f) l) i s j v else 0) else 0)) := by
      show js2 n Y (jer p f) A (fun i s => if S t s = true then jWW n Y A S (k + 1) (jer p f) i s l u else 0) = _
      rw [js2_er l (fun s _ _ _ => by rw [jWW_Z]; split <;> rfl)]
      refine js2_cg (fun i s hi hs pi ai => ?_)
      have pi2 := jer_t.mp pi
      rw [jWW_T k (jer p f) i s l u pi2.2 pi2.1 (jer_t.mpr ⟨hl, fun e => ne e.symm⟩) ai al hi hs nl uY, js2_if]
    have e2 : js2 n Y (jer p l) A (fun l' u' => if S u' u = true then jWW n Y A S (k + 1) (jer p l) f t l' u' else 0) = js2 n Y (jer (jer p f) l) A (fun j v => js2 n Y (jer (jer p f) l) A (fun i s => if S t s = true then (if S v u = true then jWW n Y A S k (jer (jer p f) l) i s j v else 0) else 0)) := by
      rw [js2_er f (fun s _ _ _ => by rw [jWW_Z]; split <;> rfl), ← jer_comm]
      refine js2_cg (fun j v _ _ _ _ => ?_)
      show (if S v u = true then js2 n Y (jer (jer p l) f) A (fun i s => if S t s = true then jWW n Y A S k (jer (jer p l) f) i s j v else 0) else 0) = _
      rw [← jer_comm, js2_if]
      refine js2_cg (fun i s _ _ _ _ => ?_)
      by_cases c : S v u = true
      · rw [if_pos c, if_pos c]
      · rw [if_neg c, if_neg c]
        split <;> rfl
    rw [e1, e2, js2_swap]
theorem jEo_W (F : Nat → Bool) : ∀ (k : Nat) (p : Nat → Bool) (l u : Nat), p l = true → A l u = true → l < n → u < Y → jEo n Y A S F k p l u = js2 n Y (fun i => p i && F i) A (fun f t => jWW n Y A S k p f t l u)
  | 0, p, l, u, hl, al, nl, uY => by
    show (if F l = true then (1 : Int) else 0) = js2 n Y (fun i => p i && F i) A (fun f t => if f = l ∧ t = u then 1 else 0)
    by_cases c : F l = true
    · rw [if_pos c, js2_one (g := fun _ _ => 1) nl uY ((Bool.and_eq_true _ _).mpr ⟨hl, c⟩) al]
    · rw [if_neg c, js2_0 (fun i t _ _ hi _ => by
        show (if i = l ∧ t = u then (1 : Int) else 0) = 0
        exact if_neg (fun e : i = l ∧ t = u => c (e.1 ▸ ((Bool.and_eq_true _ _).mp hi).2)))]
  | k + 1, p, l, u, hl, al, nl, uY => by
    have er : jer (fun i => p i && F i) l = fun i => jer p l i && F i := by
      funext i
      unfold jer
      rw [Bool.and_assoc, Bool.and_assoc, Bool.and_comm (F i)]
    have e1 : jEo n Y A S F (k + 1) p l u = js2 n Y (jer p l) A (fun j v => js2 n Y (fun i => jer p l i && F i) A (fun f t => if S v u = true then jWW n Y A S k (jer p l) f t j v else 0)) := by
      refine js2_cg (fun j v hj hv pj aj => ?_)
      rw [jEo_W F k (jer p l) j v pj aj hj hv, js2_if]
    rw [e1, js2_swap, js2_er (p := fun i => p i && F i) l (fun s _ _ _ => jWW_Z n Y A S k p l s u), er]
    refine js2_cg (fun f t hf ht pf af => ?_)
    have pf2 := jer_t.mp ((Bool.and_eq_true _ _).mp pf).1
    exact (jWW_T n Y A S k p f t l u pf2.2 pf2.1 hl af al hf ht nl uY).symm
theorem jGo_W : ∀ (k : Nat) (p : Nat → Bool) (f t : Nat), p f = true → A f t = true → f < n → t < Y → jGo n Y A S k p f t = js2 n Y p A (fun l u => jWW n Y A S k p f t l u)
  | 0, p, f, t, hf, af, nf, tY => by
    have e : js2 n Y p A (fun l u => jWW n Y A S 0 p f t l u) = js2 n Y p A (fun l u => if l = f ∧ u = t then 1 else 0) := js2_cg (fun i s _ _ _ _ => by
      show (if f = i ∧ t = s then (1 : Int) else 0) = _
      by_cases e : i = f ∧ s = t
      · rw [if_pos e, if_pos ⟨e.1.symm, e.2.symm⟩]
      · rw [if_neg e, if_neg (fun q => e ⟨q.1.symm, q.2.symm⟩)])
    rw [e, js2_one (g := fun _ _ => 1) nf tY hf af]
    rfl
  | k + 1, p, f, t, hf, af, nf, tY => by
    have e1 : jGo n Y A S (k + 1) p f t = js2 n Y (jer p f) A (fun i s => js2 n Y (jer p f) A (fun l u => if S t s = true then jWW n Y A S k (jer p f) i s l u else 0)) := by
      refine js2_cg (fun i s hi hs pi ai => ?_)
      rw [jGo_W k (jer p f) i s pi ai hi hs, js2_if]
    rw [e1, js2_swap, js2_er (p := p) f (fun u _ _ _ => jWW_Z n Y A S k p f t u)]
    rfl
/-- as many by the last as by the first -/
theorem jorders (F : Nat → Bool) (k : Nat) (p : Nat → Bool) : js2 n Y p A (fun l u => jEo n Y A S F k p l u) = js2 n Y (fun i => p i && F i) A (fun f t => jGo n Y A S k p f t) := by
  rw [js2_cg (f := fun l u => js2 n Y (fun i => p i && F i) A (fun f t => jWW n Y A S k p f t l u)) (fun l u hl hu pl al => jEo_W n Y A S F k p l u pl al hl hu), js2_swap]
  exact js2_cg (fun f t hf ht pf af => (jGo_W n Y A S k p f t ((Bool.and_eq_true _ _).mp pf).1 af hf ht).symm)
theorem jGo_nn : ∀ (k : Nat) (p : Nat → Bool) (f t : Nat), 0 ≤ jGo n Y A S k p f t
  | 0, _, _, _ => by
    show (0 : Int) ≤ 1
    omega
  | k + 1, p, f, t => js2_nn (fun i s => by
    have := jGo_nn k (jer p f) i s
    split <;> omega)
theorem jEo_nn (F : Nat → Bool) : ∀ (k : Nat) (p : Nat → Bool) (l u : Nat), 0 ≤ jEo n Y A S F k p l u
  | 0, _, l, _ => by
    show (0 : Int) ≤ if F l = true then 1 else 0
    split <;> omega
  | k + 1, p, l, u => js2_nn (fun i s => by
    have := jEo_nn F k (jer p l) i s
    split <;> omega)
end Jord
def j72 : Nat → Int
  | 0 => 1
  | k + 1 => 72 * j72 k
theorem j72_nn : ∀ k : Nat, 0 ≤ j72 k
  | 0 => by decide
  | k + 1 => by
    have := j72_nn k
    show 0 ≤ 72 * j72 k
    omega
theorem j72_5 {k : Nat} (h : k ≤ 5) : j72 k ≤ 1934917632 := by
  rcases (by omega : k = 0 ∨ k = 1 ∨ k = 2 ∨ k = 3 ∨ k = 4 ∨ k = 5) with rfl | rfl | rfl | rfl | rfl | rfl <;> decide
theorem jGo_bd {n Y : Nat} {A S : Nat → Nat → Bool} (hn : n ≤ 6) (hA : ∀ i : Nat, jsu (fun t => if A i t = true then 1 else 0) Y ≤ 12) : ∀ (k : Nat) (p : Nat → Bool) (f t : Nat), jGo n Y A S k p f t ≤ j72 k
  | 0, _, _, _ => Int.le_refl _
  | k + 1, p, f, t => js2_bd (j72_nn k) hn hA (fun i s => by
    have := jGo_bd (S := S) hn hA k (jer p f) i s
    have := j72_nn k
    split <;> omega)
/-- a sum of what is cut, cut -/
theorem jsu_min {g : Nat → Int} {M : Int} (hM : 0 ≤ M) : ∀ n : Nat, (∀ j : Nat, j < n → 0 ≤ g j) → min M (jsu (fun j => min M (g j)) n) = min M (jsu g n)
  | 0, _ => rfl
  | n + 1, h => by
    have i := jsu_min (g := g) hM n (fun j hj => h j (by omega))
    have a := h n (by omega)
    have b : 0 ≤ jsu g n := jsu_nn (fun j hj => h j (by omega))
    have c : 0 ≤ jsu (fun j => min M (g j)) n := jsu_nn (fun j hj => by have := h j (by omega); omega)
    rw [jsu_s, jsu_s]
    omega
/-! SETS AS BITS -/
def jbt (M i : Nat) : Bool := decide (i < 6) && M.testBit i
def jpc (M : Nat) : Nat := (M % 2) + (M / 2 % 2) + (M / 4 % 2) + (M / 8 % 2) + (M / 16 % 2) + (M / 32 % 2)
theorem jof {x : Int32} {M : Nat} (h : x.toInt = M) (hM : M < 64) : x = Int32.ofInt (M : Int) := Int32.toInt_inj.mp (by rw [h, nm_ofInt (by omega) (by omega)])
theorem jbt_d : ∀ M : Nat, M < 64 → ∀ F : Nat, F < 6 → ((Int32.ofInt (M : Int) >>> (Int32.ofInt (F : Int) &&& 31)) &&& 1).toInt = if jbt M F = true then 1 else 0 := by decide +kernel
theorem jbt_x : ∀ M : Nat, M < 64 → ∀ F : Nat, F < 6 → jbt M F = true → 2 ^ F ≤ M ∧ (Int32.ofInt (M : Int) ^^^ (1 <<< (Int32.ofInt (F : Int) &&& 31))).toInt = (M - 2 ^ F : Nat) ∧ (Int32.ofInt (M : Int) &&& ((1 <<< (Int32.ofInt (F : Int) &&& 31)) ^^^ (-1))).toInt = (M - 2 ^ F : Nat) ∧ jpc (M - 2 ^ F) + 1 = jpc M ∧ (M - 2 ^ F = 0 ↔ jpc M = 1) := by decide +kernel
theorem jbt_e : ∀ M : Nat, M < 64 → ∀ F : Nat, F < 6 → jbt M F = true → ∀ i : Nat, i < 6 → jbt (M - 2 ^ F) i = (jbt M i && !decide (i = F)) := by decide +kernel
theorem jsh_d : ∀ N : Nat, N < 7 → ((1 : Int32) <<< (Int32.ofInt (N : Int) &&& 31)).toInt = (2 ^ N : Nat) ∧ 2 ^ N ≤ 64 ∧ 1 ≤ 2 ^ N := by decide +kernel
theorem jfull : ∀ n : Nat, n < 7 → 1 ≤ n → jpc (2 ^ n - 1) = n ∧ ∀ i : Nat, i < 6 → jbt (2 ^ n - 1) i = decide (i < n) := by decide +kernel
theorem jpc_6 : ∀ M : Nat, M < 64 → jpc M ≤ 6 ∧ (M = 0 ↔ jpc M = 0) := by decide +kernel
theorem jbt_pc : ∀ M : Nat, M < 64 → ∀ F : Nat, F < 6 → jbt M F = true → 1 ≤ jpc M ∧ 1 ≤ M := by decide +kernel
theorem jbt_1 : ∀ F : Nat, F < 6 → ∀ i : Nat, i < 6 → jbt (2 ^ F) i = decide (i = F) := by decide +kernel
theorem jbt_er {M F : Nat} (hM : M < 64) (hF : F < 6) (h : jbt M F = true) : jbt (M - 2 ^ F) = jer (jbt M) F := by
  funext i
  by_cases hi : i < 6
  · rw [jbt_e M hM F hF h i hi]
    rfl
  · unfold jer jbt
    rw [decide_eq_false hi, Bool.false_and, Bool.false_and, Bool.false_and]
theorem jn_i2l {P : si_P} {d mi pc : Nat} {y : si_M} {ls : si_L} {st : List Value} {h : si_H} {Q : Option Value → si_H → Prop} {q : Nat × Nat × Nat} {a : Int32} (hy : si_m mi = some y) (he : si_fetch mi pc = some (.i2l, 1, q)) (kk : ∀ z : Int64, z.toInt = a.toInt → az_X P d mi (pc + 1) ls (.long z :: st) h Q) : az_X P d mi pc ls (.int a :: st) h Q := az_X_step (pc' := pc + 1) (ls' := ls) (st' := .long a.toInt64 :: st) (h' := h) hy he rfl (kk _ (Int32.toInt_toInt64 a))
theorem bt_sh {x c : Int32} {M F : Nat} (hx : x.toInt = M) (hM : M < 64) (hc : c.toInt = F) (hF : F < 6) : ((x >>> (c &&& 31)) &&& 1).toInt = if jbt M F = true then 1 else 0 := by
  rw [jof hx hM, jof hc (by omega)]
  exact jbt_d M hM F hF
theorem bt_xor {x c : Int32} {M F : Nat} (hx : x.toInt = M) (hM : M < 64) (hc : c.toInt = F) (hF : F < 6) (hb : jbt M F = true) : (x ^^^ (1 <<< (c &&& 31))).toInt = ((M - 2 ^ F : Nat) : Int) := by
  rw [jof hx hM, jof hc (by omega)]
  exact (jbt_x M hM F hF hb).2.1
theorem bt_and {x c : Int32} {M F : Nat} (hx : x.toInt = M) (hM : M < 64) (hc : c.toInt = F) (hF : F < 6) (hb : jbt M F = true) : (x &&& ((1 <<< (c &&& 31)) ^^^ (-1))).toInt = ((M - 2 ^ F : Nat) : Int) := by
  rw [jof hx hM, jof hc (by omega)]
  exact (jbt_x M hM F hF hb).2.2.1
theorem bt_sl {c : Int32} {N Z : Nat} (hc : c.toInt = N) (hN : N < 7) (hZ : Z = 2 ^ N) : ((1 : Int32) <<< (c &&& 31)).toInt = (Z : Int) := by
  subst hZ
  rw [jof hc (by omega)]
  exact (jsh_d N hN).1
/-- a set less one of it -/
def jLE (M f N : Nat) : Prop := N + 1 ≤ M ∧ jbt N = jer (jbt M) f ∧ jpc N + 1 = jpc M ∧ (N = 0 ↔ jpc M = 1)
theorem jLE_mk {M f : Nat} (hM : M < 64) (hf : f < 6) (hb : jbt M f = true) : jLE M f (M - 2 ^ f) := by
  obtain ⟨a1, -, -, a4, a5⟩ := jbt_x M hM f hf hb
  have : 1 ≤ 2 ^ f := Nat.one_le_two_pow
  exact ⟨by omega, jbt_er hM hf hb, a4, a5⟩
theorem jbt_0 (i : Nat) : ¬ jbt 0 i = true := by
  unfold jbt
  rw [Nat.zero_testBit, Bool.and_false]
  exact Bool.false_ne_true
theorem jGo_cap {n Y : Nat} {A S : Nat → Nat → Bool} (hn : n ≤ 6) (hA : ∀ i : Nat, jsu (fun t => if A i t = true then 1 else 0) Y ≤ 12) {M : Nat} (hM : M < 64) (p : Nat → Bool) (f t : Nat) : 0 ≤ jGo n Y A S (jpc M - 1) p f t ∧ jGo n Y A S (jpc M - 1) p f t ≤ 1934917632 := ⟨jGo_nn n Y A S _ p f t, Int.le_trans (jGo_bd hn hA _ p f t) (j72_5 (by
  have := (jpc_6 M hM).1
  omega))⟩
theorem jGo_N {n Y : Nat} {A S : Nat → Nat → Bool} {M f N : Nat} (q : jLE M f N) (hN : N ≠ 0) (t : Nat) : jGo n Y A S (jpc M - 1) (jbt M) f t = 0 + js2 n Y (jbt N) A (fun i s => if S t s = true then jGo n Y A S (jpc N - 1) (jbt N) i s else 0) := by
  obtain ⟨a1, a2, a3, a4⟩ := q
  have e : jpc M - 1 = (jpc N - 1) + 1 := by
    have : ¬ jpc M = 1 := fun e => hN (a4.mpr e)
    omega
  rw [e, a2, Int.zero_add]
  rfl
theorem jGo_Z {n Y : Nat} {A S : Nat → Nat → Bool} {M f N : Nat} (q : jLE M f N) (hN : N = 0) (g : Nat → Nat → Int) (t : Nat) : jGo n Y A S (jpc M - 1) (jbt M) f t = 1 + js2 n Y (jbt N) A g := by
  have e : jpc M - 1 = 0 := by
    have := q.2.2.2.mp hN
    omega
  rw [e, js2_0 (fun i t _ _ hi _ => by
    rw [hN] at hi
    exact absurd hi (jbt_0 i))]
  rfl
theorem jEo_N {n Y : Nat} {A S : Nat → Nat → Bool} {F : Nat → Bool} {M f N : Nat} (q : jLE M f N) (hN : N ≠ 0) (t : Nat) : jEo n Y A S F (jpc M - 1) (jbt M) f t = js2 n Y (jbt N) A (fun i s => if S s t = true then jEo n Y A S F (jpc N - 1) (jbt N) i s else 0) := by
  obtain ⟨a1, a2, a3, a4⟩ := q
  have e : jpc M - 1 = (jpc N - 1) + 1 := by
    have : ¬ jpc M = 1 := fun e => hN (a4.mpr e)
    omega
  rw [e, a2]
  rfl
theorem jEo_Z {n Y : Nat} {A S : Nat → Nat → Bool} {F : Nat → Bool} {M f N : Nat} (q : jLE M f N) (hN : N = 0) (t : Nat) : jEo n Y A S F (jpc M - 1) (jbt M) f t = if F f = true then 1 else 0 := by
  have e : jpc M - 1 = 0 := by
    have := q.2.2.2.mp hN
    omega
  rw [e]
  rfl
theorem js_no {c : Bool} {A : Nat → Bool} {g : Nat → Int} (h : ¬ c = true) (Y : Nat) : jsu (fun t => if (c && A t) = true then g t else 0) Y = 0 := by
  rw [jsu_cg (f := fun _ => 0) (fun t _ => if_neg (fun e => h ((Bool.and_eq_true _ _).mp e).1)), jsu_0]
theorem js_yes {c : Bool} {A : Nat → Bool} {g : Nat → Int} (h : c = true) (Y : Nat) : jsu (fun t => if (c && A t) = true then g t else 0) Y = jsu (fun t => if A t = true then g t else 0) Y := by
  subst h
  exact jsu_cg (fun t _ => by rw [Bool.true_and])
theorem jsu_ones : ∀ k : Nat, jsu (fun _ => 1) k = k
  | 0 => rfl
  | k + 1 => by
    rw [jsu_s, jsu_ones k]
    omega
theorem jsu_cap {g : Nat → Int} {c : Int} {k : Nat} (h : ∀ e : Nat, e < k → 0 ≤ g e ∧ g e ≤ c) : 0 ≤ jsu g k ∧ jsu g k ≤ c * k := by
  refine ⟨jsu_nn (fun e he => (h e he).1), Int.le_trans (jsu_le (f := fun _ => c * 1) (fun e he => by have := (h e he).2; omega)) ?_⟩
  rw [jsu_mul, jsu_ones]
  exact Int.le_refl _
theorem jsu_mono {g : Nat → Int} (h : ∀ t : Nat, 0 ≤ g t) : ∀ {j k : Nat}, j ≤ k → jsu g j ≤ jsu g k
  | j, 0, q => by
    rw [show j = 0 by omega]
    exact Int.le_refl _
  | j, k + 1, q => by
    by_cases e : j = k + 1
    · rw [e]
      exact Int.le_refl _
    · have := jsu_mono h (j := j) (k := k) (by omega)
      have := h k
      rw [jsu_s]
      omega
theorem js2_min {n Y : Nat} {p : Nat → Bool} {A c : Nat → Nat → Bool} {g : Nat → Nat → Int} {M : Int} (hM : 0 ≤ M) (h : ∀ i t : Nat, 0 ≤ g i t) : min M (js2 n Y p A (fun i t => if c i t = true then min M (g i t) else 0)) = min M (js2 n Y p A (fun i t => if c i t = true then g i t else 0)) := by
  have nn : ∀ i t : Nat, 0 ≤ (if (p i && A i t) = true then (if c i t = true then g i t else 0) else 0) := fun i t => by
    have := h i t
    split
    · split <;> omega
    · omega
  have e1 : js2 n Y p A (fun i t => if c i t = true then min M (g i t) else 0) = jsu (fun i => jsu (fun t => min M (if (p i && A i t) = true then (if c i t = true then g i t else 0) else 0)) Y) n := by
    refine jsu_cg (fun i _ => jsu_cg (fun t _ => ?_))
    show (if (p i && A i t) = true then (if c i t = true then min M (g i t) else 0) else 0) = min M (if (p i && A i t) = true then (if c i t = true then g i t else 0) else 0)
    by_cases q : (p i && A i t) = true
    · rw [if_pos q, if_pos q]
      by_cases q2 : c i t = true
      · rw [if_pos q2, if_pos q2]
      · rw [if_neg q2, if_neg q2]
        omega
    · rw [if_neg q, if_neg q]
      omega
  rw [e1, ← jsu_min hM n (fun i _ => jsu_nn (fun t _ => by have := nn i t; omega))]
  rw [jsu_cg (n := n) (f := fun i => min M (jsu (fun t => if (p i && A i t) = true then (if c i t = true then g i t else 0) else 0) Y)) (fun i _ => jsu_min hM Y (fun t _ => nn i t))]
  exact jsu_min hM n (fun i _ => jsu_nn (fun t _ => nn i t))
theorem js2_min0 {n Y : Nat} {p : Nat → Bool} {A : Nat → Nat → Bool} {g : Nat → Nat → Int} {M : Int} (hM : 0 ≤ M) (h : ∀ i t : Nat, 0 ≤ g i t) : min M (js2 n Y p A (fun i t => min M (g i t))) = min M (js2 n Y p A g) := by
  have e := js2_min (n := n) (Y := Y) (p := p) (A := A) (c := fun _ _ => true) (g := g) hM h
  have e1 : ∀ f : Nat → Nat → Int, js2 n Y p A (fun i t => if (fun _ _ => true : Nat → Nat → Bool) i t = true then f i t else 0) = js2 n Y p A f := fun f => js2_cg (fun i t _ _ _ _ => if_pos rfl)
  rw [e1, e1 g] at e
  exact e
/-- one member alone -/
theorem js2_mem {n Y : Nat} {p : Nat → Bool} {A : Nat → Nat → Bool} {g : Nat → Nat → Int} {f : Nat} (hf : f < n) (hp : ∀ i : Nat, i < n → (p i = true ↔ i = f)) : js2 n Y p A g = jsu (fun t => if A f t = true then g f t else 0) Y := by
  have e : js2 n Y p A g = jsu (fun i => if i = f then jsu (fun t => if A i t = true then g i t else 0) Y else 0) n := by
    refine jsu_cg (fun i hi => ?_)
    by_cases c : i = f
    · rw [if_pos c]
      exact js_yes ((hp i hi).mpr c) Y
    · rw [if_neg c]
      exact js_no (fun e => c ((hp i hi).mp e)) Y
  rw [e, jsu_one (fun i => jsu (fun t => if A i t = true then g i t else 0) Y) f n, if_pos hf]
theorem js2_pc {n Y : Nat} {p q : Nat → Bool} {A : Nat → Nat → Bool} {g : Nat → Nat → Int} (h : ∀ i : Nat, i < n → p i = q i) : js2 n Y p A g = js2 n Y q A g := by
  refine jsu_cg (fun i hi => ?_)
  rw [h i hi]
/-- bits of those that are so -/
def jOr (q : Nat → Bool) : Nat → Int32
  | 0 => 0
  | k + 1 => if q k = true then (jOr q k ||| (1 <<< (Int32.ofInt (k : Int) &&& 31))) else jOr q k
theorem jOr_t {q : Nat → Bool} {k : Nat} (h : q k = true) : jOr q (k + 1) = (jOr q k ||| (1 <<< (Int32.ofInt (k : Int) &&& 31))) := if_pos h
theorem jOr_f {q : Nat → Bool} {k : Nat} (h : ¬ q k = true) : jOr q (k + 1) = jOr q k := if_neg h
theorem jOr_cg {p q : Nat → Bool} : ∀ k : Nat, (∀ i : Nat, i < k → p i = q i) → jOr p k = jOr q k
  | 0, _ => rfl
  | k + 1, h => by
    unfold jOr
    rw [h k (by omega), jOr_cg k (fun i hi => h i (by omega))]
/-- what anyOrder answers -/
def jSUM (m r : Int) (Y n : Nat) (B : Nat → Int) (a b : Int) (i : Nat) : Int := jsu (fun t => if jpA m r n B i t = true then jGo n Y (jpA m r n B) (jst2 a b Y) (n - 1) (jbt (2 ^ n - 1)) i t else 0) Y
def jTOT (m r : Int) (Y n : Nat) (B : Nat → Int) (a b : Int) : Int := js2 n Y (jbt (2 ^ n - 1)) (jpA m r n B) (fun i t => jGo n Y (jpA m r n B) (jst2 a b Y) (n - 1) (jbt (2 ^ n - 1)) i t)
def jAO (m r : Int) (Y n : Nat) (B : Nat → Int) (a b w z : Int) : Prop := ((∃ i : Nat, i < 2 * n ∧ m ≤ B i) ∧ z = -3) ∨ ((∀ i : Nat, i < 2 * n → B i < m) ∧ ((w = 0 ∧ z = min 1000000000 (jTOT m r Y n B a b)) ∨ (w = 1 ∧ z = (jOr (fun i => decide (0 < jSUM m r Y n B a b i)) n).toInt)))
theorem jAO_cg {m r : Int} {Y n : Nat} {B C : Nat → Int} {a b w z u : Int} (h : ∀ i : Nat, i < 2 * n → B i = C i) (h1 : jAO m r Y n B a b w z) (h2 : jAO m r Y n C a b w u) : z = u := by
  have e := jpA_cg (m := m) (r := r) h
  have e1 : jTOT m r Y n B a b = jTOT m r Y n C a b := by
    unfold jTOT
    rw [e]
  have e2 : ∀ i : Nat, jSUM m r Y n B a b i = jSUM m r Y n C a b i := fun i => by
    unfold jSUM
    rw [e]
  rcases h1 with ⟨⟨i, i1, i2⟩, a2⟩ | ⟨a1, a2⟩ <;> rcases h2 with ⟨⟨j, j1, j2⟩, b2⟩ | ⟨b1, b2⟩
  · rw [a2, b2]
  · have := b1 i i1
    have := h i i1
    omega
  · have := a1 j j1
    have := h j j1
    omega
  · rcases a2 with ⟨c1, c2⟩ | ⟨c1, c2⟩ <;> rcases b2 with ⟨d1, d2⟩ | ⟨d1, d2⟩
    · rw [c2, d2, e1]
    · omega
    · omega
    · rw [c2, d2, jOr_cg n (fun i _ => by rw [e2 i])]
theorem jfl {n Z : Nat} (h1 : 1 ≤ n) (h6 : n ≤ 6) (hZ : Z = 2 ^ n) : 2 ≤ Z ∧ Z ≤ 64 ∧ jpc (Z - 1) = n ∧ (∀ i : Nat, i < n → jbt (Z - 1) i = true) := by
  subst hZ
  have a := jfull n (by omega) h1
  have b := jsh_d n (by omega)
  have c : 2 ^ 1 ≤ 2 ^ n := Nat.pow_le_pow_right (by omega) h1
  refine ⟨by omega, b.2.1, a.1, fun i hi => ?_⟩
  rw [a.2 i (by omega)]
  exact decide_eq_true hi
