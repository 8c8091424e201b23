set_option maxRecDepth 100000
/-! THE LAW AS A TEXT: a machine with a stack of open signs (10: not, 13: round, 14: square) -/
abbrev pyS := Nat × Nat × Nat × Int × List Int × Int
abbrev pyfa (x : Int) : Prop := x = 99 ∨ x = 97 ∨ x = 118 ∨ x = 107 ∨ x = 110 ∨ x = 111 ∨ x = 116 ∨ x = 119
abbrev pysg (x : Int) : Prop := x = 42 ∨ x = 47 ∨ x = 37 ∨ x = 43 ∨ x = 45
abbrev pyki (x : Int) : Prop := x = 103 ∨ x = 108 ∨ x = 115 ∨ x = 120
/-- one step: 0 a rule, 1 its condition, 2 a test, 3 a factor, 8 a number, 4 behind a factor, 5 the comparing sign, 6 behind a test, 7 behind a rule -/
def py (hh : Int → Int) (n : Int) : pyS → pyS ⊕ Int
  | (0, _, _, p, _, i) => if pyki (hh p) then (if i = 16 then .inr (-4000 - p) else if hh p = 120 then .inl (1, 0, 0, p + 1, [], i) else .inl (3, 0, 0, p + 1, [], i)) else .inr (-1000 - p)
  | (1, _, _, p, _, i) => if hh p = 40 then .inl (2, 0, 0, p + 1, [13], i) else .inr (-1000 - p)
  | (2, _, _, p, s, i) => if hh p = 33 ∨ hh p = 40 then (if 6 ≤ s.length then .inr (-5000 - p) else .inl (2, 0, 0, p + 1, (if hh p = 33 then 10 else 13) :: s, i)) else .inl (3, 1, 0, p, s, i)
  | (3, w, _, p, s, i) => if hh p = 91 then (if 6 ≤ s.length then .inr (-5000 - p) else .inl (3, w, 0, p + 1, 14 :: s, i)) else if 48 ≤ hh p ∧ hh p ≤ 57 then .inl (8, w, 0, p, s, i) else if pyfa (hh p) then .inl (4, w, 0, p + 1, s, i) else .inr (-1000 - p)
  | (4, w, _, p, s, i) => if pysg (hh p) then .inl (3, w, 0, p + 1, s, i) else if s.head? = some 14 then (if hh p = 93 then .inl (4, w, 0, p + 1, s.tail, i) else .inr (-1000 - p)) else if w = 0 then .inl (1, 0, 0, p, [], i) else if w = 1 then .inl (5, 0, 0, p, s, i) else .inl (6, 0, 0, p, s, i)
  | (5, _, _, p, s, i) => if hh p = 60 ∨ hh p = 62 ∨ hh p = 61 then .inl (3, 2, 0, p + 1, s, i) else .inr (-1000 - p)
  | (6, _, _, p, s, i) => if s.head? = some 10 then .inl (6, 0, 0, p, s.tail, i) else if s = [] then .inl (7, 0, 0, p, [], i + 1) else if hh p = 41 then .inl (6, 0, 0, p + 1, s.tail, i) else if hh p = 38 ∨ hh p = 124 then .inl (2, 0, 0, p + 1, s, i) else .inr (-1000 - p)
  | (7, _, _, p, _, i) => if n ≤ p then .inr i else if hh p = 59 then .inl (0, 0, 0, p + 1, [], i) else .inr (-1000 - p)
  | (8, w, k, p, s, i) => if 48 ≤ hh p ∧ hh p ≤ 57 then (if k = 5 then .inr (-2000 - p) else .inl (8, w, k + 1, p + 1, s, i)) else .inl (4, w, 0, p, s, i)
  | _ => .inr 0
def pyI (hh : Int → Int) (n : Int) : Nat → pyS → pyS ⊕ Int
  | 0, x => .inl x
  | k + 1, x => match py hh n x with
    | .inl y => pyI hh n k y
    | .inr r => .inr r
def pyR (hh : Int → Int) (n : Int) (x : pyS) (r : Int) : Prop := ∃ k : Nat, pyI hh n k x = .inr r
def pyL (hh : Int → Int) (n : Int) (x y : pyS) : Prop := ∀ r : Int, pyR hh n y r → pyR hh n x r
section Py
variable {hh : Int → Int} {n : Int}
theorem pyR_1 {x : pyS} {r : Int} (e : py hh n x = .inr r) : pyR hh n x r := ⟨1, by
  unfold pyI
  rw [e]⟩
theorem pyL_1 {x y : pyS} (e : py hh n x = .inl y) : pyL hh n x y := fun r ⟨k, hk⟩ => ⟨k + 1, by
  unfold pyI
  rw [e]
  exact hk⟩
theorem pyL.tr {x y z : pyS} (a : pyL hh n x y) (b : pyL hh n y z) : pyL hh n x z := fun r h => a r (b r h)
theorem pyL.rf {x : pyS} : pyL hh n x x := fun _ h => h
theorem pyI_un {a b : Int} : ∀ (k l : Nat) (x : pyS), pyI hh n k x = .inr a → pyI hh n l x = .inr b → a = b
  | 0, _, _, h1, _ => by cases h1
  | _ + 1, 0, _, _, h2 => by cases h2
  | k + 1, l + 1, x, h1, h2 => by
    unfold pyI at h1 h2
    cases e : py hh n x with
    | inl y =>
      rw [e] at h1 h2
      exact pyI_un k l y h1 h2
    | inr r =>
      rw [e] at h1 h2
      cases h1
      cases h2
      rfl
theorem pyR_un {x : pyS} {a b : Int} (h1 : pyR hh n x a) (h2 : pyR hh n x b) : a = b := by
  obtain ⟨k, hk⟩ := h1
  obtain ⟨l, hl⟩ := h2
  exact pyI_un k l x hk hl
/-- so far: to such a state, or the fault -/
def pyO (hh : Int → Int) (n q f : Int) (x : pyS) (y : Int → pyS) : Prop := (f = 0 ∧ pyL hh n x (y q)) ∨ (f ≠ 0 ∧ pyR hh n x f)
theorem pyO_pre {q f : Int} {x x' : pyS} {y : Int → pyS} (a : pyL hh n x x') (b : pyO hh n q f x' y) : pyO hh n q f x y := by
  rcases b with ⟨b1, b2⟩ | ⟨b1, b2⟩
  · exact Or.inl ⟨b1, a.tr b2⟩
  · exact Or.inr ⟨b1, a _ b2⟩
theorem pyO_bad {q f : Int} {x : pyS} {y : Int → pyS} (hf : f ≠ 0) (e : py hh n x = .inr f) : pyO hh n q f x y := Or.inr ⟨hf, pyR_1 e⟩
theorem pyO_ok {q : Int} {x : pyS} {y : Int → pyS} (e : pyL hh n x (y q)) : pyO hh n q 0 x y := Or.inl ⟨rfl, e⟩
theorem pyO_seq {q f q1 f1 : Int} {x : pyS} {y z : Int → pyS} (a : pyO hh n q1 f1 x y) (b : f1 = 0 → pyO hh n q f (y q1) z) (c : f1 ≠ 0 → f = f1) : pyO hh n q f x z := by
  rcases a with ⟨a1, a2⟩ | ⟨a1, a2⟩
  · exact pyO_pre a2 (b a1)
  · rw [c a1]
    exact Or.inr ⟨a1, a2⟩
theorem py_0 (w k : Nat) (p : Int) (s : List Int) (i : Int) : py hh n (0, w, k, p, s, i) = if pyki (hh p) then (if i = 16 then .inr (-4000 - p) else if hh p = 120 then .inl (1, 0, 0, p + 1, [], i) else .inl (3, 0, 0, p + 1, [], i)) else .inr (-1000 - p) := rfl
theorem py_1 (w k : Nat) (p : Int) (s : List Int) (i : Int) : py hh n (1, w, k, p, s, i) = if hh p = 40 then .inl (2, 0, 0, p + 1, [13], i) else .inr (-1000 - p) := rfl
theorem py_2 (w k : Nat) (p : Int) (s : List Int) (i : Int) : py hh n (2, w, k, p, s, i) = if hh p = 33 ∨ hh p = 40 then (if 6 ≤ s.length then .inr (-5000 - p) else .inl (2, 0, 0, p + 1, (if hh p = 33 then 10 else 13) :: s, i)) else .inl (3, 1, 0, p, s, i) := rfl
theorem py_3 (w k : Nat) (p : Int) (s : List Int) (i : Int) : py hh n (3, w, k, p, s, i) = if hh p = 91 then (if 6 ≤ s.length then .inr (-5000 - p) else .inl (3, w, 0, p + 1, 14 :: s, i)) else if 48 ≤ hh p ∧ hh p ≤ 57 then .inl (8, w, 0, p, s, i) else if pyfa (hh p) then .inl (4, w, 0, p + 1, s, i) else .inr (-1000 - p) := rfl
theorem py_4 (w k : Nat) (p : Int) (s : List Int) (i : Int) : py hh n (4, w, k, p, s, i) = if pysg (hh p) then .inl (3, w, 0, p + 1, s, i) else if s.head? = some 14 then (if hh p = 93 then .inl (4, w, 0, p + 1, s.tail, i) else .inr (-1000 - p)) else if w = 0 then .inl (1, 0, 0, p, [], i) else if w = 1 then .inl (5, 0, 0, p, s, i) else .inl (6, 0, 0, p, s, i) := rfl
theorem py_5 (w k : Nat) (p : Int) (s : List Int) (i : Int) : py hh n (5, w, k, p, s, i) = if hh p = 60 ∨ hh p = 62 ∨ hh p = 61 then .inl (3, 2, 0, p + 1, s, i) else .inr (-1000 - p) := rfl
theorem py_6 (w k : Nat) (p : Int) (s : List Int) (i : Int) : py hh n (6, w, k, p, s, i) = if s.head? = some 10 then .inl (6, 0, 0, p, s.tail, i) else if s = [] then .inl (7, 0, 0, p, [], i + 1) else if hh p = 41 then .inl (6, 0, 0, p + 1, s.tail, i) else if hh p = 38 ∨ hh p = 124 then .inl (2, 0, 0, p + 1, s, i) else .inr (-1000 - p) := rfl
theorem py_7 (w k : Nat) (p : Int) (s : List Int) (i : Int) : py hh n (7, w, k, p, s, i) = if n ≤ p then .inr i else if hh p = 59 then .inl (0, 0, 0, p + 1, [], i) else .inr (-1000 - p) := rfl
theorem py_8 (w k : Nat) (p : Int) (s : List Int) (i : Int) : py hh n (8, w, k, p, s, i) = if 48 ≤ hh p ∧ hh p ≤ 57 then (if k = 5 then .inr (-2000 - p) else .inl (8, w, k + 1, p + 1, s, i)) else .inl (4, w, 0, p, s, i) := rfl
/-! steps by their cases -/
theorem ps3_deep {w : Nat} {p : Int} {s : List Int} {i : Int} (h : hh p = 91) (hs : 6 ≤ s.length) : py hh n (3, w, 0, p, s, i) = .inr (-5000 - p) := by
  rw [py_3, if_pos h, if_pos hs]
theorem ps3_open {w : Nat} {p : Int} {s : List Int} {i : Int} (h : hh p = 91) (hs : ¬ 6 ≤ s.length) : py hh n (3, w, 0, p, s, i) = .inl (3, w, 0, p + 1, 14 :: s, i) := by
  rw [py_3, if_pos h, if_neg hs]
theorem ps3_dig {w : Nat} {p : Int} {s : List Int} {i : Int} (h : 48 ≤ hh p ∧ hh p ≤ 57) : py hh n (3, w, 0, p, s, i) = .inl (8, w, 0, p, s, i) := by
  rw [py_3, if_neg (by omega), if_pos h]
theorem ps3_fact {w : Nat} {p : Int} {s : List Int} {i : Int} (h : pyfa (hh p)) : py hh n (3, w, 0, p, s, i) = .inl (4, w, 0, p + 1, s, i) := by
  rw [py_3, if_neg (by omega), if_neg (by omega), if_pos h]
theorem ps3_bad {w : Nat} {p : Int} {s : List Int} {i : Int} (h1 : hh p ≠ 91) (h2 : ¬ (48 ≤ hh p ∧ hh p ≤ 57)) (h3 : ¬ pyfa (hh p)) : py hh n (3, w, 0, p, s, i) = .inr (-1000 - p) := by
  rw [py_3, if_neg h1, if_neg h2, if_neg h3]
theorem ps4_sign {w : Nat} {p : Int} {s : List Int} {i : Int} (h : pysg (hh p)) : py hh n (4, w, 0, p, s, i) = .inl (3, w, 0, p + 1, s, i) := by
  rw [py_4, if_pos h]
theorem ps4_close {w : Nat} {p : Int} {s : List Int} {i : Int} (h : hh p = 93) : py hh n (4, w, 0, p, 14 :: s, i) = .inl (4, w, 0, p + 1, s, i) := by
  rw [py_4, if_neg (by omega), if_pos (show (14 :: s).head? = some 14 from rfl), if_pos h]
  rfl
theorem ps4_bad {w : Nat} {p : Int} {s : List Int} {i : Int} (h0 : ¬ pysg (hh p)) (h : hh p ≠ 93) : py hh n (4, w, 0, p, 14 :: s, i) = .inr (-1000 - p) := by
  rw [py_4, if_neg h0, if_pos (show (14 :: s).head? = some 14 from rfl), if_neg h]
theorem ps4_end {w : Nat} {p : Int} {s : List Int} {i : Int} (h0 : ¬ pysg (hh p)) (hs : s.head? ≠ some 14) : py hh n (4, w, 0, p, s, i) = if w = 0 then .inl (1, 0, 0, p, [], i) else if w = 1 then .inl (5, 0, 0, p, s, i) else .inl (6, 0, 0, p, s, i) := by
  rw [py_4, if_neg h0, if_neg hs]
theorem ps5_ok {p : Int} {s : List Int} {i : Int} (h : hh p = 60 ∨ hh p = 62 ∨ hh p = 61) : py hh n (5, 0, 0, p, s, i) = .inl (3, 2, 0, p + 1, s, i) := by
  rw [py_5, if_pos h]
theorem ps5_bad {p : Int} {s : List Int} {i : Int} (h : ¬ (hh p = 60 ∨ hh p = 62 ∨ hh p = 61)) : py hh n (5, 0, 0, p, s, i) = .inr (-1000 - p) := by
  rw [py_5, if_neg h]
theorem ps6_not {p : Int} {s : List Int} {i : Int} : py hh n (6, 0, 0, p, 10 :: s, i) = .inl (6, 0, 0, p, s, i) := by
  rw [py_6, if_pos (show (10 :: s).head? = some 10 from rfl)]
  rfl
theorem ps6_nil {p : Int} {i : Int} : py hh n (6, 0, 0, p, [], i) = .inl (7, 0, 0, p, [], i + 1) := by
  rw [py_6, if_neg (by decide), if_pos rfl]
theorem ps6_close {p : Int} {s : List Int} {i : Int} (h : hh p = 41) : py hh n (6, 0, 0, p, 13 :: s, i) = .inl (6, 0, 0, p + 1, s, i) := by
  rw [py_6, if_neg (show ¬ ((13 :: s).head? = some 10) from fun e => absurd (Option.some.inj e) (by decide)), if_neg (List.cons_ne_nil _ _), if_pos h]
  rfl
theorem ps6_more {p : Int} {s : List Int} {i : Int} (h : hh p = 38 ∨ hh p = 124) : py hh n (6, 0, 0, p, 13 :: s, i) = .inl (2, 0, 0, p + 1, 13 :: s, i) := by
  rw [py_6, if_neg (show ¬ ((13 :: s).head? = some 10) from fun e => absurd (Option.some.inj e) (by decide)), if_neg (List.cons_ne_nil _ _), if_neg (by omega), if_pos h]
theorem ps6_bad {p : Int} {s : List Int} {i : Int} (h : hh p ≠ 41) (h2 : ¬ (hh p = 38 ∨ hh p = 124)) : py hh n (6, 0, 0, p, 13 :: s, i) = .inr (-1000 - p) := by
  rw [py_6, if_neg (show ¬ ((13 :: s).head? = some 10) from fun e => absurd (Option.some.inj e) (by decide)), if_neg (List.cons_ne_nil _ _), if_neg h, if_neg h2]
theorem ps2_deep {p : Int} {s : List Int} {i : Int} (h : hh p = 33 ∨ hh p = 40) (hs : 6 ≤ s.length) : py hh n (2, 0, 0, p, s, i) = .inr (-5000 - p) := by
  rw [py_2, if_pos h, if_pos hs]
theorem ps2_not {p : Int} {s : List Int} {i : Int} (h : hh p = 33) (hs : ¬ 6 ≤ s.length) : py hh n (2, 0, 0, p, s, i) = .inl (2, 0, 0, p + 1, 10 :: s, i) := by
  rw [py_2, if_pos (Or.inl h), if_neg hs, if_pos h]
theorem ps2_par {p : Int} {s : List Int} {i : Int} (h : hh p = 40) (hs : ¬ 6 ≤ s.length) : py hh n (2, 0, 0, p, s, i) = .inl (2, 0, 0, p + 1, 13 :: s, i) := by
  rw [py_2, if_pos (Or.inr h), if_neg hs, if_neg (by omega)]
theorem ps2_cmp {p : Int} {s : List Int} {i : Int} (h : ¬ (hh p = 33 ∨ hh p = 40)) : py hh n (2, 0, 0, p, s, i) = .inl (3, 1, 0, p, s, i) := by
  rw [py_2, if_neg h]
/-- a number, digit by digit -/
theorem pyG_j {w : Nat} {p : Int} {s : List Int} {i : Int} : ∀ j : Nat, j ≤ 5 → (∀ u : Nat, u < j → jdg hh (p + u)) → pyL hh n (8, w, 0, p, s, i) (8, w, j, p + j, s, i)
  | 0, _, _ => by
    rw [show p + ((0 : Nat) : Int) = p by omega]
    exact pyL.rf
  | j + 1, hj, hd => by
    refine (pyG_j j (by omega) (fun u hu => hd u (by omega))).tr (pyL_1 ?_)
    have d : 48 ≤ hh (p + j) ∧ hh (p + j) ≤ 57 := hd j (by omega)
    rw [py_8, if_pos d, if_neg (by omega), show p + ((j + 1 : Nat) : Int) = p + j + 1 by omega]
theorem pyG {w : Nat} {p : Int} {s : List Int} {i f q v : Int} (hp : 0 ≤ p) (hj : jAN hh p 5 f q v) (hd : 48 ≤ hh p ∧ hh p ≤ 57) : pyO hh n q f (8, w, 0, p, s, i) (fun q => (4, w, 0, q, s, i)) := by
  rcases hj with ⟨a1, a2⟩ | ⟨k, a1, a2, a3, a4, a5, a6, a7⟩ | ⟨a1, a2⟩
  · exact absurd hd a1
  · subst a5
    refine pyO_ok ((pyG_j k a2 a3).tr (pyL_1 ?_))
    rw [py_8, if_neg (show ¬ (48 ≤ hh (p + k) ∧ hh (p + k) ≤ 57) from a4), a6]
  · have e := pyG_j (n := n) (w := w) (s := s) (i := i) 5 (by omega) (fun u hu => a1 u (by omega))
    have d : 48 ≤ hh (p + (5 : Nat)) ∧ hh (p + (5 : Nat)) ≤ 57 := a1 5 (by omega)
    refine pyO_pre e (pyO_bad (by omega) ?_)
    rw [py_8, if_pos d, if_pos rfl, a2]
/-! what the class's methods come to -/
abbrev tkR (hh : Int → Int) (c p F z q : Int) : Prop := (F = 0 ∧ hh p = c ∧ z = 1 ∧ q = p + 1) ∨ (¬ (F = 0 ∧ hh p = c) ∧ z = 0 ∧ q = p)
abbrev exR (hh : Int → Int) (c p F q f : Int) : Prop := (F = 0 ∧ hh p = c ∧ q = p + 1 ∧ f = 0) ∨ (F = 0 ∧ hh p ≠ c ∧ f = -1000 - p) ∨ (F ≠ 0 ∧ f = F)
def nuR (hh : Int → Int) (p q f : Int) : Prop := ∃ f0 q0 v : Int, jAN hh p 5 f0 q0 v ∧ ((f0 = 0 ∧ q = q0 ∧ f = 0) ∨ (f0 ≠ 0 ∧ f = f0))
def pyF (hh : Int → Int) (n p F o q f : Int) : Prop := (F ≠ 0 → f = F) ∧ (F = 0 → f = 0 → p < q ∧ q ≤ n) ∧ (F = 0 → ∀ (w : Nat) (s : List Int) (i : Int), (s.length : Int) = o → pyO hh n q f (3, w, 0, p, s, i) (fun q => (4, w, 0, q, s, i)))
def pyX (hh : Int → Int) (n p F o q f : Int) : Prop := pyF hh n p F o q f ∧ (F = 0 → f = 0 → ¬ pysg (hh q))
def pyT (hh : Int → Int) (n p F o q f : Int) : Prop := (F ≠ 0 → f = F) ∧ (F = 0 → f = 0 → p < q ∧ q ≤ n) ∧ (F = 0 → ∀ (s : List Int) (i : Int), (s.length : Int) = o → s.head? ≠ some 14 → pyO hh n q f (2, 0, 0, p, s, i) (fun q => (6, 0, 0, q, s, i)))
def pyD (hh : Int → Int) (n p F o q f : Int) : Prop := (F ≠ 0 → f = F) ∧ (F = 0 → f = 0 → p < q ∧ q ≤ n) ∧ (F = 0 → ∀ (s : List Int) (i : Int), (s.length : Int) + 1 = o → pyO hh n q f (2, 0, 0, p, 13 :: s, i) (fun q => (6, 0, 0, q, 13 :: s, i)))
def pyC (hh : Int → Int) (n p F o q f : Int) : Prop := pyD hh n p F o q f ∧ (F = 0 → f = 0 → hh q ≠ 38 ∧ hh q ≠ 124)
theorem pyF_skip {p F o q f : Int} (hF : F ≠ 0) (e : f = F) : pyF hh n p F o q f := ⟨fun _ => e, fun e => absurd e hF, fun e => absurd e hF⟩
theorem fa_deep {p o q f : Int} (hp : 0 ≤ p) (h : hh p = 91) (ho : 6 ≤ o) (hf : f = -5000 - p) : pyF hh n p 0 o q f := by
  subst hf
  exact ⟨fun e => absurd rfl e, fun _ e => absurd e (by omega), fun _ w s i hs => pyO_bad (by omega) (ps3_deep h (by omega))⟩
theorem fa_open {p o q f q1 f1 : Int} (hb : ∀ x : Int, n ≤ x → hh x = -1) (hp : 0 ≤ p) (h : hh p = 91) (ho : o < 6) (x : pyX hh n (p + 1) 0 (o + 1) q1 f1) (e : exR hh 93 q1 f1 q f) : pyF hh n p 0 o q f := by
  obtain ⟨⟨x1, x2, x3⟩, x4⟩ := x
  refine ⟨fun e => absurd rfl e, fun _ e0 => ?_, fun _ w s i hs => ?_⟩
  · rcases e with ⟨a1, a2, a3, a4⟩ | ⟨a1, a2, a3⟩ | ⟨a1, a2⟩
    · have := x2 rfl a1
      rcases Int.lt_or_le q1 n with c | c
      · omega
      · have := hb q1 c
        omega
    · subst e0
      rcases Int.lt_or_le q1 0 with c | c
      · have := x2 rfl a1
        omega
      · omega
    · exact absurd (a2.symm.trans e0) a1
  · refine pyO_pre (pyL_1 (ps3_open h (by omega))) (pyO_seq (x3 rfl w (14 :: s) i (by rw [List.length_cons]; omega)) (fun z => ?_) (fun z => ?_))
    · rcases e with ⟨a1, a2, a3, a4⟩ | ⟨a1, a2, a3⟩ | ⟨a1, a2⟩
      · subst a4
        subst a3
        exact pyO_ok (pyL_1 (ps4_close a2))
      · subst a3
        have := x2 rfl z
        exact pyO_bad (by omega) (ps4_bad (x4 rfl z) a2)
      · exact absurd z a1
    · rcases e with ⟨a1, a2, a3, a4⟩ | ⟨a1, a2, a3⟩ | ⟨a1, a2⟩
      · exact absurd a1 z
      · exact absurd a1 z
      · exact a2
theorem fa_fact {p o q f : Int} (hpn : p < n) (h : pyfa (hh p)) (hq : q = p + 1) (hf : f = 0) : pyF hh n p 0 o q f := by
  subst hf
  subst hq
  exact ⟨fun e => absurd rfl e, fun _ _ => by omega, fun _ w s i hs => pyO_ok (pyL_1 (ps3_fact h))⟩
theorem fa_num {p o q f : Int} (hb : ∀ x : Int, n ≤ x → hh x = -1) (hp : 0 ≤ p) (h : hh p ≠ 91) (h2 : ¬ pyfa (hh p)) (x : nuR hh p q f) : pyF hh n p 0 o q f := by
  obtain ⟨f0, q0, v, j, c⟩ := x
  have e : f = f0 := by omega
  subst e
  have dn : ∀ k : Nat, 1 ≤ k → (∀ u : Nat, u < k → jdg hh (p + u)) → p + k ≤ n := fun k k1 hd => by
    have d : 48 ≤ hh (p + (k - 1 : Nat)) ∧ hh (p + (k - 1 : Nat)) ≤ 57 := hd (k - 1) (by omega)
    rcases Int.lt_or_le (p + (k - 1 : Nat)) n with c | c
    · omega
    · have := hb _ c
      omega
  refine ⟨fun e => absurd rfl e, fun _ e0 => ?_, fun _ w s i hs => ?_⟩
  · subst e0
    rcases j with ⟨a1, a2⟩ | ⟨k, a1, a2, a3, a4, a5, a6, a7⟩ | ⟨a1, a2⟩
    · omega
    · have := dn k a1 a3
      omega
    · omega
  · by_cases d : 48 ≤ hh p ∧ hh p ≤ 57
    · have g := pyG (n := n) (w := w) (s := s) (i := i) hp j d
      have g2 : pyO hh n q f (8, w, 0, p, s, i) (fun q => (4, w, 0, q, s, i)) := by
        rcases g with ⟨g1, g2⟩ | ⟨g1, g2⟩
        · refine Or.inl ⟨g1, ?_⟩
          rw [show q = q0 by omega]
          exact g2
        · exact Or.inr ⟨g1, g2⟩
      exact pyO_pre (pyL_1 (ps3_dig d)) g2
    · have z : ∀ {k : Nat}, (∀ i : Nat, i < k → jdg hh (p + i)) → 1 ≤ k → jdg hh p := fun hd hk => by
        have := hd 0 (by omega)
        rw [show p + ((0 : Nat) : Int) = p by omega] at this
        exact this
      rcases j with ⟨a1, a2⟩ | ⟨k, a1, a2, a3, a4, a5, a6, a7⟩ | ⟨a1, a2⟩
      · subst a2
        exact pyO_bad (by omega) (ps3_bad h d h2)
      · exact absurd (z a3 a1) d
      · exact absurd (z (k := 1) (fun i hi => a1 i (by omega)) (by omega)) d
theorem ex_step {p F o q1 f1 q2 f2 : Int} (a : pyF hh n p F o q1 f1) (h1 : f1 = 0) (h : pysg (hh q1)) (b : pyF hh n (q1 + 1) 0 o q2 f2) : pyF hh n p F o q2 f2 := by
  have hF : F = 0 := by
    by_cases e : F = 0
    · exact e
    · have := a.1 e
      omega
  subst hF
  subst h1
  obtain ⟨a1, a2, a3⟩ := a
  obtain ⟨b1, b2, b3⟩ := b
  refine ⟨fun e => absurd rfl e, fun _ e => ?_, fun _ w s i hs => ?_⟩
  · have := a2 rfl rfl
    have := b2 rfl e
    omega
  · exact pyO_seq (a3 rfl w s i hs) (fun _ => pyO_pre (pyL_1 (ps4_sign h)) (b3 rfl w s i hs)) (fun e => absurd rfl e)
/-! tests and conditions -/
abbrev cmR (hh : Int → Int) (p F q f : Int) : Prop := (F = 0 ∧ (hh p = 60 ∨ hh p = 62 ∨ hh p = 61) ∧ q = p + 1 ∧ f = 0) ∨ (F = 0 ∧ ¬ (hh p = 60 ∨ hh p = 62 ∨ hh p = 61) ∧ f = -1000 - p) ∨ (F ≠ 0 ∧ f = F)
theorem te_deep {p o q f : Int} (hp : 0 ≤ p) (h : hh p = 33 ∨ hh p = 40) (ho : 6 ≤ o) (hf : f = -5000 - p) : pyT hh n p 0 o q f := by
  subst hf
  exact ⟨fun e => absurd rfl e, fun _ e => absurd e (by omega), fun _ s i hs _ => pyO_bad (by omega) (ps2_deep h (by omega))⟩
theorem te_not {p o q f : Int} (h : hh p = 33) (ho : o < 6) (x : pyT hh n (p + 1) 0 (o + 1) q f) : pyT hh n p 0 o q f := by
  obtain ⟨x1, x2, x3⟩ := x
  refine ⟨fun e => absurd rfl e, fun _ e => ?_, fun _ s i hs _ => ?_⟩
  · have := x2 rfl e
    omega
  · refine pyO_pre (pyL_1 (ps2_not h (by omega))) ?_
    have y := x3 rfl (10 :: s) i (by rw [List.length_cons]; omega) (show ¬ (some (10 : Int) = some 14) by decide)
    rcases y with ⟨y1, y2⟩ | ⟨y1, y2⟩
    · exact Or.inl ⟨y1, y2.tr (pyL_1 ps6_not)⟩
    · exact Or.inr ⟨y1, y2⟩
theorem te_par {p o q f q1 f1 : Int} (hb : ∀ x : Int, n ≤ x → hh x = -1) (hp : 0 ≤ p) (h : hh p = 40) (ho : o < 6) (x : pyC hh n (p + 1) 0 (o + 1) q1 f1) (e : exR hh 41 q1 f1 q f) : pyT hh n p 0 o q f := by
  obtain ⟨⟨x1, x2, x3⟩, x4⟩ := x
  refine ⟨fun e => absurd rfl e, fun _ e0 => ?_, fun _ s i hs _ => ?_⟩
  · rcases e with ⟨a1, a2, a3, a4⟩ | ⟨a1, a2, a3⟩ | ⟨a1, a2⟩
    · have := x2 rfl a1
      rcases Int.lt_or_le q1 n with c | c
      · omega
      · have := hb q1 c
        omega
    · have := x2 rfl a1
      omega
    · exact absurd (a2.symm.trans e0) a1
  · refine pyO_pre (pyL_1 (ps2_par h (by omega))) (pyO_seq (x3 rfl s i (by omega)) (fun z => ?_) (fun z => ?_))
    · rcases e with ⟨a1, a2, a3, a4⟩ | ⟨a1, a2, a3⟩ | ⟨a1, a2⟩
      · subst a4
        subst a3
        exact pyO_ok (pyL_1 (ps6_close a2))
      · subst a3
        have := x2 rfl z
        have y := x4 rfl z
        exact pyO_bad (by omega) (ps6_bad a2 (by omega))
      · exact absurd z a1
    · rcases e with ⟨a1, a2, a3, a4⟩ | ⟨a1, a2, a3⟩ | ⟨a1, a2⟩
      · exact absurd a1 z
      · exact absurd a1 z
      · exact a2
theorem te_cmp {p F o q1 f1 q2 f2 q f : Int} (hp : 0 ≤ p) (h : F = 0 → ¬ (hh p = 33 ∨ hh p = 40)) (x : pyX hh n p F o q1 f1) (c : cmR hh q1 f1 q2 f2) (y : pyX hh n q2 f2 o q f) : pyT hh n p F o q f := by
  obtain ⟨⟨x1, x2, x3⟩, x4⟩ := x
  obtain ⟨⟨y1, y2, y3⟩, y4⟩ := y
  by_cases hF : F = 0
  · subst hF
    refine ⟨fun e => absurd rfl e, fun _ e0 => ?_, fun _ s i hs hd => ?_⟩
    · rcases c with ⟨a1, a2, a3, a4⟩ | ⟨a1, a2, a3⟩ | ⟨a1, a2⟩
      · have := x2 rfl a1
        have := y2 a4 e0
        omega
      · have := x2 rfl a1
        have := y1 (by omega)
        omega
      · have := y1 (by omega)
        omega
    · refine pyO_pre (pyL_1 (ps2_cmp (h rfl))) (pyO_seq (x3 rfl 1 s i hs) (fun z => ?_) (fun z => ?_))
      · refine pyO_pre (pyL_1 ((ps4_end (x4 rfl z) hd).trans (by rw [if_neg (by decide), if_pos rfl]))) ?_
        rcases c with ⟨a1, a2, a3, a4⟩ | ⟨a1, a2, a3⟩ | ⟨a1, a2⟩
        · subst a3
          refine pyO_pre (pyL_1 (ps5_ok a2)) ?_
          have y5 := y3 a4 2 s i hs
          rcases y5 with ⟨u1, u2⟩ | ⟨u1, u2⟩
          · exact Or.inl ⟨u1, u2.tr (pyL_1 ((ps4_end (y4 a4 u1) hd).trans (by rw [if_neg (by decide), if_neg (by decide)])))⟩
          · exact Or.inr ⟨u1, u2⟩
        · have := x2 rfl z
          have e := y1 (by omega)
          rw [e, a3]
          exact pyO_bad (by omega) (ps5_bad a2)
        · exact absurd z a1
      · rcases c with ⟨a1, a2, a3, a4⟩ | ⟨a1, a2, a3⟩ | ⟨a1, a2⟩
        · exact absurd a1 z
        · exact absurd a1 z
        · have := y1 (by omega)
          omega
  · have e1 := x1 hF
    have e2 : f2 = F := by
      rcases c with ⟨a1, -⟩ | ⟨a1, -⟩ | ⟨a1, a2⟩ <;> omega
    exact ⟨fun _ => by have := y1 (by omega); omega, fun e => absurd e hF, fun e => absurd e hF⟩
theorem pyT_D {p F o q f : Int} (x : pyT hh n p F o q f) : pyD hh n p F o q f := ⟨x.1, x.2.1, fun e s i hs => x.2.2 e (13 :: s) i (by rw [List.length_cons]; omega) (show ¬ (some (13 : Int) = some 14) by decide)⟩
theorem co_step {p F o q1 f1 q2 f2 : Int} (a : pyD hh n p F o q1 f1) (h1 : f1 = 0) (h : hh q1 = 38 ∨ hh q1 = 124) (b : pyT hh n (q1 + 1) 0 o q2 f2) : pyD hh n p F o q2 f2 := by
  have hF : F = 0 := by
    by_cases e : F = 0
    · exact e
    · have := a.1 e
      omega
  subst hF
  subst h1
  obtain ⟨a1, a2, a3⟩ := a
  obtain ⟨b1, b2, b3⟩ := pyT_D b
  refine ⟨fun e => absurd rfl e, fun _ e => ?_, fun _ s i hs => ?_⟩
  · have := a2 rfl rfl
    have := b2 rfl e
    omega
  · exact pyO_seq (a3 rfl s i hs) (fun _ => pyO_pre (pyL_1 (ps6_more h)) (b3 rfl s i hs)) (fun e => absurd rfl e)
/-! rules -/
theorem ru_ok {q i k q2 f2 q3 f3 q4 f4 q5 f5 : Int} (hq : 0 ≤ q) (hk : k = hh q) (h : pyki k) (hi : i ≠ 16) (x : (k = 120 ∧ q2 = q + 1 ∧ f2 = 0) ∨ (k ≠ 120 ∧ pyX hh n (q + 1) 0 0 q2 f2)) (e3 : exR hh 40 q2 f2 q3 f3) (c : pyC hh n q3 f3 1 q4 f4) (e5 : exR hh 41 q4 f4 q5 f5) : pyO hh n q5 f5 (0, 0, 0, q, [], i) (fun q => (7, 0, 0, q, [], i + 1)) := by
  subst hk
  have cond : pyO hh n q5 f5 (1, 0, 0, q2, [], i) (fun q => (7, 0, 0, q, [], i + 1)) ∨ f2 ≠ 0 := by
    by_cases z : f2 = 0
    · refine Or.inl ?_
      have q20 : 0 ≤ q2 := by
        rcases x with ⟨-, a, -⟩ | ⟨-, a⟩
        · omega
        · have := a.1.2.1 rfl z
          omega
      rcases e3 with ⟨a1, a2, a3, a4⟩ | ⟨a1, a2, a3⟩ | ⟨a1, a2⟩
      · subst a3
        subst a4
        refine pyO_pre (pyL_1 (show py hh n (1, 0, 0, q2, [], i) = .inl (2, 0, 0, q2 + 1, [13], i) by rw [py_1, if_pos a2])) (pyO_seq (c.1.2.2 rfl [] i rfl) (fun z4 => ?_) (fun z4 => ?_))
        · rcases e5 with ⟨b1, b2, b3, b4⟩ | ⟨b1, b2, b3⟩ | ⟨b1, b2⟩
          · subst b3
            subst b4
            exact pyO_ok ((pyL_1 (ps6_close b2)).tr (pyL_1 ps6_nil))
          · have := c.1.2.1 rfl z4
            have y := c.2 rfl z4
            rw [b3]
            exact pyO_bad (by omega) (ps6_bad b2 (by omega))
          · exact absurd z4 b1
        · rcases e5 with ⟨b1, b2, b3, b4⟩ | ⟨b1, b2, b3⟩ | ⟨b1, b2⟩
          · exact absurd b1 z4
          · exact absurd b1 z4
          · exact b2
      · have f4e := c.1.1 (by omega)
        have f5e : f5 = f3 := by
          rcases e5 with ⟨b1, -⟩ | ⟨b1, -⟩ | ⟨b1, b2⟩ <;> omega
        rw [f5e, a3]
        exact pyO_bad (by omega) (show py hh n (1, 0, 0, q2, [], i) = .inr (-1000 - q2) by rw [py_1, if_neg a2])
      · exact absurd z a1
    · exact Or.inr z
  have kee : f2 ≠ 0 → f5 = f2 := fun z => by
    have e : f3 = f2 := by
      rcases e3 with ⟨a1, -⟩ | ⟨a1, -⟩ | ⟨a1, a2⟩ <;> omega
    have e2 := c.1.1 (by omega)
    rcases e5 with ⟨b1, -⟩ | ⟨b1, -⟩ | ⟨b1, b2⟩ <;> omega
  rcases x with ⟨x1, x2, x3⟩ | ⟨x1, x2⟩
  · refine pyO_pre (pyL_1 (show py hh n (0, 0, 0, q, [], i) = .inl (1, 0, 0, q + 1, [], i) by rw [py_0, if_pos h, if_neg hi, if_pos x1])) ?_
    rcases cond with a | a
    · rw [← x2]
      exact a
    · exact absurd x3 a
  · refine pyO_pre (pyL_1 (show py hh n (0, 0, 0, q, [], i) = .inl (3, 0, 0, q + 1, [], i) by rw [py_0, if_pos h, if_neg hi, if_neg x1])) (pyO_seq (x2.1.2.2 rfl 0 [] i rfl) (fun z => ?_) kee)
    refine pyO_pre (pyL_1 ((ps4_end (x2.2 rfl z) (show ([] : List Int).head? ≠ some 14 from fun e => by cases e)).trans (if_pos rfl))) ?_
    rcases cond with a | a
    · exact a
    · exact absurd z a
theorem ru_no {q i : Int} (h : ¬ pyki (hh q)) : pyR hh n (0, 0, 0, q, [], i) (-1000 - q) := pyR_1 (by rw [py_0, if_neg h])
theorem ru_many {q : Int} (h : pyki (hh q)) : pyR hh n (0, 0, 0, q, [], 16) (-4000 - q) := pyR_1 (by rw [py_0, if_pos h, if_pos rfl])
theorem ru_next {q i : Int} (hb : ∀ x : Int, n ≤ x → hh x = -1) (h : hh q = 59) : pyL hh n (7, 0, 0, q, [], i) (0, 0, 0, q + 1, [], i) := pyL_1 (by
  rw [py_7, if_neg (fun c => by have := hb q c; omega), if_pos h])
theorem ru_end {q i : Int} (h : n ≤ q) : pyR hh n (7, 0, 0, q, [], i) i := pyR_1 (by rw [py_7, if_pos h])
theorem ru_bad {q i : Int} (h : ¬ n ≤ q) (h2 : hh q ≠ 59) : pyR hh n (7, 0, 0, q, [], i) (-1000 - q) := pyR_1 (by rw [py_7, if_neg h, if_neg h2])
theorem exR_n {c p F q f : Int} (hb : ∀ x : Int, n ≤ x → hh x = -1) (hc : 0 ≤ c) (hp : 0 ≤ p) (e : exR hh c p F q f) (hf : f = 0) : q ≤ n := by
  rcases e with ⟨a1, a2, a3, a4⟩ | ⟨a1, a2, a3⟩ | ⟨a1, a2⟩
  · rcases Int.lt_or_le p n with c | c
    · omega
    · have := hb p c
      omega
  · omega
  · omega
/-- between two rules -/
def pyW (hh : Int → Int) (n q f mo sz j : Int) : Prop := (mo = 1 ∧ f = 0 ∧ q ≤ n ∧ sz = j ∧ j ≤ 16 ∧ pyL hh n (0, 0, 0, 0, [], 0) (0, 0, 0, q, [], j)) ∨ (mo = 0 ∧ ((f ≠ 0 ∧ pyR hh n (0, 0, 0, 0, [], 0) f) ∨ (f = 0 ∧ hh q ≠ 59 ∧ pyL hh n (0, 0, 0, 0, [], 0) (7, 0, 0, q, [], sz))))
theorem pyW_end {q f mo sz z : Int} (_m0 : mo = 0) (hR : (f ≠ 0 ∧ pyR hh n (0, 0, 0, 0, [], 0) f) ∨ (f = 0 ∧ hh q ≠ 59 ∧ pyL hh n (0, 0, 0, 0, [], 0) (7, 0, 0, q, [], sz))) (hz : (f ≠ 0 ∧ z = f) ∨ (f = 0 ∧ q < n ∧ z = -1000 - q) ∨ (f = 0 ∧ n ≤ q ∧ z = sz)) : pyR hh n (0, 0, 0, 0, [], 0) z := by
  rcases hR with ⟨a1, a2⟩ | ⟨a1, a2, a3⟩
  · rw [show z = f by omega]
    exact a2
  · rcases hz with ⟨b1, b2⟩ | ⟨b1, b2, b3⟩ | ⟨b1, b2, b3⟩
    · exact absurd a1 b1
    · rw [b3]
      exact a3 _ (ru_bad (by omega) a2)
    · rw [b3]
      exact a3 _ (ru_end b2)
theorem pyW_step {q5 f5 mo q sz j : Int} (hb : ∀ x : Int, n ≤ x → hh x = -1) (hO : pyO hh n q5 f5 (0, 0, 0, 0, [], 0) (fun q => (7, 0, 0, q, [], j + 1))) (hsz : f5 = 0 → sz = j + 1) (hj : j + 1 ≤ 16 ∨ f5 ≠ 0) (tk : tkR hh 59 q5 f5 mo q) : pyW hh n q f5 mo sz (j + 1) := by
  rcases hO with ⟨a1, a2⟩ | ⟨a1, a2⟩
  · rcases tk with ⟨b1, b2, b3, b4⟩ | ⟨b1, b2, b3⟩
    · have hlt : q5 < n := by
        rcases Int.lt_or_le q5 n with c | c
        · exact c
        · have := hb q5 c
          omega
      subst b4
      exact Or.inl ⟨b3, a1, by omega, hsz a1, by omega, a2.tr (ru_next hb b2)⟩
    · subst b3
      refine Or.inr ⟨b2, Or.inr ⟨a1, fun e => b1 ⟨a1, e⟩, ?_⟩⟩
      rw [hsz a1]
      exact a2
  · rcases tk with ⟨b1, -⟩ | ⟨b1, b2, b3⟩
    · exact absurd b1 a1
    · exact Or.inr ⟨b2, Or.inl ⟨a1, a2⟩⟩
end Py
