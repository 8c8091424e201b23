/-! THE CHECKER, 1: linear expressions over named numbers, what bounds and facts say of them -/
abbrev az_L : Type := List (Nat × Int) × Int
def az_evL (ρ : Nat → Int) : List (Nat × Int) → Int
  | [] => 0
  | t :: r => t.2 * ρ t.1 + az_evL ρ r
def az_ev (ρ : Nat → Int) (a : az_L) : Int := az_evL ρ a.1 + a.2
def az_ins (v : Nat) (c : Int) : List (Nat × Int) → List (Nat × Int)
  | [] => if c = 0 then [] else [(v, c)]
  | t :: r => if t.1 = v then (if t.2 + c = 0 then r else (v, t.2 + c) :: r) else t :: az_ins v c r
def az_addL : List (Nat × Int) → List (Nat × Int) → List (Nat × Int)
  | [], b => b
  | t :: r, b => az_ins t.1 t.2 (az_addL r b)
def az_add (a b : az_L) : az_L := (az_addL a.1 b.1, a.2 + b.2)
def az_sclL (k : Int) : List (Nat × Int) → List (Nat × Int)
  | [] => []
  | t :: r => (t.1, k * t.2) :: az_sclL k r
def az_scl (k : Int) (a : az_L) : az_L := if k = 0 then ([], 0) else (az_sclL k a.1, k * a.2)
def az_sub (a b : az_L) : az_L := az_add a (az_scl (-1) b)
def az_c (k : Int) : az_L := ([], k)
def az_v (v : Nat) : az_L := ([(v, 1)], 0)
def az_plus (a : az_L) (k : Int) : az_L := (a.1, a.2 + k)
def az_same (a b : az_L) : Bool := match az_sub a b with
  | ([], c) => decide (c = 0)
  | _ => false
theorem az_ins_ev (ρ : Nat → Int) (v : Nat) (c : Int) : ∀ l, az_evL ρ (az_ins v c l) = c * ρ v + az_evL ρ l
  | [] => by
    unfold az_ins
    split
    · rename_i h; subst h; simp [az_evL]
    · simp [az_evL]
  | t :: r => by
    unfold az_ins
    split
    · rename_i h
      split
      · rename_i h2
        have h3 : t.2 = -c := by omega
        rw [show az_evL ρ (t :: r) = t.2 * ρ t.1 + az_evL ρ r from rfl, h3, h, Int.neg_mul]
        omega
      · rw [show az_evL ρ ((v, t.2 + c) :: r) = (t.2 + c) * ρ v + az_evL ρ r from rfl, show az_evL ρ (t :: r) = t.2 * ρ t.1 + az_evL ρ r from rfl, h, Int.add_mul]
        omega
    · rw [show az_evL ρ (t :: az_ins v c r) = t.2 * ρ t.1 + az_evL ρ (az_ins v c r) from rfl, az_ins_ev ρ v c r, show az_evL ρ (t :: r) = t.2 * ρ t.1 + az_evL ρ r from rfl]
      omega
theorem az_addL_ev (ρ : Nat → Int) : ∀ a b, az_evL ρ (az_addL a b) = az_evL ρ a + az_evL ρ b
  | [], b => by simp [az_addL, az_evL]
  | t :: r, b => by
    unfold az_addL
    rw [az_ins_ev, az_addL_ev ρ r b, show az_evL ρ (t :: r) = t.2 * ρ t.1 + az_evL ρ r from rfl]
    omega
theorem az_add_ev (ρ : Nat → Int) (a b : az_L) : az_ev ρ (az_add a b) = az_ev ρ a + az_ev ρ b := by
  unfold az_ev az_add
  dsimp only
  rw [az_addL_ev]
  omega
theorem az_sclL_ev (ρ : Nat → Int) (k : Int) : ∀ a, az_evL ρ (az_sclL k a) = k * az_evL ρ a
  | [] => by simp [az_sclL, az_evL]
  | t :: r => by
    rw [show az_sclL k (t :: r) = (t.1, k * t.2) :: az_sclL k r from rfl, show az_evL ρ ((t.1, k * t.2) :: az_sclL k r) = k * t.2 * ρ t.1 + az_evL ρ (az_sclL k r) from rfl, az_sclL_ev ρ k r, show az_evL ρ (t :: r) = t.2 * ρ t.1 + az_evL ρ r from rfl, Int.mul_add, Int.mul_assoc]
theorem az_scl_ev (ρ : Nat → Int) (k : Int) (a : az_L) : az_ev ρ (az_scl k a) = k * az_ev ρ a := by
  unfold az_scl
  split
  · rename_i h; subst h; simp [az_ev, az_evL]
  · unfold az_ev
    dsimp only
    rw [az_sclL_ev, Int.mul_add]
theorem az_sub_ev (ρ : Nat → Int) (a b : az_L) : az_ev ρ (az_sub a b) = az_ev ρ a - az_ev ρ b := by
  unfold az_sub
  rw [az_add_ev, az_scl_ev]
  omega
theorem az_c_ev (ρ : Nat → Int) (k : Int) : az_ev ρ (az_c k) = k := by simp [az_ev, az_c, az_evL]
theorem az_v_ev (ρ : Nat → Int) (v : Nat) : az_ev ρ (az_v v) = ρ v := by simp [az_ev, az_v, az_evL]
theorem az_plus_ev (ρ : Nat → Int) (a : az_L) (k : Int) : az_ev ρ (az_plus a k) = az_ev ρ a + k := by
  unfold az_ev az_plus
  dsimp only
  omega
theorem az_same_ev {ρ : Nat → Int} {a b : az_L} (h : az_same a b = true) : az_ev ρ a = az_ev ρ b := by
  unfold az_same at h
  split at h
  · rename_i c hc
    have h1 := az_sub_ev ρ a b
    rw [hc, of_decide_eq_true h] at h1
    simp only [az_ev, az_evL] at h1
    unfold az_ev
    omega
  · cases h
/-- only numbers below n are named -/
def az_wfL (n : Nat) (l : List (Nat × Int)) : Prop := ∀ t ∈ l, t.1 < n
def az_wf (n : Nat) (a : az_L) : Prop := az_wfL n a.1
theorem az_wf_c (n : Nat) (k : Int) : az_wf n (az_c k) := fun t h => by cases h
theorem az_wf_v {n v : Nat} (h : v < n) : az_wf n (az_v v) := fun t ht => by
  rcases List.mem_singleton.mp ht with rfl
  exact h
theorem az_wf.mono {n k : Nat} {a : az_L} (h : az_wf n a) (hk : n ≤ k) : az_wf k a := fun t ht => Nat.lt_of_lt_of_le (h t ht) hk
theorem az_wf_plus {n : Nat} {a : az_L} {k : Int} (h : az_wf n a) : az_wf n (az_plus a k) := h
theorem az_wf_ins {n v : Nat} {c : Int} (hv : v < n) : ∀ {l}, az_wfL n l → az_wfL n (az_ins v c l)
  | [], _ => by
    unfold az_ins
    split
    · exact fun t h => by cases h
    · exact fun t h => by
        rcases List.mem_singleton.mp h with rfl
        exact hv
  | t :: r, h => by
    unfold az_ins
    have hr : az_wfL n r := fun x hx => h x (List.mem_cons_of_mem _ hx)
    split
    · split
      · exact hr
      · exact fun x hx => (List.mem_cons.mp hx).elim (fun e => by rw [e]; exact hv) (hr x)
    · exact fun x hx => (List.mem_cons.mp hx).elim (fun e => by rw [e]; exact h t List.mem_cons_self) (az_wf_ins hv hr x)
theorem az_wf_addL {n : Nat} : ∀ {a b}, az_wfL n a → az_wfL n b → az_wfL n (az_addL a b)
  | [], _, _, hb => hb
  | t :: r, _, ha, hb => az_wf_ins (ha t List.mem_cons_self) (az_wf_addL (fun x hx => ha x (List.mem_cons_of_mem _ hx)) hb)
theorem az_wf_add {n : Nat} {a b : az_L} (ha : az_wf n a) (hb : az_wf n b) : az_wf n (az_add a b) := az_wf_addL ha hb
theorem az_wf_sclL {n : Nat} {k : Int} : ∀ {a}, az_wfL n a → az_wfL n (az_sclL k a)
  | [], _ => fun t h => by cases h
  | t :: r, h => fun x hx => (List.mem_cons.mp hx).elim (fun e => by rw [e]; exact h t List.mem_cons_self) (az_wf_sclL (a := r) (fun y hy => h y (List.mem_cons_of_mem _ hy)) x)
theorem az_wf_scl {n : Nat} {k : Int} {a : az_L} (ha : az_wf n a) : az_wf n (az_scl k a) := by
  unfold az_scl
  split
  · exact fun t h => by cases h
  · exact az_wf_sclL ha
theorem az_wf_sub {n : Nat} {a b : az_L} (ha : az_wf n a) (hb : az_wf n b) : az_wf n (az_sub a b) := az_wf_add ha (az_wf_scl hb)
theorem az_evL_eq {ρ σ : Nat → Int} {n : Nat} (h : ∀ v, v < n → σ v = ρ v) : ∀ {l}, az_wfL n l → az_evL σ l = az_evL ρ l
  | [], _ => rfl
  | t :: r, hw => by
    show t.2 * σ t.1 + az_evL σ r = t.2 * ρ t.1 + az_evL ρ r
    rw [h _ (hw t List.mem_cons_self), az_evL_eq h (fun x hx => hw x (List.mem_cons_of_mem _ hx))]
theorem az_ev_eq {ρ σ : Nat → Int} {n : Nat} (h : ∀ v, v < n → σ v = ρ v) {a : az_L} (hw : az_wf n a) : az_ev σ a = az_ev ρ a := by
  unfold az_ev
  rw [az_evL_eq h hw]
/-- bounds -/
abbrev az_I : Type := List (Int × Int)
def az_gI (ρ : Nat → Int) (iv : az_I) : Prop := ∀ (v : Nat) (b : Int × Int), iv[v]? = some b → b.1 ≤ ρ v ∧ ρ v ≤ b.2
def az_lbL (iv : az_I) : List (Nat × Int) → Option Int
  | [] => some 0
  | t :: r => match iv[t.1]? with
    | some b => (match az_lbL iv r with
      | some s => some ((if 0 ≤ t.2 then t.2 * b.1 else t.2 * b.2) + s)
      | none => none)
    | none => none
theorem az_lbL_le {ρ : Nat → Int} {iv : az_I} (hI : az_gI ρ iv) : ∀ {l : List (Nat × Int)} {k : Int}, az_lbL iv l = some k → k ≤ az_evL ρ l
  | [], k, h => by cases h; exact Int.le_refl _
  | t :: r, k, h => by
    unfold az_lbL at h
    split at h
    · rename_i b hb
      split at h
      · rename_i s hs
        cases h
        have h1 := az_lbL_le hI hs
        have h2 := hI _ _ hb
        show _ ≤ t.2 * ρ t.1 + az_evL ρ r
        split
        · rename_i h3
          have := Int.mul_le_mul_of_nonneg_left h2.1 h3
          omega
        · rename_i h3
          have := Int.mul_le_mul_of_nonpos_left (a := t.2) (by omega) h2.2
          omega
      · cases h
    · cases h
/-- is it at least k by the bounds alone -/
def az_ge (iv : az_I) (a : az_L) (k : Int) : Bool := match az_lbL iv a.1 with
  | some s => decide (k ≤ s + a.2)
  | none => false
theorem az_ge_ok {ρ : Nat → Int} {iv : az_I} (hI : az_gI ρ iv) {a : az_L} {k : Int} (h : az_ge iv a k = true) : k ≤ az_ev ρ a := by
  unfold az_ge at h
  split at h
  · rename_i s hs
    have h1 := az_lbL_le hI hs
    have h2 := of_decide_eq_true h
    unfold az_ev
    omega
  · cases h
def az_ub (iv : az_I) (a : az_L) : Option Int := match az_lbL iv (az_sclL (-1) a.1) with
  | some s => some (a.2 - s)
  | none => none
theorem az_ub_ok {ρ : Nat → Int} {iv : az_I} (hI : az_gI ρ iv) {a : az_L} {k : Int} (h : az_ub iv a = some k) : az_ev ρ a ≤ k := by
  unfold az_ub at h
  split at h
  · rename_i s hs
    cases h
    have h1 := az_lbL_le hI hs
    rw [az_sclL_ev] at h1
    unfold az_ev
    omega
  · cases h
def az_lb (iv : az_I) (a : az_L) : Option Int := match az_lbL iv a.1 with
  | some s => some (s + a.2)
  | none => none
theorem az_lb_ok {ρ : Nat → Int} {iv : az_I} (hI : az_gI ρ iv) {a : az_L} {k : Int} (h : az_lb iv a = some k) : k ≤ az_ev ρ a := by
  unfold az_lb at h
  split at h
  · rename_i s hs
    cases h
    have h1 := az_lbL_le hI hs
    unfold az_ev
    omega
  · cases h
/-- provable: by bounds, by one fact, by two -/
def az_p1 (iv : az_I) (fs : List az_L) (a : az_L) : Bool := az_ge iv a 0 || fs.any (fun f => az_ge iv (az_sub a f) 0)
def az_p2 (iv : az_I) (fs : List az_L) (a : az_L) : Bool := az_p1 iv fs a || fs.any (fun f => az_p1 iv fs (az_sub a f))
theorem az_p1_ok {ρ : Nat → Int} {iv : az_I} {fs : List az_L} (hI : az_gI ρ iv) (hF : ∀ f ∈ fs, 0 ≤ az_ev ρ f) {a : az_L} (h : az_p1 iv fs a = true) : 0 ≤ az_ev ρ a := by
  unfold az_p1 at h
  rw [Bool.or_eq_true] at h
  rcases h with h | h
  · exact az_ge_ok hI h
  · obtain ⟨f, hf, h1⟩ := List.any_eq_true.mp h
    have h2 := az_ge_ok hI h1
    rw [az_sub_ev] at h2
    have h3 := hF f hf
    omega
theorem az_p2_ok {ρ : Nat → Int} {iv : az_I} {fs : List az_L} (hI : az_gI ρ iv) (hF : ∀ f ∈ fs, 0 ≤ az_ev ρ f) {a : az_L} (h : az_p2 iv fs a = true) : 0 ≤ az_ev ρ a := by
  unfold az_p2 at h
  rw [Bool.or_eq_true] at h
  rcases h with h | h
  · exact az_p1_ok hI hF h
  · obtain ⟨f, hf, h1⟩ := List.any_eq_true.mp h
    have h2 := az_p1_ok hI hF h1
    rw [az_sub_ev] at h2
    have h3 := hF f hf
    omega
/-- a new fact narrows the bounds of what it names -/
def az_nar1 (iv : az_I) (a : az_L) (t : Nat × Int) : az_I := match iv[t.1]? with
  | some b => (match az_ub iv (az_sub a ([t], 0)) with
    | some u => if t.2 = 1 then iv.set t.1 (if b.1 < -u then -u else b.1, b.2) else if t.2 = -1 then iv.set t.1 (b.1, if u < b.2 then u else b.2) else iv
    | none => iv)
  | none => iv
def az_nar (iv : az_I) (a : az_L) : List (Nat × Int) → az_I
  | [] => iv
  | t :: r => az_nar (az_nar1 iv a t) a r
theorem az_gI_set {ρ : Nat → Int} {iv : az_I} (hI : az_gI ρ iv) {v : Nat} {b : Int × Int} (h : b.1 ≤ ρ v ∧ ρ v ≤ b.2) : az_gI ρ (iv.set v b) := by
  intro w c hc
  by_cases hw : v = w
  · subst hw
    rw [List.getElem?_set] at hc
    simp only [if_true] at hc
    split at hc
    · cases hc; exact h
    · cases hc
  · rw [List.getElem?_set_ne hw] at hc
    exact hI w c hc
theorem az_nar1_len {iv : az_I} {a : az_L} {t : Nat × Int} : (az_nar1 iv a t).length = iv.length := by
  unfold az_nar1
  split
  · split
    · split
      · rw [List.length_set]
      · split
        · rw [List.length_set]
        · rfl
    · rfl
  · rfl
theorem az_nar1_ok {ρ : Nat → Int} {iv : az_I} (hI : az_gI ρ iv) {a : az_L} (ha : 0 ≤ az_ev ρ a) {t : Nat × Int} : az_gI ρ (az_nar1 iv a t) := by
  unfold az_nar1
  split
  · rename_i b hb
    have hb' := hI _ _ hb
    split
    · rename_i u hu
      have h1 := az_ub_ok hI hu
      rw [az_sub_ev] at h1
      simp only [az_ev, az_evL] at h1
      unfold az_ev at ha
      split
      · rename_i ht
        rw [ht] at h1
        refine az_gI_set hI ⟨?_, hb'.2⟩
        dsimp only
        split <;> omega
      · split
        · rename_i ht
          rw [ht] at h1
          refine az_gI_set hI ⟨hb'.1, ?_⟩
          dsimp only
          split <;> omega
        · exact hI
    · exact hI
  · exact hI
theorem az_nar_ok {ρ : Nat → Int} {a : az_L} (ha : 0 ≤ az_ev ρ a) : ∀ {l : List (Nat × Int)} {iv : az_I}, az_gI ρ iv → az_gI ρ (az_nar iv a l)
  | [], _, hI => hI
  | t :: r, iv, hI => az_nar_ok (l := r) (iv := az_nar1 iv a t) ha (az_nar1_ok hI ha)
theorem az_nar_len {a : az_L} : ∀ {l : List (Nat × Int)} {iv : az_I}, (az_nar iv a l).length = iv.length
  | [], _ => rfl
  | t :: r, iv => (az_nar_len (l := r) (iv := az_nar1 iv a t)).trans az_nar1_len
