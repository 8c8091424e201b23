/-! BY HAND, 1: contents as integers, locals and answers as integers; what a stretch begins with and ends with -/
def ji (h : si_H) (i k : Nat) : Int := match h.2.2 i k with
  | .int x => x.toInt
  | _ => 0
/-- the content of place k of cell i as an integer -/
def ja (h : si_H) (i : Nat) (k : Int) : Int := ji h i k.toNat
def jt (i k : Nat) : Option (Int × Int) := match az_tb[i]? with
  | some (.inl o) => (match o.2[k]? with
    | some (.inl b) => some b.2
    | _ => none)
  | some (.inr a) => if a.1 ≠ .long ∧ k < a.2.1 then some a.2.2 else none
  | none => none
theorem jt_ok {P : si_P} {h : si_H} (hH : az_HI P az_tb h) {i k : Nat} {b : Int × Int} (ht : jt i k = some b) : (∃ x : Int32, h.2.2 i k = .int x ∧ x.toInt = ji h i k) ∧ b.1 ≤ ji h i k ∧ ji h i k ≤ b.2 := by
  have key : ∀ x : Int32, h.2.2 i k = .int x → x.toInt = ji h i k := by
    intro x hx
    unfold ji
    rw [hx]
  unfold jt at ht
  split at ht
  · rename_i o ho
    split at ht
    · rename_i b' hb
      cases ht
      obtain ⟨-, h2⟩ := hH.2 i _ ho
      obtain ⟨x, h3, h4, h5⟩ := h2 k _ hb
      have := key x h3
      exact ⟨⟨x, h3, this⟩, this ▸ h4, this ▸ h5⟩
    · cases ht
  · rename_i a ho
    split at ht
    · rename_i hc
      cases ht
      obtain ⟨-, h2⟩ := hH.2 i _ ho
      have h3 := h2 k hc.2
      unfold az_aok at h3
      rw [if_neg hc.1] at h3
      obtain ⟨x, h3, h4, h5⟩ := h3
      have := key x h3
      exact ⟨⟨x, h3, this⟩, this ▸ h4, this ▸ h5⟩
    · cases ht
  · cases ht
/-- a row of ints: its cell, its length, its bounds -/
def jrow (i : Nat) : Option (Nat × Int × Int) := match az_tb[i]? with
  | some (.inr a) => if a.1 ≠ .long then some a.2 else none
  | _ => none
theorem jt_row {i : Nat} {r : Nat × Int × Int} (hr : jrow i = some r) {k : Nat} (hk : k < r.1) : jt i k = some r.2 := by
  unfold jrow at hr
  unfold jt
  split at hr
  · rename_i a ha
    split at hr
    · rename_i hc
      cases hr
      rw [ha]
      exact if_pos ⟨hc, hk⟩
    · cases hr
  · cases hr
theorem ja_bd {P : si_P} {h : si_H} (hH : az_HI P az_tb h) {i k : Nat} {b : Int × Int} (ht : jt i k = some b) : b.1 ≤ ja h i k ∧ ja h i k ≤ b.2 := (jt_ok hH ht).2
theorem ja_row {P : si_P} {h : si_H} (hH : az_HI P az_tb h) {i : Nat} {r : Nat × Int × Int} (hr : jrow i = some r) {k : Int} (h0 : 0 ≤ k) (hk : k < r.1) : r.2.1 ≤ ja h i k ∧ ja h i k ≤ r.2.2 := (jt_ok hH (jt_row hr (k := k.toNat) (by omega))).2
/-- locals -/
def jI (ls : si_L) (k : Nat) (z : Int) : Prop := ∃ x : Int32, si_ld k ls = some (.int x) ∧ x.toInt = z
def jR (P : si_P) (ls : si_L) (k c : Nat) : Prop := si_ld k ls = some (.ref (P.1 + c))
/-- an answer -/
def jV (rv : Option Value) (z : Int) : Prop := ∃ x : Int32, rv = some (.int x) ∧ x.toInt = z
theorem jI.cg {ls : si_L} {k : Nat} {z z' : Int} (h : jI ls k z) (e : z = z') : jI ls k z' := e ▸ h
theorem jV.cg {rv : Option Value} {z z' : Int} (h : jV rv z) (e : z = z') : jV rv z' := e ▸ h
theorem jI.of {P : si_P} {ρ : Nat → Int} {n : Nat} {aL : az_Ls} {ls : si_L} (h : az_gL P ρ n aL ls) {k : Nat} {a : az_L} (hk : az_ld k aL = some (.inl a)) : jI ls k (az_ev ρ a) := by
  obtain ⟨-, w, h1, h2⟩ := h k _ hk
  obtain ⟨x, rfl, hx⟩ := az_gV_int h2
  exact ⟨x, h1, hx⟩
theorem jR.of {P : si_P} {ρ : Nat → Int} {n : Nat} {aL : az_Ls} {ls : si_L} (h : az_gL P ρ n aL ls) {k c : Nat} (hk : az_ld k aL = some (.inr (.inr (.inl c)))) : jR P ls k c := by
  obtain ⟨-, w, h1, h2⟩ := h k _ hk
  cases az_gV_cell h2
  exact h1
theorem jL_nil {P : si_P} {ρ : Nat → Int} {n : Nat} {ls : si_L} : az_gL P ρ n [] ls := fun k v hv => by cases hv
theorem jL_int {P : si_P} {ρ : Nat → Int} {n : Nat} {aL : az_Ls} {ls : si_L} {k : Nat} {a : az_L} (h : jI ls k (az_ev ρ a)) (hw : az_wfb n a = true) (hL : az_gL P ρ n aL ls) : az_gL P ρ n ((k, .inl a) :: aL) ls := by
  intro j v hv
  unfold az_ld at hv
  split at hv
  · rename_i e
    cases hv
    have e' : k = j := e
    subst e'
    obtain ⟨x, h1, h2⟩ := h
    exact ⟨az_wfb_ok hw, .int x, h1, h2⟩
  · exact hL j v hv
theorem jL_ref {P : si_P} {ρ : Nat → Int} {n : Nat} {aL : az_Ls} {ls : si_L} {k c : Nat} (h : jR P ls k c) (hL : az_gL P ρ n aL ls) : az_gL P ρ n ((k, .inr (.inr (.inl c))) :: aL) ls := by
  intro j v hv
  unfold az_ld at hv
  split at hv
  · rename_i e
    cases hv
    have e' : k = j := e
    subst e'
    exact ⟨trivial, _, h, rfl⟩
  · exact hL j v hv
def jρ (l : List Int) : Nat → Int := fun i => l.getD i 0
/-- what is known, piece by piece -/
def jgI (ρ : Nat → Int) : Nat → az_I → Prop
  | _, [] => True
  | k, b :: r => (b.1 ≤ ρ k ∧ ρ k ≤ b.2) ∧ jgI ρ (k + 1) r
def jgF (ρ : Nat → Int) : List az_L → Prop
  | [] => True
  | f :: r => 0 ≤ az_ev ρ f ∧ jgF ρ r
def jn1 (ρ : Nat → Int) (q : az_N) : Prop := match q.1 with
  | 0 => az_ev ρ q.2.1 * az_ev ρ q.2.2.1 = az_ev ρ q.2.2.2
  | 1 => 0 ≤ az_ev ρ q.2.1 ∧ 1 ≤ az_ev ρ q.2.2.1 ∧ az_ev ρ q.2.2.2 = az_ev ρ q.2.1 / az_ev ρ q.2.2.1
  | 3 => 0 ≤ az_ev ρ q.2.1 ∧ 1 ≤ az_ev ρ q.2.2.1 ∧ az_ev ρ q.2.2.2 = az_ev ρ q.2.1 % az_ev ρ q.2.2.1
  | _ => True
def jgN (ρ : Nat → Int) : List az_N → Prop
  | [] => True
  | q :: r => az_nlok ρ q ∧ jgN ρ r
def jgM (ρ : Nat → Int) : List az_N → Prop
  | [] => True
  | q :: r => jn1 ρ q ∧ jgM ρ r
def jgT (ρ : Nat → Int) (h : si_H) : List az_R → Prop
  | [] => True
  | q :: r => (q.1 ≠ 1000000 → ja h q.1 (az_ev ρ q.2.1) = az_ev ρ q.2.2) ∧ jgT ρ h r
theorem jgI_ok {ρ : Nat → Int} : ∀ (l : az_I) (k : Nat), jgI ρ k l → ∀ (v : Nat) (b : Int × Int), l[v]? = some b → b.1 ≤ ρ (k + v) ∧ ρ (k + v) ≤ b.2
  | [], _, _, v, b, hb => by cases hb
  | x :: r, k, h, v, b, hb => by
    cases v with
    | zero => cases hb; exact h.1
    | succ v =>
      have := jgI_ok r (k + 1) h.2 v b hb
      rw [show k + (v + 1) = k + 1 + v from by omega]
      exact this
theorem jgI_un {ρ : Nat → Int} : ∀ (l : az_I) (k : Nat), (∀ (v : Nat) (b : Int × Int), l[v]? = some b → b.1 ≤ ρ (k + v) ∧ ρ (k + v) ≤ b.2) → jgI ρ k l
  | [], _, _ => trivial
  | x :: r, k, h => ⟨h 0 x rfl, jgI_un r (k + 1) (fun v b hb => by
      have := h (v + 1) b hb
      rw [show k + (v + 1) = k + 1 + v from by omega] at this
      exact this)⟩
theorem jgF_un {ρ : Nat → Int} {n : Nat} : ∀ {l : List az_L}, (∀ f ∈ l, 0 ≤ az_ev ρ f ∧ az_wf n f) → jgF ρ l
  | [], _ => trivial
  | f :: r, h => ⟨(h f List.mem_cons_self).1, jgF_un (fun x hx => h x (List.mem_cons_of_mem _ hx))⟩
theorem jgF_ok {ρ : Nat → Int} : ∀ {l : List az_L}, jgF ρ l → ∀ f ∈ l, 0 ≤ az_ev ρ f
  | [], _, f, hf => by cases hf
  | x :: r, h, f, hf => by
    rcases List.mem_cons.mp hf with rfl | hf
    · exact h.1
    · exact jgF_ok h.2 f hf
def jnk (l : List az_N) : Bool := l.all (fun q => decide (q.1 = 0) || decide (q.1 = 1) || decide (q.1 = 3))
theorem jn1_ok {ρ : Nat → Int} {q : az_N} (hq : (decide (q.1 = 0) || decide (q.1 = 1) || decide (q.1 = 3)) = true) (h : jn1 ρ q) : az_nlok ρ q := by
  obtain ⟨k, a, b, c⟩ := q
  simp only [Bool.or_eq_true, decide_eq_true_eq] at hq
  rcases hq with (rfl | rfl) | rfl
  · exact ⟨fun _ => h, fun e => (by simp at e), fun e => (by simp at e), fun e => (by simp at e), fun e => (by simp at e)⟩
  · exact ⟨fun e => (by simp at e), fun _ => h, fun e => (by simp at e), fun e => (by simp at e), fun e => (by simp at e)⟩
  · exact ⟨fun e => (by simp at e), fun e => (by simp at e), fun e => (by simp at e), fun _ => h, fun e => (by simp at e)⟩
theorem jgN_un {ρ : Nat → Int} {n : Nat} : ∀ {l : List az_N}, (∀ f ∈ l, az_nlok ρ f ∧ az_wfN n f) → jgN ρ l
  | [], _ => trivial
  | f :: r, h => ⟨(h f List.mem_cons_self).1, jgN_un (fun x hx => h x (List.mem_cons_of_mem _ hx))⟩
theorem jgN_ok {ρ : Nat → Int} : ∀ {l : List az_N}, jnk l = true → jgM ρ l → ∀ f ∈ l, az_nlok ρ f
  | [], _, _, f, hf => by cases hf
  | x :: r, hk, h, f, hf => by
    unfold jnk at hk
    rw [List.all_cons, Bool.and_eq_true] at hk
    rcases List.mem_cons.mp hf with rfl | hf
    · exact jn1_ok hk.1 h.1
    · exact jgN_ok (l := r) hk.2 h.2 f hf
theorem jgT_un {P : si_P} {ρ : Nat → Int} {h : si_H} {n : Nat} : ∀ {l : List az_R}, (∀ f ∈ l, az_trok P ρ h f ∧ az_wfR n f) → jgT ρ h l
  | [], _ => trivial
  | f :: r, hl => ⟨fun hn => by
      obtain ⟨-, x, h1, h2⟩ := (hl f List.mem_cons_self).1.2 hn
      show ji h f.1 _ = _
      unfold ji
      rw [h1]
      exact h2, jgT_un (fun x hx => hl x (List.mem_cons_of_mem _ hx))⟩
/-- tracked places at the start: within the table -/
def jgS (ρ : Nat → Int) (h : si_H) : List az_R → Prop
  | [] => True
  | q :: r => (q.1 ≠ 1000000 ∧ 0 ≤ az_ev ρ q.2.1 ∧ (jt q.1 (az_ev ρ q.2.1).toNat).isSome = true ∧ ja h q.1 (az_ev ρ q.2.1) = az_ev ρ q.2.2) ∧ jgS ρ h r
theorem jgS_ok {P : si_P} {ρ : Nat → Int} {h : si_H} (hH : az_HI P az_tb h) : ∀ {l : List az_R}, jgS ρ h l → ∀ f ∈ l, az_trok P ρ h f
  | [], _, f, hf => by cases hf
  | x :: r, hs, f, hf => by
    rcases List.mem_cons.mp hf with rfl | hf
    · obtain ⟨h1, h2, h3, h4⟩ := hs.1
      refine ⟨fun e => absurd e h1, fun _ => ⟨h2, ?_⟩⟩
      obtain ⟨b, hb⟩ := Option.isSome_iff_exists.mp h3
      obtain ⟨⟨y, y1, y2⟩, -⟩ := jt_ok hH hb
      exact ⟨y, y1, y2.trans h4⟩
    · exact jgS_ok hH hs.2 f hf
theorem jg_mk {P : si_P} {ρ : Nat → Int} {h : si_H} {C : az_C} (hH : az_HI P az_tb h) (hw : az_wfC C = true) (hk : jnk C.2.2.1 = true) (h1 : jgI ρ 0 C.1) (h2 : jgF ρ C.2.1) (h3 : jgM ρ C.2.2.1) (h4 : jgS ρ h C.2.2.2) : az_g P ρ h C := by
  unfold az_wfC at hw
  simp only [Bool.and_eq_true] at hw
  obtain ⟨⟨w1, w2⟩, w3⟩ := hw
  refine ⟨fun v b hb => by have := jgI_ok C.1 0 h1 v b hb; rw [Nat.zero_add] at this; exact this, fun f hf => ⟨jgF_ok h2 f hf, az_wfb_ok (List.all_eq_true.mp w1 f hf)⟩, fun q hq => ⟨jgN_ok hk h3 q hq, ?_⟩, fun q hq => ⟨jgS_ok hH h4 q hq, ?_⟩⟩
  · have := List.all_eq_true.mp w2 q hq
    simp only [Bool.and_eq_true] at this
    exact ⟨az_wfb_ok this.1.1, az_wfb_ok this.1.2, az_wfb_ok this.2⟩
  · have := List.all_eq_true.mp w3 q hq
    simp only [Bool.and_eq_true] at this
    exact ⟨az_wfb_ok this.1, az_wfb_ok this.2⟩
/-- all but the written places is as it was -/
def jfr (τ : Nat → Int) : List (Nat × Option az_L) → Nat → Int → Prop
  | [], _, _ => True
  | w :: r, i, k => (w.1 = i → match w.2 with
    | some I => 0 ≤ az_ev τ I ∧ k ≠ az_ev τ I
    | none => False) ∧ jfr τ r i k
theorem jfr_ok {τ : Nat → Int} {i : Nat} {k : Int} (h0 : 0 ≤ k) : ∀ {W : List (Nat × Option az_L)}, jfr τ W i k → ∀ w ∈ W, w.1 = i → ∃ I, w.2 = some I ∧ (az_ev τ I).toNat ≠ k.toNat
  | [], _, w, hw, _ => by cases hw
  | x :: r, h, w, hw, e => by
    rcases List.mem_cons.mp hw with rfl | hw
    · have := h.1 e
      split at this
      · rename_i I hI
        exact ⟨I, hI, by omega⟩
      · exact this.elim
    · exact jfr_ok h0 h.2 w hw e
theorem jfr_un {τ : Nat → Int} {W : List (Nat × Option az_L)} {h h' : si_H} (hw : az_wok τ W h h') : ∀ (i : Nat) (k : Int), 0 ≤ k → jfr τ W i k → ja h' i k = ja h i k := by
  intro i k h0 hk
  show ji h' i _ = ji h i _
  unfold ji
  rw [hw i k.toNat (jfr_ok h0 hk)]
/-- a call at a stop -/
def jcl (mi pc : Nat) (aS : List az_V) : Option (Nat × List az_V × List az_V) := match si_m mi, si_fetch mi pc with
  | some _, some e => az_call az_tb e aS
  | _, _ => none
theorem jcall {P : si_P} {Q : Option Value → si_H → Prop} {τ : Nat → Int} {h : si_H} {C : az_C} {mi pc d m' : Nat} {aS args : List az_V} {ls : si_L} {st : List Value} (hc : jcl mi pc aS = some (m', args, [])) (hH : az_HI P az_tb h) (hS : az_gS P τ C.1.length aS st) (hx : ∀ as : List Value, az_gL P τ C.1.length (az_args 0 args) (lv_args 0 as) → az_X P d m' 0 (lv_args 0 as) [] h (fun rv h1 => az_X P (d + 1) mi (pc + 3) ls rv.toList h1 Q)) : az_X P (d + 1) mi pc ls st h Q := by
  unfold jcl at hc
  split at hc
  · rename_i y e hy he
    obtain ⟨c1, c2, c3, as, rs, c4, c5, c6⟩ := az_call_ok (pc := pc) (y := y) (ls := ls) (P := P) (h := h) (C := C) az_tb_ok hH hS hc
    cases rs with
    | cons a b => exact c6.elim
    | nil =>
      refine az_X_call hy he c1 c2 c3 c4 ((hx as (az_args_ok 0 c5)).mono (fun rv h1 hq => ?_))
      rw [List.append_nil]
      exact hq
  · cases hc
/-- the stretch with nothing kept but the table -/
def jT : si_H → Prop := fun _ => True
theorem jT_fr : az_fr_of jT az_jf := fun _ _ _ _ => trivial
def jarr (P : si_P) (md : List (Nat × Nat)) (d0 mi0 n0 : Nat) (ρ0 : Nat → Int) (h0 : si_H) (Q : Option Value → si_H → Prop) (a : az_Ar) : Prop := ∀ (τ : Nat → Int) (h' : si_H), az_ext n0 ρ0 τ → az_HI P az_tb h' → az_same_out md h0 h' → (∀ (i : Nat) (k : Int), 0 ≤ k → jfr τ a.2.1 i k → ja h' i k = ja h0 i k) → jgI τ 0 a.1.1 → jgF τ a.1.2.1 → jgN τ a.1.2.2.1 → jgT τ h' a.1.2.2.2 → (match a.2.2 with
  | .inl q => ∀ (ls' : si_L) (st' : List Value), az_gL P τ a.1.1.length q.2.1 ls' → az_gS P τ a.1.1.length q.2.2 st' → az_X P d0 mi0 q.1 ls' st' h' Q
  | .inr rv => ∀ w : Option Value, az_gO P τ a.1.1.length rv w → Q w h')
def jall {α : Type} (p : α → Prop) : List α → Prop
  | [] => True
  | a :: r => p a ∧ jall p r
theorem jall_ok {α : Type} {p : α → Prop} : ∀ {l : List α}, jall p l → ∀ a ∈ l, p a
  | [], _, a, ha => by cases ha
  | x :: r, h, a, ha => by
    rcases List.mem_cons.mp ha with rfl | ha
    · exact h.1
    · exact jall_ok h.2 a ha
theorem jseg {P : si_P} {cts : List az_Ct} {inl stops : List Nat} {md mw spl : List (Nat × Nat)} {Q : Option Value → si_H → Prop} (hxa : P.2.1 < P.1) (hmw : mw.all (fun x => md.contains x) = true) (hcts : ∀ c ∈ cts, az_ok jT P az_tb c ∧ az_wfct c = true) {n dn : Nat} {C : az_C} {mi pc : Nat} {aL : az_Ls} {aS : List az_V} {L : List az_Ar} {d : Nat} {ρ : Nat → Int} {h : si_H} {ls : si_L} {st : List Value} (hs : az_sgm az_tb cts inl stops md mw spl n true dn C mi pc aL aS [] [] = some L) (hd : dn ≤ d) (hH : az_HI P az_tb h) (hg : az_g P ρ h C) (hL : az_gL P ρ C.1.length aL ls) (hS : az_gS P ρ C.1.length aS st) (hA : jall (jarr P md d mi C.1.length ρ h Q) L) : az_X P d mi pc ls st h Q := by
  refine az_seg (J := jT) az_tb_ok hxa (fun _ _ _ _ => trivial) hmw hcts hs hd hH trivial hg hL hS (fun a ha => ?_)
  have hj := jall_ok hA a ha
  intro τ h' e1 e2 _ e4 e5 e6
  exact hj τ h' e1 e2 e4 (jfr_un e5) (jgI_un _ 0 (fun v b hb => by rw [Nat.zero_add]; exact e6.1 v b hb)) (jgF_un e6.2.1) (jgN_un e6.2.2.1) (jgT_un e6.2.2.2)
theorem jO_none {P : si_P} {τ : Nat → Int} {n : Nat} {w : Option Value} (h : az_gO P τ n none w) : w = none := by
  cases w with
  | none => rfl
  | some x => exact h.elim
theorem jO_int {P : si_P} {τ : Nat → Int} {n : Nat} {a : az_L} {w : Option Value} (h : az_gO P τ n (some (.inl a)) w) : jV w (az_ev τ a) := by
  cases w with
  | none => exact h.elim
  | some v =>
    obtain ⟨x, rfl, hx⟩ := az_gV_int h.2.1
    exact ⟨x, rfl, hx⟩
theorem jS_nil {P : si_P} {τ : Nat → Int} {n : Nat} {st : List Value} (h : az_gS P τ n [] st) : st = [] := by
  cases st with
  | nil => rfl
  | cons a b => exact h.elim
theorem jS_one {P : si_P} {ρ : Nat → Int} {n : Nat} {a : az_L} {rv : Option Value} (h : jV rv (az_ev ρ a)) (hw : az_wfb n a = true) : az_gS P ρ n [.inl a] rv.toList := by
  obtain ⟨x, rfl, hx⟩ := h
  exact ⟨az_wfb_ok hw, hx, trivial⟩
