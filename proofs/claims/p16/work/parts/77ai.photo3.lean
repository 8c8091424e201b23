set_option maxRecDepth 100000
/-! THE BYTES OF A TAPE -/
set_option maxRecDepth 100000
theorem jn_a255 (y : Int32) : (y &&& 255).toInt = y.toInt % 256 := by
  have h1 : (y &&& 255).toBitVec.toNat = y.toBitVec.toNat % 256 := by
    rw [show (y &&& 255).toBitVec = y.toBitVec &&& (255 : Int32).toBitVec from rfl, BitVec.toNat_and]
    exact Nat.and_two_pow_sub_one_eq_mod _ 8
  have h2 := nm_ofnat (x := y &&& 255) (by rw [h1]; omega)
  have hl := y.toBitVec.isLt
  rw [h2, h1]
  have e : y.toInt = y.toBitVec.toInt := rfl
  rw [e, BitVec.toInt_eq_toNat_cond]
  split <;> omega
theorem jn_b256 (y : Int32) : y.toInt8.toInt32.toInt % 256 = y.toInt % 256 := by
  rw [Int8.toInt_toInt32, Int32.toInt_toInt8]
  exact @Int.bmod_emod y.toInt 256
theorem jn_a255b (y : Int32) : 0 ≤ (y &&& 255).toInt ∧ (y &&& 255).toInt ≤ 255 := by
  rw [jn_a255]
  omega
def jby (x : Int32) : Nat → Int
  | 0 => (x >>> (24 &&& 31)).toInt % 256
  | 1 => (x >>> (16 &&& 31)).toInt % 256
  | 2 => (x >>> (8 &&& 31)).toInt % 256
  | _ => (x >>> (0 &&& 31)).toInt % 256
def jap (A : Nat → Int) (L : Int) (x : Int32) (i : Nat) : Int := if (i : Int) < L then A i else jby x ((i : Int) - L).toNat
theorem jap_0 {f A : Nat → Int} {L : Int} {x : Int32} (hA : ∀ i : Nat, (i : Int) < L → f i = A i) : ∀ i : Nat, (i : Int) < L + ((0 : Nat) : Int) → f i = jap A L x i := fun i hi => by
  unfold jap
  rw [if_pos (by omega)]
  exact hA i (by omega)
theorem jap_s {g : Int → Int} {c : Nat} {h h1 h2 : si_H} {md : List (Nat × Nat)} {A : Nat → Int} {L : Int} {x : Int32} {k : Nat} {z : Int} (hF : ∀ i : Nat, (i : Int) < L + (k : Int) → g (ja h c i) = jap A L x i) (hL : 0 ≤ L) (ez : z = L + k) (t : g (ja h1 c z) = jby x k) (u : ∀ j : Int, 0 ≤ j → j ≠ z → ja h1 c j = ja h c j) (hs : az_same_out md h1 h2) (hm : md.all (fun x => decide (x.1 ≠ c)) = true) : ∀ i : Nat, (i : Int) < L + ((k + 1 : Nat) : Int) → g (ja h2 c i) = jap A L x i := by
  intro i hi
  rw [jso_row hs hm]
  by_cases e : (i : Int) = z
  · rw [e, t]
    unfold jap
    rw [if_neg (by omega), show ((i : Int) - L).toNat = k by omega]
  · rw [u i (by omega) e]
    exact hF i (by omega)
theorem tadd_ok {P : si_P} {d : Nat} {h : si_H} (hH : az_HI P az_tb h) (x : Int32) {A : Nat → Int} (hl0 : ja h 12 1 ≤ 256) (hA : ∀ i : Nat, (i : Int) < ja h 12 1 → ja h 13 i = A i) : az_X P d 140 0 (lv_args 0 [.ref (P.1 + 12), .int x]) [] h (fun rv h' => rv = none ∧ az_HI P az_tb h' ∧ az_same_out [(12, 1), (13, 1000000)] h h' ∧ ja h' 12 1 = ja h 12 1 + 4 ∧ ∀ i : Nat, (i : Int) < ja h 12 1 + 4 → ja h' 13 i = jap A (ja h 12 1) x i) := by
  have b0 : 0 ≤ ja h 12 1 ∧ ja h 12 1 ≤ 260 := ja_bd hH (i := 12) (k := 1) rfl
  have F0 := jap_0 (f := fun i => ja h 13 i) (x := x) hA
  have hl : jM [(0, .ref (P.1 + 12)), (1, .int x)] (lv_args 0 [.ref (P.1 + 12), .int x]) := jM_args [0, 1] rfl (by decide)
  generalize lv_args 0 [.ref (P.1 + 12), .int x] = ls at hl
  have km8 : ((-8) : Int32).toInt = (-8) := by decide
  have k0 : (0 : Int32).toInt = 0 := by decide
  have k1 : (1 : Int32).toInt = 1 := by decide
  have k8 : (8 : Int32).toInt = 8 := by decide
  have k16 : (16 : Int32).toInt = 16 := by decide
  have k24 : (24 : Int32).toInt = 24 := by decide
  have k255 : (255 : Int32).toInt = 255 := by decide
  have k260 : (260 : Int32).toInt = 260 := by decide
  refine az_X_step (pc' := 2) (ls' := ls) (st' := [.int 24]) (h' := h) rfl rfl rfl ?_
  refine jm_istore_n (l' := [(2, .int 24), (0, .ref (P.1 + 12)), (1, .int x)]) rfl rfl (by decide) hl rfl rfl (fun ls2 hl2 => ?_)
  refine jm_iload_n (x := 24) rfl rfl (jM_at hl2 0 rfl) ?_
  refine jn_ifd (t := 49) (c := false) rfl rfl rfl (by decide) ?_
  show az_X P _ 140 7 ls2 [] _ _
  refine jm_aload_n (x := P.1 + 12) rfl rfl (jM_at hl2 1 rfl) ?_
  refine jn_gf (i := 12) (k := 1) rfl rfl hH (by decide) (hH.2 12 _ rfl).1 rfl rfl (fun z8 (ez8 : z8.toInt = ja h 12 1) (bz8 : 0 ≤ z8.toInt ∧ z8.toInt ≤ 260) => ?_)
  refine az_X_step (pc' := 14) (ls' := ls2) (st' := [.int 260, .int z8]) (h' := h) rfl rfl rfl ?_
  refine jx_ic (t := 49) rfl rfl rfl (fun hc14 => ?_) (fun hc14 => ?_)
  · have g14 := jc2_ge_t hc14
    refine jn_retv rfl rfl rfl ?_
    exfalso
    omega
  · have g14 := jc2_ge_f hc14
    refine jm_aload_n (x := P.1 + 12) rfl rfl (jM_at hl2 1 rfl) ?_
    refine jx_gf (i := 12) rfl rfl hH (by decide) (hH.2 12 _ rfl).1 rfl (jx_rf hH rfl rfl) ?_
    refine jm_aload_n (x := P.1 + 12) rfl rfl (jM_at hl2 1 rfl) ?_
    refine jn_gf (i := 12) (k := 1) rfl rfl hH (by decide) (hH.2 12 _ rfl).1 rfl rfl (fun z22 (ez22 : z22.toInt = ja h 12 1) (bz22 : 0 ≤ z22.toInt ∧ z22.toInt ≤ 260) => ?_)
    refine jm_iload_n (x := x) rfl rfl (jM_at hl2 2 rfl) ?_
    refine jm_iload_n (x := 24) rfl rfl (jM_at hl2 0 rfl) ?_
    refine az_X_step (pc' := 28) (ls' := ls2) (st' := [.int (x >>> (24 &&& 31)), .int z22, .ref (P.1 + 13)]) (h' := h) rfl rfl rfl ?_
    refine az_X_step (pc' := 31) (ls' := ls2) (st' := [.int 255, .int (x >>> (24 &&& 31)), .int z22, .ref (P.1 + 13)]) (h' := h) rfl rfl rfl ?_
    refine az_X_step (pc' := 32) (ls' := ls2) (st' := [.int ((x >>> (24 &&& 31)) &&& 255), .int z22, .ref (P.1 + 13)]) (h' := h) rfl rfl rfl ?_
    refine jn_ias (i := 13) (x := z22) (v := ((x >>> (24 &&& 31)) &&& 255)) rfl rfl hH (by decide) rfl (by omega) (by show _ < ((260 : Nat) : Int); omega) (jn_a255b _).1 (jn_a255b _).2 (fun h32 hH32 hs32 t32 u32 => ?_)
    refine jm_aload_n (x := P.1 + 12) rfl rfl (jM_at hl2 1 rfl) ?_
    refine az_X_step (pc' := 35) (ls' := ls2) (st' := [.ref (P.1 + 12), .ref (P.1 + 12)]) (h' := h32) rfl rfl rfl ?_
    refine jn_gf (i := 12) (k := 1) rfl rfl hH32 (by decide) (hH32.2 12 _ rfl).1 rfl rfl (fun z35 (ez35 : z35.toInt = ja h32 12 1) (bz35 : 0 ≤ z35.toInt ∧ z35.toInt ≤ 260) => ?_)
    replace ez35 : z35.toInt = ja h 12 1 := ez35.trans (jso hs32 (by decide))
    refine az_X_step (pc' := 39) (ls' := ls2) (st' := [.int 1, .int z35, .ref (P.1 + 12)]) (h' := h32) rfl rfl rfl ?_
    refine jn_add (a := z35) (b := 1) rfl rfl (by omega) (by omega) (fun z39 ez39 => ?_)
    rw [show (1 : Int32).toInt = 1 by decide] at ez39
    refine jn_pf (i := 12) (k := 1) (x := z39) rfl rfl hH32 (by decide) rfl (hH32.2 12 _ rfl).1 rfl rfl (by decide) (by decide) (by show 0 ≤ _; omega) (by show _ ≤ 260; omega) (fun h40 hH40 hs40 (t40 : ja h40 12 1 = z39.toInt) => ?_)
    have F1 := jap_s (g := fun x => x) (c := 13) (k := 0) F0 b0.1 (show z22.toInt = ja h 12 1 + ((0 : Nat) : Int) by omega) (t32.trans (jn_a255 _)) u32 hs40 (by decide)
    refine jm_iinc (x := 24) (x' := 16) (l' := [(2, .int 16), (0, .ref (P.1 + 12)), (1, .int x)]) rfl rfl (by decide) (jM_at hl2 0 rfl) (by decide) hl2 rfl rfl (fun ls43 hl43 => ?_)
    refine az_X_step (pc' := 3) (ls' := ls43) (st' := []) (h' := h40) rfl rfl rfl ?_
    refine jm_iload_n (x := 16) rfl rfl (jM_at hl43 0 rfl) ?_
    refine jn_ifd (t := 49) (c := false) rfl rfl rfl (by decide) ?_
    show az_X P _ 140 7 ls43 [] _ _
    refine jm_aload_n (x := P.1 + 12) rfl rfl (jM_at hl43 1 rfl) ?_
    refine jn_gf (i := 12) (k := 1) rfl rfl hH40 (by decide) (hH40.2 12 _ rfl).1 rfl rfl (fun z8_2 (ez8_2 : z8_2.toInt = ja h40 12 1) (bz8_2 : 0 ≤ z8_2.toInt ∧ z8_2.toInt ≤ 260) => ?_)
    replace ez8_2 : z8_2.toInt = z39.toInt := ez8_2.trans t40
    refine az_X_step (pc' := 14) (ls' := ls43) (st' := [.int 260, .int z8_2]) (h' := h40) rfl rfl rfl ?_
    refine jx_ic (t := 49) rfl rfl rfl (fun hc14_2 => ?_) (fun hc14_2 => ?_)
    · have g14_2 := jc2_ge_t hc14_2
      refine jn_retv rfl rfl rfl ?_
      exfalso
      omega
    · have g14_2 := jc2_ge_f hc14_2
      refine jm_aload_n (x := P.1 + 12) rfl rfl (jM_at hl43 1 rfl) ?_
      refine jx_gf (i := 12) rfl rfl hH40 (by decide) (hH40.2 12 _ rfl).1 rfl (jx_rf hH40 rfl rfl) ?_
      refine jm_aload_n (x := P.1 + 12) rfl rfl (jM_at hl43 1 rfl) ?_
      refine jn_gf (i := 12) (k := 1) rfl rfl hH40 (by decide) (hH40.2 12 _ rfl).1 rfl rfl (fun z22_2 (ez22_2 : z22_2.toInt = ja h40 12 1) (bz22_2 : 0 ≤ z22_2.toInt ∧ z22_2.toInt ≤ 260) => ?_)
      replace ez22_2 : z22_2.toInt = z39.toInt := ez22_2.trans t40
      refine jm_iload_n (x := x) rfl rfl (jM_at hl43 2 rfl) ?_
      refine jm_iload_n (x := 16) rfl rfl (jM_at hl43 0 rfl) ?_
      refine az_X_step (pc' := 28) (ls' := ls43) (st' := [.int (x >>> (16 &&& 31)), .int z22_2, .ref (P.1 + 13)]) (h' := h40) rfl rfl rfl ?_
      refine az_X_step (pc' := 31) (ls' := ls43) (st' := [.int 255, .int (x >>> (16 &&& 31)), .int z22_2, .ref (P.1 + 13)]) (h' := h40) rfl rfl rfl ?_
      refine az_X_step (pc' := 32) (ls' := ls43) (st' := [.int ((x >>> (16 &&& 31)) &&& 255), .int z22_2, .ref (P.1 + 13)]) (h' := h40) rfl rfl rfl ?_
      refine jn_ias (i := 13) (x := z22_2) (v := ((x >>> (16 &&& 31)) &&& 255)) rfl rfl hH40 (by decide) rfl (by omega) (by show _ < ((260 : Nat) : Int); omega) (jn_a255b _).1 (jn_a255b _).2 (fun h32_2 hH32_2 hs32_2 t32_2 u32_2 => ?_)
      refine jm_aload_n (x := P.1 + 12) rfl rfl (jM_at hl43 1 rfl) ?_
      refine az_X_step (pc' := 35) (ls' := ls43) (st' := [.ref (P.1 + 12), .ref (P.1 + 12)]) (h' := h32_2) rfl rfl rfl ?_
      refine jn_gf (i := 12) (k := 1) rfl rfl hH32_2 (by decide) (hH32_2.2 12 _ rfl).1 rfl rfl (fun z35_2 (ez35_2 : z35_2.toInt = ja h32_2 12 1) (bz35_2 : 0 ≤ z35_2.toInt ∧ z35_2.toInt ≤ 260) => ?_)
      replace ez35_2 : z35_2.toInt = z39.toInt := ez35_2.trans ((jso hs32_2 (by decide)).trans t40)
      refine az_X_step (pc' := 39) (ls' := ls43) (st' := [.int 1, .int z35_2, .ref (P.1 + 12)]) (h' := h32_2) rfl rfl rfl ?_
      refine jn_add (a := z35_2) (b := 1) rfl rfl (by omega) (by omega) (fun z39_2 ez39_2 => ?_)
      rw [show (1 : Int32).toInt = 1 by decide] at ez39_2
      refine jn_pf (i := 12) (k := 1) (x := z39_2) rfl rfl hH32_2 (by decide) rfl (hH32_2.2 12 _ rfl).1 rfl rfl (by decide) (by decide) (by show 0 ≤ _; omega) (by show _ ≤ 260; omega) (fun h40_2 hH40_2 hs40_2 (t40_2 : ja h40_2 12 1 = z39_2.toInt) => ?_)
      have F2 := jap_s (g := fun x => x) (c := 13) (k := 1) F1 b0.1 (show z22_2.toInt = ja h 12 1 + ((1 : Nat) : Int) by omega) (t32_2.trans (jn_a255 _)) u32_2 hs40_2 (by decide)
      refine jm_iinc (x := 16) (x' := 8) (l' := [(2, .int 8), (0, .ref (P.1 + 12)), (1, .int x)]) rfl rfl (by decide) (jM_at hl43 0 rfl) (by decide) hl43 rfl rfl (fun ls43_2 hl43_2 => ?_)
      refine az_X_step (pc' := 3) (ls' := ls43_2) (st' := []) (h' := h40_2) rfl rfl rfl ?_
      refine jm_iload_n (x := 8) rfl rfl (jM_at hl43_2 0 rfl) ?_
      refine jn_ifd (t := 49) (c := false) rfl rfl rfl (by decide) ?_
      show az_X P _ 140 7 ls43_2 [] _ _
      refine jm_aload_n (x := P.1 + 12) rfl rfl (jM_at hl43_2 1 rfl) ?_
      refine jn_gf (i := 12) (k := 1) rfl rfl hH40_2 (by decide) (hH40_2.2 12 _ rfl).1 rfl rfl (fun z8_3 (ez8_3 : z8_3.toInt = ja h40_2 12 1) (bz8_3 : 0 ≤ z8_3.toInt ∧ z8_3.toInt ≤ 260) => ?_)
      replace ez8_3 : z8_3.toInt = z39_2.toInt := ez8_3.trans t40_2
      refine az_X_step (pc' := 14) (ls' := ls43_2) (st' := [.int 260, .int z8_3]) (h' := h40_2) rfl rfl rfl ?_
      refine jx_ic (t := 49) rfl rfl rfl (fun hc14_3 => ?_) (fun hc14_3 => ?_)
      · have g14_3 := jc2_ge_t hc14_3
        refine jn_retv rfl rfl rfl ?_
        exfalso
        omega
      · have g14_3 := jc2_ge_f hc14_3
        refine jm_aload_n (x := P.1 + 12) rfl rfl (jM_at hl43_2 1 rfl) ?_
        refine jx_gf (i := 12) rfl rfl hH40_2 (by decide) (hH40_2.2 12 _ rfl).1 rfl (jx_rf hH40_2 rfl rfl) ?_
        refine jm_aload_n (x := P.1 + 12) rfl rfl (jM_at hl43_2 1 rfl) ?_
        refine jn_gf (i := 12) (k := 1) rfl rfl hH40_2 (by decide) (hH40_2.2 12 _ rfl).1 rfl rfl (fun z22_3 (ez22_3 : z22_3.toInt = ja h40_2 12 1) (bz22_3 : 0 ≤ z22_3.toInt ∧ z22_3.toInt ≤ 260) => ?_)
        replace ez22_3 : z22_3.toInt = z39_2.toInt := ez22_3.trans t40_2
        refine jm_iload_n (x := x) rfl rfl (jM_at hl43_2 2 rfl) ?_
        refine jm_iload_n (x := 8) rfl rfl (jM_at hl43_2 0 rfl) ?_
        refine az_X_step (pc' := 28) (ls' := ls43_2) (st' := [.int (x >>> (8 &&& 31)), .int z22_3, .ref (P.1 + 13)]) (h' := h40_2) rfl rfl rfl ?_
        refine az_X_step (pc' := 31) (ls' := ls43_2) (st' := [.int 255, .int (x >>> (8 &&& 31)), .int z22_3, .ref (P.1 + 13)]) (h' := h40_2) rfl rfl rfl ?_
        refine az_X_step (pc' := 32) (ls' := ls43_2) (st' := [.int ((x >>> (8 &&& 31)) &&& 255), .int z22_3, .ref (P.1 + 13)]) (h' := h40_2) rfl rfl rfl ?_
        refine jn_ias (i := 13) (x := z22_3) (v := ((x >>> (8 &&& 31)) &&& 255)) rfl rfl hH40_2 (by decide) rfl (by omega) (by show _ < ((260 : Nat) : Int); omega) (jn_a255b _).1 (jn_a255b _).2 (fun h32_3 hH32_3 hs32_3 t32_3 u32_3 => ?_)
        refine jm_aload_n (x := P.1 + 12) rfl rfl (jM_at hl43_2 1 rfl) ?_
        refine az_X_step (pc' := 35) (ls' := ls43_2) (st' := [.ref (P.1 + 12), .ref (P.1 + 12)]) (h' := h32_3) rfl rfl rfl ?_
        refine jn_gf (i := 12) (k := 1) rfl rfl hH32_3 (by decide) (hH32_3.2 12 _ rfl).1 rfl rfl (fun z35_3 (ez35_3 : z35_3.toInt = ja h32_3 12 1) (bz35_3 : 0 ≤ z35_3.toInt ∧ z35_3.toInt ≤ 260) => ?_)
        replace ez35_3 : z35_3.toInt = z39_2.toInt := ez35_3.trans ((jso hs32_3 (by decide)).trans t40_2)
        refine az_X_step (pc' := 39) (ls' := ls43_2) (st' := [.int 1, .int z35_3, .ref (P.1 + 12)]) (h' := h32_3) rfl rfl rfl ?_
        refine jn_add (a := z35_3) (b := 1) rfl rfl (by omega) (by omega) (fun z39_3 ez39_3 => ?_)
        rw [show (1 : Int32).toInt = 1 by decide] at ez39_3
        refine jn_pf (i := 12) (k := 1) (x := z39_3) rfl rfl hH32_3 (by decide) rfl (hH32_3.2 12 _ rfl).1 rfl rfl (by decide) (by decide) (by show 0 ≤ _; omega) (by show _ ≤ 260; omega) (fun h40_3 hH40_3 hs40_3 (t40_3 : ja h40_3 12 1 = z39_3.toInt) => ?_)
        have F3 := jap_s (g := fun x => x) (c := 13) (k := 2) F2 b0.1 (show z22_3.toInt = ja h 12 1 + ((2 : Nat) : Int) by omega) (t32_3.trans (jn_a255 _)) u32_3 hs40_3 (by decide)
        refine jm_iinc (x := 8) (x' := 0) (l' := [(2, .int 0), (0, .ref (P.1 + 12)), (1, .int x)]) rfl rfl (by decide) (jM_at hl43_2 0 rfl) (by decide) hl43_2 rfl rfl (fun ls43_3 hl43_3 => ?_)
        refine az_X_step (pc' := 3) (ls' := ls43_3) (st' := []) (h' := h40_3) rfl rfl rfl ?_
        refine jm_iload_n (x := 0) rfl rfl (jM_at hl43_3 0 rfl) ?_
        refine jn_ifd (t := 49) (c := false) rfl rfl rfl (by decide) ?_
        show az_X P _ 140 7 ls43_3 [] _ _
        refine jm_aload_n (x := P.1 + 12) rfl rfl (jM_at hl43_3 1 rfl) ?_
        refine jn_gf (i := 12) (k := 1) rfl rfl hH40_3 (by decide) (hH40_3.2 12 _ rfl).1 rfl rfl (fun z8_4 (ez8_4 : z8_4.toInt = ja h40_3 12 1) (bz8_4 : 0 ≤ z8_4.toInt ∧ z8_4.toInt ≤ 260) => ?_)
        replace ez8_4 : z8_4.toInt = z39_3.toInt := ez8_4.trans t40_3
        refine az_X_step (pc' := 14) (ls' := ls43_3) (st' := [.int 260, .int z8_4]) (h' := h40_3) rfl rfl rfl ?_
        refine jx_ic (t := 49) rfl rfl rfl (fun hc14_4 => ?_) (fun hc14_4 => ?_)
        · have g14_4 := jc2_ge_t hc14_4
          refine jn_retv rfl rfl rfl ?_
          exfalso
          omega
        · have g14_4 := jc2_ge_f hc14_4
          refine jm_aload_n (x := P.1 + 12) rfl rfl (jM_at hl43_3 1 rfl) ?_
          refine jx_gf (i := 12) rfl rfl hH40_3 (by decide) (hH40_3.2 12 _ rfl).1 rfl (jx_rf hH40_3 rfl rfl) ?_
          refine jm_aload_n (x := P.1 + 12) rfl rfl (jM_at hl43_3 1 rfl) ?_
          refine jn_gf (i := 12) (k := 1) rfl rfl hH40_3 (by decide) (hH40_3.2 12 _ rfl).1 rfl rfl (fun z22_4 (ez22_4 : z22_4.toInt = ja h40_3 12 1) (bz22_4 : 0 ≤ z22_4.toInt ∧ z22_4.toInt ≤ 260) => ?_)
          replace ez22_4 : z22_4.toInt = z39_3.toInt := ez22_4.trans t40_3
          refine jm_iload_n (x := x) rfl rfl (jM_at hl43_3 2 rfl) ?_
          refine jm_iload_n (x := 0) rfl rfl (jM_at hl43_3 0 rfl) ?_
          refine az_X_step (pc' := 28) (ls' := ls43_3) (st' := [.int (x >>> (0 &&& 31)), .int z22_4, .ref (P.1 + 13)]) (h' := h40_3) rfl rfl rfl ?_
          refine az_X_step (pc' := 31) (ls' := ls43_3) (st' := [.int 255, .int (x >>> (0 &&& 31)), .int z22_4, .ref (P.1 + 13)]) (h' := h40_3) rfl rfl rfl ?_
          refine az_X_step (pc' := 32) (ls' := ls43_3) (st' := [.int ((x >>> (0 &&& 31)) &&& 255), .int z22_4, .ref (P.1 + 13)]) (h' := h40_3) rfl rfl rfl ?_
          refine jn_ias (i := 13) (x := z22_4) (v := ((x >>> (0 &&& 31)) &&& 255)) rfl rfl hH40_3 (by decide) rfl (by omega) (by show _ < ((260 : Nat) : Int); omega) (jn_a255b _).1 (jn_a255b _).2 (fun h32_4 hH32_4 hs32_4 t32_4 u32_4 => ?_)
          refine jm_aload_n (x := P.1 + 12) rfl rfl (jM_at hl43_3 1 rfl) ?_
          refine az_X_step (pc' := 35) (ls' := ls43_3) (st' := [.ref (P.1 + 12), .ref (P.1 + 12)]) (h' := h32_4) rfl rfl rfl ?_
          refine jn_gf (i := 12) (k := 1) rfl rfl hH32_4 (by decide) (hH32_4.2 12 _ rfl).1 rfl rfl (fun z35_4 (ez35_4 : z35_4.toInt = ja h32_4 12 1) (bz35_4 : 0 ≤ z35_4.toInt ∧ z35_4.toInt ≤ 260) => ?_)
          replace ez35_4 : z35_4.toInt = z39_3.toInt := ez35_4.trans ((jso hs32_4 (by decide)).trans t40_3)
          refine az_X_step (pc' := 39) (ls' := ls43_3) (st' := [.int 1, .int z35_4, .ref (P.1 + 12)]) (h' := h32_4) rfl rfl rfl ?_
          refine jn_add (a := z35_4) (b := 1) rfl rfl (by omega) (by omega) (fun z39_4 ez39_4 => ?_)
          rw [show (1 : Int32).toInt = 1 by decide] at ez39_4
          refine jn_pf (i := 12) (k := 1) (x := z39_4) rfl rfl hH32_4 (by decide) rfl (hH32_4.2 12 _ rfl).1 rfl rfl (by decide) (by decide) (by show 0 ≤ _; omega) (by show _ ≤ 260; omega) (fun h40_4 hH40_4 hs40_4 (t40_4 : ja h40_4 12 1 = z39_4.toInt) => ?_)
          have F4 := jap_s (g := fun x => x) (c := 13) (k := 3) F3 b0.1 (show z22_4.toInt = ja h 12 1 + ((3 : Nat) : Int) by omega) (t32_4.trans (jn_a255 _)) u32_4 hs40_4 (by decide)
          refine jm_iinc (x := 0) (x' := (-8)) (l' := [(2, .int (-8)), (0, .ref (P.1 + 12)), (1, .int x)]) rfl rfl (by decide) (jM_at hl43_3 0 rfl) (by decide) hl43_3 rfl rfl (fun ls43_4 hl43_4 => ?_)
          refine az_X_step (pc' := 3) (ls' := ls43_4) (st' := []) (h' := h40_4) rfl rfl rfl ?_
          refine jm_iload_n (x := (-8)) rfl rfl (jM_at hl43_4 0 rfl) ?_
          refine jn_ifd (t := 49) (c := true) rfl rfl rfl (by decide) ?_
          show az_X P _ 140 49 ls43_4 [] _ _
          refine jn_retv rfl rfl rfl ?_
          exact ⟨rfl, hH40_4, ((hs32.sub (by decide)).tr ((hs40.sub (by decide)).tr ((hs32_2.sub (by decide)).tr ((hs40_2.sub (by decide)).tr ((hs32_3.sub (by decide)).tr ((hs40_3.sub (by decide)).tr ((hs32_4.sub (by decide)).tr (hs40_4.sub (by decide))))))))), t40_4.trans (by omega), fun i hi => F4 i (by omega)⟩
theorem rtypes_ok {P : si_P} {d : Nat} {h : si_H} (hH : az_HI P az_tb h) (x : Int32) {A : Nat → Int} (hl0 : ja h 60 16 ≤ 256) (hA : ∀ i : Nat, (i : Int) < ja h 60 16 → ja h 71 i % 256 = A i) : az_X P d 237 0 (lv_args 0 [.ref (P.1 + 60), .int x]) [] h (fun rv h' => rv = none ∧ az_HI P az_tb h' ∧ az_same_out [(60, 16), (71, 1000000)] h h' ∧ ja h' 60 16 = ja h 60 16 + 4 ∧ ∀ i : Nat, (i : Int) < ja h 60 16 + 4 → ja h' 71 i % 256 = jap A (ja h 60 16) x i) := by
  have b0 : 0 ≤ ja h 60 16 ∧ ja h 60 16 ≤ 260 := ja_bd hH (i := 60) (k := 16) rfl
  have F0 := jap_0 (f := fun i => ja h 71 i % 256) (x := x) hA
  have hl : jM [(0, .ref (P.1 + 60)), (1, .int x)] (lv_args 0 [.ref (P.1 + 60), .int x]) := jM_args [0, 1] rfl (by decide)
  generalize lv_args 0 [.ref (P.1 + 60), .int x] = ls at hl
  have km1 : ((-1) : Int32).toInt = (-1) := by decide
  have k0 : (0 : Int32).toInt = 0 := by decide
  have k1 : (1 : Int32).toInt = 1 := by decide
  have k2 : (2 : Int32).toInt = 2 := by decide
  have k3 : (3 : Int32).toInt = 3 := by decide
  have k8 : (8 : Int32).toInt = 8 := by decide
  have k16 : (16 : Int32).toInt = 16 := by decide
  have k24 : (24 : Int32).toInt = 24 := by decide
  refine az_X_step (pc' := 1) (ls' := ls) (st' := [.int 3]) (h' := h) rfl rfl rfl ?_
  refine jm_istore_n (l' := [(2, .int 3), (0, .ref (P.1 + 60)), (1, .int x)]) rfl rfl (by decide) hl rfl rfl (fun ls1 hl1 => ?_)
  refine jm_iload_n (x := 3) rfl rfl (jM_at hl1 0 rfl) ?_
  refine jn_ifd (t := 38) (c := false) rfl rfl rfl (by decide) ?_
  show az_X P _ 237 6 ls1 [] _ _
  refine jm_aload_n (x := P.1 + 60) rfl rfl (jM_at hl1 1 rfl) ?_
  refine jx_gf (i := 60) rfl rfl hH (by decide) (hH.2 60 _ rfl).1 rfl (jx_rf hH rfl rfl) ?_
  refine jm_aload_n (x := P.1 + 60) rfl rfl (jM_at hl1 1 rfl) ?_
  refine jn_gf (i := 60) (k := 16) rfl rfl hH (by decide) (hH.2 60 _ rfl).1 rfl rfl (fun z11 (ez11 : z11.toInt = ja h 60 16) (bz11 : 0 ≤ z11.toInt ∧ z11.toInt ≤ 260) => ?_)
  refine jm_iload_n (x := x) rfl rfl (jM_at hl1 2 rfl) ?_
  refine az_X_step (pc' := 17) (ls' := ls1) (st' := [.int 8, .int x, .int z11, .ref (P.1 + 71)]) (h' := h) rfl rfl rfl ?_
  refine jm_iload_n (x := 3) rfl rfl (jM_at hl1 0 rfl) ?_
  refine az_X_step (pc' := 19) (ls' := ls1) (st' := [.int 24, .int x, .int z11, .ref (P.1 + 71)]) (h' := h) rfl rfl (show some (_, _, Value.int (8 * 3) :: _, _) = _ by rw [show (8 * 3 : Int32) = 24 by decide]) ?_
  refine az_X_step (pc' := 20) (ls' := ls1) (st' := [.int (x >>> (24 &&& 31)), .int z11, .ref (P.1 + 71)]) (h' := h) rfl rfl rfl ?_
  refine az_X_step (pc' := 21) (ls' := ls1) (st' := [.int ((x >>> (24 &&& 31)).toInt8.toInt32), .int z11, .ref (P.1 + 71)]) (h' := h) rfl rfl rfl ?_
  refine jn_bas (i := 71) (x := z11) (v := ((x >>> (24 &&& 31)).toInt8.toInt32)) rfl rfl hH (by decide) rfl (by omega) (by show _ < ((260 : Nat) : Int); omega) (by decide) (by decide) (fun h21 hH21 hs21 t21 u21 => ?_)
  refine jm_aload_n (x := P.1 + 60) rfl rfl (jM_at hl1 1 rfl) ?_
  refine jm_aload_n (x := P.1 + 60) rfl rfl (jM_at hl1 1 rfl) ?_
  refine jn_gf (i := 60) (k := 16) rfl rfl hH21 (by decide) (hH21.2 60 _ rfl).1 rfl rfl (fun z24 (ez24 : z24.toInt = ja h21 60 16) (bz24 : 0 ≤ z24.toInt ∧ z24.toInt ≤ 260) => ?_)
  replace ez24 : z24.toInt = ja h 60 16 := ez24.trans (jso hs21 (by decide))
  refine az_X_step (pc' := 28) (ls' := ls1) (st' := [.int 1, .int z24, .ref (P.1 + 60)]) (h' := h21) rfl rfl rfl ?_
  refine jn_add (a := z24) (b := 1) rfl rfl (by omega) (by omega) (fun z28 ez28 => ?_)
  rw [show (1 : Int32).toInt = 1 by decide] at ez28
  refine jn_pf (i := 60) (k := 16) (x := z28) rfl rfl hH21 (by decide) rfl (hH21.2 60 _ rfl).1 rfl rfl (by decide) (by decide) (by show 0 ≤ _; omega) (by show _ ≤ 260; omega) (fun h29 hH29 hs29 (t29 : ja h29 60 16 = z28.toInt) => ?_)
  have F1 := jap_s (g := fun x => x % 256) (c := 71) (k := 0) F0 b0.1 (show z11.toInt = ja h 60 16 + ((0 : Nat) : Int) by omega) (by show ja _ _ _ % 256 = _; rw [t21, jn_b256, jn_b256]; rfl) u21 hs29 (by decide)
  refine jm_iinc (x := 3) (x' := 2) (l' := [(2, .int 2), (0, .ref (P.1 + 60)), (1, .int x)]) rfl rfl (by decide) (jM_at hl1 0 rfl) (by decide) hl1 rfl rfl (fun ls32 hl32 => ?_)
  refine az_X_step (pc' := 2) (ls' := ls32) (st' := []) (h' := h29) rfl rfl rfl ?_
  refine jm_iload_n (x := 2) rfl rfl (jM_at hl32 0 rfl) ?_
  refine jn_ifd (t := 38) (c := false) rfl rfl rfl (by decide) ?_
  show az_X P _ 237 6 ls32 [] _ _
  refine jm_aload_n (x := P.1 + 60) rfl rfl (jM_at hl32 1 rfl) ?_
  refine jx_gf (i := 60) rfl rfl hH29 (by decide) (hH29.2 60 _ rfl).1 rfl (jx_rf hH29 rfl rfl) ?_
  refine jm_aload_n (x := P.1 + 60) rfl rfl (jM_at hl32 1 rfl) ?_
  refine jn_gf (i := 60) (k := 16) rfl rfl hH29 (by decide) (hH29.2 60 _ rfl).1 rfl rfl (fun z11_2 (ez11_2 : z11_2.toInt = ja h29 60 16) (bz11_2 : 0 ≤ z11_2.toInt ∧ z11_2.toInt ≤ 260) => ?_)
  replace ez11_2 : z11_2.toInt = z28.toInt := ez11_2.trans t29
  refine jm_iload_n (x := x) rfl rfl (jM_at hl32 2 rfl) ?_
  refine az_X_step (pc' := 17) (ls' := ls32) (st' := [.int 8, .int x, .int z11_2, .ref (P.1 + 71)]) (h' := h29) rfl rfl rfl ?_
  refine jm_iload_n (x := 2) rfl rfl (jM_at hl32 0 rfl) ?_
  refine az_X_step (pc' := 19) (ls' := ls32) (st' := [.int 16, .int x, .int z11_2, .ref (P.1 + 71)]) (h' := h29) rfl rfl (show some (_, _, Value.int (8 * 2) :: _, _) = _ by rw [show (8 * 2 : Int32) = 16 by decide]) ?_
  refine az_X_step (pc' := 20) (ls' := ls32) (st' := [.int (x >>> (16 &&& 31)), .int z11_2, .ref (P.1 + 71)]) (h' := h29) rfl rfl rfl ?_
  refine az_X_step (pc' := 21) (ls' := ls32) (st' := [.int ((x >>> (16 &&& 31)).toInt8.toInt32), .int z11_2, .ref (P.1 + 71)]) (h' := h29) rfl rfl rfl ?_
  refine jn_bas (i := 71) (x := z11_2) (v := ((x >>> (16 &&& 31)).toInt8.toInt32)) rfl rfl hH29 (by decide) rfl (by omega) (by show _ < ((260 : Nat) : Int); omega) (by decide) (by decide) (fun h21_2 hH21_2 hs21_2 t21_2 u21_2 => ?_)
  refine jm_aload_n (x := P.1 + 60) rfl rfl (jM_at hl32 1 rfl) ?_
  refine jm_aload_n (x := P.1 + 60) rfl rfl (jM_at hl32 1 rfl) ?_
  refine jn_gf (i := 60) (k := 16) rfl rfl hH21_2 (by decide) (hH21_2.2 60 _ rfl).1 rfl rfl (fun z24_2 (ez24_2 : z24_2.toInt = ja h21_2 60 16) (bz24_2 : 0 ≤ z24_2.toInt ∧ z24_2.toInt ≤ 260) => ?_)
  replace ez24_2 : z24_2.toInt = z28.toInt := ez24_2.trans ((jso hs21_2 (by decide)).trans t29)
  refine az_X_step (pc' := 28) (ls' := ls32) (st' := [.int 1, .int z24_2, .ref (P.1 + 60)]) (h' := h21_2) rfl rfl rfl ?_
  refine jn_add (a := z24_2) (b := 1) rfl rfl (by omega) (by omega) (fun z28_2 ez28_2 => ?_)
  rw [show (1 : Int32).toInt = 1 by decide] at ez28_2
  refine jn_pf (i := 60) (k := 16) (x := z28_2) rfl rfl hH21_2 (by decide) rfl (hH21_2.2 60 _ rfl).1 rfl rfl (by decide) (by decide) (by show 0 ≤ _; omega) (by show _ ≤ 260; omega) (fun h29_2 hH29_2 hs29_2 (t29_2 : ja h29_2 60 16 = z28_2.toInt) => ?_)
  have F2 := jap_s (g := fun x => x % 256) (c := 71) (k := 1) F1 b0.1 (show z11_2.toInt = ja h 60 16 + ((1 : Nat) : Int) by omega) (by show ja _ _ _ % 256 = _; rw [t21_2, jn_b256, jn_b256]; rfl) u21_2 hs29_2 (by decide)
  refine jm_iinc (x := 2) (x' := 1) (l' := [(2, .int 1), (0, .ref (P.1 + 60)), (1, .int x)]) rfl rfl (by decide) (jM_at hl32 0 rfl) (by decide) hl32 rfl rfl (fun ls32_2 hl32_2 => ?_)
  refine az_X_step (pc' := 2) (ls' := ls32_2) (st' := []) (h' := h29_2) rfl rfl rfl ?_
  refine jm_iload_n (x := 1) rfl rfl (jM_at hl32_2 0 rfl) ?_
  refine jn_ifd (t := 38) (c := false) rfl rfl rfl (by decide) ?_
  show az_X P _ 237 6 ls32_2 [] _ _
  refine jm_aload_n (x := P.1 + 60) rfl rfl (jM_at hl32_2 1 rfl) ?_
  refine jx_gf (i := 60) rfl rfl hH29_2 (by decide) (hH29_2.2 60 _ rfl).1 rfl (jx_rf hH29_2 rfl rfl) ?_
  refine jm_aload_n (x := P.1 + 60) rfl rfl (jM_at hl32_2 1 rfl) ?_
  refine jn_gf (i := 60) (k := 16) rfl rfl hH29_2 (by decide) (hH29_2.2 60 _ rfl).1 rfl rfl (fun z11_3 (ez11_3 : z11_3.toInt = ja h29_2 60 16) (bz11_3 : 0 ≤ z11_3.toInt ∧ z11_3.toInt ≤ 260) => ?_)
  replace ez11_3 : z11_3.toInt = z28_2.toInt := ez11_3.trans t29_2
  refine jm_iload_n (x := x) rfl rfl (jM_at hl32_2 2 rfl) ?_
  refine az_X_step (pc' := 17) (ls' := ls32_2) (st' := [.int 8, .int x, .int z11_3, .ref (P.1 + 71)]) (h' := h29_2) rfl rfl rfl ?_
  refine jm_iload_n (x := 1) rfl rfl (jM_at hl32_2 0 rfl) ?_
  refine az_X_step (pc' := 19) (ls' := ls32_2) (st' := [.int 8, .int x, .int z11_3, .ref (P.1 + 71)]) (h' := h29_2) rfl rfl (show some (_, _, Value.int (8 * 1) :: _, _) = _ by rw [show (8 * 1 : Int32) = 8 by decide]) ?_
  refine az_X_step (pc' := 20) (ls' := ls32_2) (st' := [.int (x >>> (8 &&& 31)), .int z11_3, .ref (P.1 + 71)]) (h' := h29_2) rfl rfl rfl ?_
  refine az_X_step (pc' := 21) (ls' := ls32_2) (st' := [.int ((x >>> (8 &&& 31)).toInt8.toInt32), .int z11_3, .ref (P.1 + 71)]) (h' := h29_2) rfl rfl rfl ?_
  refine jn_bas (i := 71) (x := z11_3) (v := ((x >>> (8 &&& 31)).toInt8.toInt32)) rfl rfl hH29_2 (by decide) rfl (by omega) (by show _ < ((260 : Nat) : Int); omega) (by decide) (by decide) (fun h21_3 hH21_3 hs21_3 t21_3 u21_3 => ?_)
  refine jm_aload_n (x := P.1 + 60) rfl rfl (jM_at hl32_2 1 rfl) ?_
  refine jm_aload_n (x := P.1 + 60) rfl rfl (jM_at hl32_2 1 rfl) ?_
  refine jn_gf (i := 60) (k := 16) rfl rfl hH21_3 (by decide) (hH21_3.2 60 _ rfl).1 rfl rfl (fun z24_3 (ez24_3 : z24_3.toInt = ja h21_3 60 16) (bz24_3 : 0 ≤ z24_3.toInt ∧ z24_3.toInt ≤ 260) => ?_)
  replace ez24_3 : z24_3.toInt = z28_2.toInt := ez24_3.trans ((jso hs21_3 (by decide)).trans t29_2)
  refine az_X_step (pc' := 28) (ls' := ls32_2) (st' := [.int 1, .int z24_3, .ref (P.1 + 60)]) (h' := h21_3) rfl rfl rfl ?_
  refine jn_add (a := z24_3) (b := 1) rfl rfl (by omega) (by omega) (fun z28_3 ez28_3 => ?_)
  rw [show (1 : Int32).toInt = 1 by decide] at ez28_3
  refine jn_pf (i := 60) (k := 16) (x := z28_3) rfl rfl hH21_3 (by decide) rfl (hH21_3.2 60 _ rfl).1 rfl rfl (by decide) (by decide) (by show 0 ≤ _; omega) (by show _ ≤ 260; omega) (fun h29_3 hH29_3 hs29_3 (t29_3 : ja h29_3 60 16 = z28_3.toInt) => ?_)
  have F3 := jap_s (g := fun x => x % 256) (c := 71) (k := 2) F2 b0.1 (show z11_3.toInt = ja h 60 16 + ((2 : Nat) : Int) by omega) (by show ja _ _ _ % 256 = _; rw [t21_3, jn_b256, jn_b256]; rfl) u21_3 hs29_3 (by decide)
  refine jm_iinc (x := 1) (x' := 0) (l' := [(2, .int 0), (0, .ref (P.1 + 60)), (1, .int x)]) rfl rfl (by decide) (jM_at hl32_2 0 rfl) (by decide) hl32_2 rfl rfl (fun ls32_3 hl32_3 => ?_)
  refine az_X_step (pc' := 2) (ls' := ls32_3) (st' := []) (h' := h29_3) rfl rfl rfl ?_
  refine jm_iload_n (x := 0) rfl rfl (jM_at hl32_3 0 rfl) ?_
  refine jn_ifd (t := 38) (c := false) rfl rfl rfl (by decide) ?_
  show az_X P _ 237 6 ls32_3 [] _ _
  refine jm_aload_n (x := P.1 + 60) rfl rfl (jM_at hl32_3 1 rfl) ?_
  refine jx_gf (i := 60) rfl rfl hH29_3 (by decide) (hH29_3.2 60 _ rfl).1 rfl (jx_rf hH29_3 rfl rfl) ?_
  refine jm_aload_n (x := P.1 + 60) rfl rfl (jM_at hl32_3 1 rfl) ?_
  refine jn_gf (i := 60) (k := 16) rfl rfl hH29_3 (by decide) (hH29_3.2 60 _ rfl).1 rfl rfl (fun z11_4 (ez11_4 : z11_4.toInt = ja h29_3 60 16) (bz11_4 : 0 ≤ z11_4.toInt ∧ z11_4.toInt ≤ 260) => ?_)
  replace ez11_4 : z11_4.toInt = z28_3.toInt := ez11_4.trans t29_3
  refine jm_iload_n (x := x) rfl rfl (jM_at hl32_3 2 rfl) ?_
  refine az_X_step (pc' := 17) (ls' := ls32_3) (st' := [.int 8, .int x, .int z11_4, .ref (P.1 + 71)]) (h' := h29_3) rfl rfl rfl ?_
  refine jm_iload_n (x := 0) rfl rfl (jM_at hl32_3 0 rfl) ?_
  refine az_X_step (pc' := 19) (ls' := ls32_3) (st' := [.int 0, .int x, .int z11_4, .ref (P.1 + 71)]) (h' := h29_3) rfl rfl (show some (_, _, Value.int (8 * 0) :: _, _) = _ by rw [show (8 * 0 : Int32) = 0 by decide]) ?_
  refine az_X_step (pc' := 20) (ls' := ls32_3) (st' := [.int (x >>> (0 &&& 31)), .int z11_4, .ref (P.1 + 71)]) (h' := h29_3) rfl rfl rfl ?_
  refine az_X_step (pc' := 21) (ls' := ls32_3) (st' := [.int ((x >>> (0 &&& 31)).toInt8.toInt32), .int z11_4, .ref (P.1 + 71)]) (h' := h29_3) rfl rfl rfl ?_
  refine jn_bas (i := 71) (x := z11_4) (v := ((x >>> (0 &&& 31)).toInt8.toInt32)) rfl rfl hH29_3 (by decide) rfl (by omega) (by show _ < ((260 : Nat) : Int); omega) (by decide) (by decide) (fun h21_4 hH21_4 hs21_4 t21_4 u21_4 => ?_)
  refine jm_aload_n (x := P.1 + 60) rfl rfl (jM_at hl32_3 1 rfl) ?_
  refine jm_aload_n (x := P.1 + 60) rfl rfl (jM_at hl32_3 1 rfl) ?_
  refine jn_gf (i := 60) (k := 16) rfl rfl hH21_4 (by decide) (hH21_4.2 60 _ rfl).1 rfl rfl (fun z24_4 (ez24_4 : z24_4.toInt = ja h21_4 60 16) (bz24_4 : 0 ≤ z24_4.toInt ∧ z24_4.toInt ≤ 260) => ?_)
  replace ez24_4 : z24_4.toInt = z28_3.toInt := ez24_4.trans ((jso hs21_4 (by decide)).trans t29_3)
  refine az_X_step (pc' := 28) (ls' := ls32_3) (st' := [.int 1, .int z24_4, .ref (P.1 + 60)]) (h' := h21_4) rfl rfl rfl ?_
  refine jn_add (a := z24_4) (b := 1) rfl rfl (by omega) (by omega) (fun z28_4 ez28_4 => ?_)
  rw [show (1 : Int32).toInt = 1 by decide] at ez28_4
  refine jn_pf (i := 60) (k := 16) (x := z28_4) rfl rfl hH21_4 (by decide) rfl (hH21_4.2 60 _ rfl).1 rfl rfl (by decide) (by decide) (by show 0 ≤ _; omega) (by show _ ≤ 260; omega) (fun h29_4 hH29_4 hs29_4 (t29_4 : ja h29_4 60 16 = z28_4.toInt) => ?_)
  have F4 := jap_s (g := fun x => x % 256) (c := 71) (k := 3) F3 b0.1 (show z11_4.toInt = ja h 60 16 + ((3 : Nat) : Int) by omega) (by show ja _ _ _ % 256 = _; rw [t21_4, jn_b256, jn_b256]; rfl) u21_4 hs29_4 (by decide)
  refine jm_iinc (x := 0) (x' := (-1)) (l' := [(2, .int (-1)), (0, .ref (P.1 + 60)), (1, .int x)]) rfl rfl (by decide) (jM_at hl32_3 0 rfl) (by decide) hl32_3 rfl rfl (fun ls32_4 hl32_4 => ?_)
  refine az_X_step (pc' := 2) (ls' := ls32_4) (st' := []) (h' := h29_4) rfl rfl rfl ?_
  refine jm_iload_n (x := (-1)) rfl rfl (jM_at hl32_4 0 rfl) ?_
  refine jn_ifd (t := 38) (c := true) rfl rfl rfl (by decide) ?_
  show az_X P _ 237 38 ls32_4 [] _ _
  refine jn_retv rfl rfl rfl ?_
  exact ⟨rfl, hH29_4, ((hs21.sub (by decide)).tr ((hs29.sub (by decide)).tr ((hs21_2.sub (by decide)).tr ((hs29_2.sub (by decide)).tr ((hs21_3.sub (by decide)).tr ((hs29_3.sub (by decide)).tr ((hs21_4.sub (by decide)).tr (hs29_4.sub (by decide))))))))), t29_4.trans (by omega), fun i hi => F4 i (by omega)⟩
theorem troom_ok {P : si_P} {d : Nat} {h : si_H} (hH : az_HI P az_tb h) (n : Int32) (hn : 0 ≤ n.toInt ∧ n.toInt ≤ 1000) : az_X P d 139 0 (lv_args 0 [.ref (P.1 + 12), .int n]) [] h (fun rv h' => h' = h ∧ ∃ z : Int32, rv = some (.int z) ∧ ((z.toInt = 1 ∧ ja h 12 1 + n.toInt ≤ 260) ∨ (z.toInt = 0 ∧ 260 < ja h 12 1 + n.toInt))) := by
  have hl : jM [(0, .ref (P.1 + 12)), (1, .int n)] (lv_args 0 [.ref (P.1 + 12), .int n]) := jM_args [0, 1] rfl (by decide)
  generalize lv_args 0 [.ref (P.1 + 12), .int n] = ls at hl
  have k0 : (0 : Int32).toInt = 0 := by decide
  have k1 : (1 : Int32).toInt = 1 := by decide
  have k260 : (260 : Int32).toInt = 260 := by decide
  refine jm_aload_n (x := P.1 + 12) rfl rfl (jM_at hl 0 rfl) ?_
  refine jn_gf (i := 12) (k := 1) rfl rfl hH (by decide) (hH.2 12 _ rfl).1 rfl rfl (fun z1 (ez1 : z1.toInt = ja h 12 1) (bz1 : 0 ≤ z1.toInt ∧ z1.toInt ≤ 260) => ?_)
  refine jm_iload_n (x := n) rfl rfl (jM_at hl 1 rfl) ?_
  refine jn_add (a := z1) (b := n) rfl rfl (by omega) (by omega) (fun z5 ez5 => ?_)
  refine az_X_step (pc' := 9) (ls' := ls) (st' := [.int 260, .int z5]) (h' := h) rfl rfl rfl ?_
  refine jx_ic (t := 16) rfl rfl rfl (fun hc9 => ?_) (fun hc9 => ?_)
  · have g9 := jc2_gt_t hc9
    refine az_X_step (pc' := 17) (ls' := ls) (st' := [.int 0]) (h' := h) rfl rfl rfl ?_
    refine jx_retz rfl rfl rfl (by decide) ?_
    exact ⟨rfl, 0, rfl, by omega⟩
  · have g9 := jc2_gt_f hc9
    refine az_X_step (pc' := 13) (ls' := ls) (st' := [.int 1]) (h' := h) rfl rfl rfl ?_
    refine az_X_step (pc' := 17) (ls' := ls) (st' := [.int 1]) (h' := h) rfl rfl rfl ?_
    refine jx_retz rfl rfl rfl (by decide) ?_
    exact ⟨rfl, 1, rfl, by omega⟩
theorem tsize_ok {P : si_P} {d : Nat} {h : si_H} (hH : az_HI P az_tb h) : az_X P d 137 0 (lv_args 0 [.ref (P.1 + 12)]) [] h (fun rv h' => h' = h ∧ jV rv (ja h 12 1)) := by
  have hl : jM [(0, .ref (P.1 + 12))] (lv_args 0 [.ref (P.1 + 12)]) := jM_args [0] rfl (by decide)
  generalize lv_args 0 [.ref (P.1 + 12)] = ls at hl
  refine jm_aload_n (x := P.1 + 12) rfl rfl (jM_at hl 0 rfl) ?_
  refine jn_gf (i := 12) (k := 1) rfl rfl hH (by decide) (hH.2 12 _ rfl).1 rfl rfl (fun z1 (ez1 : z1.toInt = ja h 12 1) (bz1 : 0 ≤ z1.toInt ∧ z1.toInt ≤ 260) => ?_)
  refine jx_ret rfl rfl rfl ?_
  exact ⟨rfl, z1, rfl, ez1⟩
theorem feed0b_ok {P : si_P} {d : Nat} {h : si_H} (hH : az_HI P az_tb h) (a b c v x : Int32) {A : Nat → Int} (hA : ∀ i : Nat, (i : Int) < ja h 12 1 → ja h 13 i = A i) : az_X P (d + 1) 145 0 (lv_args 0 [.ref (P.1 + 0), .int a, .int b, .int c, .int v, .int x]) [] h (fun rv h1 => ∃ w : Int32, rv = some (.int w) ∧ az_HI P az_tb h1 ∧ az_same_out [(12, 1), (13, 1000000)] h h1 ∧ ((ja h 12 1 ≤ 240 ∧ w.toInt = ja h 12 1 + 20 ∧ ja h1 12 1 = ja h 12 1 + 20 ∧ ∀ i : Nat, (i : Int) < ja h 12 1 + 20 → ja h1 13 i = jap (jap (jap (jap (jap A (ja h 12 1) a) ((ja h 12 1) + 4) b) ((ja h 12 1) + 8) c) ((ja h 12 1) + 12) v) ((ja h 12 1) + 16) x i) ∨ (240 < ja h 12 1 ∧ w.toInt = -1 ∧ h1 = h))) := by
  have b0 : 0 ≤ ja h 12 1 ∧ ja h 12 1 ≤ 260 := ja_bd hH (i := 12) (k := 1) rfl
  have hl : jM [(0, .ref (P.1 + 0)), (1, .int a), (2, .int b), (3, .int c), (4, .int v), (5, .int x)] (lv_args 0 [.ref (P.1 + 0), .int a, .int b, .int c, .int v, .int x]) := jM_args [0, 1, 2, 3, 4, 5] rfl (by decide)
  generalize lv_args 0 [.ref (P.1 + 0), .int a, .int b, .int c, .int v, .int x] = ls at hl
  have km1 : ((-1) : Int32).toInt = (-1) := by decide
  have k0 : (0 : Int32).toInt = 0 := by decide
  have k20 : (20 : Int32).toInt = 20 := by decide
  refine jm_aload_n (x := P.1 + 0) rfl rfl (jM_at hl 0 rfl) ?_
  refine jx_gf (i := 0) rfl rfl hH (by decide) (hH.2 0 _ rfl).1 rfl (jx_rf hH rfl rfl) ?_
  refine az_X_step (pc' := 6) (ls' := ls) (st' := [.int 20, .ref (P.1 + 12)]) (h' := h) rfl rfl rfl ?_
  refine az_X_call (m' := 139) (as := [.ref (P.1 + 12), .int 20]) (rest := []) rfl rfl rfl rfl rfl ?_ ?_
  · unfold si_call
    dsimp only
    rw [if_pos ⟨rfl, rfl⟩]
    show (match si_ix P h (P.1 + 12) with | some i => _ | none => none) = _
    rw [jix hH (by decide)]
    dsimp only
    rw [(hH.2 12 _ rfl).1]
    rfl
  refine (troom_ok hH 20 (by decide)).mono ?_
  rintro rv6 h6 ⟨q6, z6, rfl, ez6⟩
  subst h6
  show az_X P _ 145 9 ls [.int z6] _ _
  refine jx_if (t := 14) rfl rfl rfl (fun hc9 => ?_) (fun hc9 => ?_)
  · have g9 := jc1_ne_t hc9
    refine jm_aload_n (x := P.1 + 0) rfl rfl (jM_at hl 0 rfl) ?_
    refine jx_gf (i := 0) rfl rfl hH (by decide) (hH.2 0 _ rfl).1 rfl (jx_rf hH rfl rfl) ?_
    refine jm_iload_n (x := a) rfl rfl (jM_at hl 1 rfl) ?_
    refine az_X_call (m' := 140) (as := [.ref (P.1 + 12), .int a]) (rest := []) rfl rfl rfl rfl rfl ?_ ?_
    · unfold si_call
      dsimp only
      rw [if_pos ⟨rfl, rfl⟩]
      show (match si_ix P h (P.1 + 12) with | some i => _ | none => none) = _
      rw [jix hH (by decide)]
      dsimp only
      rw [(hH.2 12 _ rfl).1]
      rfl
    refine (tadd_ok hH a (by omega) hA).mono ?_
    rintro rv19 h19 ⟨rfl, hH19, hs19, f19⟩
    show az_X P _ 145 22 ls [] _ _
    refine jm_aload_n (x := P.1 + 0) rfl rfl (jM_at hl 0 rfl) ?_
    refine jx_gf (i := 0) rfl rfl hH19 (by decide) (hH19.2 0 _ rfl).1 rfl (jx_rf hH19 rfl rfl) ?_
    refine jm_iload_n (x := b) rfl rfl (jM_at hl 2 rfl) ?_
    refine az_X_call (m' := 140) (as := [.ref (P.1 + 12), .int b]) (rest := []) rfl rfl rfl rfl rfl ?_ ?_
    · unfold si_call
      dsimp only
      rw [if_pos ⟨rfl, rfl⟩]
      show (match si_ix P h19 (P.1 + 12) with | some i => _ | none => none) = _
      rw [jix hH19 (by decide)]
      dsimp only
      rw [(hH19.2 12 _ rfl).1]
      rfl
    refine (tadd_ok hH19 b (by omega) (fun i hi => f19.2 i (by omega))).mono ?_
    rintro rv27 h27 ⟨rfl, hH27, hs27, f27⟩
    show az_X P _ 145 30 ls [] _ _
    refine jm_aload_n (x := P.1 + 0) rfl rfl (jM_at hl 0 rfl) ?_
    refine jx_gf (i := 0) rfl rfl hH27 (by decide) (hH27.2 0 _ rfl).1 rfl (jx_rf hH27 rfl rfl) ?_
    refine jm_iload_n (x := c) rfl rfl (jM_at hl 3 rfl) ?_
    refine az_X_call (m' := 140) (as := [.ref (P.1 + 12), .int c]) (rest := []) rfl rfl rfl rfl rfl ?_ ?_
    · unfold si_call
      dsimp only
      rw [if_pos ⟨rfl, rfl⟩]
      show (match si_ix P h27 (P.1 + 12) with | some i => _ | none => none) = _
      rw [jix hH27 (by decide)]
      dsimp only
      rw [(hH27.2 12 _ rfl).1]
      rfl
    refine (tadd_ok hH27 c (by omega) (fun i hi => f27.2 i (by omega))).mono ?_
    rintro rv35 h35 ⟨rfl, hH35, hs35, f35⟩
    show az_X P _ 145 38 ls [] _ _
    refine jm_aload_n (x := P.1 + 0) rfl rfl (jM_at hl 0 rfl) ?_
    refine jx_gf (i := 0) rfl rfl hH35 (by decide) (hH35.2 0 _ rfl).1 rfl (jx_rf hH35 rfl rfl) ?_
    refine jm_iload (x := v) rfl rfl (jM_at hl 4 rfl) ?_
    refine az_X_call (m' := 140) (as := [.ref (P.1 + 12), .int v]) (rest := []) rfl rfl rfl rfl rfl ?_ ?_
    · unfold si_call
      dsimp only
      rw [if_pos ⟨rfl, rfl⟩]
      show (match si_ix P h35 (P.1 + 12) with | some i => _ | none => none) = _
      rw [jix hH35 (by decide)]
      dsimp only
      rw [(hH35.2 12 _ rfl).1]
      rfl
    refine (tadd_ok hH35 v (by omega) (fun i hi => f35.2 i (by omega))).mono ?_
    rintro rv44 h44 ⟨rfl, hH44, hs44, f44⟩
    show az_X P _ 145 47 ls [] _ _
    refine jm_aload_n (x := P.1 + 0) rfl rfl (jM_at hl 0 rfl) ?_
    refine jx_gf (i := 0) rfl rfl hH44 (by decide) (hH44.2 0 _ rfl).1 rfl (jx_rf hH44 rfl rfl) ?_
    refine jm_iload (x := x) rfl rfl (jM_at hl 5 rfl) ?_
    refine az_X_call (m' := 140) (as := [.ref (P.1 + 12), .int x]) (rest := []) rfl rfl rfl rfl rfl ?_ ?_
    · unfold si_call
      dsimp only
      rw [if_pos ⟨rfl, rfl⟩]
      show (match si_ix P h44 (P.1 + 12) with | some i => _ | none => none) = _
      rw [jix hH44 (by decide)]
      dsimp only
      rw [(hH44.2 12 _ rfl).1]
      rfl
    refine (tadd_ok hH44 x (by omega) (fun i hi => f44.2 i (by omega))).mono ?_
    rintro rv53 h53 ⟨rfl, hH53, hs53, f53⟩
    show az_X P _ 145 56 ls [] _ _
    refine jm_aload_n (x := P.1 + 0) rfl rfl (jM_at hl 0 rfl) ?_
    refine jx_gf (i := 0) rfl rfl hH53 (by decide) (hH53.2 0 _ rfl).1 rfl (jx_rf hH53 rfl rfl) ?_
    refine az_X_call (m' := 137) (as := [.ref (P.1 + 12)]) (rest := []) rfl rfl rfl rfl rfl ?_ ?_
    · unfold si_call
      dsimp only
      rw [if_pos ⟨rfl, rfl⟩]
      show (match si_ix P h53 (P.1 + 12) with | some i => _ | none => none) = _
      rw [jix hH53 (by decide)]
      dsimp only
      rw [(hH53.2 12 _ rfl).1]
      rfl
    refine (tsize_ok hH53).mono ?_
    rintro rv60 h60 ⟨q60, z60, rfl, ez60⟩
    subst h60
    show az_X P _ 145 63 ls [.int z60] _ _
    refine jx_ret rfl rfl rfl ?_
    have l1 : ja h19 12 1 = ja h 12 1 + 4 := by have := f19.1; omega
    have l2 : ja h27 12 1 = ja h 12 1 + 8 := by have := f27.1; omega
    have l3 : ja h35 12 1 = ja h 12 1 + 12 := by have := f35.1; omega
    have l4 : ja h44 12 1 = ja h 12 1 + 16 := by have := f44.1; omega
    have l5 : ja h53 12 1 = ja h 12 1 + 20 := by have := f53.1; omega
    refine ⟨z60, rfl, hH53, ((hs19.sub (by decide)).tr ((hs27.sub (by decide)).tr ((hs35.sub (by decide)).tr ((hs44.sub (by decide)).tr (hs53.sub (by decide)))))), Or.inl ⟨by omega, by omega, l5, fun i hi => ?_⟩⟩
    have q := f53.2 i (by omega)
    rw [l1, l2, l3, l4] at q
    exact q
  · have g9 := jc1_ne_f hc9
    refine az_X_step (pc' := 13) (ls' := ls) (st' := [.int (-1)]) (h' := h) rfl rfl rfl ?_
    refine jx_ret rfl rfl rfl ?_
    exact ⟨_, rfl, hH, az_same_out.rf, Or.inr ⟨by omega, by decide, rfl⟩⟩
theorem feed1b_ok {P : si_P} {d : Nat} {h : si_H} (hH : az_HI P az_tb h) (a b c v x : Int32) {A : Nat → Int} (hA : ∀ i : Nat, (i : Int) < ja h 60 16 → ja h 71 i % 256 = A i) : az_X P (d + 1) 238 0 (lv_args 0 [.ref (P.1 + 60), .int a, .int b, .int c, .int v, .int x]) [] h (fun rv h1 => ∃ w : Int32, rv = some (.int w) ∧ az_HI P az_tb h1 ∧ az_same_out [(60, 16), (71, 1000000)] h h1 ∧ ((ja h 60 16 ≤ 240 ∧ w.toInt = ja h 60 16 + 20 ∧ ja h1 60 16 = ja h 60 16 + 20 ∧ ∀ i : Nat, (i : Int) < ja h 60 16 + 20 → ja h1 71 i % 256 = jap (jap (jap (jap (jap A (ja h 60 16) a) ((ja h 60 16) + 4) b) ((ja h 60 16) + 8) c) ((ja h 60 16) + 12) v) ((ja h 60 16) + 16) x i) ∨ (240 < ja h 60 16 ∧ w.toInt = -1 ∧ h1 = h))) := by
  have b0 : 0 ≤ ja h 60 16 ∧ ja h 60 16 ≤ 260 := ja_bd hH (i := 60) (k := 16) rfl
  have hl : jM [(0, .ref (P.1 + 60)), (1, .int a), (2, .int b), (3, .int c), (4, .int v), (5, .int x)] (lv_args 0 [.ref (P.1 + 60), .int a, .int b, .int c, .int v, .int x]) := jM_args [0, 1, 2, 3, 4, 5] rfl (by decide)
  generalize lv_args 0 [.ref (P.1 + 60), .int a, .int b, .int c, .int v, .int x] = ls at hl
  have km1 : ((-1) : Int32).toInt = (-1) := by decide
  have k20 : (20 : Int32).toInt = 20 := by decide
  have k260 : (260 : Int32).toInt = 260 := by decide
  refine jm_aload_n (x := P.1 + 60) rfl rfl (jM_at hl 0 rfl) ?_
  refine jn_gf (i := 60) (k := 16) rfl rfl hH (by decide) (hH.2 60 _ rfl).1 rfl rfl (fun z1 (ez1 : z1.toInt = ja h 60 16) (bz1 : 0 ≤ z1.toInt ∧ z1.toInt ≤ 260) => ?_)
  refine az_X_step (pc' := 6) (ls' := ls) (st' := [.int 20, .int z1]) (h' := h) rfl rfl rfl ?_
  refine jn_add (a := z1) (b := 20) rfl rfl (by omega) (by omega) (fun z6 ez6 => ?_)
  rw [show (20 : Int32).toInt = 20 by decide] at ez6
  refine az_X_step (pc' := 10) (ls' := ls) (st' := [.int 260, .int z6]) (h' := h) rfl rfl rfl ?_
  refine jx_ic (t := 15) rfl rfl rfl (fun hc10 => ?_) (fun hc10 => ?_)
  · have g10 := jc2_le_t hc10
    refine jm_aload_n (x := P.1 + 60) rfl rfl (jM_at hl 0 rfl) ?_
    refine jm_iload_n (x := a) rfl rfl (jM_at hl 1 rfl) ?_
    refine az_X_call (m' := 237) (as := [.ref (P.1 + 60), .int a]) (rest := []) rfl rfl rfl rfl rfl ?_ ?_
    · unfold si_call
      dsimp only
      rw [if_pos ⟨rfl, rfl⟩]
      show (match si_ix P h (P.1 + 60) with | some i => _ | none => none) = _
      rw [jix hH (by decide)]
      dsimp only
      rw [(hH.2 60 _ rfl).1]
      rfl
    refine (rtypes_ok hH a (by omega) hA).mono ?_
    rintro rv17 h17 ⟨rfl, hH17, hs17, f17⟩
    show az_X P _ 238 20 ls [] _ _
    refine jm_aload_n (x := P.1 + 60) rfl rfl (jM_at hl 0 rfl) ?_
    refine jm_iload_n (x := b) rfl rfl (jM_at hl 2 rfl) ?_
    refine az_X_call (m' := 237) (as := [.ref (P.1 + 60), .int b]) (rest := []) rfl rfl rfl rfl rfl ?_ ?_
    · unfold si_call
      dsimp only
      rw [if_pos ⟨rfl, rfl⟩]
      show (match si_ix P h17 (P.1 + 60) with | some i => _ | none => none) = _
      rw [jix hH17 (by decide)]
      dsimp only
      rw [(hH17.2 60 _ rfl).1]
      rfl
    refine (rtypes_ok hH17 b (by omega) (fun i hi => f17.2 i (by omega))).mono ?_
    rintro rv22 h22 ⟨rfl, hH22, hs22, f22⟩
    show az_X P _ 238 25 ls [] _ _
    refine jm_aload_n (x := P.1 + 60) rfl rfl (jM_at hl 0 rfl) ?_
    refine jm_iload_n (x := c) rfl rfl (jM_at hl 3 rfl) ?_
    refine az_X_call (m' := 237) (as := [.ref (P.1 + 60), .int c]) (rest := []) rfl rfl rfl rfl rfl ?_ ?_
    · unfold si_call
      dsimp only
      rw [if_pos ⟨rfl, rfl⟩]
      show (match si_ix P h22 (P.1 + 60) with | some i => _ | none => none) = _
      rw [jix hH22 (by decide)]
      dsimp only
      rw [(hH22.2 60 _ rfl).1]
      rfl
    refine (rtypes_ok hH22 c (by omega) (fun i hi => f22.2 i (by omega))).mono ?_
    rintro rv27 h27 ⟨rfl, hH27, hs27, f27⟩
    show az_X P _ 238 30 ls [] _ _
    refine jm_aload_n (x := P.1 + 60) rfl rfl (jM_at hl 0 rfl) ?_
    refine jm_iload (x := v) rfl rfl (jM_at hl 4 rfl) ?_
    refine az_X_call (m' := 237) (as := [.ref (P.1 + 60), .int v]) (rest := []) rfl rfl rfl rfl rfl ?_ ?_
    · unfold si_call
      dsimp only
      rw [if_pos ⟨rfl, rfl⟩]
      show (match si_ix P h27 (P.1 + 60) with | some i => _ | none => none) = _
      rw [jix hH27 (by decide)]
      dsimp only
      rw [(hH27.2 60 _ rfl).1]
      rfl
    refine (rtypes_ok hH27 v (by omega) (fun i hi => f27.2 i (by omega))).mono ?_
    rintro rv33 h33 ⟨rfl, hH33, hs33, f33⟩
    show az_X P _ 238 36 ls [] _ _
    refine jm_aload_n (x := P.1 + 60) rfl rfl (jM_at hl 0 rfl) ?_
    refine jm_iload (x := x) rfl rfl (jM_at hl 5 rfl) ?_
    refine az_X_call (m' := 237) (as := [.ref (P.1 + 60), .int x]) (rest := []) rfl rfl rfl rfl rfl ?_ ?_
    · unfold si_call
      dsimp only
      rw [if_pos ⟨rfl, rfl⟩]
      show (match si_ix P h33 (P.1 + 60) with | some i => _ | none => none) = _
      rw [jix hH33 (by decide)]
      dsimp only
      rw [(hH33.2 60 _ rfl).1]
      rfl
    refine (rtypes_ok hH33 x (by omega) (fun i hi => f33.2 i (by omega))).mono ?_
    rintro rv39 h39 ⟨rfl, hH39, hs39, f39⟩
    show az_X P _ 238 42 ls [] _ _
    refine jm_aload_n (x := P.1 + 60) rfl rfl (jM_at hl 0 rfl) ?_
    refine jn_gf (i := 60) (k := 16) rfl rfl hH39 (by decide) (hH39.2 60 _ rfl).1 rfl rfl (fun z43 (ez43 : z43.toInt = ja h39 60 16) (bz43 : 0 ≤ z43.toInt ∧ z43.toInt ≤ 260) => ?_)
    replace ez43 : z43.toInt = ja h33 60 16 + 4 := ez43.trans f39.1
    refine jx_ret rfl rfl rfl ?_
    have l1 : ja h17 60 16 = ja h 60 16 + 4 := by have := f17.1; omega
    have l2 : ja h22 60 16 = ja h 60 16 + 8 := by have := f22.1; omega
    have l3 : ja h27 60 16 = ja h 60 16 + 12 := by have := f27.1; omega
    have l4 : ja h33 60 16 = ja h 60 16 + 16 := by have := f33.1; omega
    have l5 : ja h39 60 16 = ja h 60 16 + 20 := by have := f39.1; omega
    refine ⟨z43, rfl, hH39, ((hs17.sub (by decide)).tr ((hs22.sub (by decide)).tr ((hs27.sub (by decide)).tr ((hs33.sub (by decide)).tr (hs39.sub (by decide)))))), Or.inl ⟨by omega, by omega, l5, fun i hi => ?_⟩⟩
    have q := f39.2 i (by omega)
    rw [l1, l2, l3, l4] at q
    exact q
  · have g10 := jc2_le_f hc10
    refine az_X_step (pc' := 14) (ls' := ls) (st' := [.int (-1)]) (h' := h) rfl rfl rfl ?_
    refine jx_ret rfl rfl rfl ?_
    exact ⟨_, rfl, hH, az_same_out.rf, Or.inr ⟨by omega, by decide, rfl⟩⟩
/-! PHOTOGRAPHS, by the reference -/
/-- the dial and the bytes, as the reference has them -/
def jRX (h : si_H) (m r : Int) (Y n : Nat) (B : Nat → Int) (a b : Int) : Prop := ja h 60 7 = m ∧ ja h 60 8 = r ∧ (4 ≤ m ∧ m ≤ 60) ∧ (2 ≤ r ∧ r ≤ 24) ∧ m * r = Y ∧ ja h 60 9 = Y ∧ (1 ≤ n ∧ n ≤ 8) ∧ (0 ≤ a ∧ a ≤ b ∧ b ≤ 99) ∧ (∀ t : Nat, t < Y → ja h 68 t = jlk m r t) ∧ (∀ i : Nat, i < 2 * n → ja h 71 i % 256 = B i) ∧ ∀ i : Nat, i < 2 * n → 0 ≤ B i ∧ B i < m
theorem jRX_so {md : List (Nat × Nat)} {h h' : si_H} {m r : Int} {Y n : Nat} {B : Nat → Int} {a b : Int} (hs : az_same_out md h h') (h1 : md.all (fun x => decide (x.1 ≠ 60)) = true) (h6 : md.all (fun x => decide (x.1 ≠ 68)) = true) (h7 : md.all (fun x => decide (x.1 ≠ 71)) = true) (q : jRX h m r Y n B a b) : jRX h' m r Y n B a b := by
  obtain ⟨a1, a2, a3, a4, a5, a6, a7, a8, a9, a10, a11⟩ := q
  exact ⟨(jso_row hs h1 7).trans a1, (jso_row hs h1 8).trans a2, a3, a4, a5, (jso_row hs h1 9).trans a6, a7, a8, fun t ht => (jso_row hs h6 t).trans (a9 t ht), fun i hi => by rw [jso_row hs h7]; exact a10 i hi, a11⟩
theorem jst2_0 {a b : Int} {Y s t : Nat} (hY : 1 ≤ Y) : jst2 a b Y 0 (((t : Int) - s) % (Y : Int)).toNat = jst2 a b Y s t := by
  have m0 := Int.emod_nonneg ((t : Int) - s) (b := (Y : Int)) (by omega)
  have e := Int.mul_ediv_add_emod ((t : Int) - s) (Y : Int)
  unfold jst2
  rw [Int.toNat_of_nonneg m0, show ((t : Int) - s) % (Y : Int) - ((0 : Nat) : Int) - a = ((t : Int) - s - a) - (Y : Int) * (((t : Int) - s) / (Y : Int)) by omega, Int.sub_mul_emod_self_left]
theorem jcan_iff {m r : Int} {Y n : Nat} {B : Nat → Int} {a b : Int} {i t : Nat} (hi : i < n) (ht : t < Y) : jcan m r Y n B a b i t = true ↔ (0 < jff (jpA m r n B) (jst2 a b Y) Y i t ∧ (i + 1 = n ∨ ∃ s : Nat, s < Y ∧ jcan m r Y n B a b (i + 1) s = true ∧ jst2 a b Y t s = true)) := by
  constructor
  · intro h
    have h1 := of_decide_eq_true h
    refine ⟨h1.1, ?_⟩
    by_cases e : i + 1 = n
    · exact Or.inl e
    · right
      have g := h1.2
      rw [show n - 1 - i = (n - 1 - (i + 1)) + 1 by omega] at g
      have g2 : 0 < (if jpA m r n B (n - 1 - (n - 1 - (i + 1) + 1)) t = true then jsu (fun x => if jst2 a b Y t x = true then jgg (jpA m r n B) (jst2 a b Y) Y n (n - 1 - (i + 1)) x else 0) Y else 0) := g
      by_cases c : jpA m r n B (n - 1 - (n - 1 - (i + 1) + 1)) t = true
      · rw [if_pos c] at g2
        obtain ⟨s, s1, s2⟩ := (jsu_pos (fun x _ => by
          have := jgg_nn (jpA m r n B) (jst2 a b Y) Y n (n - 1 - (i + 1)) x
          show 0 ≤ (if jst2 a b Y t x = true then jgg (jpA m r n B) (jst2 a b Y) Y n (n - 1 - (i + 1)) x else 0)
          split <;> omega)).mp g2
        have s2' : 0 < (if jst2 a b Y t s = true then jgg (jpA m r n B) (jst2 a b Y) Y n (n - 1 - (i + 1)) s else 0) := s2
        by_cases d : jst2 a b Y t s = true
        · rw [if_pos d] at s2'
          refine ⟨s, s1, decide_eq_true ⟨?_, s2'⟩, d⟩
          have sA : jpA m r n B (i + 1) s = true := by
            by_cases f : jpA m r n B (i + 1) s = true
            · exact f
            · rw [jgg_A (by rw [show n - 1 - (n - 1 - (i + 1)) = i + 1 by omega]; exact f)] at s2'
              omega
          show 0 < (if jpA m r n B (i + 1) s = true then jsu (fun x => if jst2 a b Y x s = true then jff (jpA m r n B) (jst2 a b Y) Y i x else 0) Y else 0)
          rw [if_pos sA]
          exact (jsu_pos (fun x _ => by
            have := jff_nn (jpA m r n B) (jst2 a b Y) Y i x
            show 0 ≤ (if jst2 a b Y x s = true then jff (jpA m r n B) (jst2 a b Y) Y i x else 0)
            split <;> omega)).mpr ⟨t, ht, by show 0 < (if jst2 a b Y t s = true then jff (jpA m r n B) (jst2 a b Y) Y i t else 0); rw [if_pos d]; exact h1.1⟩
        · rw [if_neg d] at s2'
          omega
      · rw [if_neg c] at g2
        omega
  · rintro ⟨h1, h2⟩
    have tA : jpA m r n B i t = true := by
      by_cases f : jpA m r n B i t = true
      · exact f
      · rw [jff_A f] at h1
        omega
    refine decide_eq_true ⟨h1, ?_⟩
    rcases h2 with e | ⟨s, s1, s2, s3⟩
    · rw [show n - 1 - i = 0 by omega]
      show 0 < (if jpA m r n B (n - 1) t = true then (1 : Int) else 0)
      rw [show n - 1 = i by omega, if_pos tA]
      omega
    · by_cases e : i + 1 < n
      · rw [show n - 1 - i = (n - 1 - (i + 1)) + 1 by omega]
        show 0 < (if jpA m r n B (n - 1 - (n - 1 - (i + 1) + 1)) t = true then jsu (fun x => if jst2 a b Y t x = true then jgg (jpA m r n B) (jst2 a b Y) Y n (n - 1 - (i + 1)) x else 0) Y else 0)
        rw [show n - 1 - (n - 1 - (i + 1) + 1) = i by omega, if_pos tA]
        have s4 := of_decide_eq_true s2
        exact (jsu_pos (fun x _ => by
          have := jgg_nn (jpA m r n B) (jst2 a b Y) Y n (n - 1 - (i + 1)) x
          show 0 ≤ (if jst2 a b Y t x = true then jgg (jpA m r n B) (jst2 a b Y) Y n (n - 1 - (i + 1)) x else 0)
          split <;> omega)).mpr ⟨s, s1, by show 0 < (if jst2 a b Y t s = true then jgg (jpA m r n B) (jst2 a b Y) Y n (n - 1 - (i + 1)) s else 0); rw [if_pos s3]; exact s4.2⟩
      · rw [show n - 1 - i = 0 by omega]
        show 0 < (if jpA m r n B (n - 1) t = true then (1 : Int) else 0)
        rw [show n - 1 = i by omega, if_pos tA]
        omega
theorem roctet_ok {P : si_P} {d : Nat} {h : si_H} (hH : az_HI P az_tb h) (i : Int32) (hi : 0 ≤ i.toInt ∧ i.toInt < 260) : az_X P d 239 0 (lv_args 0 [.ref (P.1 + 60), .int i]) [] h (fun rv h' => h' = h ∧ jV rv (ja h 71 i.toInt % 256)) := by
  have hl : jM [(0, .ref (P.1 + 60)), (1, .int i)] (lv_args 0 [.ref (P.1 + 60), .int i]) := jM_args [0, 1] rfl (by decide)
  generalize lv_args 0 [.ref (P.1 + 60), .int i] = ls at hl
  have k255 : (255 : Int32).toInt = 255 := by decide
  refine jm_aload_n (x := P.1 + 60) rfl rfl (jM_at hl 0 rfl) ?_
  refine jx_gf (i := 60) rfl rfl hH (by decide) (hH.2 60 _ rfl).1 rfl (jx_rf hH rfl rfl) ?_
  refine jm_iload_n (x := i) rfl rfl (jM_at hl 1 rfl) ?_
  refine jn_bal (i := 71) (x := i) rfl rfl hH (by decide) rfl (by omega) (by show _ < ((260 : Nat) : Int); omega) (fun z5 ez5 bz5 => ?_)
  refine az_X_step (pc' := 9) (ls' := ls) (st' := [.int 255, .int z5]) (h' := h) rfl rfl rfl ?_
  refine az_X_step (pc' := 10) (ls' := ls) (st' := [.int (z5 &&& 255)]) (h' := h) rfl rfl rfl ?_
  refine jx_ret rfl rfl rfl ?_
  exact ⟨rfl, _, rfl, by rw [jn_a255, ez5]⟩
theorem rmin2_ok {P : si_P} {d : Nat} {h : si_H} (a b : Int32) : az_X P d 203 0 (lv_args 0 [.int a, .int b]) [] h (fun rv h' => h' = h ∧ jV rv (min a.toInt b.toInt)) := by
  have hl : jM [(0, .int a), (1, .int b)] (lv_args 0 [.int a, .int b]) := jM_args [0, 1] rfl (by decide)
  generalize lv_args 0 [.int a, .int b] = ls at hl
  refine jm_iload_n (x := a) rfl rfl (jM_at hl 0 rfl) ?_
  refine jm_iload_n (x := b) rfl rfl (jM_at hl 1 rfl) ?_
  refine jx_ic (t := 9) rfl rfl rfl (fun hc2 => ?_) (fun hc2 => ?_)
  · have g2 := jc2_ge_t hc2
    refine jm_iload_n (x := b) rfl rfl (jM_at hl 1 rfl) ?_
    refine jx_ret rfl rfl rfl ?_
    exact ⟨rfl, b, rfl, by omega⟩
  · have g2 := jc2_ge_f hc2
    refine jm_iload_n (x := a) rfl rfl (jM_at hl 0 rfl) ?_
    refine az_X_step (pc' := 10) (ls' := ls) (st' := [.int a]) (h' := h) rfl rfl rfl ?_
    refine jx_ret rfl rfl rfl ?_
    exact ⟨rfl, a, rfl, by omega⟩
theorem rmax2_ok {P : si_P} {d : Nat} {h : si_H} (a b : Int32) : az_X P d 204 0 (lv_args 0 [.int a, .int b]) [] h (fun rv h' => h' = h ∧ jV rv (max a.toInt b.toInt)) := by
  have hl : jM [(0, .int a), (1, .int b)] (lv_args 0 [.int a, .int b]) := jM_args [0, 1] rfl (by decide)
  generalize lv_args 0 [.int a, .int b] = ls at hl
  refine jm_iload_n (x := a) rfl rfl (jM_at hl 0 rfl) ?_
  refine jm_iload_n (x := b) rfl rfl (jM_at hl 1 rfl) ?_
  refine jx_ic (t := 9) rfl rfl rfl (fun hc2 => ?_) (fun hc2 => ?_)
  · have g2 := jc2_le_t hc2
    refine jm_iload_n (x := b) rfl rfl (jM_at hl 1 rfl) ?_
    refine jx_ret rfl rfl rfl ?_
    exact ⟨rfl, b, rfl, by omega⟩
  · have g2 := jc2_le_f hc2
    refine jm_iload_n (x := a) rfl rfl (jM_at hl 0 rfl) ?_
    refine az_X_step (pc' := 10) (ls' := ls) (st' := [.int a]) (h' := h) rfl rfl rfl ?_
    refine jx_ret rfl rfl rfl ?_
    exact ⟨rfl, a, rfl, by omega⟩
theorem rlook_ok {P : si_P} {d : Nat} {h : si_H} (a b : Int32) (ha : 0 ≤ a.toInt ∧ a.toInt ≤ 63) (hb : 0 ≤ b.toInt ∧ b.toInt ≤ 63) : az_X P (d + 1) 214 0 (lv_args 0 [.int a, .int b]) [] h (fun rv h' => h' = h ∧ jV rv (64 * min a.toInt b.toInt + max a.toInt b.toInt)) := by
  have hl : jM [(0, .int a), (1, .int b)] (lv_args 0 [.int a, .int b]) := jM_args [0, 1] rfl (by decide)
  generalize lv_args 0 [.int a, .int b] = ls at hl
  have k64 : (64 : Int32).toInt = 64 := by decide
  refine az_X_step (pc' := 2) (ls' := ls) (st' := [.int 64]) (h' := h) rfl rfl rfl ?_
  refine jm_iload_n (x := a) rfl rfl (jM_at hl 0 rfl) ?_
  refine jm_iload_n (x := b) rfl rfl (jM_at hl 1 rfl) ?_
  refine az_X_call (m' := 203) (as := [.int a, .int b]) (rest := [.int 64]) rfl rfl rfl rfl rfl rfl ?_
  refine (rmin2_ok a b).mono ?_
  rintro rv4 h4 ⟨q4, z4, rfl, ez4⟩
  subst h4
  show az_X P _ 214 7 ls [.int z4, .int 64] _ _
  refine jn_mul (a := 64) (b := z4) rfl rfl (by rw [k64]; omega) (by rw [k64]; omega) (fun z7 ez7 => ?_)
  rw [show (64 : Int32).toInt = 64 by decide] at ez7
  refine jm_iload_n (x := a) rfl rfl (jM_at hl 0 rfl) ?_
  refine jm_iload_n (x := b) rfl rfl (jM_at hl 1 rfl) ?_
  refine az_X_call (m' := 204) (as := [.int a, .int b]) (rest := [.int z7]) rfl rfl rfl rfl rfl rfl ?_
  refine (rmax2_ok a b).mono ?_
  rintro rv10 h10 ⟨q10, z10, rfl, ez10⟩
  subst h10
  show az_X P _ 214 13 ls [.int z10, .int z7] _ _
  refine jn_add (a := z7) (b := z10) rfl rfl (by omega) (by omega) (fun z13 ez13 => ?_)
  refine jx_ret rfl rfl rfl ?_
  exact ⟨rfl, z13, rfl, by omega⟩
theorem li_ok {P : si_P} {d : Nat} {h : si_H} (hH : az_HI P az_tb h) {m r : Int} {Y n : Nat} {B : Nat → Int} {a b : Int} (rx : jRX h m r Y n B a b) (i : Int32) {u : Nat} (ei : i.toInt = u) (hu : u < n) : az_X P (d + 2) 272 0 (lv_args 0 [.ref (P.1 + 60), .int i]) [] h (fun rv h' => h' = h ∧ jV rv (jLk B u)) := by
  obtain ⟨c1, c2, c3, c4, c5, c6, c7, c8, c9, c10, c11⟩ := rx
  have hl : jM [(0, .ref (P.1 + 60)), (1, .int i)] (lv_args 0 [.ref (P.1 + 60), .int i]) := jM_args [0, 1] rfl (by decide)
  generalize lv_args 0 [.ref (P.1 + 60), .int i] = ls at hl
  have k1 : (1 : Int32).toInt = 1 := by decide
  have k2 : (2 : Int32).toInt = 2 := by decide
  refine jm_aload_n (x := P.1 + 60) rfl rfl (jM_at hl 0 rfl) ?_
  refine az_X_step (pc' := 2) (ls' := ls) (st' := [.int 2, .ref (P.1 + 60)]) (h' := h) rfl rfl rfl ?_
  refine jm_iload_n (x := i) rfl rfl (jM_at hl 1 rfl) ?_
  refine jn_mul (a := 2) (b := i) rfl rfl (by rw [show (2 : Int32).toInt = 2 by decide]; omega) (by rw [show (2 : Int32).toInt = 2 by decide]; omega) (fun z3 ez3 => ?_)
  rw [show (2 : Int32).toInt = 2 by decide] at ez3
  refine az_X_call (m' := 239) (as := [.ref (P.1 + 60), .int z3]) (rest := []) rfl rfl rfl rfl rfl ?_ ?_
  · unfold si_call
    dsimp only
    rw [if_pos ⟨rfl, rfl⟩]
    show (match si_ix P h (P.1 + 60) with | some i => _ | none => none) = _
    rw [jix hH (by decide)]
    dsimp only
    rw [(hH.2 60 _ rfl).1]
    rfl
  refine (roctet_ok hH z3 (by omega)).mono ?_
  rintro rv4 h4 ⟨q4, z4, rfl, ez4⟩
  subst h4
  show az_X P _ 272 7 ls [.int z4] _ _
  refine jm_aload_n (x := P.1 + 60) rfl rfl (jM_at hl 0 rfl) ?_
  refine az_X_step (pc' := 9) (ls' := ls) (st' := [.int 2, .ref (P.1 + 60), .int z4]) (h' := h) rfl rfl rfl ?_
  refine jm_iload_n (x := i) rfl rfl (jM_at hl 1 rfl) ?_
  refine jn_mul (a := 2) (b := i) rfl rfl (by rw [show (2 : Int32).toInt = 2 by decide]; omega) (by rw [show (2 : Int32).toInt = 2 by decide]; omega) (fun z10 ez10 => ?_)
  rw [show (2 : Int32).toInt = 2 by decide] at ez10
  refine az_X_step (pc' := 12) (ls' := ls) (st' := [.int 1, .int z10, .ref (P.1 + 60), .int z4]) (h' := h) rfl rfl rfl ?_
  refine jn_add (a := z10) (b := 1) rfl rfl (by omega) (by omega) (fun z12 ez12 => ?_)
  rw [show (1 : Int32).toInt = 1 by decide] at ez12
  refine az_X_call (m' := 239) (as := [.ref (P.1 + 60), .int z12]) (rest := [.int z4]) rfl rfl rfl rfl rfl ?_ ?_
  · unfold si_call
    dsimp only
    rw [if_pos ⟨rfl, rfl⟩]
    show (match si_ix P h (P.1 + 60) with | some i => _ | none => none) = _
    rw [jix hH (by decide)]
    dsimp only
    rw [(hH.2 60 _ rfl).1]
    rfl
  refine (roctet_ok hH z12 (by omega)).mono ?_
  rintro rv13 h13 ⟨q13, z13, rfl, ez13⟩
  subst h13
  show az_X P _ 272 16 ls [.int z13, .int z4] _ _
  refine az_X_call (m' := 214) (as := [.int z4, .int z13]) (rest := []) rfl rfl rfl rfl rfl rfl ?_
  refine (rlook_ok z4 z13 (by
    have q := c11 (2 * u) (by omega)
    have v : z4.toInt = B (2 * u) := by
      rw [ez4, show z3.toInt = ((2 * u : Nat) : Int) by omega]
      exact c10 (2 * u) (by omega)
    omega) (by
    have q := c11 (2 * u + 1) (by omega)
    have v : z13.toInt = B (2 * u + 1) := by
      rw [ez13, show z12.toInt = ((2 * u + 1 : Nat) : Int) by omega]
      exact c10 (2 * u + 1) (by omega)
    omega)).mono ?_
  rintro rv16 h16 ⟨q16, z16, rfl, ez16⟩
  subst h16
  show az_X P _ 272 19 ls [.int z16] _ _
  refine jx_ret rfl rfl rfl ?_
  have v4 : z4.toInt = B (2 * u) := by
    rw [ez4, show z3.toInt = ((2 * u : Nat) : Int) by omega]
    exact c10 (2 * u) (by omega)
  have v13 : z13.toInt = B (2 * u + 1) := by
    rw [ez13, show z12.toInt = ((2 * u + 1 : Nat) : Int) by omega]
    exact c10 (2 * u + 1) (by omega)
  exact ⟨rfl, z16, rfl, by unfold jLk; omega⟩
theorem am_l {P : si_P} {d : Nat} {h : si_H} (hH : az_HI P az_tb h) {n : Nat} (hn : 1 ≤ n ∧ n ≤ 8) (N : Int32) (eN : N.toInt = n) : ∀ (k j : Nat) (T : Int32) (ls : si_L), jM [(2, .int T), (0, .ref (P.1 + 60)), (1, .int N)] ls → T.toInt = j → j + k = 2 * n → (∀ i : Nat, i < j → ja h 71 i % 256 < ja h 60 7) → az_X P (d + 1) 274 2 ls [] h (fun rv h' => h' = h ∧ ∃ z : Int32, rv = some (.int z) ∧ ((z.toInt = 1 ∧ ∀ i : Nat, i < 2 * n → ja h 71 i % 256 < ja h 60 7) ∨ (z.toInt = 0 ∧ ∃ i : Nat, i < 2 * n ∧ ja h 60 7 ≤ ja h 71 i % 256))) := by
  intro k
  induction k with
  | zero =>
    intro j T ls hl eT hj hd
    have k1 : (1 : Int32).toInt = 1 := by decide
    have k2 : (2 : Int32).toInt = 2 := by decide
    refine jm_iload_n (x := T) rfl rfl (jM_at hl 0 rfl) ?_
    refine az_X_step (pc' := 4) (ls' := ls) (st' := [.int 2, .int T]) (h' := h) rfl rfl rfl ?_
    refine jm_iload_n (x := N) rfl rfl (jM_at hl 2 rfl) ?_
    refine jn_mul (a := 2) (b := N) rfl rfl (by rw [show (2 : Int32).toInt = 2 by decide]; omega) (by rw [show (2 : Int32).toInt = 2 by decide]; omega) (fun z5 ez5 => ?_)
    rw [show (2 : Int32).toInt = 2 by decide] at ez5
    refine jx_ic (t := 29) rfl rfl rfl (fun hc6 => ?_) (fun hc6 => ?_)
    · have g6 := jc2_ge_t hc6
      refine az_X_step (pc' := 30) (ls' := ls) (st' := [.int 1]) (h' := h) rfl rfl rfl ?_
      refine jx_retz rfl rfl rfl (by decide) ?_
      exact ⟨rfl, 1, rfl, Or.inl ⟨by decide, fun i hi => hd i (by omega)⟩⟩
    · have g6 := jc2_ge_f hc6
      exfalso
      omega
  | succ k ih =>
    intro j T ls hl eT hj hd
    have k0 : (0 : Int32).toInt = 0 := by decide
    have k1 : (1 : Int32).toInt = 1 := by decide
    have k2 : (2 : Int32).toInt = 2 := by decide
    refine jm_iload_n (x := T) rfl rfl (jM_at hl 0 rfl) ?_
    refine az_X_step (pc' := 4) (ls' := ls) (st' := [.int 2, .int T]) (h' := h) rfl rfl rfl ?_
    refine jm_iload_n (x := N) rfl rfl (jM_at hl 2 rfl) ?_
    refine jn_mul (a := 2) (b := N) rfl rfl (by rw [show (2 : Int32).toInt = 2 by decide]; omega) (by rw [show (2 : Int32).toInt = 2 by decide]; omega) (fun z5 ez5 => ?_)
    rw [show (2 : Int32).toInt = 2 by decide] at ez5
    refine jx_ic (t := 29) rfl rfl rfl (fun hc6 => ?_) (fun hc6 => ?_)
    · have g6 := jc2_ge_t hc6
      refine az_X_step (pc' := 30) (ls' := ls) (st' := [.int 1]) (h' := h) rfl rfl rfl ?_
      refine jx_retz rfl rfl rfl (by decide) ?_
      exfalso
      omega
    · have g6 := jc2_ge_f hc6
      refine jm_aload_n (x := P.1 + 60) rfl rfl (jM_at hl 1 rfl) ?_
      refine jm_iload_n (x := T) rfl rfl (jM_at hl 0 rfl) ?_
      refine az_X_call (m' := 239) (as := [.ref (P.1 + 60), .int T]) (rest := []) rfl rfl rfl rfl rfl ?_ ?_
      · unfold si_call
        dsimp only
        rw [if_pos ⟨rfl, rfl⟩]
        show (match si_ix P h (P.1 + 60) with | some i => _ | none => none) = _
        rw [jix hH (by decide)]
        dsimp only
        rw [(hH.2 60 _ rfl).1]
        rfl
      refine (roctet_ok hH T (by omega)).mono ?_
      rintro rv11 h11 ⟨q11, z11, rfl, ez11⟩
      subst h11
      show az_X P _ 274 14 ls [.int z11] _ _
      refine jm_aload_n (x := P.1 + 60) rfl rfl (jM_at hl 1 rfl) ?_
      refine jn_gf (i := 60) (k := 7) rfl rfl hH (by decide) (hH.2 60 _ rfl).1 rfl rfl (fun z15 (ez15 : z15.toInt = ja h 60 7) (bz15 : 4 ≤ z15.toInt ∧ z15.toInt ≤ 60) => ?_)
      refine jx_ic (t := 23) rfl rfl rfl (fun hc18 => ?_) (fun hc18 => ?_)
      · have g18 := jc2_lt_t hc18
        refine jn_iinc (x := T) rfl rfl (by decide) (jM_at hl 0 rfl) hl rfl (by decide) (by omega) (by omega) (fun z23 (ez23 : z23.toInt = T.toInt + 1) ls23 (hl23 : jM [(2, .int z23), (0, .ref (P.1 + 60)), (1, .int N)] ls23) => ?_)
        refine az_X_step (pc' := 2) (ls' := ls23) (st' := []) (h' := h) rfl rfl rfl ?_
        rw [ez11, eT] at g18
        refine ih (j + 1) z23 ls23 (jM_pick hl23 [0, 1, 2] rfl) (by omega) (by omega) (fun i hi => ?_)
        rcases Nat.lt_or_ge i j with q | q
        · exact hd i q
        · rw [show i = j by omega]; omega
      · have g18 := jc2_lt_f hc18
        refine az_X_step (pc' := 22) (ls' := ls) (st' := [.int 0]) (h' := h) rfl rfl rfl ?_
        refine jx_retz rfl rfl rfl (by decide) ?_
        rw [ez11, eT] at g18
        exact ⟨rfl, 0, rfl, Or.inr ⟨by decide, j, by omega, by omega⟩⟩
theorem am_ok {P : si_P} {d : Nat} {h : si_H} (hH : az_HI P az_tb h) {n : Nat} (hn : 1 ≤ n ∧ n ≤ 8) (N : Int32) (eN : N.toInt = n) : az_X P (d + 1) 274 0 (lv_args 0 [.ref (P.1 + 60), .int N]) [] h (fun rv h' => h' = h ∧ ∃ z : Int32, rv = some (.int z) ∧ ((z.toInt = 1 ∧ ∀ i : Nat, i < 2 * n → ja h 71 i % 256 < ja h 60 7) ∨ (z.toInt = 0 ∧ ∃ i : Nat, i < 2 * n ∧ ja h 60 7 ≤ ja h 71 i % 256))) := by
  have hl : jM [(0, .ref (P.1 + 60)), (1, .int N)] (lv_args 0 [.ref (P.1 + 60), .int N]) := jM_args [0, 1] rfl (by decide)
  generalize lv_args 0 [.ref (P.1 + 60), .int N] = ls at hl
  have k0 : (0 : Int32).toInt = 0 := by decide
  refine az_X_step (pc' := 1) (ls' := ls) (st' := [.int 0]) (h' := h) rfl rfl rfl ?_
  refine jm_istore_n (l' := [(2, .int 0), (0, .ref (P.1 + 60)), (1, .int N)]) rfl rfl (by decide) hl rfl rfl (fun ls1 hl1 => ?_)
  exact am_l hH hn N eN (2 * n) 0 0 ls1 (jM_pick hl1 [0, 1, 2] rfl) (by decide) (by omega) (fun i hi => absurd hi (by omega))
theorem ls_2 {P : si_P} {d : Nat} {h0 : si_H} {Y : Nat} (hY : 1 ≤ Y ∧ Y ≤ 1440) (h9 : ja h0 60 9 = Y) (D E : Int32) (hd : 0 ≤ D.toInt ∧ D.toInt ≤ E.toInt ∧ E.toInt ≤ 99) : ∀ (k j : Nat) (T : Int32) (h : si_H) (ls : si_L), jM [(3, .int T), (0, .ref (P.1 + 60)), (1, .int D), (2, .int E)] ls → az_HI P az_tb h → az_same_out [(93, 1000000)] h0 h → T.toInt = D.toInt + j → D.toInt + j + k = E.toInt + 1 → (∀ x : Nat, x < Y → (ja h 93 x = 1 ∧ ∃ q : Int, D.toInt ≤ q ∧ q < T.toInt ∧ q % (Y : Int) = x) ∨ (ja h 93 x = 0 ∧ ¬ ∃ q : Int, D.toInt ≤ q ∧ q < T.toInt ∧ q % (Y : Int) = x)) → az_X P d 273 25 ls [] h (fun rv h' => rv = none ∧ az_HI P az_tb h' ∧ az_same_out [(93, 1000000)] h0 h' ∧ ∀ x : Nat, x < Y → ja h' 93 x = jb (jst2 D.toInt E.toInt Y 0 x)) := by
  intro k
  induction k with
  | zero =>
    intro j T h ls hl hH hs eT hj hr
    have r9 : ja h 60 9 = Y := (jso hs (by decide)).trans h9
    refine jm_iload_n (x := T) rfl rfl (jM_at hl 0 rfl) ?_
    refine jm_iload_n (x := E) rfl rfl (jM_at hl 3 rfl) ?_
    refine jx_ic (t := 48) rfl rfl rfl (fun hc27 => ?_) (fun hc27 => ?_)
    · have g27 := jc2_gt_t hc27
      refine jn_retv rfl rfl rfl ?_
      refine ⟨rfl, hH, hs, fun x hx => ?_⟩
      have i := jst2_iff (a := D.toInt) (b := E.toInt) (y := Y) (s := 0) (t := x) hY.1 hx hd.1
      unfold jb
      rcases hr x hx with ⟨q1, q, q2, q3, q4⟩ | ⟨q1, q2⟩
      · rw [if_pos (i.mpr ⟨q, q2, by omega, by rw [show ((0 : Nat) : Int) + q = q by omega]; exact q4⟩)]
        exact q1
      · rw [if_neg (fun e => by
          obtain ⟨q, a1, a2, a3⟩ := i.mp e
          rw [show ((0 : Nat) : Int) + q = q by omega] at a3
          exact q2 ⟨q, a1, by omega, a3⟩)]
        exact q1
    · have g27 := jc2_gt_f hc27
      exfalso
      omega
  | succ k ih =>
    intro j T h ls hl hH hs eT hj hr
    have r9 : ja h 60 9 = Y := (jso hs (by decide)).trans h9
    have k1 : (1 : Int32).toInt = 1 := by decide
    refine jm_iload_n (x := T) rfl rfl (jM_at hl 0 rfl) ?_
    refine jm_iload_n (x := E) rfl rfl (jM_at hl 3 rfl) ?_
    refine jx_ic (t := 48) rfl rfl rfl (fun hc27 => ?_) (fun hc27 => ?_)
    · have g27 := jc2_gt_t hc27
      refine jn_retv rfl rfl rfl ?_
      exfalso
      omega
    · have g27 := jc2_gt_f hc27
      refine jm_aload_n (x := P.1 + 60) rfl rfl (jM_at hl 1 rfl) ?_
      refine jx_gf (i := 60) rfl rfl hH (by decide) (hH.2 60 _ rfl).1 rfl (jx_rf hH rfl rfl) ?_
      refine jm_iload_n (x := T) rfl rfl (jM_at hl 0 rfl) ?_
      refine jm_aload_n (x := P.1 + 60) rfl rfl (jM_at hl 1 rfl) ?_
      refine jn_gf (i := 60) (k := 9) rfl rfl hH (by decide) (hH.2 60 _ rfl).1 rfl rfl (fun z36 (ez36 : z36.toInt = ja h 60 9) (bz36 : 8 ≤ z36.toInt ∧ z36.toInt ≤ 1440) => ?_)
      refine jn_rem (a := T) (b := z36) rfl rfl (by omega) (by omega) (fun z39 ez39 lz39 uz39 => ?_)
      refine az_X_step (pc' := 41) (ls' := ls) (st' := [.int 1, .int z39, .ref (P.1 + 93)]) (h' := h) rfl rfl rfl ?_
      refine jn_basz (i := 93) (x := z39) (v := 1) rfl rfl hH (by decide) rfl (by omega) (by show _ < ((1440 : Nat) : Int); omega) (by omega) (by show 0 ≤ _; omega) (by show _ ≤ 1; omega) (fun h41 hH41 hs41 t41 u41 => ?_)
      refine jn_iinc (x := T) rfl rfl (by decide) (jM_at hl 0 rfl) hl rfl (by decide) (by omega) (by omega) (fun z42 (ez42 : z42.toInt = T.toInt + 1) ls42 (hl42 : jM [(3, .int z42), (0, .ref (P.1 + 60)), (1, .int D), (2, .int E)] ls42) => ?_)
      refine az_X_step (pc' := 25) (ls' := ls42) (st' := []) (h' := h41) rfl rfl rfl ?_
      have z39e : z39.toInt = T.toInt % (Y : Int) := by rw [ez39, ez36, r9]
      refine ih (j + 1) z42 h41 ls42 (jM_pick hl42 [0, 1, 2, 3] rfl) hH41 (hs.tr hs41) (by omega) (by omega) (fun x hx => ?_)
      by_cases e : (x : Int) = z39.toInt
      · refine Or.inl ⟨by rw [e, t41]; decide, T.toInt, by omega, by omega, by omega⟩
      · rw [u41 x (by omega) e]
        rcases hr x hx with ⟨q1, q, q2, q3, q4⟩ | ⟨q1, q2⟩
        · exact Or.inl ⟨q1, q, q2, by omega, q4⟩
        · refine Or.inr ⟨q1, fun ⟨q, a1, a2, a3⟩ => q2 ⟨q, a1, ?_, a3⟩⟩
          rcases (by omega : q < T.toInt ∨ q = T.toInt) with c | c
          · exact c
          · subst c
            exact absurd (by omega) e
theorem ls_1 {P : si_P} {d : Nat} {h0 : si_H} {Y : Nat} (hY : 1 ≤ Y ∧ Y ≤ 1440) (h9 : ja h0 60 9 = Y) (D E : Int32) (hd : 0 ≤ D.toInt ∧ D.toInt ≤ E.toInt ∧ E.toInt ≤ 99) : ∀ (k j : Nat) (T : Int32) (h : si_H) (ls : si_L), jM [(3, .int T), (0, .ref (P.1 + 60)), (1, .int D), (2, .int E)] ls → az_HI P az_tb h → az_same_out [(93, 1000000)] h0 h → T.toInt = j → j + k = Y → (∀ x : Nat, x < j → ja h 93 x = 0) → az_X P d 273 2 ls [] h (fun rv h' => rv = none ∧ az_HI P az_tb h' ∧ az_same_out [(93, 1000000)] h0 h' ∧ ∀ x : Nat, x < Y → ja h' 93 x = jb (jst2 D.toInt E.toInt Y 0 x)) := by
  intro k
  induction k with
  | zero =>
    intro j T h ls hl hH hs eT hj hr
    have r9 : ja h 60 9 = Y := (jso hs (by decide)).trans h9
    refine jm_iload_n (x := T) rfl rfl (jM_at hl 0 rfl) ?_
    refine jm_aload_n (x := P.1 + 60) rfl rfl (jM_at hl 1 rfl) ?_
    refine jn_gf (i := 60) (k := 9) rfl rfl hH (by decide) (hH.2 60 _ rfl).1 rfl rfl (fun z4 (ez4 : z4.toInt = ja h 60 9) (bz4 : 8 ≤ z4.toInt ∧ z4.toInt ≤ 1440) => ?_)
    refine jx_ic (t := 23) rfl rfl rfl (fun hc7 => ?_) (fun hc7 => ?_)
    · have g7 := jc2_ge_t hc7
      refine jm_iload_n (x := D) rfl rfl (jM_at hl 2 rfl) ?_
      refine jm_istore_n (l' := [(3, .int D), (0, .ref (P.1 + 60)), (1, .int D), (2, .int E)]) rfl rfl (by decide) hl rfl rfl (fun ls24 hl24 => ?_)
      exact ls_2 hY h9 D E hd (E.toInt + 1 - D.toInt).toNat 0 D h ls24 (jM_pick hl24 [0, 1, 2, 3] rfl) hH hs (by omega) (by omega) (fun x hx => Or.inr ⟨hr x (by omega), fun ⟨q, a1, a2, a3⟩ => by omega⟩)
    · have g7 := jc2_ge_f hc7
      exfalso
      omega
  | succ k ih =>
    intro j T h ls hl hH hs eT hj hr
    have r9 : ja h 60 9 = Y := (jso hs (by decide)).trans h9
    have k0 : (0 : Int32).toInt = 0 := by decide
    refine jm_iload_n (x := T) rfl rfl (jM_at hl 0 rfl) ?_
    refine jm_aload_n (x := P.1 + 60) rfl rfl (jM_at hl 1 rfl) ?_
    refine jn_gf (i := 60) (k := 9) rfl rfl hH (by decide) (hH.2 60 _ rfl).1 rfl rfl (fun z4 (ez4 : z4.toInt = ja h 60 9) (bz4 : 8 ≤ z4.toInt ∧ z4.toInt ≤ 1440) => ?_)
    refine jx_ic (t := 23) rfl rfl rfl (fun hc7 => ?_) (fun hc7 => ?_)
    · have g7 := jc2_ge_t hc7
      refine jm_iload_n (x := D) rfl rfl (jM_at hl 2 rfl) ?_
      refine jm_istore_n (l' := [(3, .int D), (0, .ref (P.1 + 60)), (1, .int D), (2, .int E)]) rfl rfl (by decide) hl rfl rfl (fun ls24 hl24 => ?_)
      exfalso
      omega
    · have g7 := jc2_ge_f hc7
      refine jm_aload_n (x := P.1 + 60) rfl rfl (jM_at hl 1 rfl) ?_
      refine jx_gf (i := 60) rfl rfl hH (by decide) (hH.2 60 _ rfl).1 rfl (jx_rf hH rfl rfl) ?_
      refine jm_iload_n (x := T) rfl rfl (jM_at hl 0 rfl) ?_
      refine az_X_step (pc' := 16) (ls' := ls) (st' := [.int 0, .int T, .ref (P.1 + 93)]) (h' := h) rfl rfl rfl ?_
      refine jn_basz (i := 93) (x := T) (v := 0) rfl rfl hH (by decide) rfl (by omega) (by show _ < ((1440 : Nat) : Int); omega) (by omega) (by show 0 ≤ _; omega) (by show _ ≤ 1; omega) (fun h16 hH16 hs16 t16 u16 => ?_)
      refine jn_iinc (x := T) rfl rfl (by decide) (jM_at hl 0 rfl) hl rfl (by decide) (by omega) (by omega) (fun z17 (ez17 : z17.toInt = T.toInt + 1) ls17 (hl17 : jM [(3, .int z17), (0, .ref (P.1 + 60)), (1, .int D), (2, .int E)] ls17) => ?_)
      refine az_X_step (pc' := 2) (ls' := ls17) (st' := []) (h' := h16) rfl rfl rfl ?_
      refine ih (j + 1) z17 h16 ls17 (jM_pick hl17 [0, 1, 2, 3] rfl) hH16 (hs.tr hs16) (by omega) (by omega) (fun x hx => ?_)
      by_cases e : (x : Int) = T.toInt
      · rw [e, t16]; decide
      · rw [u16 x (by omega) e]; exact hr x (by omega)
theorem ls_ok {P : si_P} {d : Nat} {h : si_H} (hH : az_HI P az_tb h) {Y : Nat} (hY : 1 ≤ Y ∧ Y ≤ 1440) (h9 : ja h 60 9 = Y) (D E : Int32) (hd : 0 ≤ D.toInt ∧ D.toInt ≤ E.toInt ∧ E.toInt ≤ 99) : az_X P d 273 0 (lv_args 0 [.ref (P.1 + 60), .int D, .int E]) [] h (fun rv h' => rv = none ∧ az_HI P az_tb h' ∧ az_same_out [(93, 1000000)] h h' ∧ ∀ x : Nat, x < Y → ja h' 93 x = jb (jst2 D.toInt E.toInt Y 0 x)) := by
  have hl : jM [(0, .ref (P.1 + 60)), (1, .int D), (2, .int E)] (lv_args 0 [.ref (P.1 + 60), .int D, .int E]) := jM_args [0, 1, 2] rfl (by decide)
  generalize lv_args 0 [.ref (P.1 + 60), .int D, .int E] = ls at hl
  have k0 : (0 : Int32).toInt = 0 := by decide
  refine az_X_step (pc' := 1) (ls' := ls) (st' := [.int 0]) (h' := h) rfl rfl rfl ?_
  refine jm_istore_n (l' := [(3, .int 0), (0, .ref (P.1 + 60)), (1, .int D), (2, .int E)]) rfl rfl (by decide) hl rfl rfl (fun ls1 hl1 => ?_)
  exact ls_1 hY h9 D E hd Y 0 0 h ls1 (jM_pick hl1 [0, 1, 2, 3] rfl) hH az_same_out.rf (by decide) (by omega) (fun x hx => absurd hx (by omega))
theorem bw_l {P : si_P} (hxa : P.2.1 < P.1) {d : Nat} {h0 : si_H} {m r : Int} {Y n : Nat} {B : Nat → Int} {a b : Int} (rx : jRX h0 m r Y n B a b) : ∀ (k j : Nat) (T : Int32) (W : Int64) (h : si_H) (ls : si_L), jM [(4, .int T), (2, .long W), (0, .ref (P.1 + 60)), (1, .int 0)] ls → az_HI P az_tb h → az_same_out [(91, 1000000)] h0 h → T.toInt = j → j + k = Y → W.toInt = jsu (fun x => jff (jpA m r n B) (jst2 a b Y) Y 0 x) j → (∀ x : Nat, x < j → jl h 91 x = jff (jpA m r n B) (jst2 a b Y) Y 0 x) → az_X P (d + 3) 276 5 ls [] h (fun rv h' => ∃ z : Int64, rv = some (.long z) ∧ az_HI P az_tb h' ∧ az_same_out [(91, 1000000)] h0 h' ∧ z.toInt = jsu (fun x => jff (jpA m r n B) (jst2 a b Y) Y 0 x) Y ∧ ∀ x : Nat, x < Y → jl h' 91 x = jff (jpA m r n B) (jst2 a b Y) Y 0 x) := by
  have rx0 := rx
  obtain ⟨c1, c2, c3, c4, c5, c6, c7, c8, c9, c10, c11⟩ := rx
  have b1 : ∀ x : Nat, 0 ≤ jff (jpA m r n B) (jst2 a b Y) Y 0 x ∧ jff (jpA m r n B) (jst2 a b Y) Y 0 x ≤ 1 := fun x => ⟨jff_nn _ _ _ _ _, by show (if jpA m r n B 0 x = true then (1 : Int) else 0) ≤ 1; split <;> omega⟩
  intro k
  induction k with
  | zero =>
    intro j T W h ls hl hH hs eT hj eW hd
    have rxh : jRX h m r Y n B a b := jRX_so hs (by decide) (by decide) (by decide) rx0
    have r9 : ja h 60 9 = Y := rxh.2.2.2.2.2.1
    have r68 : j < Y → ja h 68 j = jlk m r j := fun q => rxh.2.2.2.2.2.2.2.2.1 j q
    have bW : 0 ≤ W.toInt ∧ W.toInt ≤ (j : Int) := by
      rw [eW]
      refine ⟨jsu_nn (fun x _ => (b1 x).1), Int.le_trans (jsu_le (f := fun _ => 1) (fun x _ => (b1 x).2)) ?_⟩
      have one : ∀ k : Nat, jsu (fun _ => 1) k = k := by
        intro k
        induction k with
        | zero => rfl
        | succ k ih =>
          rw [jsu_s, ih]
          omega
      rw [one]
      exact Int.le_refl _
    refine jm_iload (x := T) rfl rfl (jM_at hl 0 rfl) ?_
    refine jm_aload_n (x := P.1 + 60) rfl rfl (jM_at hl 2 rfl) ?_
    refine jn_gf (i := 60) (k := 9) rfl rfl hH (by decide) (hH.2 60 _ rfl).1 rfl rfl (fun z8 (ez8 : z8.toInt = ja h 60 9) (bz8 : 8 ≤ z8.toInt ∧ z8.toInt ≤ 1440) => ?_)
    refine jx_ic (t := 57) rfl rfl rfl (fun hc11 => ?_) (fun hc11 => ?_)
    · have g11 := jc2_ge_t hc11
      refine jm_lload_n (x := W) rfl rfl (jM_at hl 1 rfl) ?_
      refine jn_retl rfl rfl rfl ?_
      exact ⟨W, rfl, hH, hs, by rw [eW, show j = Y by omega], fun x hx => hd x (by omega)⟩
    · have g11 := jc2_ge_f hc11
      exfalso
      omega
  | succ k ih =>
    intro j T W h ls hl hH hs eT hj eW hd
    have rxh : jRX h m r Y n B a b := jRX_so hs (by decide) (by decide) (by decide) rx0
    have r9 : ja h 60 9 = Y := rxh.2.2.2.2.2.1
    have r68 : j < Y → ja h 68 j = jlk m r j := fun q => rxh.2.2.2.2.2.2.2.2.1 j q
    have bW : 0 ≤ W.toInt ∧ W.toInt ≤ (j : Int) := by
      rw [eW]
      refine ⟨jsu_nn (fun x _ => (b1 x).1), Int.le_trans (jsu_le (f := fun _ => 1) (fun x _ => (b1 x).2)) ?_⟩
      have one : ∀ k : Nat, jsu (fun _ => 1) k = k := by
        intro k
        induction k with
        | zero => rfl
        | succ k ih =>
          rw [jsu_s, ih]
          omega
      rw [one]
      exact Int.le_refl _
    have k0 : (0 : Int32).toInt = 0 := by decide
    have kl0 : (0 : Int64).toInt = 0 := by decide
    have kl1 : (1 : Int64).toInt = 1 := by decide
    refine jm_iload (x := T) rfl rfl (jM_at hl 0 rfl) ?_
    refine jm_aload_n (x := P.1 + 60) rfl rfl (jM_at hl 2 rfl) ?_
    refine jn_gf (i := 60) (k := 9) rfl rfl hH (by decide) (hH.2 60 _ rfl).1 rfl rfl (fun z8 (ez8 : z8.toInt = ja h 60 9) (bz8 : 8 ≤ z8.toInt ∧ z8.toInt ≤ 1440) => ?_)
    refine jx_ic (t := 57) rfl rfl rfl (fun hc11 => ?_) (fun hc11 => ?_)
    · have g11 := jc2_ge_t hc11
      refine jm_lload_n (x := W) rfl rfl (jM_at hl 1 rfl) ?_
      refine jn_retl rfl rfl rfl ?_
      exfalso
      omega
    · have g11 := jc2_ge_f hc11
      refine jm_aload_n (x := P.1 + 60) rfl rfl (jM_at hl 2 rfl) ?_
      refine jx_gf (i := 60) rfl rfl hH (by decide) (hH.2 60 _ rfl).1 rfl (jx_rf hH rfl rfl) ?_
      refine jm_iload (x := T) rfl rfl (jM_at hl 0 rfl) ?_
      refine jm_aload_n (x := P.1 + 60) rfl rfl (jM_at hl 2 rfl) ?_
      refine jx_gf (i := 60) rfl rfl hH (by decide) (hH.2 60 _ rfl).1 rfl (jx_rf hH rfl rfl) ?_
      refine jm_iload (x := T) rfl rfl (jM_at hl 0 rfl) ?_
      refine jx_ial (i := 68) (x := T) rfl rfl hxa hH (by decide) rfl (by omega) (by show _ < ((1440 : Nat) : Int); omega) (fun z26 ez26 bz26 => ?_)
      refine jm_aload_n (x := P.1 + 60) rfl rfl (jM_at hl 2 rfl) ?_
      refine jm_iload_n (x := 0) rfl rfl (jM_at hl 3 rfl) ?_
      refine az_X_call (m' := 272) (as := [.ref (P.1 + 60), .int 0]) (rest := [.int z26, .int T, .ref (P.1 + 91)]) rfl rfl rfl rfl rfl ?_ ?_
      · unfold si_call
        dsimp only
        rw [if_pos ⟨rfl, rfl⟩]
        show (match si_ix P h (P.1 + 60) with | some i => _ | none => none) = _
        rw [jix hH (by decide)]
        dsimp only
        rw [(hH.2 60 _ rfl).1]
        rfl
      refine (li_ok hH rxh 0 (u := 0) (by decide) (by omega)).mono ?_
      rintro rv29 h29 ⟨q29, z29, rfl, ez29⟩
      subst h29
      show az_X P _ 276 32 ls [.int z29, .int z26, .int T, .ref (P.1 + 91)] _ _
      refine jx_ic (t := 39) rfl rfl rfl (fun hc32 => ?_) (fun hc32 => ?_)
      · have g32 := jc2_ne_t hc32
        refine az_X_step (pc' := 40) (ls' := ls) (st' := [.long 0, .int T, .ref (P.1 + 91)]) (h' := h) rfl rfl rfl ?_
        refine jn_las (i := 91) (x := T) (v := 0) rfl rfl hH (by decide) rfl (by omega) (by show _ < ((1440 : Nat) : Int); omega) (fun h40 hH40 hs40 t40 u40 => ?_)
        refine jm_lload_n (x := W) rfl rfl (jM_at hl 1 rfl) ?_
        refine jm_aload_n (x := P.1 + 60) rfl rfl (jM_at hl 2 rfl) ?_
        refine jx_gf (i := 60) rfl rfl hH40 (by decide) (hH40.2 60 _ rfl).1 rfl (jx_rf hH40 rfl rfl) ?_
        refine jm_iload (x := T) rfl rfl (jM_at hl 0 rfl) ?_
        refine jn_lal (i := 91) (x := T) rfl rfl hH40 (by decide) rfl (by omega) (by show _ < ((1440 : Nat) : Int); omega) (fun z48 ez48 => ?_)
        have t40b : z48.toInt = jl h40 91 T.toInt := ez48
        refine jn_ladd (a := W) (b := z48) rfl rfl (by omega) (by omega) (fun z49 ez49 => ?_)
        refine jm_lstore_n (l' := [(2, .long z49), (4, .int T), (0, .ref (P.1 + 60)), (1, .int 0)]) rfl rfl (by decide) hl rfl (fun ls50 hl50 => ?_)
        refine jn_iincg (x := T) rfl rfl (by decide) (jM_at hl50 1 rfl) hl50 (by decide) (by omega) (by omega) (fun z51 (ez51 : z51.toInt = T.toInt + 1) ls51 (hl51 : jM [(4, .int z51), (2, .long z49), (0, .ref (P.1 + 60)), (1, .int 0)] ls51) => ?_)
        refine az_X_step (pc' := 5) (ls' := ls51) (st' := []) (h' := h40) rfl rfl rfl ?_
        have lk : z26.toInt = jlk m r j := by rw [ez26, eT]; exact r68 (by omega)
        rw [lk, ez29] at g32
        have fj : jff (jpA m r n B) (jst2 a b Y) Y 0 j = 0 := by
          show (if jpA m r n B 0 j = true then (1 : Int) else 0) = 0
          rw [if_neg (fun e => g32 (of_decide_eq_true e).2)]
        have st : jl h40 91 T.toInt = 0 := t40.trans (by decide)
        refine ih (j + 1) z51 z49 h40 ls51 (jM_pick hl51 [0, 1, 2, 3] rfl) hH40 (hs.tr hs40) (by omega) (by omega) (by rw [jsu_s, fj]; omega) (fun x hx => ?_)
        by_cases e : (x : Int) = T.toInt
        · rw [e, st, show x = j by omega]
          exact fj.symm
        · rw [u40 x (by omega) e]
          exact hd x (by omega)
      · have g32 := jc2_ne_f hc32
        refine az_X_step (pc' := 36) (ls' := ls) (st' := [.long 1, .int T, .ref (P.1 + 91)]) (h' := h) rfl rfl rfl ?_
        refine az_X_step (pc' := 40) (ls' := ls) (st' := [.long 1, .int T, .ref (P.1 + 91)]) (h' := h) rfl rfl rfl ?_
        refine jn_las (i := 91) (x := T) (v := 1) rfl rfl hH (by decide) rfl (by omega) (by show _ < ((1440 : Nat) : Int); omega) (fun h40 hH40 hs40 t40 u40 => ?_)
        refine jm_lload_n (x := W) rfl rfl (jM_at hl 1 rfl) ?_
        refine jm_aload_n (x := P.1 + 60) rfl rfl (jM_at hl 2 rfl) ?_
        refine jx_gf (i := 60) rfl rfl hH40 (by decide) (hH40.2 60 _ rfl).1 rfl (jx_rf hH40 rfl rfl) ?_
        refine jm_iload (x := T) rfl rfl (jM_at hl 0 rfl) ?_
        refine jn_lal (i := 91) (x := T) rfl rfl hH40 (by decide) rfl (by omega) (by show _ < ((1440 : Nat) : Int); omega) (fun z48 ez48 => ?_)
        have t40b : z48.toInt = jl h40 91 T.toInt := ez48
        refine jn_ladd (a := W) (b := z48) rfl rfl (by omega) (by omega) (fun z49 ez49 => ?_)
        refine jm_lstore_n (l' := [(2, .long z49), (4, .int T), (0, .ref (P.1 + 60)), (1, .int 0)]) rfl rfl (by decide) hl rfl (fun ls50 hl50 => ?_)
        refine jn_iincg (x := T) rfl rfl (by decide) (jM_at hl50 1 rfl) hl50 (by decide) (by omega) (by omega) (fun z51 (ez51 : z51.toInt = T.toInt + 1) ls51 (hl51 : jM [(4, .int z51), (2, .long z49), (0, .ref (P.1 + 60)), (1, .int 0)] ls51) => ?_)
        refine az_X_step (pc' := 5) (ls' := ls51) (st' := []) (h' := h40) rfl rfl rfl ?_
        have lk : z26.toInt = jlk m r j := by rw [ez26, eT]; exact r68 (by omega)
        rw [lk, ez29] at g32
        have fj : jff (jpA m r n B) (jst2 a b Y) Y 0 j = 1 := by
          show (if jpA m r n B 0 j = true then (1 : Int) else 0) = 1
          rw [if_pos (show jpA m r n B 0 j = true from decide_eq_true ⟨by omega, g32⟩)]
        have st : jl h40 91 T.toInt = 1 := t40.trans (by decide)
        refine ih (j + 1) z51 z49 h40 ls51 (jM_pick hl51 [0, 1, 2, 3] rfl) hH40 (hs.tr hs40) (by omega) (by omega) (by rw [jsu_s, fj]; omega) (fun x hx => ?_)
        by_cases e : (x : Int) = T.toInt
        · rw [e, st, show x = j by omega]
          exact fj.symm
        · rw [u40 x (by omega) e]
          exact hd x (by omega)
theorem bw_ok {P : si_P} (hxa : P.2.1 < P.1) {d : Nat} {h : si_H} (hH : az_HI P az_tb h) {m r : Int} {Y n : Nat} {B : Nat → Int} {a b : Int} (rx : jRX h m r Y n B a b) : az_X P (d + 3) 276 0 (lv_args 0 [.ref (P.1 + 60), .int 0]) [] h (fun rv h' => ∃ z : Int64, rv = some (.long z) ∧ az_HI P az_tb h' ∧ az_same_out [(91, 1000000)] h h' ∧ z.toInt = jsu (fun x => jff (jpA m r n B) (jst2 a b Y) Y 0 x) Y ∧ ∀ x : Nat, x < Y → jl h' 91 x = jff (jpA m r n B) (jst2 a b Y) Y 0 x) := by
  have hl : jM [(0, .ref (P.1 + 60)), (1, .int 0)] (lv_args 0 [.ref (P.1 + 60), .int 0]) := jM_args [0, 1] rfl (by decide)
  generalize lv_args 0 [.ref (P.1 + 60), .int 0] = ls at hl
  have k0 : (0 : Int32).toInt = 0 := by decide
  have kl0 : (0 : Int64).toInt = 0 := by decide
  refine az_X_step (pc' := 1) (ls' := ls) (st' := [.long 0]) (h' := h) rfl rfl rfl ?_
  refine jm_lstore_n (l' := [(2, .long 0), (0, .ref (P.1 + 60)), (1, .int 0)]) rfl rfl (by decide) hl rfl (fun ls1 hl1 => ?_)
  refine az_X_step (pc' := 3) (ls' := ls1) (st' := [.int 0]) (h' := h) rfl rfl rfl ?_
  refine jm_istoreg (l' := [(4, .int 0), (2, .long 0), (0, .ref (P.1 + 60)), (1, .int 0)]) rfl rfl (by decide) hl1 rfl (fun ls3 hl3 => ?_)
  exact bw_l hxa rx Y 0 0 0 h ls3 (jM_pick hl3 [0, 1, 2, 3] rfl) hH az_same_out.rf (by decide) (by omega) (by show (0 : Int64).toInt = 0; decide) (fun x hx => absurd hx (by omega))
theorem gt_s {P : si_P} (hxa : P.2.1 < P.1) {d : Nat} {h0 : si_H} {m r : Int} {Y n : Nat} {B : Nat → Int} {a b : Int} (rx : jRX h0 m r Y n B a b) {o : Nat} (ho : o + 1 < n) (p : Int32) (ep : p.toInt = (o : Int) + 1) (r91 : ∀ x : Nat, x < Y → jl h0 91 x = jff (jpA m r n B) (jst2 a b Y) Y o x) (r93 : ∀ x : Nat, x < Y → ja h0 93 x = jb ((jst2 a b Y) 0 x)) (hA12 : ∀ i : Nat, jsu (fun t => if jpA m r n B i t = true then 1 else 0) Y ≤ 12) {t : Nat} (ht : t < Y) (T : Int32) (eT : T.toInt = t) (W : Int64) {Q : Option Value → si_H → Prop} (cont : ∀ (h : si_H) (ls : si_L), jM [(4, .int T), (2, .long W), (0, .ref (P.1 + 60)), (1, .int p)] ls → az_HI P az_tb h → az_same_out [(92, 1000000)] h0 h → jl h 92 t = jsu (fun x => if (jst2 a b Y) x t = true then jff (jpA m r n B) (jst2 a b Y) Y o x else 0) Y → (∀ x : Int, 0 ≤ x → x ≠ t → jl h 92 x = jl h0 92 x) → az_X P (d + 3) 275 112 ls [] h Q) : ∀ (k j : Nat) (U : Int32) (h : si_H) (ls : si_L), jM [(5, .int U), (4, .int T), (2, .long W), (0, .ref (P.1 + 60)), (1, .int p)] ls → az_HI P az_tb h → az_same_out [(92, 1000000)] h0 h → U.toInt = j → j + k = Y → jl h 92 t = jsu (fun x => if (jst2 a b Y) x t = true then jff (jpA m r n B) (jst2 a b Y) Y o x else 0) j → (∀ x : Int, 0 ≤ x → x ≠ t → jl h 92 x = jl h0 92 x) → az_X P (d + 3) 275 43 ls [] h (Q) := by
  have rx0 := rx
  obtain ⟨c1, c2, c3, c4, c5, c6, c7, c8, c9, c10, c11⟩ := rx
  intro k
  induction k with
  | zero =>
    intro j U h ls hl hH hs eU hj hr hx
    have rxh : jRX h m r Y n B a b := jRX_so hs (by decide) (by decide) (by decide) rx0
    have r9 : ja h 60 9 = Y := rxh.2.2.2.2.2.1
    have s91 : ∀ x : Int, jl h 91 x = jl h0 91 x := fun x => jlo_row hs (by decide) x
    have s93 : ∀ x : Int, ja h 93 x = ja h0 93 x := fun x => jso_row hs (by decide) x
    refine jm_iload (x := U) rfl rfl (jM_at hl 0 rfl) ?_
    refine jm_aload_n (x := P.1 + 60) rfl rfl (jM_at hl 3 rfl) ?_
    refine jn_gf (i := 60) (k := 9) rfl rfl hH (by decide) (hH.2 60 _ rfl).1 rfl rfl (fun z46 (ez46 : z46.toInt = ja h 60 9) (bz46 : 8 ≤ z46.toInt ∧ z46.toInt ≤ 1440) => ?_)
    refine jx_ic (t := 112) rfl rfl rfl (fun hc49 => ?_) (fun hc49 => ?_)
    · have g49 := jc2_ge_t hc49
      exact cont h ls (jM_pick hl [1, 2, 3, 4] rfl) hH hs (by have e : j = Y := (by omega); rw [e] at hr; exact hr) hx
    · have g49 := jc2_ge_f hc49
      exfalso
      omega
  | succ k ih =>
    intro j U h ls hl hH hs eU hj hr hx
    have rxh : jRX h m r Y n B a b := jRX_so hs (by decide) (by decide) (by decide) rx0
    have r9 : ja h 60 9 = Y := rxh.2.2.2.2.2.1
    have s91 : ∀ x : Int, jl h 91 x = jl h0 91 x := fun x => jlo_row hs (by decide) x
    have s93 : ∀ x : Int, ja h 93 x = ja h0 93 x := fun x => jso_row hs (by decide) x
    have bo : ∀ x : Nat, 0 ≤ jff (jpA m r n B) (jst2 a b Y) Y o x ∧ jff (jpA m r n B) (jst2 a b Y) Y o x ≤ 429981696 := fun x => ⟨jff_nn _ _ _ _ _, Int.le_trans (jff_bd hA12 _ _) (jtw_8 (by omega))⟩
    have bJ : 0 ≤ jsu (fun x => if (jst2 a b Y) x t = true then jff (jpA m r n B) (jst2 a b Y) Y o x else 0) j ∧ jsu (fun x => if (jst2 a b Y) x t = true then jff (jpA m r n B) (jst2 a b Y) Y o x else 0) j ≤ 429981696 * (j : Int) := by
      refine ⟨jsu_nn (fun x _ => by have := bo x; split <;> omega), Int.le_trans (jsu_le (f := fun _ => 429981696 * 1) (fun x _ => by have := bo x; split <;> omega)) ?_⟩
      rw [jsu_mul]
      have one : ∀ k : Nat, jsu (fun _ => 1) k = k := by
        intro k
        induction k with
        | zero => rfl
        | succ k ih =>
          rw [jsu_s, ih]
          omega
      rw [one]
      omega
    have k0 : (0 : Int32).toInt = 0 := by decide
    have kl0 : (0 : Int64).toInt = 0 := by decide
    refine jm_iload (x := U) rfl rfl (jM_at hl 0 rfl) ?_
    refine jm_aload_n (x := P.1 + 60) rfl rfl (jM_at hl 3 rfl) ?_
    refine jn_gf (i := 60) (k := 9) rfl rfl hH (by decide) (hH.2 60 _ rfl).1 rfl rfl (fun z46 (ez46 : z46.toInt = ja h 60 9) (bz46 : 8 ≤ z46.toInt ∧ z46.toInt ≤ 1440) => ?_)
    refine jx_ic (t := 112) rfl rfl rfl (fun hc49 => ?_) (fun hc49 => ?_)
    · have g49 := jc2_ge_t hc49
      exfalso
      omega
    · have g49 := jc2_ge_f hc49
      refine jm_aload_n (x := P.1 + 60) rfl rfl (jM_at hl 3 rfl) ?_
      refine jx_gf (i := 60) rfl rfl hH (by decide) (hH.2 60 _ rfl).1 rfl (jx_rf hH rfl rfl) ?_
      refine jm_iload (x := U) rfl rfl (jM_at hl 0 rfl) ?_
      refine jn_lal (i := 91) (x := U) rfl rfl hH (by decide) rfl (by omega) (by show _ < ((1440 : Nat) : Int); omega) (fun z58 ez58 => ?_)
      refine az_X_step (pc' := 60) (ls' := ls) (st' := [.long 0, .long z58]) (h' := h) rfl rfl rfl ?_
      refine jn_lcmp (a := z58) (b := 0) rfl rfl (fun z60 ez60 => ?_)
      refine jx_if (t := 106) rfl rfl rfl (fun hc61 => ?_) (fun hc61 => ?_)
      · have g61 := jc1_le_t hc61
        refine jn_iincg (x := U) rfl rfl (by decide) (jM_at hl 0 rfl) hl (by decide) (by omega) (by omega) (fun z106 (ez106 : z106.toInt = U.toInt + 1) ls106 (hl106 : jM [(5, .int z106), (4, .int T), (2, .long W), (0, .ref (P.1 + 60)), (1, .int p)] ls106) => ?_)
        refine az_X_step (pc' := 43) (ls' := ls106) (st' := []) (h' := h) rfl rfl rfl ?_
        have ps : jsu (fun x => if (jst2 a b Y) x t = true then jff (jpA m r n B) (jst2 a b Y) Y o x else 0) (j + 1) = jsu (fun x => if (jst2 a b Y) x t = true then jff (jpA m r n B) (jst2 a b Y) Y o x else 0) j + (if (jst2 a b Y) j t = true then jff (jpA m r n B) (jst2 a b Y) Y o j else 0) := rfl
        rw [show U.toInt = (j : Int) from eU, s91, r91 j (by omega)] at ez58
        have z0 : jff (jpA m r n B) (jst2 a b Y) Y o j = 0 := by
          have := bo j
          omega
        exact ih (j + 1) z106 h ls106 (jM_pick hl106 [0, 1, 2, 3, 4] rfl) hH hs (by omega) (by omega) (by rw [ps, z0]; split <;> omega) hx
      · have g61 := jc1_le_f hc61
        refine jm_aload_n (x := P.1 + 60) rfl rfl (jM_at hl 3 rfl) ?_
        refine jx_gf (i := 60) rfl rfl hH (by decide) (hH.2 60 _ rfl).1 rfl (jx_rf hH rfl rfl) ?_
        refine jm_iload (x := T) rfl rfl (jM_at hl 1 rfl) ?_
        refine jm_iload (x := U) rfl rfl (jM_at hl 0 rfl) ?_
        refine jn_sub (a := T) (b := U) rfl rfl (by omega) (by omega) (fun z72 ez72 => ?_)
        refine jm_aload_n (x := P.1 + 60) rfl rfl (jM_at hl 3 rfl) ?_
        refine jn_gf (i := 60) (k := 9) rfl rfl hH (by decide) (hH.2 60 _ rfl).1 rfl rfl (fun z74 (ez74 : z74.toInt = ja h 60 9) (bz74 : 8 ≤ z74.toInt ∧ z74.toInt ≤ 1440) => ?_)
        refine az_X_call (m' := 208) (as := [.int z72, .int z74]) (rest := [.ref (P.1 + 93)]) rfl rfl rfl rfl rfl rfl ?_
        refine (rmod_ok z72 z74 (by omega) (by omega) (by omega)).mono ?_
        rintro rv77 h77 ⟨q77, z77, rfl, ez77⟩
        subst h77
        have bz77 : 0 ≤ z77.toInt ∧ z77.toInt < Y := by
          rw [ez77, ez74, r9]
          exact ⟨Int.emod_nonneg _ (by omega), Int.emod_lt_of_pos _ (by omega)⟩
        show az_X P _ 275 80 ls [.int z77, .ref (P.1 + 93)] _ _
        refine jn_balz (i := 93) (x := z77) rfl rfl hH (by decide) rfl (by omega) (by show _ < ((1440 : Nat) : Int); omega) (fun z80 ez80 bz80 => ?_)
        refine jx_if (t := 106) rfl rfl rfl (fun hc81 => ?_) (fun hc81 => ?_)
        · have g81 := jc1_eq_t hc81
          refine jn_iincg (x := U) rfl rfl (by decide) (jM_at hl 0 rfl) hl (by decide) (by omega) (by omega) (fun z106 (ez106 : z106.toInt = U.toInt + 1) ls106 (hl106 : jM [(5, .int z106), (4, .int T), (2, .long W), (0, .ref (P.1 + 60)), (1, .int p)] ls106) => ?_)
          refine az_X_step (pc' := 43) (ls' := ls106) (st' := []) (h' := h) rfl rfl rfl ?_
          have ps : jsu (fun x => if (jst2 a b Y) x t = true then jff (jpA m r n B) (jst2 a b Y) Y o x else 0) (j + 1) = jsu (fun x => if (jst2 a b Y) x t = true then jff (jpA m r n B) (jst2 a b Y) Y o x else 0) j + (if (jst2 a b Y) j t = true then jff (jpA m r n B) (jst2 a b Y) Y o j else 0) := rfl
          rw [show U.toInt = (j : Int) from eU, s91, r91 j (by omega)] at ez58
          have sx : z80.toInt = jb ((jst2 a b Y) j t) := by
            rw [ez80, s93]
            have q := r93 z77.toInt.toNat (by omega)
            rw [Int.toNat_of_nonneg (by omega)] at q
            rw [q, ez77, ez74, r9, show z72.toInt = (t : Int) - j by omega, jst2_0 (by omega)]
          rw [sx] at g81
          unfold jb at g81
          have ns : ¬ (jst2 a b Y) j t = true := fun e => by
            rw [e] at g81
            exact absurd g81 (by decide)
          exact ih (j + 1) z106 h ls106 (jM_pick hl106 [0, 1, 2, 3, 4] rfl) hH hs (by omega) (by omega) (by rw [ps, if_neg ns, Int.add_zero]; exact hr) hx
        · have g81 := jc1_eq_f hc81
          refine jm_aload_n (x := P.1 + 60) rfl rfl (jM_at hl 3 rfl) ?_
          refine jx_gf (i := 60) rfl rfl hH (by decide) (hH.2 60 _ rfl).1 rfl (jx_rf hH rfl rfl) ?_
          refine jm_iload (x := T) rfl rfl (jM_at hl 1 rfl) ?_
          refine jm_aload_n (x := P.1 + 60) rfl rfl (jM_at hl 3 rfl) ?_
          refine jx_gf (i := 60) rfl rfl hH (by decide) (hH.2 60 _ rfl).1 rfl (jx_rf hH rfl rfl) ?_
          refine jm_iload (x := T) rfl rfl (jM_at hl 1 rfl) ?_
          refine jn_lal (i := 92) (x := T) rfl rfl hH (by decide) rfl (by omega) (by show _ < ((1440 : Nat) : Int); omega) (fun z96 ez96 => ?_)
          refine jm_aload_n (x := P.1 + 60) rfl rfl (jM_at hl 3 rfl) ?_
          refine jx_gf (i := 60) rfl rfl hH (by decide) (hH.2 60 _ rfl).1 rfl (jx_rf hH rfl rfl) ?_
          refine jm_iload (x := U) rfl rfl (jM_at hl 0 rfl) ?_
          refine jn_lal (i := 91) (x := U) rfl rfl hH (by decide) rfl (by omega) (by show _ < ((1440 : Nat) : Int); omega) (fun z103 ez103 => ?_)
          have bj := bo j
          have e96 : z96.toInt = jsu (fun x => if (jst2 a b Y) x t = true then jff (jpA m r n B) (jst2 a b Y) Y o x else 0) j := by rw [ez96, eT]; exact hr
          have e103 : z103.toInt = jff (jpA m r n B) (jst2 a b Y) Y o j := by rw [ez103, eU, s91]; exact r91 j (by omega)
          refine jn_ladd (a := z96) (b := z103) rfl rfl (by omega) (by omega) (fun z104 ez104 => ?_)
          refine jn_las (i := 92) (x := T) (v := z104) rfl rfl hH (by decide) rfl (by omega) (by show _ < ((1440 : Nat) : Int); omega) (fun h105 hH105 hs105 t105 u105 => ?_)
          refine jn_iincg (x := U) rfl rfl (by decide) (jM_at hl 0 rfl) hl (by decide) (by omega) (by omega) (fun z106 (ez106 : z106.toInt = U.toInt + 1) ls106 (hl106 : jM [(5, .int z106), (4, .int T), (2, .long W), (0, .ref (P.1 + 60)), (1, .int p)] ls106) => ?_)
          refine az_X_step (pc' := 43) (ls' := ls106) (st' := []) (h' := h105) rfl rfl rfl ?_
          have ps : jsu (fun x => if (jst2 a b Y) x t = true then jff (jpA m r n B) (jst2 a b Y) Y o x else 0) (j + 1) = jsu (fun x => if (jst2 a b Y) x t = true then jff (jpA m r n B) (jst2 a b Y) Y o x else 0) j + (if (jst2 a b Y) j t = true then jff (jpA m r n B) (jst2 a b Y) Y o j else 0) := rfl
          rw [show U.toInt = (j : Int) from eU, s91, r91 j (by omega)] at ez58
          have sx : z80.toInt = jb ((jst2 a b Y) j t) := by
            rw [ez80, s93]
            have q := r93 z77.toInt.toNat (by omega)
            rw [Int.toNat_of_nonneg (by omega)] at q
            rw [q, ez77, ez74, r9, show z72.toInt = (t : Int) - j by omega, jst2_0 (by omega)]
          rw [sx] at g81
          unfold jb at g81
          have ys : (jst2 a b Y) j t = true := by
            by_cases e : (jst2 a b Y) j t = true
            · exact e
            · rw [if_neg e] at g81
              exact absurd rfl g81
          rw [show T.toInt = (t : Int) from eT] at ez96 t105 u105
          rw [show U.toInt = (j : Int) from eU, s91, r91 j (by omega)] at ez103
          refine ih (j + 1) z106 h105 ls106 (jM_pick hl106 [0, 1, 2, 3, 4] rfl) hH105 (hs.tr hs105) (by omega) (by omega) (by rw [t105, ps, if_pos ys]; omega) (fun x x0 x1 => ?_)
          rw [u105 x x0 x1]
          exact hx x x0 x1
theorem gt_c {P : si_P} (hxa : P.2.1 < P.1) {d : Nat} {h0 : si_H} {m r : Int} {Y n : Nat} {B : Nat → Int} {a b : Int} (rx : jRX h0 m r Y n B a b) {o : Nat} (ho : o + 1 < n) (p : Int32) (ep : p.toInt = (o : Int) + 1) (r91 : ∀ x : Nat, x < Y → jl h0 91 x = jff (jpA m r n B) (jst2 a b Y) Y o x) (r93 : ∀ x : Nat, x < Y → ja h0 93 x = jb ((jst2 a b Y) 0 x)) (hA12 : ∀ i : Nat, jsu (fun t => if jpA m r n B i t = true then 1 else 0) Y ≤ 12) (W : Int64) (eW : W.toInt = jsu (fun x => jff (jpA m r n B) (jst2 a b Y) Y (o + 1) x) Y) {h1 : si_H} (hs1 : az_same_out [(92, 1000000)] h0 h1) (r92 : ∀ x : Nat, x < Y → jl h1 92 x = jff (jpA m r n B) (jst2 a b Y) Y (o + 1) x) : ∀ (k j : Nat) (T : Int32) (h : si_H) (ls : si_L), jM [(4, .int T), (2, .long W), (0, .ref (P.1 + 60)), (1, .int p)] ls → az_HI P az_tb h → az_same_out [(91, 1000000)] h1 h → T.toInt = j → j + k = Y → (∀ x : Nat, x < j → jl h 91 x = jff (jpA m r n B) (jst2 a b Y) Y (o + 1) x) → az_X P (d + 3) 275 155 ls [] h (fun rv h' => ∃ z : Int64, rv = some (.long z) ∧ az_HI P az_tb h' ∧ az_same_out [(91, 1000000), (92, 1000000)] h0 h' ∧ z.toInt = jsu (fun x => jff (jpA m r n B) (jst2 a b Y) Y (o + 1) x) Y ∧ ∀ x : Nat, x < Y → jl h' 91 x = jff (jpA m r n B) (jst2 a b Y) Y (o + 1) x) := by
  have rx0 := rx
  obtain ⟨c1, c2, c3, c4, c5, c6, c7, c8, c9, c10, c11⟩ := rx
  have bi : ∀ x : Nat, 0 ≤ jff (jpA m r n B) (jst2 a b Y) Y (o + 1) x ∧ jff (jpA m r n B) (jst2 a b Y) Y (o + 1) x ≤ jtw12 (o + 1) := fun x => ⟨jff_nn _ _ _ _ _, jff_bd hA12 _ _⟩
  have t7 := jtw_8 (k := o + 1) (by omega)
  have capT : jsu (fun x => jff (jpA m r n B) (jst2 a b Y) Y (o + 1) x) Y ≤ 429981696 := by
    have le : jsu (fun x => jff (jpA m r n B) (jst2 a b Y) Y (o + 1) x) Y ≤ jsu (fun x => jtw12 (o + 1) * (if jpA m r n B (o + 1) x = true then 1 else 0)) Y := jsu_le (fun x _ => by
      by_cases c : jpA m r n B (o + 1) x = true
      · rw [if_pos c, Int.mul_one]
        exact (bi x).2
      · rw [if_neg c, Int.mul_zero, jff_A c]
        exact Int.le_refl _)
    rw [jsu_mul] at le
    have m12 := Int.mul_le_mul_of_nonneg_left (hA12 (o + 1)) (jtw_nn (o + 1))
    have t8 := jtw_8 (k := o + 1 + 1) (by omega)
    have t9 : jtw12 (o + 1 + 1) = 12 * jtw12 (o + 1) := rfl
    omega
  intro k
  induction k with
  | zero =>
    intro j T h ls hl hH hs eT hj hd
    have r9 : ja h 60 9 = Y := (jso hs (by decide)).trans ((jso hs1 (by decide)).trans c6)
    have k0 : (0 : Int32).toInt = 0 := by decide
    have kl1000000000 : (1000000000 : Int64).toInt = 1000000000 := by decide
    refine jm_iload (x := T) rfl rfl (jM_at hl 0 rfl) ?_
    refine jm_aload_n (x := P.1 + 60) rfl rfl (jM_at hl 2 rfl) ?_
    refine jn_gf (i := 60) (k := 9) rfl rfl hH (by decide) (hH.2 60 _ rfl).1 rfl rfl (fun z158 (ez158 : z158.toInt = ja h 60 9) (bz158 : 8 ≤ z158.toInt ∧ z158.toInt ≤ 1440) => ?_)
    refine jx_ic (t := 184) rfl rfl rfl (fun hc161 => ?_) (fun hc161 => ?_)
    · have g161 := jc2_ge_t hc161
      refine jm_lload_n (x := W) rfl rfl (jM_at hl 1 rfl) ?_
      refine az_X_step (pc' := 188) (ls' := ls) (st' := [.long 1000000000, .long W]) (h' := h) rfl rfl rfl ?_
      refine jn_lcmp (a := W) (b := 1000000000) rfl rfl (fun z188 ez188 => ?_)
      refine jx_if (t := 198) rfl rfl rfl (fun hc189 => ?_) (fun hc189 => ?_)
      · have g189 := jc1_le_t hc189
        refine jm_lload_n (x := W) rfl rfl (jM_at hl 1 rfl) ?_
        refine jn_retl rfl rfl rfl ?_
        exact ⟨W, rfl, hH, (hs1.sub (by decide)).tr (hs.sub (by decide)), eW, fun x hx => hd x (by omega)⟩
      · have g189 := jc1_le_f hc189
        refine az_X_step (pc' := 195) (ls' := ls) (st' := [.long 1000000000]) (h' := h) rfl rfl rfl ?_
        refine az_X_step (pc' := 199) (ls' := ls) (st' := [.long 1000000000]) (h' := h) rfl rfl rfl ?_
        refine jn_retl rfl rfl rfl ?_
        exfalso
        omega
    · have g161 := jc2_ge_f hc161
      exfalso
      omega
  | succ k ih =>
    intro j T h ls hl hH hs eT hj hd
    have r9 : ja h 60 9 = Y := (jso hs (by decide)).trans ((jso hs1 (by decide)).trans c6)
    refine jm_iload (x := T) rfl rfl (jM_at hl 0 rfl) ?_
    refine jm_aload_n (x := P.1 + 60) rfl rfl (jM_at hl 2 rfl) ?_
    refine jn_gf (i := 60) (k := 9) rfl rfl hH (by decide) (hH.2 60 _ rfl).1 rfl rfl (fun z158 (ez158 : z158.toInt = ja h 60 9) (bz158 : 8 ≤ z158.toInt ∧ z158.toInt ≤ 1440) => ?_)
    refine jx_ic (t := 184) rfl rfl rfl (fun hc161 => ?_) (fun hc161 => ?_)
    · have g161 := jc2_ge_t hc161
      exfalso
      omega
    · have g161 := jc2_ge_f hc161
      refine jm_aload_n (x := P.1 + 60) rfl rfl (jM_at hl 2 rfl) ?_
      refine jx_gf (i := 60) rfl rfl hH (by decide) (hH.2 60 _ rfl).1 rfl (jx_rf hH rfl rfl) ?_
      refine jm_iload (x := T) rfl rfl (jM_at hl 0 rfl) ?_
      refine jm_aload_n (x := P.1 + 60) rfl rfl (jM_at hl 2 rfl) ?_
      refine jx_gf (i := 60) rfl rfl hH (by decide) (hH.2 60 _ rfl).1 rfl (jx_rf hH rfl rfl) ?_
      refine jm_iload (x := T) rfl rfl (jM_at hl 0 rfl) ?_
      refine jn_lal (i := 92) (x := T) rfl rfl hH (by decide) rfl (by omega) (by show _ < ((1440 : Nat) : Int); omega) (fun z176 ez176 => ?_)
      refine jn_las (i := 91) (x := T) (v := z176) rfl rfl hH (by decide) rfl (by omega) (by show _ < ((1440 : Nat) : Int); omega) (fun h177 hH177 hs177 t177 u177 => ?_)
      refine jn_iincg (x := T) rfl rfl (by decide) (jM_at hl 0 rfl) hl (by decide) (by omega) (by omega) (fun z178 (ez178 : z178.toInt = T.toInt + 1) ls178 (hl178 : jM [(4, .int z178), (2, .long W), (0, .ref (P.1 + 60)), (1, .int p)] ls178) => ?_)
      refine az_X_step (pc' := 155) (ls' := ls178) (st' := []) (h' := h177) rfl rfl rfl ?_
      rw [show T.toInt = (j : Int) from eT] at ez176 t177 u177
      refine ih (j + 1) z178 h177 ls178 (jM_pick hl178 [0, 1, 2, 3] rfl) hH177 (hs.tr hs177) (by omega) (by omega) (fun x hx => ?_)
      by_cases e : x = j
      · subst e
        rw [t177, ez176, jlo_row hs (by decide)]
        exact r92 x (by omega)
      · rw [u177 x (by omega) (by omega)]
        exact hd x (by omega)
theorem gt_o {P : si_P} (hxa : P.2.1 < P.1) {d : Nat} {h0 : si_H} {m r : Int} {Y n : Nat} {B : Nat → Int} {a b : Int} (rx : jRX h0 m r Y n B a b) {o : Nat} (ho : o + 1 < n) (p : Int32) (ep : p.toInt = (o : Int) + 1) (r91 : ∀ x : Nat, x < Y → jl h0 91 x = jff (jpA m r n B) (jst2 a b Y) Y o x) (r93 : ∀ x : Nat, x < Y → ja h0 93 x = jb ((jst2 a b Y) 0 x)) (hA12 : ∀ i : Nat, jsu (fun t => if jpA m r n B i t = true then 1 else 0) Y ≤ 12) : ∀ (k j : Nat) (T : Int32) (W : Int64) (h : si_H) (ls : si_L), jM [(4, .int T), (2, .long W), (0, .ref (P.1 + 60)), (1, .int p)] ls → az_HI P az_tb h → az_same_out [(92, 1000000)] h0 h → T.toInt = j → j + k = Y → W.toInt = jsu (fun x => jff (jpA m r n B) (jst2 a b Y) Y (o + 1) x) j → (∀ x : Nat, x < j → jl h 92 x = jff (jpA m r n B) (jst2 a b Y) Y (o + 1) x) → az_X P (d + 3) 275 5 ls [] h (fun rv h' => ∃ z : Int64, rv = some (.long z) ∧ az_HI P az_tb h' ∧ az_same_out [(91, 1000000), (92, 1000000)] h0 h' ∧ z.toInt = jsu (fun x => jff (jpA m r n B) (jst2 a b Y) Y (o + 1) x) Y ∧ ∀ x : Nat, x < Y → jl h' 91 x = jff (jpA m r n B) (jst2 a b Y) Y (o + 1) x) := by
  have rx0 := rx
  obtain ⟨c1, c2, c3, c4, c5, c6, c7, c8, c9, c10, c11⟩ := rx
  have bi : ∀ x : Nat, 0 ≤ jff (jpA m r n B) (jst2 a b Y) Y (o + 1) x ∧ jff (jpA m r n B) (jst2 a b Y) Y (o + 1) x ≤ jtw12 (o + 1) := fun x => ⟨jff_nn _ _ _ _ _, jff_bd hA12 _ _⟩
  have t7 := jtw_8 (k := o + 1) (by omega)
  have capT : jsu (fun x => jff (jpA m r n B) (jst2 a b Y) Y (o + 1) x) Y ≤ 429981696 := by
    have le : jsu (fun x => jff (jpA m r n B) (jst2 a b Y) Y (o + 1) x) Y ≤ jsu (fun x => jtw12 (o + 1) * (if jpA m r n B (o + 1) x = true then 1 else 0)) Y := jsu_le (fun x _ => by
      by_cases c : jpA m r n B (o + 1) x = true
      · rw [if_pos c, Int.mul_one]
        exact (bi x).2
      · rw [if_neg c, Int.mul_zero, jff_A c]
        exact Int.le_refl _)
    rw [jsu_mul] at le
    have m12 := Int.mul_le_mul_of_nonneg_left (hA12 (o + 1)) (jtw_nn (o + 1))
    have t8 := jtw_8 (k := o + 1 + 1) (by omega)
    have t9 : jtw12 (o + 1 + 1) = 12 * jtw12 (o + 1) := rfl
    omega
  intro k
  induction k with
  | zero =>
    intro j T W h ls hl hH hs eT hj eW hd
    have rxh : jRX h m r Y n B a b := jRX_so hs (by decide) (by decide) (by decide) rx0
    have r9 : ja h 60 9 = Y := rxh.2.2.2.2.2.1
    have r68 : j < Y → ja h 68 j = jlk m r j := fun q => rxh.2.2.2.2.2.2.2.2.1 j q
    have bW : 0 ≤ W.toInt ∧ W.toInt ≤ 429981696 * (j : Int) := by
      rw [eW]
      refine ⟨jsu_nn (fun x _ => (bi x).1), Int.le_trans (jsu_le (f := fun _ => 429981696 * 1) (fun x _ => by have := bi x; omega)) ?_⟩
      rw [jsu_mul]
      have one : ∀ k : Nat, jsu (fun _ => 1) k = k := by
        intro k
        induction k with
        | zero => rfl
        | succ k ih =>
          rw [jsu_s, ih]
          omega
      rw [one]
      omega
    have k0 : (0 : Int32).toInt = 0 := by decide
    refine jm_iload (x := T) rfl rfl (jM_at hl 0 rfl) ?_
    refine jm_aload_n (x := P.1 + 60) rfl rfl (jM_at hl 2 rfl) ?_
    refine jn_gf (i := 60) (k := 9) rfl rfl hH (by decide) (hH.2 60 _ rfl).1 rfl rfl (fun z8 (ez8 : z8.toInt = ja h 60 9) (bz8 : 8 ≤ z8.toInt ∧ z8.toInt ≤ 1440) => ?_)
    refine jx_ic (t := 152) rfl rfl rfl (fun hc11 => ?_) (fun hc11 => ?_)
    · have g11 := jc2_ge_t hc11
      refine az_X_step (pc' := 153) (ls' := ls) (st' := [.int 0]) (h' := h) rfl rfl rfl ?_
      refine jm_istoreg (l' := [(4, .int 0), (2, .long W), (0, .ref (P.1 + 60)), (1, .int p)]) rfl rfl (by decide) hl rfl (fun ls153 hl153 => ?_)
      exact gt_c (d := d) hxa rx0 ho p ep r91 r93 hA12 W (by rw [eW, show j = Y by omega]) hs (fun x hx => hd x (by omega)) Y 0 0 h ls153 (jM_pick hl153 [0, 1, 2, 3] rfl) hH az_same_out.rf (by decide) (by omega) (fun x hx => absurd hx (by omega))
    · have g11 := jc2_ge_f hc11
      exfalso
      omega
  | succ k ih =>
    intro j T W h ls hl hH hs eT hj eW hd
    have rxh : jRX h m r Y n B a b := jRX_so hs (by decide) (by decide) (by decide) rx0
    have r9 : ja h 60 9 = Y := rxh.2.2.2.2.2.1
    have r68 : j < Y → ja h 68 j = jlk m r j := fun q => rxh.2.2.2.2.2.2.2.2.1 j q
    have bW : 0 ≤ W.toInt ∧ W.toInt ≤ 429981696 * (j : Int) := by
      rw [eW]
      refine ⟨jsu_nn (fun x _ => (bi x).1), Int.le_trans (jsu_le (f := fun _ => 429981696 * 1) (fun x _ => by have := bi x; omega)) ?_⟩
      rw [jsu_mul]
      have one : ∀ k : Nat, jsu (fun _ => 1) k = k := by
        intro k
        induction k with
        | zero => rfl
        | succ k ih =>
          rw [jsu_s, ih]
          omega
      rw [one]
      omega
    have k0 : (0 : Int32).toInt = 0 := by decide
    have kl0 : (0 : Int64).toInt = 0 := by decide
    refine jm_iload (x := T) rfl rfl (jM_at hl 0 rfl) ?_
    refine jm_aload_n (x := P.1 + 60) rfl rfl (jM_at hl 2 rfl) ?_
    refine jn_gf (i := 60) (k := 9) rfl rfl hH (by decide) (hH.2 60 _ rfl).1 rfl rfl (fun z8 (ez8 : z8.toInt = ja h 60 9) (bz8 : 8 ≤ z8.toInt ∧ z8.toInt ≤ 1440) => ?_)
    refine jx_ic (t := 152) rfl rfl rfl (fun hc11 => ?_) (fun hc11 => ?_)
    · have g11 := jc2_ge_t hc11
      exfalso
      omega
    · have g11 := jc2_ge_f hc11
      refine jm_aload_n (x := P.1 + 60) rfl rfl (jM_at hl 2 rfl) ?_
      refine jx_gf (i := 60) rfl rfl hH (by decide) (hH.2 60 _ rfl).1 rfl (jx_rf hH rfl rfl) ?_
      refine jm_iload (x := T) rfl rfl (jM_at hl 0 rfl) ?_
      refine az_X_step (pc' := 21) (ls' := ls) (st' := [.long 0, .int T, .ref (P.1 + 92)]) (h' := h) rfl rfl rfl ?_
      refine jn_las (i := 92) (x := T) (v := 0) rfl rfl hH (by decide) rfl (by omega) (by show _ < ((1440 : Nat) : Int); omega) (fun h21 hH21 hs21 t21 u21 => ?_)
      refine jm_aload_n (x := P.1 + 60) rfl rfl (jM_at hl 2 rfl) ?_
      refine jx_gf (i := 60) rfl rfl hH21 (by decide) (hH21.2 60 _ rfl).1 rfl (jx_rf hH21 rfl rfl) ?_
      refine jm_iload (x := T) rfl rfl (jM_at hl 0 rfl) ?_
      refine jx_ial (i := 68) (x := T) rfl rfl hxa hH21 (by decide) rfl (by omega) (by show _ < ((1440 : Nat) : Int); omega) (fun z28 ez28 bz28 => ?_)
      refine jm_aload_n (x := P.1 + 60) rfl rfl (jM_at hl 2 rfl) ?_
      refine jm_iload_n (x := p) rfl rfl (jM_at hl 3 rfl) ?_
      refine az_X_call (m' := 272) (as := [.ref (P.1 + 60), .int p]) (rest := [.int z28]) rfl rfl rfl rfl rfl ?_ ?_
      · unfold si_call
        dsimp only
        rw [if_pos ⟨rfl, rfl⟩]
        show (match si_ix P h21 (P.1 + 60) with | some i => _ | none => none) = _
        rw [jix hH21 (by decide)]
        dsimp only
        rw [(hH21.2 60 _ rfl).1]
        rfl
      refine (li_ok hH21 (jRX_so hs21 (by decide) (by decide) (by decide) rxh) p (u := o + 1) (by omega) ho).mono ?_
      rintro rv31 h31 ⟨q31, z31, rfl, ez31⟩
      subst h31
      show az_X P _ 275 34 ls [.int z31, .int z28] _ _
      refine jx_ic (t := 40) rfl rfl rfl (fun hc34 => ?_) (fun hc34 => ?_)
      · have g34 := jc2_eq_t hc34
        refine az_X_step (pc' := 41) (ls' := ls) (st' := [.int 0]) (h' := h21) rfl rfl rfl ?_
        refine jm_istoreg (l' := [(5, .int 0), (4, .int T), (2, .long W), (0, .ref (P.1 + 60)), (1, .int p)]) rfl rfl (by decide) hl rfl (fun ls41 hl41 => ?_)
        have lk : z28.toInt = jlk m r j := by rw [ez28, eT, jso_row (i := 68) hs21 (by decide)]; exact r68 (by omega)
        rw [lk, ez31] at g34
        rw [show T.toInt = (j : Int) from eT] at t21 u21
        have tA : jpA m r n B (o + 1) j = true := decide_eq_true ⟨ho, g34⟩
        have h21s : ∀ x : Int, jl h21 91 x = jl h0 91 x := fun x => by rw [jlo_row hs21 (by decide), jlo_row hs (by decide)]
        have h21b : ∀ x : Int, ja h21 93 x = ja h0 93 x := fun x => by rw [jso_row (i := 93) hs21 (by decide), jso_row (i := 93) hs (by decide)]
        refine gt_s (d := d) hxa (h0 := h21) (jRX_so hs21 (by decide) (by decide) (by decide) rxh) ho p ep (fun x hx => by rw [h21s]; exact r91 x hx) (fun x hx => by rw [h21b]; exact r93 x hx) hA12 (t := j) (by omega) T eT W (fun h1 ls1 hl1 hH1 hs1 w1 o1 => ?_) Y 0 0 h21 ls41 (jM_pick hl41 [0, 1, 2, 3, 4] rfl) hH21 az_same_out.rf (by decide) (by omega) (t21.trans (by show (0 : Int64).toInt = 0; decide)) (fun _ _ _ => rfl)
        have fi : jl h1 92 j = jff (jpA m r n B) (jst2 a b Y) Y (o + 1) j := by
          rw [w1]
          exact (if_pos tA).symm
        have bj := bi j
        have k0 : (0 : Int32).toInt = 0 := by decide
        have kl1000000000 : (1000000000 : Int64).toInt = 1000000000 := by decide
        refine jm_aload_n (x := P.1 + 60) rfl rfl (jM_at hl1 2 rfl) ?_
        refine jx_gf (i := 60) rfl rfl hH1 (by decide) (hH1.2 60 _ rfl).1 rfl (jx_rf hH1 rfl rfl) ?_
        refine jm_iload (x := T) rfl rfl (jM_at hl1 0 rfl) ?_
        refine jn_lal (i := 92) (x := T) rfl rfl hH1 (by decide) rfl (by omega) (by show _ < ((1440 : Nat) : Int); omega) (fun z118 ez118 => ?_)
        refine az_X_step (pc' := 122) (ls' := ls1) (st' := [.long 1000000000, .long z118]) (h' := h1) rfl rfl rfl ?_
        refine jn_lcmp (a := z118) (b := 1000000000) rfl rfl (fun z122 ez122 => ?_)
        refine jx_if (t := 136) rfl rfl rfl (fun hc123 => ?_) (fun hc123 => ?_)
        · have g123 := jc1_le_t hc123
          refine jm_lload_n (x := W) rfl rfl (jM_at hl1 1 rfl) ?_
          refine jm_aload_n (x := P.1 + 60) rfl rfl (jM_at hl1 2 rfl) ?_
          refine jx_gf (i := 60) rfl rfl hH1 (by decide) (hH1.2 60 _ rfl).1 rfl (jx_rf hH1 rfl rfl) ?_
          refine jm_iload (x := T) rfl rfl (jM_at hl1 0 rfl) ?_
          refine jn_lal (i := 92) (x := T) rfl rfl hH1 (by decide) rfl (by omega) (by show _ < ((1440 : Nat) : Int); omega) (fun z143 ez143 => ?_)
          rw [show T.toInt = (j : Int) from eT, fi] at ez143
          refine jn_ladd (a := W) (b := z143) rfl rfl (by omega) (by omega) (fun z144 ez144 => ?_)
          refine jm_lstore_n (l' := [(2, .long z144), (4, .int T), (0, .ref (P.1 + 60)), (1, .int p)]) rfl rfl (by decide) hl1 rfl (fun ls145 hl145 => ?_)
          refine jn_iincg (x := T) rfl rfl (by decide) (jM_at hl145 1 rfl) hl145 (by decide) (by omega) (by omega) (fun z146 (ez146 : z146.toInt = T.toInt + 1) ls146 (hl146 : jM [(4, .int z146), (2, .long z144), (0, .ref (P.1 + 60)), (1, .int p)] ls146) => ?_)
          refine az_X_step (pc' := 5) (ls' := ls146) (st' := []) (h' := h1) rfl rfl rfl ?_
          refine ih (j + 1) z146 z144 h1 ls146 (jM_pick hl146 [0, 1, 2, 3] rfl) hH1 ((hs.tr hs21).tr hs1) (by omega) (by omega) (by rw [jsu_s]; omega) (fun x hx => ?_)
          by_cases e : x = j
          · subst e
            exact fi
          · rw [o1 x (by omega) (by omega), u21 x (by omega) (by omega)]
            exact hd x (by omega)
        · have g123 := jc1_le_f hc123
          exfalso
          rw [show T.toInt = (j : Int) from eT, fi] at ez118
          omega
      · have g34 := jc2_eq_f hc34
        refine az_X_step (pc' := 146) (ls' := ls) (st' := []) (h' := h21) rfl rfl rfl ?_
        refine jn_iincg (x := T) rfl rfl (by decide) (jM_at hl 0 rfl) hl (by decide) (by omega) (by omega) (fun z146 (ez146 : z146.toInt = T.toInt + 1) ls146 (hl146 : jM [(4, .int z146), (2, .long W), (0, .ref (P.1 + 60)), (1, .int p)] ls146) => ?_)
        refine az_X_step (pc' := 5) (ls' := ls146) (st' := []) (h' := h21) rfl rfl rfl ?_
        have lk : z28.toInt = jlk m r j := by rw [ez28, eT, jso_row (i := 68) hs21 (by decide)]; exact r68 (by omega)
        rw [lk, ez31] at g34
        rw [show T.toInt = (j : Int) from eT] at t21 u21
        have z0 : jff (jpA m r n B) (jst2 a b Y) Y (o + 1) j = 0 := jff_A (fun e => g34 (of_decide_eq_true e).2)
        refine ih (j + 1) z146 W h21 ls146 (jM_pick hl146 [0, 1, 2, 3] rfl) hH21 (hs.tr hs21) (by omega) (by omega) (by rw [jsu_s, z0, Int.add_zero]; exact eW) (fun x hx => ?_)
        by_cases e : x = j
        · subst e
          rw [t21, z0]
          decide
        · rw [u21 x (by omega) (by omega)]
          exact hd x (by omega)
theorem gt_ok {P : si_P} (hxa : P.2.1 < P.1) {d : Nat} {h : si_H} (hH : az_HI P az_tb h) {m r : Int} {Y n : Nat} {B : Nat → Int} {a b : Int} (rx : jRX h m r Y n B a b) {o : Nat} (ho : o + 1 < n) (p : Int32) (ep : p.toInt = (o : Int) + 1) (r91 : ∀ x : Nat, x < Y → jl h 91 x = jff (jpA m r n B) (jst2 a b Y) Y o x) (r93 : ∀ x : Nat, x < Y → ja h 93 x = jb ((jst2 a b Y) 0 x)) (hA12 : ∀ i : Nat, jsu (fun t => if jpA m r n B i t = true then 1 else 0) Y ≤ 12) : az_X P (d + 3) 275 0 (lv_args 0 [.ref (P.1 + 60), .int p]) [] h (fun rv h' => ∃ z : Int64, rv = some (.long z) ∧ az_HI P az_tb h' ∧ az_same_out [(91, 1000000), (92, 1000000)] h h' ∧ z.toInt = jsu (fun x => jff (jpA m r n B) (jst2 a b Y) Y (o + 1) x) Y ∧ ∀ x : Nat, x < Y → jl h' 91 x = jff (jpA m r n B) (jst2 a b Y) Y (o + 1) x) := by
  have hl : jM [(0, .ref (P.1 + 60)), (1, .int p)] (lv_args 0 [.ref (P.1 + 60), .int p]) := jM_args [0, 1] rfl (by decide)
  generalize lv_args 0 [.ref (P.1 + 60), .int p] = ls at hl
  have k0 : (0 : Int32).toInt = 0 := by decide
  have kl0 : (0 : Int64).toInt = 0 := by decide
  refine az_X_step (pc' := 1) (ls' := ls) (st' := [.long 0]) (h' := h) rfl rfl rfl ?_
  refine jm_lstore_n (l' := [(2, .long 0), (0, .ref (P.1 + 60)), (1, .int p)]) rfl rfl (by decide) hl rfl (fun ls1 hl1 => ?_)
  refine az_X_step (pc' := 3) (ls' := ls1) (st' := [.int 0]) (h' := h) rfl rfl rfl ?_
  refine jm_istoreg (l' := [(4, .int 0), (2, .long 0), (0, .ref (P.1 + 60)), (1, .int p)]) rfl rfl (by decide) hl1 rfl (fun ls3 hl3 => ?_)
  exact gt_o hxa rx ho p ep r91 r93 hA12 Y 0 0 0 h ls3 (jM_pick hl3 [0, 1, 2, 3] rfl) hH az_same_out.rf (by decide) (by omega) (by show (0 : Int64).toInt = 0; decide) (fun x hx => absurd hx (by omega))
theorem cb_l {P : si_P} {d : Nat} {h : si_H} (hH : az_HI P az_tb h) {m r : Int} {Y n : Nat} {B : Nat → Int} {a b : Int} (rx : jRX h m r Y n B a b) {o t : Nat} (ho : o < n) (p T : Int32) (ep : p.toInt = (o : Int) + 1) (eT : T.toInt = t) (ht : t < Y) (hc : ∀ x : Nat, x < Y → ja h 94 (1440 * (o : Int) + x) = jb (decide (0 < jff (jpA m r n B) (jst2 a b Y) Y (o) x))) (r93 : ∀ x : Nat, x < Y → ja h 93 x = jb ((jst2 a b Y) 0 x)) : ∀ (k j : Nat) (U : Int32) (ls : si_L), jM [(3, .int U), (0, .ref (P.1 + 60)), (1, .int p), (2, .int T)] ls → U.toInt = j → j + k = Y → (¬ ∃ x : Nat, x < j ∧ (decide (0 < jff (jpA m r n B) (jst2 a b Y) Y (o) x)) = true ∧ (jst2 a b Y) x t = true) → az_X P (d + 2) 278 2 ls [] h (fun rv h' => h' = h ∧ ∃ z : Int32, rv = some (.int z) ∧ ((z.toInt = 1 ∧ ∃ x : Nat, x < Y ∧ (decide (0 < jff (jpA m r n B) (jst2 a b Y) Y (o) x)) = true ∧ (jst2 a b Y) x t = true) ∨ (z.toInt = 0 ∧ ¬ (∃ x : Nat, x < Y ∧ (decide (0 < jff (jpA m r n B) (jst2 a b Y) Y (o) x)) = true ∧ (jst2 a b Y) x t = true)))) := by
  have rx0 := rx
  obtain ⟨c1, c2, c3, c4, c5, c6, c7, c8, c9, c10, c11⟩ := rx
  intro k
  induction k with
  | zero =>
    intro j U ls hl eU hj hd
    have k0 : (0 : Int32).toInt = 0 := by decide
    refine jm_iload_n (x := U) rfl rfl (jM_at hl 0 rfl) ?_
    refine jm_aload_n (x := P.1 + 60) rfl rfl (jM_at hl 1 rfl) ?_
    refine jn_gf (i := 60) (k := 9) rfl rfl hH (by decide) (hH.2 60 _ rfl).1 rfl rfl (fun z4 (ez4 : z4.toInt = ja h 60 9) (bz4 : 8 ≤ z4.toInt ∧ z4.toInt ≤ 1440) => ?_)
    refine jx_ic (t := 53) rfl rfl rfl (fun hc7 => ?_) (fun hc7 => ?_)
    · have g7 := jc2_ge_t hc7
      refine az_X_step (pc' := 54) (ls' := ls) (st' := [.int 0]) (h' := h) rfl rfl rfl ?_
      refine jx_retz rfl rfl rfl (by decide) ?_
      exact ⟨rfl, 0, rfl, Or.inr ⟨by decide, by have e : j = Y := (by omega); rw [e] at hd; exact hd⟩⟩
    · have g7 := jc2_ge_f hc7
      exfalso
      omega
  | succ k ih =>
    intro j U ls hl eU hj hd
    have k0 : (0 : Int32).toInt = 0 := by decide
    have k1 : (1 : Int32).toInt = 1 := by decide
    have k1440 : (1440 : Int32).toInt = 1440 := by decide
    refine jm_iload_n (x := U) rfl rfl (jM_at hl 0 rfl) ?_
    refine jm_aload_n (x := P.1 + 60) rfl rfl (jM_at hl 1 rfl) ?_
    refine jn_gf (i := 60) (k := 9) rfl rfl hH (by decide) (hH.2 60 _ rfl).1 rfl rfl (fun z4 (ez4 : z4.toInt = ja h 60 9) (bz4 : 8 ≤ z4.toInt ∧ z4.toInt ≤ 1440) => ?_)
    refine jx_ic (t := 53) rfl rfl rfl (fun hc7 => ?_) (fun hc7 => ?_)
    · have g7 := jc2_ge_t hc7
      refine az_X_step (pc' := 54) (ls' := ls) (st' := [.int 0]) (h' := h) rfl rfl rfl ?_
      refine jx_retz rfl rfl rfl (by decide) ?_
      exfalso
      omega
    · have g7 := jc2_ge_f hc7
      refine jm_aload_n (x := P.1 + 60) rfl rfl (jM_at hl 1 rfl) ?_
      refine jx_gf (i := 60) rfl rfl hH (by decide) (hH.2 60 _ rfl).1 rfl (jx_rf hH rfl rfl) ?_
      refine az_X_step (pc' := 17) (ls' := ls) (st' := [.int 1440, .ref (P.1 + 94)]) (h' := h) rfl rfl rfl ?_
      refine jm_iload_n (x := p) rfl rfl (jM_at hl 2 rfl) ?_
      refine az_X_step (pc' := 19) (ls' := ls) (st' := [.int 1, .int p, .int 1440, .ref (P.1 + 94)]) (h' := h) rfl rfl rfl ?_
      refine jn_sub (a := p) (b := 1) rfl rfl (by omega) (by omega) (fun z19 ez19 => ?_)
      rw [show (1 : Int32).toInt = 1 by decide] at ez19
      refine jn_mul (a := 1440) (b := z19) rfl rfl (by rw [show (1440 : Int32).toInt = 1440 by decide]; omega) (by rw [show (1440 : Int32).toInt = 1440 by decide]; omega) (fun z20 ez20 => ?_)
      rw [show (1440 : Int32).toInt = 1440 by decide] at ez20
      refine jm_iload_n (x := U) rfl rfl (jM_at hl 0 rfl) ?_
      refine jn_add (a := z20) (b := U) rfl rfl (by omega) (by omega) (fun z22 ez22 => ?_)
      refine jn_balz (i := 94) (x := z22) rfl rfl hH (by decide) rfl (by omega) (by show _ < ((11520 : Nat) : Int); omega) (fun z23 ez23 bz23 => ?_)
      refine jx_if (t := 47) rfl rfl rfl (fun hc24 => ?_) (fun hc24 => ?_)
      · have g24 := jc1_eq_t hc24
        refine jn_iinc (x := U) rfl rfl (by decide) (jM_at hl 0 rfl) hl rfl (by decide) (by omega) (by omega) (fun z47 (ez47 : z47.toInt = U.toInt + 1) ls47 (hl47 : jM [(3, .int z47), (0, .ref (P.1 + 60)), (1, .int p), (2, .int T)] ls47) => ?_)
        refine az_X_step (pc' := 2) (ls' := ls47) (st' := []) (h' := h) rfl rfl rfl ?_
        have q23 : z23.toInt = jb (decide (0 < jff (jpA m r n B) (jst2 a b Y) Y (o) j)) := by
          rw [ez23, show z22.toInt = 1440 * (o : Int) + j by omega]
          exact hc j (by omega)
        rw [q23] at g24
        unfold jb at g24
        refine ih (j + 1) z47 ls47 (jM_pick hl47 [0, 1, 2, 3] rfl) (by omega) (by omega) (fun ⟨x, x1, x2, x3⟩ => ?_)
        rcases Nat.lt_or_ge x j with q | q
        · exact hd ⟨x, q, x2, x3⟩
        · have ex : x = j := by omega
          subst ex
          rw [x2] at g24
          exact absurd g24 (by decide)
      · have g24 := jc1_eq_f hc24
        refine jm_aload_n (x := P.1 + 60) rfl rfl (jM_at hl 1 rfl) ?_
        refine jx_gf (i := 60) rfl rfl hH (by decide) (hH.2 60 _ rfl).1 rfl (jx_rf hH rfl rfl) ?_
        refine jm_iload_n (x := T) rfl rfl (jM_at hl 3 rfl) ?_
        refine jm_iload_n (x := U) rfl rfl (jM_at hl 0 rfl) ?_
        refine jn_sub (a := T) (b := U) rfl rfl (by omega) (by omega) (fun z33 ez33 => ?_)
        refine jm_aload_n (x := P.1 + 60) rfl rfl (jM_at hl 1 rfl) ?_
        refine jn_gf (i := 60) (k := 9) rfl rfl hH (by decide) (hH.2 60 _ rfl).1 rfl rfl (fun z35 (ez35 : z35.toInt = ja h 60 9) (bz35 : 8 ≤ z35.toInt ∧ z35.toInt ≤ 1440) => ?_)
        refine az_X_call (m' := 208) (as := [.int z33, .int z35]) (rest := [.ref (P.1 + 93)]) rfl rfl rfl rfl rfl rfl ?_
        refine (rmod_ok z33 z35 (by omega) (by omega) (by omega)).mono ?_
        rintro rv38 h38 ⟨q38, z38, rfl, ez38⟩
        subst h38
        have bz38 : 0 ≤ z38.toInt ∧ z38.toInt < Y := by
          rw [ez38, ez35, c6]
          exact ⟨Int.emod_nonneg _ (by omega), Int.emod_lt_of_pos _ (by omega)⟩
        show az_X P _ 278 41 ls [.int z38, .ref (P.1 + 93)] _ _
        refine jn_balz (i := 93) (x := z38) rfl rfl hH (by decide) rfl (by omega) (by show _ < ((1440 : Nat) : Int); omega) (fun z41 ez41 bz41 => ?_)
        refine jx_if (t := 47) rfl rfl rfl (fun hc42 => ?_) (fun hc42 => ?_)
        · have g42 := jc1_eq_t hc42
          refine jn_iinc (x := U) rfl rfl (by decide) (jM_at hl 0 rfl) hl rfl (by decide) (by omega) (by omega) (fun z47 (ez47 : z47.toInt = U.toInt + 1) ls47 (hl47 : jM [(3, .int z47), (0, .ref (P.1 + 60)), (1, .int p), (2, .int T)] ls47) => ?_)
          refine az_X_step (pc' := 2) (ls' := ls47) (st' := []) (h' := h) rfl rfl rfl ?_
          have q23 : z23.toInt = jb (decide (0 < jff (jpA m r n B) (jst2 a b Y) Y (o) j)) := by
            rw [ez23, show z22.toInt = 1440 * (o : Int) + j by omega]
            exact hc j (by omega)
          rw [q23] at g24
          unfold jb at g24
          have q41 : z41.toInt = jb ((jst2 a b Y) j t) := by
            rw [ez41]
            have q := r93 z38.toInt.toNat (by omega)
            rw [Int.toNat_of_nonneg (by omega)] at q
            rw [q, ez38, ez35, c6, show z33.toInt = (t : Int) - j by omega, jst2_0 (by omega)]
          rw [q41] at g42
          unfold jb at g42
          refine ih (j + 1) z47 ls47 (jM_pick hl47 [0, 1, 2, 3] rfl) (by omega) (by omega) (fun ⟨x, x1, x2, x3⟩ => ?_)
          rcases Nat.lt_or_ge x j with q | q
          · exact hd ⟨x, q, x2, x3⟩
          · have ex : x = j := by omega
            subst ex
            rw [if_pos x3] at g42
            exact absurd g42 (by decide)
        · have g42 := jc1_eq_f hc42
          refine az_X_step (pc' := 46) (ls' := ls) (st' := [.int 1]) (h' := h) rfl rfl rfl ?_
          refine jx_retz rfl rfl rfl (by decide) ?_
          have q23 : z23.toInt = jb (decide (0 < jff (jpA m r n B) (jst2 a b Y) Y (o) j)) := by
            rw [ez23, show z22.toInt = 1440 * (o : Int) + j by omega]
            exact hc j (by omega)
          rw [q23] at g24
          unfold jb at g24
          have q41 : z41.toInt = jb ((jst2 a b Y) j t) := by
            rw [ez41]
            have q := r93 z38.toInt.toNat (by omega)
            rw [Int.toNat_of_nonneg (by omega)] at q
            rw [q, ez38, ez35, c6, show z33.toInt = (t : Int) - j by omega, jst2_0 (by omega)]
          rw [q41] at g42
          unfold jb at g42
          have yc : (decide (0 < jff (jpA m r n B) (jst2 a b Y) Y (o) j)) = true := by
            by_cases e : (decide (0 < jff (jpA m r n B) (jst2 a b Y) Y (o) j)) = true
            · exact e
            · rw [if_neg e] at g24
              exact absurd rfl g24
          refine ⟨rfl, 1, rfl, Or.inl ⟨by decide, j, by omega, yc, ?_⟩⟩
          by_cases e : (jst2 a b Y) j t = true
          · exact e
          · rw [if_neg e] at g42
            exact absurd rfl g42
theorem cb_ok {P : si_P} {d : Nat} {h : si_H} (hH : az_HI P az_tb h) {m r : Int} {Y n : Nat} {B : Nat → Int} {a b : Int} (rx : jRX h m r Y n B a b) {o t : Nat} (ho : o < n) (p T : Int32) (ep : p.toInt = (o : Int) + 1) (eT : T.toInt = t) (ht : t < Y) (hc : ∀ x : Nat, x < Y → ja h 94 (1440 * (o : Int) + x) = jb (decide (0 < jff (jpA m r n B) (jst2 a b Y) Y (o) x))) (r93 : ∀ x : Nat, x < Y → ja h 93 x = jb ((jst2 a b Y) 0 x)) : az_X P (d + 2) 278 0 (lv_args 0 [.ref (P.1 + 60), .int p, .int T]) [] h (fun rv h' => h' = h ∧ ∃ z : Int32, rv = some (.int z) ∧ ((z.toInt = 1 ∧ ∃ x : Nat, x < Y ∧ (decide (0 < jff (jpA m r n B) (jst2 a b Y) Y (o) x)) = true ∧ (jst2 a b Y) x t = true) ∨ (z.toInt = 0 ∧ ¬ (∃ x : Nat, x < Y ∧ (decide (0 < jff (jpA m r n B) (jst2 a b Y) Y (o) x)) = true ∧ (jst2 a b Y) x t = true)))) := by
  have hl : jM [(0, .ref (P.1 + 60)), (1, .int p), (2, .int T)] (lv_args 0 [.ref (P.1 + 60), .int p, .int T]) := jM_args [0, 1, 2] rfl (by decide)
  generalize lv_args 0 [.ref (P.1 + 60), .int p, .int T] = ls at hl
  have k0 : (0 : Int32).toInt = 0 := by decide
  refine az_X_step (pc' := 1) (ls' := ls) (st' := [.int 0]) (h' := h) rfl rfl rfl ?_
  refine jm_istore_n (l' := [(3, .int 0), (0, .ref (P.1 + 60)), (1, .int p), (2, .int T)]) rfl rfl (by decide) hl rfl rfl (fun ls1 hl1 => ?_)
  exact cb_l hH rx ho p T ep eT ht hc r93 Y 0 0 ls1 (jM_pick hl1 [0, 1, 2, 3] rfl) (by decide) (by omega) (fun ⟨x, x1, _⟩ => absurd x1 (by omega))
theorem gb_l {P : si_P} {d : Nat} {h : si_H} (hH : az_HI P az_tb h) {m r : Int} {Y n : Nat} {B : Nat → Int} {a b : Int} (rx : jRX h m r Y n B a b) {o t : Nat} (ho : o < n) (p T : Int32) (ep : p.toInt = (o : Int) - 1) (eT : T.toInt = t) (ht : t < Y) (hc : ∀ x : Nat, x < Y → ja h 95 (1440 * (o : Int) + x) = jb (jcan m r Y n B a b (o) x)) (r93 : ∀ x : Nat, x < Y → ja h 93 x = jb ((jst2 a b Y) 0 x)) : ∀ (k j : Nat) (U : Int32) (ls : si_L), jM [(3, .int U), (0, .ref (P.1 + 60)), (1, .int p), (2, .int T)] ls → U.toInt = j → j + k = Y → (¬ ∃ x : Nat, x < j ∧ (jcan m r Y n B a b (o) x) = true ∧ (jst2 a b Y) t x = true) → az_X P (d + 2) 279 2 ls [] h (fun rv h' => h' = h ∧ ∃ z : Int32, rv = some (.int z) ∧ ((z.toInt = 1 ∧ ∃ x : Nat, x < Y ∧ (jcan m r Y n B a b (o) x) = true ∧ (jst2 a b Y) t x = true) ∨ (z.toInt = 0 ∧ ¬ (∃ x : Nat, x < Y ∧ (jcan m r Y n B a b (o) x) = true ∧ (jst2 a b Y) t x = true)))) := by
  have rx0 := rx
  obtain ⟨c1, c2, c3, c4, c5, c6, c7, c8, c9, c10, c11⟩ := rx
  intro k
  induction k with
  | zero =>
    intro j U ls hl eU hj hd
    have k0 : (0 : Int32).toInt = 0 := by decide
    refine jm_iload_n (x := U) rfl rfl (jM_at hl 0 rfl) ?_
    refine jm_aload_n (x := P.1 + 60) rfl rfl (jM_at hl 1 rfl) ?_
    refine jn_gf (i := 60) (k := 9) rfl rfl hH (by decide) (hH.2 60 _ rfl).1 rfl rfl (fun z4 (ez4 : z4.toInt = ja h 60 9) (bz4 : 8 ≤ z4.toInt ∧ z4.toInt ≤ 1440) => ?_)
    refine jx_ic (t := 53) rfl rfl rfl (fun hc7 => ?_) (fun hc7 => ?_)
    · have g7 := jc2_ge_t hc7
      refine az_X_step (pc' := 54) (ls' := ls) (st' := [.int 0]) (h' := h) rfl rfl rfl ?_
      refine jx_retz rfl rfl rfl (by decide) ?_
      exact ⟨rfl, 0, rfl, Or.inr ⟨by decide, by have e : j = Y := (by omega); rw [e] at hd; exact hd⟩⟩
    · have g7 := jc2_ge_f hc7
      exfalso
      omega
  | succ k ih =>
    intro j U ls hl eU hj hd
    have k0 : (0 : Int32).toInt = 0 := by decide
    have k1 : (1 : Int32).toInt = 1 := by decide
    have k1440 : (1440 : Int32).toInt = 1440 := by decide
    refine jm_iload_n (x := U) rfl rfl (jM_at hl 0 rfl) ?_
    refine jm_aload_n (x := P.1 + 60) rfl rfl (jM_at hl 1 rfl) ?_
    refine jn_gf (i := 60) (k := 9) rfl rfl hH (by decide) (hH.2 60 _ rfl).1 rfl rfl (fun z4 (ez4 : z4.toInt = ja h 60 9) (bz4 : 8 ≤ z4.toInt ∧ z4.toInt ≤ 1440) => ?_)
    refine jx_ic (t := 53) rfl rfl rfl (fun hc7 => ?_) (fun hc7 => ?_)
    · have g7 := jc2_ge_t hc7
      refine az_X_step (pc' := 54) (ls' := ls) (st' := [.int 0]) (h' := h) rfl rfl rfl ?_
      refine jx_retz rfl rfl rfl (by decide) ?_
      exfalso
      omega
    · have g7 := jc2_ge_f hc7
      refine jm_aload_n (x := P.1 + 60) rfl rfl (jM_at hl 1 rfl) ?_
      refine jx_gf (i := 60) rfl rfl hH (by decide) (hH.2 60 _ rfl).1 rfl (jx_rf hH rfl rfl) ?_
      refine az_X_step (pc' := 17) (ls' := ls) (st' := [.int 1440, .ref (P.1 + 95)]) (h' := h) rfl rfl rfl ?_
      refine jm_iload_n (x := p) rfl rfl (jM_at hl 2 rfl) ?_
      refine az_X_step (pc' := 19) (ls' := ls) (st' := [.int 1, .int p, .int 1440, .ref (P.1 + 95)]) (h' := h) rfl rfl rfl ?_
      refine jn_add (a := p) (b := 1) rfl rfl (by omega) (by omega) (fun z19 ez19 => ?_)
      rw [show (1 : Int32).toInt = 1 by decide] at ez19
      refine jn_mul (a := 1440) (b := z19) rfl rfl (by rw [show (1440 : Int32).toInt = 1440 by decide]; omega) (by rw [show (1440 : Int32).toInt = 1440 by decide]; omega) (fun z20 ez20 => ?_)
      rw [show (1440 : Int32).toInt = 1440 by decide] at ez20
      refine jm_iload_n (x := U) rfl rfl (jM_at hl 0 rfl) ?_
      refine jn_add (a := z20) (b := U) rfl rfl (by omega) (by omega) (fun z22 ez22 => ?_)
      refine jn_balz (i := 95) (x := z22) rfl rfl hH (by decide) rfl (by omega) (by show _ < ((11520 : Nat) : Int); omega) (fun z23 ez23 bz23 => ?_)
      refine jx_if (t := 47) rfl rfl rfl (fun hc24 => ?_) (fun hc24 => ?_)
      · have g24 := jc1_eq_t hc24
        refine jn_iinc (x := U) rfl rfl (by decide) (jM_at hl 0 rfl) hl rfl (by decide) (by omega) (by omega) (fun z47 (ez47 : z47.toInt = U.toInt + 1) ls47 (hl47 : jM [(3, .int z47), (0, .ref (P.1 + 60)), (1, .int p), (2, .int T)] ls47) => ?_)
        refine az_X_step (pc' := 2) (ls' := ls47) (st' := []) (h' := h) rfl rfl rfl ?_
        have q23 : z23.toInt = jb (jcan m r Y n B a b (o) j) := by
          rw [ez23, show z22.toInt = 1440 * (o : Int) + j by omega]
          exact hc j (by omega)
        rw [q23] at g24
        unfold jb at g24
        refine ih (j + 1) z47 ls47 (jM_pick hl47 [0, 1, 2, 3] rfl) (by omega) (by omega) (fun ⟨x, x1, x2, x3⟩ => ?_)
        rcases Nat.lt_or_ge x j with q | q
        · exact hd ⟨x, q, x2, x3⟩
        · have ex : x = j := by omega
          subst ex
          rw [x2] at g24
          exact absurd g24 (by decide)
      · have g24 := jc1_eq_f hc24
        refine jm_aload_n (x := P.1 + 60) rfl rfl (jM_at hl 1 rfl) ?_
        refine jx_gf (i := 60) rfl rfl hH (by decide) (hH.2 60 _ rfl).1 rfl (jx_rf hH rfl rfl) ?_
        refine jm_iload_n (x := U) rfl rfl (jM_at hl 0 rfl) ?_
        refine jm_iload_n (x := T) rfl rfl (jM_at hl 3 rfl) ?_
        refine jn_sub (a := U) (b := T) rfl rfl (by omega) (by omega) (fun z33 ez33 => ?_)
        refine jm_aload_n (x := P.1 + 60) rfl rfl (jM_at hl 1 rfl) ?_
        refine jn_gf (i := 60) (k := 9) rfl rfl hH (by decide) (hH.2 60 _ rfl).1 rfl rfl (fun z35 (ez35 : z35.toInt = ja h 60 9) (bz35 : 8 ≤ z35.toInt ∧ z35.toInt ≤ 1440) => ?_)
        refine az_X_call (m' := 208) (as := [.int z33, .int z35]) (rest := [.ref (P.1 + 93)]) rfl rfl rfl rfl rfl rfl ?_
        refine (rmod_ok z33 z35 (by omega) (by omega) (by omega)).mono ?_
        rintro rv38 h38 ⟨q38, z38, rfl, ez38⟩
        subst h38
        have bz38 : 0 ≤ z38.toInt ∧ z38.toInt < Y := by
          rw [ez38, ez35, c6]
          exact ⟨Int.emod_nonneg _ (by omega), Int.emod_lt_of_pos _ (by omega)⟩
        show az_X P _ 279 41 ls [.int z38, .ref (P.1 + 93)] _ _
        refine jn_balz (i := 93) (x := z38) rfl rfl hH (by decide) rfl (by omega) (by show _ < ((1440 : Nat) : Int); omega) (fun z41 ez41 bz41 => ?_)
        refine jx_if (t := 47) rfl rfl rfl (fun hc42 => ?_) (fun hc42 => ?_)
        · have g42 := jc1_eq_t hc42
          refine jn_iinc (x := U) rfl rfl (by decide) (jM_at hl 0 rfl) hl rfl (by decide) (by omega) (by omega) (fun z47 (ez47 : z47.toInt = U.toInt + 1) ls47 (hl47 : jM [(3, .int z47), (0, .ref (P.1 + 60)), (1, .int p), (2, .int T)] ls47) => ?_)
          refine az_X_step (pc' := 2) (ls' := ls47) (st' := []) (h' := h) rfl rfl rfl ?_
          have q23 : z23.toInt = jb (jcan m r Y n B a b (o) j) := by
            rw [ez23, show z22.toInt = 1440 * (o : Int) + j by omega]
            exact hc j (by omega)
          rw [q23] at g24
          unfold jb at g24
          have q41 : z41.toInt = jb ((jst2 a b Y) t j) := by
            rw [ez41]
            have q := r93 z38.toInt.toNat (by omega)
            rw [Int.toNat_of_nonneg (by omega)] at q
            rw [q, ez38, ez35, c6, show z33.toInt = (j : Int) - t by omega, jst2_0 (by omega)]
          rw [q41] at g42
          unfold jb at g42
          refine ih (j + 1) z47 ls47 (jM_pick hl47 [0, 1, 2, 3] rfl) (by omega) (by omega) (fun ⟨x, x1, x2, x3⟩ => ?_)
          rcases Nat.lt_or_ge x j with q | q
          · exact hd ⟨x, q, x2, x3⟩
          · have ex : x = j := by omega
            subst ex
            rw [if_pos x3] at g42
            exact absurd g42 (by decide)
        · have g42 := jc1_eq_f hc42
          refine az_X_step (pc' := 46) (ls' := ls) (st' := [.int 1]) (h' := h) rfl rfl rfl ?_
          refine jx_retz rfl rfl rfl (by decide) ?_
          have q23 : z23.toInt = jb (jcan m r Y n B a b (o) j) := by
            rw [ez23, show z22.toInt = 1440 * (o : Int) + j by omega]
            exact hc j (by omega)
          rw [q23] at g24
          unfold jb at g24
          have q41 : z41.toInt = jb ((jst2 a b Y) t j) := by
            rw [ez41]
            have q := r93 z38.toInt.toNat (by omega)
            rw [Int.toNat_of_nonneg (by omega)] at q
            rw [q, ez38, ez35, c6, show z33.toInt = (j : Int) - t by omega, jst2_0 (by omega)]
          rw [q41] at g42
          unfold jb at g42
          have yc : (jcan m r Y n B a b (o) j) = true := by
            by_cases e : (jcan m r Y n B a b (o) j) = true
            · exact e
            · rw [if_neg e] at g24
              exact absurd rfl g24
          refine ⟨rfl, 1, rfl, Or.inl ⟨by decide, j, by omega, yc, ?_⟩⟩
          by_cases e : (jst2 a b Y) t j = true
          · exact e
          · rw [if_neg e] at g42
            exact absurd rfl g42
theorem gb_ok {P : si_P} {d : Nat} {h : si_H} (hH : az_HI P az_tb h) {m r : Int} {Y n : Nat} {B : Nat → Int} {a b : Int} (rx : jRX h m r Y n B a b) {o t : Nat} (ho : o < n) (p T : Int32) (ep : p.toInt = (o : Int) - 1) (eT : T.toInt = t) (ht : t < Y) (hc : ∀ x : Nat, x < Y → ja h 95 (1440 * (o : Int) + x) = jb (jcan m r Y n B a b (o) x)) (r93 : ∀ x : Nat, x < Y → ja h 93 x = jb ((jst2 a b Y) 0 x)) : az_X P (d + 2) 279 0 (lv_args 0 [.ref (P.1 + 60), .int p, .int T]) [] h (fun rv h' => h' = h ∧ ∃ z : Int32, rv = some (.int z) ∧ ((z.toInt = 1 ∧ ∃ x : Nat, x < Y ∧ (jcan m r Y n B a b (o) x) = true ∧ (jst2 a b Y) t x = true) ∨ (z.toInt = 0 ∧ ¬ (∃ x : Nat, x < Y ∧ (jcan m r Y n B a b (o) x) = true ∧ (jst2 a b Y) t x = true)))) := by
  have hl : jM [(0, .ref (P.1 + 60)), (1, .int p), (2, .int T)] (lv_args 0 [.ref (P.1 + 60), .int p, .int T]) := jM_args [0, 1, 2] rfl (by decide)
  generalize lv_args 0 [.ref (P.1 + 60), .int p, .int T] = ls at hl
  have k0 : (0 : Int32).toInt = 0 := by decide
  refine az_X_step (pc' := 1) (ls' := ls) (st' := [.int 0]) (h' := h) rfl rfl rfl ?_
  refine jm_istore_n (l' := [(3, .int 0), (0, .ref (P.1 + 60)), (1, .int p), (2, .int T)]) rfl rfl (by decide) hl rfl rfl (fun ls1 hl1 => ?_)
  exact gb_l hH rx ho p T ep eT ht hc r93 Y 0 0 ls1 (jM_pick hl1 [0, 1, 2, 3] rfl) (by decide) (by omega) (fun ⟨x, x1, _⟩ => absurd x1 (by omega))
theorem so_l {P : si_P} {d : Nat} {h : si_H} (hH : az_HI P az_tb h) {m r : Int} {Y n : Nat} {B : Nat → Int} {a b : Int} (rx : jRX h m r Y n B a b) {i : Nat} (hi : i < n) (p : Int32) (ep : p.toInt = i) (hc : ∀ x : Nat, x < Y → ja h 95 (1440 * (i : Int) + x) = jb (jcan m r Y n B a b i x)) : ∀ (k j : Nat) (T Z : Int32) (ls : si_L), jM [(3, .int T), (2, .int Z), (0, .ref (P.1 + 60)), (1, .int p)] ls → T.toInt = j → j + k = Y → Z.toInt = jsw (jcan m r Y n B a b i) (fun t => (t : Int)) j → az_X P d 280 5 ls [] h (fun rv h' => h' = h ∧ jV rv (jsw (jcan m r Y n B a b i) (fun t => (t : Int)) Y)) := by
  have rx0 := rx
  obtain ⟨c1, c2, c3, c4, c5, c6, c7, c8, c9, c10, c11⟩ := rx
  intro k
  induction k with
  | zero =>
    intro j T Z ls hl eT hj eZ
    refine jm_iload_n (x := T) rfl rfl (jM_at hl 0 rfl) ?_
    refine jm_aload_n (x := P.1 + 60) rfl rfl (jM_at hl 2 rfl) ?_
    refine jn_gf (i := 60) (k := 9) rfl rfl hH (by decide) (hH.2 60 _ rfl).1 rfl rfl (fun z7 (ez7 : z7.toInt = ja h 60 9) (bz7 : 8 ≤ z7.toInt ∧ z7.toInt ≤ 1440) => ?_)
    refine jx_ic (t := 48) rfl rfl rfl (fun hc10 => ?_) (fun hc10 => ?_)
    · have g10 := jc2_ge_t hc10
      refine jm_iload_n (x := Z) rfl rfl (jM_at hl 1 rfl) ?_
      refine jx_ret rfl rfl rfl ?_
      exact ⟨rfl, Z, rfl, by rw [eZ, show Y = j by omega]⟩
    · have g10 := jc2_ge_f hc10
      exfalso
      omega
  | succ k ih =>
    intro j T Z ls hl eT hj eZ
    have km4 : ((-4) : Int32).toInt = (-4) := by decide
    have km2 : ((-2) : Int32).toInt = (-2) := by decide
    have k0 : (0 : Int32).toInt = 0 := by decide
    have k1440 : (1440 : Int32).toInt = 1440 := by decide
    refine jm_iload_n (x := T) rfl rfl (jM_at hl 0 rfl) ?_
    refine jm_aload_n (x := P.1 + 60) rfl rfl (jM_at hl 2 rfl) ?_
    refine jn_gf (i := 60) (k := 9) rfl rfl hH (by decide) (hH.2 60 _ rfl).1 rfl rfl (fun z7 (ez7 : z7.toInt = ja h 60 9) (bz7 : 8 ≤ z7.toInt ∧ z7.toInt ≤ 1440) => ?_)
    refine jx_ic (t := 48) rfl rfl rfl (fun hc10 => ?_) (fun hc10 => ?_)
    · have g10 := jc2_ge_t hc10
      refine jm_iload_n (x := Z) rfl rfl (jM_at hl 1 rfl) ?_
      refine jx_ret rfl rfl rfl ?_
      exfalso
      omega
    · have g10 := jc2_ge_f hc10
      refine jm_aload_n (x := P.1 + 60) rfl rfl (jM_at hl 2 rfl) ?_
      refine jx_gf (i := 60) rfl rfl hH (by decide) (hH.2 60 _ rfl).1 rfl (jx_rf hH rfl rfl) ?_
      refine az_X_step (pc' := 20) (ls' := ls) (st' := [.int 1440, .ref (P.1 + 95)]) (h' := h) rfl rfl rfl ?_
      refine jm_iload_n (x := p) rfl rfl (jM_at hl 3 rfl) ?_
      refine jn_mul (a := 1440) (b := p) rfl rfl (by rw [show (1440 : Int32).toInt = 1440 by decide]; omega) (by rw [show (1440 : Int32).toInt = 1440 by decide]; omega) (fun z21 ez21 => ?_)
      rw [show (1440 : Int32).toInt = 1440 by decide] at ez21
      refine jm_iload_n (x := T) rfl rfl (jM_at hl 0 rfl) ?_
      refine jn_add (a := z21) (b := T) rfl rfl (by omega) (by omega) (fun z23 ez23 => ?_)
      refine jn_balz (i := 95) (x := z23) rfl rfl hH (by decide) rfl (by omega) (by show _ < ((11520 : Nat) : Int); omega) (fun z24 ez24 bz24 => ?_)
      refine jx_if (t := 31) rfl rfl rfl (fun hc25 => ?_) (fun hc25 => ?_)
      · have g25 := jc1_ne_t hc25
        refine jm_iload_n (x := Z) rfl rfl (jM_at hl 1 rfl) ?_
        refine az_X_step (pc' := 34) (ls' := ls) (st' := [.int (-4), .int Z]) (h' := h) rfl rfl rfl ?_
        refine jx_ic (t := 40) rfl rfl rfl (fun hc34 => ?_) (fun hc34 => ?_)
        · have g34 := jc2_eq_t hc34
          refine jm_iload_n (x := T) rfl rfl (jM_at hl 0 rfl) ?_
          refine jm_istore_n (l' := [(2, .int T), (3, .int T), (0, .ref (P.1 + 60)), (1, .int p)]) rfl rfl (by decide) hl rfl rfl (fun ls41 hl41 => ?_)
          refine jn_iinc (x := T) rfl rfl (by decide) (jM_at hl41 1 rfl) hl41 rfl (by decide) (by omega) (by omega) (fun z42 (ez42 : z42.toInt = T.toInt + 1) ls42 (hl42 : jM [(3, .int z42), (2, .int T), (0, .ref (P.1 + 60)), (1, .int p)] ls42) => ?_)
          refine az_X_step (pc' := 5) (ls' := ls42) (st' := []) (h' := h) rfl rfl rfl ?_
          have q24 : z24.toInt = jb (jcan m r Y n B a b i j) := by
            rw [ez24, show z23.toInt = 1440 * (i : Int) + j by omega]
            exact hc j (by omega)
          rw [q24] at g25
          unfold jb at g25
          have yc : jcan m r Y n B a b i j = true := by
            by_cases e : jcan m r Y n B a b i j = true
            · exact e
            · rw [if_neg e] at g25
              exact absurd rfl g25
          exact ih (j + 1) z42 T ls42 (jM_pick hl42 [0, 1, 2, 3] rfl) (by omega) (by omega) (by rw [jsv_t yc, if_pos (by rw [← eZ]; omega)]; exact eT)
        · have g34 := jc2_eq_f hc34
          refine az_X_step (pc' := 39) (ls' := ls) (st' := [.int (-2)]) (h' := h) rfl rfl rfl ?_
          refine jx_ret rfl rfl rfl ?_
          have q24 : z24.toInt = jb (jcan m r Y n B a b i j) := by
            rw [ez24, show z23.toInt = 1440 * (i : Int) + j by omega]
            exact hc j (by omega)
          rw [q24] at g25
          unfold jb at g25
          have yc : jcan m r Y n B a b i j = true := by
            by_cases e : jcan m r Y n B a b i j = true
            · exact e
            · rw [if_neg e] at g25
              exact absurd rfl g25
          have m2 : jsw (jcan m r Y n B a b i) (fun t => (t : Int)) (j + 1) = -2 := by
            rw [jsv_t yc, if_neg (by rw [← eZ]; omega)]
          have m3 := jsv_m2 m2 (Y - (j + 1))
          rw [show j + 1 + (Y - (j + 1)) = Y by omega] at m3
          exact ⟨rfl, (-2), rfl, by rw [m3]; decide⟩
      · have g25 := jc1_ne_f hc25
        refine az_X_step (pc' := 42) (ls' := ls) (st' := []) (h' := h) rfl rfl rfl ?_
        refine jn_iinc (x := T) rfl rfl (by decide) (jM_at hl 0 rfl) hl rfl (by decide) (by omega) (by omega) (fun z42 (ez42 : z42.toInt = T.toInt + 1) ls42 (hl42 : jM [(3, .int z42), (2, .int Z), (0, .ref (P.1 + 60)), (1, .int p)] ls42) => ?_)
        refine az_X_step (pc' := 5) (ls' := ls42) (st' := []) (h' := h) rfl rfl rfl ?_
        have q24 : z24.toInt = jb (jcan m r Y n B a b i j) := by
          rw [ez24, show z23.toInt = 1440 * (i : Int) + j by omega]
          exact hc j (by omega)
        rw [q24] at g25
        unfold jb at g25
        have np : ¬ jcan m r Y n B a b i j = true := fun e => by
          rw [e] at g25
          exact absurd g25 (by decide)
        exact ih (j + 1) z42 Z ls42 (jM_pick hl42 [0, 1, 2, 3] rfl) (by omega) (by omega) (by rw [jsv_f np]; exact eZ)
theorem so_ok {P : si_P} {d : Nat} {h : si_H} (hH : az_HI P az_tb h) {m r : Int} {Y n : Nat} {B : Nat → Int} {a b : Int} (rx : jRX h m r Y n B a b) {i : Nat} (hi : i < n) (p : Int32) (ep : p.toInt = i) (hc : ∀ x : Nat, x < Y → ja h 95 (1440 * (i : Int) + x) = jb (jcan m r Y n B a b i x)) : az_X P d 280 0 (lv_args 0 [.ref (P.1 + 60), .int p]) [] h (fun rv h' => h' = h ∧ jV rv (jsw (jcan m r Y n B a b i) (fun t => (t : Int)) Y)) := by
  have hl : jM [(0, .ref (P.1 + 60)), (1, .int p)] (lv_args 0 [.ref (P.1 + 60), .int p]) := jM_args [0, 1] rfl (by decide)
  generalize lv_args 0 [.ref (P.1 + 60), .int p] = ls at hl
  have km4 : ((-4) : Int32).toInt = (-4) := by decide
  have k0 : (0 : Int32).toInt = 0 := by decide
  refine az_X_step (pc' := 2) (ls' := ls) (st' := [.int (-4)]) (h' := h) rfl rfl rfl ?_
  refine jm_istore_n (l' := [(2, .int (-4)), (0, .ref (P.1 + 60)), (1, .int p)]) rfl rfl (by decide) hl rfl rfl (fun ls2 hl2 => ?_)
  refine az_X_step (pc' := 4) (ls' := ls2) (st' := [.int 0]) (h' := h) rfl rfl rfl ?_
  refine jm_istore_n (l' := [(3, .int 0), (2, .int (-4)), (0, .ref (P.1 + 60)), (1, .int p)]) rfl rfl (by decide) hl2 rfl rfl (fun ls4 hl4 => ?_)
  exact so_l hH rx hi p ep hc Y 0 0 (-4) ls4 (jM_pick hl4 [0, 1, 2, 3] rfl) (by decide) (by omega) (by show ((-4) : Int32).toInt = -4; decide)
theorem lt_t {P : si_P} (hxa : P.2.1 < P.1) {d : Nat} {h0 : si_H} {m r : Int} {Y n : Nat} {B : Nat → Int} {a b : Int} (rx : jRX h0 m r Y n B a b) {i : Nat} (hi : i < n) (p N : Int32) (ep : p.toInt = i) (eN : N.toInt = n) (hnb : ∀ o : Nat, i = o + 1 → (∀ x : Nat, x < Y → ja h0 94 (1440 * (o : Int) + x) = jb (decide (0 < jff (jpA m r n B) (jst2 a b Y) Y (o) (x))))) (r93 : (∀ x : Nat, x < Y → ja h0 93 x = jb ((jst2 a b Y) 0 x))) {Q : Option Value → si_H → Prop} (cont : ∀ (h : si_H) (ls : si_L), jM [(2, .int p), (0, .ref (P.1 + 60)), (1, .int N)] ls → az_HI P az_tb h → az_same_out [(94, 1000000)] h0 h → (∀ x : Nat, x < Y → ja h 94 (1440 * (i : Int) + x) = jb (decide (0 < jff (jpA m r n B) (jst2 a b Y) Y (i) (x)))) → (∀ x : Int, 0 ≤ x → (x < 1440 * (i : Int) ∨ 1440 * (i : Int) + 1440 ≤ x) → ja h 94 x = ja h0 94 x) → az_X P (d + 3) 277 98 ls [] h Q) : ∀ (k j : Nat) (T : Int32) (h : si_H) (ls : si_L), jM [(3, .int T), (2, .int p), (0, .ref (P.1 + 60)), (1, .int N)] ls → az_HI P az_tb h → az_same_out [(94, 1000000)] h0 h → T.toInt = j → j + k = Y → (∀ x : Nat, x < j → ja h 94 (1440 * (i : Int) + x) = jb (decide (0 < jff (jpA m r n B) (jst2 a b Y) Y (i) (x)))) → (∀ x : Int, 0 ≤ x → (x < 1440 * (i : Int) ∨ 1440 * (i : Int) + 1440 ≤ x) → ja h 94 x = ja h0 94 x) → az_X P (d + 3) 277 40 ls [] h (Q) := by
  have rx0 := rx
  obtain ⟨c1, c2, c3, c4, c5, c6, c7, c8, c9, c10, c11⟩ := rx
  intro k
  induction k with
  | zero =>
    intro j T h ls hl hH hs eT hj hd ho
    have rxh : jRX h m r Y n B a b := jRX_so hs (by decide) (by decide) (by decide) rx0
    have r9 : ja h 60 9 = Y := rxh.2.2.2.2.2.1
    have r68 : j < Y → ja h 68 j = jlk m r j := fun q => rxh.2.2.2.2.2.2.2.2.1 j q
    have s93 : ∀ x : Nat, x < Y → ja h 93 x = jb ((jst2 a b Y) 0 x) := fun x hx => by rw [jso_row hs (by decide)]; exact r93 x hx
    refine jm_iload_n (x := T) rfl rfl (jM_at hl 0 rfl) ?_
    refine jm_aload_n (x := P.1 + 60) rfl rfl (jM_at hl 2 rfl) ?_
    refine jn_gf (i := 60) (k := 9) rfl rfl hH (by decide) (hH.2 60 _ rfl).1 rfl rfl (fun z42 (ez42 : z42.toInt = ja h 60 9) (bz42 : 8 ≤ z42.toInt ∧ z42.toInt ≤ 1440) => ?_)
    refine jx_ic (t := 98) rfl rfl rfl (fun hc45 => ?_) (fun hc45 => ?_)
    · have g45 := jc2_ge_t hc45
      exact cont h ls (jM_pick hl [1, 2, 3] rfl) hH hs (fun x hx => hd x (by omega)) ho
    · have g45 := jc2_ge_f hc45
      exfalso
      omega
  | succ k ih =>
    intro j T h ls hl hH hs eT hj hd ho
    have rxh : jRX h m r Y n B a b := jRX_so hs (by decide) (by decide) (by decide) rx0
    have r9 : ja h 60 9 = Y := rxh.2.2.2.2.2.1
    have r68 : j < Y → ja h 68 j = jlk m r j := fun q => rxh.2.2.2.2.2.2.2.2.1 j q
    have s93 : ∀ x : Nat, x < Y → ja h 93 x = jb ((jst2 a b Y) 0 x) := fun x hx => by rw [jso_row hs (by decide)]; exact r93 x hx
    have k0 : (0 : Int32).toInt = 0 := by decide
    have k1 : (1 : Int32).toInt = 1 := by decide
    have k1440 : (1440 : Int32).toInt = 1440 := by decide
    refine jm_iload_n (x := T) rfl rfl (jM_at hl 0 rfl) ?_
    refine jm_aload_n (x := P.1 + 60) rfl rfl (jM_at hl 2 rfl) ?_
    refine jn_gf (i := 60) (k := 9) rfl rfl hH (by decide) (hH.2 60 _ rfl).1 rfl rfl (fun z42 (ez42 : z42.toInt = ja h 60 9) (bz42 : 8 ≤ z42.toInt ∧ z42.toInt ≤ 1440) => ?_)
    refine jx_ic (t := 98) rfl rfl rfl (fun hc45 => ?_) (fun hc45 => ?_)
    · have g45 := jc2_ge_t hc45
      exfalso
      omega
    · have g45 := jc2_ge_f hc45
      refine jm_aload_n (x := P.1 + 60) rfl rfl (jM_at hl 2 rfl) ?_
      refine jx_gf (i := 60) rfl rfl hH (by decide) (hH.2 60 _ rfl).1 rfl (jx_rf hH rfl rfl) ?_
      refine az_X_step (pc' := 55) (ls' := ls) (st' := [.int 1440, .ref (P.1 + 94)]) (h' := h) rfl rfl rfl ?_
      refine jm_iload_n (x := p) rfl rfl (jM_at hl 1 rfl) ?_
      refine jn_mul (a := 1440) (b := p) rfl rfl (by rw [show (1440 : Int32).toInt = 1440 by decide]; omega) (by rw [show (1440 : Int32).toInt = 1440 by decide]; omega) (fun z56 ez56 => ?_)
      rw [show (1440 : Int32).toInt = 1440 by decide] at ez56
      refine jm_iload_n (x := T) rfl rfl (jM_at hl 0 rfl) ?_
      refine jn_add (a := z56) (b := T) rfl rfl (by omega) (by omega) (fun z58 ez58 => ?_)
      refine jm_aload_n (x := P.1 + 60) rfl rfl (jM_at hl 2 rfl) ?_
      refine jx_gf (i := 60) rfl rfl hH (by decide) (hH.2 60 _ rfl).1 rfl (jx_rf hH rfl rfl) ?_
      refine jm_iload_n (x := T) rfl rfl (jM_at hl 0 rfl) ?_
      refine jx_ial (i := 68) (x := T) rfl rfl hxa hH (by decide) rfl (by omega) (by show _ < ((1440 : Nat) : Int); omega) (fun z64 ez64 bz64 => ?_)
      refine jm_aload_n (x := P.1 + 60) rfl rfl (jM_at hl 2 rfl) ?_
      refine jm_iload_n (x := p) rfl rfl (jM_at hl 1 rfl) ?_
      refine az_X_call (m' := 272) (as := [.ref (P.1 + 60), .int p]) (rest := [.int z64, .int z58, .ref (P.1 + 94)]) rfl rfl rfl rfl rfl ?_ ?_
      · unfold si_call
        dsimp only
        rw [if_pos ⟨rfl, rfl⟩]
        show (match si_ix P h (P.1 + 60) with | some i => _ | none => none) = _
        rw [jix hH (by decide)]
        dsimp only
        rw [(hH.2 60 _ rfl).1]
        rfl
      refine (li_ok hH rxh p (u := i) ep hi).mono ?_
      rintro rv67 h67 ⟨q67, z67, rfl, ez67⟩
      subst h67
      show az_X P _ 277 70 ls [.int z67, .int z64, .int z58, .ref (P.1 + 94)] _ _
      refine jx_ic (t := 90) rfl rfl rfl (fun hc70 => ?_) (fun hc70 => ?_)
      · have g70 := jc2_ne_t hc70
        refine az_X_step (pc' := 91) (ls' := ls) (st' := [.int 0, .int z58, .ref (P.1 + 94)]) (h' := h) rfl rfl rfl ?_
        refine jn_basz (i := 94) (x := z58) (v := 0) rfl rfl hH (by decide) rfl (by omega) (by show _ < ((11520 : Nat) : Int); omega) (by omega) (by show 0 ≤ _; omega) (by show _ ≤ 1; omega) (fun h91 hH91 hs91 t91 u91 => ?_)
        refine jn_iinc (x := T) rfl rfl (by decide) (jM_at hl 0 rfl) hl rfl (by decide) (by omega) (by omega) (fun z92 (ez92 : z92.toInt = T.toInt + 1) ls92 (hl92 : jM [(3, .int z92), (2, .int p), (0, .ref (P.1 + 60)), (1, .int N)] ls92) => ?_)
        refine az_X_step (pc' := 40) (ls' := ls92) (st' := []) (h' := h91) rfl rfl rfl ?_
        have lk : z64.toInt = jlk m r j := by rw [ez64, eT]; exact r68 (by omega)
        rw [lk, ez67] at g70
        have vv : (decide (0 < jff (jpA m r n B) (jst2 a b Y) Y (i) (j))) = false := decide_eq_false (by
          rw [jff_A (fun e => g70 (of_decide_eq_true e).2)]
          omega)
        refine ih (j + 1) z92 h91 ls92 (jM_pick hl92 [0, 1, 2, 3] rfl) hH91 (hs.tr hs91) (by omega) (by omega) (fun x hx => ?_) (fun x x0 x1 => ?_)
        · by_cases e : x = j
          · subst e
            rw [show 1440 * (i : Int) + (x : Int) = z58.toInt by omega, t91, vv]
            decide
          · rw [u91 _ (by omega) (by omega)]
            exact hd x (by omega)
        · rw [u91 x x0 (by omega)]
          exact ho x x0 x1
      · have g70 := jc2_ne_f hc70
        refine jm_iload_n (x := p) rfl rfl (jM_at hl 1 rfl) ?_
        refine jx_if (t := 86) rfl rfl rfl (fun hc74 => ?_) (fun hc74 => ?_)
        · have g74 := jc1_eq_t hc74
          refine az_X_step (pc' := 87) (ls' := ls) (st' := [.int 1, .int z58, .ref (P.1 + 94)]) (h' := h) rfl rfl rfl ?_
          refine az_X_step (pc' := 91) (ls' := ls) (st' := [.int 1, .int z58, .ref (P.1 + 94)]) (h' := h) rfl rfl rfl ?_
          refine jn_basz (i := 94) (x := z58) (v := 1) rfl rfl hH (by decide) rfl (by omega) (by show _ < ((11520 : Nat) : Int); omega) (by omega) (by show 0 ≤ _; omega) (by show _ ≤ 1; omega) (fun h91 hH91 hs91 t91 u91 => ?_)
          refine jn_iinc (x := T) rfl rfl (by decide) (jM_at hl 0 rfl) hl rfl (by decide) (by omega) (by omega) (fun z92 (ez92 : z92.toInt = T.toInt + 1) ls92 (hl92 : jM [(3, .int z92), (2, .int p), (0, .ref (P.1 + 60)), (1, .int N)] ls92) => ?_)
          refine az_X_step (pc' := 40) (ls' := ls92) (st' := []) (h' := h91) rfl rfl rfl ?_
          have lk : z64.toInt = jlk m r j := by rw [ez64, eT]; exact r68 (by omega)
          rw [lk, ez67] at g70
          have tA : jpA m r n B i j = true := decide_eq_true ⟨hi, g70⟩
          have vv : (decide (0 < jff (jpA m r n B) (jst2 a b Y) Y (i) (j))) = true := decide_eq_true (by
            have e0 : i = 0 := by omega
            subst e0
            show 0 < (if jpA m r n B 0 j = true then (1 : Int) else 0)
            rw [if_pos tA]
            omega)
          refine ih (j + 1) z92 h91 ls92 (jM_pick hl92 [0, 1, 2, 3] rfl) hH91 (hs.tr hs91) (by omega) (by omega) (fun x hx => ?_) (fun x x0 x1 => ?_)
          · by_cases e : x = j
            · subst e
              rw [show 1440 * (i : Int) + (x : Int) = z58.toInt by omega, t91, vv]
              decide
            · rw [u91 _ (by omega) (by omega)]
              exact hd x (by omega)
          · rw [u91 x x0 (by omega)]
            exact ho x x0 x1
        · have g74 := jc1_eq_f hc74
          refine jm_aload_n (x := P.1 + 60) rfl rfl (jM_at hl 2 rfl) ?_
          refine jm_iload_n (x := p) rfl rfl (jM_at hl 1 rfl) ?_
          refine jm_iload_n (x := T) rfl rfl (jM_at hl 0 rfl) ?_
          refine az_X_call (m' := 278) (as := [.ref (P.1 + 60), .int p, .int T]) (rest := [.int z58, .ref (P.1 + 94)]) rfl rfl rfl rfl rfl ?_ ?_
          · unfold si_call
            dsimp only
            rw [if_pos ⟨rfl, rfl⟩]
            show (match si_ix P h (P.1 + 60) with | some i => _ | none => none) = _
            rw [jix hH (by decide)]
            dsimp only
            rw [(hH.2 60 _ rfl).1]
            rfl
          refine (cb_ok (d := d) hH rxh (o := i - 1) (t := j) (by omega) p T (by omega) eT (by omega) (fun x hx => by
            rw [ho _ (by omega) (by omega)]
            exact hnb (i - 1) (by omega) x hx) s93).mono ?_
          rintro rv80 h80 ⟨q80, z80, rfl, ez80⟩
          subst h80
          have p0 : 1 ≤ i := by omega
          show az_X P _ 277 83 ls [.int z80, .int z58, .ref (P.1 + 94)] _ _
          refine jx_if (t := 90) rfl rfl rfl (fun hc83 => ?_) (fun hc83 => ?_)
          · have g83 := jc1_eq_t hc83
            refine az_X_step (pc' := 91) (ls' := ls) (st' := [.int 0, .int z58, .ref (P.1 + 94)]) (h' := h) rfl rfl rfl ?_
            refine jn_basz (i := 94) (x := z58) (v := 0) rfl rfl hH (by decide) rfl (by omega) (by show _ < ((11520 : Nat) : Int); omega) (by omega) (by show 0 ≤ _; omega) (by show _ ≤ 1; omega) (fun h91 hH91 hs91 t91 u91 => ?_)
            refine jn_iinc (x := T) rfl rfl (by decide) (jM_at hl 0 rfl) hl rfl (by decide) (by omega) (by omega) (fun z92 (ez92 : z92.toInt = T.toInt + 1) ls92 (hl92 : jM [(3, .int z92), (2, .int p), (0, .ref (P.1 + 60)), (1, .int N)] ls92) => ?_)
            refine az_X_step (pc' := 40) (ls' := ls92) (st' := []) (h' := h91) rfl rfl rfl ?_
            have lk : z64.toInt = jlk m r j := by rw [ez64, eT]; exact r68 (by omega)
            rw [lk, ez67] at g70
            have tA : jpA m r n B i j = true := decide_eq_true ⟨hi, g70⟩
            obtain ⟨o, eo⟩ : ∃ o, i = o + 1 := ⟨i - 1, by omega⟩
            subst eo
            have sp := jsu_pos (g := fun x => if (jst2 a b Y) x j = true then jff (jpA m r n B) (jst2 a b Y) Y o x else 0) (n := Y) (fun x _ => by
              have := jff_nn (jpA m r n B) (jst2 a b Y) Y o x
              show 0 ≤ (if (jst2 a b Y) x j = true then jff (jpA m r n B) (jst2 a b Y) Y o x else 0)
              split <;> omega)
            have ff : jff (jpA m r n B) (jst2 a b Y) Y (o + 1) j = jsu (fun x => if (jst2 a b Y) x j = true then jff (jpA m r n B) (jst2 a b Y) Y o x else 0) Y := if_pos tA
            have vv : (decide (0 < jff (jpA m r n B) (jst2 a b Y) Y (o + 1) (j))) = false := decide_eq_false (fun q => by
              rw [ff] at q
              obtain ⟨x, x1, x2⟩ := sp.mp q
              have x3 : 0 < (if (jst2 a b Y) x j = true then jff (jpA m r n B) (jst2 a b Y) Y o x else 0) := x2
              by_cases e : (jst2 a b Y) x j = true
              · rw [if_pos e] at x3
                rcases ez80 with ⟨u, -⟩ | ⟨-, u⟩
                · omega
                · exact u ⟨x, x1, decide_eq_true x3, e⟩
              · rw [if_neg e] at x3
                omega)
            refine ih (j + 1) z92 h91 ls92 (jM_pick hl92 [0, 1, 2, 3] rfl) hH91 (hs.tr hs91) (by omega) (by omega) (fun x hx => ?_) (fun x x0 x1 => ?_)
            · by_cases e : x = j
              · subst e
                rw [show 1440 * ((o + 1 : Nat) : Int) + (x : Int) = z58.toInt by omega, t91, vv]
                decide
              · rw [u91 _ (by omega) (by omega)]
                exact hd x (by omega)
            · rw [u91 x x0 (by omega)]
              exact ho x x0 x1
          · have g83 := jc1_eq_f hc83
            refine az_X_step (pc' := 87) (ls' := ls) (st' := [.int 1, .int z58, .ref (P.1 + 94)]) (h' := h) rfl rfl rfl ?_
            refine az_X_step (pc' := 91) (ls' := ls) (st' := [.int 1, .int z58, .ref (P.1 + 94)]) (h' := h) rfl rfl rfl ?_
            refine jn_basz (i := 94) (x := z58) (v := 1) rfl rfl hH (by decide) rfl (by omega) (by show _ < ((11520 : Nat) : Int); omega) (by omega) (by show 0 ≤ _; omega) (by show _ ≤ 1; omega) (fun h91 hH91 hs91 t91 u91 => ?_)
            refine jn_iinc (x := T) rfl rfl (by decide) (jM_at hl 0 rfl) hl rfl (by decide) (by omega) (by omega) (fun z92 (ez92 : z92.toInt = T.toInt + 1) ls92 (hl92 : jM [(3, .int z92), (2, .int p), (0, .ref (P.1 + 60)), (1, .int N)] ls92) => ?_)
            refine az_X_step (pc' := 40) (ls' := ls92) (st' := []) (h' := h91) rfl rfl rfl ?_
            have lk : z64.toInt = jlk m r j := by rw [ez64, eT]; exact r68 (by omega)
            rw [lk, ez67] at g70
            have tA : jpA m r n B i j = true := decide_eq_true ⟨hi, g70⟩
            obtain ⟨o, eo⟩ : ∃ o, i = o + 1 := ⟨i - 1, by omega⟩
            subst eo
            have sp := jsu_pos (g := fun x => if (jst2 a b Y) x j = true then jff (jpA m r n B) (jst2 a b Y) Y o x else 0) (n := Y) (fun x _ => by
              have := jff_nn (jpA m r n B) (jst2 a b Y) Y o x
              show 0 ≤ (if (jst2 a b Y) x j = true then jff (jpA m r n B) (jst2 a b Y) Y o x else 0)
              split <;> omega)
            have ff : jff (jpA m r n B) (jst2 a b Y) Y (o + 1) j = jsu (fun x => if (jst2 a b Y) x j = true then jff (jpA m r n B) (jst2 a b Y) Y o x else 0) Y := if_pos tA
            have vv : (decide (0 < jff (jpA m r n B) (jst2 a b Y) Y (o + 1) (j))) = true := decide_eq_true (by
              rw [ff]
              rcases ez80 with ⟨-, x, x1, x2, x3⟩ | ⟨u, -⟩
              · exact sp.mpr ⟨x, x1, by show 0 < (if (jst2 a b Y) x j = true then jff (jpA m r n B) (jst2 a b Y) Y o x else 0); rw [if_pos x3]; exact of_decide_eq_true x2⟩
              · exact absurd u g83)
            refine ih (j + 1) z92 h91 ls92 (jM_pick hl92 [0, 1, 2, 3] rfl) hH91 (hs.tr hs91) (by omega) (by omega) (fun x hx => ?_) (fun x x0 x1 => ?_)
            · by_cases e : x = j
              · subst e
                rw [show 1440 * ((o + 1 : Nat) : Int) + (x : Int) = z58.toInt by omega, t91, vv]
                decide
              · rw [u91 _ (by omega) (by omega)]
                exact hd x (by omega)
            · rw [u91 x x0 (by omega)]
              exact ho x x0 x1
theorem lf_t {P : si_P} (hxa : P.2.1 < P.1) {d : Nat} {h0 : si_H} {m r : Int} {Y n : Nat} {B : Nat → Int} {a b : Int} (rx : jRX h0 m r Y n B a b) {i : Nat} (hi : i < n) (p N : Int32) (ep : p.toInt = i) (eN : N.toInt = n) (h94 : (∀ x : Nat, x < Y → ja h0 94 (1440 * (i : Int) + x) = jb (decide (0 < jff (jpA m r n B) (jst2 a b Y) Y (i) (x))))) (hnb : i + 1 < n → (∀ x : Nat, x < Y → ja h0 95 (1440 * ((i + 1 : Nat) : Int) + x) = jb (jcan m r Y n B a b (i + 1) x))) (r93 : (∀ x : Nat, x < Y → ja h0 93 x = jb ((jst2 a b Y) 0 x))) {Q : Option Value → si_H → Prop} (cont : ∀ (h : si_H) (ls : si_L), jM [(2, .int p), (0, .ref (P.1 + 60)), (1, .int N)] ls → az_HI P az_tb h → az_same_out [(95, 1000000)] h0 h → (∀ x : Nat, x < Y → ja h 95 (1440 * (i : Int) + x) = jb (jcan m r Y n B a b (i) (x))) → (∀ x : Int, 0 ≤ x → (x < 1440 * (i : Int) ∨ 1440 * (i : Int) + 1440 ≤ x) → ja h 95 x = ja h0 95 x) → az_X P (d + 3) 277 176 ls [] h Q) : ∀ (k j : Nat) (T : Int32) (h : si_H) (ls : si_L), jM [(3, .int T), (2, .int p), (0, .ref (P.1 + 60)), (1, .int N)] ls → az_HI P az_tb h → az_same_out [(95, 1000000)] h0 h → T.toInt = j → j + k = Y → (∀ x : Nat, x < j → ja h 95 (1440 * (i : Int) + x) = jb (jcan m r Y n B a b (i) (x))) → (∀ x : Int, 0 ≤ x → (x < 1440 * (i : Int) ∨ 1440 * (i : Int) + 1440 ≤ x) → ja h 95 x = ja h0 95 x) → az_X P (d + 3) 277 114 ls [] h (Q) := by
  have rx0 := rx
  obtain ⟨c1, c2, c3, c4, c5, c6, c7, c8, c9, c10, c11⟩ := rx
  intro k
  induction k with
  | zero =>
    intro j T h ls hl hH hs eT hj hd ho
    have rxh : jRX h m r Y n B a b := jRX_so hs (by decide) (by decide) (by decide) rx0
    have r9 : ja h 60 9 = Y := rxh.2.2.2.2.2.1
    have r68 : j < Y → ja h 68 j = jlk m r j := fun q => rxh.2.2.2.2.2.2.2.2.1 j q
    have s93 : ∀ x : Nat, x < Y → ja h 93 x = jb ((jst2 a b Y) 0 x) := fun x hx => by rw [jso_row hs (by decide)]; exact r93 x hx
    refine jm_iload_n (x := T) rfl rfl (jM_at hl 0 rfl) ?_
    refine jm_aload_n (x := P.1 + 60) rfl rfl (jM_at hl 2 rfl) ?_
    refine jn_gf (i := 60) (k := 9) rfl rfl hH (by decide) (hH.2 60 _ rfl).1 rfl rfl (fun z116 (ez116 : z116.toInt = ja h 60 9) (bz116 : 8 ≤ z116.toInt ∧ z116.toInt ≤ 1440) => ?_)
    refine jx_ic (t := 176) rfl rfl rfl (fun hc119 => ?_) (fun hc119 => ?_)
    · have g119 := jc2_ge_t hc119
      exact cont h ls (jM_pick hl [1, 2, 3] rfl) hH hs (fun x hx => hd x (by omega)) ho
    · have g119 := jc2_ge_f hc119
      exfalso
      omega
  | succ k ih =>
    intro j T h ls hl hH hs eT hj hd ho
    have rxh : jRX h m r Y n B a b := jRX_so hs (by decide) (by decide) (by decide) rx0
    have r9 : ja h 60 9 = Y := rxh.2.2.2.2.2.1
    have r68 : j < Y → ja h 68 j = jlk m r j := fun q => rxh.2.2.2.2.2.2.2.2.1 j q
    have s93 : ∀ x : Nat, x < Y → ja h 93 x = jb ((jst2 a b Y) 0 x) := fun x hx => by rw [jso_row hs (by decide)]; exact r93 x hx
    have k0 : (0 : Int32).toInt = 0 := by decide
    have k1 : (1 : Int32).toInt = 1 := by decide
    have k1440 : (1440 : Int32).toInt = 1440 := by decide
    refine jm_iload_n (x := T) rfl rfl (jM_at hl 0 rfl) ?_
    refine jm_aload_n (x := P.1 + 60) rfl rfl (jM_at hl 2 rfl) ?_
    refine jn_gf (i := 60) (k := 9) rfl rfl hH (by decide) (hH.2 60 _ rfl).1 rfl rfl (fun z116 (ez116 : z116.toInt = ja h 60 9) (bz116 : 8 ≤ z116.toInt ∧ z116.toInt ≤ 1440) => ?_)
    refine jx_ic (t := 176) rfl rfl rfl (fun hc119 => ?_) (fun hc119 => ?_)
    · have g119 := jc2_ge_t hc119
      exfalso
      omega
    · have g119 := jc2_ge_f hc119
      refine jm_aload_n (x := P.1 + 60) rfl rfl (jM_at hl 2 rfl) ?_
      refine jx_gf (i := 60) rfl rfl hH (by decide) (hH.2 60 _ rfl).1 rfl (jx_rf hH rfl rfl) ?_
      refine az_X_step (pc' := 129) (ls' := ls) (st' := [.int 1440, .ref (P.1 + 95)]) (h' := h) rfl rfl rfl ?_
      refine jm_iload_n (x := p) rfl rfl (jM_at hl 1 rfl) ?_
      refine jn_mul (a := 1440) (b := p) rfl rfl (by rw [show (1440 : Int32).toInt = 1440 by decide]; omega) (by rw [show (1440 : Int32).toInt = 1440 by decide]; omega) (fun z130 ez130 => ?_)
      rw [show (1440 : Int32).toInt = 1440 by decide] at ez130
      refine jm_iload_n (x := T) rfl rfl (jM_at hl 0 rfl) ?_
      refine jn_add (a := z130) (b := T) rfl rfl (by omega) (by omega) (fun z132 ez132 => ?_)
      refine jm_aload_n (x := P.1 + 60) rfl rfl (jM_at hl 2 rfl) ?_
      refine jx_gf (i := 60) rfl rfl hH (by decide) (hH.2 60 _ rfl).1 rfl (jx_rf hH rfl rfl) ?_
      refine az_X_step (pc' := 140) (ls' := ls) (st' := [.int 1440, .ref (P.1 + 94), .int z132, .ref (P.1 + 95)]) (h' := h) rfl rfl rfl ?_
      refine jm_iload_n (x := p) rfl rfl (jM_at hl 1 rfl) ?_
      refine jn_mul (a := 1440) (b := p) rfl rfl (by rw [show (1440 : Int32).toInt = 1440 by decide]; omega) (by rw [show (1440 : Int32).toInt = 1440 by decide]; omega) (fun z141 ez141 => ?_)
      rw [show (1440 : Int32).toInt = 1440 by decide] at ez141
      refine jm_iload_n (x := T) rfl rfl (jM_at hl 0 rfl) ?_
      refine jn_add (a := z141) (b := T) rfl rfl (by omega) (by omega) (fun z143 ez143 => ?_)
      refine jn_balz (i := 94) (x := z143) rfl rfl hH (by decide) rfl (by omega) (by show _ < ((11520 : Nat) : Int); omega) (fun z144 ez144 bz144 => ?_)
      refine jx_if (t := 168) rfl rfl rfl (fun hc145 => ?_) (fun hc145 => ?_)
      · have g145 := jc1_eq_t hc145
        refine az_X_step (pc' := 169) (ls' := ls) (st' := [.int 0, .int z132, .ref (P.1 + 95)]) (h' := h) rfl rfl rfl ?_
        refine jn_basz (i := 95) (x := z132) (v := 0) rfl rfl hH (by decide) rfl (by omega) (by show _ < ((11520 : Nat) : Int); omega) (by omega) (by show 0 ≤ _; omega) (by show _ ≤ 1; omega) (fun h169 hH169 hs169 t169 u169 => ?_)
        refine jn_iinc (x := T) rfl rfl (by decide) (jM_at hl 0 rfl) hl rfl (by decide) (by omega) (by omega) (fun z170 (ez170 : z170.toInt = T.toInt + 1) ls170 (hl170 : jM [(3, .int z170), (2, .int p), (0, .ref (P.1 + 60)), (1, .int N)] ls170) => ?_)
        refine az_X_step (pc' := 114) (ls' := ls170) (st' := []) (h' := h169) rfl rfl rfl ?_
        have ci := jcan_iff (m := m) (r := r) (Y := Y) (n := n) (B := B) (a := a) (b := b) (i := i) (t := j) hi (by omega)
        have q144 : z144.toInt = jb (decide (0 < jff (jpA m r n B) (jst2 a b Y) Y (i) (j))) := by
          rw [ez144, show z143.toInt = 1440 * (i : Int) + j by omega, jso_row (i := 94) hs (by decide)]
          exact h94 j (by omega)
        rw [q144] at g145
        unfold jb at g145
        have vv : (jcan m r Y n B a b (i) (j)) = false := by
          rw [Bool.eq_false_iff]
          intro e
          rw [decide_eq_true (ci.mp e).1] at g145
          exact absurd g145 (by decide)
        refine ih (j + 1) z170 h169 ls170 (jM_pick hl170 [0, 1, 2, 3] rfl) hH169 (hs.tr hs169) (by omega) (by omega) (fun x hx => ?_) (fun x x0 x1 => ?_)
        · by_cases e : x = j
          · subst e
            rw [show 1440 * (i : Int) + (x : Int) = z132.toInt by omega, t169, vv]
            decide
          · rw [u169 _ (by omega) (by omega)]
            exact hd x (by omega)
        · rw [u169 x x0 (by omega)]
          exact ho x x0 x1
      · have g145 := jc1_eq_f hc145
        refine jm_iload_n (x := p) rfl rfl (jM_at hl 1 rfl) ?_
        refine jm_iload_n (x := N) rfl rfl (jM_at hl 3 rfl) ?_
        refine az_X_step (pc' := 151) (ls' := ls) (st' := [.int 1, .int N, .int p, .int z132, .ref (P.1 + 95)]) (h' := h) rfl rfl rfl ?_
        refine jn_sub (a := N) (b := 1) rfl rfl (by omega) (by omega) (fun z151 ez151 => ?_)
        rw [show (1 : Int32).toInt = 1 by decide] at ez151
        refine jx_ic (t := 164) rfl rfl rfl (fun hc152 => ?_) (fun hc152 => ?_)
        · have g152 := jc2_eq_t hc152
          refine az_X_step (pc' := 165) (ls' := ls) (st' := [.int 1, .int z132, .ref (P.1 + 95)]) (h' := h) rfl rfl rfl ?_
          refine az_X_step (pc' := 169) (ls' := ls) (st' := [.int 1, .int z132, .ref (P.1 + 95)]) (h' := h) rfl rfl rfl ?_
          refine jn_basz (i := 95) (x := z132) (v := 1) rfl rfl hH (by decide) rfl (by omega) (by show _ < ((11520 : Nat) : Int); omega) (by omega) (by show 0 ≤ _; omega) (by show _ ≤ 1; omega) (fun h169 hH169 hs169 t169 u169 => ?_)
          refine jn_iinc (x := T) rfl rfl (by decide) (jM_at hl 0 rfl) hl rfl (by decide) (by omega) (by omega) (fun z170 (ez170 : z170.toInt = T.toInt + 1) ls170 (hl170 : jM [(3, .int z170), (2, .int p), (0, .ref (P.1 + 60)), (1, .int N)] ls170) => ?_)
          refine az_X_step (pc' := 114) (ls' := ls170) (st' := []) (h' := h169) rfl rfl rfl ?_
          have ci := jcan_iff (m := m) (r := r) (Y := Y) (n := n) (B := B) (a := a) (b := b) (i := i) (t := j) hi (by omega)
          have q144 : z144.toInt = jb (decide (0 < jff (jpA m r n B) (jst2 a b Y) Y (i) (j))) := by
            rw [ez144, show z143.toInt = 1440 * (i : Int) + j by omega, jso_row (i := 94) hs (by decide)]
            exact h94 j (by omega)
          rw [q144] at g145
          unfold jb at g145
          have f0 : 0 < jff (jpA m r n B) (jst2 a b Y) Y i j := by
            by_cases e : 0 < jff (jpA m r n B) (jst2 a b Y) Y i j
            · exact e
            · rw [decide_eq_false e] at g145
              exact absurd rfl g145
          have vv : (jcan m r Y n B a b (i) (j)) = true := ci.mpr ⟨f0, Or.inl (by omega)⟩
          refine ih (j + 1) z170 h169 ls170 (jM_pick hl170 [0, 1, 2, 3] rfl) hH169 (hs.tr hs169) (by omega) (by omega) (fun x hx => ?_) (fun x x0 x1 => ?_)
          · by_cases e : x = j
            · subst e
              rw [show 1440 * (i : Int) + (x : Int) = z132.toInt by omega, t169, vv]
              decide
            · rw [u169 _ (by omega) (by omega)]
              exact hd x (by omega)
          · rw [u169 x x0 (by omega)]
            exact ho x x0 x1
        · have g152 := jc2_eq_f hc152
          refine jm_aload_n (x := P.1 + 60) rfl rfl (jM_at hl 2 rfl) ?_
          refine jm_iload_n (x := p) rfl rfl (jM_at hl 1 rfl) ?_
          refine jm_iload_n (x := T) rfl rfl (jM_at hl 0 rfl) ?_
          refine az_X_call (m' := 279) (as := [.ref (P.1 + 60), .int p, .int T]) (rest := [.int z132, .ref (P.1 + 95)]) rfl rfl rfl rfl rfl ?_ ?_
          · unfold si_call
            dsimp only
            rw [if_pos ⟨rfl, rfl⟩]
            show (match si_ix P h (P.1 + 60) with | some i => _ | none => none) = _
            rw [jix hH (by decide)]
            dsimp only
            rw [(hH.2 60 _ rfl).1]
            rfl
          refine (gb_ok (d := d) hH rxh (o := i + 1) (t := j) (by omega) p T (by omega) eT (by omega) (fun x hx => by
            rw [ho _ (by omega) (by omega)]
            have q := hnb (by omega) x hx
            exact q) s93).mono ?_
          rintro rv158 h158 ⟨q158, z158, rfl, ez158⟩
          subst h158
          show az_X P _ 277 161 ls [.int z158, .int z132, .ref (P.1 + 95)] _ _
          refine jx_if (t := 168) rfl rfl rfl (fun hc161 => ?_) (fun hc161 => ?_)
          · have g161 := jc1_eq_t hc161
            refine az_X_step (pc' := 169) (ls' := ls) (st' := [.int 0, .int z132, .ref (P.1 + 95)]) (h' := h) rfl rfl rfl ?_
            refine jn_basz (i := 95) (x := z132) (v := 0) rfl rfl hH (by decide) rfl (by omega) (by show _ < ((11520 : Nat) : Int); omega) (by omega) (by show 0 ≤ _; omega) (by show _ ≤ 1; omega) (fun h169 hH169 hs169 t169 u169 => ?_)
            refine jn_iinc (x := T) rfl rfl (by decide) (jM_at hl 0 rfl) hl rfl (by decide) (by omega) (by omega) (fun z170 (ez170 : z170.toInt = T.toInt + 1) ls170 (hl170 : jM [(3, .int z170), (2, .int p), (0, .ref (P.1 + 60)), (1, .int N)] ls170) => ?_)
            refine az_X_step (pc' := 114) (ls' := ls170) (st' := []) (h' := h169) rfl rfl rfl ?_
            have ci := jcan_iff (m := m) (r := r) (Y := Y) (n := n) (B := B) (a := a) (b := b) (i := i) (t := j) hi (by omega)
            have q144 : z144.toInt = jb (decide (0 < jff (jpA m r n B) (jst2 a b Y) Y (i) (j))) := by
              rw [ez144, show z143.toInt = 1440 * (i : Int) + j by omega, jso_row (i := 94) hs (by decide)]
              exact h94 j (by omega)
            rw [q144] at g145
            unfold jb at g145
            have f0 : 0 < jff (jpA m r n B) (jst2 a b Y) Y i j := by
              by_cases e : 0 < jff (jpA m r n B) (jst2 a b Y) Y i j
              · exact e
              · rw [decide_eq_false e] at g145
                exact absurd rfl g145
            have vv : (jcan m r Y n B a b (i) (j)) = false := by
              rw [Bool.eq_false_iff]
              intro e
              rcases (ci.mp e).2 with u | u
              · omega
              · rcases ez158 with ⟨v, -⟩ | ⟨-, v⟩
                · omega
                · exact v u
            refine ih (j + 1) z170 h169 ls170 (jM_pick hl170 [0, 1, 2, 3] rfl) hH169 (hs.tr hs169) (by omega) (by omega) (fun x hx => ?_) (fun x x0 x1 => ?_)
            · by_cases e : x = j
              · subst e
                rw [show 1440 * (i : Int) + (x : Int) = z132.toInt by omega, t169, vv]
                decide
              · rw [u169 _ (by omega) (by omega)]
                exact hd x (by omega)
            · rw [u169 x x0 (by omega)]
              exact ho x x0 x1
          · have g161 := jc1_eq_f hc161
            refine az_X_step (pc' := 165) (ls' := ls) (st' := [.int 1, .int z132, .ref (P.1 + 95)]) (h' := h) rfl rfl rfl ?_
            refine az_X_step (pc' := 169) (ls' := ls) (st' := [.int 1, .int z132, .ref (P.1 + 95)]) (h' := h) rfl rfl rfl ?_
            refine jn_basz (i := 95) (x := z132) (v := 1) rfl rfl hH (by decide) rfl (by omega) (by show _ < ((11520 : Nat) : Int); omega) (by omega) (by show 0 ≤ _; omega) (by show _ ≤ 1; omega) (fun h169 hH169 hs169 t169 u169 => ?_)
            refine jn_iinc (x := T) rfl rfl (by decide) (jM_at hl 0 rfl) hl rfl (by decide) (by omega) (by omega) (fun z170 (ez170 : z170.toInt = T.toInt + 1) ls170 (hl170 : jM [(3, .int z170), (2, .int p), (0, .ref (P.1 + 60)), (1, .int N)] ls170) => ?_)
            refine az_X_step (pc' := 114) (ls' := ls170) (st' := []) (h' := h169) rfl rfl rfl ?_
            have ci := jcan_iff (m := m) (r := r) (Y := Y) (n := n) (B := B) (a := a) (b := b) (i := i) (t := j) hi (by omega)
            have q144 : z144.toInt = jb (decide (0 < jff (jpA m r n B) (jst2 a b Y) Y (i) (j))) := by
              rw [ez144, show z143.toInt = 1440 * (i : Int) + j by omega, jso_row (i := 94) hs (by decide)]
              exact h94 j (by omega)
            rw [q144] at g145
            unfold jb at g145
            have f0 : 0 < jff (jpA m r n B) (jst2 a b Y) Y i j := by
              by_cases e : 0 < jff (jpA m r n B) (jst2 a b Y) Y i j
              · exact e
              · rw [decide_eq_false e] at g145
                exact absurd rfl g145
            have vv : (jcan m r Y n B a b (i) (j)) = true := by
              rcases ez158 with ⟨-, v⟩ | ⟨v, -⟩
              · exact ci.mpr ⟨f0, Or.inr v⟩
              · exact absurd v g161
            refine ih (j + 1) z170 h169 ls170 (jM_pick hl170 [0, 1, 2, 3] rfl) hH169 (hs.tr hs169) (by omega) (by omega) (fun x hx => ?_) (fun x x0 x1 => ?_)
            · by_cases e : x = j
              · subst e
                rw [show 1440 * (i : Int) + (x : Int) = z132.toInt by omega, t169, vv]
                decide
              · rw [u169 _ (by omega) (by omega)]
                exact hd x (by omega)
            · rw [u169 x x0 (by omega)]
              exact ho x x0 x1
theorem lt_p {P : si_P} (hxa : P.2.1 < P.1) {d : Nat} {h0 : si_H} {m r : Int} {Y n : Nat} {B : Nat → Int} {a b : Int} (rx : jRX h0 m r Y n B a b) (N : Int32) (eN : N.toInt = n) (r93 : (∀ x : Nat, x < Y → ja h0 93 x = jb ((jst2 a b Y) 0 x))) {Q : Option Value → si_H → Prop} (cont : ∀ (h : si_H) (ls : si_L), jM [(0, .ref (P.1 + 60)), (1, .int N)] ls → az_HI P az_tb h → az_same_out [(94, 1000000)] h0 h → (∀ u : Nat, u < n → ∀ x : Nat, x < Y → ja h 94 (1440 * (u : Int) + x) = jb (decide (0 < jff (jpA m r n B) (jst2 a b Y) Y (u) (x)))) → az_X P (d + 3) 277 104 ls [] h Q) : ∀ (k j : Nat) (p : Int32) (h : si_H) (ls : si_L), jM [(2, .int p), (0, .ref (P.1 + 60)), (1, .int N)] ls → az_HI P az_tb h → az_same_out [(94, 1000000)] h0 h → p.toInt = j → j + k = n → (∀ u : Nat, u < j → ∀ x : Nat, x < Y → ja h 94 (1440 * (u : Int) + x) = jb (decide (0 < jff (jpA m r n B) (jst2 a b Y) Y (u) (x)))) → az_X P (d + 3) 277 33 ls [] h (Q) := by
  have rx0 := rx
  obtain ⟨c1, c2, c3, c4, c5, c6, c7, c8, c9, c10, c11⟩ := rx
  intro k
  induction k with
  | zero =>
    intro j p h ls hl hH hs ep hj hd
    have rxh : jRX h m r Y n B a b := jRX_so hs (by decide) (by decide) (by decide) rx0
    have b9 : 8 ≤ ja h 60 9 ∧ ja h 60 9 ≤ 1440 := ja_bd hH (i := 60) (k := 9) rfl
    have r9 : ja h 60 9 = Y := rxh.2.2.2.2.2.1
    have s93 : ∀ x : Nat, x < Y → ja h 93 x = jb ((jst2 a b Y) 0 x) := fun x hx => by rw [jso_row hs (by decide)]; exact r93 x hx
    refine jm_iload_n (x := p) rfl rfl (jM_at hl 0 rfl) ?_
    refine jm_iload_n (x := N) rfl rfl (jM_at hl 2 rfl) ?_
    refine jx_ic (t := 104) rfl rfl rfl (fun hc35 => ?_) (fun hc35 => ?_)
    · have g35 := jc2_ge_t hc35
      exact cont h ls (jM_pick hl [1, 2] rfl) hH hs (fun u hu => hd u (by omega))
    · have g35 := jc2_ge_f hc35
      exfalso
      omega
  | succ k ih =>
    intro j p h ls hl hH hs ep hj hd
    have rxh : jRX h m r Y n B a b := jRX_so hs (by decide) (by decide) (by decide) rx0
    have b9 : 8 ≤ ja h 60 9 ∧ ja h 60 9 ≤ 1440 := ja_bd hH (i := 60) (k := 9) rfl
    have r9 : ja h 60 9 = Y := rxh.2.2.2.2.2.1
    have s93 : ∀ x : Nat, x < Y → ja h 93 x = jb ((jst2 a b Y) 0 x) := fun x hx => by rw [jso_row hs (by decide)]; exact r93 x hx
    have k0 : (0 : Int32).toInt = 0 := by decide
    refine jm_iload_n (x := p) rfl rfl (jM_at hl 0 rfl) ?_
    refine jm_iload_n (x := N) rfl rfl (jM_at hl 2 rfl) ?_
    refine jx_ic (t := 104) rfl rfl rfl (fun hc35 => ?_) (fun hc35 => ?_)
    · have g35 := jc2_ge_t hc35
      exfalso
      omega
    · have g35 := jc2_ge_f hc35
      refine az_X_step (pc' := 39) (ls' := ls) (st' := [.int 0]) (h' := h) rfl rfl rfl ?_
      refine jm_istore_n (l' := [(3, .int 0), (2, .int p), (0, .ref (P.1 + 60)), (1, .int N)]) rfl rfl (by decide) hl rfl rfl (fun ls39 hl39 => ?_)
      refine lt_t (d := d) hxa (h0 := h) rxh (i := j) (by omega) p N (by omega) eN (fun o eo x hx => hd o (by omega) x hx) s93 (fun h1 ls1 hl1 hH1 hs1 d1 o1 => ?_) Y 0 0 h ls39 (jM_pick hl39 [0, 1, 2, 3] rfl) hH az_same_out.rf (by decide) (by omega) (fun x hx => absurd hx (by omega)) (fun _ _ _ => rfl)
      refine jn_iinc (x := p) rfl rfl (by decide) (jM_at hl1 0 rfl) hl1 rfl (by decide) (by omega) (by omega) (fun z98 (ez98 : z98.toInt = p.toInt + 1) ls98 (hl98 : jM [(2, .int z98), (0, .ref (P.1 + 60)), (1, .int N)] ls98) => ?_)
      refine az_X_step (pc' := 33) (ls' := ls98) (st' := []) (h' := h1) rfl rfl rfl ?_
      refine ih (j + 1) z98 h1 ls98 (jM_pick hl98 [0, 1, 2] rfl) hH1 (hs.tr hs1) (by omega) (by omega) (fun u hu x hx => ?_)
      by_cases e : u = j
      · subst e
        exact d1 x hx
      · rw [o1 _ (by omega) (by omega)]
        exact hd u (by omega) x hx
theorem lf_p {P : si_P} (hxa : P.2.1 < P.1) {d : Nat} {h0 : si_H} {m r : Int} {Y n : Nat} {B : Nat → Int} {a b : Int} (rx : jRX h0 m r Y n B a b) (N : Int32) (eN : N.toInt = n) (r93 : (∀ x : Nat, x < Y → ja h0 93 x = jb ((jst2 a b Y) 0 x))) (h94 : (∀ u : Nat, u < n → ∀ x : Nat, x < Y → ja h0 94 (1440 * (u : Int) + x) = jb (decide (0 < jff (jpA m r n B) (jst2 a b Y) Y (u) (x))))) : ∀ (k j : Nat) (p : Int32) (h : si_H) (ls : si_L), jM [(2, .int p), (0, .ref (P.1 + 60)), (1, .int N)] ls → az_HI P az_tb h → az_same_out [(95, 1000000)] h0 h → p.toInt = (k : Int) - 1 → j + k = n → (∀ u : Nat, k ≤ u → u < n → ∀ x : Nat, x < Y → ja h 95 (1440 * (u : Int) + x) = jb (jcan m r Y n B a b (u) (x))) → az_X P (d + 3) 277 108 ls [] h (fun rv h' => rv = none ∧ az_HI P az_tb h' ∧ az_same_out [(95, 1000000)] h0 h' ∧ (∀ u : Nat, u < n → ∀ x : Nat, x < Y → ja h' 95 (1440 * (u : Int) + x) = jb (jcan m r Y n B a b (u) (x)))) := by
  have rx0 := rx
  obtain ⟨c1, c2, c3, c4, c5, c6, c7, c8, c9, c10, c11⟩ := rx
  intro k
  induction k with
  | zero =>
    intro j p h ls hl hH hs ep hj hd
    have rxh : jRX h m r Y n B a b := jRX_so hs (by decide) (by decide) (by decide) rx0
    have b9 : 8 ≤ ja h 60 9 ∧ ja h 60 9 ≤ 1440 := ja_bd hH (i := 60) (k := 9) rfl
    have r9 : ja h 60 9 = Y := rxh.2.2.2.2.2.1
    have s93 : ∀ x : Nat, x < Y → ja h 93 x = jb ((jst2 a b Y) 0 x) := fun x hx => by rw [jso_row hs (by decide)]; exact r93 x hx
    have k0 : (0 : Int32).toInt = 0 := by decide
    refine jm_iload_n (x := p) rfl rfl (jM_at hl 0 rfl) ?_
    refine jx_if (t := 182) rfl rfl rfl (fun hc109 => ?_) (fun hc109 => ?_)
    · have g109 := jc1_lt_t hc109
      refine jn_retv rfl rfl rfl ?_
      exact ⟨rfl, hH, hs, fun u hu => hd u (by omega) hu⟩
    · have g109 := jc1_lt_f hc109
      exfalso
      omega
  | succ k ih =>
    intro j p h ls hl hH hs ep hj hd
    have rxh : jRX h m r Y n B a b := jRX_so hs (by decide) (by decide) (by decide) rx0
    have b9 : 8 ≤ ja h 60 9 ∧ ja h 60 9 ≤ 1440 := ja_bd hH (i := 60) (k := 9) rfl
    have r9 : ja h 60 9 = Y := rxh.2.2.2.2.2.1
    have s93 : ∀ x : Nat, x < Y → ja h 93 x = jb ((jst2 a b Y) 0 x) := fun x hx => by rw [jso_row hs (by decide)]; exact r93 x hx
    have k0 : (0 : Int32).toInt = 0 := by decide
    refine jm_iload_n (x := p) rfl rfl (jM_at hl 0 rfl) ?_
    refine jx_if (t := 182) rfl rfl rfl (fun hc109 => ?_) (fun hc109 => ?_)
    · have g109 := jc1_lt_t hc109
      refine jn_retv rfl rfl rfl ?_
      exfalso
      omega
    · have g109 := jc1_lt_f hc109
      refine az_X_step (pc' := 113) (ls' := ls) (st' := [.int 0]) (h' := h) rfl rfl rfl ?_
      refine jm_istore_n (l' := [(3, .int 0), (2, .int p), (0, .ref (P.1 + 60)), (1, .int N)]) rfl rfl (by decide) hl rfl rfl (fun ls113 hl113 => ?_)
      refine lf_t (d := d) hxa (h0 := h) rxh (i := k) (by omega) p N (by omega) eN (fun x hx => by rw [jso_row (i := 94) hs (by decide)]; exact h94 k (by omega) x hx) (fun q x hx => hd (k + 1) (by omega) q x hx) s93 (fun h1 ls1 hl1 hH1 hs1 d1 o1 => ?_) Y 0 0 h ls113 (jM_pick hl113 [0, 1, 2, 3] rfl) hH az_same_out.rf (by decide) (by omega) (fun x hx => absurd hx (by omega)) (fun _ _ _ => rfl)
      refine jn_iinc (x := p) rfl rfl (by decide) (jM_at hl1 0 rfl) hl1 rfl (by decide) (by omega) (by omega) (fun z176 (ez176 : z176.toInt = p.toInt + (-1)) ls176 (hl176 : jM [(2, .int z176), (0, .ref (P.1 + 60)), (1, .int N)] ls176) => ?_)
      refine az_X_step (pc' := 108) (ls' := ls176) (st' := []) (h' := h1) rfl rfl rfl ?_
      refine ih (j + 1) z176 h1 ls176 (jM_pick hl176 [0, 1, 2] rfl) hH1 (hs.tr hs1) (by omega) (by omega) (fun u u1 u2 x hx => ?_)
      by_cases e : u = k
      · subst e
        exact d1 x hx
      · rw [o1 _ (by omega) (by omega)]
        exact hd u (by omega) u2 x hx
theorem lc_0 {P : si_P} (hxa : P.2.1 < P.1) {d : Nat} {h0 : si_H} {m r : Int} {Y n : Nat} {B : Nat → Int} {a b : Int} (rx : jRX h0 m r Y n B a b) (N : Int32) (eN : N.toInt = n) (r93 : (∀ x : Nat, x < Y → ja h0 93 x = jb ((jst2 a b Y) 0 x))) : ∀ (k j : Nat) (T : Int32) (h : si_H) (ls : si_L), jM [(2, .int T), (0, .ref (P.1 + 60)), (1, .int N)] ls → az_HI P az_tb h → az_same_out [(94, 1000000), (95, 1000000)] h0 h → T.toInt = j → j + k = n * 1440 → az_X P (d + 3) 277 2 ls [] h (fun rv h' => rv = none ∧ az_HI P az_tb h' ∧ az_same_out [(94, 1000000), (95, 1000000)] h0 h' ∧ (∀ u : Nat, u < n → ∀ x : Nat, x < Y → ja h' 95 (1440 * (u : Int) + x) = jb (jcan m r Y n B a b (u) (x)))) := by
  have rx0 := rx
  obtain ⟨c1, c2, c3, c4, c5, c6, c7, c8, c9, c10, c11⟩ := rx
  intro k
  induction k with
  | zero =>
    intro j T h ls hl hH hs eT hj
    have k0 : (0 : Int32).toInt = 0 := by decide
    have k1440 : (1440 : Int32).toInt = 1440 := by decide
    refine jm_iload_n (x := T) rfl rfl (jM_at hl 0 rfl) ?_
    refine jm_iload_n (x := N) rfl rfl (jM_at hl 2 rfl) ?_
    refine az_X_step (pc' := 7) (ls' := ls) (st' := [.int 1440, .int N, .int T]) (h' := h) rfl rfl rfl ?_
    refine jn_mul (a := N) (b := 1440) rfl rfl (by rw [show (1440 : Int32).toInt = 1440 by decide]; omega) (by rw [show (1440 : Int32).toInt = 1440 by decide]; omega) (fun z7 ez7 => ?_)
    rw [show (1440 : Int32).toInt = 1440 by decide] at ez7
    refine jx_ic (t := 31) rfl rfl rfl (fun hc8 => ?_) (fun hc8 => ?_)
    · have g8 := jc2_ge_t hc8
      refine az_X_step (pc' := 32) (ls' := ls) (st' := [.int 0]) (h' := h) rfl rfl rfl ?_
      refine jm_istore_n (l' := [(2, .int 0), (0, .ref (P.1 + 60)), (1, .int N)]) rfl rfl (by decide) hl rfl rfl (fun ls32 hl32 => ?_)
      have rxh : jRX h m r Y n B a b := jRX_so hs (by decide) (by decide) (by decide) rx0
      refine lt_p (d := d) hxa (h0 := h) rxh N eN (fun x hx => by rw [jso_row (i := 93) hs (by decide)]; exact r93 x hx) (fun h1 ls1 hl1 hH1 hs1 d1 => ?_) n 0 0 h ls32 (jM_pick hl32 [0, 1, 2] rfl) hH az_same_out.rf (by decide) (by omega) (fun u hu => absurd hu (by omega))
      have k1 : (1 : Int32).toInt = 1 := by decide
      refine jm_iload_n (x := N) rfl rfl (jM_at hl1 1 rfl) ?_
      refine az_X_step (pc' := 106) (ls' := ls1) (st' := [.int 1, .int N]) (h' := h1) rfl rfl rfl ?_
      refine jn_sub (a := N) (b := 1) rfl rfl (by omega) (by omega) (fun z106 ez106 => ?_)
      rw [show (1 : Int32).toInt = 1 by decide] at ez106
      refine jm_istore_n (l' := [(2, .int z106), (0, .ref (P.1 + 60)), (1, .int N)]) rfl rfl (by decide) hl1 rfl rfl (fun ls107 hl107 => ?_)
      refine (lf_p (d := d) hxa (h0 := h1) (jRX_so hs1 (by decide) (by decide) (by decide) rxh) N eN (fun x hx => by rw [jso_row (i := 93) hs1 (by decide), jso_row (i := 93) hs (by decide)]; exact r93 x hx) d1 n 0 z106 h1 ls107 (jM_pick hl107 [0, 1, 2] rfl) hH1 az_same_out.rf (by omega) (by omega) (fun u hu hu2 => absurd hu (by omega))).mono ?_
      rintro rv h9 ⟨q1, q2, q3, q4⟩
      exact ⟨q1, q2, (hs.tr (hs1.sub (by decide))).tr (q3.sub (by decide)), q4⟩
    · have g8 := jc2_ge_f hc8
      exfalso
      omega
  | succ k ih =>
    intro j T h ls hl hH hs eT hj
    have k0 : (0 : Int32).toInt = 0 := by decide
    have k1440 : (1440 : Int32).toInt = 1440 := by decide
    refine jm_iload_n (x := T) rfl rfl (jM_at hl 0 rfl) ?_
    refine jm_iload_n (x := N) rfl rfl (jM_at hl 2 rfl) ?_
    refine az_X_step (pc' := 7) (ls' := ls) (st' := [.int 1440, .int N, .int T]) (h' := h) rfl rfl rfl ?_
    refine jn_mul (a := N) (b := 1440) rfl rfl (by rw [show (1440 : Int32).toInt = 1440 by decide]; omega) (by rw [show (1440 : Int32).toInt = 1440 by decide]; omega) (fun z7 ez7 => ?_)
    rw [show (1440 : Int32).toInt = 1440 by decide] at ez7
    refine jx_ic (t := 31) rfl rfl rfl (fun hc8 => ?_) (fun hc8 => ?_)
    · have g8 := jc2_ge_t hc8
      refine az_X_step (pc' := 32) (ls' := ls) (st' := [.int 0]) (h' := h) rfl rfl rfl ?_
      refine jm_istore_n (l' := [(2, .int 0), (0, .ref (P.1 + 60)), (1, .int N)]) rfl rfl (by decide) hl rfl rfl (fun ls32 hl32 => ?_)
      exfalso
      omega
    · have g8 := jc2_ge_f hc8
      refine jm_aload_n (x := P.1 + 60) rfl rfl (jM_at hl 1 rfl) ?_
      refine jx_gf (i := 60) rfl rfl hH (by decide) (hH.2 60 _ rfl).1 rfl (jx_rf hH rfl rfl) ?_
      refine jm_iload_n (x := T) rfl rfl (jM_at hl 0 rfl) ?_
      refine az_X_step (pc' := 17) (ls' := ls) (st' := [.int 0, .int T, .ref (P.1 + 94)]) (h' := h) rfl rfl rfl ?_
      refine jn_basz (i := 94) (x := T) (v := 0) rfl rfl hH (by decide) rfl (by omega) (by show _ < ((11520 : Nat) : Int); omega) (by omega) (by show 0 ≤ _; omega) (by show _ ≤ 1; omega) (fun h17 hH17 hs17 t17 u17 => ?_)
      refine jm_aload_n (x := P.1 + 60) rfl rfl (jM_at hl 1 rfl) ?_
      refine jx_gf (i := 60) rfl rfl hH17 (by decide) (hH17.2 60 _ rfl).1 rfl (jx_rf hH17 rfl rfl) ?_
      refine jm_iload_n (x := T) rfl rfl (jM_at hl 0 rfl) ?_
      refine az_X_step (pc' := 24) (ls' := ls) (st' := [.int 0, .int T, .ref (P.1 + 95)]) (h' := h17) rfl rfl rfl ?_
      refine jn_basz (i := 95) (x := T) (v := 0) rfl rfl hH17 (by decide) rfl (by omega) (by show _ < ((11520 : Nat) : Int); omega) (by omega) (by show 0 ≤ _; omega) (by show _ ≤ 1; omega) (fun h24 hH24 hs24 t24 u24 => ?_)
      refine jn_iinc (x := T) rfl rfl (by decide) (jM_at hl 0 rfl) hl rfl (by decide) (by omega) (by omega) (fun z25 (ez25 : z25.toInt = T.toInt + 1) ls25 (hl25 : jM [(2, .int z25), (0, .ref (P.1 + 60)), (1, .int N)] ls25) => ?_)
      refine az_X_step (pc' := 2) (ls' := ls25) (st' := []) (h' := h24) rfl rfl rfl ?_
      exact ih (j + 1) z25 h24 ls25 (jM_pick hl25 [0, 1, 2] rfl) hH24 (hs.tr ((hs17.sub (by decide)).tr (hs24.sub (by decide)))) (by omega) (by omega)
theorem lc_ok {P : si_P} (hxa : P.2.1 < P.1) {d : Nat} {h : si_H} (hH : az_HI P az_tb h) {m r : Int} {Y n : Nat} {B : Nat → Int} {a b : Int} (rx : jRX h m r Y n B a b) (N : Int32) (eN : N.toInt = n) (r93 : (∀ x : Nat, x < Y → ja h 93 x = jb ((jst2 a b Y) 0 x))) : az_X P (d + 3) 277 0 (lv_args 0 [.ref (P.1 + 60), .int N]) [] h (fun rv h' => rv = none ∧ az_HI P az_tb h' ∧ az_same_out [(94, 1000000), (95, 1000000)] h h' ∧ (∀ u : Nat, u < n → ∀ x : Nat, x < Y → ja h' 95 (1440 * (u : Int) + x) = jb (jcan m r Y n B a b (u) (x)))) := by
  have hl : jM [(0, .ref (P.1 + 60)), (1, .int N)] (lv_args 0 [.ref (P.1 + 60), .int N]) := jM_args [0, 1] rfl (by decide)
  generalize lv_args 0 [.ref (P.1 + 60), .int N] = ls at hl
  have k0 : (0 : Int32).toInt = 0 := by decide
  refine az_X_step (pc' := 1) (ls' := ls) (st' := [.int 0]) (h' := h) rfl rfl rfl ?_
  refine jm_istore_n (l' := [(2, .int 0), (0, .ref (P.1 + 60)), (1, .int N)]) rfl rfl (by decide) hl rfl rfl (fun ls1 hl1 => ?_)
  exact lc_0 hxa rx N eN r93 (n * 1440) 0 0 h ls1 (jM_pick hl1 [0, 1, 2] rfl) hH az_same_out.rf (by decide) (by omega)
theorem jsu_ct (p : Nat → Bool) : ∀ n : Nat, jsu (fun t => if p t = true then 1 else 0) n = jct p n
  | 0 => rfl
  | n + 1 => by
    rw [jsu_s, jct_s, jsu_ct p n]
theorem jmq_6 {m r s l : Int} (hm : 4 ≤ m ∧ m ≤ 60) (hr : 2 ≤ r ∧ r ≤ 24) (hs : 0 ≤ s ∧ s < m) (hl : 0 ≤ l ∧ l < m) : jmq m r s l ≤ 6 := by
  have b := nm_mulnn (a := 0) (b := 60) (c := 2) (d := 24) (x := s) (y := r) (by decide) (by decide) hs.1 (by omega) hr.1 hr.2
  have e := jmq_eq (m := m) (r := r) (s := s) (l := l) (by omega) (by omega) (by omega) hl
  rcases Int.lt_or_le (jlw m r s l) 0 with c | c
  · rw [e.1 c]
    omega
  · obtain ⟨e1, e2, e3⟩ := e.2 c
    rw [e3]
    have := Int.ediv_lt_of_lt_mul (a := s * r + r - 1 - jlw m r s l) (b := 6) (c := m) (by omega) (by omega)
    omega
theorem jpA_12r {m r : Int} {Y n : Nat} {B : Nat → Int} (hm : 4 ≤ m ∧ m ≤ 60) (hr : 2 ≤ r ∧ r ≤ 24) (hy : m * r = Y) (hB : ∀ i : Nat, i < 2 * n → 0 ≤ B i ∧ B i < m) (i : Nat) : jsu (fun t => if jpA m r n B i t = true then 1 else 0) Y ≤ 12 := by
  rw [jsu_ct]
  by_cases hi : i < n
  · have b1 := hB (2 * i) (by omega)
    have b2 := hB (2 * i + 1) (by omega)
    have e : jct (jpA m r n B i) Y = jam m r Y (64 * min (B (2 * i + 1)) (B (2 * i)) + max (B (2 * i + 1)) (B (2 * i))) := jct_cg (fun t _ => by
      unfold jpA jLk
      exact decide_eq_decide.mpr ⟨fun q => q.2, fun q => ⟨hi, q⟩⟩)
    rw [e, jam_at hm hr hy b1 b2]
    have q1 := jmq_6 hm hr b1 b2
    have q2 := jmq_6 hm hr b2 b1
    split <;> omega
  · rw [jct_0 (fun t _ => by
      unfold jpA
      exact decide_eq_false (fun q => hi q.1))]
    omega
theorem ph_l {P : si_P} (hxa : P.2.1 < P.1) {d : Nat} {h0 : si_H} {m r : Int} {Y n : Nat} {B : Nat → Int} {a b : Int} (rx : jRX h0 m r Y n B a b) (hA12 : ∀ i : Nat, jsu (fun t => if jpA m r n B i t = true then 1 else 0) Y ≤ 12) (N : Int32) (eN : N.toInt = n) (r93 : ∀ x : Nat, x < Y → ja h0 93 x = jb ((jst2 a b Y) 0 x)) : ∀ (k j : Nat) (T : Int32) (L : Int64) (h : si_H) (ls : si_L), jM [(7, .int T), (5, .long L), (0, .ref (P.1 + 60)), (1, .int N)] ls → az_HI P az_tb h → az_same_out [(91, 1000000), (92, 1000000)] h0 h → T.toInt = j → 1 ≤ j → j + k = n → L.toInt = jsu (fun x => jff (jpA m r n B) (jst2 a b Y) Y (j - 1) x) Y → (∀ x : Nat, x < Y → jl h 91 x = jff (jpA m r n B) (jst2 a b Y) Y (j - 1) x) → az_X P (d + 4) 281 112 ls [] h (fun rv h' => ∃ z : Int32, rv = some (.int z) ∧ az_HI P az_tb h' ∧ az_same_out [(91, 1000000), (92, 1000000)] h0 h' ∧ z.toInt = jsu (fun x => jff (jpA m r n B) (jst2 a b Y) Y (n - 1) x) Y) := by
  have rx0 := rx
  obtain ⟨c1, c2, c3, c4, c5, c6, c7, c8, c9, c10, c11⟩ := rx
  intro k
  induction k with
  | zero =>
    intro j T L h ls hl hH hs eT j1 hj eL hd
    have rxh : jRX h m r Y n B a b := jRX_so hs (by decide) (by decide) (by decide) rx0
    have cap : jsu (fun x => jff (jpA m r n B) (jst2 a b Y) Y (j - 1) x) Y ≤ 429981696 := by
      have le : jsu (fun x => jff (jpA m r n B) (jst2 a b Y) Y (j - 1) x) Y ≤ jsu (fun x => jtw12 (j - 1) * (if jpA m r n B (j - 1) x = true then 1 else 0)) Y := jsu_le (fun x _ => by
        by_cases c : jpA m r n B (j - 1) x = true
        · rw [if_pos c, Int.mul_one]
          exact jff_bd hA12 _ _
        · rw [if_neg c, Int.mul_zero, jff_A c]
          exact Int.le_refl _)
      rw [jsu_mul] at le
      have m12 := Int.mul_le_mul_of_nonneg_left (hA12 (j - 1)) (jtw_nn (j - 1))
      have t8 := jtw_8 (k := j - 1 + 1) (by omega)
      have t9 : jtw12 (j - 1 + 1) = 12 * jtw12 (j - 1) := rfl
      omega
    have nn : 0 ≤ jsu (fun x => jff (jpA m r n B) (jst2 a b Y) Y (j - 1) x) Y := jsu_nn (fun x _ => jff_nn _ _ _ _ _)
    refine jm_iload (x := T) rfl rfl (jM_at hl 0 rfl) ?_
    refine jm_iload_n (x := N) rfl rfl (jM_at hl 3 rfl) ?_
    refine jx_ic (t := 132) rfl rfl rfl (fun hc115 => ?_) (fun hc115 => ?_)
    · have g115 := jc2_ge_t hc115
      refine jm_lload (x := L) rfl rfl (jM_at hl 1 rfl) ?_
      refine jn_l2i (a := L) rfl rfl (by omega) (by omega) (fun z134 ez134 => ?_)
      refine jx_ret rfl rfl rfl ?_
      exact ⟨z134, rfl, hH, hs, by rw [ez134, eL, show j = n by omega]⟩
    · have g115 := jc2_ge_f hc115
      exfalso
      omega
  | succ k ih =>
    intro j T L h ls hl hH hs eT j1 hj eL hd
    have rxh : jRX h m r Y n B a b := jRX_so hs (by decide) (by decide) (by decide) rx0
    refine jm_iload (x := T) rfl rfl (jM_at hl 0 rfl) ?_
    refine jm_iload_n (x := N) rfl rfl (jM_at hl 3 rfl) ?_
    refine jx_ic (t := 132) rfl rfl rfl (fun hc115 => ?_) (fun hc115 => ?_)
    · have g115 := jc2_ge_t hc115
      exfalso
      omega
    · have g115 := jc2_ge_f hc115
      refine jm_aload_n (x := P.1 + 60) rfl rfl (jM_at hl 2 rfl) ?_
      refine jm_iload (x := T) rfl rfl (jM_at hl 0 rfl) ?_
      refine az_X_call (m' := 275) (as := [.ref (P.1 + 60), .int T]) (rest := []) rfl rfl rfl rfl rfl ?_ ?_
      · unfold si_call
        dsimp only
        rw [if_pos ⟨rfl, rfl⟩]
        show (match si_ix P h (P.1 + 60) with | some i => _ | none => none) = _
        rw [jix hH (by decide)]
        dsimp only
        rw [(hH.2 60 _ rfl).1]
        rfl
      refine (gt_ok (d := d) hxa hH rxh (o := j - 1) (by omega) T (by omega) hd (fun x hx => by rw [jso_row (i := 93) hs (by decide)]; exact r93 x hx) hA12).mono ?_
      rintro rv121 h121 ⟨z121, rfl, hH121, hs121, f121⟩
      show az_X P _ 281 124 ls [.long z121] _ _
      refine jm_lstore (l' := [(5, .long z121), (7, .int T), (0, .ref (P.1 + 60)), (1, .int N)]) rfl rfl (by decide) hl rfl (fun ls124 hl124 => ?_)
      refine jn_iincg (x := T) rfl rfl (by decide) (jM_at hl124 1 rfl) hl124 (by decide) (by omega) (by omega) (fun z126 (ez126 : z126.toInt = T.toInt + 1) ls126 (hl126 : jM [(7, .int z126), (5, .long z121), (0, .ref (P.1 + 60)), (1, .int N)] ls126) => ?_)
      refine az_X_step (pc' := 112) (ls' := ls126) (st' := []) (h' := h121) rfl rfl rfl ?_
      refine ih (j + 1) z126 z121 h121 ls126 (jM_pick hl126 [0, 1, 2, 3] rfl) hH121 (hs.tr hs121) (by omega) (by omega) (by omega) (by rw [f121.1, show j + 1 - 1 = j - 1 + 1 by omega]) (fun x hx => ?_)
      rw [f121.2 x hx, show j + 1 - 1 = j - 1 + 1 by omega]
theorem photographs1_ok {P : si_P} (hxa : P.2.1 < P.1) {d : Nat} {h : si_H} (hH : az_HI P az_tb h) (hJ : js_1 h) (N D E W : Int32) : az_X P (d + 4) 281 0 (lv_args 0 [.ref (P.1 + 60), .int N, .int D, .int E, .int W]) [] h (fun rv h' => ∃ z : Int32, rv = some (.int z) ∧ az_HI P az_tb h' ∧ az_same_out [(60, 16), (91, 1000000), (92, 1000000), (93, 1000000), (94, 1000000), (95, 1000000)] h h' ∧ ((((1 ≤ N.toInt ∧ N.toInt ≤ 8) ∧ (0 ≤ D.toInt ∧ D.toInt ≤ E.toInt ∧ E.toInt ≤ 99) ∧ ((0 ≤ W.toInt ∧ W.toInt < N.toInt) ∨ W.toInt = 100) ∧ 2 * N.toInt ≤ ja h 60 16) ∧ ja h' 60 16 = 0 ∧ jPH (ja h 60 7) (ja h 60 8) (ja h 60 9).toNat N.toInt.toNat (fun i => ja h 71 i % 256) D.toInt E.toInt W.toInt z.toInt) ∨ (¬ ((1 ≤ N.toInt ∧ N.toInt ≤ 8) ∧ (0 ≤ D.toInt ∧ D.toInt ≤ E.toInt ∧ E.toInt ≤ 99) ∧ ((0 ≤ W.toInt ∧ W.toInt < N.toInt) ∨ W.toInt = 100) ∧ 2 * N.toInt ≤ ja h 60 16) ∧ ja h' 60 16 = ja h 60 16 ∧ z.toInt = -1))) := by
  obtain ⟨b1, b2, b3⟩ := dial_bd hH
  have hl : jM [(0, .ref (P.1 + 60)), (1, .int N), (2, .int D), (3, .int E), (4, .int W)] (lv_args 0 [.ref (P.1 + 60), .int N, .int D, .int E, .int W]) := jM_args [0, 1, 2, 3, 4] rfl (by decide)
  generalize lv_args 0 [.ref (P.1 + 60), .int N, .int D, .int E, .int W] = ls at hl
  have km3 : ((-3) : Int32).toInt = (-3) := by decide
  have km1 : ((-1) : Int32).toInt = (-1) := by decide
  have k0 : (0 : Int32).toInt = 0 := by decide
  have k1 : (1 : Int32).toInt = 1 := by decide
  have k2 : (2 : Int32).toInt = 2 := by decide
  have k8 : (8 : Int32).toInt = 8 := by decide
  have k99 : (99 : Int32).toInt = 99 := by decide
  have k100 : (100 : Int32).toInt = 100 := by decide
  refine jm_iload_n (x := N) rfl rfl (jM_at hl 1 rfl) ?_
  refine az_X_step (pc' := 2) (ls' := ls) (st' := [.int 1, .int N]) (h' := h) rfl rfl rfl ?_
  refine az_X_step (pc' := 4) (ls' := ls) (st' := [.int 8, .int 1, .int N]) (h' := h) rfl rfl rfl ?_
  refine az_X_call (m' := 202) (as := [.int N, .int 1, .int 8]) (rest := []) rfl rfl rfl rfl rfl rfl ?_
  refine (rin_ok N 1 8).mono ?_
  rintro rv4 h4 ⟨q4, z4, rfl, ez4⟩
  subst h4
  show az_X P _ 281 7 ls [.int z4] _ _
  refine jx_if (t := 59) rfl rfl rfl (fun hc7 => ?_) (fun hc7 => ?_)
  · have g7 := jc1_eq_t hc7
    refine az_X_step (pc' := 60) (ls' := ls) (st' := [.int (-1)]) (h' := h) rfl rfl rfl ?_
    refine jx_ret rfl rfl rfl ?_
    exact ⟨(-1), rfl, hH, az_same_out.rf, Or.inr ⟨by omega, rfl, by decide⟩⟩
  · have g7 := jc1_eq_f hc7
    refine jm_iload_n (x := D) rfl rfl (jM_at hl 2 rfl) ?_
    refine az_X_step (pc' := 12) (ls' := ls) (st' := [.int 0, .int D]) (h' := h) rfl rfl rfl ?_
    refine az_X_step (pc' := 14) (ls' := ls) (st' := [.int 99, .int 0, .int D]) (h' := h) rfl rfl rfl ?_
    refine az_X_call (m' := 202) (as := [.int D, .int 0, .int 99]) (rest := []) rfl rfl rfl rfl rfl rfl ?_
    refine (rin_ok D 0 99).mono ?_
    rintro rv14 h14 ⟨q14, z14, rfl, ez14⟩
    subst h14
    show az_X P _ 281 17 ls [.int z14] _ _
    refine jx_if (t := 59) rfl rfl rfl (fun hc17 => ?_) (fun hc17 => ?_)
    · have g17 := jc1_eq_t hc17
      refine az_X_step (pc' := 60) (ls' := ls) (st' := [.int (-1)]) (h' := h) rfl rfl rfl ?_
      refine jx_ret rfl rfl rfl ?_
      exact ⟨(-1), rfl, hH, az_same_out.rf, Or.inr ⟨by omega, rfl, by decide⟩⟩
    · have g17 := jc1_eq_f hc17
      refine jm_iload_n (x := E) rfl rfl (jM_at hl 3 rfl) ?_
      refine jm_iload_n (x := D) rfl rfl (jM_at hl 2 rfl) ?_
      refine az_X_step (pc' := 24) (ls' := ls) (st' := [.int 99, .int D, .int E]) (h' := h) rfl rfl rfl ?_
      refine az_X_call (m' := 202) (as := [.int E, .int D, .int 99]) (rest := []) rfl rfl rfl rfl rfl rfl ?_
      refine (rin_ok E D 99).mono ?_
      rintro rv24 h24 ⟨q24, z24, rfl, ez24⟩
      subst h24
      show az_X P _ 281 27 ls [.int z24] _ _
      refine jx_if (t := 59) rfl rfl rfl (fun hc27 => ?_) (fun hc27 => ?_)
      · have g27 := jc1_eq_t hc27
        refine az_X_step (pc' := 60) (ls' := ls) (st' := [.int (-1)]) (h' := h) rfl rfl rfl ?_
        refine jx_ret rfl rfl rfl ?_
        exact ⟨(-1), rfl, hH, az_same_out.rf, Or.inr ⟨by omega, rfl, by decide⟩⟩
      · have g27 := jc1_eq_f hc27
        refine jm_iload (x := W) rfl rfl (jM_at hl 4 rfl) ?_
        refine az_X_step (pc' := 33) (ls' := ls) (st' := [.int 0, .int W]) (h' := h) rfl rfl rfl ?_
        refine jm_iload_n (x := N) rfl rfl (jM_at hl 1 rfl) ?_
        refine az_X_step (pc' := 35) (ls' := ls) (st' := [.int 1, .int N, .int 0, .int W]) (h' := h) rfl rfl rfl ?_
        refine jn_sub (a := N) (b := 1) rfl rfl (by omega) (by omega) (fun z35 ez35 => ?_)
        rw [show (1 : Int32).toInt = 1 by decide] at ez35
        refine az_X_call (m' := 202) (as := [.int W, .int 0, .int z35]) (rest := []) rfl rfl rfl rfl rfl rfl ?_
        refine (rin_ok W 0 z35).mono ?_
        rintro rv36 h36 ⟨q36, z36, rfl, ez36⟩
        subst h36
        show az_X P _ 281 39 ls [.int z36] _ _
        refine jx_if (t := 49) rfl rfl rfl (fun hc39 => ?_) (fun hc39 => ?_)
        · have g39 := jc1_ne_t hc39
          refine az_X_step (pc' := 50) (ls' := ls) (st' := [.int 2]) (h' := h) rfl rfl rfl ?_
          refine jm_iload_n (x := N) rfl rfl (jM_at hl 1 rfl) ?_
          refine jn_mul (a := 2) (b := N) rfl rfl (by rw [show (2 : Int32).toInt = 2 by decide]; omega) (by rw [show (2 : Int32).toInt = 2 by decide]; omega) (fun z51 ez51 => ?_)
          rw [show (2 : Int32).toInt = 2 by decide] at ez51
          refine jm_aload_n (x := P.1 + 60) rfl rfl (jM_at hl 0 rfl) ?_
          refine jn_gf (i := 60) (k := 16) rfl rfl hH (by decide) (hH.2 60 _ rfl).1 rfl rfl (fun z53 (ez53 : z53.toInt = ja h 60 16) (bz53 : 0 ≤ z53.toInt ∧ z53.toInt ≤ 260) => ?_)
          refine jx_ic (t := 61) rfl rfl rfl (fun hc56 => ?_) (fun hc56 => ?_)
          · have g56 := jc2_le_t hc56
            refine jm_aload_n (x := P.1 + 60) rfl rfl (jM_at hl 0 rfl) ?_
            refine az_X_step (pc' := 63) (ls' := ls) (st' := [.int 0, .ref (P.1 + 60)]) (h' := h) rfl rfl rfl ?_
            refine jn_pf (i := 60) (k := 16) (x := 0) rfl rfl hH (by decide) rfl (hH.2 60 _ rfl).1 rfl rfl (by decide) (by decide) (by show 0 ≤ _; omega) (by show _ ≤ 260; omega) (fun h63 hH63 hs63 (t63 : ja h63 60 16 = (0 : Int32).toInt) => ?_)
            replace t63 : ja h63 60 16 = 0 := t63.trans (by decide)
            refine jm_aload_n (x := P.1 + 60) rfl rfl (jM_at hl 0 rfl) ?_
            refine jm_iload_n (x := N) rfl rfl (jM_at hl 1 rfl) ?_
            refine az_X_call (m' := 274) (as := [.ref (P.1 + 60), .int N]) (rest := []) rfl rfl rfl rfl rfl ?_ ?_
            · unfold si_call
              dsimp only
              rw [if_pos ⟨rfl, rfl⟩]
              show (match si_ix P h63 (P.1 + 60) with | some i => _ | none => none) = _
              rw [jix hH63 (by decide)]
              dsimp only
              rw [(hH63.2 60 _ rfl).1]
              rfl
            refine (am_ok (d := d + 2) hH63 (n := N.toInt.toNat) (by omega) N (by omega)).mono ?_
            rintro rv68 h68 ⟨q68, z68, rfl, ez68⟩
            subst h68
            show az_X P _ 281 71 ls [.int z68] _ _
            refine jx_if (t := 77) rfl rfl rfl (fun hc71 => ?_) (fun hc71 => ?_)
            · have g71 := jc1_ne_t hc71
              have y63 : ja h63 60 9 = ja h 60 9 := jso hs63 (by decide)
              have mk0 : ∀ i : Nat, i < 2 * N.toInt.toNat → ja h 71 i % 256 < ja h 60 7 := by
                rcases ez68 with ⟨-, q⟩ | ⟨q, -⟩
                · intro i hi
                  have := q i hi
                  rw [jso_row (i := 71) hs63 (by decide), (jso hs63 (by decide) : ja h63 60 7 = ja h 60 7)] at this
                  exact this
                · exact absurd q g71
              have rx63 : jRX h63 (ja h 60 7) (ja h 60 8) (ja h 60 9).toNat N.toInt.toNat (fun i => ja h 71 i % 256) D.toInt E.toInt := by
                refine ⟨jso hs63 (by decide), jso hs63 (by decide), b1, b2, by have := hJ.1; omega, by rw [y63]; omega, by omega, by omega, fun t ht => ?_, fun i hi => by rw [jso_row (i := 71) hs63 (by decide)], fun i hi => ⟨by show 0 ≤ ja h 71 i % 256; omega, mk0 i hi⟩⟩
                rw [jso_row (i := 68) hs63 (by decide)]
                exact hJ.2 t (by omega)
              have hA12 := jpA_12r (n := N.toInt.toNat) (B := (fun i => ja h 71 i % 256)) b1 b2 (show ja h 60 7 * ja h 60 8 = (((ja h 60 9).toNat : Nat) : Int) by have := hJ.1; omega) (fun i hi => ⟨by show 0 ≤ ja h 71 i % 256; omega, mk0 i hi⟩)
              refine jm_aload_n (x := P.1 + 60) rfl rfl (jM_at hl 0 rfl) ?_
              refine jm_iload_n (x := D) rfl rfl (jM_at hl 2 rfl) ?_
              refine jm_iload_n (x := E) rfl rfl (jM_at hl 3 rfl) ?_
              refine az_X_call (m' := 273) (as := [.ref (P.1 + 60), .int D, .int E]) (rest := []) rfl rfl rfl rfl rfl ?_ ?_
              · unfold si_call
                dsimp only
                rw [if_pos ⟨rfl, rfl⟩]
                show (match si_ix P h63 (P.1 + 60) with | some i => _ | none => none) = _
                rw [jix hH63 (by decide)]
                dsimp only
                rw [(hH63.2 60 _ rfl).1]
                rfl
              refine (ls_ok hH63 (Y := (ja h 60 9).toNat) (by omega) (by rw [y63]; omega) D E (by omega)).mono ?_
              rintro rv80 h80 ⟨rfl, hH80, hs80, f80⟩
              show az_X P _ 281 83 ls [] _ _
              refine jm_iload (x := W) rfl rfl (jM_at hl 4 rfl) ?_
              refine az_X_step (pc' := 87) (ls' := ls) (st' := [.int 100, .int W]) (h' := h80) rfl rfl rfl ?_
              refine jx_ic (t := 102) rfl rfl rfl (fun hc87 => ?_) (fun hc87 => ?_)
              · have g87 := jc2_eq_t hc87
                refine jm_aload_n (x := P.1 + 60) rfl rfl (jM_at hl 0 rfl) ?_
                refine az_X_step (pc' := 104) (ls' := ls) (st' := [.int 0, .ref (P.1 + 60)]) (h' := h80) rfl rfl rfl ?_
                refine az_X_call (m' := 276) (as := [.ref (P.1 + 60), .int 0]) (rest := []) rfl rfl rfl rfl rfl ?_ ?_
                · unfold si_call
                  dsimp only
                  rw [if_pos ⟨rfl, rfl⟩]
                  show (match si_ix P h80 (P.1 + 60) with | some i => _ | none => none) = _
                  rw [jix hH80 (by decide)]
                  dsimp only
                  rw [(hH80.2 60 _ rfl).1]
                  rfl
                refine (bw_ok (d := d) hxa hH80 (jRX_so hs80 (by decide) (by decide) (by decide) rx63)).mono ?_
                rintro rv104 h104 ⟨z104, rfl, hH104, hs104, f104⟩
                show az_X P _ 281 107 ls [.long z104] _ _
                refine jm_lstore (l' := [(5, .long z104), (0, .ref (P.1 + 60)), (1, .int N), (2, .int D), (3, .int E), (4, .int W)]) rfl rfl (by decide) hl rfl (fun ls107 hl107 => ?_)
                refine az_X_step (pc' := 110) (ls' := ls107) (st' := [.int 1]) (h' := h104) rfl rfl rfl ?_
                refine jm_istoreg (l' := [(7, .int 1), (5, .long z104), (0, .ref (P.1 + 60)), (1, .int N), (2, .int D), (3, .int E), (4, .int W)]) rfl rfl (by decide) hl107 rfl (fun ls110 hl110 => ?_)
                have rx80 := jRX_so hs80 (by decide) (by decide) (by decide) rx63
                refine (ph_l (d := d) hxa (h0 := h104) (jRX_so hs104 (by decide) (by decide) (by decide) rx80) hA12 N (by omega) (fun x hx => by rw [jso_row (i := 93) hs104 (by decide)]; exact f80 x hx) (N.toInt.toNat - 1) 1 1 z104 h104 ls110 (jM_pick hl110 [0, 1, 2, 3] rfl) hH104 az_same_out.rf (by decide) (by omega) (by omega) f104.1 f104.2).mono ?_
                rintro rv h9 ⟨z, q1, q2, q3, q4⟩
                exact ⟨z, q1, q2, (((hs63.sub (by decide)).tr ((hs80.sub (by decide)).tr (hs104.sub (by decide))))).tr (q3.sub (by decide)), Or.inl ⟨⟨by omega, by omega, by omega, by omega⟩, (jso q3 (by decide)).trans ((jso hs104 (by decide)).trans ((jso hs80 (by decide)).trans t63)), Or.inr ⟨mk0, Or.inl ⟨by omega, q4⟩⟩⟩⟩
              · have g87 := jc2_eq_f hc87
                refine jm_aload_n (x := P.1 + 60) rfl rfl (jM_at hl 0 rfl) ?_
                refine jm_iload_n (x := N) rfl rfl (jM_at hl 1 rfl) ?_
                refine az_X_call (m' := 277) (as := [.ref (P.1 + 60), .int N]) (rest := []) rfl rfl rfl rfl rfl ?_ ?_
                · unfold si_call
                  dsimp only
                  rw [if_pos ⟨rfl, rfl⟩]
                  show (match si_ix P h80 (P.1 + 60) with | some i => _ | none => none) = _
                  rw [jix hH80 (by decide)]
                  dsimp only
                  rw [(hH80.2 60 _ rfl).1]
                  rfl
                refine (lc_ok (d := d) hxa hH80 (jRX_so hs80 (by decide) (by decide) (by decide) rx63) N (by omega) f80).mono ?_
                rintro rv92 h92 ⟨rfl, hH92, hs92, f92⟩
                show az_X P _ 281 95 ls [] _ _
                refine jm_aload_n (x := P.1 + 60) rfl rfl (jM_at hl 0 rfl) ?_
                refine jm_iload (x := W) rfl rfl (jM_at hl 4 rfl) ?_
                refine az_X_call (m' := 280) (as := [.ref (P.1 + 60), .int W]) (rest := []) rfl rfl rfl rfl rfl ?_ ?_
                · unfold si_call
                  dsimp only
                  rw [if_pos ⟨rfl, rfl⟩]
                  show (match si_ix P h92 (P.1 + 60) with | some i => _ | none => none) = _
                  rw [jix hH92 (by decide)]
                  dsimp only
                  rw [(hH92.2 60 _ rfl).1]
                  rfl
                refine (so_ok hH92 (jRX_so hs92 (by decide) (by decide) (by decide) (jRX_so hs80 (by decide) (by decide) (by decide) rx63)) (i := W.toInt.toNat) (by omega) W (by omega) (f92 W.toInt.toNat (by omega))).mono ?_
                rintro rv98 h98 ⟨q98, z98, rfl, ez98⟩
                subst h98
                show az_X P _ 281 101 ls [.int z98] _ _
                refine jx_ret rfl rfl rfl ?_
                exact ⟨z98, rfl, hH92, ((hs63.sub (by decide)).tr ((hs80.sub (by decide)).tr (hs92.sub (by decide)))), Or.inl ⟨⟨by omega, by omega, by omega, by omega⟩, ((jso hs92 (by decide)).trans ((jso hs80 (by decide)).trans t63)), Or.inr ⟨mk0, Or.inr ⟨W.toInt.toNat, by omega, by omega, ez98⟩⟩⟩⟩
            · have g71 := jc1_ne_f hc71
              refine az_X_step (pc' := 76) (ls' := ls) (st' := [.int (-3)]) (h' := h63) rfl rfl rfl ?_
              refine jx_ret rfl rfl rfl ?_
              rcases ez68 with ⟨q, -⟩ | ⟨-, i, i1, i2⟩
              · omega
              · rw [jso_row (i := 71) hs63 (by decide), (jso hs63 (by decide) : ja h63 60 7 = ja h 60 7)] at i2
                exact ⟨(-3), rfl, hH63, (hs63.sub (by decide)), Or.inl ⟨⟨by omega, by omega, by omega, by omega⟩, t63, Or.inl ⟨⟨i, i1, i2⟩, by decide⟩⟩⟩
          · have g56 := jc2_le_f hc56
            refine az_X_step (pc' := 60) (ls' := ls) (st' := [.int (-1)]) (h' := h) rfl rfl rfl ?_
            refine jx_ret rfl rfl rfl ?_
            exact ⟨(-1), rfl, hH, az_same_out.rf, Or.inr ⟨by omega, rfl, by decide⟩⟩
        · have g39 := jc1_ne_f hc39
          refine jm_iload (x := W) rfl rfl (jM_at hl 4 rfl) ?_
          refine az_X_step (pc' := 46) (ls' := ls) (st' := [.int 100, .int W]) (h' := h) rfl rfl rfl ?_
          refine jx_ic (t := 59) rfl rfl rfl (fun hc46 => ?_) (fun hc46 => ?_)
          · have g46 := jc2_ne_t hc46
            refine az_X_step (pc' := 60) (ls' := ls) (st' := [.int (-1)]) (h' := h) rfl rfl rfl ?_
            refine jx_ret rfl rfl rfl ?_
            exact ⟨(-1), rfl, hH, az_same_out.rf, Or.inr ⟨by omega, rfl, by decide⟩⟩
          · have g46 := jc2_ne_f hc46
            refine az_X_step (pc' := 50) (ls' := ls) (st' := [.int 2]) (h' := h) rfl rfl rfl ?_
            refine jm_iload_n (x := N) rfl rfl (jM_at hl 1 rfl) ?_
            refine jn_mul (a := 2) (b := N) rfl rfl (by rw [show (2 : Int32).toInt = 2 by decide]; omega) (by rw [show (2 : Int32).toInt = 2 by decide]; omega) (fun z51 ez51 => ?_)
            rw [show (2 : Int32).toInt = 2 by decide] at ez51
            refine jm_aload_n (x := P.1 + 60) rfl rfl (jM_at hl 0 rfl) ?_
            refine jn_gf (i := 60) (k := 16) rfl rfl hH (by decide) (hH.2 60 _ rfl).1 rfl rfl (fun z53 (ez53 : z53.toInt = ja h 60 16) (bz53 : 0 ≤ z53.toInt ∧ z53.toInt ≤ 260) => ?_)
            refine jx_ic (t := 61) rfl rfl rfl (fun hc56 => ?_) (fun hc56 => ?_)
            · have g56 := jc2_le_t hc56
              refine jm_aload_n (x := P.1 + 60) rfl rfl (jM_at hl 0 rfl) ?_
              refine az_X_step (pc' := 63) (ls' := ls) (st' := [.int 0, .ref (P.1 + 60)]) (h' := h) rfl rfl rfl ?_
              refine jn_pf (i := 60) (k := 16) (x := 0) rfl rfl hH (by decide) rfl (hH.2 60 _ rfl).1 rfl rfl (by decide) (by decide) (by show 0 ≤ _; omega) (by show _ ≤ 260; omega) (fun h63 hH63 hs63 (t63 : ja h63 60 16 = (0 : Int32).toInt) => ?_)
              replace t63 : ja h63 60 16 = 0 := t63.trans (by decide)
              refine jm_aload_n (x := P.1 + 60) rfl rfl (jM_at hl 0 rfl) ?_
              refine jm_iload_n (x := N) rfl rfl (jM_at hl 1 rfl) ?_
              refine az_X_call (m' := 274) (as := [.ref (P.1 + 60), .int N]) (rest := []) rfl rfl rfl rfl rfl ?_ ?_
              · unfold si_call
                dsimp only
                rw [if_pos ⟨rfl, rfl⟩]
                show (match si_ix P h63 (P.1 + 60) with | some i => _ | none => none) = _
                rw [jix hH63 (by decide)]
                dsimp only
                rw [(hH63.2 60 _ rfl).1]
                rfl
              refine (am_ok (d := d + 2) hH63 (n := N.toInt.toNat) (by omega) N (by omega)).mono ?_
              rintro rv68 h68 ⟨q68, z68, rfl, ez68⟩
              subst h68
              show az_X P _ 281 71 ls [.int z68] _ _
              refine jx_if (t := 77) rfl rfl rfl (fun hc71 => ?_) (fun hc71 => ?_)
              · have g71 := jc1_ne_t hc71
                have y63 : ja h63 60 9 = ja h 60 9 := jso hs63 (by decide)
                have mk0 : ∀ i : Nat, i < 2 * N.toInt.toNat → ja h 71 i % 256 < ja h 60 7 := by
                  rcases ez68 with ⟨-, q⟩ | ⟨q, -⟩
                  · intro i hi
                    have := q i hi
                    rw [jso_row (i := 71) hs63 (by decide), (jso hs63 (by decide) : ja h63 60 7 = ja h 60 7)] at this
                    exact this
                  · exact absurd q g71
                have rx63 : jRX h63 (ja h 60 7) (ja h 60 8) (ja h 60 9).toNat N.toInt.toNat (fun i => ja h 71 i % 256) D.toInt E.toInt := by
                  refine ⟨jso hs63 (by decide), jso hs63 (by decide), b1, b2, by have := hJ.1; omega, by rw [y63]; omega, by omega, by omega, fun t ht => ?_, fun i hi => by rw [jso_row (i := 71) hs63 (by decide)], fun i hi => ⟨by show 0 ≤ ja h 71 i % 256; omega, mk0 i hi⟩⟩
                  rw [jso_row (i := 68) hs63 (by decide)]
                  exact hJ.2 t (by omega)
                have hA12 := jpA_12r (n := N.toInt.toNat) (B := (fun i => ja h 71 i % 256)) b1 b2 (show ja h 60 7 * ja h 60 8 = (((ja h 60 9).toNat : Nat) : Int) by have := hJ.1; omega) (fun i hi => ⟨by show 0 ≤ ja h 71 i % 256; omega, mk0 i hi⟩)
                refine jm_aload_n (x := P.1 + 60) rfl rfl (jM_at hl 0 rfl) ?_
                refine jm_iload_n (x := D) rfl rfl (jM_at hl 2 rfl) ?_
                refine jm_iload_n (x := E) rfl rfl (jM_at hl 3 rfl) ?_
                refine az_X_call (m' := 273) (as := [.ref (P.1 + 60), .int D, .int E]) (rest := []) rfl rfl rfl rfl rfl ?_ ?_
                · unfold si_call
                  dsimp only
                  rw [if_pos ⟨rfl, rfl⟩]
                  show (match si_ix P h63 (P.1 + 60) with | some i => _ | none => none) = _
                  rw [jix hH63 (by decide)]
                  dsimp only
                  rw [(hH63.2 60 _ rfl).1]
                  rfl
                refine (ls_ok hH63 (Y := (ja h 60 9).toNat) (by omega) (by rw [y63]; omega) D E (by omega)).mono ?_
                rintro rv80 h80 ⟨rfl, hH80, hs80, f80⟩
                show az_X P _ 281 83 ls [] _ _
                refine jm_iload (x := W) rfl rfl (jM_at hl 4 rfl) ?_
                refine az_X_step (pc' := 87) (ls' := ls) (st' := [.int 100, .int W]) (h' := h80) rfl rfl rfl ?_
                refine jx_ic (t := 102) rfl rfl rfl (fun hc87 => ?_) (fun hc87 => ?_)
                · have g87 := jc2_eq_t hc87
                  refine jm_aload_n (x := P.1 + 60) rfl rfl (jM_at hl 0 rfl) ?_
                  refine az_X_step (pc' := 104) (ls' := ls) (st' := [.int 0, .ref (P.1 + 60)]) (h' := h80) rfl rfl rfl ?_
                  refine az_X_call (m' := 276) (as := [.ref (P.1 + 60), .int 0]) (rest := []) rfl rfl rfl rfl rfl ?_ ?_
                  · unfold si_call
                    dsimp only
                    rw [if_pos ⟨rfl, rfl⟩]
                    show (match si_ix P h80 (P.1 + 60) with | some i => _ | none => none) = _
                    rw [jix hH80 (by decide)]
                    dsimp only
                    rw [(hH80.2 60 _ rfl).1]
                    rfl
                  refine (bw_ok (d := d) hxa hH80 (jRX_so hs80 (by decide) (by decide) (by decide) rx63)).mono ?_
                  rintro rv104 h104 ⟨z104, rfl, hH104, hs104, f104⟩
                  show az_X P _ 281 107 ls [.long z104] _ _
                  refine jm_lstore (l' := [(5, .long z104), (0, .ref (P.1 + 60)), (1, .int N), (2, .int D), (3, .int E), (4, .int W)]) rfl rfl (by decide) hl rfl (fun ls107 hl107 => ?_)
                  refine az_X_step (pc' := 110) (ls' := ls107) (st' := [.int 1]) (h' := h104) rfl rfl rfl ?_
                  refine jm_istoreg (l' := [(7, .int 1), (5, .long z104), (0, .ref (P.1 + 60)), (1, .int N), (2, .int D), (3, .int E), (4, .int W)]) rfl rfl (by decide) hl107 rfl (fun ls110 hl110 => ?_)
                  have rx80 := jRX_so hs80 (by decide) (by decide) (by decide) rx63
                  refine (ph_l (d := d) hxa (h0 := h104) (jRX_so hs104 (by decide) (by decide) (by decide) rx80) hA12 N (by omega) (fun x hx => by rw [jso_row (i := 93) hs104 (by decide)]; exact f80 x hx) (N.toInt.toNat - 1) 1 1 z104 h104 ls110 (jM_pick hl110 [0, 1, 2, 3] rfl) hH104 az_same_out.rf (by decide) (by omega) (by omega) f104.1 f104.2).mono ?_
                  rintro rv h9 ⟨z, q1, q2, q3, q4⟩
                  exact ⟨z, q1, q2, (((hs63.sub (by decide)).tr ((hs80.sub (by decide)).tr (hs104.sub (by decide))))).tr (q3.sub (by decide)), Or.inl ⟨⟨by omega, by omega, by omega, by omega⟩, (jso q3 (by decide)).trans ((jso hs104 (by decide)).trans ((jso hs80 (by decide)).trans t63)), Or.inr ⟨mk0, Or.inl ⟨by omega, q4⟩⟩⟩⟩
                · have g87 := jc2_eq_f hc87
                  refine jm_aload_n (x := P.1 + 60) rfl rfl (jM_at hl 0 rfl) ?_
                  refine jm_iload_n (x := N) rfl rfl (jM_at hl 1 rfl) ?_
                  refine az_X_call (m' := 277) (as := [.ref (P.1 + 60), .int N]) (rest := []) rfl rfl rfl rfl rfl ?_ ?_
                  · unfold si_call
                    dsimp only
                    rw [if_pos ⟨rfl, rfl⟩]
                    show (match si_ix P h80 (P.1 + 60) with | some i => _ | none => none) = _
                    rw [jix hH80 (by decide)]
                    dsimp only
                    rw [(hH80.2 60 _ rfl).1]
                    rfl
                  refine (lc_ok (d := d) hxa hH80 (jRX_so hs80 (by decide) (by decide) (by decide) rx63) N (by omega) f80).mono ?_
                  rintro rv92 h92 ⟨rfl, hH92, hs92, f92⟩
                  show az_X P _ 281 95 ls [] _ _
                  refine jm_aload_n (x := P.1 + 60) rfl rfl (jM_at hl 0 rfl) ?_
                  refine jm_iload (x := W) rfl rfl (jM_at hl 4 rfl) ?_
                  refine az_X_call (m' := 280) (as := [.ref (P.1 + 60), .int W]) (rest := []) rfl rfl rfl rfl rfl ?_ ?_
                  · unfold si_call
                    dsimp only
                    rw [if_pos ⟨rfl, rfl⟩]
                    show (match si_ix P h92 (P.1 + 60) with | some i => _ | none => none) = _
                    rw [jix hH92 (by decide)]
                    dsimp only
                    rw [(hH92.2 60 _ rfl).1]
                    rfl
                  refine (so_ok hH92 (jRX_so hs92 (by decide) (by decide) (by decide) (jRX_so hs80 (by decide) (by decide) (by decide) rx63)) (i := W.toInt.toNat) (by omega) W (by omega) (f92 W.toInt.toNat (by omega))).mono ?_
                  rintro rv98 h98 ⟨q98, z98, rfl, ez98⟩
                  subst h98
                  show az_X P _ 281 101 ls [.int z98] _ _
                  refine jx_ret rfl rfl rfl ?_
                  exact ⟨z98, rfl, hH92, ((hs63.sub (by decide)).tr ((hs80.sub (by decide)).tr (hs92.sub (by decide)))), Or.inl ⟨⟨by omega, by omega, by omega, by omega⟩, ((jso hs92 (by decide)).trans ((jso hs80 (by decide)).trans t63)), Or.inr ⟨mk0, Or.inr ⟨W.toInt.toNat, by omega, by omega, ez98⟩⟩⟩⟩
              · have g71 := jc1_ne_f hc71
                refine az_X_step (pc' := 76) (ls' := ls) (st' := [.int (-3)]) (h' := h63) rfl rfl rfl ?_
                refine jx_ret rfl rfl rfl ?_
                rcases ez68 with ⟨q, -⟩ | ⟨-, i, i1, i2⟩
                · omega
                · rw [jso_row (i := 71) hs63 (by decide), (jso hs63 (by decide) : ja h63 60 7 = ja h 60 7)] at i2
                  exact ⟨(-3), rfl, hH63, (hs63.sub (by decide)), Or.inl ⟨⟨by omega, by omega, by omega, by omega⟩, t63, Or.inl ⟨⟨i, i1, i2⟩, by decide⟩⟩⟩
            · have g56 := jc2_le_f hc56
              refine az_X_step (pc' := 60) (ls' := ls) (st' := [.int (-1)]) (h' := h) rfl rfl rfl ?_
              refine jx_ret rfl rfl rfl ?_
              exact ⟨(-1), rfl, hH, az_same_out.rf, Or.inr ⟨by omega, rfl, by decide⟩⟩
theorem jpA_cg {m r : Int} {n : Nat} {B C : Nat → Int} (h : ∀ i : Nat, i < 2 * n → B i = C i) : jpA m r n B = jpA m r n C := by
  funext i t
  unfold jpA jLk
  by_cases hi : i < n
  · rw [h (2 * i) (by omega), h (2 * i + 1) (by omega)]
  · rw [decide_eq_false (fun q => hi q.1), decide_eq_false (fun q => hi q.1)]
theorem jPH_cg {m r : Int} {Y n : Nat} {B C : Nat → Int} {a b w z u : Int} (hn : n ≤ 8) (h : ∀ i : Nat, i < 2 * n → B i = C i) (h1 : jPH m r Y n B a b w z) (h2 : jPH m r Y n C a b w u) : z = u := by
  have e := jpA_cg (m := m) (r := r) h
  have e2 : jPH m r Y n C a b w z := by
    rcases h1 with ⟨⟨i, i1, i2⟩, a2⟩ | ⟨a1, a2⟩
    · exact Or.inl ⟨⟨i, i1, by rw [← h i i1]; exact i2⟩, a2⟩
    · refine Or.inr ⟨fun i hi => by rw [← h i hi]; exact a1 i hi, ?_⟩
      unfold jcan at *
      rw [e] at a2
      exact a2
  exact jPH_un hn e2 h2
