set_option maxRecDepth 100000
/-! THE BYTES OF A TAPE -/
set_option maxRecDepth 100000
theorem jn_a255 (y : Int32) : (y &&& 255).toInt = y.toInt % 256 := by
  have h1 : (y &&& 255).toBitVec.toNat = y.toBitVec.toNat % 256 := by
    rw [show (y &&& 255).toBitVec = y.toBitVec &&& (255 : Int32).toBitVec from rfl, BitVec.toNat_and]
    exact Nat.and_two_pow_sub_one_eq_mod _ 8
  have h2 := nm_ofnat (x := y &&& 255) (by rw [h1]; omega)
  have hl := y.toBitVec.isLt
  rw [h2, h1]
  have e : y.toInt = y.toBitVec.toInt := rfl
  rw [e, BitVec.toInt_eq_toNat_cond]
  split <;> omega
theorem jn_b256 (y : Int32) : y.toInt8.toInt32.toInt % 256 = y.toInt % 256 := by
  rw [Int8.toInt_toInt32, Int32.toInt_toInt8]
  exact @Int.bmod_emod y.toInt 256
theorem jn_a255b (y : Int32) : 0 ≤ (y &&& 255).toInt ∧ (y &&& 255).toInt ≤ 255 := by
  rw [jn_a255]
  omega
def jby (x : Int32) : Nat → Int
  | 0 => (x >>> (24 &&& 31)).toInt % 256
  | 1 => (x >>> (16 &&& 31)).toInt % 256
  | 2 => (x >>> (8 &&& 31)).toInt % 256
  | _ => (x >>> (0 &&& 31)).toInt % 256
def jap (A : Nat → Int) (L : Int) (x : Int32) (i : Nat) : Int := if (i : Int) < L then A i else jby x ((i : Int) - L).toNat
theorem jap_0 {f A : Nat → Int} {L : Int} {x : Int32} (hA : ∀ i : Nat, (i : Int) < L → f i = A i) : ∀ i : Nat, (i : Int) < L + ((0 : Nat) : Int) → f i = jap A L x i := fun i hi => by
  unfold jap
  rw [if_pos (by omega)]
  exact hA i (by omega)
theorem jap_s {g : Int → Int} {c : Nat} {h h1 h2 : si_H} {md : List (Nat × Nat)} {A : Nat → Int} {L : Int} {x : Int32} {k : Nat} {z : Int} (hF : ∀ i : Nat, (i : Int) < L + (k : Int) → g (ja h c i) = jap A L x i) (hL : 0 ≤ L) (ez : z = L + k) (t : g (ja h1 c z) = jby x k) (u : ∀ j : Int, 0 ≤ j → j ≠ z → ja h1 c j = ja h c j) (hs : az_same_out md h1 h2) (hm : md.all (fun x => decide (x.1 ≠ c)) = true) : ∀ i : Nat, (i : Int) < L + ((k + 1 : Nat) : Int) → g (ja h2 c i) = jap A L x i := by
  intro i hi
  rw [jso_row hs hm]
  by_cases e : (i : Int) = z
  · rw [e, t]
    unfold jap
    rw [if_neg (by omega), show ((i : Int) - L).toNat = k by omega]
  · rw [u i (by omega) e]
    exact hF i (by omega)
theorem tadd_ok {P : si_P} {d : Nat} {h : si_H} (hH : az_HI P az_tb h) (x : Int32) {A : Nat → Int} (hl0 : ja h 12 1 ≤ 256) (hA : ∀ i : Nat, (i : Int) < ja h 12 1 → ja h 13 i = A i) : az_X P d 140 0 (lv_args 0 [.ref (P.1 + 12), .int x]) [] h (fun rv h' => rv = none ∧ az_HI P az_tb h' ∧ az_same_out [(12, 1), (13, 1000000)] h h' ∧ ja h' 12 1 = ja h 12 1 + 4 ∧ ∀ i : Nat, (i : Int) < ja h 12 1 + 4 → ja h' 13 i = jap A (ja h 12 1) x i) := by
  have b0 : 0 ≤ ja h 12 1 ∧ ja h 12 1 ≤ 260 := ja_bd hH (i := 12) (k := 1) rfl
  have F0 := jap_0 (f := fun i => ja h 13 i) (x := x) hA
  have hl : jM [(0, .ref (P.1 + 12)), (1, .int x)] (lv_args 0 [.ref (P.1 + 12), .int x]) := jM_args [0, 1] rfl (by decide)
  generalize lv_args 0 [.ref (P.1 + 12), .int x] = ls at hl
  have km8 : ((-8) : Int32).toInt = (-8) := by decide
  have k0 : (0 : Int32).toInt = 0 := by decide
  have k1 : (1 : Int32).toInt = 1 := by decide
  have k8 : (8 : Int32).toInt = 8 := by decide
  have k16 : (16 : Int32).toInt = 16 := by decide
  have k24 : (24 : Int32).toInt = 24 := by decide
  have k255 : (255 : Int32).toInt = 255 := by decide
  have k260 : (260 : Int32).toInt = 260 := by decide
  refine az_X_step (pc' := 2) (ls' := ls) (st' := [.int 24]) (h' := h) rfl rfl rfl ?_
  refine jm_istore_n (l' := [(2, .int 24), (0, .ref (P.1 + 12)), (1, .int x)]) rfl rfl (by decide) hl rfl rfl (fun ls2 hl2 => ?_)
  refine jm_iload_n (x := 24) rfl rfl (jM_at hl2 0 rfl) ?_
  refine jn_ifd (t := 49) (c := false) rfl rfl rfl (by decide) ?_
  show az_X P _ 140 7 ls2 [] _ _
  refine jm_aload_n (x := P.1 + 12) rfl rfl (jM_at hl2 1 rfl) ?_
  refine jn_gf (i := 12) (k := 1) rfl rfl hH (by decide) (hH.2 12 _ rfl).1 rfl rfl (fun z8 (ez8 : z8.toInt = ja h 12 1) (bz8 : 0 ≤ z8.toInt ∧ z8.toInt ≤ 260) => ?_)
  refine az_X_step (pc' := 14) (ls' := ls2) (st' := [.int 260, .int z8]) (h' := h) rfl rfl rfl ?_
  refine jx_ic (t := 49) rfl rfl rfl (fun hc14 => ?_) (fun hc14 => ?_)
  · have g14 := jc2_ge_t hc14
    refine jn_retv rfl rfl rfl ?_
    exfalso
    omega
  · have g14 := jc2_ge_f hc14
    refine jm_aload_n (x := P.1 + 12) rfl rfl (jM_at hl2 1 rfl) ?_
    refine jx_gf (i := 12) rfl rfl hH (by decide) (hH.2 12 _ rfl).1 rfl (jx_rf hH rfl rfl) ?_
    refine jm_aload_n (x := P.1 + 12) rfl rfl (jM_at hl2 1 rfl) ?_
    refine jn_gf (i := 12) (k := 1) rfl rfl hH (by decide) (hH.2 12 _ rfl).1 rfl rfl (fun z22 (ez22 : z22.toInt = ja h 12 1) (bz22 : 0 ≤ z22.toInt ∧ z22.toInt ≤ 260) => ?_)
    refine jm_iload_n (x := x) rfl rfl (jM_at hl2 2 rfl) ?_
    refine jm_iload_n (x := 24) rfl rfl (jM_at hl2 0 rfl) ?_
    refine az_X_step (pc' := 28) (ls' := ls2) (st' := [.int (x >>> (24 &&& 31)), .int z22, .ref (P.1 + 13)]) (h' := h) rfl rfl rfl ?_
    refine az_X_step (pc' := 31) (ls' := ls2) (st' := [.int 255, .int (x >>> (24 &&& 31)), .int z22, .ref (P.1 + 13)]) (h' := h) rfl rfl rfl ?_
    refine az_X_step (pc' := 32) (ls' := ls2) (st' := [.int ((x >>> (24 &&& 31)) &&& 255), .int z22, .ref (P.1 + 13)]) (h' := h) rfl rfl rfl ?_
    refine jn_ias (i := 13) (x := z22) (v := ((x >>> (24 &&& 31)) &&& 255)) rfl rfl hH (by decide) rfl (by omega) (by show _ < ((260 : Nat) : Int); omega) (jn_a255b _).1 (jn_a255b _).2 (fun h32 hH32 hs32 t32 u32 => ?_)
    refine jm_aload_n (x := P.1 + 12) rfl rfl (jM_at hl2 1 rfl) ?_
    refine az_X_step (pc' := 35) (ls' := ls2) (st' := [.ref (P.1 + 12), .ref (P.1 + 12)]) (h' := h32) rfl rfl rfl ?_
    refine jn_gf (i := 12) (k := 1) rfl rfl hH32 (by decide) (hH32.2 12 _ rfl).1 rfl rfl (fun z35 (ez35 : z35.toInt = ja h32 12 1) (bz35 : 0 ≤ z35.toInt ∧ z35.toInt ≤ 260) => ?_)
    replace ez35 : z35.toInt = ja h 12 1 := ez35.trans (jso hs32 (by decide))
    refine az_X_step (pc' := 39) (ls' := ls2) (st' := [.int 1, .int z35, .ref (P.1 + 12)]) (h' := h32) rfl rfl rfl ?_
    refine jn_add (a := z35) (b := 1) rfl rfl (by omega) (by omega) (fun z39 ez39 => ?_)
    rw [show (1 : Int32).toInt = 1 by decide] at ez39
    refine jn_pf (i := 12) (k := 1) (x := z39) rfl rfl hH32 (by decide) rfl (hH32.2 12 _ rfl).1 rfl rfl (by decide) (by decide) (by show 0 ≤ _; omega) (by show _ ≤ 260; omega) (fun h40 hH40 hs40 (t40 : ja h40 12 1 = z39.toInt) => ?_)
    have F1 := jap_s (g := fun x => x) (c := 13) (k := 0) F0 b0.1 (show z22.toInt = ja h 12 1 + ((0 : Nat) : Int) by omega) (t32.trans (jn_a255 _)) u32 hs40 (by decide)
    refine jm_iinc (x := 24) (x' := 16) (l' := [(2, .int 16), (0, .ref (P.1 + 12)), (1, .int x)]) rfl rfl (by decide) (jM_at hl2 0 rfl) (by decide) hl2 rfl rfl (fun ls43 hl43 => ?_)
    refine az_X_step (pc' := 3) (ls' := ls43) (st' := []) (h' := h40) rfl rfl rfl ?_
    refine jm_iload_n (x := 16) rfl rfl (jM_at hl43 0 rfl) ?_
    refine jn_ifd (t := 49) (c := false) rfl rfl rfl (by decide) ?_
    show az_X P _ 140 7 ls43 [] _ _
    refine jm_aload_n (x := P.1 + 12) rfl rfl (jM_at hl43 1 rfl) ?_
    refine jn_gf (i := 12) (k := 1) rfl rfl hH40 (by decide) (hH40.2 12 _ rfl).1 rfl rfl (fun z8_2 (ez8_2 : z8_2.toInt = ja h40 12 1) (bz8_2 : 0 ≤ z8_2.toInt ∧ z8_2.toInt ≤ 260) => ?_)
    replace ez8_2 : z8_2.toInt = z39.toInt := ez8_2.trans t40
    refine az_X_step (pc' := 14) (ls' := ls43) (st' := [.int 260, .int z8_2]) (h' := h40) rfl rfl rfl ?_
    refine jx_ic (t := 49) rfl rfl rfl (fun hc14_2 => ?_) (fun hc14_2 => ?_)
    · have g14_2 := jc2_ge_t hc14_2
      refine jn_retv rfl rfl rfl ?_
      exfalso
      omega
    · have g14_2 := jc2_ge_f hc14_2
      refine jm_aload_n (x := P.1 + 12) rfl rfl (jM_at hl43 1 rfl) ?_
      refine jx_gf (i := 12) rfl rfl hH40 (by decide) (hH40.2 12 _ rfl).1 rfl (jx_rf hH40 rfl rfl) ?_
      refine jm_aload_n (x := P.1 + 12) rfl rfl (jM_at hl43 1 rfl) ?_
      refine jn_gf (i := 12) (k := 1) rfl rfl hH40 (by decide) (hH40.2 12 _ rfl).1 rfl rfl (fun z22_2 (ez22_2 : z22_2.toInt = ja h40 12 1) (bz22_2 : 0 ≤ z22_2.toInt ∧ z22_2.toInt ≤ 260) => ?_)
      replace ez22_2 : z22_2.toInt = z39.toInt := ez22_2.trans t40
      refine jm_iload_n (x := x) rfl rfl (jM_at hl43 2 rfl) ?_
      refine jm_iload_n (x := 16) rfl rfl (jM_at hl43 0 rfl) ?_
      refine az_X_step (pc' := 28) (ls' := ls43) (st' := [.int (x >>> (16 &&& 31)), .int z22_2, .ref (P.1 + 13)]) (h' := h40) rfl rfl rfl ?_
      refine az_X_step (pc' := 31) (ls' := ls43) (st' := [.int 255, .int (x >>> (16 &&& 31)), .int z22_2, .ref (P.1 + 13)]) (h' := h40) rfl rfl rfl ?_
      refine az_X_step (pc' := 32) (ls' := ls43) (st' := [.int ((x >>> (16 &&& 31)) &&& 255), .int z22_2, .ref (P.1 + 13)]) (h' := h40) rfl rfl rfl ?_
      refine jn_ias (i := 13) (x := z22_2) (v := ((x >>> (16 &&& 31)) &&& 255)) rfl rfl hH40 (by decide) rfl (by omega) (by show _ < ((260 : Nat) : Int); omega) (jn_a255b _).1 (jn_a255b _).2 (fun h32_2 hH32_2 hs32_2 t32_2 u32_2 => ?_)
      refine jm_aload_n (x := P.1 + 12) rfl rfl (jM_at hl43 1 rfl) ?_
      refine az_X_step (pc' := 35) (ls' := ls43) (st' := [.ref (P.1 + 12), .ref (P.1 + 12)]) (h' := h32_2) rfl rfl rfl ?_
      refine jn_gf (i := 12) (k := 1) rfl rfl hH32_2 (by decide) (hH32_2.2 12 _ rfl).1 rfl rfl (fun z35_2 (ez35_2 : z35_2.toInt = ja h32_2 12 1) (bz35_2 : 0 ≤ z35_2.toInt ∧ z35_2.toInt ≤ 260) => ?_)
      replace ez35_2 : z35_2.toInt = z39.toInt := ez35_2.trans ((jso hs32_2 (by decide)).trans t40)
      refine az_X_step (pc' := 39) (ls' := ls43) (st' := [.int 1, .int z35_2, .ref (P.1 + 12)]) (h' := h32_2) rfl rfl rfl ?_
      refine jn_add (a := z35_2) (b := 1) rfl rfl (by omega) (by omega) (fun z39_2 ez39_2 => ?_)
      rw [show (1 : Int32).toInt = 1 by decide] at ez39_2
      refine jn_pf (i := 12) (k := 1) (x := z39_2) rfl rfl hH32_2 (by decide) rfl (hH32_2.2 12 _ rfl).1 rfl rfl (by decide) (by decide) (by show 0 ≤ _; omega) (by show _ ≤ 260; omega) (fun h40_2 hH40_2 hs40_2 (t40_2 : ja h40_2 12 1 = z39_2.toInt) => ?_)
      have F2 := jap_s (g := fun x => x) (c := 13) (k := 1) F1 b0.1 (show z22_2.toInt = ja h 12 1 + ((1 : Nat) : Int) by omega) (t32_2.trans (jn_a255 _)) u32_2 hs40_2 (by decide)
      refine jm_iinc (x := 16) (x' := 8) (l' := [(2, .int 8), (0, .ref (P.1 + 12)), (1, .int x)]) rfl rfl (by decide) (jM_at hl43 0 rfl) (by decide) hl43 rfl rfl (fun ls43_2 hl43_2 => ?_)
      refine az_X_step (pc' := 3) (ls' := ls43_2) (st' := []) (h' := h40_2) rfl rfl rfl ?_
      refine jm_iload_n (x := 8) rfl rfl (jM_at hl43_2 0 rfl) ?_
      refine jn_ifd (t := 49) (c := false) rfl rfl rfl (by decide) ?_
      show az_X P _ 140 7 ls43_2 [] _ _
      refine jm_aload_n (x := P.1 + 12) rfl rfl (jM_at hl43_2 1 rfl) ?_
      refine jn_gf (i := 12) (k := 1) rfl rfl hH40_2 (by decide) (hH40_2.2 12 _ rfl).1 rfl rfl (fun z8_3 (ez8_3 : z8_3.toInt = ja h40_2 12 1) (bz8_3 : 0 ≤ z8_3.toInt ∧ z8_3.toInt ≤ 260) => ?_)
      replace ez8_3 : z8_3.toInt = z39_2.toInt := ez8_3.trans t40_2
      refine az_X_step (pc' := 14) (ls' := ls43_2) (st' := [.int 260, .int z8_3]) (h' := h40_2) rfl rfl rfl ?_
      refine jx_ic (t := 49) rfl rfl rfl (fun hc14_3 => ?_) (fun hc14_3 => ?_)
      · have g14_3 := jc2_ge_t hc14_3
        refine jn_retv rfl rfl rfl ?_
        exfalso
        omega
      · have g14_3 := jc2_ge_f hc14_3
        refine jm_aload_n (x := P.1 + 12) rfl rfl (jM_at hl43_2 1 rfl) ?_
        refine jx_gf (i := 12) rfl rfl hH40_2 (by decide) (hH40_2.2 12 _ rfl).1 rfl (jx_rf hH40_2 rfl rfl) ?_
        refine jm_aload_n (x := P.1 + 12) rfl rfl (jM_at hl43_2 1 rfl) ?_
        refine jn_gf (i := 12) (k := 1) rfl rfl hH40_2 (by decide) (hH40_2.2 12 _ rfl).1 rfl rfl (fun z22_3 (ez22_3 : z22_3.toInt = ja h40_2 12 1) (bz22_3 : 0 ≤ z22_3.toInt ∧ z22_3.toInt ≤ 260) => ?_)
        replace ez22_3 : z22_3.toInt = z39_2.toInt := ez22_3.trans t40_2
        refine jm_iload_n (x := x) rfl rfl (jM_at hl43_2 2 rfl) ?_
        refine jm_iload_n (x := 8) rfl rfl (jM_at hl43_2 0 rfl) ?_
        refine az_X_step (pc' := 28) (ls' := ls43_2) (st' := [.int (x >>> (8 &&& 31)), .int z22_3, .ref (P.1 + 13)]) (h' := h40_2) rfl rfl rfl ?_
        refine az_X_step (pc' := 31) (ls' := ls43_2) (st' := [.int 255, .int (x >>> (8 &&& 31)), .int z22_3, .ref (P.1 + 13)]) (h' := h40_2) rfl rfl rfl ?_
        refine az_X_step (pc' := 32) (ls' := ls43_2) (st' := [.int ((x >>> (8 &&& 31)) &&& 255), .int z22_3, .ref (P.1 + 13)]) (h' := h40_2) rfl rfl rfl ?_
        refine jn_ias (i := 13) (x := z22_3) (v := ((x >>> (8 &&& 31)) &&& 255)) rfl rfl hH40_2 (by decide) rfl (by omega) (by show _ < ((260 : Nat) : Int); omega) (jn_a255b _).1 (jn_a255b _).2 (fun h32_3 hH32_3 hs32_3 t32_3 u32_3 => ?_)
        refine jm_aload_n (x := P.1 + 12) rfl rfl (jM_at hl43_2 1 rfl) ?_
        refine az_X_step (pc' := 35) (ls' := ls43_2) (st' := [.ref (P.1 + 12), .ref (P.1 + 12)]) (h' := h32_3) rfl rfl rfl ?_
        refine jn_gf (i := 12) (k := 1) rfl rfl hH32_3 (by decide) (hH32_3.2 12 _ rfl).1 rfl rfl (fun z35_3 (ez35_3 : z35_3.toInt = ja h32_3 12 1) (bz35_3 : 0 ≤ z35_3.toInt ∧ z35_3.toInt ≤ 260) => ?_)
        replace ez35_3 : z35_3.toInt = z39_2.toInt := ez35_3.trans ((jso hs32_3 (by decide)).trans t40_2)
        refine az_X_step (pc' := 39) (ls' := ls43_2) (st' := [.int 1, .int z35_3, .ref (P.1 + 12)]) (h' := h32_3) rfl rfl rfl ?_
        refine jn_add (a := z35_3) (b := 1) rfl rfl (by omega) (by omega) (fun z39_3 ez39_3 => ?_)
        rw [show (1 : Int32).toInt = 1 by decide] at ez39_3
        refine jn_pf (i := 12) (k := 1) (x := z39_3) rfl rfl hH32_3 (by decide) rfl (hH32_3.2 12 _ rfl).1 rfl rfl (by decide) (by decide) (by show 0 ≤ _; omega) (by show _ ≤ 260; omega) (fun h40_3 hH40_3 hs40_3 (t40_3 : ja h40_3 12 1 = z39_3.toInt) => ?_)
        have F3 := jap_s (g := fun x => x) (c := 13) (k := 2) F2 b0.1 (show z22_3.toInt = ja h 12 1 + ((2 : Nat) : Int) by omega) (t32_3.trans (jn_a255 _)) u32_3 hs40_3 (by decide)
        refine jm_iinc (x := 8) (x' := 0) (l' := [(2, .int 0), (0, .ref (P.1 + 12)), (1, .int x)]) rfl rfl (by decide) (jM_at hl43_2 0 rfl) (by decide) hl43_2 rfl rfl (fun ls43_3 hl43_3 => ?_)
        refine az_X_step (pc' := 3) (ls' := ls43_3) (st' := []) (h' := h40_3) rfl rfl rfl ?_
        refine jm_iload_n (x := 0) rfl rfl (jM_at hl43_3 0 rfl) ?_
        refine jn_ifd (t := 49) (c := false) rfl rfl rfl (by decide) ?_
        show az_X P _ 140 7 ls43_3 [] _ _
        refine jm_aload_n (x := P.1 + 12) rfl rfl (jM_at hl43_3 1 rfl) ?_
        refine jn_gf (i := 12) (k := 1) rfl rfl hH40_3 (by decide) (hH40_3.2 12 _ rfl).1 rfl rfl (fun z8_4 (ez8_4 : z8_4.toInt = ja h40_3 12 1) (bz8_4 : 0 ≤ z8_4.toInt ∧ z8_4.toInt ≤ 260) => ?_)
        replace ez8_4 : z8_4.toInt = z39_3.toInt := ez8_4.trans t40_3
        refine az_X_step (pc' := 14) (ls' := ls43_3) (st' := [.int 260, .int z8_4]) (h' := h40_3) rfl rfl rfl ?_
        refine jx_ic (t := 49) rfl rfl rfl (fun hc14_4 => ?_) (fun hc14_4 => ?_)
        · have g14_4 := jc2_ge_t hc14_4
          refine jn_retv rfl rfl rfl ?_
          exfalso
          omega
        · have g14_4 := jc2_ge_f hc14_4
          refine jm_aload_n (x := P.1 + 12) rfl rfl (jM_at hl43_3 1 rfl) ?_
          refine jx_gf (i := 12) rfl rfl hH40_3 (by decide) (hH40_3.2 12 _ rfl).1 rfl (jx_rf hH40_3 rfl rfl) ?_
          refine jm_aload_n (x := P.1 + 12) rfl rfl (jM_at hl43_3 1 rfl) ?_
          refine jn_gf (i := 12) (k := 1) rfl rfl hH40_3 (by decide) (hH40_3.2 12 _ rfl).1 rfl rfl (fun z22_4 (ez22_4 : z22_4.toInt = ja h40_3 12 1) (bz22_4 : 0 ≤ z22_4.toInt ∧ z22_4.toInt ≤ 260) => ?_)
          replace ez22_4 : z22_4.toInt = z39_3.toInt := ez22_4.trans t40_3
          refine jm_iload_n (x := x) rfl rfl (jM_at hl43_3 2 rfl) ?_
          refine jm_iload_n (x := 0) rfl rfl (jM_at hl43_3 0 rfl) ?_
          refine az_X_step (pc' := 28) (ls' := ls43_3) (st' := [.int (x >>> (0 &&& 31)), .int z22_4, .ref (P.1 + 13)]) (h' := h40_3) rfl rfl rfl ?_
          refine az_X_step (pc' := 31) (ls' := ls43_3) (st' := [.int 255, .int (x >>> (0 &&& 31)), .int z22_4, .ref (P.1 + 13)]) (h' := h40_3) rfl rfl rfl ?_
          refine az_X_step (pc' := 32) (ls' := ls43_3) (st' := [.int ((x >>> (0 &&& 31)) &&& 255), .int z22_4, .ref (P.1 + 13)]) (h' := h40_3) rfl rfl rfl ?_
          refine jn_ias (i := 13) (x := z22_4) (v := ((x >>> (0 &&& 31)) &&& 255)) rfl rfl hH40_3 (by decide) rfl (by omega) (by show _ < ((260 : Nat) : Int); omega) (jn_a255b _).1 (jn_a255b _).2 (fun h32_4 hH32_4 hs32_4 t32_4 u32_4 => ?_)
          refine jm_aload_n (x := P.1 + 12) rfl rfl (jM_at hl43_3 1 rfl) ?_
          refine az_X_step (pc' := 35) (ls' := ls43_3) (st' := [.ref (P.1 + 12), .ref (P.1 + 12)]) (h' := h32_4) rfl rfl rfl ?_
          refine jn_gf (i := 12) (k := 1) rfl rfl hH32_4 (by decide) (hH32_4.2 12 _ rfl).1 rfl rfl (fun z35_4 (ez35_4 : z35_4.toInt = ja h32_4 12 1) (bz35_4 : 0 ≤ z35_4.toInt ∧ z35_4.toInt ≤ 260) => ?_)
          replace ez35_4 : z35_4.toInt = z39_3.toInt := ez35_4.trans ((jso hs32_4 (by decide)).trans t40_3)
          refine az_X_step (pc' := 39) (ls' := ls43_3) (st' := [.int 1, .int z35_4, .ref (P.1 + 12)]) (h' := h32_4) rfl rfl rfl ?_
          refine jn_add (a := z35_4) (b := 1) rfl rfl (by omega) (by omega) (fun z39_4 ez39_4 => ?_)
          rw [show (1 : Int32).toInt = 1 by decide] at ez39_4
          refine jn_pf (i := 12) (k := 1) (x := z39_4) rfl rfl hH32_4 (by decide) rfl (hH32_4.2 12 _ rfl).1 rfl rfl (by decide) (by decide) (by show 0 ≤ _; omega) (by show _ ≤ 260; omega) (fun h40_4 hH40_4 hs40_4 (t40_4 : ja h40_4 12 1 = z39_4.toInt) => ?_)
          have F4 := jap_s (g := fun x => x) (c := 13) (k := 3) F3 b0.1 (show z22_4.toInt = ja h 12 1 + ((3 : Nat) : Int) by omega) (t32_4.trans (jn_a255 _)) u32_4 hs40_4 (by decide)
          refine jm_iinc (x := 0) (x' := (-8)) (l' := [(2, .int (-8)), (0, .ref (P.1 + 12)), (1, .int x)]) rfl rfl (by decide) (jM_at hl43_3 0 rfl) (by decide) hl43_3 rfl rfl (fun ls43_4 hl43_4 => ?_)
          refine az_X_step (pc' := 3) (ls' := ls43_4) (st' := []) (h' := h40_4) rfl rfl rfl ?_
          refine jm_iload_n (x := (-8)) rfl rfl (jM_at hl43_4 0 rfl) ?_
          refine jn_ifd (t := 49) (c := true) rfl rfl rfl (by decide) ?_
          show az_X P _ 140 49 ls43_4 [] _ _
          refine jn_retv rfl rfl rfl ?_
          exact ⟨rfl, hH40_4, ((hs32.sub (by decide)).tr ((hs40.sub (by decide)).tr ((hs32_2.sub (by decide)).tr ((hs40_2.sub (by decide)).tr ((hs32_3.sub (by decide)).tr ((hs40_3.sub (by decide)).tr ((hs32_4.sub (by decide)).tr (hs40_4.sub (by decide))))))))), t40_4.trans (by omega), fun i hi => F4 i (by omega)⟩
theorem rtypes_ok {P : si_P} {d : Nat} {h : si_H} (hH : az_HI P az_tb h) (x : Int32) {A : Nat → Int} (hl0 : ja h 60 16 ≤ 256) (hA : ∀ i : Nat, (i : Int) < ja h 60 16 → ja h 71 i % 256 = A i) : az_X P d 237 0 (lv_args 0 [.ref (P.1 + 60), .int x]) [] h (fun rv h' => rv = none ∧ az_HI P az_tb h' ∧ az_same_out [(60, 16), (71, 1000000)] h h' ∧ ja h' 60 16 = ja h 60 16 + 4 ∧ ∀ i : Nat, (i : Int) < ja h 60 16 + 4 → ja h' 71 i % 256 = jap A (ja h 60 16) x i) := by
  have b0 : 0 ≤ ja h 60 16 ∧ ja h 60 16 ≤ 260 := ja_bd hH (i := 60) (k := 16) rfl
  have F0 := jap_0 (f := fun i => ja h 71 i % 256) (x := x) hA
  have hl : jM [(0, .ref (P.1 + 60)), (1, .int x)] (lv_args 0 [.ref (P.1 + 60), .int x]) := jM_args [0, 1] rfl (by decide)
  generalize lv_args 0 [.ref (P.1 + 60), .int x] = ls at hl
  have km1 : ((-1) : Int32).toInt = (-1) := by decide
  have k0 : (0 : Int32).toInt = 0 := by decide
  have k1 : (1 : Int32).toInt = 1 := by decide
  have k2 : (2 : Int32).toInt = 2 := by decide
  have k3 : (3 : Int32).toInt = 3 := by decide
  have k8 : (8 : Int32).toInt = 8 := by decide
  have k16 : (16 : Int32).toInt = 16 := by decide
  have k24 : (24 : Int32).toInt = 24 := by decide
  refine az_X_step (pc' := 1) (ls' := ls) (st' := [.int 3]) (h' := h) rfl rfl rfl ?_
  refine jm_istore_n (l' := [(2, .int 3), (0, .ref (P.1 + 60)), (1, .int x)]) rfl rfl (by decide) hl rfl rfl (fun ls1 hl1 => ?_)
  refine jm_iload_n (x := 3) rfl rfl (jM_at hl1 0 rfl) ?_
  refine jn_ifd (t := 38) (c := false) rfl rfl rfl (by decide) ?_
  show az_X P _ 237 6 ls1 [] _ _
  refine jm_aload_n (x := P.1 + 60) rfl rfl (jM_at hl1 1 rfl) ?_
  refine jx_gf (i := 60) rfl rfl hH (by decide) (hH.2 60 _ rfl).1 rfl (jx_rf hH rfl rfl) ?_
  refine jm_aload_n (x := P.1 + 60) rfl rfl (jM_at hl1 1 rfl) ?_
  refine jn_gf (i := 60) (k := 16) rfl rfl hH (by decide) (hH.2 60 _ rfl).1 rfl rfl (fun z11 (ez11 : z11.toInt = ja h 60 16) (bz11 : 0 ≤ z11.toInt ∧ z11.toInt ≤ 260) => ?_)
  refine jm_iload_n (x := x) rfl rfl (jM_at hl1 2 rfl) ?_
  refine az_X_step (pc' := 17) (ls' := ls1) (st' := [.int 8, .int x, .int z11, .ref (P.1 + 71)]) (h' := h) rfl rfl rfl ?_
  refine jm_iload_n (x := 3) rfl rfl (jM_at hl1 0 rfl) ?_
  refine az_X_step (pc' := 19) (ls' := ls1) (st' := [.int 24, .int x, .int z11, .ref (P.1 + 71)]) (h' := h) rfl rfl (show some (_, _, Value.int (8 * 3) :: _, _) = _ by rw [show (8 * 3 : Int32) = 24 by decide]) ?_
  refine az_X_step (pc' := 20) (ls' := ls1) (st' := [.int (x >>> (24 &&& 31)), .int z11, .ref (P.1 + 71)]) (h' := h) rfl rfl rfl ?_
  refine az_X_step (pc' := 21) (ls' := ls1) (st' := [.int ((x >>> (24 &&& 31)).toInt8.toInt32), .int z11, .ref (P.1 + 71)]) (h' := h) rfl rfl rfl ?_
  refine jn_bas (i := 71) (x := z11) (v := ((x >>> (24 &&& 31)).toInt8.toInt32)) rfl rfl hH (by decide) rfl (by omega) (by show _ < ((260 : Nat) : Int); omega) (by decide) (by decide) (fun h21 hH21 hs21 t21 u21 => ?_)
  refine jm_aload_n (x := P.1 + 60) rfl rfl (jM_at hl1 1 rfl) ?_
  refine jm_aload_n (x := P.1 + 60) rfl rfl (jM_at hl1 1 rfl) ?_
  refine jn_gf (i := 60) (k := 16) rfl rfl hH21 (by decide) (hH21.2 60 _ rfl).1 rfl rfl (fun z24 (ez24 : z24.toInt = ja h21 60 16) (bz24 : 0 ≤ z24.toInt ∧ z24.toInt ≤ 260) => ?_)
  replace ez24 : z24.toInt = ja h 60 16 := ez24.trans (jso hs21 (by decide))
  refine az_X_step (pc' := 28) (ls' := ls1) (st' := [.int 1, .int z24, .ref (P.1 + 60)]) (h' := h21) rfl rfl rfl ?_
  refine jn_add (a := z24) (b := 1) rfl rfl (by omega) (by omega) (fun z28 ez28 => ?_)
  rw [show (1 : Int32).toInt = 1 by decide] at ez28
  refine jn_pf (i := 60) (k := 16) (x := z28) rfl rfl hH21 (by decide) rfl (hH21.2 60 _ rfl).1 rfl rfl (by decide) (by decide) (by show 0 ≤ _; omega) (by show _ ≤ 260; omega) (fun h29 hH29 hs29 (t29 : ja h29 60 16 = z28.toInt) => ?_)
  have F1 := jap_s (g := fun x => x % 256) (c := 71) (k := 0) F0 b0.1 (show z11.toInt = ja h 60 16 + ((0 : Nat) : Int) by omega) (by show ja _ _ _ % 256 = _; rw [t21, jn_b256, jn_b256]; rfl) u21 hs29 (by decide)
  refine jm_iinc (x := 3) (x' := 2) (l' := [(2, .int 2), (0, .ref (P.1 + 60)), (1, .int x)]) rfl rfl (by decide) (jM_at hl1 0 rfl) (by decide) hl1 rfl rfl (fun ls32 hl32 => ?_)
  refine az_X_step (pc' := 2) (ls' := ls32) (st' := []) (h' := h29) rfl rfl rfl ?_
  refine jm_iload_n (x := 2) rfl rfl (jM_at hl32 0 rfl) ?_
  refine jn_ifd (t := 38) (c := false) rfl rfl rfl (by decide) ?_
  show az_X P _ 237 6 ls32 [] _ _
  refine jm_aload_n (x := P.1 + 60) rfl rfl (jM_at hl32 1 rfl) ?_
  refine jx_gf (i := 60) rfl rfl hH29 (by decide) (hH29.2 60 _ rfl).1 rfl (jx_rf hH29 rfl rfl) ?_
  refine jm_aload_n (x := P.1 + 60) rfl rfl (jM_at hl32 1 rfl) ?_
  refine jn_gf (i := 60) (k := 16) rfl rfl hH29 (by decide) (hH29.2 60 _ rfl).1 rfl rfl (fun z11_2 (ez11_2 : z11_2.toInt = ja h29 60 16) (bz11_2 : 0 ≤ z11_2.toInt ∧ z11_2.toInt ≤ 260) => ?_)
  replace ez11_2 : z11_2.toInt = z28.toInt := ez11_2.trans t29
  refine jm_iload_n (x := x) rfl rfl (jM_at hl32 2 rfl) ?_
  refine az_X_step (pc' := 17) (ls' := ls32) (st' := [.int 8, .int x, .int z11_2, .ref (P.1 + 71)]) (h' := h29) rfl rfl rfl ?_
  refine jm_iload_n (x := 2) rfl rfl (jM_at hl32 0 rfl) ?_
  refine az_X_step (pc' := 19) (ls' := ls32) (st' := [.int 16, .int x, .int z11_2, .ref (P.1 + 71)]) (h' := h29) rfl rfl (show some (_, _, Value.int (8 * 2) :: _, _) = _ by rw [show (8 * 2 : Int32) = 16 by decide]) ?_
  refine az_X_step (pc' := 20) (ls' := ls32) (st' := [.int (x >>> (16 &&& 31)), .int z11_2, .ref (P.1 + 71)]) (h' := h29) rfl rfl rfl ?_
  refine az_X_step (pc' := 21) (ls' := ls32) (st' := [.int ((x >>> (16 &&& 31)).toInt8.toInt32), .int z11_2, .ref (P.1 + 71)]) (h' := h29) rfl rfl rfl ?_
  refine jn_bas (i := 71) (x := z11_2) (v := ((x >>> (16 &&& 31)).toInt8.toInt32)) rfl rfl hH29 (by decide) rfl (by omega) (by show _ < ((260 : Nat) : Int); omega) (by decide) (by decide) (fun h21_2 hH21_2 hs21_2 t21_2 u21_2 => ?_)
  refine jm_aload_n (x := P.1 + 60) rfl rfl (jM_at hl32 1 rfl) ?_
  refine jm_aload_n (x := P.1 + 60) rfl rfl (jM_at hl32 1 rfl) ?_
  refine jn_gf (i := 60) (k := 16) rfl rfl hH21_2 (by decide) (hH21_2.2 60 _ rfl).1 rfl rfl (fun z24_2 (ez24_2 : z24_2.toInt = ja h21_2 60 16) (bz24_2 : 0 ≤ z24_2.toInt ∧ z24_2.toInt ≤ 260) => ?_)
  replace ez24_2 : z24_2.toInt = z28.toInt := ez24_2.trans ((jso hs21_2 (by decide)).trans t29)
  refine az_X_step (pc' := 28) (ls' := ls32) (st' := [.int 1, .int z24_2, .ref (P.1 + 60)]) (h' := h21_2) rfl rfl rfl ?_
  refine jn_add (a := z24_2) (b := 1) rfl rfl (by omega) (by omega) (fun z28_2 ez28_2 => ?_)
  rw [show (1 : Int32).toInt = 1 by decide] at ez28_2
  refine jn_pf (i := 60) (k := 16) (x := z28_2) rfl rfl hH21_2 (by decide) rfl (hH21_2.2 60 _ rfl).1 rfl rfl (by decide) (by decide) (by show 0 ≤ _; omega) (by show _ ≤ 260; omega) (fun h29_2 hH29_2 hs29_2 (t29_2 : ja h29_2 60 16 = z28_2.toInt) => ?_)
  have F2 := jap_s (g := fun x => x % 256) (c := 71) (k := 1) F1 b0.1 (show z11_2.toInt = ja h 60 16 + ((1 : Nat) : Int) by omega) (by show ja _ _ _ % 256 = _; rw [t21_2, jn_b256, jn_b256]; rfl) u21_2 hs29_2 (by decide)
  refine jm_iinc (x := 2) (x' := 1) (l' := [(2, .int 1), (0, .ref (P.1 + 60)), (1, .int x)]) rfl rfl (by decide) (jM_at hl32 0 rfl) (by decide) hl32 rfl rfl (fun ls32_2 hl32_2 => ?_)
  refine az_X_step (pc' := 2) (ls' := ls32_2) (st' := []) (h' := h29_2) rfl rfl rfl ?_
  refine jm_iload_n (x := 1) rfl rfl (jM_at hl32_2 0 rfl) ?_
  refine jn_ifd (t := 38) (c := false) rfl rfl rfl (by decide) ?_
  show az_X P _ 237 6 ls32_2 [] _ _
  refine jm_aload_n (x := P.1 + 60) rfl rfl (jM_at hl32_2 1 rfl) ?_
  refine jx_gf (i := 60) rfl rfl hH29_2 (by decide) (hH29_2.2 60 _ rfl).1 rfl (jx_rf hH29_2 rfl rfl) ?_
  refine jm_aload_n (x := P.1 + 60) rfl rfl (jM_at hl32_2 1 rfl) ?_
  refine jn_gf (i := 60) (k := 16) rfl rfl hH29_2 (by decide) (hH29_2.2 60 _ rfl).1 rfl rfl (fun z11_3 (ez11_3 : z11_3.toInt = ja h29_2 60 16) (bz11_3 : 0 ≤ z11_3.toInt ∧ z11_3.toInt ≤ 260) => ?_)
  replace ez11_3 : z11_3.toInt = z28_2.toInt := ez11_3.trans t29_2
  refine jm_iload_n (x := x) rfl rfl (jM_at hl32_2 2 rfl) ?_
  refine az_X_step (pc' := 17) (ls' := ls32_2) (st' := [.int 8, .int x, .int z11_3, .ref (P.1 + 71)]) (h' := h29_2) rfl rfl rfl ?_
  refine jm_iload_n (x := 1) rfl rfl (jM_at hl32_2 0 rfl) ?_
  refine az_X_step (pc' := 19) (ls' := ls32_2) (st' := [.int 8, .int x, .int z11_3, .ref (P.1 + 71)]) (h' := h29_2) rfl rfl (show some (_, _, Value.int (8 * 1) :: _, _) = _ by rw [show (8 * 1 : Int32) = 8 by decide]) ?_
  refine az_X_step (pc' := 20) (ls' := ls32_2) (st' := [.int (x >>> (8 &&& 31)), .int z11_3, .ref (P.1 + 71)]) (h' := h29_2) rfl rfl rfl ?_
  refine az_X_step (pc' := 21) (ls' := ls32_2) (st' := [.int ((x >>> (8 &&& 31)).toInt8.toInt32), .int z11_3, .ref (P.1 + 71)]) (h' := h29_2) rfl rfl rfl ?_
  refine jn_bas (i := 71) (x := z11_3) (v := ((x >>> (8 &&& 31)).toInt8.toInt32)) rfl rfl hH29_2 (by decide) rfl (by omega) (by show _ < ((260 : Nat) : Int); omega) (by decide) (by decide) (fun h21_3 hH21_3 hs21_3 t21_3 u21_3 => ?_)
  refine jm_aload_n (x := P.1 + 60) rfl rfl (jM_at hl32_2 1 rfl) ?_
  refine jm_aload_n (x := P.1 + 60) rfl rfl (jM_at hl32_2 1 rfl) ?_
  refine jn_gf (i := 60) (k := 16) rfl rfl hH21_3 (by decide) (hH21_3.2 60 _ rfl).1 rfl rfl (fun z24_3 (ez24_3 : z24_3.toInt = ja h21_3 60 16) (bz24_3 : 0 ≤ z24_3.toInt ∧ z24_3.toInt ≤ 260) => ?_)
  replace ez24_3 : z24_3.toInt = z28_2.toInt := ez24_3.trans ((jso hs21_3 (by decide)).trans t29_2)
  refine az_X_step (pc' := 28) (ls' := ls32_2) (st' := [.int 1, .int z24_3, .ref (P.1 + 60)]) (h' := h21_3) rfl rfl rfl ?_
  refine jn_add (a := z24_3) (b := 1) rfl rfl (by omega) (by omega) (fun z28_3 ez28_3 => ?_)
  rw [show (1 : Int32).toInt = 1 by decide] at ez28_3
  refine jn_pf (i := 60) (k := 16) (x := z28_3) rfl rfl hH21_3 (by decide) rfl (hH21_3.2 60 _ rfl).1 rfl rfl (by decide) (by decide) (by show 0 ≤ _; omega) (by show _ ≤ 260; omega) (fun h29_3 hH29_3 hs29_3 (t29_3 : ja h29_3 60 16 = z28_3.toInt) => ?_)
  have F3 := jap_s (g := fun x => x % 256) (c := 71) (k := 2) F2 b0.1 (show z11_3.toInt = ja h 60 16 + ((2 : Nat) : Int) by omega) (by show ja _ _ _ % 256 = _; rw [t21_3, jn_b256, jn_b256]; rfl) u21_3 hs29_3 (by decide)
  refine jm_iinc (x := 1) (x' := 0) (l' := [(2, .int 0), (0, .ref (P.1 + 60)), (1, .int x)]) rfl rfl (by decide) (jM_at hl32_2 0 rfl) (by decide) hl32_2 rfl rfl (fun ls32_3 hl32_3 => ?_)
  refine az_X_step (pc' := 2) (ls' := ls32_3) (st' := []) (h' := h29_3) rfl rfl rfl ?_
  refine jm_iload_n (x := 0) rfl rfl (jM_at hl32_3 0 rfl) ?_
  refine jn_ifd (t := 38) (c := false) rfl rfl rfl (by decide) ?_
  show az_X P _ 237 6 ls32_3 [] _ _
  refine jm_aload_n (x := P.1 + 60) rfl rfl (jM_at hl32_3 1 rfl) ?_
  refine jx_gf (i := 60) rfl rfl hH29_3 (by decide) (hH29_3.2 60 _ rfl).1 rfl (jx_rf hH29_3 rfl rfl) ?_
  refine jm_aload_n (x := P.1 + 60) rfl rfl (jM_at hl32_3 1 rfl) ?_
  refine jn_gf (i := 60) (k := 16) rfl rfl hH29_3 (by decide) (hH29_3.2 60 _ rfl).1 rfl rfl (fun z11_4 (ez11_4 : z11_4.toInt = ja h29_3 60 16) (bz11_4 : 0 ≤ z11_4.toInt ∧ z11_4.toInt ≤ 260) => ?_)
  replace ez11_4 : z11_4.toInt = z28_3.toInt := ez11_4.trans t29_3
  refine jm_iload_n (x := x) rfl rfl (jM_at hl32_3 2 rfl) ?_
  refine az_X_step (pc' := 17) (ls' := ls32_3) (st' := [.int 8, .int x, .int z11_4, .ref (P.1 + 71)]) (h' := h29_3) rfl rfl rfl ?_
  refine jm_iload_n (x := 0) rfl rfl (jM_at hl32_3 0 rfl) ?_
  refine az_X_step (pc' := 19) (ls' := ls32_3) (st' := [.int 0, .int x, .int z11_4, .ref (P.1 + 71)]) (h' := h29_3) rfl rfl (show some (_, _, Value.int (8 * 0) :: _, _) = _ by rw [show (8 * 0 : Int32) = 0 by decide]) ?_
  refine az_X_step (pc' := 20) (ls' := ls32_3) (st' := [.int (x >>> (0 &&& 31)), .int z11_4, .ref (P.1 + 71)]) (h' := h29_3) rfl rfl rfl ?_
  refine az_X_step (pc' := 21) (ls' := ls32_3) (st' := [.int ((x >>> (0 &&& 31)).toInt8.toInt32), .int z11_4, .ref (P.1 + 71)]) (h' := h29_3) rfl rfl rfl ?_
  refine jn_bas (i := 71) (x := z11_4) (v := ((x >>> (0 &&& 31)).toInt8.toInt32)) rfl rfl hH29_3 (by decide) rfl (by omega) (by show _ < ((260 : Nat) : Int); omega) (by decide) (by decide) (fun h21_4 hH21_4 hs21_4 t21_4 u21_4 => ?_)
  refine jm_aload_n (x := P.1 + 60) rfl rfl (jM_at hl32_3 1 rfl) ?_
  refine jm_aload_n (x := P.1 + 60) rfl rfl (jM_at hl32_3 1 rfl) ?_
  refine jn_gf (i := 60) (k := 16) rfl rfl hH21_4 (by decide) (hH21_4.2 60 _ rfl).1 rfl rfl (fun z24_4 (ez24_4 : z24_4.toInt = ja h21_4 60 16) (bz24_4 : 0 ≤ z24_4.toInt ∧ z24_4.toInt ≤ 260) => ?_)
  replace ez24_4 : z24_4.toInt = z28_3.toInt := ez24_4.trans ((jso hs21_4 (by decide)).trans t29_3)
  refine az_X_step (pc' := 28) (ls' := ls32_3) (st' := [.int 1, .int z24_4, .ref (P.1 + 60)]) (h' := h21_4) rfl rfl rfl ?_
  refine jn_add (a := z24_4) (b := 1) rfl rfl (by omega) (by omega) (fun z28_4 ez28_4 => ?_)
  rw [show (1 : Int32).toInt = 1 by decide] at ez28_4
  refine jn_pf (i := 60) (k := 16) (x := z28_4) rfl rfl hH21_4 (by decide) rfl (hH21_4.2 60 _ rfl).1 rfl rfl (by decide) (by decide) (by show 0 ≤ _; omega) (by show _ ≤ 260; omega) (fun h29_4 hH29_4 hs29_4 (t29_4 : ja h29_4 60 16 = z28_4.toInt) => ?_)
  have F4 := jap_s (g := fun x => x % 256) (c := 71) (k := 3) F3 b0.1 (show z11_4.toInt = ja h 60 16 + ((3 : Nat) : Int) by omega) (by show ja _ _ _ % 256 = _; rw [t21_4, jn_b256, jn_b256]; rfl) u21_4 hs29_4 (by decide)
  refine jm_iinc (x := 0) (x' := (-1)) (l' := [(2, .int (-1)), (0, .ref (P.1 + 60)), (1, .int x)]) rfl rfl (by decide) (jM_at hl32_3 0 rfl) (by decide) hl32_3 rfl rfl (fun ls32_4 hl32_4 => ?_)
  refine az_X_step (pc' := 2) (ls' := ls32_4) (st' := []) (h' := h29_4) rfl rfl rfl ?_
  refine jm_iload_n (x := (-1)) rfl rfl (jM_at hl32_4 0 rfl) ?_
  refine jn_ifd (t := 38) (c := true) rfl rfl rfl (by decide) ?_
  show az_X P _ 237 38 ls32_4 [] _ _
  refine jn_retv rfl rfl rfl ?_
  exact ⟨rfl, hH29_4, ((hs21.sub (by decide)).tr ((hs29.sub (by decide)).tr ((hs21_2.sub (by decide)).tr ((hs29_2.sub (by decide)).tr ((hs21_3.sub (by decide)).tr ((hs29_3.sub (by decide)).tr ((hs21_4.sub (by decide)).tr (hs29_4.sub (by decide))))))))), t29_4.trans (by omega), fun i hi => F4 i (by omega)⟩
theorem troom_ok {P : si_P} {d : Nat} {h : si_H} (hH : az_HI P az_tb h) (n : Int32) (hn : 0 ≤ n.toInt ∧ n.toInt ≤ 1000) : az_X P d 139 0 (lv_args 0 [.ref (P.1 + 12), .int n]) [] h (fun rv h' => h' = h ∧ ∃ z : Int32, rv = some (.int z) ∧ ((z.toInt = 1 ∧ ja h 12 1 + n.toInt ≤ 260) ∨ (z.toInt = 0 ∧ 260 < ja h 12 1 + n.toInt))) := by
  have hl : jM [(0, .ref (P.1 + 12)), (1, .int n)] (lv_args 0 [.ref (P.1 + 12), .int n]) := jM_args [0, 1] rfl (by decide)
  generalize lv_args 0 [.ref (P.1 + 12), .int n] = ls at hl
  have k0 : (0 : Int32).toInt = 0 := by decide
  have k1 : (1 : Int32).toInt = 1 := by decide
  have k260 : (260 : Int32).toInt = 260 := by decide
  refine jm_aload_n (x := P.1 + 12) rfl rfl (jM_at hl 0 rfl) ?_
  refine jn_gf (i := 12) (k := 1) rfl rfl hH (by decide) (hH.2 12 _ rfl).1 rfl rfl (fun z1 (ez1 : z1.toInt = ja h 12 1) (bz1 : 0 ≤ z1.toInt ∧ z1.toInt ≤ 260) => ?_)
  refine jm_iload_n (x := n) rfl rfl (jM_at hl 1 rfl) ?_
  refine jn_add (a := z1) (b := n) rfl rfl (by omega) (by omega) (fun z5 ez5 => ?_)
  refine az_X_step (pc' := 9) (ls' := ls) (st' := [.int 260, .int z5]) (h' := h) rfl rfl rfl ?_
  refine jx_ic (t := 16) rfl rfl rfl (fun hc9 => ?_) (fun hc9 => ?_)
  · have g9 := jc2_gt_t hc9
    refine az_X_step (pc' := 17) (ls' := ls) (st' := [.int 0]) (h' := h) rfl rfl rfl ?_
    refine jx_retz rfl rfl rfl (by decide) ?_
    exact ⟨rfl, 0, rfl, by omega⟩
  · have g9 := jc2_gt_f hc9
    refine az_X_step (pc' := 13) (ls' := ls) (st' := [.int 1]) (h' := h) rfl rfl rfl ?_
    refine az_X_step (pc' := 17) (ls' := ls) (st' := [.int 1]) (h' := h) rfl rfl rfl ?_
    refine jx_retz rfl rfl rfl (by decide) ?_
    exact ⟨rfl, 1, rfl, by omega⟩
theorem tsize_ok {P : si_P} {d : Nat} {h : si_H} (hH : az_HI P az_tb h) : az_X P d 137 0 (lv_args 0 [.ref (P.1 + 12)]) [] h (fun rv h' => h' = h ∧ jV rv (ja h 12 1)) := by
  have hl : jM [(0, .ref (P.1 + 12))] (lv_args 0 [.ref (P.1 + 12)]) := jM_args [0] rfl (by decide)
  generalize lv_args 0 [.ref (P.1 + 12)] = ls at hl
  refine jm_aload_n (x := P.1 + 12) rfl rfl (jM_at hl 0 rfl) ?_
  refine jn_gf (i := 12) (k := 1) rfl rfl hH (by decide) (hH.2 12 _ rfl).1 rfl rfl (fun z1 (ez1 : z1.toInt = ja h 12 1) (bz1 : 0 ≤ z1.toInt ∧ z1.toInt ≤ 260) => ?_)
  refine jx_ret rfl rfl rfl ?_
  exact ⟨rfl, z1, rfl, ez1⟩
theorem feed0b_ok {P : si_P} {d : Nat} {h : si_H} (hH : az_HI P az_tb h) (a b c v x : Int32) {A : Nat → Int} (hA : ∀ i : Nat, (i : Int) < ja h 12 1 → ja h 13 i = A i) : az_X P (d + 1) 145 0 (lv_args 0 [.ref (P.1 + 0), .int a, .int b, .int c, .int v, .int x]) [] h (fun rv h1 => ∃ w : Int32, rv = some (.int w) ∧ az_HI P az_tb h1 ∧ az_same_out [(12, 1), (13, 1000000)] h h1 ∧ ((ja h 12 1 ≤ 240 ∧ w.toInt = ja h 12 1 + 20 ∧ ja h1 12 1 = ja h 12 1 + 20 ∧ ∀ i : Nat, (i : Int) < ja h 12 1 + 20 → ja h1 13 i = jap (jap (jap (jap (jap A (ja h 12 1) a) ((ja h 12 1) + 4) b) ((ja h 12 1) + 8) c) ((ja h 12 1) + 12) v) ((ja h 12 1) + 16) x i) ∨ (240 < ja h 12 1 ∧ w.toInt = -1 ∧ h1 = h))) := by
  have b0 : 0 ≤ ja h 12 1 ∧ ja h 12 1 ≤ 260 := ja_bd hH (i := 12) (k := 1) rfl
  have hl : jM [(0, .ref (P.1 + 0)), (1, .int a), (2, .int b), (3, .int c), (4, .int v), (5, .int x)] (lv_args 0 [.ref (P.1 + 0), .int a, .int b, .int c, .int v, .int x]) := jM_args [0, 1, 2, 3, 4, 5] rfl (by decide)
  generalize lv_args 0 [.ref (P.1 + 0), .int a, .int b, .int c, .int v, .int x] = ls at hl
  have km1 : ((-1) : Int32).toInt = (-1) := by decide
  have k0 : (0 : Int32).toInt = 0 := by decide
  have k20 : (20 : Int32).toInt = 20 := by decide
  refine jm_aload_n (x := P.1 + 0) rfl rfl (jM_at hl 0 rfl) ?_
  refine jx_gf (i := 0) rfl rfl hH (by decide) (hH.2 0 _ rfl).1 rfl (jx_rf hH rfl rfl) ?_
  refine az_X_step (pc' := 6) (ls' := ls) (st' := [.int 20, .ref (P.1 + 12)]) (h' := h) rfl rfl rfl ?_
  refine az_X_call (m' := 139) (as := [.ref (P.1 + 12), .int 20]) (rest := []) rfl rfl rfl rfl rfl ?_ ?_
  · unfold si_call
    dsimp only
    rw [if_pos ⟨rfl, rfl⟩]
    show (match si_ix P h (P.1 + 12) with | some i => _ | none => none) = _
    rw [jix hH (by decide)]
    dsimp only
    rw [(hH.2 12 _ rfl).1]
    rfl
  refine (troom_ok hH 20 (by decide)).mono ?_
  rintro rv6 h6 ⟨q6, z6, rfl, ez6⟩
  subst h6
  show az_X P _ 145 9 ls [.int z6] _ _
  refine jx_if (t := 14) rfl rfl rfl (fun hc9 => ?_) (fun hc9 => ?_)
  · have g9 := jc1_ne_t hc9
    refine jm_aload_n (x := P.1 + 0) rfl rfl (jM_at hl 0 rfl) ?_
    refine jx_gf (i := 0) rfl rfl hH (by decide) (hH.2 0 _ rfl).1 rfl (jx_rf hH rfl rfl) ?_
    refine jm_iload_n (x := a) rfl rfl (jM_at hl 1 rfl) ?_
    refine az_X_call (m' := 140) (as := [.ref (P.1 + 12), .int a]) (rest := []) rfl rfl rfl rfl rfl ?_ ?_
    · unfold si_call
      dsimp only
      rw [if_pos ⟨rfl, rfl⟩]
      show (match si_ix P h (P.1 + 12) with | some i => _ | none => none) = _
      rw [jix hH (by decide)]
      dsimp only
      rw [(hH.2 12 _ rfl).1]
      rfl
    refine (tadd_ok hH a (by omega) hA).mono ?_
    rintro rv19 h19 ⟨rfl, hH19, hs19, f19⟩
    show az_X P _ 145 22 ls [] _ _
    refine jm_aload_n (x := P.1 + 0) rfl rfl (jM_at hl 0 rfl) ?_
    refine jx_gf (i := 0) rfl rfl hH19 (by decide) (hH19.2 0 _ rfl).1 rfl (jx_rf hH19 rfl rfl) ?_
    refine jm_iload_n (x := b) rfl rfl (jM_at hl 2 rfl) ?_
    refine az_X_call (m' := 140) (as := [.ref (P.1 + 12), .int b]) (rest := []) rfl rfl rfl rfl rfl ?_ ?_
    · unfold si_call
      dsimp only
      rw [if_pos ⟨rfl, rfl⟩]
      show (match si_ix P h19 (P.1 + 12) with | some i => _ | none => none) = _
      rw [jix hH19 (by decide)]
      dsimp only
      rw [(hH19.2 12 _ rfl).1]
      rfl
    refine (tadd_ok hH19 b (by omega) (fun i hi => f19.2 i (by omega))).mono ?_
    rintro rv27 h27 ⟨rfl, hH27, hs27, f27⟩
    show az_X P _ 145 30 ls [] _ _
    refine jm_aload_n (x := P.1 + 0) rfl rfl (jM_at hl 0 rfl) ?_
    refine jx_gf (i := 0) rfl rfl hH27 (by decide) (hH27.2 0 _ rfl).1 rfl (jx_rf hH27 rfl rfl) ?_
    refine jm_iload_n (x := c) rfl rfl (jM_at hl 3 rfl) ?_
    refine az_X_call (m' := 140) (as := [.ref (P.1 + 12), .int c]) (rest := []) rfl rfl rfl rfl rfl ?_ ?_
    · unfold si_call
      dsimp only
      rw [if_pos ⟨rfl, rfl⟩]
      show (match si_ix P h27 (P.1 + 12) with | some i => _ | none => none) = _
      rw [jix hH27 (by decide)]
      dsimp only
      rw [(hH27.2 12 _ rfl).1]
      rfl
    refine (tadd_ok hH27 c (by omega) (fun i hi => f27.2 i (by omega))).mono ?_
    rintro rv35 h35 ⟨rfl, hH35, hs35, f35⟩
    show az_X P _ 145 38 ls [] _ _
    refine jm_aload_n (x := P.1 + 0) rfl rfl (jM_at hl 0 rfl) ?_
    refine jx_gf (i := 0) rfl rfl hH35 (by decide) (hH35.2 0 _ rfl).1 rfl (jx_rf hH35 rfl rfl) ?_
    refine jm_iload (x := v) rfl rfl (jM_at hl 4 rfl) ?_
    refine az_X_call (m' := 140) (as := [.ref (P.1 + 12), .int v]) (rest := []) rfl rfl rfl rfl rfl ?_ ?_
    · unfold si_call
      dsimp only
      rw [if_pos ⟨rfl, rfl⟩]
      show (match si_ix P h35 (P.1 + 12) with | some i => _ | none => none) = _
      rw [jix hH35 (by decide)]
      dsimp only
      rw [(hH35.2 12 _ rfl).1]
      rfl
    refine (tadd_ok hH35 v (by omega) (fun i hi => f35.2 i (by omega))).mono ?_
    rintro rv44 h44 ⟨rfl, hH44, hs44, f44⟩
    show az_X P _ 145 47 ls [] _ _
    refine jm_aload_n (x := P.1 + 0) rfl rfl (jM_at hl 0 rfl) ?_
    refine jx_gf (i := 0) rfl rfl hH44 (by decide) (hH44.2 0 _ rfl).1 rfl (jx_rf hH44 rfl rfl) ?_
    refine jm_iload (x := x) rfl rfl (jM_at hl 5 rfl) ?_
    refine az_X_call (m' := 140) (as := [.ref (P.1 + 12), .int x]) (rest := []) rfl rfl rfl rfl rfl ?_ ?_
    · unfold si_call
      dsimp only
      rw [if_pos ⟨rfl, rfl⟩]
      show (match si_ix P h44 (P.1 + 12) with | some i => _ | none => none) = _
      rw [jix hH44 (by decide)]
      dsimp only
      rw [(hH44.2 12 _ rfl).1]
      rfl
    refine (tadd_ok hH44 x (by omega) (fun i hi => f44.2 i (by omega))).mono ?_
    rintro rv53 h53 ⟨rfl, hH53, hs53, f53⟩
    show az_X P _ 145 56 ls [] _ _
    refine jm_aload_n (x := P.1 + 0) rfl rfl (jM_at hl 0 rfl) ?_
    refine jx_gf (i := 0) rfl rfl hH53 (by decide) (hH53.2 0 _ rfl).1 rfl (jx_rf hH53 rfl rfl) ?_
    refine az_X_call (m' := 137) (as := [.ref (P.1 + 12)]) (rest := []) rfl rfl rfl rfl rfl ?_ ?_
    · unfold si_call
      dsimp only
      rw [if_pos ⟨rfl, rfl⟩]
      show (match si_ix P h53 (P.1 + 12) with | some i => _ | none => none) = _
      rw [jix hH53 (by decide)]
      dsimp only
      rw [(hH53.2 12 _ rfl).1]
      rfl
    refine (tsize_ok hH53).mono ?_
    rintro rv60 h60 ⟨q60, z60, rfl, ez60⟩
    subst h60
    show az_X P _ 145 63 ls [.int z60] _ _
    refine jx_ret rfl rfl rfl ?_
    have l1 : ja h19 12 1 = ja h 12 1 + 4 := by have := f19.1; omega
    have l2 : ja h27 12 1 = ja h 12 1 + 8 := by have := f27.1; omega
    have l3 : ja h35 12 1 = ja h 12 1 + 12 := by have := f35.1; omega
    have l4 : ja h44 12 1 = ja h 12 1 + 16 := by have := f44.1; omega
    have l5 : ja h53 12 1 = ja h 12 1 + 20 := by have := f53.1; omega
    refine ⟨z60, rfl, hH53, ((hs19.sub (by decide)).tr ((hs27.sub (by decide)).tr ((hs35.sub (by decide)).tr ((hs44.sub (by decide)).tr (hs53.sub (by decide)))))), Or.inl ⟨by omega, by omega, l5, fun i hi => ?_⟩⟩
    have q := f53.2 i (by omega)
    rw [l1, l2, l3, l4] at q
    exact q
  · have g9 := jc1_ne_f hc9
    refine az_X_step (pc' := 13) (ls' := ls) (st' := [.int (-1)]) (h' := h) rfl rfl rfl ?_
    refine jx_ret rfl rfl rfl ?_
    exact ⟨_, rfl, hH, az_same_out.rf, Or.inr ⟨by omega, by decide, rfl⟩⟩
theorem feed1b_ok {P : si_P} {d : Nat} {h : si_H} (hH : az_HI P az_tb h) (a b c v x : Int32) {A : Nat → Int} (hA : ∀ i : Nat, (i : Int) < ja h 60 16 → ja h 71 i % 256 = A i) : az_X P (d + 1) 238 0 (lv_args 0 [.ref (P.1 + 60), .int a, .int b, .int c, .int v, .int x]) [] h (fun rv h1 => ∃ w : Int32, rv = some (.int w) ∧ az_HI P az_tb h1 ∧ az_same_out [(60, 16), (71, 1000000)] h h1 ∧ ((ja h 60 16 ≤ 240 ∧ w.toInt = ja h 60 16 + 20 ∧ ja h1 60 16 = ja h 60 16 + 20 ∧ ∀ i : Nat, (i : Int) < ja h 60 16 + 20 → ja h1 71 i % 256 = jap (jap (jap (jap (jap A (ja h 60 16) a) ((ja h 60 16) + 4) b) ((ja h 60 16) + 8) c) ((ja h 60 16) + 12) v) ((ja h 60 16) + 16) x i) ∨ (240 < ja h 60 16 ∧ w.toInt = -1 ∧ h1 = h))) := by
  have b0 : 0 ≤ ja h 60 16 ∧ ja h 60 16 ≤ 260 := ja_bd hH (i := 60) (k := 16) rfl
  have hl : jM [(0, .ref (P.1 + 60)), (1, .int a), (2, .int b), (3, .int c), (4, .int v), (5, .int x)] (lv_args 0 [.ref (P.1 + 60), .int a, .int b, .int c, .int v, .int x]) := jM_args [0, 1, 2, 3, 4, 5] rfl (by decide)
  generalize lv_args 0 [.ref (P.1 + 60), .int a, .int b, .int c, .int v, .int x] = ls at hl
  have km1 : ((-1) : Int32).toInt = (-1) := by decide
  have k20 : (20 : Int32).toInt = 20 := by decide
  have k260 : (260 : Int32).toInt = 260 := by decide
  refine jm_aload_n (x := P.1 + 60) rfl rfl (jM_at hl 0 rfl) ?_
  refine jn_gf (i := 60) (k := 16) rfl rfl hH (by decide) (hH.2 60 _ rfl).1 rfl rfl (fun z1 (ez1 : z1.toInt = ja h 60 16) (bz1 : 0 ≤ z1.toInt ∧ z1.toInt ≤ 260) => ?_)
  refine az_X_step (pc' := 6) (ls' := ls) (st' := [.int 20, .int z1]) (h' := h) rfl rfl rfl ?_
  refine jn_add (a := z1) (b := 20) rfl rfl (by omega) (by omega) (fun z6 ez6 => ?_)
  rw [show (20 : Int32).toInt = 20 by decide] at ez6
  refine az_X_step (pc' := 10) (ls' := ls) (st' := [.int 260, .int z6]) (h' := h) rfl rfl rfl ?_
  refine jx_ic (t := 15) rfl rfl rfl (fun hc10 => ?_) (fun hc10 => ?_)
  · have g10 := jc2_le_t hc10
    refine jm_aload_n (x := P.1 + 60) rfl rfl (jM_at hl 0 rfl) ?_
    refine jm_iload_n (x := a) rfl rfl (jM_at hl 1 rfl) ?_
    refine az_X_call (m' := 237) (as := [.ref (P.1 + 60), .int a]) (rest := []) rfl rfl rfl rfl rfl ?_ ?_
    · unfold si_call
      dsimp only
      rw [if_pos ⟨rfl, rfl⟩]
      show (match si_ix P h (P.1 + 60) with | some i => _ | none => none) = _
      rw [jix hH (by decide)]
      dsimp only
      rw [(hH.2 60 _ rfl).1]
      rfl
    refine (rtypes_ok hH a (by omega) hA).mono ?_
    rintro rv17 h17 ⟨rfl, hH17, hs17, f17⟩
    show az_X P _ 238 20 ls [] _ _
    refine jm_aload_n (x := P.1 + 60) rfl rfl (jM_at hl 0 rfl) ?_
    refine jm_iload_n (x := b) rfl rfl (jM_at hl 2 rfl) ?_
    refine az_X_call (m' := 237) (as := [.ref (P.1 + 60), .int b]) (rest := []) rfl rfl rfl rfl rfl ?_ ?_
    · unfold si_call
      dsimp only
      rw [if_pos ⟨rfl, rfl⟩]
      show (match si_ix P h17 (P.1 + 60) with | some i => _ | none => none) = _
      rw [jix hH17 (by decide)]
      dsimp only
      rw [(hH17.2 60 _ rfl).1]
      rfl
    refine (rtypes_ok hH17 b (by omega) (fun i hi => f17.2 i (by omega))).mono ?_
    rintro rv22 h22 ⟨rfl, hH22, hs22, f22⟩
    show az_X P _ 238 25 ls [] _ _
    refine jm_aload_n (x := P.1 + 60) rfl rfl (jM_at hl 0 rfl) ?_
    refine jm_iload_n (x := c) rfl rfl (jM_at hl 3 rfl) ?_
    refine az_X_call (m' := 237) (as := [.ref (P.1 + 60), .int c]) (rest := []) rfl rfl rfl rfl rfl ?_ ?_
    · unfold si_call
      dsimp only
      rw [if_pos ⟨rfl, rfl⟩]
      show (match si_ix P h22 (P.1 + 60) with | some i => _ | none => none) = _
      rw [jix hH22 (by decide)]
      dsimp only
      rw [(hH22.2 60 _ rfl).1]
      rfl
    refine (rtypes_ok hH22 c (by omega) (fun i hi => f22.2 i (by omega))).mono ?_
    rintro rv27 h27 ⟨rfl, hH27, hs27, f27⟩
    show az_X P _ 238 30 ls [] _ _
    refine jm_aload_n (x := P.1 + 60) rfl rfl (jM_at hl 0 rfl) ?_
    refine jm_iload (x := v) rfl rfl (jM_at hl 4 rfl) ?_
    refine az_X_call (m' := 237) (as := [.ref (P.1 + 60), .int v]) (rest := []) rfl rfl rfl rfl rfl ?_ ?_
    · unfold si_call
      dsimp only
      rw [if_pos ⟨rfl, rfl⟩]
      show (match si_ix P h27 (P.1 + 60) with | some i => _ | none => none) = _
      rw [jix hH27 (by decide)]
      dsimp only
      rw [(hH27.2 60 _ rfl).1]
      rfl
    refine (rtypes_ok hH27 v (by omega) (fun i hi => f27.2 i (by omega))).mono ?_
    rintro rv33 h33 ⟨rfl, hH33, hs33, f33⟩
    show az_X P _ 238 36 ls [] _ _
    refine jm_aload_n (x := P.1 + 60) rfl rfl (jM_at hl 0 rfl) ?_
    refine jm_iload (x := x) rfl rfl (jM_at hl 5 rfl) ?_
    refine az_X_call (m' := 237) (as := [.ref (P.1 + 60), .int x]) (rest := []) rfl rfl rfl rfl rfl ?_ ?_
    · unfold si_call
      dsimp only
      rw [if_pos ⟨rfl, rfl⟩]
      show (match si_ix P h33 (P.1 + 60) with | some i => _ | none => none) = _
      rw [jix hH33 (by decide)]
      dsimp only
      rw [(hH33.2 60 _ rfl).1]
      rfl
    refine (rtypes_ok hH33 x (by omega) (fun i hi => f33.2 i (by omega))).mono ?_
    rintro rv39 h39 ⟨rfl, hH39, hs39, f39⟩
    show az_X P _ 238 42 ls [] _ _
    refine jm_aload_n (x := P.1 + 60) rfl rfl (jM_at hl 0 rfl) ?_
    refine jn_gf (i := 60) (k := 16) rfl rfl hH39 (by decide) (hH39.2 60 _ rfl).1 rfl rfl (fun z43 (ez43 : z43.toInt = ja h39 60 16) (bz43 : 0 ≤ z43.toInt ∧ z43.toInt ≤ 260) => ?_)
    replace ez43 : z43.toInt = ja h33 60 16 + 4 := ez43.trans f39.1
    refine jx_ret rfl rfl rfl ?_
    have l1 : ja h17 60 16 = ja h 60 16 + 4 := by have := f17.1; omega
    have l2 : ja h22 60 16 = ja h 60 16 + 8 := by have := f22.1; omega
    have l3 : ja h27 60 16 = ja h 60 16 + 12 := by have := f27.1; omega
    have l4 : ja h33 60 16 = ja h 60 16 + 16 := by have := f33.1; omega
    have l5 : ja h39 60 16 = ja h 60 16 + 20 := by have := f39.1; omega
    refine ⟨z43, rfl, hH39, ((hs17.sub (by decide)).tr ((hs22.sub (by decide)).tr ((hs27.sub (by decide)).tr ((hs33.sub (by decide)).tr (hs39.sub (by decide)))))), Or.inl ⟨by omega, by omega, l5, fun i hi => ?_⟩⟩
    have q := f39.2 i (by omega)
    rw [l1, l2, l3, l4] at q
    exact q
  · have g10 := jc2_le_f hc10
    refine az_X_step (pc' := 14) (ls' := ls) (st' := [.int (-1)]) (h' := h) rfl rfl rfl ?_
    refine jx_ret rfl rfl rfl ?_
    exact ⟨_, rfl, hH, az_same_out.rf, Or.inr ⟨by omega, by decide, rfl⟩⟩
/-- the signs that the reference sees -/
def jBR (h : si_H) (n : Int) (hh : Int → Int) : Prop := (∀ p : Int, 0 ≤ p → p < n → ja h 71 p % 256 = hh p) ∧ (∀ p : Int, n ≤ p → hh p = -1)
theorem jBR_so {h h' : si_H} {n : Int} {hh : Int → Int} {md : List (Nat × Nat)} (hs : az_same_out md h h') (hm : md.all (fun x => decide (x.1 ≠ 71)) = true) (b : jBR h n hh) : jBR h' n hh := ⟨fun p p0 p1 => by rw [jso_row hs hm]; exact b.1 p p0 p1, b.2⟩
theorem jBR_bd {h : si_H} {n p : Int} {hh : Int → Int} (b : jBR h n hh) (hp : 0 ≤ p) : -1 ≤ hh p ∧ hh p ≤ 255 := by
  rcases Int.lt_or_le p n with c | c
  · have := b.1 p hp c
    omega
  · have := b.2 p c
    omega
theorem jBR_lt {h : si_H} {n p : Int} {hh : Int → Int} (b : jBR h n hh) (hp : hh p ≠ -1) : p < n := by
  rcases Int.lt_or_le p n with c | c
  · exact c
  · exact absurd (b.2 p c) hp
theorem rh_ok {P : si_P} {d : Nat} {h : si_H} (hH : az_HI P az_tb h) {n p : Int} {hh : Int → Int} (hn : 1 ≤ n ∧ n ≤ 240) (e8 : ja h 60 18 = n) (e7 : ja h 60 17 = p) (hb : jBR h n hh) : az_X P d 240 0 (lv_args 0 [.ref (P.1 + 60)]) [] h (fun rv h' => h' = h ∧ jV rv (hh p)) := by
  have bp : 0 ≤ ja h 60 17 ∧ ja h 60 17 ≤ 240 := ja_bd hH (i := 60) (k := 17) rfl
  have hl : jM [(0, .ref (P.1 + 60))] (lv_args 0 [.ref (P.1 + 60)]) := jM_args [0] rfl (by decide)
  generalize lv_args 0 [.ref (P.1 + 60)] = ls at hl
  have km1 : ((-1) : Int32).toInt = (-1) := by decide
  have k255 : (255 : Int32).toInt = 255 := by decide
  refine jm_aload_n (x := P.1 + 60) rfl rfl (jM_at hl 0 rfl) ?_
  refine jn_gf (i := 60) (k := 17) rfl rfl hH (by decide) (hH.2 60 _ rfl).1 rfl rfl (fun z1 (ez1 : z1.toInt = ja h 60 17) (bz1 : 0 ≤ z1.toInt ∧ z1.toInt ≤ 240) => ?_)
  refine jm_aload_n (x := P.1 + 60) rfl rfl (jM_at hl 0 rfl) ?_
  refine jn_gf (i := 60) (k := 18) rfl rfl hH (by decide) (hH.2 60 _ rfl).1 rfl rfl (fun z5 (ez5 : z5.toInt = ja h 60 18) (bz5 : 0 ≤ z5.toInt ∧ z5.toInt ≤ 240) => ?_)
  refine jx_ic (t := 27) rfl rfl rfl (fun hc8 => ?_) (fun hc8 => ?_)
  · have g8 := jc2_ge_t hc8
    refine az_X_step (pc' := 28) (ls' := ls) (st' := [.int (-1)]) (h' := h) rfl rfl rfl ?_
    refine jx_ret rfl rfl rfl ?_
    exact ⟨rfl, (-1), rfl, by rw [hb.2 p (by omega)]; decide⟩
  · have g8 := jc2_ge_f hc8
    refine jm_aload_n (x := P.1 + 60) rfl rfl (jM_at hl 0 rfl) ?_
    refine jx_gf (i := 60) rfl rfl hH (by decide) (hH.2 60 _ rfl).1 rfl (jx_rf hH rfl rfl) ?_
    refine jm_aload_n (x := P.1 + 60) rfl rfl (jM_at hl 0 rfl) ?_
    refine jn_gf (i := 60) (k := 17) rfl rfl hH (by decide) (hH.2 60 _ rfl).1 rfl rfl (fun z16 (ez16 : z16.toInt = ja h 60 17) (bz16 : 0 ≤ z16.toInt ∧ z16.toInt ≤ 240) => ?_)
    refine jn_bal (i := 71) (x := z16) rfl rfl hH (by decide) rfl (by omega) (by show _ < ((260 : Nat) : Int); omega) (fun z19 ez19 bz19 => ?_)
    refine az_X_step (pc' := 23) (ls' := ls) (st' := [.int 255, .int z19]) (h' := h) rfl rfl rfl ?_
    refine az_X_step (pc' := 24) (ls' := ls) (st' := [.int (z19 &&& 255)]) (h' := h) rfl rfl rfl ?_
    refine az_X_step (pc' := 28) (ls' := ls) (st' := [.int (z19 &&& 255)]) (h' := h) rfl rfl rfl ?_
    refine jx_ret rfl rfl rfl ?_
    exact ⟨rfl, _, rfl, by rw [jn_a255, ez19, show z16.toInt = p by omega]; exact hb.1 p (by omega) (by omega)⟩
theorem rd_ok {P : si_P} {d : Nat} {h : si_H} (hH : az_HI P az_tb h) {n p : Int} {hh : Int → Int} (hn : 1 ≤ n ∧ n ≤ 240) (e8 : ja h 60 18 = n) (e7 : ja h 60 17 = p) (hb : jBR h n hh) : az_X P (d + 1) 241 0 (lv_args 0 [.ref (P.1 + 60)]) [] h (fun rv h' => h' = h ∧ ∃ z : Int32, rv = some (.int z) ∧ ((z.toInt = 1 ∧ jdg hh p) ∨ (z.toInt = 0 ∧ ¬ jdg hh p))) := by
  have hl : jM [(0, .ref (P.1 + 60))] (lv_args 0 [.ref (P.1 + 60)]) := jM_args [0] rfl (by decide)
  generalize lv_args 0 [.ref (P.1 + 60)] = ls at hl
  have k0 : (0 : Int32).toInt = 0 := by decide
  have k1 : (1 : Int32).toInt = 1 := by decide
  have k48 : (48 : Int32).toInt = 48 := by decide
  have k57 : (57 : Int32).toInt = 57 := by decide
  refine jm_aload_n (x := P.1 + 60) rfl rfl (jM_at hl 0 rfl) ?_
  refine az_X_call (m' := 240) (as := [.ref (P.1 + 60)]) (rest := []) rfl rfl rfl rfl rfl ?_ ?_
  · unfold si_call
    dsimp only
    rw [if_pos ⟨rfl, rfl⟩]
    show (match si_ix P h (P.1 + 60) with | some i => _ | none => none) = _
    rw [jix hH (by decide)]
    dsimp only
    rw [(hH.2 60 _ rfl).1]
    rfl
  refine (rh_ok hH hn e8 e7 hb).mono ?_
  rintro rv1 h1 ⟨q1, z1, rfl, ez1⟩
  subst h1
  show az_X P _ 241 4 ls [.int z1] _ _
  refine az_X_step (pc' := 6) (ls' := ls) (st' := [.int 48, .int z1]) (h' := h) rfl rfl rfl ?_
  refine jx_ic (t := 22) rfl rfl rfl (fun hc6 => ?_) (fun hc6 => ?_)
  · have g6 := jc2_lt_t hc6
    refine az_X_step (pc' := 23) (ls' := ls) (st' := [.int 0]) (h' := h) rfl rfl rfl ?_
    refine jx_retz rfl rfl rfl (by decide) ?_
    exact ⟨rfl, 0, rfl, Or.inr ⟨by decide, by unfold jdg; omega⟩⟩
  · have g6 := jc2_lt_f hc6
    refine jm_aload_n (x := P.1 + 60) rfl rfl (jM_at hl 0 rfl) ?_
    refine az_X_call (m' := 240) (as := [.ref (P.1 + 60)]) (rest := []) rfl rfl rfl rfl rfl ?_ ?_
    · unfold si_call
      dsimp only
      rw [if_pos ⟨rfl, rfl⟩]
      show (match si_ix P h (P.1 + 60) with | some i => _ | none => none) = _
      rw [jix hH (by decide)]
      dsimp only
      rw [(hH.2 60 _ rfl).1]
      rfl
    refine (rh_ok hH hn e8 e7 hb).mono ?_
    rintro rv10 h10 ⟨q10, z10, rfl, ez10⟩
    subst h10
    show az_X P _ 241 13 ls [.int z10] _ _
    refine az_X_step (pc' := 15) (ls' := ls) (st' := [.int 57, .int z10]) (h' := h) rfl rfl rfl ?_
    refine jx_ic (t := 22) rfl rfl rfl (fun hc15 => ?_) (fun hc15 => ?_)
    · have g15 := jc2_gt_t hc15
      refine az_X_step (pc' := 23) (ls' := ls) (st' := [.int 0]) (h' := h) rfl rfl rfl ?_
      refine jx_retz rfl rfl rfl (by decide) ?_
      exact ⟨rfl, 0, rfl, Or.inr ⟨by decide, by unfold jdg; omega⟩⟩
    · have g15 := jc2_gt_f hc15
      refine az_X_step (pc' := 19) (ls' := ls) (st' := [.int 1]) (h' := h) rfl rfl rfl ?_
      refine az_X_step (pc' := 23) (ls' := ls) (st' := [.int 1]) (h' := h) rfl rfl rfl ?_
      refine jx_retz rfl rfl rfl (by decide) ?_
      exact ⟨rfl, 1, rfl, Or.inl ⟨by decide, by unfold jdg; omega⟩⟩
theorem rw_ok {P : si_P} {d : Nat} {h : si_H} (hH : az_HI P az_tb h) (k a : Int32) (hk : 1 ≤ k.toInt ∧ k.toInt ≤ 6) (ha : 0 ≤ a.toInt ∧ a.toInt ≤ 300) : az_X P d 242 0 (lv_args 0 [.ref (P.1 + 60), .int k, .int a]) [] h (fun rv h' => ∃ z : Int32, rv = some (.int z) ∧ az_HI P az_tb h' ∧ az_same_out [(60, 19)] h h' ∧ z.toInt = 0 ∧ ja h' 60 19 = -1000 * k.toInt - a.toInt) := by
  have hl : jM [(0, .ref (P.1 + 60)), (1, .int k), (2, .int a)] (lv_args 0 [.ref (P.1 + 60), .int k, .int a]) := jM_args [0, 1, 2] rfl (by decide)
  generalize lv_args 0 [.ref (P.1 + 60), .int k, .int a] = ls at hl
  have km1000 : ((-1000) : Int32).toInt = (-1000) := by decide
  have k0 : (0 : Int32).toInt = 0 := by decide
  refine jm_aload_n (x := P.1 + 60) rfl rfl (jM_at hl 0 rfl) ?_
  refine az_X_step (pc' := 4) (ls' := ls) (st' := [.int (-1000), .ref (P.1 + 60)]) (h' := h) rfl rfl rfl ?_
  refine jm_iload_n (x := k) rfl rfl (jM_at hl 1 rfl) ?_
  refine jn_mul (a := (-1000)) (b := k) rfl rfl (by rw [show ((-1000) : Int32).toInt = (-1000) by decide]; omega) (by rw [show ((-1000) : Int32).toInt = (-1000) by decide]; omega) (fun z5 ez5 => ?_)
  rw [show ((-1000) : Int32).toInt = (-1000) by decide] at ez5
  refine jm_iload_n (x := a) rfl rfl (jM_at hl 2 rfl) ?_
  refine jn_sub (a := z5) (b := a) rfl rfl (by omega) (by omega) (fun z7 ez7 => ?_)
  refine jn_pf (i := 60) (k := 19) (x := z7) rfl rfl hH (by decide) rfl (hH.2 60 _ rfl).1 rfl rfl (by decide) (by decide) (by show (-2147483648) ≤ _; omega) (by show _ ≤ 2147483647; omega) (fun h8 hH8 hs8 (t8 : ja h8 60 19 = z7.toInt) => ?_)
  refine az_X_step (pc' := 12) (ls' := ls) (st' := [.int 0]) (h' := h8) rfl rfl rfl ?_
  refine jx_retz rfl rfl rfl (by decide) ?_
  exact ⟨0, rfl, hH8, (hs8.sub (by decide)), by decide, t8.trans (by omega)⟩
theorem rt_ok {P : si_P} {d : Nat} {h : si_H} (hH : az_HI P az_tb h) {n p : Int} {hh : Int → Int} (hn : 1 ≤ n ∧ n ≤ 240) (e8 : ja h 60 18 = n) (e7 : ja h 60 17 = p) (hb : jBR h n hh) (c : Int32) (hc : 0 ≤ c.toInt) : az_X P (d + 1) 243 0 (lv_args 0 [.ref (P.1 + 60), .int c]) [] h (fun rv h' => ∃ z : Int32, rv = some (.int z) ∧ az_HI P az_tb h' ∧ az_same_out [(60, 17), (60, 19)] h h' ∧ ((hh p = c.toInt ∧ z.toInt = 1 ∧ ja h' 60 17 = p + 1) ∨ (hh p ≠ c.toInt ∧ z.toInt = 0 ∧ ja h' 60 19 = -1000 - p))) := by
  have bp : 0 ≤ ja h 60 17 ∧ ja h 60 17 ≤ 240 := ja_bd hH (i := 60) (k := 17) rfl
  have hl : jM [(0, .ref (P.1 + 60)), (1, .int c)] (lv_args 0 [.ref (P.1 + 60), .int c]) := jM_args [0, 1] rfl (by decide)
  generalize lv_args 0 [.ref (P.1 + 60), .int c] = ls at hl
  have k1 : (1 : Int32).toInt = 1 := by decide
  refine jm_aload_n (x := P.1 + 60) rfl rfl (jM_at hl 0 rfl) ?_
  refine az_X_call (m' := 240) (as := [.ref (P.1 + 60)]) (rest := []) rfl rfl rfl rfl rfl ?_ ?_
  · unfold si_call
    dsimp only
    rw [if_pos ⟨rfl, rfl⟩]
    show (match si_ix P h (P.1 + 60) with | some i => _ | none => none) = _
    rw [jix hH (by decide)]
    dsimp only
    rw [(hH.2 60 _ rfl).1]
    rfl
  refine (rh_ok hH hn e8 e7 hb).mono ?_
  rintro rv1 h1 ⟨q1, z1, rfl, ez1⟩
  subst h1
  show az_X P _ 243 4 ls [.int z1] _ _
  refine jm_iload_n (x := c) rfl rfl (jM_at hl 1 rfl) ?_
  refine jx_ic (t := 18) rfl rfl rfl (fun hc5 => ?_) (fun hc5 => ?_)
  · have g5 := jc2_eq_t hc5
    have hpn := jBR_lt hb (p := p) (by omega)
    refine jm_aload_n (x := P.1 + 60) rfl rfl (jM_at hl 0 rfl) ?_
    refine jm_aload_n (x := P.1 + 60) rfl rfl (jM_at hl 0 rfl) ?_
    refine jn_gf (i := 60) (k := 17) rfl rfl hH (by decide) (hH.2 60 _ rfl).1 rfl rfl (fun z20 (ez20 : z20.toInt = ja h 60 17) (bz20 : 0 ≤ z20.toInt ∧ z20.toInt ≤ 240) => ?_)
    refine az_X_step (pc' := 24) (ls' := ls) (st' := [.int 1, .int z20, .ref (P.1 + 60)]) (h' := h) rfl rfl rfl ?_
    refine jn_add (a := z20) (b := 1) rfl rfl (by omega) (by omega) (fun z24 ez24 => ?_)
    rw [show (1 : Int32).toInt = 1 by decide] at ez24
    refine jn_pf (i := 60) (k := 17) (x := z24) rfl rfl hH (by decide) rfl (hH.2 60 _ rfl).1 rfl rfl (by decide) (by decide) (by show 0 ≤ _; omega) (by show _ ≤ 240; omega) (fun h25 hH25 hs25 (t25 : ja h25 60 17 = z24.toInt) => ?_)
    refine az_X_step (pc' := 29) (ls' := ls) (st' := [.int 1]) (h' := h25) rfl rfl rfl ?_
    refine jx_retz rfl rfl rfl (by decide) ?_
    exact ⟨1, rfl, hH25, (hs25.sub (by decide)), Or.inl ⟨by omega, by decide, t25.trans (by omega)⟩⟩
  · have g5 := jc2_eq_f hc5
    refine jm_aload_n (x := P.1 + 60) rfl rfl (jM_at hl 0 rfl) ?_
    refine az_X_step (pc' := 10) (ls' := ls) (st' := [.int 1, .ref (P.1 + 60)]) (h' := h) rfl rfl rfl ?_
    refine jm_aload_n (x := P.1 + 60) rfl rfl (jM_at hl 0 rfl) ?_
    refine jn_gf (i := 60) (k := 17) rfl rfl hH (by decide) (hH.2 60 _ rfl).1 rfl rfl (fun z11 (ez11 : z11.toInt = ja h 60 17) (bz11 : 0 ≤ z11.toInt ∧ z11.toInt ≤ 240) => ?_)
    refine az_X_call (m' := 242) (as := [.ref (P.1 + 60), .int 1, .int z11]) (rest := []) rfl rfl rfl rfl rfl ?_ ?_
    · unfold si_call
      dsimp only
      rw [if_pos ⟨rfl, rfl⟩]
      show (match si_ix P h (P.1 + 60) with | some i => _ | none => none) = _
      rw [jix hH (by decide)]
      dsimp only
      rw [(hH.2 60 _ rfl).1]
      rfl
    refine (rw_ok hH 1 z11 (by decide) (by omega)).mono ?_
    rintro rv14 h14 ⟨z14, rfl, hH14, hs14, f14⟩
    show az_X P _ 243 17 ls [.int z14] _ _
    refine jx_retz rfl rfl rfl (jbz (by omega)) ?_
    exact ⟨z14, rfl, hH14, hs14.sub (by decide), Or.inr ⟨by omega, f14.1, f14.2.trans (by omega)⟩⟩
/-! what waits, as a stack of open signs -/
def jsk (A : Int → Int) : Nat → List Int
  | 0 => []
  | k + 1 => if jop (A k) = 10 ∨ jop (A k) = 13 ∨ jop (A k) = 14 then jop (A k) :: jsk A k else jsk A k
theorem jsk_s (A : Int → Int) (k : Nat) : jsk A (k + 1) = if jop (A k) = 10 ∨ jop (A k) = 13 ∨ jop (A k) = 14 then jop (A k) :: jsk A k else jsk A k := rfl
theorem jsk_cg {A B : Int → Int} : ∀ {w : Nat}, (∀ j : Nat, j < w → A j = B j) → jsk A w = jsk B w
  | 0, _ => rfl
  | w + 1, h => by rw [jsk_s, jsk_s, jsk_cg (fun j hj => h j (by omega)), h w (by omega)]
theorem jsk_no {A : Int → Int} {v : Nat} : ∀ {w : Nat}, v ≤ w → (∀ j : Nat, v ≤ j → j < w → ¬ (jop (A j) = 10 ∨ jop (A j) = 13 ∨ jop (A j) = 14)) → jsk A w = jsk A v
  | 0, h, _ => by rw [Nat.le_zero.mp h]
  | w + 1, h, hn => by
    rcases Nat.lt_or_ge v (w + 1) with c | c
    · rw [jsk_s, if_neg (hn w (by omega) (by omega)), jsk_no (by omega) (fun j h1 h2 => hn j h1 (by omega))]
    · rw [show v = w + 1 by omega]
theorem jsk_y {A : Int → Int} {k : Nat} {o : Int} (h : jop (A k) = o) (ho : o = 10 ∨ o = 13 ∨ o = 14) : jsk A (k + 1) = o :: jsk A k := by
  rw [jsk_s, h, if_pos ho]
theorem jsk_10 {hh : Int → Int} {n p i : Int} {A : Int → Int} {v : Nat} : ∀ {w : Nat}, v ≤ w → (∀ j : Nat, v ≤ j → j < w → jop (A j) = 10) → pyL hh n (6, 0, 0, p, jsk A w, i) (6, 0, 0, p, jsk A v, i) ∧ ((jsk A w).length : Int) = (jsk A v).length + ((w : Int) - v)
  | 0, h, _ => by
    rw [Nat.le_zero.mp h]
    exact ⟨pyL.rf, by omega⟩
  | w + 1, h, hn => by
    rcases Nat.lt_or_ge v (w + 1) with c | c
    · have r := jsk_10 (hh := hh) (n := n) (p := p) (i := i) (A := A) (v := v) (w := w) (by omega) (fun j h1 h2 => hn j h1 (by omega))
      rw [jsk_y (hn w (by omega) (by omega)) (Or.inl rfl)]
      refine ⟨(pyL_1 ps6_not).tr r.1, ?_⟩
      rw [List.length_cons]
      omega
    · rw [show v = w + 1 by omega]
      exact ⟨pyL.rf, by omega⟩
/-- the reference while it reads: the place, what waits, the codes noted, what is left for one code more -/
def jQS (hh : Int → Int) (n : Int) (h : si_H) (w c : Nat) (p : Int) (t : Nat) : Prop := ja h 60 18 = n ∧ ja h 60 17 = p ∧ ja h 60 23 = w ∧ ja h 60 22 = c ∧ ja h 60 21 = ((jsk (ja h 73) w).length : Int) ∧ (w : Int) ≤ p ∧ (c : Int) + jcn (ja h 73) w + t ≤ p ∧ p ≤ n ∧ (∀ j : Nat, j < w → 0 ≤ ja h 73 j) ∧ (∀ j : Nat, j < w → jop (ja h 73 j) = 11 ∨ jop (ja h 73 j) = 12 → jar (ja h 73 j) < c) ∧ (∀ k : Nat, k < c → 0 ≤ ja h 72 k) ∧ (jsk (ja h 73) w).length ≤ 6 ∧ jBR h n hh
theorem jQS_push {hh : Int → Int} {n : Int} {h h' : si_H} {w c c' t t' : Nat} {p e : Int} (q : jQS hh n h w c p t) (hp : p < n) (h18 : ja h' 60 18 = ja h 60 18) (h17 : ja h' 60 17 = p + 1) (h23 : ja h' 60 23 = (w : Int) + 1) (h22 : ja h' 60 22 = c') (hA : ∀ j : Nat, j < w → ja h' 73 j = ja h 73 j) (he : ja h' 73 w = e) (e0 : 0 ≤ e) (hif : jop e = 11 ∨ jop e = 12 → jar e < c') (hcc : c ≤ c') (h72 : ∀ k : Nat, k < c' → 0 ≤ ja h' 72 k) (hb : jBR h' n hh) (ht : (c' : Int) + jk1 (jop e) + t' ≤ (c : Int) + t + 1) (hl : (if jop e = 10 ∨ jop e = 13 ∨ jop e = 14 then jop e :: jsk (ja h 73) w else jsk (ja h 73) w).length ≤ 6) (h21 : ja h' 60 21 = ((if jop e = 10 ∨ jop e = 13 ∨ jop e = 14 then jop e :: jsk (ja h 73) w else jsk (ja h 73) w).length : Int)) : jQS hh n h' (w + 1) c' (p + 1) t' ∧ jsk (ja h' 73) (w + 1) = (if jop e = 10 ∨ jop e = 13 ∨ jop e = 14 then jop e :: jsk (ja h 73) w else jsk (ja h 73) w) := by
  obtain ⟨q8, q7, q3, q2, q1, qw, qc, qp, qA, qI, qC, qL, qB⟩ := q
  have e1 : jsk (ja h' 73) w = jsk (ja h 73) w := jsk_cg hA
  have e2 : jsk (ja h' 73) (w + 1) = (if jop e = 10 ∨ jop e = 13 ∨ jop e = 14 then jop e :: jsk (ja h 73) w else jsk (ja h 73) w) := by rw [jsk_s, he, e1]
  have e3 : jcn (ja h' 73) (w + 1) = jcn (ja h 73) w + jk1 (jop e) := by
    show jcn (ja h' 73) w + jk1 (jop (ja h' 73 w)) = _
    rw [he, jcn_cg hA]
  refine ⟨⟨h18.trans q8, h17, by rw [h23]; omega, h22, by rw [e2]; exact h21, by omega, by rw [e3]; omega, by omega, fun j hj => ?_, fun j hj ho => ?_, h72, by rw [e2]; exact hl, hb⟩, e2⟩
  · rcases Nat.lt_or_ge j w with z | z
    · rw [hA j z]
      exact qA j z
    · rw [show j = w by omega, he]
      exact e0
  · rcases Nat.lt_or_ge j w with z | z
    · rw [hA j z] at ho ⊢
      have := qI j z ho
      omega
    · rw [show j = w by omega, he] at ho ⊢
      exact hif ho
/-- fewer wait: those gone became codes, or nothing -/
theorem jQS_down {hh : Int → Int} {n : Int} {h h' : si_H} {w c v c' t t' : Nat} {p p' : Int} (q : jQS hh n h w c p t) (hv : v ≤ w) (hp : p ≤ p') (hpn : p' ≤ n) (h18 : ja h' 60 18 = ja h 60 18) (h17 : ja h' 60 17 = p') (h23 : ja h' 60 23 = v) (h22 : ja h' 60 22 = c') (hA : ∀ j : Nat, j < v → ja h' 73 j = ja h 73 j) (hcc : c ≤ c') (h72 : ∀ k : Nat, k < c' → 0 ≤ ja h' 72 k) (hb : jBR h' n hh) (ht : (c' : Int) + jcn (ja h 73) v + t' ≤ (c : Int) + jcn (ja h 73) w + t + (p' - p)) (hl : (jsk (ja h 73) v).length ≤ 6) (h21 : ja h' 60 21 = ((jsk (ja h 73) v).length : Int)) : jQS hh n h' v c' p' t' := by
  obtain ⟨q8, q7, q3, q2, q1, qw, qc, qp, qA, qI, qC, qL, qB⟩ := q
  have e1 : jsk (ja h' 73) v = jsk (ja h 73) v := jsk_cg hA
  refine ⟨h18.trans q8, h17, h23, h22, by rw [e1]; exact h21, by omega, by rw [jcn_cg hA]; omega, hpn, fun j hj => ?_, fun j hj ho => ?_, h72, by rw [e1]; exact hl, hb⟩
  · rw [hA j hj]
    exact qA j (by omega)
  · rw [hA j hj] at ho ⊢
    have := qI j (by omega) ho
    omega
theorem jk1_b (o : Int) : 0 ≤ jk1 o ∧ jk1 o ≤ 1 := by
  unfold jk1
  split <;> omega
theorem nt_ok {P : si_P} {d : Nat} {h : si_H} (hH : az_HI P az_tb h) (o v : Int32) (ho : 0 ≤ o.toInt ∧ o.toInt ≤ 15) (hv : 0 ≤ v.toInt ∧ v.toInt ≤ 99999) {c : Nat} (e22 : ja h 60 22 = c) (hc : c ≤ 239) (h72 : ∀ k : Nat, k < c → 0 ≤ ja h 72 k) : az_X P d 245 0 (lv_args 0 [.ref (P.1 + 60), .int o, .int v]) [] h (fun rv h' => rv = none ∧ az_HI P az_tb h' ∧ az_same_out [(60, 22), (72, 1000000)] h h' ∧ ja h' 60 22 = ((c + 1 : Nat) : Int) ∧ ∀ k : Nat, k < c + 1 → 0 ≤ ja h' 72 k) := by
  have hl : jM [(0, .ref (P.1 + 60)), (1, .int o), (2, .int v)] (lv_args 0 [.ref (P.1 + 60), .int o, .int v]) := jM_args [0, 1, 2] rfl (by decide)
  generalize lv_args 0 [.ref (P.1 + 60), .int o, .int v] = ls at hl
  have k1 : (1 : Int32).toInt = 1 := by decide
  have k1048576 : (1048576 : Int32).toInt = 1048576 := by decide
  refine jm_aload_n (x := P.1 + 60) rfl rfl (jM_at hl 0 rfl) ?_
  refine jx_gf (i := 60) rfl rfl hH (by decide) (hH.2 60 _ rfl).1 rfl (jx_rf hH rfl rfl) ?_
  refine jm_aload_n (x := P.1 + 60) rfl rfl (jM_at hl 0 rfl) ?_
  refine jn_gf (i := 60) (k := 22) rfl rfl hH (by decide) (hH.2 60 _ rfl).1 rfl rfl (fun z5 (ez5 : z5.toInt = ja h 60 22) (bz5 : 0 ≤ z5.toInt ∧ z5.toInt ≤ 240) => ?_)
  refine az_X_step (pc' := 11) (ls' := ls) (st' := [.int 1048576, .int z5, .ref (P.1 + 72)]) (h' := h) rfl rfl rfl ?_
  refine jm_iload_n (x := o) rfl rfl (jM_at hl 1 rfl) ?_
  refine jn_mul (a := 1048576) (b := o) rfl rfl (by rw [show (1048576 : Int32).toInt = 1048576 by decide]; omega) (by rw [show (1048576 : Int32).toInt = 1048576 by decide]; omega) (fun z12 ez12 => ?_)
  rw [show (1048576 : Int32).toInt = 1048576 by decide] at ez12
  refine jm_iload_n (x := v) rfl rfl (jM_at hl 2 rfl) ?_
  refine jn_add (a := z12) (b := v) rfl rfl (by omega) (by omega) (fun z14 ez14 => ?_)
  refine jn_ias (i := 72) (x := z5) (v := z14) rfl rfl hH (by decide) rfl (by omega) (by show _ < ((260 : Nat) : Int); omega) (by show (-2147483648) ≤ _; omega) (by show _ ≤ 2147483647; omega) (fun h15 hH15 hs15 t15 u15 => ?_)
  refine jm_aload_n (x := P.1 + 60) rfl rfl (jM_at hl 0 rfl) ?_
  refine jm_aload_n (x := P.1 + 60) rfl rfl (jM_at hl 0 rfl) ?_
  refine jn_gf (i := 60) (k := 22) rfl rfl hH15 (by decide) (hH15.2 60 _ rfl).1 rfl rfl (fun z18 (ez18 : z18.toInt = ja h15 60 22) (bz18 : 0 ≤ z18.toInt ∧ z18.toInt ≤ 240) => ?_)
  replace ez18 : z18.toInt = ja h 60 22 := ez18.trans (jso hs15 (by decide))
  refine az_X_step (pc' := 22) (ls' := ls) (st' := [.int 1, .int z18, .ref (P.1 + 60)]) (h' := h15) rfl rfl rfl ?_
  refine jn_add (a := z18) (b := 1) rfl rfl (by omega) (by omega) (fun z22 ez22 => ?_)
  rw [show (1 : Int32).toInt = 1 by decide] at ez22
  refine jn_pf (i := 60) (k := 22) (x := z22) rfl rfl hH15 (by decide) rfl (hH15.2 60 _ rfl).1 rfl rfl (by decide) (by decide) (by show 0 ≤ _; omega) (by show _ ≤ 240; omega) (fun h23 hH23 hs23 (t23 : ja h23 60 22 = z22.toInt) => ?_)
  refine jn_retv rfl rfl rfl ?_
  refine ⟨rfl, hH23, ((hs15.sub (by decide)).tr (hs23.sub (by decide))), t23.trans (by omega), fun k hk => ?_⟩
  rw [jso_row (i := 72) hs23 (by decide)]
  rcases Nat.lt_or_ge k c with z | z
  · rw [u15 k (by omega) (by omega)]
    exact h72 k z
  · rw [show (k : Int) = z5.toInt by omega, t15]
    omega
theorem wt_ok {P : si_P} (hxa : P.2.1 < P.1) {d : Nat} {h : si_H} (hH : az_HI P az_tb h) {w : Nat} (e23 : ja h 60 23 = w) (hw : w ≤ 240) (hA : ∀ j : Nat, j < w → 0 ≤ ja h 73 j) : az_X P d 247 0 (lv_args 0 [.ref (P.1 + 60)]) [] h (fun rv h' => h' = h ∧ ∃ z : Int32, rv = some (.int z) ∧ ((w = 0 ∧ z.toInt = -1) ∨ (∃ v : Nat, w = v + 1 ∧ z.toInt = jop (ja h 73 v)))) := by
  have hl : jM [(0, .ref (P.1 + 60))] (lv_args 0 [.ref (P.1 + 60)]) := jM_args [0] rfl (by decide)
  generalize lv_args 0 [.ref (P.1 + 60)] = ls at hl
  have km1 : ((-1) : Int32).toInt = (-1) := by decide
  have k0 : (0 : Int32).toInt = 0 := by decide
  have k1 : (1 : Int32).toInt = 1 := by decide
  have k1048576 : (1048576 : Int32).toInt = 1048576 := by decide
  refine jm_aload_n (x := P.1 + 60) rfl rfl (jM_at hl 0 rfl) ?_
  refine jn_gf (i := 60) (k := 23) rfl rfl hH (by decide) (hH.2 60 _ rfl).1 rfl rfl (fun z1 (ez1 : z1.toInt = ja h 60 23) (bz1 : (-2147483648) ≤ z1.toInt ∧ z1.toInt ≤ 2147483647) => ?_)
  refine jx_if (t := 11) rfl rfl rfl (fun hc4 => ?_) (fun hc4 => ?_)
  · have g4 := jc1_ne_t hc4
    refine jm_aload_n (x := P.1 + 60) rfl rfl (jM_at hl 0 rfl) ?_
    refine jx_gf (i := 60) rfl rfl hH (by decide) (hH.2 60 _ rfl).1 rfl (jx_rf hH rfl rfl) ?_
    refine jm_aload_n (x := P.1 + 60) rfl rfl (jM_at hl 0 rfl) ?_
    refine jn_gf (i := 60) (k := 23) rfl rfl hH (by decide) (hH.2 60 _ rfl).1 rfl rfl (fun z16 (ez16 : z16.toInt = ja h 60 23) (bz16 : (-2147483648) ≤ z16.toInt ∧ z16.toInt ≤ 2147483647) => ?_)
    refine az_X_step (pc' := 20) (ls' := ls) (st' := [.int 1, .int z16, .ref (P.1 + 73)]) (h' := h) rfl rfl rfl ?_
    refine jn_sub (a := z16) (b := 1) rfl rfl (by omega) (by omega) (fun z20 ez20 => ?_)
    rw [show (1 : Int32).toInt = 1 by decide] at ez20
    refine jx_ial (i := 73) (x := z20) rfl rfl hxa hH (by decide) rfl (by omega) (by show _ < ((260 : Nat) : Int); omega) (fun z21 ez21 bz21 => ?_)
    have a0 : 0 ≤ z21.toInt := by
      rw [ez21, show z20.toInt = ((w - 1 : Nat) : Int) by omega]
      exact hA (w - 1) (by omega)
    refine az_X_step (pc' := 25) (ls' := ls) (st' := [.int 1048576, .int z21]) (h' := h) rfl rfl rfl ?_
    refine jn_div (a := z21) (b := 1048576) rfl rfl (by omega) (by decide) (fun z25 ez25 => ?_)
    rw [show (1048576 : Int32).toInt = 1048576 by decide] at ez25
    refine jx_ret rfl rfl rfl ?_
    refine ⟨rfl, z25, rfl, Or.inr ⟨w - 1, by omega, ?_⟩⟩
    unfold jop
    rw [ez25, ez21, show z20.toInt = ((w - 1 : Nat) : Int) by omega]
  · have g4 := jc1_ne_f hc4
    refine az_X_step (pc' := 8) (ls' := ls) (st' := [.int (-1)]) (h' := h) rfl rfl rfl ?_
    refine az_X_step (pc' := 26) (ls' := ls) (st' := [.int (-1)]) (h' := h) rfl rfl rfl ?_
    refine jx_ret rfl rfl rfl ?_
    exact ⟨rfl, (-1), rfl, Or.inl ⟨by omega, by decide⟩⟩
theorem op_ok {P : si_P} {d : Nat} {h : si_H} (hH : az_HI P az_tb h) {hh : Int → Int} {n : Int} (hn : 1 ≤ n ∧ n ≤ 240) {w c t : Nat} {p : Int} (q : jQS hh n h w c p t) (hpn : p < n) (o : Int32) (ho : o.toInt = 10 ∨ o.toInt = 13 ∨ o.toInt = 14) : az_X P (d + 1) 246 0 (lv_args 0 [.ref (P.1 + 60), .int o]) [] h (fun rv h' => ∃ z : Int32, rv = some (.int z) ∧ az_HI P az_tb h' ∧ az_same_out [(60, 17), (60, 19), (60, 21), (60, 23), (73, 1000000)] h h' ∧ ((z.toInt = 0 ∧ 6 ≤ (jsk (ja h 73) w).length ∧ ja h' 60 19 = -5000 - p) ∨ (z.toInt = 1 ∧ (jsk (ja h 73) w).length < 6 ∧ jQS hh n h' (w + 1) c (p + 1) t ∧ jsk (ja h' 73) (w + 1) = o.toInt :: jsk (ja h 73) w ∧ (∀ j : Nat, j < w → ja h' 73 j = ja h 73 j) ∧ jop (ja h' 73 w) = o.toInt))) := by
  obtain ⟨q8, q7, q3, q2, q1, qw, qc, qp, qA, qI, qC, qL, qB⟩ := q
  have hl : jM [(0, .ref (P.1 + 60)), (1, .int o)] (lv_args 0 [.ref (P.1 + 60), .int o]) := jM_args [0, 1] rfl (by decide)
  generalize lv_args 0 [.ref (P.1 + 60), .int o] = ls at hl
  have k1 : (1 : Int32).toInt = 1 := by decide
  have k5 : (5 : Int32).toInt = 5 := by decide
  have k6 : (6 : Int32).toInt = 6 := by decide
  have k1048576 : (1048576 : Int32).toInt = 1048576 := by decide
  refine jm_aload_n (x := P.1 + 60) rfl rfl (jM_at hl 0 rfl) ?_
  refine jn_gf (i := 60) (k := 21) rfl rfl hH (by decide) (hH.2 60 _ rfl).1 rfl rfl (fun z1 (ez1 : z1.toInt = ja h 60 21) (bz1 : (-2147483648) ≤ z1.toInt ∧ z1.toInt ≤ 2147483647) => ?_)
  refine az_X_step (pc' := 6) (ls' := ls) (st' := [.int 6, .int z1]) (h' := h) rfl rfl rfl ?_
  refine jx_ic (t := 19) rfl rfl rfl (fun hc6 => ?_) (fun hc6 => ?_)
  · have g6 := jc2_ne_t hc6
    refine jm_aload_n (x := P.1 + 60) rfl rfl (jM_at hl 0 rfl) ?_
    refine jm_aload_n (x := P.1 + 60) rfl rfl (jM_at hl 0 rfl) ?_
    refine jn_gf (i := 60) (k := 21) rfl rfl hH (by decide) (hH.2 60 _ rfl).1 rfl rfl (fun z21 (ez21 : z21.toInt = ja h 60 21) (bz21 : (-2147483648) ≤ z21.toInt ∧ z21.toInt ≤ 2147483647) => ?_)
    refine az_X_step (pc' := 25) (ls' := ls) (st' := [.int 1, .int z21, .ref (P.1 + 60)]) (h' := h) rfl rfl rfl ?_
    refine jn_add (a := z21) (b := 1) rfl rfl (by omega) (by omega) (fun z25 ez25 => ?_)
    rw [show (1 : Int32).toInt = 1 by decide] at ez25
    refine jn_pf (i := 60) (k := 21) (x := z25) rfl rfl hH (by decide) rfl (hH.2 60 _ rfl).1 rfl rfl (by decide) (by decide) (by show (-2147483648) ≤ _; omega) (by show _ ≤ 2147483647; omega) (fun h26 hH26 hs26 (t26 : ja h26 60 21 = z25.toInt) => ?_)
    refine jm_aload_n (x := P.1 + 60) rfl rfl (jM_at hl 0 rfl) ?_
    refine jx_gf (i := 60) rfl rfl hH26 (by decide) (hH26.2 60 _ rfl).1 rfl (jx_rf hH26 rfl rfl) ?_
    refine jm_aload_n (x := P.1 + 60) rfl rfl (jM_at hl 0 rfl) ?_
    refine jn_gf (i := 60) (k := 23) rfl rfl hH26 (by decide) (hH26.2 60 _ rfl).1 rfl rfl (fun z34 (ez34 : z34.toInt = ja h26 60 23) (bz34 : (-2147483648) ≤ z34.toInt ∧ z34.toInt ≤ 2147483647) => ?_)
    replace ez34 : z34.toInt = ja h 60 23 := ez34.trans (jso hs26 (by decide))
    refine az_X_step (pc' := 40) (ls' := ls) (st' := [.int 1048576, .int z34, .ref (P.1 + 73)]) (h' := h26) rfl rfl rfl ?_
    refine jm_iload_n (x := o) rfl rfl (jM_at hl 1 rfl) ?_
    refine jn_mul (a := 1048576) (b := o) rfl rfl (by rw [show (1048576 : Int32).toInt = 1048576 by decide]; omega) (by rw [show (1048576 : Int32).toInt = 1048576 by decide]; omega) (fun z41 ez41 => ?_)
    rw [show (1048576 : Int32).toInt = 1048576 by decide] at ez41
    refine jn_ias (i := 73) (x := z34) (v := z41) rfl rfl hH26 (by decide) rfl (by omega) (by show _ < ((260 : Nat) : Int); omega) (by show (-2147483648) ≤ _; omega) (by show _ ≤ 2147483647; omega) (fun h42 hH42 hs42 t42 u42 => ?_)
    refine jm_aload_n (x := P.1 + 60) rfl rfl (jM_at hl 0 rfl) ?_
    refine jm_aload_n (x := P.1 + 60) rfl rfl (jM_at hl 0 rfl) ?_
    refine jn_gf (i := 60) (k := 23) rfl rfl hH42 (by decide) (hH42.2 60 _ rfl).1 rfl rfl (fun z45 (ez45 : z45.toInt = ja h42 60 23) (bz45 : (-2147483648) ≤ z45.toInt ∧ z45.toInt ≤ 2147483647) => ?_)
    replace ez45 : z45.toInt = ja h 60 23 := ez45.trans ((jso hs42 (by decide)).trans (jso hs26 (by decide)))
    refine az_X_step (pc' := 49) (ls' := ls) (st' := [.int 1, .int z45, .ref (P.1 + 60)]) (h' := h42) rfl rfl rfl ?_
    refine jn_add (a := z45) (b := 1) rfl rfl (by omega) (by omega) (fun z49 ez49 => ?_)
    rw [show (1 : Int32).toInt = 1 by decide] at ez49
    refine jn_pf (i := 60) (k := 23) (x := z49) rfl rfl hH42 (by decide) rfl (hH42.2 60 _ rfl).1 rfl rfl (by decide) (by decide) (by show (-2147483648) ≤ _; omega) (by show _ ≤ 2147483647; omega) (fun h50 hH50 hs50 (t50 : ja h50 60 23 = z49.toInt) => ?_)
    refine jm_aload_n (x := P.1 + 60) rfl rfl (jM_at hl 0 rfl) ?_
    refine jm_aload_n (x := P.1 + 60) rfl rfl (jM_at hl 0 rfl) ?_
    refine jn_gf (i := 60) (k := 17) rfl rfl hH50 (by decide) (hH50.2 60 _ rfl).1 rfl rfl (fun z55 (ez55 : z55.toInt = ja h50 60 17) (bz55 : 0 ≤ z55.toInt ∧ z55.toInt ≤ 240) => ?_)
    replace ez55 : z55.toInt = ja h 60 17 := ez55.trans ((jso hs50 (by decide)).trans ((jso hs42 (by decide)).trans (jso hs26 (by decide))))
    refine az_X_step (pc' := 59) (ls' := ls) (st' := [.int 1, .int z55, .ref (P.1 + 60)]) (h' := h50) rfl rfl rfl ?_
    refine jn_add (a := z55) (b := 1) rfl rfl (by omega) (by omega) (fun z59 ez59 => ?_)
    rw [show (1 : Int32).toInt = 1 by decide] at ez59
    refine jn_pf (i := 60) (k := 17) (x := z59) rfl rfl hH50 (by decide) rfl (hH50.2 60 _ rfl).1 rfl rfl (by decide) (by decide) (by show 0 ≤ _; omega) (by show _ ≤ 240; omega) (fun h60 hH60 hs60 (t60 : ja h60 60 17 = z59.toInt) => ?_)
    refine az_X_step (pc' := 64) (ls' := ls) (st' := [.int 1]) (h' := h60) rfl rfl rfl ?_
    refine jx_retz rfl rfl rfl (by decide) ?_
    have oe : jop z41.toInt = o.toInt := by
      unfold jop
      omega
    have a73 : ∀ j : Nat, j < w → ja h60 73 j = ja h 73 j := fun j hj => by
      rw [jso_row (i := 73) hs60 (by decide), jso_row (i := 73) hs50 (by decide), u42 j (by omega) (by omega), jso_row (i := 73) hs26 (by decide)]
    have w73 : ja h60 73 w = z41.toInt := by
      rw [jso_row (i := 73) hs60 (by decide), jso_row (i := 73) hs50 (by decide), show (w : Int) = z34.toInt by omega, t42]
    have oi : jop z41.toInt = 10 ∨ jop z41.toInt = 13 ∨ jop z41.toInt = 14 := by omega
    have k1 : jk1 (jop z41.toInt) ≤ 1 := (jk1_b _).2
    have k2 : jop z41.toInt ≠ 10 → jk1 (jop z41.toInt) = 0 := fun e => by
      unfold jk1
      rw [if_neg (by omega)]
    have ff := jQS_push (h' := h60) (c' := c) (t' := t) (e := z41.toInt) ⟨q8, q7, q3, q2, q1, qw, qc, qp, qA, qI, qC, qL, qB⟩ hpn ((jso hs60 (by decide)).trans ((jso hs50 (by decide)).trans ((jso hs42 (by decide)).trans (jso hs26 (by decide))))) (t60.trans (by omega)) (((jso hs60 (by decide)).trans t50).trans (by omega)) (((jso hs60 (by decide)).trans ((jso hs50 (by decide)).trans ((jso hs42 (by decide)).trans (jso hs26 (by decide))))).trans q2) a73 w73 (by omega) (fun e => absurd e (by omega)) (Nat.le_refl _) (fun k hk => by rw [jso_row (i := 72) hs60 (by decide), jso_row (i := 72) hs50 (by decide), jso_row (i := 72) hs42 (by decide), jso_row (i := 72) hs26 (by decide)]; exact qC k hk) (jBR_so hs60 (by decide) (jBR_so hs50 (by decide) (jBR_so hs42 (by decide) (jBR_so hs26 (by decide) qB)))) (by omega) (by rw [if_pos oi, List.length_cons]; omega) (by rw [if_pos oi, List.length_cons]; exact ((jso hs60 (by decide)).trans ((jso hs50 (by decide)).trans ((jso hs42 (by decide)).trans t26))).trans (by omega))
    rw [if_pos oi, oe] at ff
    exact ⟨1, rfl, hH60, ((hs26.sub (by decide)).tr ((hs42.sub (by decide)).tr ((hs50.sub (by decide)).tr (hs60.sub (by decide))))), Or.inr ⟨by decide, by omega, ff.1, ff.2, a73, by rw [w73]; exact oe⟩⟩
  · have g6 := jc2_ne_f hc6
    refine jm_aload_n (x := P.1 + 60) rfl rfl (jM_at hl 0 rfl) ?_
    refine az_X_step (pc' := 11) (ls' := ls) (st' := [.int 5, .ref (P.1 + 60)]) (h' := h) rfl rfl rfl ?_
    refine jm_aload_n (x := P.1 + 60) rfl rfl (jM_at hl 0 rfl) ?_
    refine jn_gf (i := 60) (k := 17) rfl rfl hH (by decide) (hH.2 60 _ rfl).1 rfl rfl (fun z12 (ez12 : z12.toInt = ja h 60 17) (bz12 : 0 ≤ z12.toInt ∧ z12.toInt ≤ 240) => ?_)
    refine az_X_call (m' := 242) (as := [.ref (P.1 + 60), .int 5, .int z12]) (rest := []) rfl rfl rfl rfl rfl ?_ ?_
    · unfold si_call
      dsimp only
      rw [if_pos ⟨rfl, rfl⟩]
      show (match si_ix P h (P.1 + 60) with | some i => _ | none => none) = _
      rw [jix hH (by decide)]
      dsimp only
      rw [(hH.2 60 _ rfl).1]
      rfl
    refine (rw_ok hH 5 z12 (by decide) (by omega)).mono ?_
    rintro rv15 h15 ⟨z15, rfl, hH15, hs15, f15⟩
    show az_X P _ 246 18 ls [.int z15] _ _
    refine jx_retz rfl rfl rfl (jbz (by omega)) ?_
    refine ⟨z15, rfl, hH15, hs15.sub (by decide), Or.inl ⟨f15.1, by omega, f15.2.trans (by omega)⟩⟩
theorem ep_l {P : si_P} (hxa : P.2.1 < P.1) {d : Nat} {h0 : si_H} : ∀ (w c : Nat) (x : Int) (h : si_H) (ls : si_L), jM [(0, .ref (P.1 + 60))] ls → az_HI P az_tb h → az_same_out [(60, 21), (60, 22), (60, 23), (72, 1000000)] h0 h → ja h 60 23 = w → ja h 60 22 = c → ja h 60 21 = x → (-1000 + (w : Int) ≤ x ∧ x ≤ 1000) → (∀ j : Nat, j < w → 0 ≤ ja h0 73 j) → w ≤ 240 → (c : Int) + jcn (ja h0 73) w ≤ 240 → (∀ k : Nat, k < c → 0 ≤ ja h 72 k) → az_X P (d + 1) 254 0 ls [] h (fun rv h' => rv = none ∧ az_HI P az_tb h' ∧ az_same_out [(60, 21), (60, 22), (60, 23), (72, 1000000)] h0 h' ∧ ∃ v : Nat, v ≤ w ∧ (∀ j : Nat, v ≤ j → j < w → jop (ja h0 73 j) = 10) ∧ (∀ u : Nat, v = u + 1 → jop (ja h0 73 u) ≠ 10) ∧ ja h' 60 23 = v ∧ ja h' 60 22 = (c : Int) + w - v ∧ ja h' 60 21 = x + v - w ∧ ∀ k : Nat, (k : Int) < (c : Int) + w - v → 0 ≤ ja h' 72 k) := by
  intro w
  induction w with
  | zero =>
    intro c x h ls hl hH hs e23 e22 e21 hx hA hw hc h72
    have s73 : ∀ j : Int, ja h 73 j = ja h0 73 j := fun j => jso_row hs (by decide) j
    have k10 : (10 : Int32).toInt = 10 := by decide
    refine jm_aload_n (x := P.1 + 60) rfl rfl (jM_at hl 0 rfl) ?_
    refine az_X_call (m' := 247) (as := [.ref (P.1 + 60)]) (rest := []) rfl rfl rfl rfl rfl ?_ ?_
    · unfold si_call
      dsimp only
      rw [if_pos ⟨rfl, rfl⟩]
      show (match si_ix P h (P.1 + 60) with | some i => _ | none => none) = _
      rw [jix hH (by decide)]
      dsimp only
      rw [(hH.2 60 _ rfl).1]
      rfl
    refine (wt_ok hxa hH (w := 0) e23 (by omega) (fun j hj => by rw [s73]; exact hA j hj)).mono ?_
    rintro rv1 h1 ⟨q1, z1, rfl, ez1⟩
    subst h1
    show az_X P _ 254 4 ls [.int z1] _ _
    refine az_X_step (pc' := 6) (ls' := ls) (st' := [.int 10, .int z1]) (h' := h) rfl rfl rfl ?_
    refine jx_ic (t := 39) rfl rfl rfl (fun hc6 => ?_) (fun hc6 => ?_)
    · have g6 := jc2_ne_t hc6
      refine jn_retv rfl rfl rfl ?_
      exact ⟨rfl, hH, hs, 0, by omega, fun j h1 h2 => absurd h2 (by omega), fun u hu => absurd hu (by omega), e23, by omega, by omega, fun k hk => h72 k (by omega)⟩
    · have g6 := jc2_ne_f hc6
      exfalso
      rcases ez1 with ⟨-, a⟩ | ⟨v, a, -⟩ <;> omega
  | succ w ih =>
    intro c x h ls hl hH hs e23 e22 e21 hx hA hw hc h72
    have s73 : ∀ j : Int, ja h 73 j = ja h0 73 j := fun j => jso_row hs (by decide) j
    have k0 : (0 : Int32).toInt = 0 := by decide
    have k1 : (1 : Int32).toInt = 1 := by decide
    have k10 : (10 : Int32).toInt = 10 := by decide
    refine jm_aload_n (x := P.1 + 60) rfl rfl (jM_at hl 0 rfl) ?_
    refine az_X_call (m' := 247) (as := [.ref (P.1 + 60)]) (rest := []) rfl rfl rfl rfl rfl ?_ ?_
    · unfold si_call
      dsimp only
      rw [if_pos ⟨rfl, rfl⟩]
      show (match si_ix P h (P.1 + 60) with | some i => _ | none => none) = _
      rw [jix hH (by decide)]
      dsimp only
      rw [(hH.2 60 _ rfl).1]
      rfl
    refine (wt_ok hxa hH (w := w + 1) e23 (by omega) (fun j hj => by rw [s73]; exact hA j hj)).mono ?_
    rintro rv1 h1 ⟨q1, z1, rfl, ez1⟩
    subst h1
    show az_X P _ 254 4 ls [.int z1] _ _
    refine az_X_step (pc' := 6) (ls' := ls) (st' := [.int 10, .int z1]) (h' := h) rfl rfl rfl ?_
    refine jx_ic (t := 39) rfl rfl rfl (fun hc6 => ?_) (fun hc6 => ?_)
    · have g6 := jc2_ne_t hc6
      refine jn_retv rfl rfl rfl ?_
      refine ⟨rfl, hH, hs, w + 1, by omega, fun j h1 h2 => absurd h2 (by omega), fun u hu => ?_, e23, by omega, by omega, fun k hk => h72 k (by omega)⟩
      rcases ez1 with ⟨a, -⟩ | ⟨v, a, b⟩
      · omega
      · have e1 : u = w := by omega
        have e2 : v = w := by omega
        subst e1
        subst e2
        rw [s73] at b
        omega
    · have g6 := jc2_ne_f hc6
      have o10 : jop (ja h0 73 w) = 10 := by
        rcases ez1 with ⟨a, -⟩ | ⟨v, a, b⟩
        · omega
        · have : v = w := by omega
          subst this
          rw [s73] at b
          omega
      have cj : jcn (ja h0 73) (w + 1) = jcn (ja h0 73) w + 1 := by
        show jcn (ja h0 73) w + jk1 (jop (ja h0 73 w)) = _
        rw [o10]
        rfl
      have cn := jcn_nn (ja h0 73) w
      refine jm_aload_n (x := P.1 + 60) rfl rfl (jM_at hl 0 rfl) ?_
      refine az_X_step (pc' := 12) (ls' := ls) (st' := [.int 10, .ref (P.1 + 60)]) (h' := h) rfl rfl rfl ?_
      refine az_X_step (pc' := 13) (ls' := ls) (st' := [.int 0, .int 10, .ref (P.1 + 60)]) (h' := h) rfl rfl rfl ?_
      refine az_X_call (m' := 245) (as := [.ref (P.1 + 60), .int 10, .int 0]) (rest := []) rfl rfl rfl rfl rfl ?_ ?_
      · unfold si_call
        dsimp only
        rw [if_pos ⟨rfl, rfl⟩]
        show (match si_ix P h (P.1 + 60) with | some i => _ | none => none) = _
        rw [jix hH (by decide)]
        dsimp only
        rw [(hH.2 60 _ rfl).1]
        rfl
      refine (nt_ok hH 10 0 (by decide) (by decide) e22 (by omega) h72).mono ?_
      rintro rv13 h13 ⟨rfl, hH13, hs13, f13⟩
      show az_X P _ 254 16 ls [] _ _
      refine jm_aload_n (x := P.1 + 60) rfl rfl (jM_at hl 0 rfl) ?_
      refine jm_aload_n (x := P.1 + 60) rfl rfl (jM_at hl 0 rfl) ?_
      refine jn_gf (i := 60) (k := 23) rfl rfl hH13 (by decide) (hH13.2 60 _ rfl).1 rfl rfl (fun z18 (ez18 : z18.toInt = ja h13 60 23) (bz18 : (-2147483648) ≤ z18.toInt ∧ z18.toInt ≤ 2147483647) => ?_)
      replace ez18 : z18.toInt = ja h 60 23 := ez18.trans (jso hs13 (by decide))
      refine az_X_step (pc' := 22) (ls' := ls) (st' := [.int 1, .int z18, .ref (P.1 + 60)]) (h' := h13) rfl rfl rfl ?_
      refine jn_sub (a := z18) (b := 1) rfl rfl (by omega) (by omega) (fun z22 ez22 => ?_)
      rw [show (1 : Int32).toInt = 1 by decide] at ez22
      refine jn_pf (i := 60) (k := 23) (x := z22) rfl rfl hH13 (by decide) rfl (hH13.2 60 _ rfl).1 rfl rfl (by decide) (by decide) (by show (-2147483648) ≤ _; omega) (by show _ ≤ 2147483647; omega) (fun h23 hH23 hs23 (t23 : ja h23 60 23 = z22.toInt) => ?_)
      refine jm_aload_n (x := P.1 + 60) rfl rfl (jM_at hl 0 rfl) ?_
      refine jm_aload_n (x := P.1 + 60) rfl rfl (jM_at hl 0 rfl) ?_
      refine jn_gf (i := 60) (k := 21) rfl rfl hH23 (by decide) (hH23.2 60 _ rfl).1 rfl rfl (fun z28 (ez28 : z28.toInt = ja h23 60 21) (bz28 : (-2147483648) ≤ z28.toInt ∧ z28.toInt ≤ 2147483647) => ?_)
      replace ez28 : z28.toInt = ja h 60 21 := ez28.trans ((jso hs23 (by decide)).trans (jso hs13 (by decide)))
      refine az_X_step (pc' := 32) (ls' := ls) (st' := [.int 1, .int z28, .ref (P.1 + 60)]) (h' := h23) rfl rfl rfl ?_
      refine jn_sub (a := z28) (b := 1) rfl rfl (by omega) (by omega) (fun z32 ez32 => ?_)
      rw [show (1 : Int32).toInt = 1 by decide] at ez32
      refine jn_pf (i := 60) (k := 21) (x := z32) rfl rfl hH23 (by decide) rfl (hH23.2 60 _ rfl).1 rfl rfl (by decide) (by decide) (by show (-2147483648) ≤ _; omega) (by show _ ≤ 2147483647; omega) (fun h33 hH33 hs33 (t33 : ja h33 60 21 = z32.toInt) => ?_)
      refine az_X_step (pc' := 0) (ls' := ls) (st' := []) (h' := h33) rfl rfl rfl ?_
      refine (ih (c + 1) (x - 1) h33 ls (jM_pick hl [0] rfl) hH33 (hs.tr ((hs13.sub (by decide)).tr ((hs23.sub (by decide)).tr (hs33.sub (by decide))))) (((jso hs33 (by decide)).trans t23).trans (by omega)) (((jso hs33 (by decide)).trans (jso hs23 (by decide))).trans f13.1) (t33.trans (by omega)) (by omega) (fun j hj => hA j (by omega)) (by omega) (by omega) (fun k hk => ?_)).mono ?_
      · rw [jso_row (i := 72) hs33 (by decide), jso_row (i := 72) hs23 (by decide)]
        exact f13.2 k hk
      · rintro rv h9 ⟨a1, a2, a3, v, a4, a5, a6, a7, a8, a9, a10⟩
        refine ⟨a1, a2, a3, v, by omega, fun j h1 h2 => ?_, a6, a7, by omega, by omega, fun k hk => a10 k (by omega)⟩
        rcases Nat.lt_or_ge j w with z | z
        · exact a5 j h1 z
        · rw [show j = w by omega]
          exact o10
theorem ep2_ok {P : si_P} (hxa : P.2.1 < P.1) {d : Nat} {h0 : si_H} (hH : az_HI P az_tb h0) {w c : Nat} {x : Int} (e23 : ja h0 60 23 = w) (e22 : ja h0 60 22 = c) (e21 : ja h0 60 21 = x) (hx : -1000 + (w : Int) ≤ x ∧ x ≤ 1000) (hA : ∀ j : Nat, j < w → 0 ≤ ja h0 73 j) (hw : w ≤ 240) (hc : (c : Int) + jcn (ja h0 73) w ≤ 240) (h72 : ∀ k : Nat, k < c → 0 ≤ ja h0 72 k) : az_X P (d + 1) 254 0 (lv_args 0 [.ref (P.1 + 60)]) [] h0 (fun rv h' => rv = none ∧ az_HI P az_tb h' ∧ az_same_out [(60, 21), (60, 22), (60, 23), (72, 1000000)] h0 h' ∧ ∃ v : Nat, v ≤ w ∧ (∀ j : Nat, v ≤ j → j < w → jop (ja h0 73 j) = 10) ∧ (∀ u : Nat, v = u + 1 → jop (ja h0 73 u) ≠ 10) ∧ ja h' 60 23 = v ∧ ja h' 60 22 = (c : Int) + w - v ∧ ja h' 60 21 = x + v - w ∧ ∀ k : Nat, (k : Int) < (c : Int) + w - v → 0 ≤ ja h' 72 k) := ep_l hxa w c x h0 _ (jM_args [0] rfl (by decide)) hH az_same_out.rf e23 e22 e21 hx hA hw hc h72
theorem ho_l {P : si_P} (hxa : P.2.1 < P.1) {d : Nat} {h : si_H} (hH : az_HI P az_tb h) {w b0 : Nat} (e23 : ja h 60 23 = w) (hw : w ≤ 240) (hA : ∀ j : Nat, j < w → 0 ≤ ja h 73 j) (b : Int32) (eb : b.toInt = b0) (hbw : b0 ≤ w) : ∀ (k j : Nat) (K : Int32) (ls : si_L), jM [(2, .int K), (0, .ref (P.1 + 60)), (1, .int b)] ls → K.toInt = j → j + k = w → b0 ≤ j → (∀ u : Nat, b0 ≤ u → u < j → jop (ja h 73 u) ≠ 14) → az_X P d 252 2 ls [] h (fun rv h' => h' = h ∧ ∃ z : Int32, rv = some (.int z) ∧ ((z.toInt = 1 ∧ ∃ j : Nat, b0 ≤ j ∧ j < w ∧ jop (ja h 73 j) = 14) ∨ (z.toInt = 0 ∧ ∀ j : Nat, b0 ≤ j → j < w → jop (ja h 73 j) ≠ 14))) := by
  intro k
  induction k with
  | zero =>
    intro j K ls hl eK hj bj hd
    have k0 : (0 : Int32).toInt = 0 := by decide
    refine jm_iload_n (x := K) rfl rfl (jM_at hl 0 rfl) ?_
    refine jm_aload_n (x := P.1 + 60) rfl rfl (jM_at hl 1 rfl) ?_
    refine jn_gf (i := 60) (k := 23) rfl rfl hH (by decide) (hH.2 60 _ rfl).1 rfl rfl (fun z4 (ez4 : z4.toInt = ja h 60 23) (bz4 : (-2147483648) ≤ z4.toInt ∧ z4.toInt ≤ 2147483647) => ?_)
    refine jx_ic (t := 33) rfl rfl rfl (fun hc7 => ?_) (fun hc7 => ?_)
    · have g7 := jc2_ge_t hc7
      refine az_X_step (pc' := 34) (ls' := ls) (st' := [.int 0]) (h' := h) rfl rfl rfl ?_
      refine jx_retz rfl rfl rfl (by decide) ?_
      exact ⟨rfl, 0, rfl, Or.inr ⟨by decide, fun u h1 h2 => hd u h1 (by omega)⟩⟩
    · have g7 := jc2_ge_f hc7
      exfalso
      omega
  | succ k ih =>
    intro j K ls hl eK hj bj hd
    have pj : j < w → 0 ≤ ja h 73 j := fun q => hA j q
    have k0 : (0 : Int32).toInt = 0 := by decide
    have k1 : (1 : Int32).toInt = 1 := by decide
    have k14 : (14 : Int32).toInt = 14 := by decide
    have k1048576 : (1048576 : Int32).toInt = 1048576 := by decide
    refine jm_iload_n (x := K) rfl rfl (jM_at hl 0 rfl) ?_
    refine jm_aload_n (x := P.1 + 60) rfl rfl (jM_at hl 1 rfl) ?_
    refine jn_gf (i := 60) (k := 23) rfl rfl hH (by decide) (hH.2 60 _ rfl).1 rfl rfl (fun z4 (ez4 : z4.toInt = ja h 60 23) (bz4 : (-2147483648) ≤ z4.toInt ∧ z4.toInt ≤ 2147483647) => ?_)
    refine jx_ic (t := 33) rfl rfl rfl (fun hc7 => ?_) (fun hc7 => ?_)
    · have g7 := jc2_ge_t hc7
      refine az_X_step (pc' := 34) (ls' := ls) (st' := [.int 0]) (h' := h) rfl rfl rfl ?_
      refine jx_retz rfl rfl rfl (by decide) ?_
      exfalso
      omega
    · have g7 := jc2_ge_f hc7
      refine jm_aload_n (x := P.1 + 60) rfl rfl (jM_at hl 1 rfl) ?_
      refine jx_gf (i := 60) rfl rfl hH (by decide) (hH.2 60 _ rfl).1 rfl (jx_rf hH rfl rfl) ?_
      refine jm_iload_n (x := K) rfl rfl (jM_at hl 0 rfl) ?_
      refine jx_ial (i := 73) (x := K) rfl rfl hxa hH (by decide) rfl (by omega) (by show _ < ((260 : Nat) : Int); omega) (fun z15 ez15 bz15 => ?_)
      have e15 : z15.toInt = ja h 73 j := by rw [ez15, eK]
      have p15 := pj (by omega)
      refine az_X_step (pc' := 19) (ls' := ls) (st' := [.int 1048576, .int z15]) (h' := h) rfl rfl rfl ?_
      refine jn_div (a := z15) (b := 1048576) rfl rfl (by omega) (by decide) (fun z19 ez19 => ?_)
      rw [show (1048576 : Int32).toInt = 1048576 by decide] at ez19
      refine az_X_step (pc' := 22) (ls' := ls) (st' := [.int 14, .int z19]) (h' := h) rfl rfl rfl ?_
      refine jx_ic (t := 27) rfl rfl rfl (fun hc22 => ?_) (fun hc22 => ?_)
      · have g22 := jc2_ne_t hc22
        refine jn_iinc (x := K) rfl rfl (by decide) (jM_at hl 0 rfl) hl rfl (by decide) (by omega) (by omega) (fun z27 (ez27 : z27.toInt = K.toInt + 1) ls27 (hl27 : jM [(2, .int z27), (0, .ref (P.1 + 60)), (1, .int b)] ls27) => ?_)
        refine az_X_step (pc' := 2) (ls' := ls27) (st' := []) (h' := h) rfl rfl rfl ?_
        refine ih (j + 1) z27 ls27 (jM_pick hl27 [0, 1, 2] rfl) (by omega) (by omega) (by omega) (fun u h1 h2 => ?_)
        rcases Nat.lt_or_ge u j with z | z
        · exact hd u h1 z
        · rw [show u = j by omega]
          unfold jop
          omega
      · have g22 := jc2_ne_f hc22
        refine az_X_step (pc' := 26) (ls' := ls) (st' := [.int 1]) (h' := h) rfl rfl rfl ?_
        refine jx_retz rfl rfl rfl (by decide) ?_
        exact ⟨rfl, 1, rfl, Or.inl ⟨by decide, j, bj, by omega, by unfold jop; omega⟩⟩
theorem ho_ok {P : si_P} (hxa : P.2.1 < P.1) {d : Nat} {h : si_H} (hH : az_HI P az_tb h) {w b0 : Nat} (e23 : ja h 60 23 = w) (hw : w ≤ 240) (hA : ∀ j : Nat, j < w → 0 ≤ ja h 73 j) (b : Int32) (eb : b.toInt = b0) (hbw : b0 ≤ w) : az_X P d 252 0 (lv_args 0 [.ref (P.1 + 60), .int b]) [] h (fun rv h' => h' = h ∧ ∃ z : Int32, rv = some (.int z) ∧ ((z.toInt = 1 ∧ ∃ j : Nat, b0 ≤ j ∧ j < w ∧ jop (ja h 73 j) = 14) ∨ (z.toInt = 0 ∧ ∀ j : Nat, b0 ≤ j → j < w → jop (ja h 73 j) ≠ 14))) := by
  have hl : jM [(0, .ref (P.1 + 60)), (1, .int b)] (lv_args 0 [.ref (P.1 + 60), .int b]) := jM_args [0, 1] rfl (by decide)
  generalize lv_args 0 [.ref (P.1 + 60), .int b] = ls at hl
  refine jm_iload_n (x := b) rfl rfl (jM_at hl 1 rfl) ?_
  refine jm_istore_n (l' := [(2, .int b), (0, .ref (P.1 + 60)), (1, .int b)]) rfl rfl (by decide) hl rfl rfl (fun ls1 hl1 => ?_)
  exact ho_l hxa hH e23 hw hA b eb hbw (w - b0) b0 b ls1 (jM_pick hl1 [0, 1, 2] rfl) eb (by omega) (by omega) (fun u h1 h2 => absurd h2 (by omega))
theorem sg_ok {P : si_P} {d : Nat} {h : si_H} (x : Int32) : az_X P d 249 0 (lv_args 0 [.int x]) [] h (fun rv h' => h' = h ∧ ∃ z : Int32, rv = some (.int z) ∧ ((pysg x.toInt ∧ 2 ≤ z.toInt ∧ z.toInt ≤ 6) ∨ (¬ pysg x.toInt ∧ z.toInt = -1))) := by
  have hl : jM [(0, .int x)] (lv_args 0 [.int x]) := jM_args [0] rfl (by decide)
  generalize lv_args 0 [.int x] = ls at hl
  have km1 : ((-1) : Int32).toInt = (-1) := by decide
  have k2 : (2 : Int32).toInt = 2 := by decide
  have k3 : (3 : Int32).toInt = 3 := by decide
  have k4 : (4 : Int32).toInt = 4 := by decide
  have k5 : (5 : Int32).toInt = 5 := by decide
  have k6 : (6 : Int32).toInt = 6 := by decide
  have k37 : (37 : Int32).toInt = 37 := by decide
  have k42 : (42 : Int32).toInt = 42 := by decide
  have k43 : (43 : Int32).toInt = 43 := by decide
  have k45 : (45 : Int32).toInt = 45 := by decide
  have k47 : (47 : Int32).toInt = 47 := by decide
  refine jm_iload_n (x := x) rfl rfl (jM_at hl 0 rfl) ?_
  refine az_X_step (pc' := 3) (ls' := ls) (st' := [.int 43, .int x]) (h' := h) rfl rfl rfl ?_
  refine jx_ic (t := 10) rfl rfl rfl (fun hc3 => ?_) (fun hc3 => ?_)
  · have g3 := jc2_ne_t hc3
    refine jm_iload_n (x := x) rfl rfl (jM_at hl 0 rfl) ?_
    refine az_X_step (pc' := 13) (ls' := ls) (st' := [.int 45, .int x]) (h' := h) rfl rfl rfl ?_
    refine jx_ic (t := 20) rfl rfl rfl (fun hc13 => ?_) (fun hc13 => ?_)
    · have g13 := jc2_ne_t hc13
      refine jm_iload_n (x := x) rfl rfl (jM_at hl 0 rfl) ?_
      refine az_X_step (pc' := 23) (ls' := ls) (st' := [.int 42, .int x]) (h' := h) rfl rfl rfl ?_
      refine jx_ic (t := 30) rfl rfl rfl (fun hc23 => ?_) (fun hc23 => ?_)
      · have g23 := jc2_ne_t hc23
        refine jm_iload_n (x := x) rfl rfl (jM_at hl 0 rfl) ?_
        refine az_X_step (pc' := 33) (ls' := ls) (st' := [.int 47, .int x]) (h' := h) rfl rfl rfl ?_
        refine jx_ic (t := 40) rfl rfl rfl (fun hc33 => ?_) (fun hc33 => ?_)
        · have g33 := jc2_ne_t hc33
          refine jm_iload_n (x := x) rfl rfl (jM_at hl 0 rfl) ?_
          refine az_X_step (pc' := 43) (ls' := ls) (st' := [.int 37, .int x]) (h' := h) rfl rfl rfl ?_
          refine jx_ic (t := 51) rfl rfl rfl (fun hc43 => ?_) (fun hc43 => ?_)
          · have g43 := jc2_ne_t hc43
            refine az_X_step (pc' := 52) (ls' := ls) (st' := [.int (-1)]) (h' := h) rfl rfl rfl ?_
            refine jx_ret rfl rfl rfl ?_
            exact ⟨rfl, (-1), rfl, by omega⟩
          · have g43 := jc2_ne_f hc43
            refine az_X_step (pc' := 48) (ls' := ls) (st' := [.int 6]) (h' := h) rfl rfl rfl ?_
            refine az_X_step (pc' := 52) (ls' := ls) (st' := [.int 6]) (h' := h) rfl rfl rfl ?_
            refine jx_ret rfl rfl rfl ?_
            exact ⟨rfl, 6, rfl, by omega⟩
        · have g33 := jc2_ne_f hc33
          refine az_X_step (pc' := 37) (ls' := ls) (st' := [.int 5]) (h' := h) rfl rfl rfl ?_
          refine az_X_step (pc' := 52) (ls' := ls) (st' := [.int 5]) (h' := h) rfl rfl rfl ?_
          refine jx_ret rfl rfl rfl ?_
          exact ⟨rfl, 5, rfl, by omega⟩
      · have g23 := jc2_ne_f hc23
        refine az_X_step (pc' := 27) (ls' := ls) (st' := [.int 4]) (h' := h) rfl rfl rfl ?_
        refine az_X_step (pc' := 52) (ls' := ls) (st' := [.int 4]) (h' := h) rfl rfl rfl ?_
        refine jx_ret rfl rfl rfl ?_
        exact ⟨rfl, 4, rfl, by omega⟩
    · have g13 := jc2_ne_f hc13
      refine az_X_step (pc' := 17) (ls' := ls) (st' := [.int 3]) (h' := h) rfl rfl rfl ?_
      refine az_X_step (pc' := 52) (ls' := ls) (st' := [.int 3]) (h' := h) rfl rfl rfl ?_
      refine jx_ret rfl rfl rfl ?_
      exact ⟨rfl, 3, rfl, by omega⟩
  · have g3 := jc2_ne_f hc3
    refine az_X_step (pc' := 7) (ls' := ls) (st' := [.int 2]) (h' := h) rfl rfl rfl ?_
    refine az_X_step (pc' := 52) (ls' := ls) (st' := [.int 2]) (h' := h) rfl rfl rfl ?_
    refine jx_ret rfl rfl rfl ?_
    exact ⟨rfl, 2, rfl, by omega⟩
