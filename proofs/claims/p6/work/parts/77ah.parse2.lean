set_option maxRecDepth 100000
/-! THE BYTES OF A TAPE -/
set_option maxRecDepth 100000
theorem jn_a255 (y : Int32) : (y &&& 255).toInt = y.toInt % 256 := by
  have h1 : (y &&& 255).toBitVec.toNat = y.toBitVec.toNat % 256 := by
    rw [show (y &&& 255).toBitVec = y.toBitVec &&& (255 : Int32).toBitVec from rfl, BitVec.toNat_and]
    exact Nat.and_two_pow_sub_one_eq_mod _ 8
  have h2 := nm_ofnat (x := y &&& 255) (by rw [h1]; omega)
  have hl := y.toBitVec.isLt
  rw [h2, h1]
  have e : y.toInt = y.toBitVec.toInt := rfl
  rw [e, BitVec.toInt_eq_toNat_cond]
  split <;> omega
theorem jn_b256 (y : Int32) : y.toInt8.toInt32.toInt % 256 = y.toInt % 256 := by
  rw [Int8.toInt_toInt32, Int32.toInt_toInt8]
  exact @Int.bmod_emod y.toInt 256
theorem jn_a255b (y : Int32) : 0 ≤ (y &&& 255).toInt ∧ (y &&& 255).toInt ≤ 255 := by
  rw [jn_a255]
  omega
def jby (x : Int32) : Nat → Int
  | 0 => (x >>> (24 &&& 31)).toInt % 256
  | 1 => (x >>> (16 &&& 31)).toInt % 256
  | 2 => (x >>> (8 &&& 31)).toInt % 256
  | _ => (x >>> (0 &&& 31)).toInt % 256
def jap (A : Nat → Int) (L : Int) (x : Int32) (i : Nat) : Int := if (i : Int) < L then A i else jby x ((i : Int) - L).toNat
theorem jap_0 {f A : Nat → Int} {L : Int} {x : Int32} (hA : ∀ i : Nat, (i : Int) < L → f i = A i) : ∀ i : Nat, (i : Int) < L + ((0 : Nat) : Int) → f i = jap A L x i := fun i hi => by
  unfold jap
  rw [if_pos (by omega)]
  exact hA i (by omega)
theorem jap_s {g : Int → Int} {c : Nat} {h h1 h2 : si_H} {md : List (Nat × Nat)} {A : Nat → Int} {L : Int} {x : Int32} {k : Nat} {z : Int} (hF : ∀ i : Nat, (i : Int) < L + (k : Int) → g (ja h c i) = jap A L x i) (hL : 0 ≤ L) (ez : z = L + k) (t : g (ja h1 c z) = jby x k) (u : ∀ j : Int, 0 ≤ j → j ≠ z → ja h1 c j = ja h c j) (hs : az_same_out md h1 h2) (hm : md.all (fun x => decide (x.1 ≠ c)) = true) : ∀ i : Nat, (i : Int) < L + ((k + 1 : Nat) : Int) → g (ja h2 c i) = jap A L x i := by
  intro i hi
  rw [jso_row hs hm]
  by_cases e : (i : Int) = z
  · rw [e, t]
    unfold jap
    rw [if_neg (by omega), show ((i : Int) - L).toNat = k by omega]
  · rw [u i (by omega) e]
    exact hF i (by omega)
theorem tadd_ok {P : si_P} {d : Nat} {h : si_H} (hH : az_HI P az_tb h) (x : Int32) {A : Nat → Int} (hl0 : ja h 12 1 ≤ 256) (hA : ∀ i : Nat, (i : Int) < ja h 12 1 → ja h 13 i = A i) : az_X P d 140 0 (lv_args 0 [.ref (P.1 + 12), .int x]) [] h (fun rv h' => rv = none ∧ az_HI P az_tb h' ∧ az_same_out [(12, 1), (13, 1000000)] h h' ∧ ja h' 12 1 = ja h 12 1 + 4 ∧ ∀ i : Nat, (i : Int) < ja h 12 1 + 4 → ja h' 13 i = jap A (ja h 12 1) x i) := by
  have b0 : 0 ≤ ja h 12 1 ∧ ja h 12 1 ≤ 260 := ja_bd hH (i := 12) (k := 1) rfl
  have F0 := jap_0 (f := fun i => ja h 13 i) (x := x) hA
  have hl : jM [(0, .ref (P.1 + 12)), (1, .int x)] (lv_args 0 [.ref (P.1 + 12), .int x]) := jM_args [0, 1] rfl (by decide)
  generalize lv_args 0 [.ref (P.1 + 12), .int x] = ls at hl
  have km8 : ((-8) : Int32).toInt = (-8) := by decide
  have k0 : (0 : Int32).toInt = 0 := by decide
  have k1 : (1 : Int32).toInt = 1 := by decide
  have k8 : (8 : Int32).toInt = 8 := by decide
  have k16 : (16 : Int32).toInt = 16 := by decide
  have k24 : (24 : Int32).toInt = 24 := by decide
  have k255 : (255 : Int32).toInt = 255 := by decide
  have k260 : (260 : Int32).toInt = 260 := by decide
  refine az_X_step (pc' := 2) (ls' := ls) (st' := [.int 24]) (h' := h) rfl rfl rfl ?_
  refine jm_istore_n (l' := [(2, .int 24), (0, .ref (P.1 + 12)), (1, .int x)]) rfl rfl (by decide) hl rfl rfl (fun ls2 hl2 => ?_)
  refine jm_iload_n (x := 24) rfl rfl (jM_at hl2 0 rfl) ?_
  refine jn_ifd (t := 49) (c := false) rfl rfl rfl (by decide) ?_
  show az_X P _ 140 7 ls2 [] _ _
  refine jm_aload_n (x := P.1 + 12) rfl rfl (jM_at hl2 1 rfl) ?_
  refine jn_gf (i := 12) (k := 1) rfl rfl hH (by decide) (hH.2 12 _ rfl).1 rfl rfl (fun z8 (ez8 : z8.toInt = ja h 12 1) (bz8 : 0 ≤ z8.toInt ∧ z8.toInt ≤ 260) => ?_)
  refine az_X_step (pc' := 14) (ls' := ls2) (st' := [.int 260, .int z8]) (h' := h) rfl rfl rfl ?_
  refine jx_ic (t := 49) rfl rfl rfl (fun hc14 => ?_) (fun hc14 => ?_)
  · have g14 := jc2_ge_t hc14
    refine jn_retv rfl rfl rfl ?_
    exfalso
    omega
  · have g14 := jc2_ge_f hc14
    refine jm_aload_n (x := P.1 + 12) rfl rfl (jM_at hl2 1 rfl) ?_
    refine jx_gf (i := 12) rfl rfl hH (by decide) (hH.2 12 _ rfl).1 rfl (jx_rf hH rfl rfl) ?_
    refine jm_aload_n (x := P.1 + 12) rfl rfl (jM_at hl2 1 rfl) ?_
    refine jn_gf (i := 12) (k := 1) rfl rfl hH (by decide) (hH.2 12 _ rfl).1 rfl rfl (fun z22 (ez22 : z22.toInt = ja h 12 1) (bz22 : 0 ≤ z22.toInt ∧ z22.toInt ≤ 260) => ?_)
    refine jm_iload_n (x := x) rfl rfl (jM_at hl2 2 rfl) ?_
    refine jm_iload_n (x := 24) rfl rfl (jM_at hl2 0 rfl) ?_
    refine az_X_step (pc' := 28) (ls' := ls2) (st' := [.int (x >>> (24 &&& 31)), .int z22, .ref (P.1 + 13)]) (h' := h) rfl rfl rfl ?_
    refine az_X_step (pc' := 31) (ls' := ls2) (st' := [.int 255, .int (x >>> (24 &&& 31)), .int z22, .ref (P.1 + 13)]) (h' := h) rfl rfl rfl ?_
    refine az_X_step (pc' := 32) (ls' := ls2) (st' := [.int ((x >>> (24 &&& 31)) &&& 255), .int z22, .ref (P.1 + 13)]) (h' := h) rfl rfl rfl ?_
    refine jn_ias (i := 13) (x := z22) (v := ((x >>> (24 &&& 31)) &&& 255)) rfl rfl hH (by decide) rfl (by omega) (by show _ < ((260 : Nat) : Int); omega) (jn_a255b _).1 (jn_a255b _).2 (fun h32 hH32 hs32 t32 u32 => ?_)
    refine jm_aload_n (x := P.1 + 12) rfl rfl (jM_at hl2 1 rfl) ?_
    refine az_X_step (pc' := 35) (ls' := ls2) (st' := [.ref (P.1 + 12), .ref (P.1 + 12)]) (h' := h32) rfl rfl rfl ?_
    refine jn_gf (i := 12) (k := 1) rfl rfl hH32 (by decide) (hH32.2 12 _ rfl).1 rfl rfl (fun z35 (ez35 : z35.toInt = ja h32 12 1) (bz35 : 0 ≤ z35.toInt ∧ z35.toInt ≤ 260) => ?_)
    replace ez35 : z35.toInt = ja h 12 1 := ez35.trans (jso hs32 (by decide))
    refine az_X_step (pc' := 39) (ls' := ls2) (st' := [.int 1, .int z35, .ref (P.1 + 12)]) (h' := h32) rfl rfl rfl ?_
    refine jn_add (a := z35) (b := 1) rfl rfl (by omega) (by omega) (fun z39 ez39 => ?_)
    rw [show (1 : Int32).toInt = 1 by decide] at ez39
    refine jn_pf (i := 12) (k := 1) (x := z39) rfl rfl hH32 (by decide) rfl (hH32.2 12 _ rfl).1 rfl rfl (by decide) (by decide) (by show 0 ≤ _; omega) (by show _ ≤ 260; omega) (fun h40 hH40 hs40 (t40 : ja h40 12 1 = z39.toInt) => ?_)
    have F1 := jap_s (g := fun x => x) (c := 13) (k := 0) F0 b0.1 (show z22.toInt = ja h 12 1 + ((0 : Nat) : Int) by omega) (t32.trans (jn_a255 _)) u32 hs40 (by decide)
    refine jm_iinc (x := 24) (x' := 16) (l' := [(2, .int 16), (0, .ref (P.1 + 12)), (1, .int x)]) rfl rfl (by decide) (jM_at hl2 0 rfl) (by decide) hl2 rfl rfl (fun ls43 hl43 => ?_)
    refine az_X_step (pc' := 3) (ls' := ls43) (st' := []) (h' := h40) rfl rfl rfl ?_
    refine jm_iload_n (x := 16) rfl rfl (jM_at hl43 0 rfl) ?_
    refine jn_ifd (t := 49) (c := false) rfl rfl rfl (by decide) ?_
    show az_X P _ 140 7 ls43 [] _ _
    refine jm_aload_n (x := P.1 + 12) rfl rfl (jM_at hl43 1 rfl) ?_
    refine jn_gf (i := 12) (k := 1) rfl rfl hH40 (by decide) (hH40.2 12 _ rfl).1 rfl rfl (fun z8_2 (ez8_2 : z8_2.toInt = ja h40 12 1) (bz8_2 : 0 ≤ z8_2.toInt ∧ z8_2.toInt ≤ 260) => ?_)
    replace ez8_2 : z8_2.toInt = z39.toInt := ez8_2.trans t40
    refine az_X_step (pc' := 14) (ls' := ls43) (st' := [.int 260, .int z8_2]) (h' := h40) rfl rfl rfl ?_
    refine jx_ic (t := 49) rfl rfl rfl (fun hc14_2 => ?_) (fun hc14_2 => ?_)
    · have g14_2 := jc2_ge_t hc14_2
      refine jn_retv rfl rfl rfl ?_
      exfalso
      omega
    · have g14_2 := jc2_ge_f hc14_2
      refine jm_aload_n (x := P.1 + 12) rfl rfl (jM_at hl43 1 rfl) ?_
      refine jx_gf (i := 12) rfl rfl hH40 (by decide) (hH40.2 12 _ rfl).1 rfl (jx_rf hH40 rfl rfl) ?_
      refine jm_aload_n (x := P.1 + 12) rfl rfl (jM_at hl43 1 rfl) ?_
      refine jn_gf (i := 12) (k := 1) rfl rfl hH40 (by decide) (hH40.2 12 _ rfl).1 rfl rfl (fun z22_2 (ez22_2 : z22_2.toInt = ja h40 12 1) (bz22_2 : 0 ≤ z22_2.toInt ∧ z22_2.toInt ≤ 260) => ?_)
      replace ez22_2 : z22_2.toInt = z39.toInt := ez22_2.trans t40
      refine jm_iload_n (x := x) rfl rfl (jM_at hl43 2 rfl) ?_
      refine jm_iload_n (x := 16) rfl rfl (jM_at hl43 0 rfl) ?_
      refine az_X_step (pc' := 28) (ls' := ls43) (st' := [.int (x >>> (16 &&& 31)), .int z22_2, .ref (P.1 + 13)]) (h' := h40) rfl rfl rfl ?_
      refine az_X_step (pc' := 31) (ls' := ls43) (st' := [.int 255, .int (x >>> (16 &&& 31)), .int z22_2, .ref (P.1 + 13)]) (h' := h40) rfl rfl rfl ?_
      refine az_X_step (pc' := 32) (ls' := ls43) (st' := [.int ((x >>> (16 &&& 31)) &&& 255), .int z22_2, .ref (P.1 + 13)]) (h' := h40) rfl rfl rfl ?_
      refine jn_ias (i := 13) (x := z22_2) (v := ((x >>> (16 &&& 31)) &&& 255)) rfl rfl hH40 (by decide) rfl (by omega) (by show _ < ((260 : Nat) : Int); omega) (jn_a255b _).1 (jn_a255b _).2 (fun h32_2 hH32_2 hs32_2 t32_2 u32_2 => ?_)
      refine jm_aload_n (x := P.1 + 12) rfl rfl (jM_at hl43 1 rfl) ?_
      refine az_X_step (pc' := 35) (ls' := ls43) (st' := [.ref (P.1 + 12), .ref (P.1 + 12)]) (h' := h32_2) rfl rfl rfl ?_
      refine jn_gf (i := 12) (k := 1) rfl rfl hH32_2 (by decide) (hH32_2.2 12 _ rfl).1 rfl rfl (fun z35_2 (ez35_2 : z35_2.toInt = ja h32_2 12 1) (bz35_2 : 0 ≤ z35_2.toInt ∧ z35_2.toInt ≤ 260) => ?_)
      replace ez35_2 : z35_2.toInt = z39.toInt := ez35_2.trans ((jso hs32_2 (by decide)).trans t40)
      refine az_X_step (pc' := 39) (ls' := ls43) (st' := [.int 1, .int z35_2, .ref (P.1 + 12)]) (h' := h32_2) rfl rfl rfl ?_
      refine jn_add (a := z35_2) (b := 1) rfl rfl (by omega) (by omega) (fun z39_2 ez39_2 => ?_)
      rw [show (1 : Int32).toInt = 1 by decide] at ez39_2
      refine jn_pf (i := 12) (k := 1) (x := z39_2) rfl rfl hH32_2 (by decide) rfl (hH32_2.2 12 _ rfl).1 rfl rfl (by decide) (by decide) (by show 0 ≤ _; omega) (by show _ ≤ 260; omega) (fun h40_2 hH40_2 hs40_2 (t40_2 : ja h40_2 12 1 = z39_2.toInt) => ?_)
      have F2 := jap_s (g := fun x => x) (c := 13) (k := 1) F1 b0.1 (show z22_2.toInt = ja h 12 1 + ((1 : Nat) : Int) by omega) (t32_2.trans (jn_a255 _)) u32_2 hs40_2 (by decide)
      refine jm_iinc (x := 16) (x' := 8) (l' := [(2, .int 8), (0, .ref (P.1 + 12)), (1, .int x)]) rfl rfl (by decide) (jM_at hl43 0 rfl) (by decide) hl43 rfl rfl (fun ls43_2 hl43_2 => ?_)
      refine az_X_step (pc' := 3) (ls' := ls43_2) (st' := []) (h' := h40_2) rfl rfl rfl ?_
      refine jm_iload_n (x := 8) rfl rfl (jM_at hl43_2 0 rfl) ?_
      refine jn_ifd (t := 49) (c := false) rfl rfl rfl (by decide) ?_
      show az_X P _ 140 7 ls43_2 [] _ _
      refine jm_aload_n (x := P.1 + 12) rfl rfl (jM_at hl43_2 1 rfl) ?_
      refine jn_gf (i := 12) (k := 1) rfl rfl hH40_2 (by decide) (hH40_2.2 12 _ rfl).1 rfl rfl (fun z8_3 (ez8_3 : z8_3.toInt = ja h40_2 12 1) (bz8_3 : 0 ≤ z8_3.toInt ∧ z8_3.toInt ≤ 260) => ?_)
      replace ez8_3 : z8_3.toInt = z39_2.toInt := ez8_3.trans t40_2
      refine az_X_step (pc' := 14) (ls' := ls43_2) (st' := [.int 260, .int z8_3]) (h' := h40_2) rfl rfl rfl ?_
      refine jx_ic (t := 49) rfl rfl rfl (fun hc14_3 => ?_) (fun hc14_3 => ?_)
      · have g14_3 := jc2_ge_t hc14_3
        refine jn_retv rfl rfl rfl ?_
        exfalso
        omega
      · have g14_3 := jc2_ge_f hc14_3
        refine jm_aload_n (x := P.1 + 12) rfl rfl (jM_at hl43_2 1 rfl) ?_
        refine jx_gf (i := 12) rfl rfl hH40_2 (by decide) (hH40_2.2 12 _ rfl).1 rfl (jx_rf hH40_2 rfl rfl) ?_
        refine jm_aload_n (x := P.1 + 12) rfl rfl (jM_at hl43_2 1 rfl) ?_
        refine jn_gf (i := 12) (k := 1) rfl rfl hH40_2 (by decide) (hH40_2.2 12 _ rfl).1 rfl rfl (fun z22_3 (ez22_3 : z22_3.toInt = ja h40_2 12 1) (bz22_3 : 0 ≤ z22_3.toInt ∧ z22_3.toInt ≤ 260) => ?_)
        replace ez22_3 : z22_3.toInt = z39_2.toInt := ez22_3.trans t40_2
        refine jm_iload_n (x := x) rfl rfl (jM_at hl43_2 2 rfl) ?_
        refine jm_iload_n (x := 8) rfl rfl (jM_at hl43_2 0 rfl) ?_
        refine az_X_step (pc' := 28) (ls' := ls43_2) (st' := [.int (x >>> (8 &&& 31)), .int z22_3, .ref (P.1 + 13)]) (h' := h40_2) rfl rfl rfl ?_
        refine az_X_step (pc' := 31) (ls' := ls43_2) (st' := [.int 255, .int (x >>> (8 &&& 31)), .int z22_3, .ref (P.1 + 13)]) (h' := h40_2) rfl rfl rfl ?_
        refine az_X_step (pc' := 32) (ls' := ls43_2) (st' := [.int ((x >>> (8 &&& 31)) &&& 255), .int z22_3, .ref (P.1 + 13)]) (h' := h40_2) rfl rfl rfl ?_
        refine jn_ias (i := 13) (x := z22_3) (v := ((x >>> (8 &&& 31)) &&& 255)) rfl rfl hH40_2 (by decide) rfl (by omega) (by show _ < ((260 : Nat) : Int); omega) (jn_a255b _).1 (jn_a255b _).2 (fun h32_3 hH32_3 hs32_3 t32_3 u32_3 => ?_)
        refine jm_aload_n (x := P.1 + 12) rfl rfl (jM_at hl43_2 1 rfl) ?_
        refine az_X_step (pc' := 35) (ls' := ls43_2) (st' := [.ref (P.1 + 12), .ref (P.1 + 12)]) (h' := h32_3) rfl rfl rfl ?_
        refine jn_gf (i := 12) (k := 1) rfl rfl hH32_3 (by decide) (hH32_3.2 12 _ rfl).1 rfl rfl (fun z35_3 (ez35_3 : z35_3.toInt = ja h32_3 12 1) (bz35_3 : 0 ≤ z35_3.toInt ∧ z35_3.toInt ≤ 260) => ?_)
        replace ez35_3 : z35_3.toInt = z39_2.toInt := ez35_3.trans ((jso hs32_3 (by decide)).trans t40_2)
        refine az_X_step (pc' := 39) (ls' := ls43_2) (st' := [.int 1, .int z35_3, .ref (P.1 + 12)]) (h' := h32_3) rfl rfl rfl ?_
        refine jn_add (a := z35_3) (b := 1) rfl rfl (by omega) (by omega) (fun z39_3 ez39_3 => ?_)
        rw [show (1 : Int32).toInt = 1 by decide] at ez39_3
        refine jn_pf (i := 12) (k := 1) (x := z39_3) rfl rfl hH32_3 (by decide) rfl (hH32_3.2 12 _ rfl).1 rfl rfl (by decide) (by decide) (by show 0 ≤ _; omega) (by show _ ≤ 260; omega) (fun h40_3 hH40_3 hs40_3 (t40_3 : ja h40_3 12 1 = z39_3.toInt) => ?_)
        have F3 := jap_s (g := fun x => x) (c := 13) (k := 2) F2 b0.1 (show z22_3.toInt = ja h 12 1 + ((2 : Nat) : Int) by omega) (t32_3.trans (jn_a255 _)) u32_3 hs40_3 (by decide)
        refine jm_iinc (x := 8) (x' := 0) (l' := [(2, .int 0), (0, .ref (P.1 + 12)), (1, .int x)]) rfl rfl (by decide) (jM_at hl43_2 0 rfl) (by decide) hl43_2 rfl rfl (fun ls43_3 hl43_3 => ?_)
        refine az_X_step (pc' := 3) (ls' := ls43_3) (st' := []) (h' := h40_3) rfl rfl rfl ?_
        refine jm_iload_n (x := 0) rfl rfl (jM_at hl43_3 0 rfl) ?_
        refine jn_ifd (t := 49) (c := false) rfl rfl rfl (by decide) ?_
        show az_X P _ 140 7 ls43_3 [] _ _
        refine jm_aload_n (x := P.1 + 12) rfl rfl (jM_at hl43_3 1 rfl) ?_
        refine jn_gf (i := 12) (k := 1) rfl rfl hH40_3 (by decide) (hH40_3.2 12 _ rfl).1 rfl rfl (fun z8_4 (ez8_4 : z8_4.toInt = ja h40_3 12 1) (bz8_4 : 0 ≤ z8_4.toInt ∧ z8_4.toInt ≤ 260) => ?_)
        replace ez8_4 : z8_4.toInt = z39_3.toInt := ez8_4.trans t40_3
        refine az_X_step (pc' := 14) (ls' := ls43_3) (st' := [.int 260, .int z8_4]) (h' := h40_3) rfl rfl rfl ?_
        refine jx_ic (t := 49) rfl rfl rfl (fun hc14_4 => ?_) (fun hc14_4 => ?_)
        · have g14_4 := jc2_ge_t hc14_4
          refine jn_retv rfl rfl rfl ?_
          exfalso
          omega
        · have g14_4 := jc2_ge_f hc14_4
          refine jm_aload_n (x := P.1 + 12) rfl rfl (jM_at hl43_3 1 rfl) ?_
          refine jx_gf (i := 12) rfl rfl hH40_3 (by decide) (hH40_3.2 12 _ rfl).1 rfl (jx_rf hH40_3 rfl rfl) ?_
          refine jm_aload_n (x := P.1 + 12) rfl rfl (jM_at hl43_3 1 rfl) ?_
          refine jn_gf (i := 12) (k := 1) rfl rfl hH40_3 (by decide) (hH40_3.2 12 _ rfl).1 rfl rfl (fun z22_4 (ez22_4 : z22_4.toInt = ja h40_3 12 1) (bz22_4 : 0 ≤ z22_4.toInt ∧ z22_4.toInt ≤ 260) => ?_)
          replace ez22_4 : z22_4.toInt = z39_3.toInt := ez22_4.trans t40_3
          refine jm_iload_n (x := x) rfl rfl (jM_at hl43_3 2 rfl) ?_
          refine jm_iload_n (x := 0) rfl rfl (jM_at hl43_3 0 rfl) ?_
          refine az_X_step (pc' := 28) (ls' := ls43_3) (st' := [.int (x >>> (0 &&& 31)), .int z22_4, .ref (P.1 + 13)]) (h' := h40_3) rfl rfl rfl ?_
          refine az_X_step (pc' := 31) (ls' := ls43_3) (st' := [.int 255, .int (x >>> (0 &&& 31)), .int z22_4, .ref (P.1 + 13)]) (h' := h40_3) rfl rfl rfl ?_
          refine az_X_step (pc' := 32) (ls' := ls43_3) (st' := [.int ((x >>> (0 &&& 31)) &&& 255), .int z22_4, .ref (P.1 + 13)]) (h' := h40_3) rfl rfl rfl ?_
          refine jn_ias (i := 13) (x := z22_4) (v := ((x >>> (0 &&& 31)) &&& 255)) rfl rfl hH40_3 (by decide) rfl (by omega) (by show _ < ((260 : Nat) : Int); omega) (jn_a255b _).1 (jn_a255b _).2 (fun h32_4 hH32_4 hs32_4 t32_4 u32_4 => ?_)
          refine jm_aload_n (x := P.1 + 12) rfl rfl (jM_at hl43_3 1 rfl) ?_
          refine az_X_step (pc' := 35) (ls' := ls43_3) (st' := [.ref (P.1 + 12), .ref (P.1 + 12)]) (h' := h32_4) rfl rfl rfl ?_
          refine jn_gf (i := 12) (k := 1) rfl rfl hH32_4 (by decide) (hH32_4.2 12 _ rfl).1 rfl rfl (fun z35_4 (ez35_4 : z35_4.toInt = ja h32_4 12 1) (bz35_4 : 0 ≤ z35_4.toInt ∧ z35_4.toInt ≤ 260) => ?_)
          replace ez35_4 : z35_4.toInt = z39_3.toInt := ez35_4.trans ((jso hs32_4 (by decide)).trans t40_3)
          refine az_X_step (pc' := 39) (ls' := ls43_3) (st' := [.int 1, .int z35_4, .ref (P.1 + 12)]) (h' := h32_4) rfl rfl rfl ?_
          refine jn_add (a := z35_4) (b := 1) rfl rfl (by omega) (by omega) (fun z39_4 ez39_4 => ?_)
          rw [show (1 : Int32).toInt = 1 by decide] at ez39_4
          refine jn_pf (i := 12) (k := 1) (x := z39_4) rfl rfl hH32_4 (by decide) rfl (hH32_4.2 12 _ rfl).1 rfl rfl (by decide) (by decide) (by show 0 ≤ _; omega) (by show _ ≤ 260; omega) (fun h40_4 hH40_4 hs40_4 (t40_4 : ja h40_4 12 1 = z39_4.toInt) => ?_)
          have F4 := jap_s (g := fun x => x) (c := 13) (k := 3) F3 b0.1 (show z22_4.toInt = ja h 12 1 + ((3 : Nat) : Int) by omega) (t32_4.trans (jn_a255 _)) u32_4 hs40_4 (by decide)
          refine jm_iinc (x := 0) (x' := (-8)) (l' := [(2, .int (-8)), (0, .ref (P.1 + 12)), (1, .int x)]) rfl rfl (by decide) (jM_at hl43_3 0 rfl) (by decide) hl43_3 rfl rfl (fun ls43_4 hl43_4 => ?_)
          refine az_X_step (pc' := 3) (ls' := ls43_4) (st' := []) (h' := h40_4) rfl rfl rfl ?_
          refine jm_iload_n (x := (-8)) rfl rfl (jM_at hl43_4 0 rfl) ?_
          refine jn_ifd (t := 49) (c := true) rfl rfl rfl (by decide) ?_
          show az_X P _ 140 49 ls43_4 [] _ _
          refine jn_retv rfl rfl rfl ?_
          exact ⟨rfl, hH40_4, ((hs32.sub (by decide)).tr ((hs40.sub (by decide)).tr ((hs32_2.sub (by decide)).tr ((hs40_2.sub (by decide)).tr ((hs32_3.sub (by decide)).tr ((hs40_3.sub (by decide)).tr ((hs32_4.sub (by decide)).tr (hs40_4.sub (by decide))))))))), t40_4.trans (by omega), fun i hi => F4 i (by omega)⟩
theorem rtypes_ok {P : si_P} {d : Nat} {h : si_H} (hH : az_HI P az_tb h) (x : Int32) {A : Nat → Int} (hl0 : ja h 60 16 ≤ 256) (hA : ∀ i : Nat, (i : Int) < ja h 60 16 → ja h 71 i % 256 = A i) : az_X P d 237 0 (lv_args 0 [.ref (P.1 + 60), .int x]) [] h (fun rv h' => rv = none ∧ az_HI P az_tb h' ∧ az_same_out [(60, 16), (71, 1000000)] h h' ∧ ja h' 60 16 = ja h 60 16 + 4 ∧ ∀ i : Nat, (i : Int) < ja h 60 16 + 4 → ja h' 71 i % 256 = jap A (ja h 60 16) x i) := by
  have b0 : 0 ≤ ja h 60 16 ∧ ja h 60 16 ≤ 260 := ja_bd hH (i := 60) (k := 16) rfl
  have F0 := jap_0 (f := fun i => ja h 71 i % 256) (x := x) hA
  have hl : jM [(0, .ref (P.1 + 60)), (1, .int x)] (lv_args 0 [.ref (P.1 + 60), .int x]) := jM_args [0, 1] rfl (by decide)
  generalize lv_args 0 [.ref (P.1 + 60), .int x] = ls at hl
  have km1 : ((-1) : Int32).toInt = (-1) := by decide
  have k0 : (0 : Int32).toInt = 0 := by decide
  have k1 : (1 : Int32).toInt = 1 := by decide
  have k2 : (2 : Int32).toInt = 2 := by decide
  have k3 : (3 : Int32).toInt = 3 := by decide
  have k8 : (8 : Int32).toInt = 8 := by decide
  have k16 : (16 : Int32).toInt = 16 := by decide
  have k24 : (24 : Int32).toInt = 24 := by decide
  refine az_X_step (pc' := 1) (ls' := ls) (st' := [.int 3]) (h' := h) rfl rfl rfl ?_
  refine jm_istore_n (l' := [(2, .int 3), (0, .ref (P.1 + 60)), (1, .int x)]) rfl rfl (by decide) hl rfl rfl (fun ls1 hl1 => ?_)
  refine jm_iload_n (x := 3) rfl rfl (jM_at hl1 0 rfl) ?_
  refine jn_ifd (t := 38) (c := false) rfl rfl rfl (by decide) ?_
  show az_X P _ 237 6 ls1 [] _ _
  refine jm_aload_n (x := P.1 + 60) rfl rfl (jM_at hl1 1 rfl) ?_
  refine jx_gf (i := 60) rfl rfl hH (by decide) (hH.2 60 _ rfl).1 rfl (jx_rf hH rfl rfl) ?_
  refine jm_aload_n (x := P.1 + 60) rfl rfl (jM_at hl1 1 rfl) ?_
  refine jn_gf (i := 60) (k := 16) rfl rfl hH (by decide) (hH.2 60 _ rfl).1 rfl rfl (fun z11 (ez11 : z11.toInt = ja h 60 16) (bz11 : 0 ≤ z11.toInt ∧ z11.toInt ≤ 260) => ?_)
  refine jm_iload_n (x := x) rfl rfl (jM_at hl1 2 rfl) ?_
  refine az_X_step (pc' := 17) (ls' := ls1) (st' := [.int 8, .int x, .int z11, .ref (P.1 + 71)]) (h' := h) rfl rfl rfl ?_
  refine jm_iload_n (x := 3) rfl rfl (jM_at hl1 0 rfl) ?_
  refine az_X_step (pc' := 19) (ls' := ls1) (st' := [.int 24, .int x, .int z11, .ref (P.1 + 71)]) (h' := h) rfl rfl (show some (_, _, Value.int (8 * 3) :: _, _) = _ by rw [show (8 * 3 : Int32) = 24 by decide]) ?_
  refine az_X_step (pc' := 20) (ls' := ls1) (st' := [.int (x >>> (24 &&& 31)), .int z11, .ref (P.1 + 71)]) (h' := h) rfl rfl rfl ?_
  refine az_X_step (pc' := 21) (ls' := ls1) (st' := [.int ((x >>> (24 &&& 31)).toInt8.toInt32), .int z11, .ref (P.1 + 71)]) (h' := h) rfl rfl rfl ?_
  refine jn_bas (i := 71) (x := z11) (v := ((x >>> (24 &&& 31)).toInt8.toInt32)) rfl rfl hH (by decide) rfl (by omega) (by show _ < ((260 : Nat) : Int); omega) (by decide) (by decide) (fun h21 hH21 hs21 t21 u21 => ?_)
  refine jm_aload_n (x := P.1 + 60) rfl rfl (jM_at hl1 1 rfl) ?_
  refine jm_aload_n (x := P.1 + 60) rfl rfl (jM_at hl1 1 rfl) ?_
  refine jn_gf (i := 60) (k := 16) rfl rfl hH21 (by decide) (hH21.2 60 _ rfl).1 rfl rfl (fun z24 (ez24 : z24.toInt = ja h21 60 16) (bz24 : 0 ≤ z24.toInt ∧ z24.toInt ≤ 260) => ?_)
  replace ez24 : z24.toInt = ja h 60 16 := ez24.trans (jso hs21 (by decide))
  refine az_X_step (pc' := 28) (ls' := ls1) (st' := [.int 1, .int z24, .ref (P.1 + 60)]) (h' := h21) rfl rfl rfl ?_
  refine jn_add (a := z24) (b := 1) rfl rfl (by omega) (by omega) (fun z28 ez28 => ?_)
  rw [show (1 : Int32).toInt = 1 by decide] at ez28
  refine jn_pf (i := 60) (k := 16) (x := z28) rfl rfl hH21 (by decide) rfl (hH21.2 60 _ rfl).1 rfl rfl (by decide) (by decide) (by show 0 ≤ _; omega) (by show _ ≤ 260; omega) (fun h29 hH29 hs29 (t29 : ja h29 60 16 = z28.toInt) => ?_)
  have F1 := jap_s (g := fun x => x % 256) (c := 71) (k := 0) F0 b0.1 (show z11.toInt = ja h 60 16 + ((0 : Nat) : Int) by omega) (by show ja _ _ _ % 256 = _; rw [t21, jn_b256, jn_b256]; rfl) u21 hs29 (by decide)
  refine jm_iinc (x := 3) (x' := 2) (l' := [(2, .int 2), (0, .ref (P.1 + 60)), (1, .int x)]) rfl rfl (by decide) (jM_at hl1 0 rfl) (by decide) hl1 rfl rfl (fun ls32 hl32 => ?_)
  refine az_X_step (pc' := 2) (ls' := ls32) (st' := []) (h' := h29) rfl rfl rfl ?_
  refine jm_iload_n (x := 2) rfl rfl (jM_at hl32 0 rfl) ?_
  refine jn_ifd (t := 38) (c := false) rfl rfl rfl (by decide) ?_
  show az_X P _ 237 6 ls32 [] _ _
  refine jm_aload_n (x := P.1 + 60) rfl rfl (jM_at hl32 1 rfl) ?_
  refine jx_gf (i := 60) rfl rfl hH29 (by decide) (hH29.2 60 _ rfl).1 rfl (jx_rf hH29 rfl rfl) ?_
  refine jm_aload_n (x := P.1 + 60) rfl rfl (jM_at hl32 1 rfl) ?_
  refine jn_gf (i := 60) (k := 16) rfl rfl hH29 (by decide) (hH29.2 60 _ rfl).1 rfl rfl (fun z11_2 (ez11_2 : z11_2.toInt = ja h29 60 16) (bz11_2 : 0 ≤ z11_2.toInt ∧ z11_2.toInt ≤ 260) => ?_)
  replace ez11_2 : z11_2.toInt = z28.toInt := ez11_2.trans t29
  refine jm_iload_n (x := x) rfl rfl (jM_at hl32 2 rfl) ?_
  refine az_X_step (pc' := 17) (ls' := ls32) (st' := [.int 8, .int x, .int z11_2, .ref (P.1 + 71)]) (h' := h29) rfl rfl rfl ?_
  refine jm_iload_n (x := 2) rfl rfl (jM_at hl32 0 rfl) ?_
  refine az_X_step (pc' := 19) (ls' := ls32) (st' := [.int 16, .int x, .int z11_2, .ref (P.1 + 71)]) (h' := h29) rfl rfl (show some (_, _, Value.int (8 * 2) :: _, _) = _ by rw [show (8 * 2 : Int32) = 16 by decide]) ?_
  refine az_X_step (pc' := 20) (ls' := ls32) (st' := [.int (x >>> (16 &&& 31)), .int z11_2, .ref (P.1 + 71)]) (h' := h29) rfl rfl rfl ?_
  refine az_X_step (pc' := 21) (ls' := ls32) (st' := [.int ((x >>> (16 &&& 31)).toInt8.toInt32), .int z11_2, .ref (P.1 + 71)]) (h' := h29) rfl rfl rfl ?_
  refine jn_bas (i := 71) (x := z11_2) (v := ((x >>> (16 &&& 31)).toInt8.toInt32)) rfl rfl hH29 (by decide) rfl (by omega) (by show _ < ((260 : Nat) : Int); omega) (by decide) (by decide) (fun h21_2 hH21_2 hs21_2 t21_2 u21_2 => ?_)
  refine jm_aload_n (x := P.1 + 60) rfl rfl (jM_at hl32 1 rfl) ?_
  refine jm_aload_n (x := P.1 + 60) rfl rfl (jM_at hl32 1 rfl) ?_
  refine jn_gf (i := 60) (k := 16) rfl rfl hH21_2 (by decide) (hH21_2.2 60 _ rfl).1 rfl rfl (fun z24_2 (ez24_2 : z24_2.toInt = ja h21_2 60 16) (bz24_2 : 0 ≤ z24_2.toInt ∧ z24_2.toInt ≤ 260) => ?_)
  replace ez24_2 : z24_2.toInt = z28.toInt := ez24_2.trans ((jso hs21_2 (by decide)).trans t29)
  refine az_X_step (pc' := 28) (ls' := ls32) (st' := [.int 1, .int z24_2, .ref (P.1 + 60)]) (h' := h21_2) rfl rfl rfl ?_
  refine jn_add (a := z24_2) (b := 1) rfl rfl (by omega) (by omega) (fun z28_2 ez28_2 => ?_)
  rw [show (1 : Int32).toInt = 1 by decide] at ez28_2
  refine jn_pf (i := 60) (k := 16) (x := z28_2) rfl rfl hH21_2 (by decide) rfl (hH21_2.2 60 _ rfl).1 rfl rfl (by decide) (by decide) (by show 0 ≤ _; omega) (by show _ ≤ 260; omega) (fun h29_2 hH29_2 hs29_2 (t29_2 : ja h29_2 60 16 = z28_2.toInt) => ?_)
  have F2 := jap_s (g := fun x => x % 256) (c := 71) (k := 1) F1 b0.1 (show z11_2.toInt = ja h 60 16 + ((1 : Nat) : Int) by omega) (by show ja _ _ _ % 256 = _; rw [t21_2, jn_b256, jn_b256]; rfl) u21_2 hs29_2 (by decide)
  refine jm_iinc (x := 2) (x' := 1) (l' := [(2, .int 1), (0, .ref (P.1 + 60)), (1, .int x)]) rfl rfl (by decide) (jM_at hl32 0 rfl) (by decide) hl32 rfl rfl (fun ls32_2 hl32_2 => ?_)
  refine az_X_step (pc' := 2) (ls' := ls32_2) (st' := []) (h' := h29_2) rfl rfl rfl ?_
  refine jm_iload_n (x := 1) rfl rfl (jM_at hl32_2 0 rfl) ?_
  refine jn_ifd (t := 38) (c := false) rfl rfl rfl (by decide) ?_
  show az_X P _ 237 6 ls32_2 [] _ _
  refine jm_aload_n (x := P.1 + 60) rfl rfl (jM_at hl32_2 1 rfl) ?_
  refine jx_gf (i := 60) rfl rfl hH29_2 (by decide) (hH29_2.2 60 _ rfl).1 rfl (jx_rf hH29_2 rfl rfl) ?_
  refine jm_aload_n (x := P.1 + 60) rfl rfl (jM_at hl32_2 1 rfl) ?_
  refine jn_gf (i := 60) (k := 16) rfl rfl hH29_2 (by decide) (hH29_2.2 60 _ rfl).1 rfl rfl (fun z11_3 (ez11_3 : z11_3.toInt = ja h29_2 60 16) (bz11_3 : 0 ≤ z11_3.toInt ∧ z11_3.toInt ≤ 260) => ?_)
  replace ez11_3 : z11_3.toInt = z28_2.toInt := ez11_3.trans t29_2
  refine jm_iload_n (x := x) rfl rfl (jM_at hl32_2 2 rfl) ?_
  refine az_X_step (pc' := 17) (ls' := ls32_2) (st' := [.int 8, .int x, .int z11_3, .ref (P.1 + 71)]) (h' := h29_2) rfl rfl rfl ?_
  refine jm_iload_n (x := 1) rfl rfl (jM_at hl32_2 0 rfl) ?_
  refine az_X_step (pc' := 19) (ls' := ls32_2) (st' := [.int 8, .int x, .int z11_3, .ref (P.1 + 71)]) (h' := h29_2) rfl rfl (show some (_, _, Value.int (8 * 1) :: _, _) = _ by rw [show (8 * 1 : Int32) = 8 by decide]) ?_
  refine az_X_step (pc' := 20) (ls' := ls32_2) (st' := [.int (x >>> (8 &&& 31)), .int z11_3, .ref (P.1 + 71)]) (h' := h29_2) rfl rfl rfl ?_
  refine az_X_step (pc' := 21) (ls' := ls32_2) (st' := [.int ((x >>> (8 &&& 31)).toInt8.toInt32), .int z11_3, .ref (P.1 + 71)]) (h' := h29_2) rfl rfl rfl ?_
  refine jn_bas (i := 71) (x := z11_3) (v := ((x >>> (8 &&& 31)).toInt8.toInt32)) rfl rfl hH29_2 (by decide) rfl (by omega) (by show _ < ((260 : Nat) : Int); omega) (by decide) (by decide) (fun h21_3 hH21_3 hs21_3 t21_3 u21_3 => ?_)
  refine jm_aload_n (x := P.1 + 60) rfl rfl (jM_at hl32_2 1 rfl) ?_
  refine jm_aload_n (x := P.1 + 60) rfl rfl (jM_at hl32_2 1 rfl) ?_
  refine jn_gf (i := 60) (k := 16) rfl rfl hH21_3 (by decide) (hH21_3.2 60 _ rfl).1 rfl rfl (fun z24_3 (ez24_3 : z24_3.toInt = ja h21_3 60 16) (bz24_3 : 0 ≤ z24_3.toInt ∧ z24_3.toInt ≤ 260) => ?_)
  replace ez24_3 : z24_3.toInt = z28_2.toInt := ez24_3.trans ((jso hs21_3 (by decide)).trans t29_2)
  refine az_X_step (pc' := 28) (ls' := ls32_2) (st' := [.int 1, .int z24_3, .ref (P.1 + 60)]) (h' := h21_3) rfl rfl rfl ?_
  refine jn_add (a := z24_3) (b := 1) rfl rfl (by omega) (by omega) (fun z28_3 ez28_3 => ?_)
  rw [show (1 : Int32).toInt = 1 by decide] at ez28_3
  refine jn_pf (i := 60) (k := 16) (x := z28_3) rfl rfl hH21_3 (by decide) rfl (hH21_3.2 60 _ rfl).1 rfl rfl (by decide) (by decide) (by show 0 ≤ _; omega) (by show _ ≤ 260; omega) (fun h29_3 hH29_3 hs29_3 (t29_3 : ja h29_3 60 16 = z28_3.toInt) => ?_)
  have F3 := jap_s (g := fun x => x % 256) (c := 71) (k := 2) F2 b0.1 (show z11_3.toInt = ja h 60 16 + ((2 : Nat) : Int) by omega) (by show ja _ _ _ % 256 = _; rw [t21_3, jn_b256, jn_b256]; rfl) u21_3 hs29_3 (by decide)
  refine jm_iinc (x := 1) (x' := 0) (l' := [(2, .int 0), (0, .ref (P.1 + 60)), (1, .int x)]) rfl rfl (by decide) (jM_at hl32_2 0 rfl) (by decide) hl32_2 rfl rfl (fun ls32_3 hl32_3 => ?_)
  refine az_X_step (pc' := 2) (ls' := ls32_3) (st' := []) (h' := h29_3) rfl rfl rfl ?_
  refine jm_iload_n (x := 0) rfl rfl (jM_at hl32_3 0 rfl) ?_
  refine jn_ifd (t := 38) (c := false) rfl rfl rfl (by decide) ?_
  show az_X P _ 237 6 ls32_3 [] _ _
  refine jm_aload_n (x := P.1 + 60) rfl rfl (jM_at hl32_3 1 rfl) ?_
  refine jx_gf (i := 60) rfl rfl hH29_3 (by decide) (hH29_3.2 60 _ rfl).1 rfl (jx_rf hH29_3 rfl rfl) ?_
  refine jm_aload_n (x := P.1 + 60) rfl rfl (jM_at hl32_3 1 rfl) ?_
  refine jn_gf (i := 60) (k := 16) rfl rfl hH29_3 (by decide) (hH29_3.2 60 _ rfl).1 rfl rfl (fun z11_4 (ez11_4 : z11_4.toInt = ja h29_3 60 16) (bz11_4 : 0 ≤ z11_4.toInt ∧ z11_4.toInt ≤ 260) => ?_)
  replace ez11_4 : z11_4.toInt = z28_3.toInt := ez11_4.trans t29_3
  refine jm_iload_n (x := x) rfl rfl (jM_at hl32_3 2 rfl) ?_
  refine az_X_step (pc' := 17) (ls' := ls32_3) (st' := [.int 8, .int x, .int z11_4, .ref (P.1 + 71)]) (h' := h29_3) rfl rfl rfl ?_
  refine jm_iload_n (x := 0) rfl rfl (jM_at hl32_3 0 rfl) ?_
  refine az_X_step (pc' := 19) (ls' := ls32_3) (st' := [.int 0, .int x, .int z11_4, .ref (P.1 + 71)]) (h' := h29_3) rfl rfl (show some (_, _, Value.int (8 * 0) :: _, _) = _ by rw [show (8 * 0 : Int32) = 0 by decide]) ?_
  refine az_X_step (pc' := 20) (ls' := ls32_3) (st' := [.int (x >>> (0 &&& 31)), .int z11_4, .ref (P.1 + 71)]) (h' := h29_3) rfl rfl rfl ?_
  refine az_X_step (pc' := 21) (ls' := ls32_3) (st' := [.int ((x >>> (0 &&& 31)).toInt8.toInt32), .int z11_4, .ref (P.1 + 71)]) (h' := h29_3) rfl rfl rfl ?_
  refine jn_bas (i := 71) (x := z11_4) (v := ((x >>> (0 &&& 31)).toInt8.toInt32)) rfl rfl hH29_3 (by decide) rfl (by omega) (by show _ < ((260 : Nat) : Int); omega) (by decide) (by decide) (fun h21_4 hH21_4 hs21_4 t21_4 u21_4 => ?_)
  refine jm_aload_n (x := P.1 + 60) rfl rfl (jM_at hl32_3 1 rfl) ?_
  refine jm_aload_n (x := P.1 + 60) rfl rfl (jM_at hl32_3 1 rfl) ?_
  refine jn_gf (i := 60) (k := 16) rfl rfl hH21_4 (by decide) (hH21_4.2 60 _ rfl).1 rfl rfl (fun z24_4 (ez24_4 : z24_4.toInt = ja h21_4 60 16) (bz24_4 : 0 ≤ z24_4.toInt ∧ z24_4.toInt ≤ 260) => ?_)
  replace ez24_4 : z24_4.toInt = z28_3.toInt := ez24_4.trans ((jso hs21_4 (by decide)).trans t29_3)
  refine az_X_step (pc' := 28) (ls' := ls32_3) (st' := [.int 1, .int z24_4, .ref (P.1 + 60)]) (h' := h21_4) rfl rfl rfl ?_
  refine jn_add (a := z24_4) (b := 1) rfl rfl (by omega) (by omega) (fun z28_4 ez28_4 => ?_)
  rw [show (1 : Int32).toInt = 1 by decide] at ez28_4
  refine jn_pf (i := 60) (k := 16) (x := z28_4) rfl rfl hH21_4 (by decide) rfl (hH21_4.2 60 _ rfl).1 rfl rfl (by decide) (by decide) (by show 0 ≤ _; omega) (by show _ ≤ 260; omega) (fun h29_4 hH29_4 hs29_4 (t29_4 : ja h29_4 60 16 = z28_4.toInt) => ?_)
  have F4 := jap_s (g := fun x => x % 256) (c := 71) (k := 3) F3 b0.1 (show z11_4.toInt = ja h 60 16 + ((3 : Nat) : Int) by omega) (by show ja _ _ _ % 256 = _; rw [t21_4, jn_b256, jn_b256]; rfl) u21_4 hs29_4 (by decide)
  refine jm_iinc (x := 0) (x' := (-1)) (l' := [(2, .int (-1)), (0, .ref (P.1 + 60)), (1, .int x)]) rfl rfl (by decide) (jM_at hl32_3 0 rfl) (by decide) hl32_3 rfl rfl (fun ls32_4 hl32_4 => ?_)
  refine az_X_step (pc' := 2) (ls' := ls32_4) (st' := []) (h' := h29_4) rfl rfl rfl ?_
  refine jm_iload_n (x := (-1)) rfl rfl (jM_at hl32_4 0 rfl) ?_
  refine jn_ifd (t := 38) (c := true) rfl rfl rfl (by decide) ?_
  show az_X P _ 237 38 ls32_4 [] _ _
  refine jn_retv rfl rfl rfl ?_
  exact ⟨rfl, hH29_4, ((hs21.sub (by decide)).tr ((hs29.sub (by decide)).tr ((hs21_2.sub (by decide)).tr ((hs29_2.sub (by decide)).tr ((hs21_3.sub (by decide)).tr ((hs29_3.sub (by decide)).tr ((hs21_4.sub (by decide)).tr (hs29_4.sub (by decide))))))))), t29_4.trans (by omega), fun i hi => F4 i (by omega)⟩
theorem troom_ok {P : si_P} {d : Nat} {h : si_H} (hH : az_HI P az_tb h) (n : Int32) (hn : 0 ≤ n.toInt ∧ n.toInt ≤ 1000) : az_X P d 139 0 (lv_args 0 [.ref (P.1 + 12), .int n]) [] h (fun rv h' => h' = h ∧ ∃ z : Int32, rv = some (.int z) ∧ ((z.toInt = 1 ∧ ja h 12 1 + n.toInt ≤ 260) ∨ (z.toInt = 0 ∧ 260 < ja h 12 1 + n.toInt))) := by
  have hl : jM [(0, .ref (P.1 + 12)), (1, .int n)] (lv_args 0 [.ref (P.1 + 12), .int n]) := jM_args [0, 1] rfl (by decide)
  generalize lv_args 0 [.ref (P.1 + 12), .int n] = ls at hl
  have k0 : (0 : Int32).toInt = 0 := by decide
  have k1 : (1 : Int32).toInt = 1 := by decide
  have k260 : (260 : Int32).toInt = 260 := by decide
  refine jm_aload_n (x := P.1 + 12) rfl rfl (jM_at hl 0 rfl) ?_
  refine jn_gf (i := 12) (k := 1) rfl rfl hH (by decide) (hH.2 12 _ rfl).1 rfl rfl (fun z1 (ez1 : z1.toInt = ja h 12 1) (bz1 : 0 ≤ z1.toInt ∧ z1.toInt ≤ 260) => ?_)
  refine jm_iload_n (x := n) rfl rfl (jM_at hl 1 rfl) ?_
  refine jn_add (a := z1) (b := n) rfl rfl (by omega) (by omega) (fun z5 ez5 => ?_)
  refine az_X_step (pc' := 9) (ls' := ls) (st' := [.int 260, .int z5]) (h' := h) rfl rfl rfl ?_
  refine jx_ic (t := 16) rfl rfl rfl (fun hc9 => ?_) (fun hc9 => ?_)
  · have g9 := jc2_gt_t hc9
    refine az_X_step (pc' := 17) (ls' := ls) (st' := [.int 0]) (h' := h) rfl rfl rfl ?_
    refine jx_retz rfl rfl rfl (by decide) ?_
    exact ⟨rfl, 0, rfl, by omega⟩
  · have g9 := jc2_gt_f hc9
    refine az_X_step (pc' := 13) (ls' := ls) (st' := [.int 1]) (h' := h) rfl rfl rfl ?_
    refine az_X_step (pc' := 17) (ls' := ls) (st' := [.int 1]) (h' := h) rfl rfl rfl ?_
    refine jx_retz rfl rfl rfl (by decide) ?_
    exact ⟨rfl, 1, rfl, by omega⟩
theorem tsize_ok {P : si_P} {d : Nat} {h : si_H} (hH : az_HI P az_tb h) : az_X P d 137 0 (lv_args 0 [.ref (P.1 + 12)]) [] h (fun rv h' => h' = h ∧ jV rv (ja h 12 1)) := by
  have hl : jM [(0, .ref (P.1 + 12))] (lv_args 0 [.ref (P.1 + 12)]) := jM_args [0] rfl (by decide)
  generalize lv_args 0 [.ref (P.1 + 12)] = ls at hl
  refine jm_aload_n (x := P.1 + 12) rfl rfl (jM_at hl 0 rfl) ?_
  refine jn_gf (i := 12) (k := 1) rfl rfl hH (by decide) (hH.2 12 _ rfl).1 rfl rfl (fun z1 (ez1 : z1.toInt = ja h 12 1) (bz1 : 0 ≤ z1.toInt ∧ z1.toInt ≤ 260) => ?_)
  refine jx_ret rfl rfl rfl ?_
  exact ⟨rfl, z1, rfl, ez1⟩
theorem feed0b_ok {P : si_P} {d : Nat} {h : si_H} (hH : az_HI P az_tb h) (a b c v x : Int32) {A : Nat → Int} (hA : ∀ i : Nat, (i : Int) < ja h 12 1 → ja h 13 i = A i) : az_X P (d + 1) 145 0 (lv_args 0 [.ref (P.1 + 0), .int a, .int b, .int c, .int v, .int x]) [] h (fun rv h1 => ∃ w : Int32, rv = some (.int w) ∧ az_HI P az_tb h1 ∧ az_same_out [(12, 1), (13, 1000000)] h h1 ∧ ((ja h 12 1 ≤ 240 ∧ w.toInt = ja h 12 1 + 20 ∧ ja h1 12 1 = ja h 12 1 + 20 ∧ ∀ i : Nat, (i : Int) < ja h 12 1 + 20 → ja h1 13 i = jap (jap (jap (jap (jap A (ja h 12 1) a) ((ja h 12 1) + 4) b) ((ja h 12 1) + 8) c) ((ja h 12 1) + 12) v) ((ja h 12 1) + 16) x i) ∨ (240 < ja h 12 1 ∧ w.toInt = -1 ∧ h1 = h))) := by
  have b0 : 0 ≤ ja h 12 1 ∧ ja h 12 1 ≤ 260 := ja_bd hH (i := 12) (k := 1) rfl
  have hl : jM [(0, .ref (P.1 + 0)), (1, .int a), (2, .int b), (3, .int c), (4, .int v), (5, .int x)] (lv_args 0 [.ref (P.1 + 0), .int a, .int b, .int c, .int v, .int x]) := jM_args [0, 1, 2, 3, 4, 5] rfl (by decide)
  generalize lv_args 0 [.ref (P.1 + 0), .int a, .int b, .int c, .int v, .int x] = ls at hl
  have km1 : ((-1) : Int32).toInt = (-1) := by decide
  have k0 : (0 : Int32).toInt = 0 := by decide
  have k20 : (20 : Int32).toInt = 20 := by decide
  refine jm_aload_n (x := P.1 + 0) rfl rfl (jM_at hl 0 rfl) ?_
  refine jx_gf (i := 0) rfl rfl hH (by decide) (hH.2 0 _ rfl).1 rfl (jx_rf hH rfl rfl) ?_
  refine az_X_step (pc' := 6) (ls' := ls) (st' := [.int 20, .ref (P.1 + 12)]) (h' := h) rfl rfl rfl ?_
  refine az_X_call (m' := 139) (as := [.ref (P.1 + 12), .int 20]) (rest := []) rfl rfl rfl rfl rfl ?_ ?_
  · unfold si_call
    dsimp only
    rw [if_pos ⟨rfl, rfl⟩]
    show (match si_ix P h (P.1 + 12) with | some i => _ | none => none) = _
    rw [jix hH (by decide)]
    dsimp only
    rw [(hH.2 12 _ rfl).1]
    rfl
  refine (troom_ok hH 20 (by decide)).mono ?_
  rintro rv6 h6 ⟨q6, z6, rfl, ez6⟩
  subst h6
  show az_X P _ 145 9 ls [.int z6] _ _
  refine jx_if (t := 14) rfl rfl rfl (fun hc9 => ?_) (fun hc9 => ?_)
  · have g9 := jc1_ne_t hc9
    refine jm_aload_n (x := P.1 + 0) rfl rfl (jM_at hl 0 rfl) ?_
    refine jx_gf (i := 0) rfl rfl hH (by decide) (hH.2 0 _ rfl).1 rfl (jx_rf hH rfl rfl) ?_
    refine jm_iload_n (x := a) rfl rfl (jM_at hl 1 rfl) ?_
    refine az_X_call (m' := 140) (as := [.ref (P.1 + 12), .int a]) (rest := []) rfl rfl rfl rfl rfl ?_ ?_
    · unfold si_call
      dsimp only
      rw [if_pos ⟨rfl, rfl⟩]
      show (match si_ix P h (P.1 + 12) with | some i => _ | none => none) = _
      rw [jix hH (by decide)]
      dsimp only
      rw [(hH.2 12 _ rfl).1]
      rfl
    refine (tadd_ok hH a (by omega) hA).mono ?_
    rintro rv19 h19 ⟨rfl, hH19, hs19, f19⟩
    show az_X P _ 145 22 ls [] _ _
    refine jm_aload_n (x := P.1 + 0) rfl rfl (jM_at hl 0 rfl) ?_
    refine jx_gf (i := 0) rfl rfl hH19 (by decide) (hH19.2 0 _ rfl).1 rfl (jx_rf hH19 rfl rfl) ?_
    refine jm_iload_n (x := b) rfl rfl (jM_at hl 2 rfl) ?_
    refine az_X_call (m' := 140) (as := [.ref (P.1 + 12), .int b]) (rest := []) rfl rfl rfl rfl rfl ?_ ?_
    · unfold si_call
      dsimp only
      rw [if_pos ⟨rfl, rfl⟩]
      show (match si_ix P h19 (P.1 + 12) with | some i => _ | none => none) = _
      rw [jix hH19 (by decide)]
      dsimp only
      rw [(hH19.2 12 _ rfl).1]
      rfl
    refine (tadd_ok hH19 b (by omega) (fun i hi => f19.2 i (by omega))).mono ?_
    rintro rv27 h27 ⟨rfl, hH27, hs27, f27⟩
    show az_X P _ 145 30 ls [] _ _
    refine jm_aload_n (x := P.1 + 0) rfl rfl (jM_at hl 0 rfl) ?_
    refine jx_gf (i := 0) rfl rfl hH27 (by decide) (hH27.2 0 _ rfl).1 rfl (jx_rf hH27 rfl rfl) ?_
    refine jm_iload_n (x := c) rfl rfl (jM_at hl 3 rfl) ?_
    refine az_X_call (m' := 140) (as := [.ref (P.1 + 12), .int c]) (rest := []) rfl rfl rfl rfl rfl ?_ ?_
    · unfold si_call
      dsimp only
      rw [if_pos ⟨rfl, rfl⟩]
      show (match si_ix P h27 (P.1 + 12) with | some i => _ | none => none) = _
      rw [jix hH27 (by decide)]
      dsimp only
      rw [(hH27.2 12 _ rfl).1]
      rfl
    refine (tadd_ok hH27 c (by omega) (fun i hi => f27.2 i (by omega))).mono ?_
    rintro rv35 h35 ⟨rfl, hH35, hs35, f35⟩
    show az_X P _ 145 38 ls [] _ _
    refine jm_aload_n (x := P.1 + 0) rfl rfl (jM_at hl 0 rfl) ?_
    refine jx_gf (i := 0) rfl rfl hH35 (by decide) (hH35.2 0 _ rfl).1 rfl (jx_rf hH35 rfl rfl) ?_
    refine jm_iload (x := v) rfl rfl (jM_at hl 4 rfl) ?_
    refine az_X_call (m' := 140) (as := [.ref (P.1 + 12), .int v]) (rest := []) rfl rfl rfl rfl rfl ?_ ?_
    · unfold si_call
      dsimp only
      rw [if_pos ⟨rfl, rfl⟩]
      show (match si_ix P h35 (P.1 + 12) with | some i => _ | none => none) = _
      rw [jix hH35 (by decide)]
      dsimp only
      rw [(hH35.2 12 _ rfl).1]
      rfl
    refine (tadd_ok hH35 v (by omega) (fun i hi => f35.2 i (by omega))).mono ?_
    rintro rv44 h44 ⟨rfl, hH44, hs44, f44⟩
    show az_X P _ 145 47 ls [] _ _
    refine jm_aload_n (x := P.1 + 0) rfl rfl (jM_at hl 0 rfl) ?_
    refine jx_gf (i := 0) rfl rfl hH44 (by decide) (hH44.2 0 _ rfl).1 rfl (jx_rf hH44 rfl rfl) ?_
    refine jm_iload (x := x) rfl rfl (jM_at hl 5 rfl) ?_
    refine az_X_call (m' := 140) (as := [.ref (P.1 + 12), .int x]) (rest := []) rfl rfl rfl rfl rfl ?_ ?_
    · unfold si_call
      dsimp only
      rw [if_pos ⟨rfl, rfl⟩]
      show (match si_ix P h44 (P.1 + 12) with | some i => _ | none => none) = _
      rw [jix hH44 (by decide)]
      dsimp only
      rw [(hH44.2 12 _ rfl).1]
      rfl
    refine (tadd_ok hH44 x (by omega) (fun i hi => f44.2 i (by omega))).mono ?_
    rintro rv53 h53 ⟨rfl, hH53, hs53, f53⟩
    show az_X P _ 145 56 ls [] _ _
    refine jm_aload_n (x := P.1 + 0) rfl rfl (jM_at hl 0 rfl) ?_
    refine jx_gf (i := 0) rfl rfl hH53 (by decide) (hH53.2 0 _ rfl).1 rfl (jx_rf hH53 rfl rfl) ?_
    refine az_X_call (m' := 137) (as := [.ref (P.1 + 12)]) (rest := []) rfl rfl rfl rfl rfl ?_ ?_
    · unfold si_call
      dsimp only
      rw [if_pos ⟨rfl, rfl⟩]
      show (match si_ix P h53 (P.1 + 12) with | some i => _ | none => none) = _
      rw [jix hH53 (by decide)]
      dsimp only
      rw [(hH53.2 12 _ rfl).1]
      rfl
    refine (tsize_ok hH53).mono ?_
    rintro rv60 h60 ⟨q60, z60, rfl, ez60⟩
    subst h60
    show az_X P _ 145 63 ls [.int z60] _ _
    refine jx_ret rfl rfl rfl ?_
    have l1 : ja h19 12 1 = ja h 12 1 + 4 := by have := f19.1; omega
    have l2 : ja h27 12 1 = ja h 12 1 + 8 := by have := f27.1; omega
    have l3 : ja h35 12 1 = ja h 12 1 + 12 := by have := f35.1; omega
    have l4 : ja h44 12 1 = ja h 12 1 + 16 := by have := f44.1; omega
    have l5 : ja h53 12 1 = ja h 12 1 + 20 := by have := f53.1; omega
    refine ⟨z60, rfl, hH53, ((hs19.sub (by decide)).tr ((hs27.sub (by decide)).tr ((hs35.sub (by decide)).tr ((hs44.sub (by decide)).tr (hs53.sub (by decide)))))), Or.inl ⟨by omega, by omega, l5, fun i hi => ?_⟩⟩
    have q := f53.2 i (by omega)
    rw [l1, l2, l3, l4] at q
    exact q
  · have g9 := jc1_ne_f hc9
    refine az_X_step (pc' := 13) (ls' := ls) (st' := [.int (-1)]) (h' := h) rfl rfl rfl ?_
    refine jx_ret rfl rfl rfl ?_
    exact ⟨_, rfl, hH, az_same_out.rf, Or.inr ⟨by omega, by decide, rfl⟩⟩
theorem feed1b_ok {P : si_P} {d : Nat} {h : si_H} (hH : az_HI P az_tb h) (a b c v x : Int32) {A : Nat → Int} (hA : ∀ i : Nat, (i : Int) < ja h 60 16 → ja h 71 i % 256 = A i) : az_X P (d + 1) 238 0 (lv_args 0 [.ref (P.1 + 60), .int a, .int b, .int c, .int v, .int x]) [] h (fun rv h1 => ∃ w : Int32, rv = some (.int w) ∧ az_HI P az_tb h1 ∧ az_same_out [(60, 16), (71, 1000000)] h h1 ∧ ((ja h 60 16 ≤ 240 ∧ w.toInt = ja h 60 16 + 20 ∧ ja h1 60 16 = ja h 60 16 + 20 ∧ ∀ i : Nat, (i : Int) < ja h 60 16 + 20 → ja h1 71 i % 256 = jap (jap (jap (jap (jap A (ja h 60 16) a) ((ja h 60 16) + 4) b) ((ja h 60 16) + 8) c) ((ja h 60 16) + 12) v) ((ja h 60 16) + 16) x i) ∨ (240 < ja h 60 16 ∧ w.toInt = -1 ∧ h1 = h))) := by
  have b0 : 0 ≤ ja h 60 16 ∧ ja h 60 16 ≤ 260 := ja_bd hH (i := 60) (k := 16) rfl
  have hl : jM [(0, .ref (P.1 + 60)), (1, .int a), (2, .int b), (3, .int c), (4, .int v), (5, .int x)] (lv_args 0 [.ref (P.1 + 60), .int a, .int b, .int c, .int v, .int x]) := jM_args [0, 1, 2, 3, 4, 5] rfl (by decide)
  generalize lv_args 0 [.ref (P.1 + 60), .int a, .int b, .int c, .int v, .int x] = ls at hl
  have km1 : ((-1) : Int32).toInt = (-1) := by decide
  have k20 : (20 : Int32).toInt = 20 := by decide
  have k260 : (260 : Int32).toInt = 260 := by decide
  refine jm_aload_n (x := P.1 + 60) rfl rfl (jM_at hl 0 rfl) ?_
  refine jn_gf (i := 60) (k := 16) rfl rfl hH (by decide) (hH.2 60 _ rfl).1 rfl rfl (fun z1 (ez1 : z1.toInt = ja h 60 16) (bz1 : 0 ≤ z1.toInt ∧ z1.toInt ≤ 260) => ?_)
  refine az_X_step (pc' := 6) (ls' := ls) (st' := [.int 20, .int z1]) (h' := h) rfl rfl rfl ?_
  refine jn_add (a := z1) (b := 20) rfl rfl (by omega) (by omega) (fun z6 ez6 => ?_)
  rw [show (20 : Int32).toInt = 20 by decide] at ez6
  refine az_X_step (pc' := 10) (ls' := ls) (st' := [.int 260, .int z6]) (h' := h) rfl rfl rfl ?_
  refine jx_ic (t := 15) rfl rfl rfl (fun hc10 => ?_) (fun hc10 => ?_)
  · have g10 := jc2_le_t hc10
    refine jm_aload_n (x := P.1 + 60) rfl rfl (jM_at hl 0 rfl) ?_
    refine jm_iload_n (x := a) rfl rfl (jM_at hl 1 rfl) ?_
    refine az_X_call (m' := 237) (as := [.ref (P.1 + 60), .int a]) (rest := []) rfl rfl rfl rfl rfl ?_ ?_
    · unfold si_call
      dsimp only
      rw [if_pos ⟨rfl, rfl⟩]
      show (match si_ix P h (P.1 + 60) with | some i => _ | none => none) = _
      rw [jix hH (by decide)]
      dsimp only
      rw [(hH.2 60 _ rfl).1]
      rfl
    refine (rtypes_ok hH a (by omega) hA).mono ?_
    rintro rv17 h17 ⟨rfl, hH17, hs17, f17⟩
    show az_X P _ 238 20 ls [] _ _
    refine jm_aload_n (x := P.1 + 60) rfl rfl (jM_at hl 0 rfl) ?_
    refine jm_iload_n (x := b) rfl rfl (jM_at hl 2 rfl) ?_
    refine az_X_call (m' := 237) (as := [.ref (P.1 + 60), .int b]) (rest := []) rfl rfl rfl rfl rfl ?_ ?_
    · unfold si_call
      dsimp only
      rw [if_pos ⟨rfl, rfl⟩]
      show (match si_ix P h17 (P.1 + 60) with | some i => _ | none => none) = _
      rw [jix hH17 (by decide)]
      dsimp only
      rw [(hH17.2 60 _ rfl).1]
      rfl
    refine (rtypes_ok hH17 b (by omega) (fun i hi => f17.2 i (by omega))).mono ?_
    rintro rv22 h22 ⟨rfl, hH22, hs22, f22⟩
    show az_X P _ 238 25 ls [] _ _
    refine jm_aload_n (x := P.1 + 60) rfl rfl (jM_at hl 0 rfl) ?_
    refine jm_iload_n (x := c) rfl rfl (jM_at hl 3 rfl) ?_
    refine az_X_call (m' := 237) (as := [.ref (P.1 + 60), .int c]) (rest := []) rfl rfl rfl rfl rfl ?_ ?_
    · unfold si_call
      dsimp only
      rw [if_pos ⟨rfl, rfl⟩]
      show (match si_ix P h22 (P.1 + 60) with | some i => _ | none => none) = _
      rw [jix hH22 (by decide)]
      dsimp only
      rw [(hH22.2 60 _ rfl).1]
      rfl
    refine (rtypes_ok hH22 c (by omega) (fun i hi => f22.2 i (by omega))).mono ?_
    rintro rv27 h27 ⟨rfl, hH27, hs27, f27⟩
    show az_X P _ 238 30 ls [] _ _
    refine jm_aload_n (x := P.1 + 60) rfl rfl (jM_at hl 0 rfl) ?_
    refine jm_iload (x := v) rfl rfl (jM_at hl 4 rfl) ?_
    refine az_X_call (m' := 237) (as := [.ref (P.1 + 60), .int v]) (rest := []) rfl rfl rfl rfl rfl ?_ ?_
    · unfold si_call
      dsimp only
      rw [if_pos ⟨rfl, rfl⟩]
      show (match si_ix P h27 (P.1 + 60) with | some i => _ | none => none) = _
      rw [jix hH27 (by decide)]
      dsimp only
      rw [(hH27.2 60 _ rfl).1]
      rfl
    refine (rtypes_ok hH27 v (by omega) (fun i hi => f27.2 i (by omega))).mono ?_
    rintro rv33 h33 ⟨rfl, hH33, hs33, f33⟩
    show az_X P _ 238 36 ls [] _ _
    refine jm_aload_n (x := P.1 + 60) rfl rfl (jM_at hl 0 rfl) ?_
    refine jm_iload (x := x) rfl rfl (jM_at hl 5 rfl) ?_
    refine az_X_call (m' := 237) (as := [.ref (P.1 + 60), .int x]) (rest := []) rfl rfl rfl rfl rfl ?_ ?_
    · unfold si_call
      dsimp only
      rw [if_pos ⟨rfl, rfl⟩]
      show (match si_ix P h33 (P.1 + 60) with | some i => _ | none => none) = _
      rw [jix hH33 (by decide)]
      dsimp only
      rw [(hH33.2 60 _ rfl).1]
      rfl
    refine (rtypes_ok hH33 x (by omega) (fun i hi => f33.2 i (by omega))).mono ?_
    rintro rv39 h39 ⟨rfl, hH39, hs39, f39⟩
    show az_X P _ 238 42 ls [] _ _
    refine jm_aload_n (x := P.1 + 60) rfl rfl (jM_at hl 0 rfl) ?_
    refine jn_gf (i := 60) (k := 16) rfl rfl hH39 (by decide) (hH39.2 60 _ rfl).1 rfl rfl (fun z43 (ez43 : z43.toInt = ja h39 60 16) (bz43 : 0 ≤ z43.toInt ∧ z43.toInt ≤ 260) => ?_)
    replace ez43 : z43.toInt = ja h33 60 16 + 4 := ez43.trans f39.1
    refine jx_ret rfl rfl rfl ?_
    have l1 : ja h17 60 16 = ja h 60 16 + 4 := by have := f17.1; omega
    have l2 : ja h22 60 16 = ja h 60 16 + 8 := by have := f22.1; omega
    have l3 : ja h27 60 16 = ja h 60 16 + 12 := by have := f27.1; omega
    have l4 : ja h33 60 16 = ja h 60 16 + 16 := by have := f33.1; omega
    have l5 : ja h39 60 16 = ja h 60 16 + 20 := by have := f39.1; omega
    refine ⟨z43, rfl, hH39, ((hs17.sub (by decide)).tr ((hs22.sub (by decide)).tr ((hs27.sub (by decide)).tr ((hs33.sub (by decide)).tr (hs39.sub (by decide)))))), Or.inl ⟨by omega, by omega, l5, fun i hi => ?_⟩⟩
    have q := f39.2 i (by omega)
    rw [l1, l2, l3, l4] at q
    exact q
  · have g10 := jc2_le_f hc10
    refine az_X_step (pc' := 14) (ls' := ls) (st' := [.int (-1)]) (h' := h) rfl rfl rfl ?_
    refine jx_ret rfl rfl rfl ?_
    exact ⟨_, rfl, hH, az_same_out.rf, Or.inr ⟨by omega, by decide, rfl⟩⟩
/-! a time behind its sign; the line of a clock; lines -/
def jTI (hh : Int → Int) (y p f q v : Int) : Prop := (hh p ≠ 64 ∧ f = -1000 - p) ∨ (hh p = 64 ∧ ∃ f1 : Int, jAN hh (p + 1) 4 f1 q v ∧ ((f1 ≠ 0 ∧ f = f1) ∨ (f1 = 0 ∧ y ≤ v ∧ f = -3000 - (p + 1)) ∨ (f1 = 0 ∧ v < y ∧ f = 0)))
theorem jTI_un {hh : Int → Int} {y p f q v f' q' v' : Int} (hp : 0 ≤ p) (h1 : jTI hh y p f q v) (h2 : jTI hh y p f' q' v') : f = f' ∧ (f = 0 → q = q' ∧ v = v') := by
  rcases h1 with ⟨a1, a2⟩ | ⟨a1, g, a2, a3⟩ <;> rcases h2 with ⟨b1, b2⟩ | ⟨b1, k, b2, b3⟩
  · exact ⟨by omega, fun e => absurd e (by omega)⟩
  · exact absurd b1 a1
  · exact absurd a1 b1
  · obtain ⟨u1, u2⟩ := jAN_un (by omega) a2 b2
    subst u1
    rcases a3 with ⟨c1, c2⟩ | ⟨c1, c2, c3⟩ | ⟨c1, c2, c3⟩ <;> rcases b3 with ⟨d1, d2⟩ | ⟨d1, d2, d3⟩ | ⟨d1, d2, d3⟩ <;> first
      | exact absurd d1 c1
      | exact absurd c1 d1
      | exact ⟨by omega, fun e => absurd (c2.symm.trans e) c1⟩
      | (have u3 := u2 c1
         exact ⟨by omega, fun _ => u3⟩)
theorem jTI_f {hh : Int → Int} {y p f q v : Int} (hp : 0 ≤ p) (h : jTI hh y p f q v) : f ≤ 0 := by
  rcases h with ⟨a1, a2⟩ | ⟨a1, g, a2, a3⟩
  · omega
  · rcases a2 with ⟨c1, c2⟩ | ⟨k, c1, c2, c3, c4, c5, c6, c7⟩ | ⟨c1, c2⟩ <;> rcases a3 with ⟨b1, b2⟩ | ⟨b1, b2, b3⟩ | ⟨b1, b2, b3⟩ <;> omega
def jLI (hh : Int → Int) (y p f q : Int) : Prop := ∃ ft qt vt : Int, jTI hh y p ft qt vt ∧ ((ft ≠ 0 ∧ f = ft) ∨ (ft = 0 ∧ hh qt ≠ 43 ∧ hh qt ≠ 45 ∧ f = 0 ∧ q = qt) ∨ (ft = 0 ∧ (hh qt = 43 ∨ hh qt = 45) ∧ ∃ v2 : Int, jAN hh (qt + 1) 2 f q v2))
theorem jTI_q {hh : Int → Int} {y p q v : Int} (hp : 0 ≤ p) (h : jTI hh y p 0 q v) : p + 1 < q ∧ 0 ≤ v ∧ v < y ∧ v ≤ 9999 := by
  rcases h with ⟨a1, a2⟩ | ⟨a1, g, a2, a3⟩
  · omega
  · rcases a3 with ⟨b1, b2⟩ | ⟨b1, b2, b3⟩ | ⟨b1, b2, b3⟩
    · exact absurd b2.symm b1
    · omega
    · subst b1
      have := jAN_v (by omega) (by omega) a2
      omega
theorem jLI_un {hh : Int → Int} {y p f q f' q' : Int} (hp : 0 ≤ p) (h1 : jLI hh y p f q) (h2 : jLI hh y p f' q') : f = f' ∧ (f = 0 → q = q') := by
  obtain ⟨a, b, c, a1, a2⟩ := h1
  obtain ⟨a', b', c', b1, b2⟩ := h2
  obtain ⟨u1, u2⟩ := jTI_un hp a1 b1
  subst u1
  by_cases e : a = 0
  · subst e
    obtain ⟨u3, u4⟩ := u2 rfl
    subst u3
    have uq := jTI_q hp a1
    rcases a2 with ⟨c1, c2⟩ | ⟨c1, c2, c3, c4, c5⟩ | ⟨c1, c2, v2, c3⟩ <;> rcases b2 with ⟨d1, d2⟩ | ⟨d1, d2, d3, d4, d5⟩ | ⟨d1, d2, v3, d3⟩ <;> first
      | exact absurd rfl c1
      | exact absurd rfl d1
      | exact ⟨by omega, fun _ => by omega⟩
      | exact absurd d2 (by omega)
      | exact absurd c2 (by omega)
      | (have u5 := jAN_un (by omega) c3 d3
         exact ⟨u5.1, fun e => (u5.2 e).1⟩)
  · rcases a2 with ⟨c1, c2⟩ | ⟨c1, -⟩ | ⟨c1, -⟩
    · rcases b2 with ⟨d1, d2⟩ | ⟨d1, -⟩ | ⟨d1, -⟩
      · exact ⟨c2.trans d2.symm, fun e2 => absurd (c2.symm.trans e2) c1⟩
      · exact absurd d1 e
      · exact absurd d1 e
    · exact absurd c1 e
    · exact absurd c1 e
theorem jLI_q {hh : Int → Int} {y p q : Int} (hp : 0 ≤ p) (h : jLI hh y p 0 q) : p + 1 < q := by
  obtain ⟨a, b, c, a1, a2⟩ := h
  rcases a2 with ⟨c1, c2⟩ | ⟨c1, c2, c3, c4, c5⟩ | ⟨c1, c2, v2, c3⟩
  · exact absurd c2.symm c1
  · subst c1
    have := jTI_q hp a1
    omega
  · subst c1
    have u := jTI_q hp a1
    have := jAN_v (by omega) (by omega) c3
    omega
/-- which clocks are told, and how many -/
def jtc (T : Nat → Bool) : Nat → Int
  | 0 => 0
  | k + 1 => jtc T k + (if T k = true then 1 else 0)
theorem jtc_bd (T : Nat → Bool) : ∀ k : Nat, 0 ≤ jtc T k ∧ jtc T k ≤ k
  | 0 => by
    show (0 : Int) ≤ 0 ∧ (0 : Int) ≤ ((0 : Nat) : Int)
    omega
  | k + 1 => by
    have i := jtc_bd T k
    show 0 ≤ jtc T k + (if T k = true then 1 else 0) ∧ jtc T k + (if T k = true then 1 else 0) ≤ ((k + 1 : Nat) : Int)
    split <;> omega
theorem jtc_all {T : Nat → Bool} : ∀ {k : Nat}, jtc T k = k → ∀ j : Nat, j < k → T j = true
  | 0, _, j, hj => absurd hj (by omega)
  | k + 1, h, j, hj => by
    have i := jtc_bd T k
    have e : jtc T k + (if T k = true then 1 else 0) = ((k + 1 : Nat) : Int) := h
    by_cases c : T k = true
    · rw [if_pos c] at e
      rcases Nat.lt_or_ge j k with q | q
      · exact jtc_all (k := k) (by omega) j q
      · rw [show j = k by omega]
        exact c
    · rw [if_neg c] at e
      omega
def jad (T : Nat → Bool) (c : Nat) : Nat → Bool := fun k => if k = c then true else T k
theorem jtc_ad {T : Nat → Bool} {c : Nat} (hc : T c = false) : ∀ k : Nat, jtc (jad T c) k = jtc T k + (if c < k then 1 else 0)
  | 0 => by
    rw [if_neg (Nat.not_lt_zero c)]
    rfl
  | k + 1 => by
    have i := jtc_ad hc k
    show jtc (jad T c) k + (if jad T c k = true then 1 else 0) = jtc T k + (if T k = true then 1 else 0) + (if c < k + 1 then 1 else 0)
    rw [i]
    unfold jad
    by_cases e : k = c
    · subst e
      rw [if_pos rfl, if_pos rfl, hc, if_neg (Nat.lt_irrefl k), if_pos (Nat.lt_succ_self k)]
      rfl
    · rw [if_neg e]
      by_cases l : c < k
      · rw [if_pos l, if_pos (show c < k + 1 by omega)]
        omega
      · rw [if_neg l, if_neg (show ¬ c < k + 1 by omega)]
        omega
/-- what the lines come to, from a place on, so many before -/
def jLN (hh : Int → Int) (y n : Int) : Nat → (Nat → Bool) → Int → Int → Int → Prop
  | 0, _, _, _, _ => False
  | k + 1, T, p, many, z => (¬ (97 ≤ hh p ∧ hh p ≤ 104) ∧ z = -1000 - p) ∨ ((97 ≤ hh p ∧ hh p ≤ 104) ∧ T (hh p - 97).toNat = true ∧ z = -6000 - p) ∨ ((97 ≤ hh p ∧ hh p ≤ 104) ∧ T (hh p - 97).toNat = false ∧ ∃ f q : Int, jLI hh y (p + 1) f q ∧ ((f ≠ 0 ∧ z = f) ∨ (f = 0 ∧ n ≤ q ∧ z = many + 1) ∨ (f = 0 ∧ q < n ∧ hh q ≠ 59 ∧ z = -1000 - q) ∨ (f = 0 ∧ q < n ∧ hh q = 59 ∧ jLN hh y n k (jad T (hh p - 97).toNat) (q + 1) (many + 1) z)))
theorem jLN_un {hh : Int → Int} {y n : Int} : ∀ (k : Nat) (T : Nat → Bool) (p many z w : Int), 0 ≤ p → jLN hh y n k T p many z → jLN hh y n k T p many w → z = w
  | 0, _, _, _, _, _, _, h, _ => h.elim
  | k + 1, T, p, many, z, w, hp, h1, h2 => by
    rcases h1 with ⟨a1, a2⟩ | ⟨a1, a2, a3⟩ | ⟨a1, a2, f, q, a3, a4⟩ <;> rcases h2 with ⟨b1, b2⟩ | ⟨b1, b2, b3⟩ | ⟨b1, b2, f', q', b3, b4⟩
    · omega
    · exact absurd b1 a1
    · exact absurd b1 a1
    · exact absurd a1 b1
    · omega
    · rw [a2] at b2; exact absurd b2 (by decide)
    · exact absurd a1 b1
    · rw [a2] at b2; exact absurd b2 (by decide)
    · obtain ⟨u1, u2⟩ := jLI_un (by omega) a3 b3
      subst u1
      by_cases e : f = 0
      · subst e
        have u3 := u2 rfl
        subst u3
        have uq := jLI_q (by omega) a3
        rcases a4 with ⟨c1, c2⟩ | ⟨c1, c2, c3⟩ | ⟨c1, c2, c3, c4⟩ | ⟨c1, c2, c3, c4⟩ <;> rcases b4 with ⟨d1, d2⟩ | ⟨d1, d2, d3⟩ | ⟨d1, d2, d3, d4⟩ | ⟨d1, d2, d3, d4⟩ <;> first
          | exact absurd rfl c1
          | exact absurd rfl d1
          | exact jLN_un k _ _ _ _ _ (by omega) c4 d4
          | exact absurd d3 c3
          | exact absurd c3 d3
          | omega
      · rcases a4 with ⟨c1, c2⟩ | ⟨c1, -⟩ | ⟨c1, -⟩ | ⟨c1, -⟩
        · rcases b4 with ⟨d1, d2⟩ | ⟨d1, -⟩ | ⟨d1, -⟩ | ⟨d1, -⟩
          · exact c2.trans d2.symm
          · exact absurd d1 e
          · exact absurd d1 e
          · exact absurd d1 e
        · exact absurd c1 e
        · exact absurd c1 e
        · exact absurd c1 e
/-- the signs that the reference sees -/
def jBR (h : si_H) (n : Int) (hh : Int → Int) : Prop := (∀ p : Int, 0 ≤ p → p < n → ja h 71 p % 256 = hh p) ∧ (∀ p : Int, n ≤ p → hh p = -1)
theorem jBR_so {h h' : si_H} {n : Int} {hh : Int → Int} {md : List (Nat × Nat)} (hs : az_same_out md h h') (hm : md.all (fun x => decide (x.1 ≠ 71)) = true) (b : jBR h n hh) : jBR h' n hh := ⟨fun p p0 p1 => by rw [jso_row hs hm]; exact b.1 p p0 p1, b.2⟩
theorem jBR_bd {h : si_H} {n p : Int} {hh : Int → Int} (b : jBR h n hh) (hp : 0 ≤ p) : -1 ≤ hh p ∧ hh p ≤ 255 := by
  rcases Int.lt_or_le p n with c | c
  · have := b.1 p hp c
    omega
  · have := b.2 p c
    omega
theorem jBR_lt {h : si_H} {n p : Int} {hh : Int → Int} (b : jBR h n hh) (hp : hh p ≠ -1) : p < n := by
  rcases Int.lt_or_le p n with c | c
  · exact c
  · exact absurd (b.2 p c) hp
theorem rh_ok {P : si_P} {d : Nat} {h : si_H} (hH : az_HI P az_tb h) {n p : Int} {hh : Int → Int} (hn : 1 ≤ n ∧ n ≤ 240) (e8 : ja h 60 18 = n) (e7 : ja h 60 17 = p) (hb : jBR h n hh) : az_X P d 240 0 (lv_args 0 [.ref (P.1 + 60)]) [] h (fun rv h' => h' = h ∧ jV rv (hh p)) := by
  have bp : 0 ≤ ja h 60 17 ∧ ja h 60 17 ≤ 240 := ja_bd hH (i := 60) (k := 17) rfl
  have hl : jM [(0, .ref (P.1 + 60))] (lv_args 0 [.ref (P.1 + 60)]) := jM_args [0] rfl (by decide)
  generalize lv_args 0 [.ref (P.1 + 60)] = ls at hl
  have km1 : ((-1) : Int32).toInt = (-1) := by decide
  have k255 : (255 : Int32).toInt = 255 := by decide
  refine jm_aload_n (x := P.1 + 60) rfl rfl (jM_at hl 0 rfl) ?_
  refine jn_gf (i := 60) (k := 17) rfl rfl hH (by decide) (hH.2 60 _ rfl).1 rfl rfl (fun z1 (ez1 : z1.toInt = ja h 60 17) (bz1 : 0 ≤ z1.toInt ∧ z1.toInt ≤ 240) => ?_)
  refine jm_aload_n (x := P.1 + 60) rfl rfl (jM_at hl 0 rfl) ?_
  refine jn_gf (i := 60) (k := 18) rfl rfl hH (by decide) (hH.2 60 _ rfl).1 rfl rfl (fun z5 (ez5 : z5.toInt = ja h 60 18) (bz5 : 0 ≤ z5.toInt ∧ z5.toInt ≤ 240) => ?_)
  refine jx_ic (t := 27) rfl rfl rfl (fun hc8 => ?_) (fun hc8 => ?_)
  · have g8 := jc2_ge_t hc8
    refine az_X_step (pc' := 28) (ls' := ls) (st' := [.int (-1)]) (h' := h) rfl rfl rfl ?_
    refine jx_ret rfl rfl rfl ?_
    exact ⟨rfl, (-1), rfl, by rw [hb.2 p (by omega)]; decide⟩
  · have g8 := jc2_ge_f hc8
    refine jm_aload_n (x := P.1 + 60) rfl rfl (jM_at hl 0 rfl) ?_
    refine jx_gf (i := 60) rfl rfl hH (by decide) (hH.2 60 _ rfl).1 rfl (jx_rf hH rfl rfl) ?_
    refine jm_aload_n (x := P.1 + 60) rfl rfl (jM_at hl 0 rfl) ?_
    refine jn_gf (i := 60) (k := 17) rfl rfl hH (by decide) (hH.2 60 _ rfl).1 rfl rfl (fun z16 (ez16 : z16.toInt = ja h 60 17) (bz16 : 0 ≤ z16.toInt ∧ z16.toInt ≤ 240) => ?_)
    refine jn_bal (i := 71) (x := z16) rfl rfl hH (by decide) rfl (by omega) (by show _ < ((260 : Nat) : Int); omega) (fun z19 ez19 bz19 => ?_)
    refine az_X_step (pc' := 23) (ls' := ls) (st' := [.int 255, .int z19]) (h' := h) rfl rfl rfl ?_
    refine az_X_step (pc' := 24) (ls' := ls) (st' := [.int (z19 &&& 255)]) (h' := h) rfl rfl rfl ?_
    refine az_X_step (pc' := 28) (ls' := ls) (st' := [.int (z19 &&& 255)]) (h' := h) rfl rfl rfl ?_
    refine jx_ret rfl rfl rfl ?_
    exact ⟨rfl, _, rfl, by rw [jn_a255, ez19, show z16.toInt = p by omega]; exact hb.1 p (by omega) (by omega)⟩
theorem rd_ok {P : si_P} {d : Nat} {h : si_H} (hH : az_HI P az_tb h) {n p : Int} {hh : Int → Int} (hn : 1 ≤ n ∧ n ≤ 240) (e8 : ja h 60 18 = n) (e7 : ja h 60 17 = p) (hb : jBR h n hh) : az_X P (d + 1) 241 0 (lv_args 0 [.ref (P.1 + 60)]) [] h (fun rv h' => h' = h ∧ ∃ z : Int32, rv = some (.int z) ∧ ((z.toInt = 1 ∧ jdg hh p) ∨ (z.toInt = 0 ∧ ¬ jdg hh p))) := by
  have hl : jM [(0, .ref (P.1 + 60))] (lv_args 0 [.ref (P.1 + 60)]) := jM_args [0] rfl (by decide)
  generalize lv_args 0 [.ref (P.1 + 60)] = ls at hl
  have k0 : (0 : Int32).toInt = 0 := by decide
  have k1 : (1 : Int32).toInt = 1 := by decide
  have k48 : (48 : Int32).toInt = 48 := by decide
  have k57 : (57 : Int32).toInt = 57 := by decide
  refine jm_aload_n (x := P.1 + 60) rfl rfl (jM_at hl 0 rfl) ?_
  refine az_X_call (m' := 240) (as := [.ref (P.1 + 60)]) (rest := []) rfl rfl rfl rfl rfl ?_ ?_
  · unfold si_call
    dsimp only
    rw [if_pos ⟨rfl, rfl⟩]
    show (match si_ix P h (P.1 + 60) with | some i => _ | none => none) = _
    rw [jix hH (by decide)]
    dsimp only
    rw [(hH.2 60 _ rfl).1]
    rfl
  refine (rh_ok hH hn e8 e7 hb).mono ?_
  rintro rv1 h1 ⟨q1, z1, rfl, ez1⟩
  subst h1
  show az_X P _ 241 4 ls [.int z1] _ _
  refine az_X_step (pc' := 6) (ls' := ls) (st' := [.int 48, .int z1]) (h' := h) rfl rfl rfl ?_
  refine jx_ic (t := 22) rfl rfl rfl (fun hc6 => ?_) (fun hc6 => ?_)
  · have g6 := jc2_lt_t hc6
    refine az_X_step (pc' := 23) (ls' := ls) (st' := [.int 0]) (h' := h) rfl rfl rfl ?_
    refine jx_retz rfl rfl rfl (by decide) ?_
    exact ⟨rfl, 0, rfl, Or.inr ⟨by decide, by unfold jdg; omega⟩⟩
  · have g6 := jc2_lt_f hc6
    refine jm_aload_n (x := P.1 + 60) rfl rfl (jM_at hl 0 rfl) ?_
    refine az_X_call (m' := 240) (as := [.ref (P.1 + 60)]) (rest := []) rfl rfl rfl rfl rfl ?_ ?_
    · unfold si_call
      dsimp only
      rw [if_pos ⟨rfl, rfl⟩]
      show (match si_ix P h (P.1 + 60) with | some i => _ | none => none) = _
      rw [jix hH (by decide)]
      dsimp only
      rw [(hH.2 60 _ rfl).1]
      rfl
    refine (rh_ok hH hn e8 e7 hb).mono ?_
    rintro rv10 h10 ⟨q10, z10, rfl, ez10⟩
    subst h10
    show az_X P _ 241 13 ls [.int z10] _ _
    refine az_X_step (pc' := 15) (ls' := ls) (st' := [.int 57, .int z10]) (h' := h) rfl rfl rfl ?_
    refine jx_ic (t := 22) rfl rfl rfl (fun hc15 => ?_) (fun hc15 => ?_)
    · have g15 := jc2_gt_t hc15
      refine az_X_step (pc' := 23) (ls' := ls) (st' := [.int 0]) (h' := h) rfl rfl rfl ?_
      refine jx_retz rfl rfl rfl (by decide) ?_
      exact ⟨rfl, 0, rfl, Or.inr ⟨by decide, by unfold jdg; omega⟩⟩
    · have g15 := jc2_gt_f hc15
      refine az_X_step (pc' := 19) (ls' := ls) (st' := [.int 1]) (h' := h) rfl rfl rfl ?_
      refine az_X_step (pc' := 23) (ls' := ls) (st' := [.int 1]) (h' := h) rfl rfl rfl ?_
      refine jx_retz rfl rfl rfl (by decide) ?_
      exact ⟨rfl, 1, rfl, Or.inl ⟨by decide, by unfold jdg; omega⟩⟩
theorem rw_ok {P : si_P} {d : Nat} {h : si_H} (hH : az_HI P az_tb h) (k a : Int32) (hk : 1 ≤ k.toInt ∧ k.toInt ≤ 6) (ha : 0 ≤ a.toInt ∧ a.toInt ≤ 300) : az_X P d 242 0 (lv_args 0 [.ref (P.1 + 60), .int k, .int a]) [] h (fun rv h' => ∃ z : Int32, rv = some (.int z) ∧ az_HI P az_tb h' ∧ az_same_out [(60, 19)] h h' ∧ z.toInt = 0 ∧ ja h' 60 19 = -1000 * k.toInt - a.toInt) := by
  have hl : jM [(0, .ref (P.1 + 60)), (1, .int k), (2, .int a)] (lv_args 0 [.ref (P.1 + 60), .int k, .int a]) := jM_args [0, 1, 2] rfl (by decide)
  generalize lv_args 0 [.ref (P.1 + 60), .int k, .int a] = ls at hl
  have km1000 : ((-1000) : Int32).toInt = (-1000) := by decide
  have k0 : (0 : Int32).toInt = 0 := by decide
  refine jm_aload_n (x := P.1 + 60) rfl rfl (jM_at hl 0 rfl) ?_
  refine az_X_step (pc' := 4) (ls' := ls) (st' := [.int (-1000), .ref (P.1 + 60)]) (h' := h) rfl rfl rfl ?_
  refine jm_iload_n (x := k) rfl rfl (jM_at hl 1 rfl) ?_
  refine jn_mul (a := (-1000)) (b := k) rfl rfl (by rw [show ((-1000) : Int32).toInt = (-1000) by decide]; omega) (by rw [show ((-1000) : Int32).toInt = (-1000) by decide]; omega) (fun z5 ez5 => ?_)
  rw [show ((-1000) : Int32).toInt = (-1000) by decide] at ez5
  refine jm_iload_n (x := a) rfl rfl (jM_at hl 2 rfl) ?_
  refine jn_sub (a := z5) (b := a) rfl rfl (by omega) (by omega) (fun z7 ez7 => ?_)
  refine jn_pf (i := 60) (k := 19) (x := z7) rfl rfl hH (by decide) rfl (hH.2 60 _ rfl).1 rfl rfl (by decide) (by decide) (by show (-2147483648) ≤ _; omega) (by show _ ≤ 2147483647; omega) (fun h8 hH8 hs8 (t8 : ja h8 60 19 = z7.toInt) => ?_)
  refine az_X_step (pc' := 12) (ls' := ls) (st' := [.int 0]) (h' := h8) rfl rfl rfl ?_
  refine jx_retz rfl rfl rfl (by decide) ?_
  exact ⟨0, rfl, hH8, (hs8.sub (by decide)), by decide, t8.trans (by omega)⟩
theorem rt_ok {P : si_P} {d : Nat} {h : si_H} (hH : az_HI P az_tb h) {n p : Int} {hh : Int → Int} (hn : 1 ≤ n ∧ n ≤ 240) (e8 : ja h 60 18 = n) (e7 : ja h 60 17 = p) (hb : jBR h n hh) (c : Int32) (hc : 0 ≤ c.toInt) : az_X P (d + 1) 243 0 (lv_args 0 [.ref (P.1 + 60), .int c]) [] h (fun rv h' => ∃ z : Int32, rv = some (.int z) ∧ az_HI P az_tb h' ∧ az_same_out [(60, 17), (60, 19)] h h' ∧ ((hh p = c.toInt ∧ z.toInt = 1 ∧ ja h' 60 17 = p + 1) ∨ (hh p ≠ c.toInt ∧ z.toInt = 0 ∧ ja h' 60 19 = -1000 - p))) := by
  have bp : 0 ≤ ja h 60 17 ∧ ja h 60 17 ≤ 240 := ja_bd hH (i := 60) (k := 17) rfl
  have hl : jM [(0, .ref (P.1 + 60)), (1, .int c)] (lv_args 0 [.ref (P.1 + 60), .int c]) := jM_args [0, 1] rfl (by decide)
  generalize lv_args 0 [.ref (P.1 + 60), .int c] = ls at hl
  have k1 : (1 : Int32).toInt = 1 := by decide
  refine jm_aload_n (x := P.1 + 60) rfl rfl (jM_at hl 0 rfl) ?_
  refine az_X_call (m' := 240) (as := [.ref (P.1 + 60)]) (rest := []) rfl rfl rfl rfl rfl ?_ ?_
  · unfold si_call
    dsimp only
    rw [if_pos ⟨rfl, rfl⟩]
    show (match si_ix P h (P.1 + 60) with | some i => _ | none => none) = _
    rw [jix hH (by decide)]
    dsimp only
    rw [(hH.2 60 _ rfl).1]
    rfl
  refine (rh_ok hH hn e8 e7 hb).mono ?_
  rintro rv1 h1 ⟨q1, z1, rfl, ez1⟩
  subst h1
  show az_X P _ 243 4 ls [.int z1] _ _
  refine jm_iload_n (x := c) rfl rfl (jM_at hl 1 rfl) ?_
  refine jx_ic (t := 18) rfl rfl rfl (fun hc5 => ?_) (fun hc5 => ?_)
  · have g5 := jc2_eq_t hc5
    have hpn := jBR_lt hb (p := p) (by omega)
    refine jm_aload_n (x := P.1 + 60) rfl rfl (jM_at hl 0 rfl) ?_
    refine jm_aload_n (x := P.1 + 60) rfl rfl (jM_at hl 0 rfl) ?_
    refine jn_gf (i := 60) (k := 17) rfl rfl hH (by decide) (hH.2 60 _ rfl).1 rfl rfl (fun z20 (ez20 : z20.toInt = ja h 60 17) (bz20 : 0 ≤ z20.toInt ∧ z20.toInt ≤ 240) => ?_)
    refine az_X_step (pc' := 24) (ls' := ls) (st' := [.int 1, .int z20, .ref (P.1 + 60)]) (h' := h) rfl rfl rfl ?_
    refine jn_add (a := z20) (b := 1) rfl rfl (by omega) (by omega) (fun z24 ez24 => ?_)
    rw [show (1 : Int32).toInt = 1 by decide] at ez24
    refine jn_pf (i := 60) (k := 17) (x := z24) rfl rfl hH (by decide) rfl (hH.2 60 _ rfl).1 rfl rfl (by decide) (by decide) (by show 0 ≤ _; omega) (by show _ ≤ 240; omega) (fun h25 hH25 hs25 (t25 : ja h25 60 17 = z24.toInt) => ?_)
    refine az_X_step (pc' := 29) (ls' := ls) (st' := [.int 1]) (h' := h25) rfl rfl rfl ?_
    refine jx_retz rfl rfl rfl (by decide) ?_
    exact ⟨1, rfl, hH25, (hs25.sub (by decide)), Or.inl ⟨by omega, by decide, t25.trans (by omega)⟩⟩
  · have g5 := jc2_eq_f hc5
    refine jm_aload_n (x := P.1 + 60) rfl rfl (jM_at hl 0 rfl) ?_
    refine az_X_step (pc' := 10) (ls' := ls) (st' := [.int 1, .ref (P.1 + 60)]) (h' := h) rfl rfl rfl ?_
    refine jm_aload_n (x := P.1 + 60) rfl rfl (jM_at hl 0 rfl) ?_
    refine jn_gf (i := 60) (k := 17) rfl rfl hH (by decide) (hH.2 60 _ rfl).1 rfl rfl (fun z11 (ez11 : z11.toInt = ja h 60 17) (bz11 : 0 ≤ z11.toInt ∧ z11.toInt ≤ 240) => ?_)
    refine az_X_call (m' := 242) (as := [.ref (P.1 + 60), .int 1, .int z11]) (rest := []) rfl rfl rfl rfl rfl ?_ ?_
    · unfold si_call
      dsimp only
      rw [if_pos ⟨rfl, rfl⟩]
      show (match si_ix P h (P.1 + 60) with | some i => _ | none => none) = _
      rw [jix hH (by decide)]
      dsimp only
      rw [(hH.2 60 _ rfl).1]
      rfl
    refine (rw_ok hH 1 z11 (by decide) (by omega)).mono ?_
    rintro rv14 h14 ⟨z14, rfl, hH14, hs14, f14⟩
    show az_X P _ 243 17 ls [.int z14] _ _
    refine jx_retz rfl rfl rfl (jbz (by omega)) ?_
    exact ⟨z14, rfl, hH14, hs14.sub (by decide), Or.inr ⟨by omega, f14.1, f14.2.trans (by omega)⟩⟩
theorem ra_l {P : si_P} {d : Nat} {h0 : si_H} {n p : Int} {hh : Int → Int} (hn : 1 ≤ n ∧ n ≤ 240) (B D : Int32) (hD : 1 ≤ D.toInt ∧ D.toInt ≤ 4) (hB : B.toInt = p) (hp : 0 ≤ p ∧ p ≤ 240) (hh1 : ∀ i : Int, hh i ≤ 255) (d0 : jdg hh p) : ∀ (k j : Nat) (h : si_H) (ls : si_L), jM [(2, .int B), (0, .ref (P.1 + 60)), (1, .int D)] ls → az_HI P az_tb h → az_same_out [(60, 17), (60, 19), (60, 20)] h0 h → ja h 60 18 = n → ja h 60 17 = p + j → ja h 60 20 = jva hh p j → jBR h n hh → (j : Int) + k = D.toInt → (∀ i : Nat, i < j → jdg hh (p + i)) → az_X P (d + 2) 266 27 ls [] h (fun rv h' => ∃ z : Int32, rv = some (.int z) ∧ az_HI P az_tb h' ∧ az_same_out [(60, 17), (60, 19), (60, 20)] h0 h' ∧ ∃ f q v : Int, jAN hh p D.toInt.toNat f q v ∧ ((f = 0 ∧ z.toInt = 1 ∧ ja h' 60 17 = q ∧ ja h' 60 20 = v) ∨ (f ≠ 0 ∧ z.toInt = 0 ∧ ja h' 60 19 = f))) := by
  intro k
  induction k with
  | zero =>
    intro j h ls hl hH hs e8 e7 e20 hb hj hg
    have bp : 0 ≤ ja h 60 17 ∧ ja h 60 17 ≤ 240 := ja_bd hH (i := 60) (k := 17) rfl
    have jv := jva_bd j hg
    have jn := (jnin_bd (k := j)).2.1 (by omega)
    have k0 : (0 : Int32).toInt = 0 := by decide
    have k1 : (1 : Int32).toInt = 1 := by decide
    have k2 : (2 : Int32).toInt = 2 := by decide
    refine jm_aload_n (x := P.1 + 60) rfl rfl (jM_at hl 1 rfl) ?_
    refine az_X_call (m' := 241) (as := [.ref (P.1 + 60)]) (rest := []) rfl rfl rfl rfl rfl ?_ ?_
    · unfold si_call
      dsimp only
      rw [if_pos ⟨rfl, rfl⟩]
      show (match si_ix P h (P.1 + 60) with | some i => _ | none => none) = _
      rw [jix hH (by decide)]
      dsimp only
      rw [(hH.2 60 _ rfl).1]
      rfl
    refine (rd_ok hH hn e8 e7 hb).mono ?_
    rintro rv28 h28 ⟨q28, z28, rfl, ez28⟩
    subst h28
    show az_X P _ 266 31 ls [.int z28] _ _
    refine jx_if (t := 86) rfl rfl rfl (fun hc31 => ?_) (fun hc31 => ?_)
    · have g31 := jc1_eq_t hc31
      refine az_X_step (pc' := 87) (ls' := ls) (st' := [.int 1]) (h' := h) rfl rfl rfl ?_
      refine jx_retz rfl rfl rfl (by decide) ?_
      have nd : ¬ jdg hh (p + j) := by
        rcases ez28 with ⟨q, -⟩ | ⟨-, q⟩
        · exact absurd g31 (by omega)
        · exact q
      have j1 : 1 ≤ j := by
        rcases Nat.eq_zero_or_pos j with c | c
        · rw [c, show p + ((0 : Nat) : Int) = p by omega] at nd
          exact absurd d0 nd
        · exact c
      exact ⟨1, rfl, hH, hs, 0, p + j, jva hh p j, Or.inr (Or.inl ⟨j, j1, by omega, hg, nd, rfl, rfl, rfl⟩), Or.inl ⟨rfl, by decide, e7, e20⟩⟩
    · have g31 := jc1_eq_f hc31
      refine jm_aload_n (x := P.1 + 60) rfl rfl (jM_at hl 1 rfl) ?_
      refine jn_gf (i := 60) (k := 17) rfl rfl hH (by decide) (hH.2 60 _ rfl).1 rfl rfl (fun z35 (ez35 : z35.toInt = ja h 60 17) (bz35 : 0 ≤ z35.toInt ∧ z35.toInt ≤ 240) => ?_)
      refine jm_iload_n (x := B) rfl rfl (jM_at hl 0 rfl) ?_
      refine jm_iload_n (x := D) rfl rfl (jM_at hl 2 rfl) ?_
      refine jn_add (a := B) (b := D) rfl rfl (by omega) (by omega) (fun z40 ez40 => ?_)
      refine jx_ic (t := 54) rfl rfl rfl (fun hc41 => ?_) (fun hc41 => ?_)
      · have g41 := jc2_ne_t hc41
        exfalso
        omega
      · have g41 := jc2_ne_f hc41
        refine jm_aload_n (x := P.1 + 60) rfl rfl (jM_at hl 1 rfl) ?_
        refine az_X_step (pc' := 46) (ls' := ls) (st' := [.int 2, .ref (P.1 + 60)]) (h' := h) rfl rfl rfl ?_
        refine jm_aload_n (x := P.1 + 60) rfl rfl (jM_at hl 1 rfl) ?_
        refine jn_gf (i := 60) (k := 17) rfl rfl hH (by decide) (hH.2 60 _ rfl).1 rfl rfl (fun z47 (ez47 : z47.toInt = ja h 60 17) (bz47 : 0 ≤ z47.toInt ∧ z47.toInt ≤ 240) => ?_)
        refine az_X_call (m' := 242) (as := [.ref (P.1 + 60), .int 2, .int z47]) (rest := []) rfl rfl rfl rfl rfl ?_ ?_
        · unfold si_call
          dsimp only
          rw [if_pos ⟨rfl, rfl⟩]
          show (match si_ix P h (P.1 + 60) with | some i => _ | none => none) = _
          rw [jix hH (by decide)]
          dsimp only
          rw [(hH.2 60 _ rfl).1]
          rfl
        refine (rw_ok hH 2 z47 (by decide) (by omega)).mono ?_
        rintro rv50 h50 ⟨z50, rfl, hH50, hs50, f50⟩
        show az_X P _ 266 53 ls [.int z50] _ _
        refine jx_retz rfl rfl rfl (jbz (by omega)) ?_
        have dj : jdg hh (p + j) := by
          rcases ez28 with ⟨-, q⟩ | ⟨q, -⟩
          · exact q
          · exact absurd q g31
        refine ⟨z50, rfl, hH50, hs.tr (hs50.sub (by decide)), -2000 - (p + D.toInt.toNat), 0, 0, Or.inr (Or.inr ⟨fun i hi => ?_, rfl⟩), Or.inr ⟨by omega, f50.1, f50.2.trans (by omega)⟩⟩
        rcases Nat.lt_or_ge i j with c | c
        · exact hg i c
        · rw [show i = j by omega]; exact dj
  | succ k ih =>
    intro j h ls hl hH hs e8 e7 e20 hb hj hg
    have bp : 0 ≤ ja h 60 17 ∧ ja h 60 17 ≤ 240 := ja_bd hH (i := 60) (k := 17) rfl
    have jv := jva_bd j hg
    have jn := (jnin_bd (k := j)).2.1 (by omega)
    have k0 : (0 : Int32).toInt = 0 := by decide
    have k1 : (1 : Int32).toInt = 1 := by decide
    have k2 : (2 : Int32).toInt = 2 := by decide
    have k10 : (10 : Int32).toInt = 10 := by decide
    have k48 : (48 : Int32).toInt = 48 := by decide
    refine jm_aload_n (x := P.1 + 60) rfl rfl (jM_at hl 1 rfl) ?_
    refine az_X_call (m' := 241) (as := [.ref (P.1 + 60)]) (rest := []) rfl rfl rfl rfl rfl ?_ ?_
    · unfold si_call
      dsimp only
      rw [if_pos ⟨rfl, rfl⟩]
      show (match si_ix P h (P.1 + 60) with | some i => _ | none => none) = _
      rw [jix hH (by decide)]
      dsimp only
      rw [(hH.2 60 _ rfl).1]
      rfl
    refine (rd_ok hH hn e8 e7 hb).mono ?_
    rintro rv28 h28 ⟨q28, z28, rfl, ez28⟩
    subst h28
    show az_X P _ 266 31 ls [.int z28] _ _
    refine jx_if (t := 86) rfl rfl rfl (fun hc31 => ?_) (fun hc31 => ?_)
    · have g31 := jc1_eq_t hc31
      refine az_X_step (pc' := 87) (ls' := ls) (st' := [.int 1]) (h' := h) rfl rfl rfl ?_
      refine jx_retz rfl rfl rfl (by decide) ?_
      have nd : ¬ jdg hh (p + j) := by
        rcases ez28 with ⟨q, -⟩ | ⟨-, q⟩
        · exact absurd g31 (by omega)
        · exact q
      have j1 : 1 ≤ j := by
        rcases Nat.eq_zero_or_pos j with c | c
        · rw [c, show p + ((0 : Nat) : Int) = p by omega] at nd
          exact absurd d0 nd
        · exact c
      exact ⟨1, rfl, hH, hs, 0, p + j, jva hh p j, Or.inr (Or.inl ⟨j, j1, by omega, hg, nd, rfl, rfl, rfl⟩), Or.inl ⟨rfl, by decide, e7, e20⟩⟩
    · have g31 := jc1_eq_f hc31
      refine jm_aload_n (x := P.1 + 60) rfl rfl (jM_at hl 1 rfl) ?_
      refine jn_gf (i := 60) (k := 17) rfl rfl hH (by decide) (hH.2 60 _ rfl).1 rfl rfl (fun z35 (ez35 : z35.toInt = ja h 60 17) (bz35 : 0 ≤ z35.toInt ∧ z35.toInt ≤ 240) => ?_)
      refine jm_iload_n (x := B) rfl rfl (jM_at hl 0 rfl) ?_
      refine jm_iload_n (x := D) rfl rfl (jM_at hl 2 rfl) ?_
      refine jn_add (a := B) (b := D) rfl rfl (by omega) (by omega) (fun z40 ez40 => ?_)
      refine jx_ic (t := 54) rfl rfl rfl (fun hc41 => ?_) (fun hc41 => ?_)
      · have g41 := jc2_ne_t hc41
        have dj : jdg hh (p + j) := by
          rcases ez28 with ⟨-, q⟩ | ⟨q, -⟩
          · exact q
          · exact absurd q g31
        have dj2 : 48 ≤ hh (p + j) ∧ hh (p + j) ≤ 57 := dj
        have hpn := jBR_lt hb (p := p + (j : Int)) (by omega)
        refine jm_aload_n (x := P.1 + 60) rfl rfl (jM_at hl 1 rfl) ?_
        refine az_X_step (pc' := 57) (ls' := ls) (st' := [.int 10, .ref (P.1 + 60)]) (h' := h) rfl rfl rfl ?_
        refine jm_aload_n (x := P.1 + 60) rfl rfl (jM_at hl 1 rfl) ?_
        refine jn_gf (i := 60) (k := 20) rfl rfl hH (by decide) (hH.2 60 _ rfl).1 rfl rfl (fun z58 (ez58 : z58.toInt = ja h 60 20) (bz58 : 0 ≤ z58.toInt ∧ z58.toInt ≤ 99999) => ?_)
        refine jn_mul (a := 10) (b := z58) rfl rfl (by rw [show (10 : Int32).toInt = 10 by decide]; omega) (by rw [show (10 : Int32).toInt = 10 by decide]; omega) (fun z61 ez61 => ?_)
        rw [show (10 : Int32).toInt = 10 by decide] at ez61
        refine jm_aload_n (x := P.1 + 60) rfl rfl (jM_at hl 1 rfl) ?_
        refine az_X_call (m' := 240) (as := [.ref (P.1 + 60)]) (rest := [.int z61, .ref (P.1 + 60)]) rfl rfl rfl rfl rfl ?_ ?_
        · unfold si_call
          dsimp only
          rw [if_pos ⟨rfl, rfl⟩]
          show (match si_ix P h (P.1 + 60) with | some i => _ | none => none) = _
          rw [jix hH (by decide)]
          dsimp only
          rw [(hH.2 60 _ rfl).1]
          rfl
        refine (rh_ok hH hn e8 e7 hb).mono ?_
        rintro rv63 h63 ⟨q63, z63, rfl, ez63⟩
        subst h63
        show az_X P _ 266 66 ls [.int z63, .int z61, .ref (P.1 + 60)] _ _
        refine jn_add (a := z61) (b := z63) rfl rfl (by omega) (by omega) (fun z66 ez66 => ?_)
        refine az_X_step (pc' := 69) (ls' := ls) (st' := [.int 48, .int z66, .ref (P.1 + 60)]) (h' := h) rfl rfl rfl ?_
        refine jn_sub (a := z66) (b := 48) rfl rfl (by omega) (by omega) (fun z69 ez69 => ?_)
        rw [show (48 : Int32).toInt = 48 by decide] at ez69
        refine jn_pf (i := 60) (k := 20) (x := z69) rfl rfl hH (by decide) rfl (hH.2 60 _ rfl).1 rfl rfl (by decide) (by decide) (by show 0 ≤ _; omega) (by show _ ≤ 99999; omega) (fun h70 hH70 hs70 (t70 : ja h70 60 20 = z69.toInt) => ?_)
        refine jm_aload_n (x := P.1 + 60) rfl rfl (jM_at hl 1 rfl) ?_
        refine jm_aload_n (x := P.1 + 60) rfl rfl (jM_at hl 1 rfl) ?_
        refine jn_gf (i := 60) (k := 17) rfl rfl hH70 (by decide) (hH70.2 60 _ rfl).1 rfl rfl (fun z75 (ez75 : z75.toInt = ja h70 60 17) (bz75 : 0 ≤ z75.toInt ∧ z75.toInt ≤ 240) => ?_)
        replace ez75 : z75.toInt = ja h 60 17 := ez75.trans (jso hs70 (by decide))
        refine az_X_step (pc' := 79) (ls' := ls) (st' := [.int 1, .int z75, .ref (P.1 + 60)]) (h' := h70) rfl rfl rfl ?_
        refine jn_add (a := z75) (b := 1) rfl rfl (by omega) (by omega) (fun z79 ez79 => ?_)
        rw [show (1 : Int32).toInt = 1 by decide] at ez79
        refine jn_pf (i := 60) (k := 17) (x := z79) rfl rfl hH70 (by decide) rfl (hH70.2 60 _ rfl).1 rfl rfl (by decide) (by decide) (by show 0 ≤ _; omega) (by show _ ≤ 240; omega) (fun h80 hH80 hs80 (t80 : ja h80 60 17 = z79.toInt) => ?_)
        refine az_X_step (pc' := 27) (ls' := ls) (st' := []) (h' := h80) rfl rfl rfl ?_
        refine ih (j + 1) h80 ls (jM_pick hl [0, 1, 2] rfl) hH80 ((hs.tr (hs70.sub (by decide))).tr (hs80.sub (by decide))) (((jso hs80 (by decide)).trans (jso hs70 (by decide))).trans e8) (t80.trans (by omega)) (((jso hs80 (by decide)).trans t70).trans (by rw [jva_s]; omega)) (jBR_so hs80 (by decide) (jBR_so hs70 (by decide) hb)) (by omega) (fun i hi => ?_)
        rcases Nat.lt_or_ge i j with c | c
        · exact hg i c
        · rw [show i = j by omega]; exact dj
      · have g41 := jc2_ne_f hc41
        refine jm_aload_n (x := P.1 + 60) rfl rfl (jM_at hl 1 rfl) ?_
        refine az_X_step (pc' := 46) (ls' := ls) (st' := [.int 2, .ref (P.1 + 60)]) (h' := h) rfl rfl rfl ?_
        refine jm_aload_n (x := P.1 + 60) rfl rfl (jM_at hl 1 rfl) ?_
        refine jn_gf (i := 60) (k := 17) rfl rfl hH (by decide) (hH.2 60 _ rfl).1 rfl rfl (fun z47 (ez47 : z47.toInt = ja h 60 17) (bz47 : 0 ≤ z47.toInt ∧ z47.toInt ≤ 240) => ?_)
        refine az_X_call (m' := 242) (as := [.ref (P.1 + 60), .int 2, .int z47]) (rest := []) rfl rfl rfl rfl rfl ?_ ?_
        · unfold si_call
          dsimp only
          rw [if_pos ⟨rfl, rfl⟩]
          show (match si_ix P h (P.1 + 60) with | some i => _ | none => none) = _
          rw [jix hH (by decide)]
          dsimp only
          rw [(hH.2 60 _ rfl).1]
          rfl
        refine (rw_ok hH 2 z47 (by decide) (by omega)).mono ?_
        rintro rv50 h50 ⟨z50, rfl, hH50, hs50, f50⟩
        show az_X P _ 266 53 ls [.int z50] _ _
        refine jx_retz rfl rfl rfl (jbz (by omega)) ?_
        exfalso
        omega
theorem ra_ok {P : si_P} {d : Nat} {h : si_H} (hH : az_HI P az_tb h) {n p : Int} {hh : Int → Int} (hn : 1 ≤ n ∧ n ≤ 240) (e8 : ja h 60 18 = n) (e7 : ja h 60 17 = p) (hb : jBR h n hh) (hh1 : ∀ i : Int, hh i ≤ 255) (D : Int32) (hD : 1 ≤ D.toInt ∧ D.toInt ≤ 4) : az_X P (d + 2) 266 0 (lv_args 0 [.ref (P.1 + 60), .int D]) [] h (fun rv h' => ∃ z : Int32, rv = some (.int z) ∧ az_HI P az_tb h' ∧ az_same_out [(60, 17), (60, 19), (60, 20)] h h' ∧ ∃ f q v : Int, jAN hh p D.toInt.toNat f q v ∧ ((f = 0 ∧ z.toInt = 1 ∧ ja h' 60 17 = q ∧ ja h' 60 20 = v) ∨ (f ≠ 0 ∧ z.toInt = 0 ∧ ja h' 60 19 = f))) := by
  have bp : 0 ≤ ja h 60 17 ∧ ja h 60 17 ≤ 240 := ja_bd hH (i := 60) (k := 17) rfl
  have hl : jM [(0, .ref (P.1 + 60)), (1, .int D)] (lv_args 0 [.ref (P.1 + 60), .int D]) := jM_args [0, 1] rfl (by decide)
  generalize lv_args 0 [.ref (P.1 + 60), .int D] = ls at hl
  have k0 : (0 : Int32).toInt = 0 := by decide
  have k1 : (1 : Int32).toInt = 1 := by decide
  refine jm_aload_n (x := P.1 + 60) rfl rfl (jM_at hl 0 rfl) ?_
  refine jn_gf (i := 60) (k := 17) rfl rfl hH (by decide) (hH.2 60 _ rfl).1 rfl rfl (fun z1 (ez1 : z1.toInt = ja h 60 17) (bz1 : 0 ≤ z1.toInt ∧ z1.toInt ≤ 240) => ?_)
  refine jm_istore_n (l' := [(2, .int z1), (0, .ref (P.1 + 60)), (1, .int D)]) rfl rfl (by decide) hl rfl rfl (fun ls4 hl4 => ?_)
  refine jm_aload_n (x := P.1 + 60) rfl rfl (jM_at hl4 1 rfl) ?_
  refine az_X_call (m' := 241) (as := [.ref (P.1 + 60)]) (rest := []) rfl rfl rfl rfl rfl ?_ ?_
  · unfold si_call
    dsimp only
    rw [if_pos ⟨rfl, rfl⟩]
    show (match si_ix P h (P.1 + 60) with | some i => _ | none => none) = _
    rw [jix hH (by decide)]
    dsimp only
    rw [(hH.2 60 _ rfl).1]
    rfl
  refine (rd_ok hH hn e8 e7 hb).mono ?_
  rintro rv6 h6 ⟨q6, z6, rfl, ez6⟩
  subst h6
  show az_X P _ 266 9 ls4 [.int z6] _ _
  refine jx_if (t := 22) rfl rfl rfl (fun hc9 => ?_) (fun hc9 => ?_)
  · have g9 := jc1_ne_t hc9
    refine jm_aload_n (x := P.1 + 60) rfl rfl (jM_at hl4 1 rfl) ?_
    refine az_X_step (pc' := 24) (ls' := ls4) (st' := [.int 0, .ref (P.1 + 60)]) (h' := h) rfl rfl rfl ?_
    refine jn_pf (i := 60) (k := 20) (x := 0) rfl rfl hH (by decide) rfl (hH.2 60 _ rfl).1 rfl rfl (by decide) (by decide) (by show 0 ≤ _; omega) (by show _ ≤ 99999; omega) (fun h24 hH24 hs24 (t24 : ja h24 60 20 = (0 : Int32).toInt) => ?_)
    replace t24 : ja h24 60 20 = 0 := t24.trans (by decide)
    have d0 : jdg hh p := by
      rcases ez6 with ⟨-, q⟩ | ⟨q, -⟩
      · exact q
      · exact absurd q g9
    exact ra_l (d := d) (h0 := h) (p := p) hn z1 D hD (by omega) (by omega) hh1 d0 D.toInt.toNat 0 h24 ls4 (jM_pick hl4 [0, 1, 2] rfl) hH24 (hs24.sub (by decide)) ((jso hs24 (by decide)).trans e8) ((jso hs24 (by decide)).trans (by omega)) t24 (jBR_so hs24 (by decide) hb) (by omega) (fun i hi => absurd hi (by omega))
  · have g9 := jc1_ne_f hc9
    refine jm_aload_n (x := P.1 + 60) rfl rfl (jM_at hl4 1 rfl) ?_
    refine az_X_step (pc' := 14) (ls' := ls4) (st' := [.int 1, .ref (P.1 + 60)]) (h' := h) rfl rfl rfl ?_
    refine jm_aload_n (x := P.1 + 60) rfl rfl (jM_at hl4 1 rfl) ?_
    refine jn_gf (i := 60) (k := 17) rfl rfl hH (by decide) (hH.2 60 _ rfl).1 rfl rfl (fun z15 (ez15 : z15.toInt = ja h 60 17) (bz15 : 0 ≤ z15.toInt ∧ z15.toInt ≤ 240) => ?_)
    refine az_X_call (m' := 242) (as := [.ref (P.1 + 60), .int 1, .int z15]) (rest := []) rfl rfl rfl rfl rfl ?_ ?_
    · unfold si_call
      dsimp only
      rw [if_pos ⟨rfl, rfl⟩]
      show (match si_ix P h (P.1 + 60) with | some i => _ | none => none) = _
      rw [jix hH (by decide)]
      dsimp only
      rw [(hH.2 60 _ rfl).1]
      rfl
    refine (rw_ok hH 1 z15 (by decide) (by omega)).mono ?_
    rintro rv18 h18 ⟨z18, rfl, hH18, hs18, f18⟩
    show az_X P _ 266 21 ls4 [.int z18] _ _
    refine jx_retz rfl rfl rfl (jbz (by omega)) ?_
    have nd : ¬ jdg hh p := by
      rcases ez6 with ⟨q, -⟩ | ⟨-, q⟩
      · exact absurd g9 (by omega)
      · exact q
    exact ⟨z18, rfl, hH18, hs18.sub (by decide), -1000 - p, 0, 0, Or.inl ⟨nd, rfl⟩, Or.inr ⟨by omega, f18.1, f18.2.trans (by omega)⟩⟩
theorem ri_ok {P : si_P} {d : Nat} {h : si_H} (hH : az_HI P az_tb h) {n p : Int} {hh : Int → Int} (hn : 1 ≤ n ∧ n ≤ 240) (e8 : ja h 60 18 = n) (e7 : ja h 60 17 = p) (hb : jBR h n hh) (hh1 : ∀ i : Int, hh i ≤ 255) : az_X P (d + 3) 267 0 (lv_args 0 [.ref (P.1 + 60)]) [] h (fun rv h' => ∃ z : Int32, rv = some (.int z) ∧ az_HI P az_tb h' ∧ az_same_out [(60, 17), (60, 19), (60, 20)] h h' ∧ ∃ f q v : Int, jTI hh (ja h 60 9) p f q v ∧ ((f = 0 ∧ z.toInt = 1 ∧ ja h' 60 17 = q ∧ ja h' 60 20 = v) ∨ (f ≠ 0 ∧ z.toInt = 0 ∧ ja h' 60 19 = f))) := by
  have bp : 0 ≤ ja h 60 17 ∧ ja h 60 17 ≤ 240 := ja_bd hH (i := 60) (k := 17) rfl
  have hl : jM [(0, .ref (P.1 + 60))] (lv_args 0 [.ref (P.1 + 60)]) := jM_args [0] rfl (by decide)
  generalize lv_args 0 [.ref (P.1 + 60)] = ls at hl
  have k0 : (0 : Int32).toInt = 0 := by decide
  have k1 : (1 : Int32).toInt = 1 := by decide
  have k3 : (3 : Int32).toInt = 3 := by decide
  have k4 : (4 : Int32).toInt = 4 := by decide
  have k64 : (64 : Int32).toInt = 64 := by decide
  refine jm_aload_n (x := P.1 + 60) rfl rfl (jM_at hl 0 rfl) ?_
  refine az_X_step (pc' := 3) (ls' := ls) (st' := [.int 64, .ref (P.1 + 60)]) (h' := h) rfl rfl rfl ?_
  refine az_X_call (m' := 243) (as := [.ref (P.1 + 60), .int 64]) (rest := []) rfl rfl rfl rfl rfl ?_ ?_
  · unfold si_call
    dsimp only
    rw [if_pos ⟨rfl, rfl⟩]
    show (match si_ix P h (P.1 + 60) with | some i => _ | none => none) = _
    rw [jix hH (by decide)]
    dsimp only
    rw [(hH.2 60 _ rfl).1]
    rfl
  refine (rt_ok hH hn e8 e7 hb 64 (by decide)).mono ?_
  rintro rv3 h3 ⟨z3, rfl, hH3, hs3, f3⟩
  show az_X P _ 267 6 ls [.int z3] _ _
  refine jx_if (t := 11) rfl rfl rfl (fun hc6 => ?_) (fun hc6 => ?_)
  · have g6 := jc1_ne_t hc6
    
    refine jm_aload_n (x := P.1 + 60) rfl rfl (jM_at hl 0 rfl) ?_
    refine jn_gf (i := 60) (k := 17) rfl rfl hH3 (by decide) (hH3.2 60 _ rfl).1 rfl rfl (fun z12 (ez12 : z12.toInt = ja h3 60 17) (bz12 : 0 ≤ z12.toInt ∧ z12.toInt ≤ 240) => ?_)
    refine jm_istore_n (l' := [(1, .int z12), (0, .ref (P.1 + 60))]) rfl rfl (by decide) hl rfl rfl (fun ls15 hl15 => ?_)
    
    refine jm_aload_n (x := P.1 + 60) rfl rfl (jM_at hl15 1 rfl) ?_
    refine az_X_step (pc' := 18) (ls' := ls15) (st' := [.int 4, .ref (P.1 + 60)]) (h' := h3) rfl rfl rfl ?_
    refine az_X_call (m' := 266) (as := [.ref (P.1 + 60), .int 4]) (rest := []) rfl rfl rfl rfl rfl ?_ ?_
    · unfold si_call
      dsimp only
      rw [if_pos ⟨rfl, rfl⟩]
      show (match si_ix P h3 (P.1 + 60) with | some i => _ | none => none) = _
      rw [jix hH3 (by decide)]
      dsimp only
      rw [(hH3.2 60 _ rfl).1]
      rfl
    refine (ra_ok hH3 hn ((jso hs3 (by decide)).trans e8) rfl (jBR_so hs3 (by decide) hb) hh1 4 (by decide)).mono ?_
    rintro rv18 h18 ⟨z18, rfl, hH18, hs18, f18⟩
    show az_X P _ 267 21 ls15 [.int z18] _ _
    refine jx_if (t := 48) rfl rfl rfl (fun hc21 => ?_) (fun hc21 => ?_)
    · have g21 := jc1_eq_t hc21
      refine az_X_step (pc' := 49) (ls' := ls15) (st' := [.int 0]) (h' := h18) rfl rfl rfl ?_
      refine jx_retz rfl rfl rfl (by decide) ?_
      obtain ⟨f, q, v, a1, a2⟩ := f18
      rcases f3 with ⟨q1, q2, q3⟩ | ⟨-, q, -⟩
      · rcases a2 with ⟨-, b2, -⟩ | ⟨b1, b2, b3⟩
        · exact absurd g21 (by omega)
        · rw [q3] at a1
          exact ⟨0, rfl, hH18, (hs3.sub (by decide)).tr (hs18.sub (by decide)), f, q, v, Or.inr ⟨q1, f, a1, Or.inl ⟨b1, rfl⟩⟩, Or.inr ⟨b1, by decide, b3⟩⟩
      · exact absurd q g6
    · have g21 := jc1_eq_f hc21
      refine jm_aload_n (x := P.1 + 60) rfl rfl (jM_at hl15 1 rfl) ?_
      refine jn_gf (i := 60) (k := 20) rfl rfl hH18 (by decide) (hH18.2 60 _ rfl).1 rfl rfl (fun z25 (ez25 : z25.toInt = ja h18 60 20) (bz25 : 0 ≤ z25.toInt ∧ z25.toInt ≤ 99999) => ?_)
      refine jm_aload_n (x := P.1 + 60) rfl rfl (jM_at hl15 1 rfl) ?_
      refine jn_gf (i := 60) (k := 9) rfl rfl hH18 (by decide) (hH18.2 60 _ rfl).1 rfl rfl (fun z29 (ez29 : z29.toInt = ja h18 60 9) (bz29 : 8 ≤ z29.toInt ∧ z29.toInt ≤ 1440) => ?_)
      replace ez29 : z29.toInt = ja h 60 9 := ez29.trans ((jso hs18 (by decide)).trans (jso hs3 (by decide)))
      refine jx_ic (t := 44) rfl rfl rfl (fun hc32 => ?_) (fun hc32 => ?_)
      · have g32 := jc2_lt_t hc32
        refine az_X_step (pc' := 45) (ls' := ls15) (st' := [.int 1]) (h' := h18) rfl rfl rfl ?_
        refine az_X_step (pc' := 49) (ls' := ls15) (st' := [.int 1]) (h' := h18) rfl rfl rfl ?_
        refine jx_retz rfl rfl rfl (by decide) ?_
        obtain ⟨f, q, v, a1, a2⟩ := f18
        have r9 : ja h18 60 9 = ja h 60 9 := (jso hs18 (by decide)).trans (jso hs3 (by decide))
        rcases a2 with ⟨b1, b2, b3, b4⟩ | ⟨b1, b2, b3⟩
        · subst b1
          rcases f3 with ⟨q1, q2, q3⟩ | ⟨-, q, -⟩
          · rw [q3] at a1
            exact ⟨1, rfl, hH18, (hs3.sub (by decide)).tr (hs18.sub (by decide)), 0, q, v, Or.inr ⟨q1, 0, a1, Or.inr (Or.inr ⟨rfl, by omega, rfl⟩)⟩, Or.inl ⟨rfl, by decide, b3, b4⟩⟩
          · exact absurd q g6
        · exact absurd b2 g21
      · have g32 := jc2_lt_f hc32
        refine jm_aload_n (x := P.1 + 60) rfl rfl (jM_at hl15 1 rfl) ?_
        refine az_X_step (pc' := 37) (ls' := ls15) (st' := [.int 3, .ref (P.1 + 60)]) (h' := h18) rfl rfl rfl ?_
        refine jm_iload_n (x := z12) rfl rfl (jM_at hl15 0 rfl) ?_
        refine az_X_call (m' := 242) (as := [.ref (P.1 + 60), .int 3, .int z12]) (rest := []) rfl rfl rfl rfl rfl ?_ ?_
        · unfold si_call
          dsimp only
          rw [if_pos ⟨rfl, rfl⟩]
          show (match si_ix P h18 (P.1 + 60) with | some i => _ | none => none) = _
          rw [jix hH18 (by decide)]
          dsimp only
          rw [(hH18.2 60 _ rfl).1]
          rfl
        refine (rw_ok hH18 3 z12 (by decide) (by omega)).mono ?_
        rintro rv38 h38 ⟨z38, rfl, hH38, hs38, f38⟩
        show az_X P _ 267 41 ls15 [.int z38] _ _
        refine jx_if (t := 48) rfl rfl rfl (fun hc41 => ?_) (fun hc41 => ?_)
        · have g41 := jc1_eq_t hc41
          refine az_X_step (pc' := 49) (ls' := ls15) (st' := [.int 0]) (h' := h38) rfl rfl rfl ?_
          refine jx_retz rfl rfl rfl (by decide) ?_
          obtain ⟨f, q, v, a1, a2⟩ := f18
          have r9 : ja h18 60 9 = ja h 60 9 := (jso hs18 (by decide)).trans (jso hs3 (by decide))
          rcases a2 with ⟨b1, b2, b3, b4⟩ | ⟨b1, b2, b3⟩
          · subst b1
            rcases f3 with ⟨q1, q2, q3⟩ | ⟨-, q, -⟩
            · rw [q3] at a1
              exact ⟨0, rfl, hH38, ((hs3.sub (by decide)).tr (hs18.sub (by decide))).tr (hs38.sub (by decide)), -3000 - (p + 1), q, v, Or.inr ⟨q1, 0, a1, Or.inr (Or.inl ⟨rfl, by omega, rfl⟩)⟩, Or.inr ⟨by omega, by decide, f38.2.trans (by omega)⟩⟩
            · exact absurd q g6
          · exact absurd b2 g21
        · have g41 := jc1_eq_f hc41
          refine az_X_step (pc' := 45) (ls' := ls15) (st' := [.int 1]) (h' := h38) rfl rfl rfl ?_
          refine az_X_step (pc' := 49) (ls' := ls15) (st' := [.int 1]) (h' := h38) rfl rfl rfl ?_
          refine jx_retz rfl rfl rfl (by decide) ?_
          exfalso
          omega
  · have g6 := jc1_ne_f hc6
    refine az_X_step (pc' := 10) (ls' := ls) (st' := [.int 0]) (h' := h3) rfl rfl rfl ?_
    refine jx_retz rfl rfl rfl (by decide) ?_
    rcases f3 with ⟨-, q, -⟩ | ⟨q1, q2, q3⟩
    · exact absurd g6 (by omega)
    · exact ⟨0, rfl, hH3, hs3.sub (by decide), -1000 - p, 0, 0, Or.inl ⟨q1, rfl⟩, Or.inr ⟨by omega, by decide, q3⟩⟩
