/-! THE CHECKER, 6: one step -/
abbrev az_K : Type := az_C × Nat × az_Ls × List az_V
def az_addR (C : az_C) (q : az_R) : az_C := (C.1, C.2.1, C.2.2.1, q :: C.2.2.2)
def az_tget (C : az_C) (i : Nat) (I : az_L) : Option az_R := C.2.2.2.find? (fun q => decide (q.1 = i) && az_same q.2.1 I)
def az_rd (C : az_C) (i : Nat) (I : az_L) (lo hi : Int) : az_C × az_L := match az_tget C i I with
  | some q => (C, q.2.2)
  | none => (az_addR (az_new C (lo, hi)) (i, I, az_v C.1.length), az_v C.1.length)
def az_keep (C : az_C) (i : Nat) (I : az_L) (q : az_R) : Bool := decide (q.1 ≠ i) || az_p1 C.1 C.2.1 (az_plus (az_sub I q.2.1) (-1)) || az_p1 C.1 C.2.1 (az_plus (az_sub q.2.1 I) (-1))
def az_tset (C : az_C) (i : Nat) (I : az_L) (v : Option az_L) : az_C := (C.1, C.2.1, C.2.2.1, match v with
  | some a => (i, I, a) :: C.2.2.2.filter (az_keep C i I)
  | none => C.2.2.2.filter (az_keep C i I))
def az_takes (C : az_C) : List az_L → Option az_C
  | [] => some C
  | a :: r => match az_take C a with
    | some D => az_takes D r
    | none => none
def az_neg (a : az_L) : az_L := az_scl (-1) a
def az_ne (C : az_C) (sp : Bool) (d : az_L) : List (List az_L) := if az_p1 C.1 C.2.1 d then [[az_plus d (-1)]] else if az_p1 C.1 C.2.1 (az_neg d) then [[az_plus (az_neg d) (-1)]] else if sp then [[az_plus d (-1)], [az_plus (az_neg d) (-1)]] else [[]]
def az_yes (C : az_C) (sp : Bool) (k : ClassFile.Cond) (d : az_L) : List (List az_L) := match k with
  | .eq => [[d, az_neg d]]
  | .ne => az_ne C sp d
  | .lt => [[az_plus (az_neg d) (-1)]]
  | .ge => [[d]]
  | .gt => [[az_plus d (-1)]]
  | .le => [[az_neg d]]
def az_no (C : az_C) (sp : Bool) (k : ClassFile.Cond) (d : az_L) : List (List az_L) := match k with
  | .eq => az_ne C sp d
  | .ne => [[d, az_neg d]]
  | .lt => [[d]]
  | .ge => [[az_plus (az_neg d) (-1)]]
  | .gt => [[az_neg d]]
  | .le => [[az_plus d (-1)]]
def az_alt (C : az_C) (pc : Nat) (aL : az_Ls) (aS : List az_V) (fs : List (List az_L)) : List az_K := fs.filterMap (fun f => (az_takes C f).map (fun D => (D, pc, aL, aS)))
def az_one (r : az_C × az_L) (pc : Nat) (aL : az_Ls) (aS : List az_V) : Option (List az_K) := some [(r.1, pc, aL, .inl r.2 :: aS)]
def az_i32 (k : Int) : Bool := decide (-2147483648 ≤ k) && decide (k ≤ 2147483647)
def az_tsw (C : az_C) (pc : Nat) (d : az_L) (lo : Int) (aL : az_Ls) (aS : List az_V) : Nat → List Int → Option (List az_K)
  | _, [] => some []
  | j, off :: r => match si_tgt pc off, az_tsw C pc d lo aL aS (j + 1) r with
    | some t, some l => some (az_alt C t aL aS [[az_plus d (-(lo + j)), az_plus (az_neg d) (lo + j)]] ++ l)
    | _, _ => none
def az_lsw (C : az_C) (pc : Nat) (d : az_L) (aL : az_Ls) (aS : List az_V) : List (Int × Int) → Option (List az_K)
  | [] => some []
  | q :: r => match si_tgt pc q.2, az_lsw C pc d aL aS r with
    | some t, some l => some (az_alt C t aL aS [[az_plus d (-q.1), az_plus (az_neg d) q.1]] ++ l)
    | _, _ => none
/-- a difference that may leave the ints, way by way -/
def az_spq (sp : Bool) (i : Instr) : Bool := sp && (match i with
  | .isub => true
  | _ => false)
def az_sp2 (C : az_C) (a : az_L) (pc : Nat) (aL : az_Ls) (r : List az_V) : List az_K := [([az_plus a 2147483648, az_plus (az_neg a) 2147483647], a), ([az_plus (az_neg a) (-2147483649)], az_plus a 4294967296), ([az_plus a (-2147483648)], az_plus a (-4294967296))].filterMap (fun q => (az_takes C q.1).map (fun D => (D, pc, aL, .inl q.2 :: r)))
/-- none of the keys -/
def az_lsd (x : az_L) : List (Int × Int) → az_C → Option az_C
  | [], C => some C
  | q :: r, C => match az_ne C false (az_plus x (-q.1)) with
    | f :: _ => (match az_takes C f with
      | some D => az_lsd x r D
      | none => none)
    | [] => some C
/-- an index within an array -/
def az_idx (C : az_C) (I : az_L) (n : Int) : Bool := az_p2 C.1 C.2.1 I && az_p2 C.1 C.2.1 (az_plus (az_neg I) (n - 1))
def az_btw (C : az_C) (a : az_L) (lo hi : Int) : Bool := az_p2 C.1 C.2.1 (az_plus a (-lo)) && az_p2 C.1 C.2.1 (az_plus (az_neg a) hi)
def az_step (tb : List az_B) (md : List (Nat × Nat)) (sp : Bool) (mL pc : Nat) (e : si_E) (C : az_C) (aL : az_Ls) (aS : List az_V) : Option (List az_K) := match e.1 with
  | .iconst n => if e.2.1 = 1 ∧ az_i32 n = true then az_one (C, az_c n) (pc + 1) aL aS else none
  | .bipush n => if e.2.1 = 2 ∧ -128 ≤ n ∧ n ≤ 127 then az_one (C, az_c n) (pc + 2) aL aS else none
  | .sipush n => if e.2.1 = 3 ∧ -32768 ≤ n ∧ n ≤ 32767 then az_one (C, az_c n) (pc + 3) aL aS else none
  | .lconst _ => if e.2.1 = 1 then some [(C, pc + 1, aL, .inr (.inl ()) :: aS)] else none
  | .ldc _ => if e.2.1 = 2 then (if e.2.2.2.1 = 0 then (if e.2.2.1 ≤ 2147483647 then az_one (C, az_c e.2.2.1) (pc + 2) aL aS else none) else if e.2.2.1 ≠ 0 then some [(C, pc + 2, aL, .inr (.inr (.inr e.2.2.1)) :: aS)] else none) else none
  | .ldc_w _ => if e.2.1 = 3 ∧ e.2.2.2.1 = 0 ∧ e.2.2.1 ≤ 2147483647 then az_one (C, az_c e.2.2.1) (pc + 3) aL aS else none
  | .ldc2_w _ => if e.2.1 = 3 then some [(C, pc + 3, aL, .inr (.inl ()) :: aS)] else none
  | .iload_n _ | .iload _ | .lload_n _ | .lload _ | .aload_n _ | .aload _ => (match si_lod e with
    | some (k, t) => (match az_ld k aL with
      | some v => if az_kd v t = true then some [(C, pc + e.2.1, aL, v :: aS)] else none
      | none => none)
    | none => none)
  | .istore_n _ | .istore _ | .lstore_n _ | .lstore _ | .astore_n _ | .astore _ => (match si_sto e, aS with
    | some (k, t), v :: r => if az_kd v t = true ∧ k + az_cat v ≤ mL then some [(C, pc + e.2.1, if az_cat v = 2 then az_st2 aL k v else az_st1 aL k v, r)] else none
    | _, _ => none)
  | .iinc k n => if e.2.1 = 3 ∧ k < mL ∧ az_i32 n = true then (match az_ld k aL with
    | some (.inl a) => (match az_val C (az_plus a n) with
      | (D, b) => some [(D, pc + 3, az_st1 aL k (.inl b), aS)])
    | _ => none) else none
  | .iadd | .isub | .imul | .iand | .ior | .ixor | .ishl | .ishr | .iushr | .idiv | .irem => if e.2.1 = 1 then (match aS with
    | .inl y :: .inl x :: r => if az_spq sp e.1 = true then some (az_sp2 C (az_sub x y) (pc + 1) aL r) else (match az_bin e.1 C y x with
      | some q => az_one q (pc + 1) aL r
      | none => none)
    | _ => none) else none
  | .ladd => if e.2.1 = 1 then (match aS with
    | .inr (.inl _) :: .inr (.inl _) :: r => some [(C, pc + 1, aL, .inr (.inl ()) :: r)]
    | _ => none) else none
  | .lcmp => if e.2.1 = 1 then (match aS with
    | .inr (.inl _) :: .inr (.inl _) :: r => az_one (az_fr C (-1) 1) (pc + 1) aL r
    | _ => none) else none
  | .ineg => if e.2.1 = 1 then (match aS with
    | .inl x :: r => az_one (az_val C (az_neg x)) (pc + 1) aL r
    | _ => none) else none
  | .i2b => if e.2.1 = 1 then (match aS with
    | .inl x :: r => az_one (if az_ge C.1 (az_plus x 128) 0 && az_ge C.1 (az_plus (az_neg x) 127) 0 then (C, x) else az_fr C (-128) 127) (pc + 1) aL r
    | _ => none) else none
  | .i2c => if e.2.1 = 1 then (match aS with
    | .inl x :: r => az_one (if az_ge C.1 x 0 && az_ge C.1 (az_plus (az_neg x) 65535) 0 then (C, x) else az_fr C 0 65535) (pc + 1) aL r
    | _ => none) else none
  | .i2l => if e.2.1 = 1 then (match aS with
    | .inl _ :: r => some [(C, pc + 1, aL, .inr (.inl ()) :: r)]
    | _ => none) else none
  | .l2i => if e.2.1 = 1 then (match aS with
    | .inr (.inl _) :: r => az_one (az_top C) (pc + 1) aL r
    | _ => none) else none
  | .pop => if e.2.1 = 1 then (match aS with
    | v :: r => if az_cat v = 1 then some [(C, pc + 1, aL, r)] else none
    | _ => none) else none
  | .dup => if e.2.1 = 1 then (match aS with
    | v :: r => if az_cat v = 1 then some [(C, pc + 1, aL, v :: v :: r)] else none
    | _ => none) else none
  | .ifCond k off => if e.2.1 = 3 then (match aS, si_tgt pc off with
    | .inl x :: r, some t => some (az_alt C t aL r (az_yes C sp k x) ++ az_alt C (pc + 3) aL r (az_no C sp k x))
    | _, _ => none) else none
  | .if_icmp k off => if e.2.1 = 3 then (match aS, si_tgt pc off with
    | .inl y :: .inl x :: r, some t => some (az_alt C t aL r (az_yes C sp k (az_sub x y)) ++ az_alt C (pc + 3) aL r (az_no C sp k (az_sub x y)))
    | _, _ => none) else none
  | .goto off => if e.2.1 = 3 then (match si_tgt pc off with
    | some t => some [(C, t, aL, aS)]
    | none => none) else none
  | .tableswitch d lo hi offs => (match aS, si_tgt pc d with
    | .inl x :: r, some t => if hi - lo + 1 = offs.size then (match az_tsw C pc x lo aL r 0 offs.toList with
      | some l => some (az_alt C t aL r [[az_plus (az_neg x) (lo - 1)], [az_plus x (-hi - 1)]] ++ l)
      | none => none) else none
    | _, _ => none)
  | .lookupswitch d ps => if (ps.toList.zip (ps.toList.drop 1)).all (fun (a, next) => a.1 < next.1) = true then (match aS, si_tgt pc d with
    | .inl x :: r, some t => (match az_lsw C pc x aL r ps.toList with
      | some l => some (((az_lsd x ps.toList C).toList.map (fun D => (D, t, aL, r))) ++ l)
      | none => none)
    | _, _ => none) else none
  | .getfield _ => if e.2.1 = 3 then (match aS with
    | .inr (.inr (.inl i)) :: r => (match tb[i]? with
      | some (.inl o) => if o.1 = e.2.2.1 then (match o.2[e.2.2.2.1]? with
        | some (.inl b) => az_one (az_rd C i (az_c e.2.2.2.1) b.2.1 b.2.2) (pc + 3) aL r
        | some (.inr cs) => some (cs.map (fun j => (C, pc + 3, aL, .inr (.inr (.inl j)) :: r)))
        | none => none) else none
      | _ => none)
    | _ => none) else none
  | .putfield _ => if e.2.1 = 3 then (match aS with
    | v :: .inr (.inr (.inl i)) :: r => (match tb[i]? with
      | some (.inl o) => if o.1 = e.2.2.1 ∧ si_fin e.2.2.1 e.2.2.2.1 = false ∧ md.contains (i, e.2.2.2.1) = true then (match o.2[e.2.2.2.1]?, v with
        | some (.inl b), .inl a => if az_btw C a b.2.1 b.2.2 = true then some [(az_tset C i (az_c e.2.2.2.1) (some a), pc + 3, aL, r)] else none
        | some (.inr cs), .inr (.inr (.inl j)) => if cs.contains j = true then some [(az_tset C i (az_c e.2.2.2.1) none, pc + 3, aL, r)] else none
        | _, _ => none) else none
      | _ => none)
    | _ => none) else none
  | .iaload => if e.2.1 = 1 then (match aS with
    | .inl I :: .inr (.inr (.inl i)) :: r => (match tb[i]? with
      | some (.inr b) => if b.1 = .int ∧ az_idx C I b.2.1 = true then az_one (az_rd C i I b.2.2.1 b.2.2.2) (pc + 1) aL r else none
      | _ => none)
    | .inl I :: .inr (.inr (.inr k)) :: r => if k = 0 ∧ az_p2 C.1 C.2.1 I = true then (match C.2.2.2.find? (fun q => decide (q.1 = 1000000)) with
      | some q => if az_p2 C.1 C.2.1 (az_plus (az_sub q.2.2 I) (-1)) = true then az_one (az_top C) (pc + 1) aL r else none
      | none => none) else none
    | _ => none) else none
  | .baload => if e.2.1 = 1 then (match aS with
    | .inl I :: .inr (.inr (.inl i)) :: r => (match tb[i]? with
      | some (.inr b) => if (b.1 = .byte ∨ b.1 = .boolean) ∧ az_idx C I b.2.1 = true then az_one (az_rd C i I b.2.2.1 b.2.2.2) (pc + 1) aL r else none
      | _ => none)
    | _ => none) else none
  | .laload => if e.2.1 = 1 then (match aS with
    | .inl I :: .inr (.inr (.inl i)) :: r => (match tb[i]? with
      | some (.inr b) => if b.1 = .long ∧ az_idx C I b.2.1 = true then some [(C, pc + 1, aL, .inr (.inl ()) :: r)] else none
      | _ => none)
    | _ => none) else none
  | .iastore => if e.2.1 = 1 then (match aS with
    | .inl a :: .inl I :: .inr (.inr (.inl i)) :: r => (match tb[i]? with
      | some (.inr b) => if b.1 = .int ∧ az_idx C I b.2.1 = true ∧ az_btw C a b.2.2.1 b.2.2.2 = true ∧ md.contains (i, 1000000) = true then some [(az_tset C i I (some a), pc + 1, aL, r)] else none
      | _ => none)
    | _ => none) else none
  | .bastore => if e.2.1 = 1 then (match aS with
    | .inl _ :: .inl I :: .inr (.inr (.inl i)) :: r => (match tb[i]? with
      | some (.inr b) => if (b.1 = .byte ∨ b.1 = .boolean) ∧ az_idx C I b.2.1 = true ∧ md.contains (i, 1000000) = true then some [(az_tset C i I none, pc + 1, aL, r)] else none
      | _ => none)
    | _ => none) else none
  | .lastore => if e.2.1 = 1 then (match aS with
    | .inr (.inl _) :: .inl I :: .inr (.inr (.inl i)) :: r => (match tb[i]? with
      | some (.inr b) => if b.1 = .long ∧ az_idx C I b.2.1 = true ∧ md.contains (i, 1000000) = true then some [(az_tset C i I none, pc + 1, aL, r)] else none
      | _ => none)
    | _ => none) else none
  | .arraylength => if e.2.1 = 1 then (match aS with
    | .inr (.inr (.inl i)) :: r => (match tb[i]? with
      | some (.inr b) => if b.2.1 ≤ 65536 then az_one (C, az_c b.2.1) (pc + 1) aL r else none
      | _ => none)
    | .inr (.inr (.inr k)) :: r => if k = 0 then (match C.2.2.2.find? (fun q => decide (q.1 = 1000000)) with
      | some q => if az_p2 C.1 C.2.1 (az_plus (az_neg q.2.2) 65536) = true then az_one (C, q.2.2) (pc + 1) aL r else none
      | none => none) else none
    | _ => none) else none
  | _ => none
