/-! THE SMALL MACHINE: the methods' code run over a plain heap: cells base, base + 1 ..; a cell is an object (class, fields) or an array (type, length); contents by cell and place -/
abbrev si_S : Type := (Nat × Nat) ⊕ (FieldType × Nat)
/-- how many cells, their shapes, their contents -/
abbrev si_H : Type := Nat × (Nat → si_S) × (Nat → Nat → Value)
/-- base, the script's address, its length, its ints, the addresses of String constants -/
abbrev si_P : Type := Nat × Nat × Nat × (Nat → Int32) × (Nat → Nat)
abbrev si_L : Type := List (Nat × Value)
def si_set (c : Nat → Nat → Value) (i k : Nat) (v : Value) : Nat → Nat → Value := fun a b => if a = i then (if b = k then v else c a b) else c a b
def si_ld (k : Nat) : si_L → Option Value
  | [] => none
  | q :: r => if q.1 = k then some q.2 else si_ld k r
def si_st1 (ls : si_L) (i : Nat) (v : Value) : si_L := (i, v) :: ls.filter (fun q => !(q.1 == i) && !(q.1 + 1 == i && q.2.category == 2))
def si_st2 (ls : si_L) (i : Nat) (v : Value) : si_L := (i, v) :: ls.filter (fun q => !(q.1 == i) && (!(q.1 == i + 1) && !(q.1 + 1 == i && q.2.category == 2)))
def si_tgt (pc : Nat) (off : Int) : Option Nat := if 0 ≤ (pc : Int) + off then some ((pc : Int) + off).toNat else none
def si_c1 (k : ClassFile.Cond) (x : Int32) : Bool := match k with
  | .eq => decide (x = 0)
  | .ne => decide (¬ x = 0)
  | .lt => decide (x < 0)
  | .ge => decide (0 ≤ x)
  | .gt => decide (0 < x)
  | .le => decide (x ≤ 0)
def si_c2 (k : ClassFile.Cond) (x y : Int32) : Bool := match k with
  | .eq => decide (x = y)
  | .ne => decide (¬ x = y)
  | .lt => decide (x < y)
  | .ge => decide (y ≤ x)
  | .gt => decide (y < x)
  | .le => decide (x ≤ y)
/-- two-place operations: the upper one first -/
def si_bin (i : Instr) (y x : Value) : Option Value := match i, y, x with
  | .iadd, .int y, .int x => some (.int (x + y))
  | .isub, .int y, .int x => some (.int (x - y))
  | .imul, .int y, .int x => some (.int (x * y))
  | .iand, .int y, .int x => some (.int (x &&& y))
  | .ior, .int y, .int x => some (.int (x ||| y))
  | .ixor, .int y, .int x => some (.int (x ^^^ y))
  | .ishl, .int y, .int x => some (.int (x <<< (y &&& 31)))
  | .ishr, .int y, .int x => some (.int (x >>> (y &&& 31)))
  | .iushr, .int y, .int x => some (.int (x.toUInt32 >>> (y.toUInt32 &&& Int32.toUInt32 31)).toInt32)
  | .idiv, .int y, .int x => if y = 0 then none else some (.int (x / y))
  | .irem, .int y, .int x => if y = 0 then none else some (.int (x - x / y * y))
  | .ladd, .long y, .long x => some (.long (x + y))
  | .lcmp, .long y, .long x => some (.int (lg_cmp x y))
  | _, _, _ => none
def si_un (i : Instr) (x : Value) : Option Value := match i, x with
  | .ineg, .int x => some (.int (-x))
  | .i2b, .int x => some (.int x.toInt8.toInt32)
  | .i2c, .int x => some (.int (x.toUInt32 % 65536).toInt32)
  | .i2l, .int x => some (.long x.toInt64)
  | .l2i, .long x => some (.int x.toInt32)
  | _, _ => none
/-- constants -/
def si_con (P : si_P) (e : si_E) : Option Value := match e with
  | (.iconst n, 1, _) => some (.int (Int32.ofInt n))
  | (.bipush n, 2, _) => some (.int (Int8.ofInt n).toInt32)
  | (.sipush n, 3, _) => some (.int (Int16.ofInt n).toInt32)
  | (.lconst n, 1, _) => some (.long (Int64.ofNat (n : Nat)))
  | (.ldc _, 2, a, b, _) => if b = 0 then some (.int (Int32.ofNat a)) else some (.ref (P.2.2.2.2 a))
  | (.ldc_w _, 3, a, b, _) => if b = 0 then some (.int (Int32.ofNat a)) else none
  | (.ldc2_w _, 3, a, _) => some (.long (Int64.ofNat a))
  | _ => none
/-- loads: the local's place, and what is allowed there -/
def si_lod (e : si_E) : Option (Nat × Nat) := match e with
  | (.iload_n k, 1, _) => some (k, 0)
  | (.iload k, 2, _) => some (k, 0)
  | (.lload_n k, 1, _) => some (k, 1)
  | (.lload k, 2, _) => some (k, 1)
  | (.aload_n k, 1, _) => some (k, 2)
  | (.aload k, 2, _) => some (k, 2)
  | _ => none
def si_sto (e : si_E) : Option (Nat × Nat) := match e with
  | (.istore_n k, 1, _) => some (k, 0)
  | (.istore k, 2, _) => some (k, 0)
  | (.lstore_n k, 1, _) => some (k, 1)
  | (.lstore k, 2, _) => some (k, 1)
  | (.astore_n k, 1, _) => some (k, 2)
  | (.astore k, 2, _) => some (k, 2)
  | _ => none
def si_kd (v : Value) (k : Nat) : Bool := match v with
  | .int _ => k == 0
  | .long _ => k == 1
  | .ref _ => k == 2
  | _ => false
/-- a cell's number, if the address is one of ours -/
def si_ix (P : si_P) (h : si_H) (a : Nat) : Option Nat := if P.1 ≤ a ∧ a < P.1 + h.1 then some (a - P.1) else none
def si_in (x : Int32) (n : Nat) : Bool := decide (0 ≤ x) && decide (x.toNatClampNeg < n)
/-- a load from an array of ours -/
def si_ald (P : si_P) (h : si_H) (tys : List FieldType) (a : Nat) (x : Int32) : Option Value := match si_ix P h a with
  | some i => (match h.2.1 i with
    | .inr (ty, n) => if si_in x n = true ∧ ty ∈ tys then some (h.2.2 i x.toNatClampNeg) else none
    | _ => none)
  | none => none
def si_nar (ty : FieldType) (v : Value) : Value := match ty with
  | .byte => narrow .byte v
  | .boolean => narrow .boolean v
  | _ => v
def si_ast (P : si_P) (h : si_H) (tys : List FieldType) (a : Nat) (x : Int32) (v : Value) : Option si_H := match si_ix P h a with
  | some i => (match h.2.1 i with
    | .inr (ty, n) => if si_in x n = true ∧ ty ∈ tys then some (h.1, h.2.1, si_set h.2.2 i x.toNatClampNeg (si_nar ty v)) else none
    | _ => none)
  | none => none
def si_fty (ci k : Nat) : FieldType := match si_cl[ci]? with
  | some (_, T, _) => (parseFieldDescriptor (T k).2.2.1).getD .int
  | none => .int
def si_fin (ci k : Nat) : Bool := match si_cl[ci]? with
  | some (_, T, _) => (T k).2.2.2
  | none => true
/-- the steps that neither call, nor return, nor make -/
def si_step (P : si_P) (y : si_M) (pc : Nat) (e : si_E) (ls : si_L) (st : List Value) (h : si_H) : Option (Nat × si_L × List Value × si_H) := match e.1 with
  | .iconst _ | .bipush _ | .sipush _ | .lconst _ | .ldc _ | .ldc_w _ | .ldc2_w _ => (match si_con P e with
    | some v => some (pc + e.2.1, ls, v :: st, h)
    | none => none)
  | .iload_n _ | .iload _ | .lload_n _ | .lload _ | .aload_n _ | .aload _ => (match si_lod e with
    | some (k, t) => (match si_ld k ls with
      | some v => if si_kd v t = true then some (pc + e.2.1, ls, v :: st, h) else none
      | none => none)
    | none => none)
  | .istore_n _ | .istore _ | .lstore_n _ | .lstore _ | .astore_n _ | .astore _ => (match si_sto e, st with
    | some (k, t), v :: r => if si_kd v t = true ∧ k + v.category ≤ y.2.2.2.1 then some (pc + e.2.1, if v.category = 2 then si_st2 ls k v else si_st1 ls k v, r, h) else none
    | _, _ => none)
  | .iinc k n => if e.2.1 = 3 ∧ k < y.2.2.2.1 then (match si_ld k ls with
    | some (.int x) => some (pc + 3, si_st1 ls k (.int (x + Int32.ofInt n)), st, h)
    | _ => none) else none
  | .iadd | .isub | .imul | .iand | .ior | .ixor | .ishl | .ishr | .iushr | .idiv | .irem | .ladd | .lcmp => if e.2.1 = 1 then (match st with
    | v :: w :: r => (match si_bin e.1 v w with
      | some z => some (pc + 1, ls, z :: r, h)
      | none => none)
    | _ => none) else none
  | .ineg | .i2b | .i2c | .i2l | .l2i => if e.2.1 = 1 then (match st with
    | v :: r => (match si_un e.1 v with
      | some z => some (pc + 1, ls, z :: r, h)
      | none => none)
    | _ => none) else none
  | .pop => if e.2.1 = 1 then (match st with
    | v :: r => if v.category = 1 then some (pc + 1, ls, r, h) else none
    | _ => none) else none
  | .dup => if e.2.1 = 1 then (match st with
    | v :: r => if v.category = 1 then some (pc + 1, ls, v :: v :: r, h) else none
    | _ => none) else none
  | .ifCond k off => if e.2.1 = 3 then (match st, si_tgt pc off with
    | .int x :: r, some t => some (if si_c1 k x = true then t else pc + 3, ls, r, h)
    | _, _ => none) else none
  | .if_icmp k off => if e.2.1 = 3 then (match st, si_tgt pc off with
    | .int y :: .int x :: r, some t => some (if si_c2 k x y = true then t else pc + 3, ls, r, h)
    | _, _ => none) else none
  | .goto off => if e.2.1 = 3 then (match si_tgt pc off with
    | some t => some (t, ls, st, h)
    | none => none) else none
  | .tableswitch d lo hi offs => (match st with
    | .int x :: r => if x.toInt < lo ∨ hi < x.toInt then (match si_tgt pc d with
      | some t => some (t, ls, r, h)
      | none => none) else (match offs[(x.toInt - lo).toNat]? with
      | some off => (match si_tgt pc off with
        | some t => some (t, ls, r, h)
        | none => none)
      | none => none)
    | _ => none)
  | .lookupswitch d ps => if (ps.toList.zip (ps.toList.drop 1)).all (fun (a, next) => a.1 < next.1) = true then (match st with
    | .int x :: r => (match si_tgt pc (Op.lookupswitch.offset ps.toList d x.toInt) with
      | some t => some (t, ls, r, h)
      | none => none)
    | _ => none) else none
  | .getfield _ => if e.2.1 = 3 then (match st with
    | .ref a :: r => (match si_ix P h a with
      | some i => if h.2.1 i = .inl (e.2.2.1, ((si_cl[e.2.2.1]?).map (fun q => q.2.2)).getD 0) then some (pc + 3, ls, h.2.2 i e.2.2.2.1 :: r, h) else none
      | none => none)
    | _ => none) else none
  | .putfield _ => if e.2.1 = 3 then (match st with
    | v :: .ref a :: r => (match si_ix P h a with
      | some i => if h.2.1 i = .inl (e.2.2.1, ((si_cl[e.2.2.1]?).map (fun q => q.2.2)).getD 0) ∧ narrow (si_fty e.2.2.1 e.2.2.2.1) v = v ∧ fits (si_fty e.2.2.1 e.2.2.2.1) v = true ∧ (si_fin e.2.2.1 e.2.2.2.1 = false ∨ (y.2.2.2.2.2.1 = 2 ∧ y.1 = e.2.2.1)) then some (pc + 3, ls, r, (h.1, h.2.1, si_set h.2.2 i e.2.2.2.1 v)) else none
      | none => none)
    | _ => none) else none
  | .iaload => if e.2.1 = 1 then (match st with
    | .int x :: .ref a :: r => if a = P.2.1 then (if si_in x P.2.2.1 = true then some (pc + 1, ls, .int (P.2.2.2.1 x.toNatClampNeg) :: r, h) else none) else (match si_ald P h [.int] a x with
      | some v => some (pc + 1, ls, v :: r, h)
      | none => none)
    | _ => none) else none
  | .baload => if e.2.1 = 1 then (match st with
    | .int x :: .ref a :: r => (match si_ald P h [.byte, .boolean] a x with
      | some v => some (pc + 1, ls, v :: r, h)
      | none => none)
    | _ => none) else none
  | .laload => if e.2.1 = 1 then (match st with
    | .int x :: .ref a :: r => (match si_ald P h [.long] a x with
      | some v => some (pc + 1, ls, v :: r, h)
      | none => none)
    | _ => none) else none
  | .iastore => if e.2.1 = 1 then (match st with
    | .int v :: .int x :: .ref a :: r => (match si_ast P h [.int] a x (.int v) with
      | some h' => some (pc + 1, ls, r, h')
      | none => none)
    | _ => none) else none
  | .bastore => if e.2.1 = 1 then (match st with
    | .int v :: .int x :: .ref a :: r => (match si_ast P h [.byte, .boolean] a x (.int v) with
      | some h' => some (pc + 1, ls, r, h')
      | none => none)
    | _ => none) else none
  | .lastore => if e.2.1 = 1 then (match st with
    | .long v :: .int x :: .ref a :: r => (match si_ast P h [.long] a x (.long v) with
      | some h' => some (pc + 1, ls, r, h')
      | none => none)
    | _ => none) else none
  | .arraylength => if e.2.1 = 1 then (match st with
    | .ref a :: r => if a = P.2.1 then some (pc + 1, ls, .int (Int32.ofNat P.2.2.1) :: r, h) else (match si_ix P h a with
      | some i => (match h.2.1 i with
        | .inr (_, n) => some (pc + 1, ls, .int (Int32.ofNat n) :: r, h)
        | _ => none)
      | none => none)
    | _ => none) else none
  | _ => none
/-- what is new: an object's fields, an array's places -/
def si_dv (ty : FieldType) : Value := match ty with
  | .int | .boolean | .byte => .int 0
  | .long => .long 0
  | _ => .null
def si_make (P : si_P) (e : si_E) (st : List Value) (h : si_H) : Option (List Value × si_H) := match e.1 with
  | .new _ => if e.2.1 = 3 then (match si_cl[e.2.2.1]? with
    | some q => some (.ref (P.1 + h.1) :: st, (h.1 + 1, fun i => if i = h.1 then .inl (e.2.2.1, q.2.2) else h.2.1 i, fun i => if i = h.1 then (fun k => si_dv (si_fty e.2.2.1 k)) else h.2.2 i))
    | none => none) else none
  | .newarray t => if e.2.1 = 2 then (match st with
    | .int n :: r => if ¬ n < 0 ∧ n.toNatClampNeg ≤ 65536 ∧ newarray.typeOf t ∈ [FieldType.int, .long, .byte, .boolean] then some (.ref (P.1 + h.1) :: r, (h.1 + 1, fun i => if i = h.1 then .inr (newarray.typeOf t, n.toNatClampNeg) else h.2.1 i, fun i => if i = h.1 then (fun _ => si_dv (newarray.typeOf t)) else h.2.2 i)) else none
    | _ => none) else none
  | _ => none
def si_text (k : Nat) : List Int32 := if k = 2 then [103, 108, 115, 120] else [99, 97, 118, 107, 110, 111, 116, 119]
def si_find (c : Int32) : List Int32 → Int32 → Int32
  | [], _ => -1
  | x :: r, i => if x = c then i else si_find c r (i + 1)
def si_wide (st : List Value) : Bool := decide ((st.map fun v => v.category).sum ≤ 8)
/-- a call: whom, with what, and what stays -/
def si_call (P : si_P) (e : si_E) (st : List Value) (h : si_H) : Option (Nat × List Value × List Value) := match e.1 with
  | .invokevirtual _ => if e.2.1 = 3 ∧ e.2.2.2.1 = 0 then (match si_m e.2.2.1 with
    | some y => (match st.drop y.2.2.2.2.2.2.1 with
      | .ref a :: r => (match si_ix P h a with
        | some i => (match h.2.1 i with
          | .inl (ci, n) => if ci = y.1 ∧ y.2.2.2.2.2.1 = 0 ∧ n = ((si_cl[ci]?).map (fun q => q.2.2)).getD 0 ∧ si_wide r = true ∧ (lg_sl (.ref a :: (st.take y.2.2.2.2.2.2.1).reverse)).length ≤ y.2.2.2.1 then some (e.2.2.1, .ref a :: (st.take y.2.2.2.2.2.2.1).reverse, r) else none
          | _ => none)
        | none => none)
      | _ => none)
    | none => none) else none
  | .invokestatic _ => if e.2.1 = 3 then (match si_m e.2.2.1 with
    | some y => if y.2.2.2.2.2.2.1 ≤ st.length ∧ y.2.2.2.2.2.1 = 1 ∧ y.1 ≠ 12 ∧ si_wide (st.drop y.2.2.2.2.2.2.1) = true ∧ (lg_sl (st.take y.2.2.2.2.2.2.1).reverse).length ≤ y.2.2.2.1 then some (e.2.2.1, (st.take y.2.2.2.2.2.2.1).reverse, st.drop y.2.2.2.2.2.2.1) else none
    | none => none) else none
  | .invokespecial _ => if e.2.1 = 3 ∧ e.2.2.2.1 ≤ 1 then (match si_m e.2.2.1 with
    | some y => (match st.drop y.2.2.2.2.2.2.1 with
      | .ref a :: r => if y.2.2.2.2.2.1 = 2 ∧ y.1 ≠ 12 ∧ si_wide r = true ∧ (lg_sl (.ref a :: (st.take y.2.2.2.2.2.2.1).reverse)).length ≤ y.2.2.2.1 then some (e.2.2.1, .ref a :: (st.take y.2.2.2.2.2.2.1).reverse, r) else none
      | _ => none)
    | none => none) else none
  | _ => none
/-- the calls that are laws of their own: String.indexOf, String.length, Object.<init> -/
def si_prim (P : si_P) (e : si_E) (st : List Value) : Option (List Value) := match e.1 with
  | .invokevirtual _ => if e.2.1 = 3 then (match e.2.2.2.1, st with
    | 7, .int c :: .ref a :: r => if si_wide r = true then (if a = P.2.2.2.2 1 then some (.int (si_find c (si_text 1) 0) :: r) else if a = P.2.2.2.2 2 then some (.int (si_find c (si_text 2) 0) :: r) else none) else none
    | 8, .ref a :: r => if a = P.2.2.2.2 3 ∧ si_wide r = true then some (.int 8 :: r) else none
    | _, _ => none) else none
  | .invokespecial _ => if e.2.1 = 3 ∧ e.2.2.2.1 = 9 then (match st with
    | .ref _ :: r => if si_wide r = true then some r else none
    | _ => none) else none
  | _ => none
def si_ret (y : si_M) (e : si_E) (st : List Value) : Option (Option Value) := match e.1, st with
  | .ireturn, [.int x] => (match y.2.2.2.2.1 with
    | some ty => if e.2.1 = 1 ∧ narrow ty (.int x) = .int x then some (some (.int x)) else none
    | none => none)
  | .lreturn, [.long x] => if e.2.1 = 1 ∧ y.2.2.2.2.1 = some .long then some (some (.long x)) else none
  | .return_, [] => if e.2.1 = 1 ∧ y.2.2.2.2.1 = none then some none else none
  | _, _ => none
/-- the run of a method from a place on, of at most n steps, calls at most d deep -/
def si_run (P : si_P) : Nat → Nat → Nat → Nat → si_L → List Value → si_H → Option (Option Value × si_H)
  | 0, _, _, _, _, _, _ => none
  | n + 1, d, m, pc, ls, st, h => match si_m m, si_fetch m pc with
    | some y, some e => (match si_step P y pc e ls st h with
      | some (pc', ls', st', h') => si_run P n d m pc' ls' st' h'
      | none => (match si_ret y e st with
        | some r => some (r, h)
        | none => (match si_make P e st h with
          | some (st', h') => si_run P n d m (pc + e.2.1) ls st' h'
          | none => (match d with
            | 0 => none
            | d + 1 => (match si_call P e st h with
              | some (m', as, r) => (match si_run P n d m' 0 (lv_args 0 as) [] h with
                | some (some v, h') => si_run P n (d + 1) m (pc + 3) ls (v :: r) h'
                | some (none, h') => si_run P n (d + 1) m (pc + 3) ls r h'
                | none => none)
              | none => (match si_prim P e st with
                | some st' => if 8 ≤ d then si_run P n (d + 1) m (pc + 3) ls st' h else none
                | none => none))))))
    | _, _ => none
